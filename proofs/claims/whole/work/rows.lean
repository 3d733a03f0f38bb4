section
-- ===== PART A: goes FIRST, ahead of the names: the tables' words, and 'selects' of the private methods out of them =====
/-- a private method of a class that the tables say can be made, by its rows of tables_1 -/
def lw_okq (q : MethodName × Nat) : Prop := (q.1.cls ≠ "java/lang/invoke/MethodHandle" ∧ q.1.cls ≠ "java/lang/invoke/VarHandle") ∧ Cond.instantiable q.1.cls q.2 ∈ tables_1 ∧ Cond.privateMethod q.1 ∈ tables_1 ∧ Cond.instanceMethod q.1 ∈ tables_1
theorem lw_p0 : lw_okq (⟨"NetShapes$Water", "makeRoomAt", "(I)V"⟩, 6) := ⟨⟨by decide +kernel, by decide +kernel⟩, List.mem_of_getElem? (i := 93) (by decide +kernel), List.mem_of_getElem? (i := 291) (by decide +kernel), List.mem_of_getElem? (i := 292) (by decide +kernel)⟩
theorem lw_p1 : lw_okq (⟨"NetShapes$Balance", "measure", "(I)D"⟩, 7) := ⟨⟨by decide +kernel, by decide +kernel⟩, List.mem_of_getElem? (i := 124) (by decide +kernel), List.mem_of_getElem? (i := 307) (by decide +kernel), List.mem_of_getElem? (i := 308) (by decide +kernel)⟩
theorem lw_p2 : lw_okq (⟨"NetShapes$Balance", "tighten", "(ID)V"⟩, 7) := ⟨⟨by decide +kernel, by decide +kernel⟩, List.mem_of_getElem? (i := 124) (by decide +kernel), List.mem_of_getElem? (i := 318) (by decide +kernel), List.mem_of_getElem? (i := 319) (by decide +kernel)⟩
theorem lw_p3 : lw_okq (⟨"NetShapes$Balance", "wash", "(ID)V"⟩, 7) := ⟨⟨by decide +kernel, by decide +kernel⟩, List.mem_of_getElem? (i := 124) (by decide +kernel), List.mem_of_getElem? (i := 323) (by decide +kernel), List.mem_of_getElem? (i := 324) (by decide +kernel)⟩
theorem lw_p4 : lw_okq (⟨"NetShapes$Balance", "findFlowAcross", "(ID)V"⟩, 7) := ⟨⟨by decide +kernel, by decide +kernel⟩, List.mem_of_getElem? (i := 124) (by decide +kernel), List.mem_of_getElem? (i := 327) (by decide +kernel), List.mem_of_getElem? (i := 328) (by decide +kernel)⟩
theorem lw_p5 : lw_okq (⟨"NetShapes$Water", "speedOfRows", "([DDI)D"⟩, 6) := ⟨⟨by decide +kernel, by decide +kernel⟩, List.mem_of_getElem? (i := 93) (by decide +kernel), List.mem_of_getElem? (i := 337) (by decide +kernel), List.mem_of_getElem? (i := 338) (by decide +kernel)⟩
theorem lw_p6 : lw_okq (⟨"NetShapes$Panels", "lay", "(I)V"⟩, 9) := ⟨⟨by decide +kernel, by decide +kernel⟩, List.mem_of_getElem? (i := 171) (by decide +kernel), List.mem_of_getElem? (i := 422) (by decide +kernel), List.mem_of_getElem? (i := 423) (by decide +kernel)⟩
theorem lw_p7 : lw_okq (⟨"NetShapes$Fuels", "backwards", "(I)D"⟩, 3) := ⟨⟨by decide +kernel, by decide +kernel⟩, List.mem_of_getElem? (i := 155) (by decide +kernel), List.mem_of_getElem? (i := 478) (by decide +kernel), List.mem_of_getElem? (i := 479) (by decide +kernel)⟩
theorem lw_p8 : lw_okq (⟨"NetShapesModel", "isNode", "(I)Z"⟩, 31) := ⟨⟨by decide +kernel, by decide +kernel⟩, List.mem_of_getElem? (i := 489) (by decide +kernel), List.mem_of_getElem? (i := 603) (by decide +kernel), List.mem_of_getElem? (i := 604) (by decide +kernel)⟩
theorem lw_p9 : lw_okq (⟨"NetShapesModel", "forces", "()V"⟩, 31) := ⟨⟨by decide +kernel, by decide +kernel⟩, List.mem_of_getElem? (i := 489) (by decide +kernel), List.mem_of_getElem? (i := 647) (by decide +kernel), List.mem_of_getElem? (i := 648) (by decide +kernel)⟩
theorem lw_p10 : lw_okq (⟨"NetShapesModel", "speed", "(DZ)D"⟩, 31) := ⟨⟨by decide +kernel, by decide +kernel⟩, List.mem_of_getElem? (i := 489) (by decide +kernel), List.mem_of_getElem? (i := 656) (by decide +kernel), List.mem_of_getElem? (i := 657) (by decide +kernel)⟩
theorem lw_p11 : lw_okq (⟨"NetShapesModel", "isPanel", "(I)Z"⟩, 31) := ⟨⟨by decide +kernel, by decide +kernel⟩, List.mem_of_getElem? (i := 489) (by decide +kernel), List.mem_of_getElem? (i := 724) (by decide +kernel), List.mem_of_getElem? (i := 725) (by decide +kernel)⟩
theorem lw_p12 : lw_okq (⟨"NetShapesModel", "meshes", "(II)I"⟩, 31) := ⟨⟨by decide +kernel, by decide +kernel⟩, List.mem_of_getElem? (i := 489) (by decide +kernel), List.mem_of_getElem? (i := 728) (by decide +kernel), List.mem_of_getElem? (i := 729) (by decide +kernel)⟩
def lw_privs_1 : List (MethodName × Nat) := [(⟨"NetShapes$Water", "makeRoomAt", "(I)V"⟩, 6), (⟨"NetShapes$Balance", "measure", "(I)D"⟩, 7), (⟨"NetShapes$Balance", "tighten", "(ID)V"⟩, 7), (⟨"NetShapes$Balance", "wash", "(ID)V"⟩, 7), (⟨"NetShapes$Balance", "findFlowAcross", "(ID)V"⟩, 7), (⟨"NetShapes$Water", "speedOfRows", "([DDI)D"⟩, 6), (⟨"NetShapes$Panels", "lay", "(I)V"⟩, 9), (⟨"NetShapes$Fuels", "backwards", "(I)D"⟩, 3), (⟨"NetShapesModel", "isNode", "(I)Z"⟩, 31), (⟨"NetShapesModel", "forces", "()V"⟩, 31), (⟨"NetShapesModel", "speed", "(DZ)D"⟩, 31), (⟨"NetShapesModel", "isPanel", "(I)Z"⟩, 31), (⟨"NetShapesModel", "meshes", "(II)I"⟩, 31)]
theorem lw_r1 : ∀ q ∈ lw_privs_1, lw_okq q := List.forall_mem_cons.mpr ⟨lw_p0, List.forall_mem_cons.mpr ⟨lw_p1, List.forall_mem_cons.mpr ⟨lw_p2, List.forall_mem_cons.mpr ⟨lw_p3, List.forall_mem_cons.mpr ⟨lw_p4, List.forall_mem_cons.mpr ⟨lw_p5, List.forall_mem_cons.mpr ⟨lw_p6, List.forall_mem_cons.mpr ⟨lw_p7, List.forall_mem_cons.mpr ⟨lw_p8, List.forall_mem_cons.mpr ⟨lw_p9, List.forall_mem_cons.mpr ⟨lw_p10, List.forall_mem_cons.mpr ⟨lw_p11, List.forall_mem_cons.mpr ⟨lw_p12, fun _ h => absurd h List.not_mem_nil⟩⟩⟩⟩⟩⟩⟩⟩⟩⟩⟩⟩⟩
def lw_privs : List (MethodName × Nat) := lw_privs_1
def lw_tbl : List Cond := k2_sels lw_privs ++ tables_1
theorem lw_privs_ok : ∀ q ∈ lw_privs, lw_okq q := lw_r1
-- ===== end of PART A; then your names; then what follows =====
end
section
/-! ===== BEGIN words of one list among another's, by their places ===== -/
theorem goodIn_r {big : List Cond} (ws : List Cond) (ps : List Nat) (hp : ws = ps.filterMap (fun i => big[i]?)) (h : ws.all goodWord = true) : GoodIn big ws := by
  intro w hw
  have h1 := List.all_eq_true.mp h w hw
  rw [hp] at hw
  obtain ⟨i, -, hi⟩ := List.mem_filterMap.mp hw
  have hm : w ∈ big := by first | exact List.mem_of_getElem? hi | exact List.getElem?_mem hi
  exact ⟨hm, good_of_word h1⟩
theorem goodIn_app {big a b : List Cond} (ha : GoodIn big a) (hb : GoodIn big b) : GoodIn big (a ++ b) := fun w h => (List.mem_append.mp h).elim (ha w) (hb w)
theorem goodIn_ca {big a b : List Cond} {c : Cond} (ha : GoodIn big (c :: a)) (hb : GoodIn big b) : GoodIn big (c :: (a ++ b)) := fun w h => (List.mem_cons.mp h).elim (fun e => ha w (List.mem_cons.mpr (Or.inl e))) (fun h => (List.mem_append.mp h).elim (fun h => ha w (List.mem_cons.mpr (Or.inr h))) (hb w))
theorem goodIn_sub {big ws : List Cond} (hm : ∀ w ∈ ws, w ∈ big) (h : ws.all goodWord = true) : GoodIn big ws := fun w hw => ⟨hm w hw, good_of_word (List.all_eq_true.mp h w hw)⟩
/-! ===== END ===== -/

/-! ===== BEGIN new T[n][m]: the outer array a place, the inner ones among the pooled ===== -/
/-- f, but v at every address of l -/
def vr_up {α : Type} (f : Nat → α) (l : List Nat) (v : α) : Nat → α := fun a => if a ∈ l then v else f a
theorem vr_up_in {α : Type} {f : Nat → α} {l : List Nat} {v : α} {a : Nat} (h : a ∈ l) : vr_up f l v a = v := if_pos h
theorem vr_up_ne {α : Type} {f : Nat → α} {l : List Nat} {v : α} {a : Nat} (h : a ∉ l) : vr_up f l v a = f a := if_neg h
theorem vr_rows {L l : List Nat} {f : Nat → va_E} {e : va_E} (h : ∀ a, a ∈ l → a ∉ L) : va_pl L f ++ l.map (fun a => (a, e)) = va_pl (L ++ l) (vr_up f l e) := by
  unfold va_pl
  rw [List.map_append]
  congr 1
  · apply List.map_congr_left
    intro a ha
    rw [vr_up_ne (fun q => h a q ha)]
  · apply List.map_congr_left
    intro a ha
    rw [vr_up_in ha]
theorem vr_lay {X rows : va_W} {x : Nat × va_E} {pl : va_W} {D : va_G} {cl : List vw_C} {H : Heap} (hP : va_P D cl (((X ++ pl) ++ [x]) ++ rows) H) : va_P D cl ((X ++ [x]) ++ (pl ++ rows)) H := by
  rw [List.append_assoc (X ++ pl)] at hP
  have h := va_P.swap hP
  rw [← List.append_assoc X] at h
  have h2 := va_P.swap h
  rw [List.append_assoc (X ++ [x])] at h2
  exact h2
theorem vr_layD {X rows : va_W} {x : Nat × va_E} {pl : va_W} {A : Nat → Prop} (hD : va_D A (((X ++ pl) ++ [x]) ++ rows)) : va_D A ((X ++ [x]) ++ (pl ++ rows)) := by
  rw [List.append_assoc (X ++ pl)] at hD
  have h := va_D.swap hD
  rw [← List.append_assoc X] at h
  have h2 := va_D.swap h
  rw [List.append_assoc (X ++ [x])] at h2
  exact h2
theorem vr_outer (c : ClassId) (N h0 : Nat) : ∀ i : Nat, Jvm.Free.Multi.outerC c N h0 i = arrV c N (fun j => va_rf (if j < i then some (h0 + 1 + j) else none))
  | 0 => by
    show ({ cls := c, slots := Array.replicate N .null, vm := .none } : Cell) = _
    rw [arrV_new]
    refine congrArg (arrV c N) (funext fun j => ?_)
    simp [va_rf]
  | i + 1 => by
    show (Jvm.Free.Multi.outerC c N h0 i).setSlot i (.ref (h0 + 1 + i)) = _
    rw [vr_outer c N h0 i, arrV_store]
    refine congrArg (arrV c N) (funext fun j => ?_)
    by_cases e : j = i
    · subst e
      simp [updV, va_rf]
    · by_cases h : j < i
      · simp [updV, e, h, Nat.lt_succ_of_lt h]
      · simp [updV, e, h, show ¬ j < i + 1 by omega]
/-- the class of arrays over arrays of ty is there -/
def va_AOA (ty : FieldType) (U : State) : Prop := (Cond.arrayOver (.array ty)).before #[] U = true
theorem va_AOA.use {ty : FieldType} {A : Array Value} {U : State} (h : va_AOA ty U) : (Cond.arrayOver (.array ty)).before A U = true := h
section VGM
variable {p : Program} {l : Launch} {e : Env} {R : Room} {s : State} {m : MethodId} {args : Array Value} {below : List Frame} {meth : Method} {c : Code} {H : Heap} {locs : List Loc} {cells slots : Nat} {Q : State → Prop}
variable {cc : ByteArray} {pc : Nat} {ls : Array Slot} {rest : List Value} {D : va_G} {cl : List vw_C} {A : Nat → Prop} {a : Nat} {tys : List (ClassId × FieldType)} {ws : va_W} {H0 : Heap}
theorem va_mna {X : va_W} {L : List Nat} {f : Nat → va_E} {cc : ByteArray} (hexec : p.tables.exec = Jvm.exec) (hb : c.code = cc) {own : String} {index : Nat} {ty : FieldType} {cy : ClassId} (hown : s.vm.findClass own = some m.cls) (hclink : (Cond.classLink own index ("[" ++ (FieldType.array ty).toString)).before args s = true) (hover : va_AOA ty s) (harr : (Cond.arrayClass ty).before args s = true) (hcy : s.vm.findClass (FieldType.array ty).toString = some cy)
    (hK : va_K D cl tys s) (hP : va_P D cl (X ++ va_pl L f) H) (hD : va_D A (X ++ va_pl L f)) (hS : va_S A H0 H locs) (hA : ∀ q, H0.size ≤ q → A q) {n k : Int32} {N' K' : Nat} {z : vp_A} (hn : ¬ n < 0) (hk : ¬ k < 0) (hN : n.toNatClampNeg = N') (hM : k.toNatClampNeg = K')
    (hb1 : N' * 4 ≤ 536870912) (hb2 : K' * componentBytes ty ≤ 536870912) (hb3 : K' ≤ 536870912) (hdf : fits ty (defaultValue ty) = true) (hdd : (defaultValue ty).isDefault = true) (hcells : cells + (1 + N') ≤ R.cells) (hslots : slots + (N' + N' * K') ≤ R.slots) (hz : ∀ c : ClassId, Jvm.Free.Multi.innerC c K' (defaultValue ty) = vp_cell c z) (hdg : decode cc pc = .ok (.multianewarray index 2, 4))
    (kk : ∀ (q : Nat) (r : Nat → Nat) (cA : ClassId) (H1 : Heap), (∀ i j : Nat, i < N' → j < N' → r i = r j → i = j) → (∀ i : Nat, i < N' → r i ∉ L) → va_K D cl (tys ++ [(cA, .array ty)]) s →
      va_P D cl ((X ++ [(q, .inl (cA, N', .inr (.inr (.inr (.inr (fun i => if i < N' then some (r i) else none))))))]) ++ va_pl (L ++ (List.range N').map r) (vr_up f ((List.range N').map r) (.inl (cy, z)))) H1 → va_D A ((X ++ [(q, .inl (cA, N', .inr (.inr (.inr (.inr (fun i => if i < N' then some (r i) else none))))))]) ++ va_pl (L ++ (List.range N').map r) (vr_up f ((List.range N').map r) (.inl (cy, z)))) → va_S A H0 H1 locs →
      W p l e R s m args below meth c H1 locs (cells + 1 + N') (slots + N' + N' * K') Q (F0 m (pc + 4) ls (.ref q :: rest))) : W p l e R s m args below meth c H locs cells slots Q (F0 m pc ls (.int k :: .int n :: rest)) := by
  subst hN
  subst hM
  intro T hT Xs
  obtain ⟨vm₁, cA, comp, -, fA, fC, hO, -, X', step⟩ := Xs.multianewarray2F hexec hown hclink (va_AOA.use hover) harr (g := F0 m pc ls (.int k :: .int n :: rest)) rfl (by rw [hb]; exact hdg) rfl hn hk hb1 hb2 hb3 hdf hdd hcells hslots
  have ec : some cy = some comp := hcy.symm.trans fC
  cases ec
  generalize hF : Jvm.Free.Multi.fill (T.setVm vm₁) cA cy n.toNatClampNeg k.toNatClampNeg (defaultValue ty) n.toNatClampNeg = F at X' step
  have hTh : (T.setVm vm₁).heap = H := hT
  obtain ⟨f1, f2, -, -⟩ := Jvm.Free.Multi.fill_facts (T.setVm vm₁) cA cy n.toNatClampNeg k.toNatClampNeg (defaultValue ty) n.toNatClampNeg
  rw [hF, hTh] at f1 f2
  have hold : ∀ x : Nat, x < H.size → F.heap[x]? = H[x]? := fun x hx => by
    have := Jvm.Free.Multi.fill_old (T.setVm vm₁) cA cy n.toNatClampNeg k.toNatClampNeg (defaultValue ty) (a := x) (by rw [hTh]; exact hx) n.toNatClampNeg
    rw [hF, hTh] at this
    exact this
  have hrow : ∀ j : Nat, j < n.toNatClampNeg → F.heap[H.size + 1 + j]? = some (vp_cell cy z) := fun j hj => by
    have := Jvm.Free.Multi.fill_inner (T.setVm vm₁) cA cy n.toNatClampNeg k.toNatClampNeg (defaultValue ty) n.toNatClampNeg j hj
    rw [hF, hTh, hz] at this
    exact this
  have hout : Jvm.Free.Multi.outerC cA n.toNatClampNeg H.size n.toNatClampNeg = vp_cell cA (n.toNatClampNeg, .inr (.inr (.inr (.inr (fun i => if i < n.toNatClampNeg then some (H.size + 1 + i) else none))))) := by
    rw [vp_cell_q]
    exact vr_outer cA n.toNatClampNeg H.size n.toNatClampNeg
  rw [hout] at f2
  have hlt : ∀ a, a ∈ L → a < H.size := fun a ha => by
    obtain ⟨k9, hk9⟩ := va_pl_get (X := X) (f := f) ha
    exact (hP k9 _ hk9).lt
  have hnl : ∀ i : Nat, i < n.toNatClampNeg → H.size + 1 + i ∉ L := fun i _ h => by
    have := hlt _ h
    omega
  have hnm : ∀ a, a ∈ (List.range n.toNatClampNeg).map (fun i => H.size + 1 + i) → a ∉ L := fun a ha h => by
    obtain ⟨i, -, rfl⟩ := List.mem_map.mp ha
    have := hlt _ h
    omega
  have hP0 : va_P D cl (X ++ va_pl L f) F.heap := hP.kept (fun k9 x hx => hold x.1 ((hP k9 x hx).lt))
  have hP1 : va_P D cl ((X ++ va_pl L f) ++ [(H.size, .inl (cA, n.toNatClampNeg, .inr (.inr (.inr (.inr (fun i => if i < n.toNatClampNeg then some (H.size + 1 + i) else none))))))]) F.heap := hP0.app (fun k9 x hx => by
    have h0 : k9 < 1 := (List.getElem?_eq_some_iff.mp hx).1
    rw [show k9 = 0 by omega] at hx
    cases hx
    exact f2)
  have hP2 : va_P D cl (((X ++ va_pl L f) ++ [(H.size, .inl (cA, n.toNatClampNeg, .inr (.inr (.inr (.inr (fun i => if i < n.toNatClampNeg then some (H.size + 1 + i) else none))))))]) ++ ((List.range n.toNatClampNeg).map (fun i => H.size + 1 + i)).map (fun a => (a, .inl (cy, z)))) F.heap := hP1.app (fun k9 x hx => by
    obtain ⟨a, ha, rfl⟩ := List.mem_map.mp (List.mem_of_getElem? hx)
    obtain ⟨i, hi, rfl⟩ := List.mem_map.mp ha
    exact hrow i (List.mem_range.mp hi))
  have hD2 : va_D A (((X ++ va_pl L f) ++ [(H.size, .inl (cA, n.toNatClampNeg, .inr (.inr (.inr (.inr (fun i => if i < n.toNatClampNeg then some (H.size + 1 + i) else none))))))]) ++ ((List.range n.toNatClampNeg).map (fun i => H.size + 1 + i)).map (fun a => (a, .inl (cy, z)))) := by
    have hD1 := hD.push (e := .inl (cA, n.toNatClampNeg, .inr (.inr (.inr (.inr (fun i => if i < n.toNatClampNeg then some (H.size + 1 + i) else none)))))) hP rfl (hA _ hS.1)
    generalize hW1 : (X ++ va_pl L f) ++ [(H.size, .inl (cA, n.toNatClampNeg, .inr (.inr (.inr (.inr (fun i => if i < n.toNatClampNeg then some (H.size + 1 + i) else none))))))] = W1 at hD1 hP1 ⊢
    have hle : ∀ (k9 : Nat) (x : Nat × va_E), W1[k9]? = some x → x.1 ≤ H.size := fun k9 x hx => by
      rw [← hW1] at hx
      by_cases hl : k9 < (X ++ va_pl L f).length
      · rw [List.getElem?_append_left hl] at hx
        exact Nat.le_of_lt ((hP k9 x hx).lt)
      · rw [List.getElem?_append_right (by omega)] at hx
        have h0 : k9 - (X ++ va_pl L f).length < 1 := (List.getElem?_eq_some_iff.mp hx).1
        rw [show k9 - (X ++ va_pl L f).length = 0 by omega] at hx
        cases hx
        exact Nat.le_refl _
    have hr : ∀ (k9 : Nat) (x : Nat × va_E), (((List.range n.toNatClampNeg).map (fun i => H.size + 1 + i)).map (fun a => ((a, .inl (cy, z)) : Nat × va_E)))[k9]? = some x → x.1 = H.size + 1 + k9 := fun k9 x hx => by
      rw [List.getElem?_map, List.getElem?_map] at hx
      by_cases h9 : k9 < n.toNatClampNeg
      · rw [List.getElem?_range h9] at hx
        cases hx
        rfl
      · have hn0 : (List.range n.toNatClampNeg)[k9]? = none := List.getElem?_eq_none (by rw [List.length_range]; omega)
        rw [hn0] at hx
        cases hx
    refine ⟨fun i j x y hi hj hxy => ?_, fun k9 x hx => ?_⟩
    · by_cases h1 : i < W1.length <;> by_cases h2 : j < W1.length
      · rw [List.getElem?_append_left h1] at hi
        rw [List.getElem?_append_left h2] at hj
        exact hD1.1 i j x y hi hj hxy
      · rw [List.getElem?_append_left h1] at hi
        rw [List.getElem?_append_right (by omega)] at hj
        have := hle _ _ hi
        have := hr _ _ hj
        omega
      · rw [List.getElem?_append_right (by omega)] at hi
        rw [List.getElem?_append_left h2] at hj
        have := hle _ _ hj
        have := hr _ _ hi
        omega
      · rw [List.getElem?_append_right (by omega)] at hi hj
        have := hr _ _ hi
        have := hr _ _ hj
        omega
    · by_cases h1 : k9 < W1.length
      · rw [List.getElem?_append_left h1] at hx
        exact hD1.2 k9 x hx
      · rw [List.getElem?_append_right (by omega)] at hx
        have := hr _ _ hx
        exact hA _ (by have := hS.1; omega)
  have hAr : ArrOfT s cA (.array ty) := fun N9 z9 => by
    obtain ⟨-, k9, hk9, cm9, hkk9⟩ := (hO 0 0 0).1
    exact ⟨(fun q hq => by cases hq), k9, hk9, cm9, hkk9⟩
  have hK2 : va_K D cl (tys ++ [(cA, .array ty)]) s := ⟨hK.1, fun k9 x hx => by
    by_cases hl : k9 < tys.length
    · rw [List.getElem?_append_left hl] at hx
      exact hK.2 k9 x hx
    · rw [List.getElem?_append_right (by omega)] at hx
      have h0 : k9 - tys.length < 1 := (List.getElem?_eq_some_iff.mp hx).1
      rw [show k9 - tys.length = 0 by omega] at hx
      cases hx
      exact ⟨hAr, fA⟩⟩
  obtain ⟨t, a1, b1⟩ := kk H.size (fun i => H.size + 1 + i) cA F.heap (fun i j _ _ h => by have h9 : H.size + 1 + i = H.size + 1 + j := h; omega) hnl hK2 (by rw [← vr_rows hnm]; exact vr_lay hP2) (by rw [← vr_rows hnm]; exact vr_layD hD2) ⟨by rw [f1]; have := hS.1; omega, fun x h1 h2 => (hold x (Nat.lt_of_lt_of_le h1 hS.1)).trans (hS.2.1 x h1 h2), hS.2.2⟩ F rfl X'
  refine ⟨t, step t ?_, b1⟩
  have e : T.heap.size = H.size := by rw [hT]
  rw [e]
  exact a1
end VGM
/-! ===== END ===== -/

/-! ===== BEGIN printed: names, fields, word lists, decode rows ===== -/
def RX0 : String := "NetShapes$Balance"
def TX0 : u_T := fun k => match k with
  | 0 => ("NetShapes$Balance", "nodes", "LNetShapes$Nodes;", true)
  | 1 => ("NetShapes$Balance", "bars", "LNetShapes$Bars;", true)
  | 2 => ("NetShapes$Balance", "water", "LNetShapes$Water;", true)
  | 3 => ("NetShapes$Balance", "drags", "[D", true)
  | 4 => ("NetShapes$Balance", "greatestForce", "D", false)
  | 5 => ("NetShapes$Balance", "span", "[D", true)
  | _ => ("NetShapes$Balance", "acrossFlow", "[D", true)
def tyX0 : Nat → FieldType := fun k => match k with
  | 0 => .object "NetShapes$Nodes"
  | 1 => .object "NetShapes$Bars"
  | 2 => .object "NetShapes$Water"
  | 3 => .array .double
  | 4 => .double
  | 5 => .array .double
  | _ => .array .double
abbrev wsX00 : List Cond := u_ws RX0 TX0 7
theorem nmX0 : ∀ a, a < 7 → ∀ b, b < 7 → a ≠ b → (TX0 a).2.1 ≠ (TX0 b).2.1 := by decide +kernel
theorem tyX0_ok : ∀ k, k < 7 → parseFieldDescriptor (TX0 k).2.2.1 = some (tyX0 k) := by decide +kernel
abbrev cX0_init : ByteArray := prog_2_method_1_code
def yX0_init : MethodName := ⟨RX0, "<init>", "(LNetShapes$Nodes;LNetShapes$Bars;LNetShapes$Water;)V"⟩
abbrev cX0_comesInRound : ByteArray := prog_2_method_2_code
def yX0_comesInRound : MethodName := ⟨RX0, "comesInRound", "()Z"⟩
abbrev cX0_measure : ByteArray := prog_2_method_3_code
def yX0_measure : MethodName := ⟨RX0, "measure", "(I)D"⟩
abbrev cX0_lengthOf : ByteArray := prog_2_method_4_code
def yX0_lengthOf : MethodName := ⟨RX0, "lengthOf", "([D)D"⟩
abbrev cX0_tighten : ByteArray := prog_2_method_5_code
def yX0_tighten : MethodName := ⟨RX0, "tighten", "(ID)V"⟩
abbrev cX0_wash : ByteArray := prog_2_method_6_code
def yX0_wash : MethodName := ⟨RX0, "wash", "(ID)V"⟩
abbrev cX0_findFlowAcross : ByteArray := prog_2_method_7_code
def yX0_findFlowAcross : MethodName := ⟨RX0, "findFlowAcross", "(ID)V"⟩
def RX1 : String := "NetShapes$Bars"
def TX1 : u_T := fun k => match k with
  | 0 => ("NetShapes$Bars", "from", "[I", true)
  | 1 => ("NetShapes$Bars", "to", "[I", true)
  | 2 => ("NetShapes$Bars", "length", "[D", true)
  | 3 => ("NetShapes$Bars", "width", "[D", true)
  | 4 => ("NetShapes$Bars", "strength", "[D", true)
  | 5 => ("NetShapes$Bars", "pulls", "[D", true)
  | _ => ("NetShapes$Bars", "count", "I", false)
def tyX1 : Nat → FieldType := fun k => match k with
  | 0 => .array .int
  | 1 => .array .int
  | 2 => .array .double
  | 3 => .array .double
  | 4 => .array .double
  | 5 => .array .double
  | _ => .int
abbrev wsX10 : List Cond := u_ws RX1 TX1 7
theorem nmX1 : ∀ a, a < 7 → ∀ b, b < 7 → a ≠ b → (TX1 a).2.1 ≠ (TX1 b).2.1 := by decide +kernel
theorem tyX1_ok : ∀ k, k < 7 → parseFieldDescriptor (TX1 k).2.2.1 = some (tyX1 k) := by decide +kernel
abbrev cX1_init : ByteArray := prog_3_method_1_code
def yX1_init : MethodName := ⟨RX1, "<init>", "()V"⟩
abbrev cX1_has : ByteArray := prog_3_method_2_code
def yX1_has : MethodName := ⟨RX1, "has", "(I)Z"⟩
abbrev cX1_add : ByteArray := prog_3_method_3_code
def yX1_add : MethodName := ⟨RX1, "add", "(IIDDD)I"⟩
abbrev cX1_overloaded : ByteArray := prog_3_method_4_code
def yX1_overloaded : MethodName := ⟨RX1, "overloaded", "(I)I"⟩
def RX2 : String := "NetShapes$Fuels"
def TX2 : u_T := fun k => match k with
  | 0 => ("NetShapes$Fuels", "kept", "[D", true)
  | 1 => ("NetShapes$Fuels", "count", "I", false)
  | _ => ("NetShapes$Fuels", "next", "I", false)
def tyX2 : Nat → FieldType := fun k => match k with
  | 0 => .array .double
  | 1 => .int
  | _ => .int
abbrev wsX20 : List Cond := u_ws RX2 TX2 3
theorem nmX2 : ∀ a, a < 3 → ∀ b, b < 3 → a ≠ b → (TX2 a).2.1 ≠ (TX2 b).2.1 := by decide +kernel
theorem tyX2_ok : ∀ k, k < 3 → parseFieldDescriptor (TX2 k).2.2.1 = some (tyX2 k) := by decide +kernel
abbrev cX2_init : ByteArray := prog_4_method_1_code
def yX2_init : MethodName := ⟨RX2, "<init>", "()V"⟩
abbrev cX2_add : ByteArray := prog_4_method_2_code
def yX2_add : MethodName := ⟨RX2, "add", "(D)V"⟩
abbrev cX2_leastOfLatest : ByteArray := prog_4_method_3_code
def yX2_leastOfLatest : MethodName := ⟨RX2, "leastOfLatest", "(I)I"⟩
abbrev cX2_backwards : ByteArray := prog_4_method_4_code
def yX2_backwards : MethodName := ⟨RX2, "backwards", "(I)D"⟩
def RX3 : String := "NetShapes$Nodes"
def TX3 : u_T := fun k => match k with
  | 0 => ("NetShapes$Nodes", "places", "[[D", true)
  | 1 => ("NetShapes$Nodes", "forces", "[[D", true)
  | 2 => ("NetShapes$Nodes", "lift", "[D", true)
  | 3 => ("NetShapes$Nodes", "load", "[D", true)
  | 4 => ("NetShapes$Nodes", "fixed", "[Z", true)
  | _ => ("NetShapes$Nodes", "count", "I", false)
def tyX3 : Nat → FieldType := fun k => match k with
  | 0 => .array (.array .double)
  | 1 => .array (.array .double)
  | 2 => .array .double
  | 3 => .array .double
  | 4 => .array .boolean
  | _ => .int
abbrev wsX30 : List Cond := u_ws RX3 TX3 6
theorem nmX3 : ∀ a, a < 6 → ∀ b, b < 6 → a ≠ b → (TX3 a).2.1 ≠ (TX3 b).2.1 := by decide +kernel
theorem tyX3_ok : ∀ k, k < 6 → parseFieldDescriptor (TX3 k).2.2.1 = some (tyX3 k) := by decide +kernel
abbrev cX3_init : ByteArray := prog_5_method_1_code
def yX3_init : MethodName := ⟨RX3, "<init>", "()V"⟩
abbrev cX3_has : ByteArray := prog_5_method_2_code
def yX3_has : MethodName := ⟨RX3, "has", "(I)Z"⟩
abbrev cX3_add : ByteArray := prog_5_method_3_code
def yX3_add : MethodName := ⟨RX3, "add", "(DDD)I"⟩
abbrev cX3_startForces : ByteArray := prog_5_method_4_code
def yX3_startForces : MethodName := ⟨RX3, "startForces", "()V"⟩
abbrev cX3_greatestForce : ByteArray := prog_5_method_5_code
def yX3_greatestForce : MethodName := ⟨RX3, "greatestForce", "()D"⟩
abbrev cX3_giveWay : ByteArray := prog_5_method_6_code
def yX3_giveWay : MethodName := ⟨RX3, "giveWay", "()V"⟩
abbrev cX3_stepFor : ByteArray := prog_5_method_7_code
def yX3_stepFor : MethodName := ⟨RX3, "stepFor", "(D)D"⟩
abbrev cX3_spread : ByteArray := prog_5_method_8_code
def yX3_spread : MethodName := ⟨RX3, "spread", "(I)D"⟩
abbrev cX3_hasMirrorImage : ByteArray := prog_5_method_9_code
def yX3_hasMirrorImage : MethodName := ⟨RX3, "hasMirrorImage", "(I)Z"⟩
def RX4 : String := "NetShapes$Panels"
def TX4 : u_T := fun k => match k with
  | 0 => ("NetShapes$Panels", "top", "[I", true)
  | 1 => ("NetShapes$Panels", "bottom", "[I", true)
  | 2 => ("NetShapes$Panels", "deep", "[I", true)
  | 3 => ("NetShapes$Panels", "across", "[I", true)
  | 4 => ("NetShapes$Panels", "down", "[I", true)
  | 5 => ("NetShapes$Panels", "count", "I", false)
  | 6 => ("NetShapes$Panels", "shelfUsed", "I", false)
  | 7 => ("NetShapes$Panels", "shelfStart", "I", false)
  | _ => ("NetShapes$Panels", "shelfDeep", "I", false)
def tyX4 : Nat → FieldType := fun k => match k with
  | 0 => .array .int
  | 1 => .array .int
  | 2 => .array .int
  | 3 => .array .int
  | 4 => .array .int
  | 5 => .int
  | 6 => .int
  | 7 => .int
  | _ => .int
abbrev wsX40 : List Cond := u_ws RX4 TX4 9
theorem nmX4 : ∀ a, a < 9 → ∀ b, b < 9 → a ≠ b → (TX4 a).2.1 ≠ (TX4 b).2.1 := by decide +kernel
theorem tyX4_ok : ∀ k, k < 9 → parseFieldDescriptor (TX4 k).2.2.1 = some (tyX4 k) := by decide +kernel
abbrev cX4_init : ByteArray := prog_6_method_1_code
def yX4_init : MethodName := ⟨RX4, "<init>", "()V"⟩
abbrev cX4_has : ByteArray := prog_6_method_2_code
def yX4_has : MethodName := ⟨RX4, "has", "(I)Z"⟩
abbrev cX4_add : ByteArray := prog_6_method_3_code
def yX4_add : MethodName := ⟨RX4, "add", "(III)I"⟩
abbrev cX4_lay : ByteArray := prog_6_method_4_code
def yX4_lay : MethodName := ⟨RX4, "lay", "(I)V"⟩
abbrev cX4_meshesAfter : ByteArray := prog_6_method_5_code
def yX4_meshesAfter : MethodName := ⟨RX4, "meshesAfter", "(II)I"⟩
def RX5 : String := "NetShapes$Water"
def TX5 : u_T := fun k => match k with
  | 0 => ("NetShapes$Water", "depths", "[D", true)
  | 1 => ("NetShapes$Water", "towardsX", "[D", true)
  | 2 => ("NetShapes$Water", "towardsY", "[D", true)
  | 3 => ("NetShapes$Water", "count", "I", false)
  | 4 => ("NetShapes$Water", "waveShare", "D", false)
  | _ => ("NetShapes$Water", "foulShare", "D", false)
def tyX5 : Nat → FieldType := fun k => match k with
  | 0 => .array .double
  | 1 => .array .double
  | 2 => .array .double
  | 3 => .int
  | 4 => .double
  | _ => .double
abbrev wsX50 : List Cond := u_ws RX5 TX5 6
theorem nmX5 : ∀ a, a < 6 → ∀ b, b < 6 → a ≠ b → (TX5 a).2.1 ≠ (TX5 b).2.1 := by decide +kernel
theorem tyX5_ok : ∀ k, k < 6 → parseFieldDescriptor (TX5 k).2.2.1 = some (tyX5 k) := by decide +kernel
abbrev cX5_init : ByteArray := prog_7_method_1_code
def yX5_init : MethodName := ⟨RX5, "<init>", "()V"⟩
abbrev cX5_tell : ByteArray := prog_7_method_2_code
def yX5_tell : MethodName := ⟨RX5, "tell", "(DDD)Z"⟩
abbrev cX5_makeRoomAt : ByteArray := prog_7_method_3_code
def yX5_makeRoomAt : MethodName := ⟨RX5, "makeRoomAt", "(I)V"⟩
abbrev cX5_rowAtOrAbove : ByteArray := prog_7_method_4_code
def yX5_rowAtOrAbove : MethodName := ⟨RX5, "rowAtOrAbove", "(D)I"⟩
abbrev cX5_speedAt : ByteArray := prog_7_method_5_code
def yX5_speedAt : MethodName := ⟨RX5, "speedAt", "([DDI)D"⟩
abbrev cX5_speedOfRows : ByteArray := prog_7_method_6_code
def yX5_speedOfRows : MethodName := ⟨RX5, "speedOfRows", "([DDI)D"⟩
def RX6 : String := "NetShapes"
def TX6 : u_T := fun k => match k with
  | 0 => ("NetShapes", "nodes", "LNetShapes$Nodes;", true)
  | 1 => ("NetShapes", "bars", "LNetShapes$Bars;", true)
  | 2 => ("NetShapes", "water", "LNetShapes$Water;", true)
  | 3 => ("NetShapes", "balance", "LNetShapes$Balance;", true)
  | 4 => ("NetShapes", "fuels", "LNetShapes$Fuels;", true)
  | _ => ("NetShapes", "panels", "LNetShapes$Panels;", true)
def tyX6 : Nat → FieldType := fun k => match k with
  | 0 => .object "NetShapes$Nodes"
  | 1 => .object "NetShapes$Bars"
  | 2 => .object "NetShapes$Water"
  | 3 => .object "NetShapes$Balance"
  | 4 => .object "NetShapes$Fuels"
  | _ => .object "NetShapes$Panels"
abbrev wsX60 : List Cond := u_ws RX6 TX6 6
theorem nmX6 : ∀ a, a < 6 → ∀ b, b < 6 → a ≠ b → (TX6 a).2.1 ≠ (TX6 b).2.1 := by decide +kernel
theorem tyX6_ok : ∀ k, k < 6 → parseFieldDescriptor (TX6 k).2.2.1 = some (tyX6 k) := by decide +kernel
abbrev cX6_init : ByteArray := prog_1_method_1_code
def yX6_init : MethodName := ⟨RX6, "<init>", "()V"⟩
abbrev cX6_node : ByteArray := prog_1_method_2_code
def yX6_node : MethodName := ⟨RX6, "node", "(DDD)I"⟩
abbrev cX6_bar : ByteArray := prog_1_method_3_code
def yX6_bar : MethodName := ⟨RX6, "bar", "(IIDDD)I"⟩
abbrev cX6_fix : ByteArray := prog_1_method_4_code
def yX6_fix : MethodName := ⟨RX6, "fix", "(I)Z"⟩
abbrev cX6_floats : ByteArray := prog_1_method_5_code
def yX6_floats : MethodName := ⟨RX6, "floats", "(ID)Z"⟩
abbrev cX6_current : ByteArray := prog_1_method_6_code
def yX6_current : MethodName := ⟨RX6, "current", "(DDD)Z"⟩
abbrev cX6_run : ByteArray := prog_1_method_7_code
def yX6_run : MethodName := ⟨RX6, "run", "(I)I"⟩
abbrev cX6_at : ByteArray := prog_1_method_8_code
def yX6_at : MethodName := ⟨RX6, "at", "(II)D"⟩
abbrev cX6_pull : ByteArray := prog_1_method_9_code
def yX6_pull : MethodName := ⟨RX6, "pull", "(I)D"⟩
abbrev cX6_residual : ByteArray := prog_1_method_10_code
def yX6_residual : MethodName := ⟨RX6, "residual", "()D"⟩
abbrev cX6_drag : ByteArray := prog_1_method_11_code
def yX6_drag : MethodName := ⟨RX6, "drag", "(I)D"⟩
abbrev cX6_over : ByteArray := prog_1_method_12_code
def yX6_over : MethodName := ⟨RX6, "over", "(I)I"⟩
abbrev cX6_open : ByteArray := prog_1_method_13_code
def yX6_open : MethodName := ⟨RX6, "open", "(I)D"⟩
abbrev cX6_catchAt : ByteArray := prog_1_method_14_code
def yX6_catchAt : MethodName := ⟨RX6, "catchAt", "(ID)Z"⟩
abbrev cX6_panel : ByteArray := prog_1_method_15_code
def yX6_panel : MethodName := ⟨RX6, "panel", "(III)I"⟩
abbrev cX6_cut : ByteArray := prog_1_method_16_code
def yX6_cut : MethodName := ⟨RX6, "cut", "(III)I"⟩
abbrev cX6_whole : ByteArray := prog_1_method_17_code
def yX6_whole : MethodName := ⟨RX6, "whole", "(I)Z"⟩
abbrev cX6_edge : ByteArray := prog_1_method_18_code
def yX6_edge : MethodName := ⟨RX6, "edge", "(II)I"⟩
abbrev cX6_foul : ByteArray := prog_1_method_19_code
def yX6_foul : MethodName := ⟨RX6, "foul", "(D)Z"⟩
abbrev cX6_wave : ByteArray := prog_1_method_20_code
def yX6_wave : MethodName := ⟨RX6, "wave", "(DDI)I"⟩
abbrev cX6_mirrored : ByteArray := prog_1_method_21_code
def yX6_mirrored : MethodName := ⟨RX6, "mirrored", "()Z"⟩
abbrev cX6_best : ByteArray := prog_1_method_22_code
def yX6_best : MethodName := ⟨RX6, "best", "(I)I"⟩
abbrev cX6_sheet : ByteArray := prog_1_method_23_code
def yX6_sheet : MethodName := ⟨RX6, "sheet", "(II)I"⟩
abbrev cX6_within : ByteArray := prog_1_method_24_code
def yX6_within : MethodName := ⟨RX6, "within", "(DDD)Z"⟩
abbrev cX6_isPlace : ByteArray := prog_1_method_25_code
def yX6_isPlace : MethodName := ⟨RX6, "isPlace", "(D)Z"⟩
abbrev cX6_isAxis : ByteArray := prog_1_method_26_code
def yX6_isAxis : MethodName := ⟨RX6, "isAxis", "(I)Z"⟩
abbrev cX6_isPanelWidth : ByteArray := prog_1_method_27_code
def yX6_isPanelWidth : MethodName := ⟨RX6, "isPanelWidth", "(I)Z"⟩
abbrev cX6_eighthOfTurn : ByteArray := prog_1_method_28_code
def yX6_eighthOfTurn : MethodName := ⟨RX6, "eighthOfTurn", "(D)I"⟩
abbrev cX6_partTowardsX : ByteArray := prog_1_method_29_code
def yX6_partTowardsX : MethodName := ⟨RX6, "partTowardsX", "(DI)D"⟩
abbrev cX6_size : ByteArray := prog_1_method_30_code
def yX6_size : MethodName := ⟨RX6, "size", "(D)D"⟩
abbrev cX6_root : ByteArray := prog_1_method_31_code
def yX6_root : MethodName := ⟨RX6, "root", "(D)D"⟩
def RX7 : String := "NetShapesModel"
def TX7 : u_T := fun k => match k with
  | 0 => ("NetShapesModel", "nodes", "I", false)
  | 1 => ("NetShapesModel", "x", "[D", true)
  | 2 => ("NetShapesModel", "y", "[D", true)
  | 3 => ("NetShapesModel", "z", "[D", true)
  | 4 => ("NetShapesModel", "lift", "[D", true)
  | 5 => ("NetShapesModel", "caught", "[D", true)
  | 6 => ("NetShapesModel", "fixed", "[Z", true)
  | 7 => ("NetShapesModel", "fx", "[D", true)
  | 8 => ("NetShapesModel", "fy", "[D", true)
  | 9 => ("NetShapesModel", "fz", "[D", true)
  | 10 => ("NetShapesModel", "bars", "I", false)
  | 11 => ("NetShapesModel", "from", "[I", true)
  | 12 => ("NetShapesModel", "to", "[I", true)
  | 13 => ("NetShapesModel", "natural", "[D", true)
  | 14 => ("NetShapesModel", "width", "[D", true)
  | 15 => ("NetShapesModel", "strong", "[D", true)
  | 16 => ("NetShapesModel", "pulls", "[D", true)
  | 17 => ("NetShapesModel", "rows", "I", false)
  | 18 => ("NetShapesModel", "rowDepth", "[D", true)
  | 19 => ("NetShapesModel", "rowX", "[D", true)
  | 20 => ("NetShapesModel", "rowY", "[D", true)
  | 21 => ("NetShapesModel", "waves", "D", false)
  | 22 => ("NetShapesModel", "fouled", "D", false)
  | 23 => ("NetShapesModel", "residual", "D", false)
  | 24 => ("NetShapesModel", "drags", "[D", true)
  | 25 => ("NetShapesModel", "balances", "I", false)
  | 26 => ("NetShapesModel", "fuels", "[D", true)
  | 27 => ("NetShapesModel", "panels", "I", false)
  | 28 => ("NetShapesModel", "tops", "[I", true)
  | 29 => ("NetShapesModel", "bottoms", "[I", true)
  | _ => ("NetShapesModel", "deeps", "[I", true)
def tyX7 : Nat → FieldType := fun k => match k with
  | 0 => .int
  | 1 => .array .double
  | 2 => .array .double
  | 3 => .array .double
  | 4 => .array .double
  | 5 => .array .double
  | 6 => .array .boolean
  | 7 => .array .double
  | 8 => .array .double
  | 9 => .array .double
  | 10 => .int
  | 11 => .array .int
  | 12 => .array .int
  | 13 => .array .double
  | 14 => .array .double
  | 15 => .array .double
  | 16 => .array .double
  | 17 => .int
  | 18 => .array .double
  | 19 => .array .double
  | 20 => .array .double
  | 21 => .double
  | 22 => .double
  | 23 => .double
  | 24 => .array .double
  | 25 => .int
  | 26 => .array .double
  | 27 => .int
  | 28 => .array .int
  | 29 => .array .int
  | _ => .array .int
abbrev wsX70 : List Cond := u_ws RX7 TX7 31
theorem nmX7 : ∀ a, a < 31 → ∀ b, b < 31 → a ≠ b → (TX7 a).2.1 ≠ (TX7 b).2.1 := by decide +kernel
theorem tyX7_ok : ∀ k, k < 31 → parseFieldDescriptor (TX7 k).2.2.1 = some (tyX7 k) := by decide +kernel
abbrev cX7_init : ByteArray := prog_9_method_1_code
def yX7_init : MethodName := ⟨RX7, "<init>", "()V"⟩
abbrev cX7_isIn : ByteArray := prog_9_method_2_code
def yX7_isIn : MethodName := ⟨RX7, "isIn", "(DDD)Z"⟩
abbrev cX7_root : ByteArray := prog_9_method_3_code
def yX7_root : MethodName := ⟨RX7, "root", "(D)D"⟩
abbrev cX7_size : ByteArray := prog_9_method_4_code
def yX7_size : MethodName := ⟨RX7, "size", "(D)D"⟩
abbrev cX7_node : ByteArray := prog_9_method_5_code
def yX7_node : MethodName := ⟨RX7, "node", "(DDD)I"⟩
abbrev cX7_isNode : ByteArray := prog_9_method_6_code
def yX7_isNode : MethodName := ⟨RX7, "isNode", "(I)Z"⟩
abbrev cX7_bar : ByteArray := prog_9_method_7_code
def yX7_bar : MethodName := ⟨RX7, "bar", "(IIDDD)I"⟩
abbrev cX7_fix : ByteArray := prog_9_method_8_code
def yX7_fix : MethodName := ⟨RX7, "fix", "(I)Z"⟩
abbrev cX7_floats : ByteArray := prog_9_method_9_code
def yX7_floats : MethodName := ⟨RX7, "floats", "(ID)Z"⟩
abbrev cX7_catchAt : ByteArray := prog_9_method_10_code
def yX7_catchAt : MethodName := ⟨RX7, "catchAt", "(ID)Z"⟩
abbrev cX7_foul : ByteArray := prog_9_method_11_code
def yX7_foul : MethodName := ⟨RX7, "foul", "(D)Z"⟩
abbrev cX7_wave : ByteArray := prog_9_method_12_code
def yX7_wave : MethodName := ⟨RX7, "wave", "(DDI)I"⟩
abbrev cX7_current : ByteArray := prog_9_method_13_code
def yX7_current : MethodName := ⟨RX7, "current", "(DDD)Z"⟩
abbrev cX7_speed : ByteArray := prog_9_method_14_code
def yX7_speed : MethodName := ⟨RX7, "speed", "(DZ)D"⟩
abbrev cX7_forces : ByteArray := prog_9_method_15_code
def yX7_forces : MethodName := ⟨RX7, "forces", "()V"⟩
abbrev cX7_moved : ByteArray := prog_9_method_16_code
def yX7_moved : MethodName := ⟨RX7, "moved", "(D)D"⟩
abbrev cX7_run : ByteArray := prog_9_method_17_code
def yX7_run : MethodName := ⟨RX7, "run", "(I)I"⟩
abbrev cX7_at : ByteArray := prog_9_method_18_code
def yX7_at : MethodName := ⟨RX7, "at", "(II)D"⟩
abbrev cX7_pull : ByteArray := prog_9_method_19_code
def yX7_pull : MethodName := ⟨RX7, "pull", "(I)D"⟩
abbrev cX7_residual : ByteArray := prog_9_method_20_code
def yX7_residual : MethodName := ⟨RX7, "residual", "()D"⟩
abbrev cX7_drag : ByteArray := prog_9_method_21_code
def yX7_drag : MethodName := ⟨RX7, "drag", "(I)D"⟩
abbrev cX7_over : ByteArray := prog_9_method_22_code
def yX7_over : MethodName := ⟨RX7, "over", "(I)I"⟩
abbrev cX7_open : ByteArray := prog_9_method_23_code
def yX7_open : MethodName := ⟨RX7, "open", "(I)D"⟩
abbrev cX7_mirrored : ByteArray := prog_9_method_24_code
def yX7_mirrored : MethodName := ⟨RX7, "mirrored", "()Z"⟩
abbrev cX7_best : ByteArray := prog_9_method_25_code
def yX7_best : MethodName := ⟨RX7, "best", "(I)I"⟩
abbrev cX7_panel : ByteArray := prog_9_method_26_code
def yX7_panel : MethodName := ⟨RX7, "panel", "(III)I"⟩
abbrev cX7_isPanel : ByteArray := prog_9_method_27_code
def yX7_isPanel : MethodName := ⟨RX7, "isPanel", "(I)Z"⟩
abbrev cX7_meshes : ByteArray := prog_9_method_28_code
def yX7_meshes : MethodName := ⟨RX7, "meshes", "(II)I"⟩
abbrev cX7_cut : ByteArray := prog_9_method_29_code
def yX7_cut : MethodName := ⟨RX7, "cut", "(III)I"⟩
abbrev cX7_whole : ByteArray := prog_9_method_30_code
def yX7_whole : MethodName := ⟨RX7, "whole", "(I)Z"⟩
abbrev cX7_edge : ByteArray := prog_9_method_31_code
def yX7_edge : MethodName := ⟨RX7, "edge", "(II)I"⟩
abbrev cX7_sheet : ByteArray := prog_9_method_32_code
def yX7_sheet : MethodName := ⟨RX7, "sheet", "(II)I"⟩
def RJxe99ae : String := "java/lang/Double"
def TJxe99ae : u_T := fun k => match k with
  | _ => ("", "", "", false)
def tyJxe99ae : Nat → FieldType := fun k => match k with
  | _ => .int
abbrev wsJxe99ae0 : List Cond := u_ws RJxe99ae TJxe99ae 0
theorem nmJxe99ae : ∀ a, a < 0 → ∀ b, b < 0 → a ≠ b → (TJxe99ae a).2.1 ≠ (TJxe99ae b).2.1 := by decide +kernel
theorem tyJxe99ae_ok : ∀ k, k < 0 → parseFieldDescriptor (TJxe99ae k).2.2.1 = some (tyJxe99ae k) := by decide +kernel
def RJ9 : String := "java/lang/Math"
def TJ9 : u_T := fun k => match k with
  | _ => ("", "", "", false)
def tyJ9 : Nat → FieldType := fun k => match k with
  | _ => .int
abbrev wsJ90 : List Cond := u_ws RJ9 TJ9 0
theorem nmJ9 : ∀ a, a < 0 → ∀ b, b < 0 → a ≠ b → (TJ9 a).2.1 ≠ (TJ9 b).2.1 := by decide +kernel
theorem tyJ9_ok : ∀ k, k < 0 → parseFieldDescriptor (TJ9 k).2.2.1 = some (tyJ9 k) := by decide +kernel
abbrev cJ9_floorMod_7cf53 : ByteArray := prog_11_method_50_code
def yJ9_floorMod_7cf53 : MethodName := ⟨RJ9, "floorMod", "(II)I"⟩
abbrev cJ9_max_7cf53 : ByteArray := prog_11_method_65_code
def yJ9_max_7cf53 : MethodName := ⟨RJ9, "max", "(II)I"⟩
abbrev cJ9_max_eb370 : ByteArray := prog_11_method_68_code
def yJ9_max_eb370 : MethodName := ⟨RJ9, "max", "(DD)D"⟩
abbrev cJ9_min_7cf53 : ByteArray := prog_11_method_69_code
def yJ9_min_7cf53 : MethodName := ⟨RJ9, "min", "(II)I"⟩
abbrev cJ9_min_eb370 : ByteArray := prog_11_method_72_code
def yJ9_min_eb370 : MethodName := ⟨RJ9, "min", "(DD)D"⟩
def RL : String := "NetShapesLaw"
abbrev cL_law : ByteArray := code
def yL_law : MethodName := ⟨RL, "law", "([I)Z"⟩
def wsX0_init : List Cond := .code yX0_init cX0_init 4 none :: ([.methodLink RX0 3 objectInit, .instanceMethod objectInit, .code objectInit ⟨#[0xb1]⟩ 1 none, .arrayClass .double, .fieldLink RX0 9 "NetShapes$Balance" "drags" "[D", .constantDouble RX0 15 (13830554455654793216), .fieldLink RX0 17 "NetShapes$Balance" "greatestForce" "D", .fieldLink RX0 21 "NetShapes$Balance" "span" "[D", .fieldLink RX0 24 "NetShapes$Balance" "acrossFlow" "[D", .fieldLink RX0 27 "NetShapes$Balance" "nodes" "LNetShapes$Nodes;", .fieldLink RX0 31 "NetShapes$Balance" "bars" "LNetShapes$Bars;", .fieldLink RX0 35 "NetShapes$Balance" "water" "LNetShapes$Water;"] ++ wsX00)
def wsX3_startForces : List Cond := .code yX3_startForces cX3_startForces 2 none :: ([.fieldLink RX3 30 "NetShapes$Nodes" "count" "I", .fieldLink RX3 16 "NetShapes$Nodes" "forces" "[[D", .fieldLink RX3 23 "NetShapes$Nodes" "load" "[D", .fieldLink RX3 19 "NetShapes$Nodes" "lift" "[D"] ++ wsX30)
def wsX6_root : List Cond := .code yX6_root cX6_root 7 (some .double) :: ([.constantDouble RX6 208 (4602678819172646912)])
def wsX0_lengthOf : List Cond := .code yX0_lengthOf cX0_lengthOf 1 (some .double) :: ([.static yX6_root, .initialized RX6, .code yX6_root cX6_root 7 (some .double), .constantDouble RX6 208 (4602678819172646912)])
def wsX0_measure : List Cond := .code yX0_measure cX0_measure 4 (some .double) :: ([.fieldLink RX0 27 "NetShapes$Balance" "nodes" "LNetShapes$Nodes;", .fieldLink RX0 67 "NetShapes$Nodes" "places" "[[D", .fieldLink RX0 21 "NetShapes$Balance" "span" "[D", .fieldLink RX0 31 "NetShapes$Balance" "bars" "LNetShapes$Bars;", .fieldLink RX0 71 "NetShapes$Bars" "to" "[I", .fieldLink RX0 75 "NetShapes$Bars" "from" "[I", .methodLink RX0 78 yX0_lengthOf, .static yX0_lengthOf, .initialized RX0, .code yX0_lengthOf cX0_lengthOf 1 (some .double), .static yX6_root, .initialized RX6, .code yX6_root cX6_root 7 (some .double), .constantDouble RX6 208 (4602678819172646912)] ++ wsX00 ++ wsX30 ++ wsX10)
def wsX0_tighten : List Cond := .code yX0_tighten cX0_tighten 11 none :: ([.fieldLink RX0 31 "NetShapes$Balance" "bars" "LNetShapes$Bars;", .fieldLink RX0 86 "NetShapes$Bars" "length" "[D", .constantDouble RX0 89 (4656510908468559872), .fieldLink RX0 91 "NetShapes$Bars" "pulls" "[D", .fieldLink RX0 27 "NetShapes$Balance" "nodes" "LNetShapes$Nodes;", .fieldLink RX0 94 "NetShapes$Nodes" "forces" "[[D", .fieldLink RX0 75 "NetShapes$Bars" "from" "[I", .fieldLink RX0 21 "NetShapes$Balance" "span" "[D", .fieldLink RX0 71 "NetShapes$Bars" "to" "[I"] ++ wsX00 ++ wsX10 ++ wsX30)
def wsX5_rowAtOrAbove : List Cond := .code yX5_rowAtOrAbove cX5_rowAtOrAbove 5 (some .int) :: ([.fieldLink RX5 21 "NetShapes$Water" "count" "I", .fieldLink RX5 9 "NetShapes$Water" "depths" "[D"] ++ wsX50)
def wsX5_speedOfRows : List Cond := .code yX5_speedOfRows cX5_speedOfRows 7 (some .double) :: ([.fieldLink RX5 21 "NetShapes$Water" "count" "I", .fieldLink RX5 9 "NetShapes$Water" "depths" "[D"] ++ wsX50)
def wsX5_speedAt : List Cond := .code yX5_speedAt cX5_speedAt 5 (some .double) :: ([.fieldLink RX5 25 "NetShapes$Water" "waveShare" "D", .methodLink RX5 40 yX5_speedOfRows, .instanceMethod yX5_speedOfRows, .selects RX5 yX5_speedOfRows yX5_speedOfRows, .initialized RX5, .code yX5_speedOfRows cX5_speedOfRows 7 (some .double), .fieldLink RX5 21 "NetShapes$Water" "count" "I", .fieldLink RX5 9 "NetShapes$Water" "depths" "[D"] ++ wsX50)
def wsX0_findFlowAcross_r1 : List Cond := [Cond.fieldLink RX0 27 "NetShapes$Balance" "nodes" "LNetShapes$Nodes;", Cond.fieldLink RX0 67 "NetShapes$Nodes" "places" "[[D", Cond.constantDouble RX0 112 (4602678819172646912), Cond.fieldLink RX0 31 "NetShapes$Balance" "bars" "LNetShapes$Bars;", Cond.fieldLink RX0 75 "NetShapes$Bars" "from" "[I", Cond.fieldLink RX0 71 "NetShapes$Bars" "to" "[I", Cond.fieldLink RX0 35 "NetShapes$Balance" "water" "LNetShapes$Water;", Cond.fieldLink RX0 118 "NetShapes$Water" "towardsX" "[D", Cond.fieldLink RX0 125 "NetShapes$Water" "towardsY" "[D", Cond.fieldLink RX0 21 "NetShapes$Balance" "span" "[D", Cond.fieldLink RX0 24 "NetShapes$Balance" "acrossFlow" "[D", Cond.methodLink RX0 114 yX5_rowAtOrAbove, Cond.instanceMethod yX5_rowAtOrAbove, Cond.selects RX5 yX5_rowAtOrAbove yX5_rowAtOrAbove, Cond.initialized RX5, Cond.code yX5_rowAtOrAbove cX5_rowAtOrAbove 5 (some .int), Cond.fieldLink RX5 21 "NetShapes$Water" "count" "I", Cond.fieldLink RX5 9 "NetShapes$Water" "depths" "[D", Cond.methodLink RX0 121 yX5_speedAt, Cond.instanceMethod yX5_speedAt, Cond.selects RX5 yX5_speedAt yX5_speedAt, Cond.code yX5_speedAt cX5_speedAt 5 (some .double), Cond.fieldLink RX5 25 "NetShapes$Water" "waveShare" "D", Cond.methodLink RX5 40 yX5_speedOfRows]
def wsX0_findFlowAcross_r2 : List Cond := [Cond.instanceMethod yX5_speedOfRows, Cond.selects RX5 yX5_speedOfRows yX5_speedOfRows, Cond.code yX5_speedOfRows cX5_speedOfRows 7 (some .double)]
def wsX0_findFlowAcross : List Cond := .code yX0_findFlowAcross cX0_findFlowAcross 14 none :: ((wsX0_findFlowAcross_r1 ++ wsX0_findFlowAcross_r2) ++ wsX00 ++ wsX30 ++ wsX10 ++ wsX50)
def wsX0_wash_r1 : List Cond := [Cond.constantDouble RX0 100 (4638707616191610880), Cond.fieldLink RX0 31 "NetShapes$Balance" "bars" "LNetShapes$Bars;", Cond.fieldLink RX0 102 "NetShapes$Bars" "width" "[D", Cond.fieldLink RX0 35 "NetShapes$Balance" "water" "LNetShapes$Water;", Cond.fieldLink RX0 105 "NetShapes$Water" "foulShare" "D", Cond.fieldLink RX0 86 "NetShapes$Bars" "length" "[D", Cond.fieldLink RX0 24 "NetShapes$Balance" "acrossFlow" "[D", Cond.fieldLink RX0 9 "NetShapes$Balance" "drags" "[D", Cond.constantDouble RX0 110 (4611686018427387904), Cond.fieldLink RX0 27 "NetShapes$Balance" "nodes" "LNetShapes$Nodes;", Cond.fieldLink RX0 94 "NetShapes$Nodes" "forces" "[[D", Cond.fieldLink RX0 75 "NetShapes$Bars" "from" "[I", Cond.fieldLink RX0 71 "NetShapes$Bars" "to" "[I", Cond.methodLink RX0 97 yX0_findFlowAcross, Cond.instanceMethod yX0_findFlowAcross, Cond.selects RX0 yX0_findFlowAcross yX0_findFlowAcross, Cond.initialized RX0, Cond.code yX0_findFlowAcross cX0_findFlowAcross 14 none, Cond.fieldLink RX0 67 "NetShapes$Nodes" "places" "[[D", Cond.constantDouble RX0 112 (4602678819172646912), Cond.fieldLink RX0 118 "NetShapes$Water" "towardsX" "[D", Cond.fieldLink RX0 125 "NetShapes$Water" "towardsY" "[D", Cond.fieldLink RX0 21 "NetShapes$Balance" "span" "[D", Cond.methodLink RX0 114 yX5_rowAtOrAbove]
def wsX0_wash_r2 : List Cond := [Cond.instanceMethod yX5_rowAtOrAbove, Cond.selects RX5 yX5_rowAtOrAbove yX5_rowAtOrAbove, Cond.initialized RX5, Cond.code yX5_rowAtOrAbove cX5_rowAtOrAbove 5 (some .int), Cond.fieldLink RX5 21 "NetShapes$Water" "count" "I", Cond.fieldLink RX5 9 "NetShapes$Water" "depths" "[D", Cond.methodLink RX0 121 yX5_speedAt, Cond.instanceMethod yX5_speedAt, Cond.selects RX5 yX5_speedAt yX5_speedAt, Cond.code yX5_speedAt cX5_speedAt 5 (some .double), Cond.fieldLink RX5 25 "NetShapes$Water" "waveShare" "D", Cond.methodLink RX5 40 yX5_speedOfRows, Cond.instanceMethod yX5_speedOfRows, Cond.selects RX5 yX5_speedOfRows yX5_speedOfRows, Cond.code yX5_speedOfRows cX5_speedOfRows 7 (some .double), Cond.methodLink RX0 78 yX0_lengthOf, Cond.static yX0_lengthOf, Cond.code yX0_lengthOf cX0_lengthOf 1 (some .double), Cond.static yX6_root, Cond.initialized RX6, Cond.code yX6_root cX6_root 7 (some .double), Cond.constantDouble RX6 208 (4602678819172646912)]
def wsX0_wash : List Cond := .code yX0_wash cX0_wash 7 none :: ((wsX0_wash_r1 ++ wsX0_wash_r2) ++ wsX00 ++ wsX10 ++ wsX50 ++ wsX30)
def wsX6_size : List Cond := .code yX6_size cX6_size 2 (some .double) :: ([])
def wsX3_greatestForce : List Cond := .code yX3_greatestForce cX3_greatestForce 7 (some .double) :: ([.fieldLink RX3 30 "NetShapes$Nodes" "count" "I", .fieldLink RX3 26 "NetShapes$Nodes" "fixed" "[Z", .fieldLink RX3 16 "NetShapes$Nodes" "forces" "[[D", .static yX6_size, .initialized RX6, .code yX6_size cX6_size 2 (some .double)] ++ wsX30)
def wsX3_stepFor : List Cond := .code yX3_stepFor cX3_stepFor 6 (some .double) :: ([.constantDouble RX3 41 (4598175219545276416), .constantDouble RX3 43 (4557750909289998844)])
def wsX3_giveWay : List Cond := .code yX3_giveWay cX3_giveWay 3 none :: ([.fieldLink RX3 30 "NetShapes$Nodes" "count" "I", .fieldLink RX3 26 "NetShapes$Nodes" "fixed" "[Z", .fieldLink RX3 11 "NetShapes$Nodes" "places" "[[D", .fieldLink RX3 16 "NetShapes$Nodes" "forces" "[[D", .methodLink RX3 38 yX3_stepFor, .static yX3_stepFor, .initialized RX3, .code yX3_stepFor cX3_stepFor 6 (some .double), .constantDouble RX3 41 (4598175219545276416), .constantDouble RX3 43 (4557750909289998844)] ++ wsX30)
def wsX0_comesInRound_r1 : List Cond := [Cond.fieldLink RX0 27 "NetShapes$Balance" "nodes" "LNetShapes$Nodes;", Cond.fieldLink RX0 9 "NetShapes$Balance" "drags" "[D", Cond.fieldLink RX0 31 "NetShapes$Balance" "bars" "LNetShapes$Bars;", Cond.fieldLink RX0 44 "NetShapes$Bars" "count" "I", Cond.fieldLink RX0 17 "NetShapes$Balance" "greatestForce" "D", Cond.methodLink RX0 39 yX3_startForces, Cond.instanceMethod yX3_startForces, Cond.selects RX3 yX3_startForces yX3_startForces, Cond.initialized RX3, Cond.code yX3_startForces cX3_startForces 2 none, Cond.fieldLink RX3 30 "NetShapes$Nodes" "count" "I", Cond.fieldLink RX3 16 "NetShapes$Nodes" "forces" "[[D", Cond.fieldLink RX3 23 "NetShapes$Nodes" "load" "[D", Cond.fieldLink RX3 19 "NetShapes$Nodes" "lift" "[D", Cond.methodLink RX0 50 yX0_measure, Cond.instanceMethod yX0_measure, Cond.selects RX0 yX0_measure yX0_measure, Cond.initialized RX0, Cond.code yX0_measure cX0_measure 4 (some .double), Cond.fieldLink RX0 67 "NetShapes$Nodes" "places" "[[D", Cond.fieldLink RX0 21 "NetShapes$Balance" "span" "[D", Cond.fieldLink RX0 71 "NetShapes$Bars" "to" "[I", Cond.fieldLink RX0 75 "NetShapes$Bars" "from" "[I", Cond.methodLink RX0 78 yX0_lengthOf]
def wsX0_comesInRound_r2 : List Cond := [Cond.static yX0_lengthOf, Cond.code yX0_lengthOf cX0_lengthOf 1 (some .double), Cond.static yX6_root, Cond.initialized RX6, Cond.code yX6_root cX6_root 7 (some .double), Cond.constantDouble RX6 208 (4602678819172646912), Cond.methodLink RX0 54 yX0_tighten, Cond.instanceMethod yX0_tighten, Cond.selects RX0 yX0_tighten yX0_tighten, Cond.code yX0_tighten cX0_tighten 11 none, Cond.fieldLink RX0 86 "NetShapes$Bars" "length" "[D", Cond.constantDouble RX0 89 (4656510908468559872), Cond.fieldLink RX0 91 "NetShapes$Bars" "pulls" "[D", Cond.fieldLink RX0 94 "NetShapes$Nodes" "forces" "[[D", Cond.methodLink RX0 58 yX0_wash, Cond.instanceMethod yX0_wash, Cond.selects RX0 yX0_wash yX0_wash, Cond.code yX0_wash cX0_wash 7 none, Cond.constantDouble RX0 100 (4638707616191610880), Cond.fieldLink RX0 102 "NetShapes$Bars" "width" "[D", Cond.fieldLink RX0 35 "NetShapes$Balance" "water" "LNetShapes$Water;", Cond.fieldLink RX0 105 "NetShapes$Water" "foulShare" "D", Cond.fieldLink RX0 24 "NetShapes$Balance" "acrossFlow" "[D", Cond.constantDouble RX0 110 (4611686018427387904)]
def wsX0_comesInRound_r3 : List Cond := [Cond.methodLink RX0 97 yX0_findFlowAcross, Cond.instanceMethod yX0_findFlowAcross, Cond.selects RX0 yX0_findFlowAcross yX0_findFlowAcross, Cond.code yX0_findFlowAcross cX0_findFlowAcross 14 none, Cond.constantDouble RX0 112 (4602678819172646912), Cond.fieldLink RX0 118 "NetShapes$Water" "towardsX" "[D", Cond.fieldLink RX0 125 "NetShapes$Water" "towardsY" "[D", Cond.methodLink RX0 114 yX5_rowAtOrAbove, Cond.instanceMethod yX5_rowAtOrAbove, Cond.selects RX5 yX5_rowAtOrAbove yX5_rowAtOrAbove, Cond.initialized RX5, Cond.code yX5_rowAtOrAbove cX5_rowAtOrAbove 5 (some .int), Cond.fieldLink RX5 21 "NetShapes$Water" "count" "I", Cond.fieldLink RX5 9 "NetShapes$Water" "depths" "[D", Cond.methodLink RX0 121 yX5_speedAt, Cond.instanceMethod yX5_speedAt, Cond.selects RX5 yX5_speedAt yX5_speedAt, Cond.code yX5_speedAt cX5_speedAt 5 (some .double), Cond.fieldLink RX5 25 "NetShapes$Water" "waveShare" "D", Cond.methodLink RX5 40 yX5_speedOfRows, Cond.instanceMethod yX5_speedOfRows, Cond.selects RX5 yX5_speedOfRows yX5_speedOfRows, Cond.code yX5_speedOfRows cX5_speedOfRows 7 (some .double), Cond.methodLink RX0 61 yX3_greatestForce]
def wsX0_comesInRound_r4 : List Cond := [Cond.instanceMethod yX3_greatestForce, Cond.selects RX3 yX3_greatestForce yX3_greatestForce, Cond.code yX3_greatestForce cX3_greatestForce 7 (some .double), Cond.fieldLink RX3 26 "NetShapes$Nodes" "fixed" "[Z", Cond.static yX6_size, Cond.code yX6_size cX6_size 2 (some .double), Cond.methodLink RX0 64 yX3_giveWay, Cond.instanceMethod yX3_giveWay, Cond.selects RX3 yX3_giveWay yX3_giveWay, Cond.code yX3_giveWay cX3_giveWay 3 none, Cond.fieldLink RX3 11 "NetShapes$Nodes" "places" "[[D", Cond.methodLink RX3 38 yX3_stepFor, Cond.static yX3_stepFor, Cond.code yX3_stepFor cX3_stepFor 6 (some .double), Cond.constantDouble RX3 41 (4598175219545276416), Cond.constantDouble RX3 43 (4557750909289998844)]
def wsX0_comesInRound : List Cond := .code yX0_comesInRound cX0_comesInRound 4 (some .boolean) :: ((wsX0_comesInRound_r1 ++ (wsX0_comesInRound_r2 ++ (wsX0_comesInRound_r3 ++ wsX0_comesInRound_r4))) ++ wsX00 ++ wsX10 ++ wsX30 ++ wsX50)
def wsX1_init : List Cond := .code yX1_init cX1_init 1 none :: ([.methodLink RX1 3 objectInit, .instanceMethod objectInit, .code objectInit ⟨#[0xb1]⟩ 1 none, .arrayClass .int, .fieldLink RX1 9 "NetShapes$Bars" "from" "[I", .fieldLink RX1 15 "NetShapes$Bars" "to" "[I", .arrayClass .double, .fieldLink RX1 18 "NetShapes$Bars" "length" "[D", .fieldLink RX1 22 "NetShapes$Bars" "width" "[D", .fieldLink RX1 25 "NetShapes$Bars" "strength" "[D", .fieldLink RX1 28 "NetShapes$Bars" "pulls" "[D", .fieldLink RX1 31 "NetShapes$Bars" "count" "I"] ++ wsX10)
def wsX1_has : List Cond := .code yX1_has cX1_has 2 (some .boolean) :: ([.fieldLink RX1 31 "NetShapes$Bars" "count" "I"] ++ wsX10)
def wsX1_add : List Cond := .code yX1_add cX1_add 10 (some .int) :: ([.fieldLink RX1 31 "NetShapes$Bars" "count" "I", .fieldLink RX1 9 "NetShapes$Bars" "from" "[I", .fieldLink RX1 15 "NetShapes$Bars" "to" "[I", .fieldLink RX1 18 "NetShapes$Bars" "length" "[D", .fieldLink RX1 22 "NetShapes$Bars" "width" "[D", .fieldLink RX1 25 "NetShapes$Bars" "strength" "[D", .fieldLink RX1 28 "NetShapes$Bars" "pulls" "[D", .constantDouble RX1 35 (13830554455654793216)] ++ wsX10)
def wsX1_overloaded : List Cond := .code yX1_overloaded cX1_overloaded 4 (some .int) :: ([.fieldLink RX1 31 "NetShapes$Bars" "count" "I", .fieldLink RX1 28 "NetShapes$Bars" "pulls" "[D", .fieldLink RX1 25 "NetShapes$Bars" "strength" "[D"] ++ wsX10)
def wsX2_init : List Cond := .code yX2_init cX2_init 1 none :: ([.methodLink RX2 3 objectInit, .instanceMethod objectInit, .code objectInit ⟨#[0xb1]⟩ 1 none, .arrayClass .double, .fieldLink RX2 9 "NetShapes$Fuels" "kept" "[D", .fieldLink RX2 15 "NetShapes$Fuels" "count" "I", .fieldLink RX2 19 "NetShapes$Fuels" "next" "I"] ++ wsX20)
def wsX2_add : List Cond := .code yX2_add cX2_add 3 none :: ([.fieldLink RX2 9 "NetShapes$Fuels" "kept" "[D", .fieldLink RX2 19 "NetShapes$Fuels" "next" "I", .fieldLink RX2 15 "NetShapes$Fuels" "count" "I", .methodLink RX2 22 Lib.Math.min.name, .static Lib.Math.min.name, .initialized "java/lang/Math", .code Lib.Math.min.name Lib.Math.min.code 2 (some .int)] ++ wsX20)
def wsJ9_floorMod_7cf53 : List Cond := .code yJ9_floorMod_7cf53 cJ9_floorMod_7cf53 3 (some .int) :: ([])
def wsX2_backwards : List Cond := .code yX2_backwards cX2_backwards 2 (some .double) :: ([.fieldLink RX2 9 "NetShapes$Fuels" "kept" "[D", .fieldLink RX2 19 "NetShapes$Fuels" "next" "I", .methodLink RX2 32 yJ9_floorMod_7cf53, .static yJ9_floorMod_7cf53, .initialized RJ9, .code yJ9_floorMod_7cf53 cJ9_floorMod_7cf53 3 (some .int)] ++ wsX20)
def wsX2_leastOfLatest : List Cond := .code yX2_leastOfLatest cX2_leastOfLatest 4 (some .int) :: ([.fieldLink RX2 15 "NetShapes$Fuels" "count" "I", .methodLink RX2 28 yX2_backwards, .instanceMethod yX2_backwards, .selects RX2 yX2_backwards yX2_backwards, .initialized RX2, .code yX2_backwards cX2_backwards 2 (some .double), .fieldLink RX2 9 "NetShapes$Fuels" "kept" "[D", .fieldLink RX2 19 "NetShapes$Fuels" "next" "I", .methodLink RX2 32 yJ9_floorMod_7cf53, .static yJ9_floorMod_7cf53, .initialized RJ9, .code yJ9_floorMod_7cf53 cJ9_floorMod_7cf53 3 (some .int)] ++ wsX20)
def wsX3_init : List Cond := .code yX3_init cX3_init 1 none :: ([.methodLink RX3 3 objectInit, .instanceMethod objectInit, .code objectInit ⟨#[0xb1]⟩ 1 none, .classLink RX3 9 "[[D", .arrayClass .double, .fieldLink RX3 11 "NetShapes$Nodes" "places" "[[D", .fieldLink RX3 16 "NetShapes$Nodes" "forces" "[[D", .fieldLink RX3 19 "NetShapes$Nodes" "lift" "[D", .fieldLink RX3 23 "NetShapes$Nodes" "load" "[D", .arrayClass .boolean, .fieldLink RX3 26 "NetShapes$Nodes" "fixed" "[Z", .fieldLink RX3 30 "NetShapes$Nodes" "count" "I"] ++ wsX30)
def wsX3_has : List Cond := .code yX3_has cX3_has 2 (some .boolean) :: ([.fieldLink RX3 30 "NetShapes$Nodes" "count" "I"] ++ wsX30)
def wsX3_add : List Cond := .code yX3_add cX3_add 8 (some .int) :: ([.fieldLink RX3 30 "NetShapes$Nodes" "count" "I", .fieldLink RX3 11 "NetShapes$Nodes" "places" "[[D"] ++ wsX30)
def wsX3_spread : List Cond := .code yX3_spread cX3_spread 8 (some .double) :: ([.fieldLink RX3 11 "NetShapes$Nodes" "places" "[[D", .fieldLink RX3 30 "NetShapes$Nodes" "count" "I"] ++ wsX30)
def wsX3_hasMirrorImage : List Cond := .code yX3_hasMirrorImage cX3_hasMirrorImage 5 (some .boolean) :: ([.fieldLink RX3 11 "NetShapes$Nodes" "places" "[[D", .fieldLink RX3 30 "NetShapes$Nodes" "count" "I"] ++ wsX30)
def wsX4_init : List Cond := .code yX4_init cX4_init 1 none :: ([.methodLink RX4 3 objectInit, .instanceMethod objectInit, .code objectInit ⟨#[0xb1]⟩ 1 none, .arrayClass .int, .fieldLink RX4 9 "NetShapes$Panels" "top" "[I", .fieldLink RX4 15 "NetShapes$Panels" "bottom" "[I", .fieldLink RX4 18 "NetShapes$Panels" "deep" "[I", .fieldLink RX4 21 "NetShapes$Panels" "across" "[I", .fieldLink RX4 24 "NetShapes$Panels" "down" "[I", .fieldLink RX4 27 "NetShapes$Panels" "count" "I", .fieldLink RX4 31 "NetShapes$Panels" "shelfUsed" "I", .fieldLink RX4 34 "NetShapes$Panels" "shelfStart" "I", .fieldLink RX4 37 "NetShapes$Panels" "shelfDeep" "I"] ++ wsX40)
def wsX4_has : List Cond := .code yX4_has cX4_has 2 (some .boolean) :: ([.fieldLink RX4 27 "NetShapes$Panels" "count" "I"] ++ wsX40)
def wsX4_lay : List Cond := .code yX4_lay cX4_lay 3 none :: ([.fieldLink RX4 9 "NetShapes$Panels" "top" "[I", .fieldLink RX4 15 "NetShapes$Panels" "bottom" "[I", .methodLink RX4 44 Lib.Math.max.name, .static Lib.Math.max.name, .initialized "java/lang/Math", .code Lib.Math.max.name Lib.Math.max.code 2 (some .int), .fieldLink RX4 31 "NetShapes$Panels" "shelfUsed" "I", .fieldLink RX4 34 "NetShapes$Panels" "shelfStart" "I", .fieldLink RX4 37 "NetShapes$Panels" "shelfDeep" "I", .fieldLink RX4 21 "NetShapes$Panels" "across" "[I", .fieldLink RX4 24 "NetShapes$Panels" "down" "[I", .fieldLink RX4 18 "NetShapes$Panels" "deep" "[I"] ++ wsX40)
def wsX4_add : List Cond := .code yX4_add cX4_add 5 (some .int) :: ([.fieldLink RX4 27 "NetShapes$Panels" "count" "I", .fieldLink RX4 9 "NetShapes$Panels" "top" "[I", .fieldLink RX4 15 "NetShapes$Panels" "bottom" "[I", .fieldLink RX4 18 "NetShapes$Panels" "deep" "[I", .methodLink RX4 40 yX4_lay, .instanceMethod yX4_lay, .selects RX4 yX4_lay yX4_lay, .initialized RX4, .code yX4_lay cX4_lay 3 none, .methodLink RX4 44 Lib.Math.max.name, .static Lib.Math.max.name, .initialized "java/lang/Math", .code Lib.Math.max.name Lib.Math.max.code 2 (some .int), .fieldLink RX4 31 "NetShapes$Panels" "shelfUsed" "I", .fieldLink RX4 34 "NetShapes$Panels" "shelfStart" "I", .fieldLink RX4 37 "NetShapes$Panels" "shelfDeep" "I", .fieldLink RX4 21 "NetShapes$Panels" "across" "[I", .fieldLink RX4 24 "NetShapes$Panels" "down" "[I"] ++ wsX40)
def wsX4_meshesAfter : List Cond := .code yX4_meshesAfter cX4_meshesAfter 4 (some .int) :: ([.fieldLink RX4 15 "NetShapes$Panels" "bottom" "[I", .fieldLink RX4 9 "NetShapes$Panels" "top" "[I", .fieldLink RX4 18 "NetShapes$Panels" "deep" "[I"] ++ wsX40)
def wsX5_init : List Cond := .code yX5_init cX5_init 1 none :: ([.methodLink RX5 3 objectInit, .instanceMethod objectInit, .code objectInit ⟨#[0xb1]⟩ 1 none, .arrayClass .double, .fieldLink RX5 9 "NetShapes$Water" "depths" "[D", .fieldLink RX5 15 "NetShapes$Water" "towardsX" "[D", .fieldLink RX5 18 "NetShapes$Water" "towardsY" "[D", .fieldLink RX5 21 "NetShapes$Water" "count" "I", .fieldLink RX5 25 "NetShapes$Water" "waveShare" "D", .fieldLink RX5 29 "NetShapes$Water" "foulShare" "D"] ++ wsX50)
def wsX5_makeRoomAt : List Cond := .code yX5_makeRoomAt cX5_makeRoomAt 3 none :: ([.fieldLink RX5 21 "NetShapes$Water" "count" "I", .fieldLink RX5 9 "NetShapes$Water" "depths" "[D", .fieldLink RX5 15 "NetShapes$Water" "towardsX" "[D", .fieldLink RX5 18 "NetShapes$Water" "towardsY" "[D"] ++ wsX50)
def wsX5_tell : List Cond := .code yX5_tell cX5_tell 8 (some .boolean) :: ([.fieldLink RX5 9 "NetShapes$Water" "depths" "[D", .fieldLink RX5 21 "NetShapes$Water" "count" "I", .fieldLink RX5 15 "NetShapes$Water" "towardsX" "[D", .fieldLink RX5 18 "NetShapes$Water" "towardsY" "[D", .methodLink RX5 32 yX5_rowAtOrAbove, .instanceMethod yX5_rowAtOrAbove, .selects RX5 yX5_rowAtOrAbove yX5_rowAtOrAbove, .initialized RX5, .code yX5_rowAtOrAbove cX5_rowAtOrAbove 5 (some .int), .methodLink RX5 36 yX5_makeRoomAt, .instanceMethod yX5_makeRoomAt, .selects RX5 yX5_makeRoomAt yX5_makeRoomAt, .code yX5_makeRoomAt cX5_makeRoomAt 3 none] ++ wsX50)
def wsX6_init_r1 : List Cond := [Cond.methodLink RX6 1 objectInit, Cond.instanceMethod objectInit, Cond.code objectInit ⟨#[0xb1]⟩ 1 none, Cond.classLink RX6 7 RX3, Cond.instantiable RX3 6, Cond.initialized RX3, Cond.fieldLink RX6 10 "NetShapes" "nodes" "LNetShapes$Nodes;", Cond.classLink RX6 16 RX1, Cond.instantiable RX1 7, Cond.initialized RX1, Cond.fieldLink RX6 19 "NetShapes" "bars" "LNetShapes$Bars;", Cond.classLink RX6 23 RX5, Cond.instantiable RX5 6, Cond.initialized RX5, Cond.fieldLink RX6 26 "NetShapes" "water" "LNetShapes$Water;", Cond.classLink RX6 30 RX0, Cond.instantiable RX0 7, Cond.initialized RX0, Cond.fieldLink RX6 35 "NetShapes" "balance" "LNetShapes$Balance;", Cond.classLink RX6 39 RX2, Cond.instantiable RX2 3, Cond.initialized RX2, Cond.fieldLink RX6 42 "NetShapes" "fuels" "LNetShapes$Fuels;", Cond.classLink RX6 46 RX4]
def wsX6_init_r2 : List Cond := [Cond.instantiable RX4 9, Cond.initialized RX4, Cond.fieldLink RX6 49 "NetShapes" "panels" "LNetShapes$Panels;", Cond.instanceMethod yX3_init, Cond.code yX3_init cX3_init 1 none, Cond.methodLink RX3 3 objectInit, Cond.classLink RX3 9 "[[D", Cond.arrayClass .double, Cond.fieldLink RX3 11 "NetShapes$Nodes" "places" "[[D", Cond.fieldLink RX3 16 "NetShapes$Nodes" "forces" "[[D", Cond.fieldLink RX3 19 "NetShapes$Nodes" "lift" "[D", Cond.fieldLink RX3 23 "NetShapes$Nodes" "load" "[D", Cond.arrayClass .boolean, Cond.fieldLink RX3 26 "NetShapes$Nodes" "fixed" "[Z", Cond.fieldLink RX3 30 "NetShapes$Nodes" "count" "I", Cond.instanceMethod yX1_init, Cond.code yX1_init cX1_init 1 none, Cond.methodLink RX1 3 objectInit, Cond.arrayClass .int, Cond.fieldLink RX1 9 "NetShapes$Bars" "from" "[I", Cond.fieldLink RX1 15 "NetShapes$Bars" "to" "[I", Cond.fieldLink RX1 18 "NetShapes$Bars" "length" "[D", Cond.fieldLink RX1 22 "NetShapes$Bars" "width" "[D", Cond.fieldLink RX1 25 "NetShapes$Bars" "strength" "[D"]
def wsX6_init_r3 : List Cond := [Cond.fieldLink RX1 28 "NetShapes$Bars" "pulls" "[D", Cond.fieldLink RX1 31 "NetShapes$Bars" "count" "I", Cond.instanceMethod yX5_init, Cond.code yX5_init cX5_init 1 none, Cond.methodLink RX5 3 objectInit, Cond.fieldLink RX5 9 "NetShapes$Water" "depths" "[D", Cond.fieldLink RX5 15 "NetShapes$Water" "towardsX" "[D", Cond.fieldLink RX5 18 "NetShapes$Water" "towardsY" "[D", Cond.fieldLink RX5 21 "NetShapes$Water" "count" "I", Cond.fieldLink RX5 25 "NetShapes$Water" "waveShare" "D", Cond.fieldLink RX5 29 "NetShapes$Water" "foulShare" "D", Cond.methodLink RX6 32 yX0_init, Cond.instanceMethod yX0_init, Cond.code yX0_init cX0_init 4 none, Cond.methodLink RX0 3 objectInit, Cond.fieldLink RX0 9 "NetShapes$Balance" "drags" "[D", Cond.constantDouble RX0 15 (13830554455654793216), Cond.fieldLink RX0 17 "NetShapes$Balance" "greatestForce" "D", Cond.fieldLink RX0 21 "NetShapes$Balance" "span" "[D", Cond.fieldLink RX0 24 "NetShapes$Balance" "acrossFlow" "[D", Cond.fieldLink RX0 27 "NetShapes$Balance" "nodes" "LNetShapes$Nodes;", Cond.fieldLink RX0 31 "NetShapes$Balance" "bars" "LNetShapes$Bars;", Cond.fieldLink RX0 35 "NetShapes$Balance" "water" "LNetShapes$Water;", Cond.instanceMethod yX2_init]
def wsX6_init_r4 : List Cond := [Cond.code yX2_init cX2_init 1 none, Cond.methodLink RX2 3 objectInit, Cond.fieldLink RX2 9 "NetShapes$Fuels" "kept" "[D", Cond.fieldLink RX2 15 "NetShapes$Fuels" "count" "I", Cond.fieldLink RX2 19 "NetShapes$Fuels" "next" "I", Cond.instanceMethod yX4_init, Cond.code yX4_init cX4_init 1 none, Cond.methodLink RX4 3 objectInit, Cond.fieldLink RX4 9 "NetShapes$Panels" "top" "[I", Cond.fieldLink RX4 15 "NetShapes$Panels" "bottom" "[I", Cond.fieldLink RX4 18 "NetShapes$Panels" "deep" "[I", Cond.fieldLink RX4 21 "NetShapes$Panels" "across" "[I", Cond.fieldLink RX4 24 "NetShapes$Panels" "down" "[I", Cond.fieldLink RX4 27 "NetShapes$Panels" "count" "I", Cond.fieldLink RX4 31 "NetShapes$Panels" "shelfUsed" "I", Cond.fieldLink RX4 34 "NetShapes$Panels" "shelfStart" "I", Cond.fieldLink RX4 37 "NetShapes$Panels" "shelfDeep" "I"]
def wsX6_init : List Cond := .code yX6_init cX6_init 1 none :: ((wsX6_init_r1 ++ (wsX6_init_r2 ++ (wsX6_init_r3 ++ wsX6_init_r4))) ++ wsX30 ++ wsX60 ++ wsX10 ++ wsX50 ++ wsX00 ++ wsX20 ++ wsX40)
def wsX6_within : List Cond := .code yX6_within cX6_within 6 (some .boolean) :: ([])
def wsX6_isPlace : List Cond := .code yX6_isPlace cX6_isPlace 2 (some .boolean) :: ([.constantDouble RX6 204 (13875379345695965184), .constantDouble RX6 72 (4652007308841189376), .methodLink RX6 74 yX6_within, .static yX6_within, .initialized RX6, .code yX6_within cX6_within 6 (some .boolean)])
def wsX6_node : List Cond := .code yX6_node cX6_node 7 (some .int) :: ([.fieldLink RX6 10 "NetShapes" "nodes" "LNetShapes$Nodes;", .fieldLink RX6 53 "NetShapes$Nodes" "count" "I", .methodLink RX6 57 yX6_isPlace, .static yX6_isPlace, .initialized RX6, .code yX6_isPlace cX6_isPlace 2 (some .boolean), .constantDouble RX6 204 (13875379345695965184), .constantDouble RX6 72 (4652007308841189376), .methodLink RX6 74 yX6_within, .static yX6_within, .code yX6_within cX6_within 6 (some .boolean), .methodLink RX6 61 yX3_add, .instanceMethod yX3_add, .selects RX3 yX3_add yX3_add, .initialized RX3, .code yX3_add cX3_add 8 (some .int), .fieldLink RX3 30 "NetShapes$Nodes" "count" "I", .fieldLink RX3 11 "NetShapes$Nodes" "places" "[[D"] ++ wsX60 ++ wsX30)
def wsX6_bar_r1 : List Cond := [Cond.fieldLink RX6 10 "NetShapes" "nodes" "LNetShapes$Nodes;", Cond.fieldLink RX6 19 "NetShapes" "bars" "LNetShapes$Bars;", Cond.fieldLink RX6 69 "NetShapes$Bars" "count" "I", Cond.constantDouble RX6 70 (4593671619917905920), Cond.constantDouble RX6 72 (4652007308841189376), Cond.constantDouble RX6 78 (4621819117588971520), Cond.constantDouble RX6 80 (4696837146684686336), Cond.methodLink RX6 65 yX3_has, Cond.instanceMethod yX3_has, Cond.selects RX3 yX3_has yX3_has, Cond.initialized RX3, Cond.code yX3_has cX3_has 2 (some .boolean), Cond.fieldLink RX3 30 "NetShapes$Nodes" "count" "I", Cond.methodLink RX6 74 yX6_within, Cond.static yX6_within, Cond.initialized RX6, Cond.code yX6_within cX6_within 6 (some .boolean), Cond.methodLink RX6 82 yX1_add, Cond.instanceMethod yX1_add, Cond.selects RX1 yX1_add yX1_add, Cond.initialized RX1, Cond.code yX1_add cX1_add 10 (some .int), Cond.fieldLink RX1 31 "NetShapes$Bars" "count" "I", Cond.fieldLink RX1 9 "NetShapes$Bars" "from" "[I"]
def wsX6_bar_r2 : List Cond := [Cond.fieldLink RX1 15 "NetShapes$Bars" "to" "[I", Cond.fieldLink RX1 18 "NetShapes$Bars" "length" "[D", Cond.fieldLink RX1 22 "NetShapes$Bars" "width" "[D", Cond.fieldLink RX1 25 "NetShapes$Bars" "strength" "[D", Cond.fieldLink RX1 28 "NetShapes$Bars" "pulls" "[D", Cond.constantDouble RX1 35 (13830554455654793216)]
def wsX6_bar : List Cond := .code yX6_bar cX6_bar 9 (some .int) :: ((wsX6_bar_r1 ++ wsX6_bar_r2) ++ wsX60 ++ wsX10 ++ wsX30)
def wsX6_fix : List Cond := .code yX6_fix cX6_fix 2 (some .boolean) :: ([.fieldLink RX6 10 "NetShapes" "nodes" "LNetShapes$Nodes;", .fieldLink RX6 85 "NetShapes$Nodes" "fixed" "[Z", .methodLink RX6 65 yX3_has, .instanceMethod yX3_has, .selects RX3 yX3_has yX3_has, .initialized RX3, .code yX3_has cX3_has 2 (some .boolean), .fieldLink RX3 30 "NetShapes$Nodes" "count" "I"] ++ wsX60 ++ wsX30)
def wsX6_floats : List Cond := .code yX6_floats cX6_floats 4 (some .boolean) :: ([.fieldLink RX6 10 "NetShapes" "nodes" "LNetShapes$Nodes;", .constantDouble RX6 89 (13904980397738950656), .constantDouble RX6 91 (4681608360884174848), .fieldLink RX6 93 "NetShapes$Nodes" "lift" "[D", .methodLink RX6 65 yX3_has, .instanceMethod yX3_has, .selects RX3 yX3_has yX3_has, .initialized RX3, .code yX3_has cX3_has 2 (some .boolean), .fieldLink RX3 30 "NetShapes$Nodes" "count" "I", .methodLink RX6 74 yX6_within, .static yX6_within, .initialized RX6, .code yX6_within cX6_within 6 (some .boolean)] ++ wsX60 ++ wsX30)
def wsX6_eighthOfTurn : List Cond := .code yX6_eighthOfTurn cX6_eighthOfTurn 3 (some .int) :: ([])
def wsX6_partTowardsX : List Cond := .code yX6_partTowardsX cX6_partTowardsX 5 (some .double) :: ([.constantDouble RX6 206 (4604544271217802189)])
def wsX6_current_r1 : List Cond := [Cond.constantDouble RX6 78 (4621819117588971520), Cond.fieldLink RX6 26 "NetShapes" "water" "LNetShapes$Water;", Cond.methodLink RX6 97 yX6_eighthOfTurn, Cond.static yX6_eighthOfTurn, Cond.initialized RX6, Cond.code yX6_eighthOfTurn cX6_eighthOfTurn 3 (some .int), Cond.methodLink RX6 57 yX6_isPlace, Cond.static yX6_isPlace, Cond.code yX6_isPlace cX6_isPlace 2 (some .boolean), Cond.constantDouble RX6 204 (13875379345695965184), Cond.constantDouble RX6 72 (4652007308841189376), Cond.methodLink RX6 74 yX6_within, Cond.static yX6_within, Cond.code yX6_within cX6_within 6 (some .boolean), Cond.methodLink RX6 101 yX6_partTowardsX, Cond.static yX6_partTowardsX, Cond.code yX6_partTowardsX cX6_partTowardsX 5 (some .double), Cond.constantDouble RX6 206 (4604544271217802189), Cond.methodLink RX6 105 yX5_tell, Cond.instanceMethod yX5_tell, Cond.selects RX5 yX5_tell yX5_tell, Cond.initialized RX5, Cond.code yX5_tell cX5_tell 8 (some .boolean), Cond.fieldLink RX5 9 "NetShapes$Water" "depths" "[D"]
def wsX6_current_r2 : List Cond := [Cond.fieldLink RX5 21 "NetShapes$Water" "count" "I", Cond.fieldLink RX5 15 "NetShapes$Water" "towardsX" "[D", Cond.fieldLink RX5 18 "NetShapes$Water" "towardsY" "[D", Cond.methodLink RX5 32 yX5_rowAtOrAbove, Cond.instanceMethod yX5_rowAtOrAbove, Cond.selects RX5 yX5_rowAtOrAbove yX5_rowAtOrAbove, Cond.code yX5_rowAtOrAbove cX5_rowAtOrAbove 5 (some .int), Cond.methodLink RX5 36 yX5_makeRoomAt, Cond.instanceMethod yX5_makeRoomAt, Cond.selects RX5 yX5_makeRoomAt yX5_makeRoomAt, Cond.code yX5_makeRoomAt cX5_makeRoomAt 3 none]
def wsX6_current : List Cond := .code yX6_current cX6_current 9 (some .boolean) :: ((wsX6_current_r1 ++ wsX6_current_r2) ++ wsX60 ++ wsX50)
def wsX6_run_r1 : List Cond := [Cond.fieldLink RX6 10 "NetShapes" "nodes" "LNetShapes$Nodes;", Cond.fieldLink RX6 53 "NetShapes$Nodes" "count" "I", Cond.fieldLink RX6 35 "NetShapes" "balance" "LNetShapes$Balance;", Cond.fieldLink RX6 42 "NetShapes" "fuels" "LNetShapes$Fuels;", Cond.fieldLink RX6 112 "NetShapes$Balance" "drags" "[D", Cond.methodLink RX6 108 yX0_comesInRound, Cond.instanceMethod yX0_comesInRound, Cond.selects RX0 yX0_comesInRound yX0_comesInRound, Cond.initialized RX0, Cond.code yX0_comesInRound cX0_comesInRound 4 (some .boolean), Cond.fieldLink RX0 27 "NetShapes$Balance" "nodes" "LNetShapes$Nodes;", Cond.fieldLink RX0 9 "NetShapes$Balance" "drags" "[D", Cond.fieldLink RX0 31 "NetShapes$Balance" "bars" "LNetShapes$Bars;", Cond.fieldLink RX0 44 "NetShapes$Bars" "count" "I", Cond.fieldLink RX0 17 "NetShapes$Balance" "greatestForce" "D", Cond.methodLink RX0 39 yX3_startForces, Cond.instanceMethod yX3_startForces, Cond.selects RX3 yX3_startForces yX3_startForces, Cond.initialized RX3, Cond.code yX3_startForces cX3_startForces 2 none, Cond.fieldLink RX3 30 "NetShapes$Nodes" "count" "I", Cond.fieldLink RX3 16 "NetShapes$Nodes" "forces" "[[D", Cond.fieldLink RX3 23 "NetShapes$Nodes" "load" "[D", Cond.fieldLink RX3 19 "NetShapes$Nodes" "lift" "[D"]
def wsX6_run_r2 : List Cond := [Cond.methodLink RX0 50 yX0_measure, Cond.instanceMethod yX0_measure, Cond.selects RX0 yX0_measure yX0_measure, Cond.code yX0_measure cX0_measure 4 (some .double), Cond.fieldLink RX0 67 "NetShapes$Nodes" "places" "[[D", Cond.fieldLink RX0 21 "NetShapes$Balance" "span" "[D", Cond.fieldLink RX0 71 "NetShapes$Bars" "to" "[I", Cond.fieldLink RX0 75 "NetShapes$Bars" "from" "[I", Cond.methodLink RX0 78 yX0_lengthOf, Cond.static yX0_lengthOf, Cond.code yX0_lengthOf cX0_lengthOf 1 (some .double), Cond.static yX6_root, Cond.initialized RX6, Cond.code yX6_root cX6_root 7 (some .double), Cond.constantDouble RX6 208 (4602678819172646912), Cond.methodLink RX0 54 yX0_tighten, Cond.instanceMethod yX0_tighten, Cond.selects RX0 yX0_tighten yX0_tighten, Cond.code yX0_tighten cX0_tighten 11 none, Cond.fieldLink RX0 86 "NetShapes$Bars" "length" "[D", Cond.constantDouble RX0 89 (4656510908468559872), Cond.fieldLink RX0 91 "NetShapes$Bars" "pulls" "[D", Cond.fieldLink RX0 94 "NetShapes$Nodes" "forces" "[[D", Cond.methodLink RX0 58 yX0_wash]
def wsX6_run_r3 : List Cond := [Cond.instanceMethod yX0_wash, Cond.selects RX0 yX0_wash yX0_wash, Cond.code yX0_wash cX0_wash 7 none, Cond.constantDouble RX0 100 (4638707616191610880), Cond.fieldLink RX0 102 "NetShapes$Bars" "width" "[D", Cond.fieldLink RX0 35 "NetShapes$Balance" "water" "LNetShapes$Water;", Cond.fieldLink RX0 105 "NetShapes$Water" "foulShare" "D", Cond.fieldLink RX0 24 "NetShapes$Balance" "acrossFlow" "[D", Cond.constantDouble RX0 110 (4611686018427387904), Cond.methodLink RX0 97 yX0_findFlowAcross, Cond.instanceMethod yX0_findFlowAcross, Cond.selects RX0 yX0_findFlowAcross yX0_findFlowAcross, Cond.code yX0_findFlowAcross cX0_findFlowAcross 14 none, Cond.constantDouble RX0 112 (4602678819172646912), Cond.fieldLink RX0 118 "NetShapes$Water" "towardsX" "[D", Cond.fieldLink RX0 125 "NetShapes$Water" "towardsY" "[D", Cond.methodLink RX0 114 yX5_rowAtOrAbove, Cond.instanceMethod yX5_rowAtOrAbove, Cond.selects RX5 yX5_rowAtOrAbove yX5_rowAtOrAbove, Cond.initialized RX5, Cond.code yX5_rowAtOrAbove cX5_rowAtOrAbove 5 (some .int), Cond.fieldLink RX5 21 "NetShapes$Water" "count" "I", Cond.fieldLink RX5 9 "NetShapes$Water" "depths" "[D", Cond.methodLink RX0 121 yX5_speedAt]
def wsX6_run_r4 : List Cond := [Cond.instanceMethod yX5_speedAt, Cond.selects RX5 yX5_speedAt yX5_speedAt, Cond.code yX5_speedAt cX5_speedAt 5 (some .double), Cond.fieldLink RX5 25 "NetShapes$Water" "waveShare" "D", Cond.methodLink RX5 40 yX5_speedOfRows, Cond.instanceMethod yX5_speedOfRows, Cond.selects RX5 yX5_speedOfRows yX5_speedOfRows, Cond.code yX5_speedOfRows cX5_speedOfRows 7 (some .double), Cond.methodLink RX0 61 yX3_greatestForce, Cond.instanceMethod yX3_greatestForce, Cond.selects RX3 yX3_greatestForce yX3_greatestForce, Cond.code yX3_greatestForce cX3_greatestForce 7 (some .double), Cond.fieldLink RX3 26 "NetShapes$Nodes" "fixed" "[Z", Cond.static yX6_size, Cond.code yX6_size cX6_size 2 (some .double), Cond.methodLink RX0 64 yX3_giveWay, Cond.instanceMethod yX3_giveWay, Cond.selects RX3 yX3_giveWay yX3_giveWay, Cond.code yX3_giveWay cX3_giveWay 3 none, Cond.fieldLink RX3 11 "NetShapes$Nodes" "places" "[[D", Cond.methodLink RX3 38 yX3_stepFor, Cond.static yX3_stepFor, Cond.code yX3_stepFor cX3_stepFor 6 (some .double), Cond.constantDouble RX3 41 (4598175219545276416)]
def wsX6_run_r5 : List Cond := [Cond.constantDouble RX3 43 (4557750909289998844), Cond.methodLink RX6 115 yX6_size, Cond.methodLink RX6 119 yX3_spread, Cond.instanceMethod yX3_spread, Cond.selects RX3 yX3_spread yX3_spread, Cond.code yX3_spread cX3_spread 8 (some .double), Cond.methodLink RX6 123 yX2_add, Cond.instanceMethod yX2_add, Cond.selects RX2 yX2_add yX2_add, Cond.initialized RX2, Cond.code yX2_add cX2_add 3 none, Cond.fieldLink RX2 9 "NetShapes$Fuels" "kept" "[D", Cond.fieldLink RX2 19 "NetShapes$Fuels" "next" "I", Cond.fieldLink RX2 15 "NetShapes$Fuels" "count" "I", Cond.methodLink RX2 22 Lib.Math.min.name, Cond.static Lib.Math.min.name, Cond.initialized "java/lang/Math", Cond.code Lib.Math.min.name Lib.Math.min.code 2 (some .int)]
def wsX6_run : List Cond := .code yX6_run cX6_run 3 (some .int) :: ((wsX6_run_r1 ++ (wsX6_run_r2 ++ (wsX6_run_r3 ++ (wsX6_run_r4 ++ wsX6_run_r5)))) ++ wsX60 ++ wsX30 ++ wsX00 ++ wsX10 ++ wsX50 ++ wsX20)
def wsX6_isAxis : List Cond := .code yX6_isAxis cX6_isAxis 1 (some .boolean) :: ([])
def wsX6_at : List Cond := .code yX6_at cX6_at 3 (some .double) :: ([.fieldLink RX6 10 "NetShapes" "nodes" "LNetShapes$Nodes;", .fieldLink RX6 129 "NetShapes$Nodes" "places" "[[D", .methodLink RX6 65 yX3_has, .instanceMethod yX3_has, .selects RX3 yX3_has yX3_has, .initialized RX3, .code yX3_has cX3_has 2 (some .boolean), .fieldLink RX3 30 "NetShapes$Nodes" "count" "I", .methodLink RX6 126 yX6_isAxis, .static yX6_isAxis, .initialized RX6, .code yX6_isAxis cX6_isAxis 1 (some .boolean)] ++ wsX60 ++ wsX30)
def wsX6_pull : List Cond := .code yX6_pull cX6_pull 2 (some .double) :: ([.fieldLink RX6 19 "NetShapes" "bars" "LNetShapes$Bars;", .fieldLink RX6 134 "NetShapes$Bars" "pulls" "[D", .constantDouble RX6 137 (13830554455654793216), .methodLink RX6 133 yX1_has, .instanceMethod yX1_has, .selects RX1 yX1_has yX1_has, .initialized RX1, .code yX1_has cX1_has 2 (some .boolean), .fieldLink RX1 31 "NetShapes$Bars" "count" "I"] ++ wsX60 ++ wsX10)
def wsX6_residual : List Cond := .code yX6_residual cX6_residual 1 (some .double) :: ([.fieldLink RX6 35 "NetShapes" "balance" "LNetShapes$Balance;", .fieldLink RX6 139 "NetShapes$Balance" "greatestForce" "D"] ++ wsX60 ++ wsX00)
def wsX6_drag : List Cond := .code yX6_drag cX6_drag 2 (some .double) :: ([.fieldLink RX6 35 "NetShapes" "balance" "LNetShapes$Balance;", .fieldLink RX6 112 "NetShapes$Balance" "drags" "[D", .methodLink RX6 126 yX6_isAxis, .static yX6_isAxis, .initialized RX6, .code yX6_isAxis cX6_isAxis 1 (some .boolean)] ++ wsX60 ++ wsX00)
def wsX6_over : List Cond := .code yX6_over cX6_over 2 (some .int) :: ([.fieldLink RX6 19 "NetShapes" "bars" "LNetShapes$Bars;", .methodLink RX6 143 yX1_overloaded, .instanceMethod yX1_overloaded, .selects RX1 yX1_overloaded yX1_overloaded, .initialized RX1, .code yX1_overloaded cX1_overloaded 4 (some .int), .fieldLink RX1 31 "NetShapes$Bars" "count" "I", .fieldLink RX1 28 "NetShapes$Bars" "pulls" "[D", .fieldLink RX1 25 "NetShapes$Bars" "strength" "[D"] ++ wsX60 ++ wsX10)
def wsX6_open : List Cond := .code yX6_open cX6_open 2 (some .double) :: ([.fieldLink RX6 10 "NetShapes" "nodes" "LNetShapes$Nodes;", .fieldLink RX6 53 "NetShapes$Nodes" "count" "I", .constantDouble RX6 137 (13830554455654793216), .methodLink RX6 126 yX6_isAxis, .static yX6_isAxis, .initialized RX6, .code yX6_isAxis cX6_isAxis 1 (some .boolean), .methodLink RX6 119 yX3_spread, .instanceMethod yX3_spread, .selects RX3 yX3_spread yX3_spread, .initialized RX3, .code yX3_spread cX3_spread 8 (some .double), .fieldLink RX3 11 "NetShapes$Nodes" "places" "[[D", .fieldLink RX3 30 "NetShapes$Nodes" "count" "I"] ++ wsX60 ++ wsX30)
def wsX6_catchAt : List Cond := .code yX6_catchAt cX6_catchAt 4 (some .boolean) :: ([.fieldLink RX6 10 "NetShapes" "nodes" "LNetShapes$Nodes;", .constantDouble RX6 91 (4681608360884174848), .fieldLink RX6 147 "NetShapes$Nodes" "load" "[D", .methodLink RX6 65 yX3_has, .instanceMethod yX3_has, .selects RX3 yX3_has yX3_has, .initialized RX3, .code yX3_has cX3_has 2 (some .boolean), .fieldLink RX3 30 "NetShapes$Nodes" "count" "I", .methodLink RX6 74 yX6_within, .static yX6_within, .initialized RX6, .code yX6_within cX6_within 6 (some .boolean)] ++ wsX60 ++ wsX30)
def wsX6_isPanelWidth : List Cond := .code yX6_isPanelWidth cX6_isPanelWidth 1 (some .boolean) :: ([])
def wsX6_panel_r1 : List Cond := [Cond.fieldLink RX6 49 "NetShapes" "panels" "LNetShapes$Panels;", Cond.fieldLink RX6 150 "NetShapes$Panels" "count" "I", Cond.methodLink RX6 151 yX6_isPanelWidth, Cond.static yX6_isPanelWidth, Cond.initialized RX6, Cond.code yX6_isPanelWidth cX6_isPanelWidth 1 (some .boolean), Cond.methodLink RX6 154 yX4_add, Cond.instanceMethod yX4_add, Cond.selects RX4 yX4_add yX4_add, Cond.initialized RX4, Cond.code yX4_add cX4_add 5 (some .int), Cond.fieldLink RX4 27 "NetShapes$Panels" "count" "I", Cond.fieldLink RX4 9 "NetShapes$Panels" "top" "[I", Cond.fieldLink RX4 15 "NetShapes$Panels" "bottom" "[I", Cond.fieldLink RX4 18 "NetShapes$Panels" "deep" "[I", Cond.methodLink RX4 40 yX4_lay, Cond.instanceMethod yX4_lay, Cond.selects RX4 yX4_lay yX4_lay, Cond.code yX4_lay cX4_lay 3 none, Cond.methodLink RX4 44 Lib.Math.max.name, Cond.static Lib.Math.max.name, Cond.initialized "java/lang/Math", Cond.code Lib.Math.max.name Lib.Math.max.code 2 (some .int), Cond.fieldLink RX4 31 "NetShapes$Panels" "shelfUsed" "I"]
def wsX6_panel_r2 : List Cond := [Cond.fieldLink RX4 34 "NetShapes$Panels" "shelfStart" "I", Cond.fieldLink RX4 37 "NetShapes$Panels" "shelfDeep" "I", Cond.fieldLink RX4 21 "NetShapes$Panels" "across" "[I", Cond.fieldLink RX4 24 "NetShapes$Panels" "down" "[I"]
def wsX6_panel : List Cond := .code yX6_panel cX6_panel 4 (some .int) :: ((wsX6_panel_r1 ++ wsX6_panel_r2) ++ wsX60 ++ wsX40)
def wsX6_cut : List Cond := .code yX6_cut cX6_cut 4 (some .int) :: ([.fieldLink RX6 49 "NetShapes" "panels" "LNetShapes$Panels;", .fieldLink RX6 158 "NetShapes$Panels" "deep" "[I", .methodLink RX6 157 yX4_has, .instanceMethod yX4_has, .selects RX4 yX4_has yX4_has, .initialized RX4, .code yX4_has cX4_has 2 (some .boolean), .fieldLink RX4 27 "NetShapes$Panels" "count" "I", .methodLink RX6 162 yX4_meshesAfter, .instanceMethod yX4_meshesAfter, .selects RX4 yX4_meshesAfter yX4_meshesAfter, .code yX4_meshesAfter cX4_meshesAfter 4 (some .int), .fieldLink RX4 15 "NetShapes$Panels" "bottom" "[I", .fieldLink RX4 9 "NetShapes$Panels" "top" "[I", .fieldLink RX4 18 "NetShapes$Panels" "deep" "[I"] ++ wsX60 ++ wsX40)
def wsX6_whole : List Cond := .code yX6_whole cX6_whole 2 (some .boolean) :: ([.fieldLink RX6 49 "NetShapes" "panels" "LNetShapes$Panels;", .fieldLink RX6 166 "NetShapes$Panels" "bottom" "[I", .fieldLink RX6 169 "NetShapes$Panels" "top" "[I", .methodLink RX6 157 yX4_has, .instanceMethod yX4_has, .selects RX4 yX4_has yX4_has, .initialized RX4, .code yX4_has cX4_has 2 (some .boolean), .fieldLink RX4 27 "NetShapes$Panels" "count" "I"] ++ wsX60 ++ wsX40)
def wsX6_edge : List Cond := .code yX6_edge cX6_edge 3 (some .int) :: ([.fieldLink RX6 49 "NetShapes" "panels" "LNetShapes$Panels;", .fieldLink RX6 166 "NetShapes$Panels" "bottom" "[I", .fieldLink RX6 169 "NetShapes$Panels" "top" "[I", .methodLink RX6 172 Lib.Math.min.name, .static Lib.Math.min.name, .initialized "java/lang/Math", .code Lib.Math.min.name Lib.Math.min.code 2 (some .int), .methodLink RX6 157 yX4_has, .instanceMethod yX4_has, .selects RX4 yX4_has yX4_has, .initialized RX4, .code yX4_has cX4_has 2 (some .boolean), .fieldLink RX4 27 "NetShapes$Panels" "count" "I"] ++ wsX60 ++ wsX40)
def wsX6_foul : List Cond := .code yX6_foul cX6_foul 3 (some .boolean) :: ([.constantDouble RX6 177 (4617315517961601024), .fieldLink RX6 26 "NetShapes" "water" "LNetShapes$Water;", .fieldLink RX6 179 "NetShapes$Water" "foulShare" "D", .methodLink RX6 74 yX6_within, .static yX6_within, .initialized RX6, .code yX6_within cX6_within 6 (some .boolean)] ++ wsX60 ++ wsX50)
def wsX6_wave : List Cond := .code yX6_wave cX6_wave 6 (some .int) :: ([.constantDouble RX6 182 (4629137466983448576), .constantDouble RX6 184 (4633641066610819072), .fieldLink RX6 26 "NetShapes" "water" "LNetShapes$Water;", .constantDouble RX6 186 (4636737291354636288), .fieldLink RX6 188 "NetShapes$Water" "waveShare" "D", .fieldLink RX6 191 "NetShapes$Water" "count" "I", .methodLink RX6 74 yX6_within, .static yX6_within, .initialized RX6, .code yX6_within cX6_within 6 (some .boolean)] ++ wsX60 ++ wsX50)
def wsX6_mirrored : List Cond := .code yX6_mirrored cX6_mirrored 2 (some .boolean) :: ([.fieldLink RX6 10 "NetShapes" "nodes" "LNetShapes$Nodes;", .fieldLink RX6 53 "NetShapes$Nodes" "count" "I", .methodLink RX6 192 yX3_hasMirrorImage, .instanceMethod yX3_hasMirrorImage, .selects RX3 yX3_hasMirrorImage yX3_hasMirrorImage, .initialized RX3, .code yX3_hasMirrorImage cX3_hasMirrorImage 5 (some .boolean), .fieldLink RX3 11 "NetShapes$Nodes" "places" "[[D", .fieldLink RX3 30 "NetShapes$Nodes" "count" "I"] ++ wsX60 ++ wsX30)
def wsX6_best : List Cond := .code yX6_best cX6_best 2 (some .int) :: ([.fieldLink RX6 42 "NetShapes" "fuels" "LNetShapes$Fuels;", .methodLink RX6 195 yX2_leastOfLatest, .instanceMethod yX2_leastOfLatest, .selects RX2 yX2_leastOfLatest yX2_leastOfLatest, .initialized RX2, .code yX2_leastOfLatest cX2_leastOfLatest 4 (some .int), .fieldLink RX2 15 "NetShapes$Fuels" "count" "I", .methodLink RX2 28 yX2_backwards, .instanceMethod yX2_backwards, .selects RX2 yX2_backwards yX2_backwards, .code yX2_backwards cX2_backwards 2 (some .double), .fieldLink RX2 9 "NetShapes$Fuels" "kept" "[D", .fieldLink RX2 19 "NetShapes$Fuels" "next" "I", .methodLink RX2 32 yJ9_floorMod_7cf53, .static yJ9_floorMod_7cf53, .initialized RJ9, .code yJ9_floorMod_7cf53 cJ9_floorMod_7cf53 3 (some .int)] ++ wsX60 ++ wsX20)
def wsX6_sheet : List Cond := .code yX6_sheet cX6_sheet 3 (some .int) :: ([.fieldLink RX6 49 "NetShapes" "panels" "LNetShapes$Panels;", .fieldLink RX6 198 "NetShapes$Panels" "across" "[I", .fieldLink RX6 201 "NetShapes$Panels" "down" "[I", .methodLink RX6 157 yX4_has, .instanceMethod yX4_has, .selects RX4 yX4_has yX4_has, .initialized RX4, .code yX4_has cX4_has 2 (some .boolean), .fieldLink RX4 27 "NetShapes$Panels" "count" "I"] ++ wsX60 ++ wsX40)
def wsX7_init_r1 : List Cond := [Cond.methodLink RX7 1 objectInit, Cond.instanceMethod objectInit, Cond.code objectInit ⟨#[0xb1]⟩ 1 none, Cond.arrayClass .double, Cond.fieldLink RX7 7 "NetShapesModel" "x" "[D", Cond.fieldLink RX7 13 "NetShapesModel" "y" "[D", Cond.fieldLink RX7 16 "NetShapesModel" "z" "[D", Cond.fieldLink RX7 19 "NetShapesModel" "lift" "[D", Cond.fieldLink RX7 22 "NetShapesModel" "caught" "[D", Cond.arrayClass .boolean, Cond.fieldLink RX7 25 "NetShapesModel" "fixed" "[Z", Cond.fieldLink RX7 29 "NetShapesModel" "fx" "[D", Cond.fieldLink RX7 32 "NetShapesModel" "fy" "[D", Cond.fieldLink RX7 35 "NetShapesModel" "fz" "[D", Cond.arrayClass .int, Cond.fieldLink RX7 38 "NetShapesModel" "from" "[I", Cond.fieldLink RX7 42 "NetShapesModel" "to" "[I", Cond.fieldLink RX7 45 "NetShapesModel" "natural" "[D", Cond.fieldLink RX7 48 "NetShapesModel" "width" "[D", Cond.fieldLink RX7 51 "NetShapesModel" "strong" "[D", Cond.fieldLink RX7 54 "NetShapesModel" "pulls" "[D", Cond.fieldLink RX7 57 "NetShapesModel" "rowDepth" "[D", Cond.fieldLink RX7 60 "NetShapesModel" "rowX" "[D", Cond.fieldLink RX7 63 "NetShapesModel" "rowY" "[D"]
def wsX7_init_r2 : List Cond := [Cond.constantDouble RX7 66 (13830554455654793216), Cond.fieldLink RX7 68 "NetShapesModel" "residual" "D", Cond.fieldLink RX7 72 "NetShapesModel" "drags" "[D", Cond.fieldLink RX7 75 "NetShapesModel" "fuels" "[D", Cond.fieldLink RX7 78 "NetShapesModel" "tops" "[I", Cond.fieldLink RX7 81 "NetShapesModel" "bottoms" "[I", Cond.fieldLink RX7 84 "NetShapesModel" "deeps" "[I"]
def wsX7_init : List Cond := .code yX7_init cX7_init 1 none :: ((wsX7_init_r1 ++ wsX7_init_r2) ++ wsX70)
def wsX7_isIn : List Cond := .code yX7_isIn cX7_isIn 6 (some .boolean) :: ([])
def wsX7_root : List Cond := .code yX7_root cX7_root 5 (some .double) :: ([.constantDouble RX7 87 (4602678819172646912)])
def wsX7_size : List Cond := .code yX7_size cX7_size 2 (some .double) :: ([])
def wsX7_node : List Cond := .code yX7_node cX7_node 7 (some .int) :: ([.fieldLink RX7 89 "NetShapesModel" "nodes" "I", .constantDouble RX7 93 (13875379345695965184), .constantDouble RX7 95 (4652007308841189376), .fieldLink RX7 7 "NetShapesModel" "x" "[D", .fieldLink RX7 13 "NetShapesModel" "y" "[D", .fieldLink RX7 16 "NetShapesModel" "z" "[D", .methodLink RX7 97 yX7_isIn, .static yX7_isIn, .initialized RX7, .code yX7_isIn cX7_isIn 6 (some .boolean)] ++ wsX70)
def wsX7_isNode : List Cond := .code yX7_isNode cX7_isNode 2 (some .boolean) :: ([.fieldLink RX7 89 "NetShapesModel" "nodes" "I"] ++ wsX70)
def wsX7_bar : List Cond := .code yX7_bar cX7_bar 9 (some .int) :: ([.fieldLink RX7 105 "NetShapesModel" "bars" "I", .constantDouble RX7 108 (4593671619917905920), .constantDouble RX7 95 (4652007308841189376), .constantDouble RX7 110 (4621819117588971520), .constantDouble RX7 112 (4696837146684686336), .fieldLink RX7 38 "NetShapesModel" "from" "[I", .fieldLink RX7 42 "NetShapesModel" "to" "[I", .fieldLink RX7 45 "NetShapesModel" "natural" "[D", .fieldLink RX7 48 "NetShapesModel" "width" "[D", .fieldLink RX7 51 "NetShapesModel" "strong" "[D", .fieldLink RX7 54 "NetShapesModel" "pulls" "[D", .constantDouble RX7 66 (13830554455654793216), .methodLink RX7 101 yX7_isNode, .instanceMethod yX7_isNode, .selects RX7 yX7_isNode yX7_isNode, .initialized RX7, .code yX7_isNode cX7_isNode 2 (some .boolean), .fieldLink RX7 89 "NetShapesModel" "nodes" "I", .methodLink RX7 97 yX7_isIn, .static yX7_isIn, .code yX7_isIn cX7_isIn 6 (some .boolean)] ++ wsX70)
def wsX7_fix : List Cond := .code yX7_fix cX7_fix 2 (some .boolean) :: ([.fieldLink RX7 25 "NetShapesModel" "fixed" "[Z", .methodLink RX7 101 yX7_isNode, .instanceMethod yX7_isNode, .selects RX7 yX7_isNode yX7_isNode, .initialized RX7, .code yX7_isNode cX7_isNode 2 (some .boolean), .fieldLink RX7 89 "NetShapesModel" "nodes" "I"] ++ wsX70)
def wsX7_floats : List Cond := .code yX7_floats cX7_floats 4 (some .boolean) :: ([.constantDouble RX7 114 (13904980397738950656), .constantDouble RX7 116 (4681608360884174848), .fieldLink RX7 19 "NetShapesModel" "lift" "[D", .methodLink RX7 101 yX7_isNode, .instanceMethod yX7_isNode, .selects RX7 yX7_isNode yX7_isNode, .initialized RX7, .code yX7_isNode cX7_isNode 2 (some .boolean), .fieldLink RX7 89 "NetShapesModel" "nodes" "I", .methodLink RX7 97 yX7_isIn, .static yX7_isIn, .code yX7_isIn cX7_isIn 6 (some .boolean)] ++ wsX70)
def wsX7_catchAt : List Cond := .code yX7_catchAt cX7_catchAt 4 (some .boolean) :: ([.constantDouble RX7 116 (4681608360884174848), .fieldLink RX7 22 "NetShapesModel" "caught" "[D", .methodLink RX7 101 yX7_isNode, .instanceMethod yX7_isNode, .selects RX7 yX7_isNode yX7_isNode, .initialized RX7, .code yX7_isNode cX7_isNode 2 (some .boolean), .fieldLink RX7 89 "NetShapesModel" "nodes" "I", .methodLink RX7 97 yX7_isIn, .static yX7_isIn, .code yX7_isIn cX7_isIn 6 (some .boolean)] ++ wsX70)
def wsX7_foul : List Cond := .code yX7_foul cX7_foul 3 (some .boolean) :: ([.constantDouble RX7 118 (4617315517961601024), .fieldLink RX7 120 "NetShapesModel" "fouled" "D", .methodLink RX7 97 yX7_isIn, .static yX7_isIn, .initialized RX7, .code yX7_isIn cX7_isIn 6 (some .boolean)] ++ wsX70)
def wsX7_wave : List Cond := .code yX7_wave cX7_wave 6 (some .int) :: ([.constantDouble RX7 123 (4629137466983448576), .constantDouble RX7 125 (4633641066610819072), .constantDouble RX7 127 (4636737291354636288), .fieldLink RX7 129 "NetShapesModel" "waves" "D", .fieldLink RX7 132 "NetShapesModel" "rows" "I", .methodLink RX7 97 yX7_isIn, .static yX7_isIn, .initialized RX7, .code yX7_isIn cX7_isIn 6 (some .boolean)] ++ wsX70)
def wsX7_current : List Cond := .code yX7_current cX7_current 11 (some .boolean) :: ([.constantDouble RX7 135 (4631530004285489152), .constantDouble RX7 93 (13875379345695965184), .constantDouble RX7 95 (4652007308841189376), .constantDouble RX7 110 (4621819117588971520), .constantDouble RX7 137 (4644249154795601920), .fieldLink RX7 132 "NetShapesModel" "rows" "I", .fieldLink RX7 57 "NetShapesModel" "rowDepth" "[D", .fieldLink RX7 60 "NetShapesModel" "rowX" "[D", .fieldLink RX7 63 "NetShapesModel" "rowY" "[D", .constantDouble RX7 139 (4604544271217802189), .methodLink RX7 97 yX7_isIn, .static yX7_isIn, .initialized RX7, .code yX7_isIn cX7_isIn 6 (some .boolean)] ++ wsX70)
def wsX7_speed : List Cond := .code yX7_speed cX7_speed 11 (some .double) :: ([.fieldLink RX7 132 "NetShapesModel" "rows" "I", .fieldLink RX7 57 "NetShapesModel" "rowDepth" "[D", .fieldLink RX7 60 "NetShapesModel" "rowX" "[D", .fieldLink RX7 63 "NetShapesModel" "rowY" "[D", .fieldLink RX7 129 "NetShapesModel" "waves" "D"] ++ wsX70)
def wsJ9_max_eb370 : List Cond := .code yJ9_max_eb370 cJ9_max_eb370 4 (some .double) :: ([.methodLink RJ9 79 ⟨"java/lang/Double", "doubleToRawLongBits", "(D)J"⟩, .native ⟨"java/lang/Double", "doubleToRawLongBits", "(D)J"⟩, .static ⟨"java/lang/Double", "doubleToRawLongBits", "(D)J"⟩, .initialized "java/lang/Double", .fieldLink RJ9 174 "java/lang/Math" "negativeZeroDoubleBits" "J"])
def wsX7_forces_r1 : List Cond := [Cond.fieldLink RX7 89 "NetShapesModel" "nodes" "I", Cond.fieldLink RX7 29 "NetShapesModel" "fx" "[D", Cond.fieldLink RX7 32 "NetShapesModel" "fy" "[D", Cond.fieldLink RX7 35 "NetShapesModel" "fz" "[D", Cond.fieldLink RX7 22 "NetShapesModel" "caught" "[D", Cond.fieldLink RX7 19 "NetShapesModel" "lift" "[D", Cond.fieldLink RX7 72 "NetShapesModel" "drags" "[D", Cond.fieldLink RX7 105 "NetShapesModel" "bars" "I", Cond.fieldLink RX7 38 "NetShapesModel" "from" "[I", Cond.fieldLink RX7 42 "NetShapesModel" "to" "[I", Cond.fieldLink RX7 7 "NetShapesModel" "x" "[D", Cond.fieldLink RX7 13 "NetShapesModel" "y" "[D", Cond.fieldLink RX7 16 "NetShapesModel" "z" "[D", Cond.fieldLink RX7 54 "NetShapesModel" "pulls" "[D", Cond.fieldLink RX7 45 "NetShapesModel" "natural" "[D", Cond.constantDouble RX7 145 (4656510908468559872), Cond.constantDouble RX7 87 (4602678819172646912), Cond.constantDouble RX7 151 (4638707616191610880), Cond.fieldLink RX7 48 "NetShapesModel" "width" "[D", Cond.fieldLink RX7 120 "NetShapesModel" "fouled" "D", Cond.constantDouble RX7 153 (4611686018427387904), Cond.fieldLink RX7 68 "NetShapesModel" "residual" "D", Cond.fieldLink RX7 25 "NetShapesModel" "fixed" "[Z", Cond.methodLink RX7 141 yX7_root]
def wsX7_forces_r2 : List Cond := [Cond.static yX7_root, Cond.initialized RX7, Cond.code yX7_root cX7_root 5 (some .double), Cond.methodLink RX7 147 yX7_speed, Cond.instanceMethod yX7_speed, Cond.selects RX7 yX7_speed yX7_speed, Cond.code yX7_speed cX7_speed 11 (some .double), Cond.fieldLink RX7 132 "NetShapesModel" "rows" "I", Cond.fieldLink RX7 57 "NetShapesModel" "rowDepth" "[D", Cond.fieldLink RX7 60 "NetShapesModel" "rowX" "[D", Cond.fieldLink RX7 63 "NetShapesModel" "rowY" "[D", Cond.fieldLink RX7 129 "NetShapesModel" "waves" "D", Cond.methodLink RX7 155 yX7_size, Cond.static yX7_size, Cond.code yX7_size cX7_size 2 (some .double), Cond.methodLink RX7 158 yJ9_max_eb370, Cond.static yJ9_max_eb370, Cond.initialized RJ9, Cond.code yJ9_max_eb370 cJ9_max_eb370 4 (some .double), Cond.methodLink RJ9 79 ⟨"java/lang/Double", "doubleToRawLongBits", "(D)J"⟩, Cond.native ⟨"java/lang/Double", "doubleToRawLongBits", "(D)J"⟩, Cond.static ⟨"java/lang/Double", "doubleToRawLongBits", "(D)J"⟩, Cond.initialized "java/lang/Double", Cond.fieldLink RJ9 174 "java/lang/Math" "negativeZeroDoubleBits" "J"]
def wsX7_forces : List Cond := .code yX7_forces cX7_forces 30 none :: ((wsX7_forces_r1 ++ wsX7_forces_r2) ++ wsX70)
def wsX7_moved : List Cond := .code yX7_moved cX7_moved 4 (some .double) :: ([.constantDouble RX7 164 (4557750909289998844), .constantDouble RX7 166 (4598175219545276416), .constantDouble RX7 168 (13821547256400052224)])
def wsX7_at : List Cond := .code yX7_at cX7_at 3 (some .double) :: ([.fieldLink RX7 7 "NetShapesModel" "x" "[D", .fieldLink RX7 13 "NetShapesModel" "y" "[D", .fieldLink RX7 16 "NetShapesModel" "z" "[D", .methodLink RX7 101 yX7_isNode, .instanceMethod yX7_isNode, .selects RX7 yX7_isNode yX7_isNode, .initialized RX7, .code yX7_isNode cX7_isNode 2 (some .boolean), .fieldLink RX7 89 "NetShapesModel" "nodes" "I"] ++ wsX70)
def wsJ9_min_eb370 : List Cond := .code yJ9_min_eb370 cJ9_min_eb370 4 (some .double) :: ([.methodLink RJ9 79 ⟨"java/lang/Double", "doubleToRawLongBits", "(D)J"⟩, .native ⟨"java/lang/Double", "doubleToRawLongBits", "(D)J"⟩, .static ⟨"java/lang/Double", "doubleToRawLongBits", "(D)J"⟩, .initialized "java/lang/Double", .fieldLink RJ9 174 "java/lang/Math" "negativeZeroDoubleBits" "J"])
def wsX7_open_r1 : List Cond := [Cond.fieldLink RX7 89 "NetShapesModel" "nodes" "I", Cond.constantDouble RX7 66 (13830554455654793216), Cond.methodLink RX7 183 yX7_at, Cond.instanceMethod yX7_at, Cond.selects RX7 yX7_at yX7_at, Cond.initialized RX7, Cond.code yX7_at cX7_at 3 (some .double), Cond.fieldLink RX7 7 "NetShapesModel" "x" "[D", Cond.fieldLink RX7 13 "NetShapesModel" "y" "[D", Cond.fieldLink RX7 16 "NetShapesModel" "z" "[D", Cond.methodLink RX7 101 yX7_isNode, Cond.instanceMethod yX7_isNode, Cond.selects RX7 yX7_isNode yX7_isNode, Cond.code yX7_isNode cX7_isNode 2 (some .boolean), Cond.methodLink RX7 187 yJ9_min_eb370, Cond.static yJ9_min_eb370, Cond.initialized RJ9, Cond.code yJ9_min_eb370 cJ9_min_eb370 4 (some .double), Cond.methodLink RJ9 79 ⟨"java/lang/Double", "doubleToRawLongBits", "(D)J"⟩, Cond.native ⟨"java/lang/Double", "doubleToRawLongBits", "(D)J"⟩, Cond.static ⟨"java/lang/Double", "doubleToRawLongBits", "(D)J"⟩, Cond.initialized "java/lang/Double", Cond.fieldLink RJ9 174 "java/lang/Math" "negativeZeroDoubleBits" "J", Cond.methodLink RX7 158 yJ9_max_eb370]
def wsX7_open_r2 : List Cond := [Cond.static yJ9_max_eb370, Cond.code yJ9_max_eb370 cJ9_max_eb370 4 (some .double)]
def wsX7_open : List Cond := .code yX7_open cX7_open 7 (some .double) :: ((wsX7_open_r1 ++ wsX7_open_r2) ++ wsX70)
def wsX7_run_r1 : List Cond := [Cond.fieldLink RX7 89 "NetShapesModel" "nodes" "I", Cond.fieldLink RX7 68 "NetShapesModel" "residual" "D", Cond.fieldLink RX7 75 "NetShapesModel" "fuels" "[D", Cond.fieldLink RX7 173 "NetShapesModel" "balances" "I", Cond.fieldLink RX7 72 "NetShapesModel" "drags" "[D", Cond.fieldLink RX7 25 "NetShapesModel" "fixed" "[Z", Cond.fieldLink RX7 7 "NetShapesModel" "x" "[D", Cond.fieldLink RX7 29 "NetShapesModel" "fx" "[D", Cond.fieldLink RX7 13 "NetShapesModel" "y" "[D", Cond.fieldLink RX7 32 "NetShapesModel" "fy" "[D", Cond.fieldLink RX7 16 "NetShapesModel" "z" "[D", Cond.fieldLink RX7 35 "NetShapesModel" "fz" "[D", Cond.methodLink RX7 170 yX7_forces, Cond.instanceMethod yX7_forces, Cond.selects RX7 yX7_forces yX7_forces, Cond.initialized RX7, Cond.code yX7_forces cX7_forces 30 none, Cond.fieldLink RX7 22 "NetShapesModel" "caught" "[D", Cond.fieldLink RX7 19 "NetShapesModel" "lift" "[D", Cond.fieldLink RX7 105 "NetShapesModel" "bars" "I", Cond.fieldLink RX7 38 "NetShapesModel" "from" "[I", Cond.fieldLink RX7 42 "NetShapesModel" "to" "[I", Cond.fieldLink RX7 54 "NetShapesModel" "pulls" "[D", Cond.fieldLink RX7 45 "NetShapesModel" "natural" "[D"]
def wsX7_run_r2 : List Cond := [Cond.constantDouble RX7 145 (4656510908468559872), Cond.constantDouble RX7 87 (4602678819172646912), Cond.constantDouble RX7 151 (4638707616191610880), Cond.fieldLink RX7 48 "NetShapesModel" "width" "[D", Cond.fieldLink RX7 120 "NetShapesModel" "fouled" "D", Cond.constantDouble RX7 153 (4611686018427387904), Cond.methodLink RX7 141 yX7_root, Cond.static yX7_root, Cond.code yX7_root cX7_root 5 (some .double), Cond.methodLink RX7 147 yX7_speed, Cond.instanceMethod yX7_speed, Cond.selects RX7 yX7_speed yX7_speed, Cond.code yX7_speed cX7_speed 11 (some .double), Cond.fieldLink RX7 132 "NetShapesModel" "rows" "I", Cond.fieldLink RX7 57 "NetShapesModel" "rowDepth" "[D", Cond.fieldLink RX7 60 "NetShapesModel" "rowX" "[D", Cond.fieldLink RX7 63 "NetShapesModel" "rowY" "[D", Cond.fieldLink RX7 129 "NetShapesModel" "waves" "D", Cond.methodLink RX7 155 yX7_size, Cond.static yX7_size, Cond.code yX7_size cX7_size 2 (some .double), Cond.methodLink RX7 158 yJ9_max_eb370, Cond.static yJ9_max_eb370, Cond.initialized RJ9]
def wsX7_run_r3 : List Cond := [Cond.code yJ9_max_eb370 cJ9_max_eb370 4 (some .double), Cond.methodLink RJ9 79 ⟨"java/lang/Double", "doubleToRawLongBits", "(D)J"⟩, Cond.native ⟨"java/lang/Double", "doubleToRawLongBits", "(D)J"⟩, Cond.static ⟨"java/lang/Double", "doubleToRawLongBits", "(D)J"⟩, Cond.initialized "java/lang/Double", Cond.fieldLink RJ9 174 "java/lang/Math" "negativeZeroDoubleBits" "J", Cond.methodLink RX7 176 yX7_open, Cond.instanceMethod yX7_open, Cond.selects RX7 yX7_open yX7_open, Cond.code yX7_open cX7_open 7 (some .double), Cond.constantDouble RX7 66 (13830554455654793216), Cond.methodLink RX7 183 yX7_at, Cond.instanceMethod yX7_at, Cond.selects RX7 yX7_at yX7_at, Cond.code yX7_at cX7_at 3 (some .double), Cond.methodLink RX7 101 yX7_isNode, Cond.instanceMethod yX7_isNode, Cond.selects RX7 yX7_isNode yX7_isNode, Cond.code yX7_isNode cX7_isNode 2 (some .boolean), Cond.methodLink RX7 187 yJ9_min_eb370, Cond.static yJ9_min_eb370, Cond.code yJ9_min_eb370 cJ9_min_eb370 4 (some .double), Cond.methodLink RX7 180 yX7_moved, Cond.static yX7_moved]
def wsX7_run_r4 : List Cond := [Cond.code yX7_moved cX7_moved 4 (some .double), Cond.constantDouble RX7 164 (4557750909289998844), Cond.constantDouble RX7 166 (4598175219545276416), Cond.constantDouble RX7 168 (13821547256400052224)]
def wsX7_run : List Cond := .code yX7_run cX7_run 4 (some .int) :: ((wsX7_run_r1 ++ (wsX7_run_r2 ++ (wsX7_run_r3 ++ wsX7_run_r4))) ++ wsX70)
def wsX7_pull : List Cond := .code yX7_pull cX7_pull 2 (some .double) :: ([.fieldLink RX7 105 "NetShapesModel" "bars" "I", .constantDouble RX7 66 (13830554455654793216), .fieldLink RX7 54 "NetShapesModel" "pulls" "[D"] ++ wsX70)
def wsX7_residual : List Cond := .code yX7_residual cX7_residual 1 (some .double) :: ([.fieldLink RX7 68 "NetShapesModel" "residual" "D"] ++ wsX70)
def wsX7_drag : List Cond := .code yX7_drag cX7_drag 2 (some .double) :: ([.fieldLink RX7 72 "NetShapesModel" "drags" "[D"] ++ wsX70)
def wsX7_over : List Cond := .code yX7_over cX7_over 4 (some .int) :: ([.fieldLink RX7 105 "NetShapesModel" "bars" "I", .fieldLink RX7 54 "NetShapesModel" "pulls" "[D", .fieldLink RX7 51 "NetShapesModel" "strong" "[D"] ++ wsX70)
def wsX7_mirrored : List Cond := .code yX7_mirrored cX7_mirrored 5 (some .boolean) :: ([.fieldLink RX7 89 "NetShapesModel" "nodes" "I", .fieldLink RX7 7 "NetShapesModel" "x" "[D", .fieldLink RX7 13 "NetShapesModel" "y" "[D", .fieldLink RX7 16 "NetShapesModel" "z" "[D"] ++ wsX70)
def wsX7_best : List Cond := .code yX7_best cX7_best 4 (some .int) :: ([.fieldLink RX7 173 "NetShapesModel" "balances" "I", .fieldLink RX7 75 "NetShapesModel" "fuels" "[D"] ++ wsX70)
def wsX7_panel : List Cond := .code yX7_panel cX7_panel 4 (some .int) :: ([.fieldLink RX7 190 "NetShapesModel" "panels" "I", .fieldLink RX7 78 "NetShapesModel" "tops" "[I", .fieldLink RX7 81 "NetShapesModel" "bottoms" "[I", .fieldLink RX7 84 "NetShapesModel" "deeps" "[I"] ++ wsX70)
def wsX7_isPanel : List Cond := .code yX7_isPanel cX7_isPanel 2 (some .boolean) :: ([.fieldLink RX7 190 "NetShapesModel" "panels" "I"] ++ wsX70)
def wsX7_meshes : List Cond := .code yX7_meshes cX7_meshes 3 (some .int) :: ([.fieldLink RX7 78 "NetShapesModel" "tops" "[I", .fieldLink RX7 81 "NetShapesModel" "bottoms" "[I", .fieldLink RX7 84 "NetShapesModel" "deeps" "[I"] ++ wsX70)
def wsX7_cut : List Cond := .code yX7_cut cX7_cut 4 (some .int) :: ([.fieldLink RX7 84 "NetShapesModel" "deeps" "[I", .methodLink RX7 193 yX7_isPanel, .instanceMethod yX7_isPanel, .selects RX7 yX7_isPanel yX7_isPanel, .initialized RX7, .code yX7_isPanel cX7_isPanel 2 (some .boolean), .fieldLink RX7 190 "NetShapesModel" "panels" "I", .methodLink RX7 196 yX7_meshes, .instanceMethod yX7_meshes, .selects RX7 yX7_meshes yX7_meshes, .code yX7_meshes cX7_meshes 3 (some .int), .fieldLink RX7 78 "NetShapesModel" "tops" "[I", .fieldLink RX7 81 "NetShapesModel" "bottoms" "[I"] ++ wsX70)
def wsX7_whole : List Cond := .code yX7_whole cX7_whole 2 (some .boolean) :: ([.fieldLink RX7 81 "NetShapesModel" "bottoms" "[I", .fieldLink RX7 78 "NetShapesModel" "tops" "[I", .methodLink RX7 193 yX7_isPanel, .instanceMethod yX7_isPanel, .selects RX7 yX7_isPanel yX7_isPanel, .initialized RX7, .code yX7_isPanel cX7_isPanel 2 (some .boolean), .fieldLink RX7 190 "NetShapesModel" "panels" "I"] ++ wsX70)
def wsX7_edge : List Cond := .code yX7_edge cX7_edge 3 (some .int) :: ([.fieldLink RX7 81 "NetShapesModel" "bottoms" "[I", .fieldLink RX7 78 "NetShapesModel" "tops" "[I", .methodLink RX7 200 Lib.Math.min.name, .static Lib.Math.min.name, .initialized "java/lang/Math", .code Lib.Math.min.name Lib.Math.min.code 2 (some .int), .methodLink RX7 193 yX7_isPanel, .instanceMethod yX7_isPanel, .selects RX7 yX7_isPanel yX7_isPanel, .initialized RX7, .code yX7_isPanel cX7_isPanel 2 (some .boolean), .fieldLink RX7 190 "NetShapesModel" "panels" "I"] ++ wsX70)
def wsX7_sheet : List Cond := .code yX7_sheet cX7_sheet 8 (some .int) :: ([.fieldLink RX7 78 "NetShapesModel" "tops" "[I", .fieldLink RX7 81 "NetShapesModel" "bottoms" "[I", .methodLink RX7 202 Lib.Math.max.name, .static Lib.Math.max.name, .initialized "java/lang/Math", .code Lib.Math.max.name Lib.Math.max.code 2 (some .int), .fieldLink RX7 84 "NetShapesModel" "deeps" "[I", .methodLink RX7 193 yX7_isPanel, .instanceMethod yX7_isPanel, .selects RX7 yX7_isPanel yX7_isPanel, .initialized RX7, .code yX7_isPanel cX7_isPanel 2 (some .boolean), .fieldLink RX7 190 "NetShapesModel" "panels" "I"] ++ wsX70)
def wsJ9_max_7cf53 : List Cond := .code yJ9_max_7cf53 cJ9_max_7cf53 2 (some .int) :: ([])
def wsJ9_min_7cf53 : List Cond := .code yJ9_min_7cf53 cJ9_min_7cf53 2 (some .int) :: ([])
def wsL_law_r1 : List Cond := [Cond.classLink RL 7 RX6, Cond.instantiable RX6 6, Cond.initialized RX6, Cond.classLink RL 10 RX7, Cond.instantiable RX7 31, Cond.initialized RX7, Cond.constantDouble RL 13 (4593671619917905920), Cond.methodLink RL 9 yX6_init, Cond.instanceMethod yX6_init, Cond.code yX6_init cX6_init 1 none, Cond.methodLink RX6 1 objectInit, Cond.instanceMethod objectInit, Cond.code objectInit ⟨#[0xb1]⟩ 1 none, Cond.classLink RX6 7 RX3, Cond.instantiable RX3 6, Cond.initialized RX3, Cond.fieldLink RX6 10 "NetShapes" "nodes" "LNetShapes$Nodes;", Cond.classLink RX6 16 RX1, Cond.instantiable RX1 7, Cond.initialized RX1, Cond.fieldLink RX6 19 "NetShapes" "bars" "LNetShapes$Bars;", Cond.classLink RX6 23 RX5, Cond.instantiable RX5 6, Cond.initialized RX5]
def wsL_law_r2 : List Cond := [Cond.fieldLink RX6 26 "NetShapes" "water" "LNetShapes$Water;", Cond.classLink RX6 30 RX0, Cond.instantiable RX0 7, Cond.initialized RX0, Cond.fieldLink RX6 35 "NetShapes" "balance" "LNetShapes$Balance;", Cond.classLink RX6 39 RX2, Cond.instantiable RX2 3, Cond.initialized RX2, Cond.fieldLink RX6 42 "NetShapes" "fuels" "LNetShapes$Fuels;", Cond.classLink RX6 46 RX4, Cond.instantiable RX4 9, Cond.initialized RX4, Cond.fieldLink RX6 49 "NetShapes" "panels" "LNetShapes$Panels;", Cond.instanceMethod yX3_init, Cond.code yX3_init cX3_init 1 none, Cond.methodLink RX3 3 objectInit, Cond.classLink RX3 9 "[[D", Cond.arrayClass .double, Cond.fieldLink RX3 11 "NetShapes$Nodes" "places" "[[D", Cond.fieldLink RX3 16 "NetShapes$Nodes" "forces" "[[D", Cond.fieldLink RX3 19 "NetShapes$Nodes" "lift" "[D", Cond.fieldLink RX3 23 "NetShapes$Nodes" "load" "[D", Cond.arrayClass .boolean, Cond.fieldLink RX3 26 "NetShapes$Nodes" "fixed" "[Z"]
def wsL_law_r3 : List Cond := [Cond.fieldLink RX3 30 "NetShapes$Nodes" "count" "I", Cond.instanceMethod yX1_init, Cond.code yX1_init cX1_init 1 none, Cond.methodLink RX1 3 objectInit, Cond.arrayClass .int, Cond.fieldLink RX1 9 "NetShapes$Bars" "from" "[I", Cond.fieldLink RX1 15 "NetShapes$Bars" "to" "[I", Cond.fieldLink RX1 18 "NetShapes$Bars" "length" "[D", Cond.fieldLink RX1 22 "NetShapes$Bars" "width" "[D", Cond.fieldLink RX1 25 "NetShapes$Bars" "strength" "[D", Cond.fieldLink RX1 28 "NetShapes$Bars" "pulls" "[D", Cond.fieldLink RX1 31 "NetShapes$Bars" "count" "I", Cond.instanceMethod yX5_init, Cond.code yX5_init cX5_init 1 none, Cond.methodLink RX5 3 objectInit, Cond.fieldLink RX5 9 "NetShapes$Water" "depths" "[D", Cond.fieldLink RX5 15 "NetShapes$Water" "towardsX" "[D", Cond.fieldLink RX5 18 "NetShapes$Water" "towardsY" "[D", Cond.fieldLink RX5 21 "NetShapes$Water" "count" "I", Cond.fieldLink RX5 25 "NetShapes$Water" "waveShare" "D", Cond.fieldLink RX5 29 "NetShapes$Water" "foulShare" "D", Cond.methodLink RX6 32 yX0_init, Cond.instanceMethod yX0_init, Cond.code yX0_init cX0_init 4 none]
def wsL_law_r4 : List Cond := [Cond.methodLink RX0 3 objectInit, Cond.fieldLink RX0 9 "NetShapes$Balance" "drags" "[D", Cond.constantDouble RX0 15 (13830554455654793216), Cond.fieldLink RX0 17 "NetShapes$Balance" "greatestForce" "D", Cond.fieldLink RX0 21 "NetShapes$Balance" "span" "[D", Cond.fieldLink RX0 24 "NetShapes$Balance" "acrossFlow" "[D", Cond.fieldLink RX0 27 "NetShapes$Balance" "nodes" "LNetShapes$Nodes;", Cond.fieldLink RX0 31 "NetShapes$Balance" "bars" "LNetShapes$Bars;", Cond.fieldLink RX0 35 "NetShapes$Balance" "water" "LNetShapes$Water;", Cond.instanceMethod yX2_init, Cond.code yX2_init cX2_init 1 none, Cond.methodLink RX2 3 objectInit, Cond.fieldLink RX2 9 "NetShapes$Fuels" "kept" "[D", Cond.fieldLink RX2 15 "NetShapes$Fuels" "count" "I", Cond.fieldLink RX2 19 "NetShapes$Fuels" "next" "I", Cond.instanceMethod yX4_init, Cond.code yX4_init cX4_init 1 none, Cond.methodLink RX4 3 objectInit, Cond.fieldLink RX4 9 "NetShapes$Panels" "top" "[I", Cond.fieldLink RX4 15 "NetShapes$Panels" "bottom" "[I", Cond.fieldLink RX4 18 "NetShapes$Panels" "deep" "[I", Cond.fieldLink RX4 21 "NetShapes$Panels" "across" "[I", Cond.fieldLink RX4 24 "NetShapes$Panels" "down" "[I", Cond.fieldLink RX4 27 "NetShapes$Panels" "count" "I"]
def wsL_law_r5 : List Cond := [Cond.fieldLink RX4 31 "NetShapes$Panels" "shelfUsed" "I", Cond.fieldLink RX4 34 "NetShapes$Panels" "shelfStart" "I", Cond.fieldLink RX4 37 "NetShapes$Panels" "shelfDeep" "I", Cond.methodLink RL 12 yX7_init, Cond.instanceMethod yX7_init, Cond.code yX7_init cX7_init 1 none, Cond.methodLink RX7 1 objectInit, Cond.fieldLink RX7 7 "NetShapesModel" "x" "[D", Cond.fieldLink RX7 13 "NetShapesModel" "y" "[D", Cond.fieldLink RX7 16 "NetShapesModel" "z" "[D", Cond.fieldLink RX7 19 "NetShapesModel" "lift" "[D", Cond.fieldLink RX7 22 "NetShapesModel" "caught" "[D", Cond.fieldLink RX7 25 "NetShapesModel" "fixed" "[Z", Cond.fieldLink RX7 29 "NetShapesModel" "fx" "[D", Cond.fieldLink RX7 32 "NetShapesModel" "fy" "[D", Cond.fieldLink RX7 35 "NetShapesModel" "fz" "[D", Cond.fieldLink RX7 38 "NetShapesModel" "from" "[I", Cond.fieldLink RX7 42 "NetShapesModel" "to" "[I", Cond.fieldLink RX7 45 "NetShapesModel" "natural" "[D", Cond.fieldLink RX7 48 "NetShapesModel" "width" "[D", Cond.fieldLink RX7 51 "NetShapesModel" "strong" "[D", Cond.fieldLink RX7 54 "NetShapesModel" "pulls" "[D", Cond.fieldLink RX7 57 "NetShapesModel" "rowDepth" "[D", Cond.fieldLink RX7 60 "NetShapesModel" "rowX" "[D"]
def wsL_law_r6 : List Cond := [Cond.fieldLink RX7 63 "NetShapesModel" "rowY" "[D", Cond.constantDouble RX7 66 (13830554455654793216), Cond.fieldLink RX7 68 "NetShapesModel" "residual" "D", Cond.fieldLink RX7 72 "NetShapesModel" "drags" "[D", Cond.fieldLink RX7 75 "NetShapesModel" "fuels" "[D", Cond.fieldLink RX7 78 "NetShapesModel" "tops" "[I", Cond.fieldLink RX7 81 "NetShapesModel" "bottoms" "[I", Cond.fieldLink RX7 84 "NetShapesModel" "deeps" "[I", Cond.methodLink RL 15 yX6_node, Cond.instanceMethod yX6_node, Cond.selects RX6 yX6_node yX6_node, Cond.code yX6_node cX6_node 7 (some .int), Cond.fieldLink RX6 53 "NetShapes$Nodes" "count" "I", Cond.methodLink RX6 57 yX6_isPlace, Cond.static yX6_isPlace, Cond.code yX6_isPlace cX6_isPlace 2 (some .boolean), Cond.constantDouble RX6 204 (13875379345695965184), Cond.constantDouble RX6 72 (4652007308841189376), Cond.methodLink RX6 74 yX6_within, Cond.static yX6_within, Cond.code yX6_within cX6_within 6 (some .boolean), Cond.methodLink RX6 61 yX3_add, Cond.instanceMethod yX3_add, Cond.selects RX3 yX3_add yX3_add]
def wsL_law_r7 : List Cond := [Cond.code yX3_add cX3_add 8 (some .int), Cond.methodLink RL 19 yX7_node, Cond.instanceMethod yX7_node, Cond.selects RX7 yX7_node yX7_node, Cond.code yX7_node cX7_node 7 (some .int), Cond.fieldLink RX7 89 "NetShapesModel" "nodes" "I", Cond.constantDouble RX7 93 (13875379345695965184), Cond.constantDouble RX7 95 (4652007308841189376), Cond.methodLink RX7 97 yX7_isIn, Cond.static yX7_isIn, Cond.code yX7_isIn cX7_isIn 6 (some .boolean), Cond.methodLink RL 20 yX6_bar, Cond.instanceMethod yX6_bar, Cond.selects RX6 yX6_bar yX6_bar, Cond.code yX6_bar cX6_bar 9 (some .int), Cond.fieldLink RX6 69 "NetShapes$Bars" "count" "I", Cond.constantDouble RX6 70 (4593671619917905920), Cond.constantDouble RX6 78 (4621819117588971520), Cond.constantDouble RX6 80 (4696837146684686336), Cond.methodLink RX6 65 yX3_has, Cond.instanceMethod yX3_has, Cond.selects RX3 yX3_has yX3_has, Cond.code yX3_has cX3_has 2 (some .boolean), Cond.methodLink RX6 82 yX1_add]
def wsL_law_r8 : List Cond := [Cond.instanceMethod yX1_add, Cond.selects RX1 yX1_add yX1_add, Cond.code yX1_add cX1_add 10 (some .int), Cond.constantDouble RX1 35 (13830554455654793216), Cond.methodLink RL 24 yX7_bar, Cond.instanceMethod yX7_bar, Cond.selects RX7 yX7_bar yX7_bar, Cond.code yX7_bar cX7_bar 9 (some .int), Cond.fieldLink RX7 105 "NetShapesModel" "bars" "I", Cond.constantDouble RX7 108 (4593671619917905920), Cond.constantDouble RX7 110 (4621819117588971520), Cond.constantDouble RX7 112 (4696837146684686336), Cond.methodLink RX7 101 yX7_isNode, Cond.instanceMethod yX7_isNode, Cond.selects RX7 yX7_isNode yX7_isNode, Cond.code yX7_isNode cX7_isNode 2 (some .boolean), Cond.methodLink RL 25 yX6_fix, Cond.instanceMethod yX6_fix, Cond.selects RX6 yX6_fix yX6_fix, Cond.code yX6_fix cX6_fix 2 (some .boolean), Cond.fieldLink RX6 85 "NetShapes$Nodes" "fixed" "[Z", Cond.methodLink RL 29 yX7_fix, Cond.instanceMethod yX7_fix, Cond.selects RX7 yX7_fix yX7_fix]
def wsL_law_r9 : List Cond := [Cond.code yX7_fix cX7_fix 2 (some .boolean), Cond.methodLink RL 30 yX6_floats, Cond.instanceMethod yX6_floats, Cond.selects RX6 yX6_floats yX6_floats, Cond.code yX6_floats cX6_floats 4 (some .boolean), Cond.constantDouble RX6 89 (13904980397738950656), Cond.constantDouble RX6 91 (4681608360884174848), Cond.fieldLink RX6 93 "NetShapes$Nodes" "lift" "[D", Cond.methodLink RL 34 yX7_floats, Cond.instanceMethod yX7_floats, Cond.selects RX7 yX7_floats yX7_floats, Cond.code yX7_floats cX7_floats 4 (some .boolean), Cond.constantDouble RX7 114 (13904980397738950656), Cond.constantDouble RX7 116 (4681608360884174848), Cond.methodLink RL 35 yX6_current, Cond.instanceMethod yX6_current, Cond.selects RX6 yX6_current yX6_current, Cond.code yX6_current cX6_current 9 (some .boolean), Cond.methodLink RX6 97 yX6_eighthOfTurn, Cond.static yX6_eighthOfTurn, Cond.code yX6_eighthOfTurn cX6_eighthOfTurn 3 (some .int), Cond.methodLink RX6 101 yX6_partTowardsX, Cond.static yX6_partTowardsX, Cond.code yX6_partTowardsX cX6_partTowardsX 5 (some .double)]
def wsL_law_r10 : List Cond := [Cond.constantDouble RX6 206 (4604544271217802189), Cond.methodLink RX6 105 yX5_tell, Cond.instanceMethod yX5_tell, Cond.selects RX5 yX5_tell yX5_tell, Cond.code yX5_tell cX5_tell 8 (some .boolean), Cond.methodLink RX5 32 yX5_rowAtOrAbove, Cond.instanceMethod yX5_rowAtOrAbove, Cond.selects RX5 yX5_rowAtOrAbove yX5_rowAtOrAbove, Cond.code yX5_rowAtOrAbove cX5_rowAtOrAbove 5 (some .int), Cond.methodLink RX5 36 yX5_makeRoomAt, Cond.instanceMethod yX5_makeRoomAt, Cond.selects RX5 yX5_makeRoomAt yX5_makeRoomAt, Cond.code yX5_makeRoomAt cX5_makeRoomAt 3 none, Cond.methodLink RL 39 yX7_current, Cond.instanceMethod yX7_current, Cond.selects RX7 yX7_current yX7_current, Cond.code yX7_current cX7_current 11 (some .boolean), Cond.constantDouble RX7 135 (4631530004285489152), Cond.constantDouble RX7 137 (4644249154795601920), Cond.fieldLink RX7 132 "NetShapesModel" "rows" "I", Cond.constantDouble RX7 139 (4604544271217802189), Cond.methodLink RL 40 yX6_run, Cond.instanceMethod yX6_run, Cond.selects RX6 yX6_run yX6_run]
def wsL_law_r11 : List Cond := [Cond.code yX6_run cX6_run 3 (some .int), Cond.fieldLink RX6 112 "NetShapes$Balance" "drags" "[D", Cond.methodLink RX6 108 yX0_comesInRound, Cond.instanceMethod yX0_comesInRound, Cond.selects RX0 yX0_comesInRound yX0_comesInRound, Cond.code yX0_comesInRound cX0_comesInRound 4 (some .boolean), Cond.fieldLink RX0 44 "NetShapes$Bars" "count" "I", Cond.methodLink RX0 39 yX3_startForces, Cond.instanceMethod yX3_startForces, Cond.selects RX3 yX3_startForces yX3_startForces, Cond.code yX3_startForces cX3_startForces 2 none, Cond.methodLink RX0 50 yX0_measure, Cond.instanceMethod yX0_measure, Cond.selects RX0 yX0_measure yX0_measure, Cond.code yX0_measure cX0_measure 4 (some .double), Cond.fieldLink RX0 67 "NetShapes$Nodes" "places" "[[D", Cond.fieldLink RX0 71 "NetShapes$Bars" "to" "[I", Cond.fieldLink RX0 75 "NetShapes$Bars" "from" "[I", Cond.methodLink RX0 78 yX0_lengthOf, Cond.static yX0_lengthOf, Cond.code yX0_lengthOf cX0_lengthOf 1 (some .double), Cond.static yX6_root, Cond.code yX6_root cX6_root 7 (some .double), Cond.constantDouble RX6 208 (4602678819172646912)]
def wsL_law_r12 : List Cond := [Cond.methodLink RX0 54 yX0_tighten, Cond.instanceMethod yX0_tighten, Cond.selects RX0 yX0_tighten yX0_tighten, Cond.code yX0_tighten cX0_tighten 11 none, Cond.fieldLink RX0 86 "NetShapes$Bars" "length" "[D", Cond.constantDouble RX0 89 (4656510908468559872), Cond.fieldLink RX0 91 "NetShapes$Bars" "pulls" "[D", Cond.fieldLink RX0 94 "NetShapes$Nodes" "forces" "[[D", Cond.methodLink RX0 58 yX0_wash, Cond.instanceMethod yX0_wash, Cond.selects RX0 yX0_wash yX0_wash, Cond.code yX0_wash cX0_wash 7 none, Cond.constantDouble RX0 100 (4638707616191610880), Cond.fieldLink RX0 102 "NetShapes$Bars" "width" "[D", Cond.fieldLink RX0 105 "NetShapes$Water" "foulShare" "D", Cond.constantDouble RX0 110 (4611686018427387904), Cond.methodLink RX0 97 yX0_findFlowAcross, Cond.instanceMethod yX0_findFlowAcross, Cond.selects RX0 yX0_findFlowAcross yX0_findFlowAcross, Cond.code yX0_findFlowAcross cX0_findFlowAcross 14 none, Cond.constantDouble RX0 112 (4602678819172646912), Cond.fieldLink RX0 118 "NetShapes$Water" "towardsX" "[D", Cond.fieldLink RX0 125 "NetShapes$Water" "towardsY" "[D", Cond.methodLink RX0 114 yX5_rowAtOrAbove]
def wsL_law_r13 : List Cond := [Cond.methodLink RX0 121 yX5_speedAt, Cond.instanceMethod yX5_speedAt, Cond.selects RX5 yX5_speedAt yX5_speedAt, Cond.code yX5_speedAt cX5_speedAt 5 (some .double), Cond.methodLink RX5 40 yX5_speedOfRows, Cond.instanceMethod yX5_speedOfRows, Cond.selects RX5 yX5_speedOfRows yX5_speedOfRows, Cond.code yX5_speedOfRows cX5_speedOfRows 7 (some .double), Cond.methodLink RX0 61 yX3_greatestForce, Cond.instanceMethod yX3_greatestForce, Cond.selects RX3 yX3_greatestForce yX3_greatestForce, Cond.code yX3_greatestForce cX3_greatestForce 7 (some .double), Cond.static yX6_size, Cond.code yX6_size cX6_size 2 (some .double), Cond.methodLink RX0 64 yX3_giveWay, Cond.instanceMethod yX3_giveWay, Cond.selects RX3 yX3_giveWay yX3_giveWay, Cond.code yX3_giveWay cX3_giveWay 3 none, Cond.methodLink RX3 38 yX3_stepFor, Cond.static yX3_stepFor, Cond.code yX3_stepFor cX3_stepFor 6 (some .double), Cond.constantDouble RX3 41 (4598175219545276416), Cond.constantDouble RX3 43 (4557750909289998844), Cond.methodLink RX6 115 yX6_size]
def wsL_law_r14 : List Cond := [Cond.methodLink RX6 119 yX3_spread, Cond.instanceMethod yX3_spread, Cond.selects RX3 yX3_spread yX3_spread, Cond.code yX3_spread cX3_spread 8 (some .double), Cond.methodLink RX6 123 yX2_add, Cond.instanceMethod yX2_add, Cond.selects RX2 yX2_add yX2_add, Cond.code yX2_add cX2_add 3 none, Cond.methodLink RX2 22 Lib.Math.min.name, Cond.static Lib.Math.min.name, Cond.initialized "java/lang/Math", Cond.code Lib.Math.min.name Lib.Math.min.code 2 (some .int), Cond.methodLink RL 44 yX7_run, Cond.instanceMethod yX7_run, Cond.selects RX7 yX7_run yX7_run, Cond.code yX7_run cX7_run 4 (some .int), Cond.fieldLink RX7 173 "NetShapesModel" "balances" "I", Cond.methodLink RX7 170 yX7_forces, Cond.instanceMethod yX7_forces, Cond.selects RX7 yX7_forces yX7_forces, Cond.code yX7_forces cX7_forces 30 none, Cond.constantDouble RX7 145 (4656510908468559872), Cond.constantDouble RX7 87 (4602678819172646912), Cond.constantDouble RX7 151 (4638707616191610880)]
def wsL_law_r15 : List Cond := [Cond.fieldLink RX7 120 "NetShapesModel" "fouled" "D", Cond.constantDouble RX7 153 (4611686018427387904), Cond.methodLink RX7 141 yX7_root, Cond.static yX7_root, Cond.code yX7_root cX7_root 5 (some .double), Cond.methodLink RX7 147 yX7_speed, Cond.instanceMethod yX7_speed, Cond.selects RX7 yX7_speed yX7_speed, Cond.code yX7_speed cX7_speed 11 (some .double), Cond.fieldLink RX7 129 "NetShapesModel" "waves" "D", Cond.methodLink RX7 155 yX7_size, Cond.static yX7_size, Cond.code yX7_size cX7_size 2 (some .double), Cond.methodLink RX7 158 yJ9_max_eb370, Cond.static yJ9_max_eb370, Cond.initialized RJ9, Cond.code yJ9_max_eb370 cJ9_max_eb370 4 (some .double), Cond.methodLink RJ9 79 ⟨"java/lang/Double", "doubleToRawLongBits", "(D)J"⟩, Cond.native ⟨"java/lang/Double", "doubleToRawLongBits", "(D)J"⟩, Cond.static ⟨"java/lang/Double", "doubleToRawLongBits", "(D)J"⟩, Cond.initialized "java/lang/Double", Cond.fieldLink RJ9 174 "java/lang/Math" "negativeZeroDoubleBits" "J", Cond.methodLink RX7 176 yX7_open, Cond.instanceMethod yX7_open]
def wsL_law_r16 : List Cond := [Cond.selects RX7 yX7_open yX7_open, Cond.code yX7_open cX7_open 7 (some .double), Cond.methodLink RX7 183 yX7_at, Cond.instanceMethod yX7_at, Cond.selects RX7 yX7_at yX7_at, Cond.code yX7_at cX7_at 3 (some .double), Cond.methodLink RX7 187 yJ9_min_eb370, Cond.static yJ9_min_eb370, Cond.code yJ9_min_eb370 cJ9_min_eb370 4 (some .double), Cond.methodLink RX7 180 yX7_moved, Cond.static yX7_moved, Cond.code yX7_moved cX7_moved 4 (some .double), Cond.constantDouble RX7 164 (4557750909289998844), Cond.constantDouble RX7 166 (4598175219545276416), Cond.constantDouble RX7 168 (13821547256400052224), Cond.methodLink RL 45 yX6_at, Cond.instanceMethod yX6_at, Cond.selects RX6 yX6_at yX6_at, Cond.code yX6_at cX6_at 3 (some .double), Cond.fieldLink RX6 129 "NetShapes$Nodes" "places" "[[D", Cond.methodLink RX6 126 yX6_isAxis, Cond.static yX6_isAxis, Cond.code yX6_isAxis cX6_isAxis 1 (some .boolean), Cond.methodLink RL 49 yX7_at]
def wsL_law_r17 : List Cond := [Cond.methodLink RL 50 yX6_pull, Cond.instanceMethod yX6_pull, Cond.selects RX6 yX6_pull yX6_pull, Cond.code yX6_pull cX6_pull 2 (some .double), Cond.fieldLink RX6 134 "NetShapes$Bars" "pulls" "[D", Cond.constantDouble RX6 137 (13830554455654793216), Cond.methodLink RX6 133 yX1_has, Cond.instanceMethod yX1_has, Cond.selects RX1 yX1_has yX1_has, Cond.code yX1_has cX1_has 2 (some .boolean), Cond.methodLink RL 54 yX7_pull, Cond.instanceMethod yX7_pull, Cond.selects RX7 yX7_pull yX7_pull, Cond.code yX7_pull cX7_pull 2 (some .double), Cond.methodLink RL 55 yX6_residual, Cond.instanceMethod yX6_residual, Cond.selects RX6 yX6_residual yX6_residual, Cond.code yX6_residual cX6_residual 1 (some .double), Cond.fieldLink RX6 139 "NetShapes$Balance" "greatestForce" "D", Cond.methodLink RL 59 yX7_residual, Cond.instanceMethod yX7_residual, Cond.selects RX7 yX7_residual yX7_residual, Cond.code yX7_residual cX7_residual 1 (some .double), Cond.methodLink RL 60 yX6_drag]
def wsL_law_r18 : List Cond := [Cond.instanceMethod yX6_drag, Cond.selects RX6 yX6_drag yX6_drag, Cond.code yX6_drag cX6_drag 2 (some .double), Cond.methodLink RL 63 yX7_drag, Cond.instanceMethod yX7_drag, Cond.selects RX7 yX7_drag yX7_drag, Cond.code yX7_drag cX7_drag 2 (some .double), Cond.methodLink RL 64 yX6_over, Cond.instanceMethod yX6_over, Cond.selects RX6 yX6_over yX6_over, Cond.code yX6_over cX6_over 2 (some .int), Cond.methodLink RX6 143 yX1_overloaded, Cond.instanceMethod yX1_overloaded, Cond.selects RX1 yX1_overloaded yX1_overloaded, Cond.code yX1_overloaded cX1_overloaded 4 (some .int), Cond.methodLink RL 67 yX7_over, Cond.instanceMethod yX7_over, Cond.selects RX7 yX7_over yX7_over, Cond.code yX7_over cX7_over 4 (some .int), Cond.methodLink RL 68 yX6_open, Cond.instanceMethod yX6_open, Cond.selects RX6 yX6_open yX6_open, Cond.code yX6_open cX6_open 2 (some .double), Cond.methodLink RL 71 yX7_open]
def wsL_law_r19 : List Cond := [Cond.methodLink RL 72 yX6_catchAt, Cond.instanceMethod yX6_catchAt, Cond.selects RX6 yX6_catchAt yX6_catchAt, Cond.code yX6_catchAt cX6_catchAt 4 (some .boolean), Cond.fieldLink RX6 147 "NetShapes$Nodes" "load" "[D", Cond.methodLink RL 75 yX7_catchAt, Cond.instanceMethod yX7_catchAt, Cond.selects RX7 yX7_catchAt yX7_catchAt, Cond.code yX7_catchAt cX7_catchAt 4 (some .boolean), Cond.methodLink RL 76 yX6_panel, Cond.instanceMethod yX6_panel, Cond.selects RX6 yX6_panel yX6_panel, Cond.code yX6_panel cX6_panel 4 (some .int), Cond.fieldLink RX6 150 "NetShapes$Panels" "count" "I", Cond.methodLink RX6 151 yX6_isPanelWidth, Cond.static yX6_isPanelWidth, Cond.code yX6_isPanelWidth cX6_isPanelWidth 1 (some .boolean), Cond.methodLink RX6 154 yX4_add, Cond.instanceMethod yX4_add, Cond.selects RX4 yX4_add yX4_add, Cond.code yX4_add cX4_add 5 (some .int), Cond.methodLink RX4 40 yX4_lay, Cond.instanceMethod yX4_lay, Cond.selects RX4 yX4_lay yX4_lay]
def wsL_law_r20 : List Cond := [Cond.code yX4_lay cX4_lay 3 none, Cond.methodLink RX4 44 Lib.Math.max.name, Cond.static Lib.Math.max.name, Cond.code Lib.Math.max.name Lib.Math.max.code 2 (some .int), Cond.methodLink RL 80 yX7_panel, Cond.instanceMethod yX7_panel, Cond.selects RX7 yX7_panel yX7_panel, Cond.code yX7_panel cX7_panel 4 (some .int), Cond.fieldLink RX7 190 "NetShapesModel" "panels" "I", Cond.methodLink RL 81 yX6_cut, Cond.instanceMethod yX6_cut, Cond.selects RX6 yX6_cut yX6_cut, Cond.code yX6_cut cX6_cut 4 (some .int), Cond.fieldLink RX6 158 "NetShapes$Panels" "deep" "[I", Cond.methodLink RX6 157 yX4_has, Cond.instanceMethod yX4_has, Cond.selects RX4 yX4_has yX4_has, Cond.code yX4_has cX4_has 2 (some .boolean), Cond.methodLink RX6 162 yX4_meshesAfter, Cond.instanceMethod yX4_meshesAfter, Cond.selects RX4 yX4_meshesAfter yX4_meshesAfter, Cond.code yX4_meshesAfter cX4_meshesAfter 4 (some .int), Cond.methodLink RL 84 yX7_cut, Cond.instanceMethod yX7_cut]
def wsL_law_r21 : List Cond := [Cond.selects RX7 yX7_cut yX7_cut, Cond.code yX7_cut cX7_cut 4 (some .int), Cond.methodLink RX7 193 yX7_isPanel, Cond.instanceMethod yX7_isPanel, Cond.selects RX7 yX7_isPanel yX7_isPanel, Cond.code yX7_isPanel cX7_isPanel 2 (some .boolean), Cond.methodLink RX7 196 yX7_meshes, Cond.instanceMethod yX7_meshes, Cond.selects RX7 yX7_meshes yX7_meshes, Cond.code yX7_meshes cX7_meshes 3 (some .int), Cond.methodLink RL 85 yX6_whole, Cond.instanceMethod yX6_whole, Cond.selects RX6 yX6_whole yX6_whole, Cond.code yX6_whole cX6_whole 2 (some .boolean), Cond.fieldLink RX6 166 "NetShapes$Panels" "bottom" "[I", Cond.fieldLink RX6 169 "NetShapes$Panels" "top" "[I", Cond.methodLink RL 88 yX7_whole, Cond.instanceMethod yX7_whole, Cond.selects RX7 yX7_whole yX7_whole, Cond.code yX7_whole cX7_whole 2 (some .boolean), Cond.methodLink RL 89 yX6_edge, Cond.instanceMethod yX6_edge, Cond.selects RX6 yX6_edge yX6_edge, Cond.code yX6_edge cX6_edge 3 (some .int)]
def wsL_law_r22 : List Cond := [Cond.methodLink RX6 172 Lib.Math.min.name, Cond.methodLink RL 93 yX7_edge, Cond.instanceMethod yX7_edge, Cond.selects RX7 yX7_edge yX7_edge, Cond.code yX7_edge cX7_edge 3 (some .int), Cond.methodLink RX7 200 Lib.Math.min.name, Cond.methodLink RL 94 yX6_foul, Cond.instanceMethod yX6_foul, Cond.selects RX6 yX6_foul yX6_foul, Cond.code yX6_foul cX6_foul 3 (some .boolean), Cond.constantDouble RX6 177 (4617315517961601024), Cond.fieldLink RX6 179 "NetShapes$Water" "foulShare" "D", Cond.methodLink RL 98 yX7_foul, Cond.instanceMethod yX7_foul, Cond.selects RX7 yX7_foul yX7_foul, Cond.code yX7_foul cX7_foul 3 (some .boolean), Cond.constantDouble RX7 118 (4617315517961601024), Cond.methodLink RL 99 yX6_wave, Cond.instanceMethod yX6_wave, Cond.selects RX6 yX6_wave yX6_wave, Cond.code yX6_wave cX6_wave 6 (some .int), Cond.constantDouble RX6 182 (4629137466983448576), Cond.constantDouble RX6 184 (4633641066610819072), Cond.constantDouble RX6 186 (4636737291354636288)]
def wsL_law_r23 : List Cond := [Cond.fieldLink RX6 188 "NetShapes$Water" "waveShare" "D", Cond.fieldLink RX6 191 "NetShapes$Water" "count" "I", Cond.methodLink RL 103 yX7_wave, Cond.instanceMethod yX7_wave, Cond.selects RX7 yX7_wave yX7_wave, Cond.code yX7_wave cX7_wave 6 (some .int), Cond.constantDouble RX7 123 (4629137466983448576), Cond.constantDouble RX7 125 (4633641066610819072), Cond.constantDouble RX7 127 (4636737291354636288), Cond.methodLink RL 104 yX6_mirrored, Cond.instanceMethod yX6_mirrored, Cond.selects RX6 yX6_mirrored yX6_mirrored, Cond.code yX6_mirrored cX6_mirrored 2 (some .boolean), Cond.methodLink RX6 192 yX3_hasMirrorImage, Cond.instanceMethod yX3_hasMirrorImage, Cond.selects RX3 yX3_hasMirrorImage yX3_hasMirrorImage, Cond.code yX3_hasMirrorImage cX3_hasMirrorImage 5 (some .boolean), Cond.methodLink RL 108 yX7_mirrored, Cond.instanceMethod yX7_mirrored, Cond.selects RX7 yX7_mirrored yX7_mirrored, Cond.code yX7_mirrored cX7_mirrored 5 (some .boolean), Cond.methodLink RL 109 yX6_best, Cond.instanceMethod yX6_best, Cond.selects RX6 yX6_best yX6_best]
def wsL_law_r24 : List Cond := [Cond.code yX6_best cX6_best 2 (some .int), Cond.methodLink RX6 195 yX2_leastOfLatest, Cond.instanceMethod yX2_leastOfLatest, Cond.selects RX2 yX2_leastOfLatest yX2_leastOfLatest, Cond.code yX2_leastOfLatest cX2_leastOfLatest 4 (some .int), Cond.methodLink RX2 28 yX2_backwards, Cond.instanceMethod yX2_backwards, Cond.selects RX2 yX2_backwards yX2_backwards, Cond.code yX2_backwards cX2_backwards 2 (some .double), Cond.methodLink RX2 32 yJ9_floorMod_7cf53, Cond.static yJ9_floorMod_7cf53, Cond.code yJ9_floorMod_7cf53 cJ9_floorMod_7cf53 3 (some .int), Cond.methodLink RL 112 yX7_best, Cond.instanceMethod yX7_best, Cond.selects RX7 yX7_best yX7_best, Cond.code yX7_best cX7_best 4 (some .int), Cond.methodLink RL 113 yX6_sheet, Cond.instanceMethod yX6_sheet, Cond.selects RX6 yX6_sheet yX6_sheet, Cond.code yX6_sheet cX6_sheet 3 (some .int), Cond.fieldLink RX6 198 "NetShapes$Panels" "across" "[I", Cond.fieldLink RX6 201 "NetShapes$Panels" "down" "[I", Cond.methodLink RL 116 yX7_sheet, Cond.instanceMethod yX7_sheet]
def wsL_law_r25 : List Cond := [Cond.selects RX7 yX7_sheet yX7_sheet, Cond.code yX7_sheet cX7_sheet 8 (some .int), Cond.methodLink RX7 202 Lib.Math.max.name]
def wsL_law : List Cond := (wsL_law_r1 ++ (wsL_law_r2 ++ (wsL_law_r3 ++ (wsL_law_r4 ++ (wsL_law_r5 ++ (wsL_law_r6 ++ (wsL_law_r7 ++ (wsL_law_r8 ++ (wsL_law_r9 ++ (wsL_law_r10 ++ (wsL_law_r11 ++ (wsL_law_r12 ++ (wsL_law_r13 ++ (wsL_law_r14 ++ (wsL_law_r15 ++ (wsL_law_r16 ++ (wsL_law_r17 ++ (wsL_law_r18 ++ (wsL_law_r19 ++ (wsL_law_r20 ++ (wsL_law_r21 ++ (wsL_law_r22 ++ (wsL_law_r23 ++ (wsL_law_r24 ++ wsL_law_r25)))))))))))))))))))))))) ++ wsX60 ++ wsX70 ++ wsX30 ++ wsX10 ++ wsX50 ++ wsX00 ++ wsX20 ++ wsX40 ++ ([] : List Cond)
theorem mem_pos {big ws : List Cond} (ps : List Nat) (hp : ps.filterMap (fun i => big[i]?) = ws) : ∀ w ∈ ws, w ∈ big := by
  intro w hw
  rw [← hp] at hw
  obtain ⟨i, -, hi⟩ := List.mem_filterMap.mp hw
  exact List.mem_of_getElem? hi
theorem mem_app2 {big a b : List Cond} (ha : ∀ w ∈ a, w ∈ big) (hb : ∀ w ∈ b, w ∈ big) : ∀ w ∈ a ++ b, w ∈ big := fun w h => (List.mem_append.mp h).elim (ha w) (hb w)
set_option maxRecDepth 100000 in
theorem wsL_law_r1_in : ∀ w ∈ wsL_law_r1, w ∈ lw_tbl := mem_pos [24, 25, 14, 501, 502, 21, 758, 26, 27, 28, 29, 30, 31, 32, 33, 15, 223, 68, 69, 16, 224, 105, 106, 17] rfl
set_option maxRecDepth 100000 in
theorem wsL_law_r2_in : ∀ w ∈ wsL_law_r2, w ∈ lw_tbl := mem_pos [225, 136, 137, 18, 226, 167, 168, 19, 227, 183, 184, 20, 228, 35, 36, 37, 38, 66, 40, 43, 45, 47, 67, 49] rfl
set_option maxRecDepth 100000 in
theorem wsL_law_r3_in : ∀ w ∈ wsL_law_r3, w ∈ lw_tbl := mem_pos [51, 71, 72, 73, 104, 74, 76, 78, 80, 82, 83, 86, 108, 109, 110, 111, 112, 114, 116, 118, 120, 138, 139, 140] rfl
set_option maxRecDepth 100000 in
theorem wsL_law_r4_in : ∀ w ∈ wsL_law_r4, w ∈ lw_tbl := mem_pos [141, 146, 142, 148, 150, 151, 143, 144, 145, 170, 171, 172, 173, 174, 175, 186, 187, 188, 189, 191, 193, 195, 197, 199] rfl
set_option maxRecDepth 100000 in
theorem wsL_law_r5_in : ∀ w ∈ wsL_law_r5, w ∈ lw_tbl := mem_pos [201, 202, 203, 503, 504, 505, 506, 509, 510, 511, 512, 513, 514, 515, 516, 517, 519, 520, 521, 522, 523, 524, 526, 527] rfl
set_option maxRecDepth 100000 in
theorem wsL_law_r6_in : ∀ w ∈ wsL_law_r6, w ∈ lw_tbl := mem_pos [528, 507, 531, 532, 534, 536, 537, 538, 242, 243, 244, 245, 52, 246, 247, 248, 249, 250, 251, 252, 253, 254, 255, 256] rfl
set_option maxRecDepth 100000 in
theorem wsL_law_r7_in : ∀ w ∈ wsL_law_r7, w ∈ lw_tbl := mem_pos [257, 602, 603, 604, 605, 508, 606, 607, 608, 609, 610, 258, 259, 260, 261, 88, 266, 267, 268, 262, 263, 264, 265, 269] rfl
set_option maxRecDepth 100000 in
theorem wsL_law_r8_in : ∀ w ∈ wsL_law_r8, w ∈ lw_tbl := mem_pos [270, 271, 272, 273, 611, 612, 613, 614, 518, 619, 620, 621, 615, 617, 8, 618, 274, 275, 276, 277, 50, 622, 623, 624] rfl
set_option maxRecDepth 100000 in
theorem wsL_law_r9_in : ∀ w ∈ wsL_law_r9, w ∈ lw_tbl := mem_pos [625, 278, 279, 280, 281, 282, 283, 46, 626, 627, 628, 629, 630, 631, 284, 285, 286, 287, 288, 289, 290, 291, 292, 293] rfl
set_option maxRecDepth 100000 in
theorem wsL_law_r10_in : ∀ w ∈ wsL_law_r10, w ∈ lw_tbl := mem_pos [294, 295, 296, 297, 298, 299, 300, 301, 302, 303, 305, 0, 306, 648, 649, 650, 651, 652, 653, 525, 654, 307, 308, 309] rfl
set_option maxRecDepth 100000 in
theorem wsL_law_r11_in : ∀ w ∈ wsL_law_r11, w ∈ lw_tbl := mem_pos [310, 147, 311, 312, 313, 314, 87, 315, 316, 317, 318, 319, 321, 1, 322, 41, 77, 75, 323, 324, 325, 327, 328, 329] rfl
set_option maxRecDepth 100000 in
theorem wsL_law_r12_in : ∀ w ∈ wsL_law_r12, w ∈ lw_tbl := mem_pos [330, 332, 2, 333, 79, 334, 84, 44, 335, 337, 3, 338, 353, 81, 121, 354, 339, 341, 4, 342, 343, 113, 115, 344] rfl
set_option maxRecDepth 100000 in
theorem wsL_law_r13_in : ∀ w ∈ wsL_law_r13, w ∈ lw_tbl := mem_pos [345, 346, 347, 348, 349, 351, 5, 352, 355, 356, 357, 358, 360, 361, 362, 363, 364, 365, 366, 367, 368, 369, 370, 371] rfl
set_option maxRecDepth 100000 in
theorem wsL_law_r14_in : ∀ w ∈ wsL_law_r14, w ∈ lw_tbl := mem_pos [372, 373, 374, 375, 376, 377, 378, 379, 380, 381, 22, 382, 655, 656, 657, 658, 533, 659, 661, 9, 662, 667, 666, 672] rfl
set_option maxRecDepth 100000 in
theorem wsL_law_r15_in : ∀ w ∈ wsL_law_r15, w ∈ lw_tbl := mem_pos [530, 673, 663, 664, 665, 668, 670, 10, 671, 529, 674, 675, 676, 677, 678, 22, 679, 680, 682, 681, 23, 683, 685, 686] rfl
set_option maxRecDepth 100000 in
theorem wsL_law_r16_in : ∀ w ∈ wsL_law_r16, w ∈ lw_tbl := mem_pos [687, 688, 689, 690, 691, 692, 693, 694, 695, 696, 697, 698, 699, 700, 701, 383, 384, 385, 386, 42, 387, 388, 389, 702] rfl
set_option maxRecDepth 100000 in
theorem wsL_law_r17_in : ∀ w ∈ wsL_law_r17, w ∈ lw_tbl := mem_pos [390, 391, 392, 393, 85, 398, 394, 395, 396, 397, 703, 704, 705, 706, 399, 400, 401, 402, 149, 707, 708, 709, 710, 403] rfl
set_option maxRecDepth 100000 in
theorem wsL_law_r18_in : ∀ w ∈ wsL_law_r18, w ∈ lw_tbl := mem_pos [404, 405, 406, 711, 712, 713, 714, 407, 408, 409, 410, 411, 412, 413, 414, 715, 716, 717, 718, 415, 416, 417, 418, 719] rfl
set_option maxRecDepth 100000 in
theorem wsL_law_r19_in : ∀ w ∈ wsL_law_r19, w ∈ lw_tbl := mem_pos [419, 420, 421, 422, 48, 632, 633, 634, 635, 423, 424, 425, 426, 200, 427, 428, 429, 430, 431, 432, 433, 434, 436, 6] rfl
set_option maxRecDepth 100000 in
theorem wsL_law_r20_in : ∀ w ∈ wsL_law_r20, w ∈ lw_tbl := mem_pos [437, 438, 439, 440, 728, 729, 730, 731, 535, 441, 442, 443, 444, 194, 445, 446, 447, 448, 449, 450, 451, 452, 732, 733] rfl
set_option maxRecDepth 100000 in
theorem wsL_law_r21_in : ∀ w ∈ wsL_law_r21, w ∈ lw_tbl := mem_pos [734, 735, 736, 738, 11, 739, 740, 742, 12, 743, 453, 454, 455, 456, 192, 190, 744, 745, 746, 747, 457, 458, 459, 460] rfl
set_option maxRecDepth 100000 in
theorem wsL_law_r22_in : ∀ w ∈ wsL_law_r22, w ∈ lw_tbl := mem_pos [461, 748, 749, 750, 751, 752, 462, 463, 464, 465, 466, 122, 636, 637, 638, 639, 640, 467, 468, 469, 470, 471, 472, 473] rfl
set_option maxRecDepth 100000 in
theorem wsL_law_r23_in : ∀ w ∈ wsL_law_r23, w ∈ lw_tbl := mem_pos [119, 117, 641, 642, 643, 644, 645, 646, 647, 474, 475, 476, 477, 478, 479, 480, 481, 720, 721, 722, 723, 482, 483, 484] rfl
set_option maxRecDepth 100000 in
theorem wsL_law_r24_in : ∀ w ∈ wsL_law_r24, w ∈ lw_tbl := mem_pos [485, 486, 487, 488, 489, 490, 492, 7, 493, 494, 495, 496, 724, 725, 726, 727, 497, 498, 499, 500, 196, 198, 753, 754] rfl
set_option maxRecDepth 100000 in
theorem wsL_law_r25_in : ∀ w ∈ wsL_law_r25, w ∈ lw_tbl := mem_pos [755, 756, 757] rfl
set_option maxRecDepth 100000 in
theorem wsX60_in : ∀ w ∈ wsX60, w ∈ lw_tbl := mem_pos [229, 231, 233, 235, 237, 239] rfl
set_option maxRecDepth 100000 in
theorem wsX70_in : ∀ w ∈ wsX70, w ∈ lw_tbl := mem_pos [539, 541, 543, 545, 547, 549, 551, 553, 555, 557, 559, 561, 563, 565, 567, 569, 571, 573, 575, 577, 579, 581, 583, 585, 587, 589, 591, 593, 595, 597, 599] rfl
set_option maxRecDepth 100000 in
theorem wsX30_in : ∀ w ∈ wsX30, w ∈ lw_tbl := mem_pos [53, 55, 57, 59, 61, 63] rfl
set_option maxRecDepth 100000 in
theorem wsX10_in : ∀ w ∈ wsX10, w ∈ lw_tbl := mem_pos [89, 91, 93, 95, 97, 99, 101] rfl
set_option maxRecDepth 100000 in
theorem wsX50_in : ∀ w ∈ wsX50, w ∈ lw_tbl := mem_pos [123, 125, 127, 129, 131, 133] rfl
set_option maxRecDepth 100000 in
theorem wsX00_in : ∀ w ∈ wsX00, w ∈ lw_tbl := mem_pos [152, 154, 156, 158, 160, 162, 164] rfl
set_option maxRecDepth 100000 in
theorem wsX20_in : ∀ w ∈ wsX20, w ∈ lw_tbl := mem_pos [176, 178, 180] rfl
set_option maxRecDepth 100000 in
theorem wsX40_in : ∀ w ∈ wsX40, w ∈ lw_tbl := mem_pos [204, 206, 208, 210, 212, 214, 216, 218, 220] rfl
theorem wsL_law_in : ∀ w ∈ wsL_law, w ∈ lw_tbl := (mem_app2 (mem_app2 (mem_app2 (mem_app2 (mem_app2 (mem_app2 (mem_app2 (mem_app2 (mem_app2 (mem_app2 wsL_law_r1_in (mem_app2 wsL_law_r2_in (mem_app2 wsL_law_r3_in (mem_app2 wsL_law_r4_in (mem_app2 wsL_law_r5_in (mem_app2 wsL_law_r6_in (mem_app2 wsL_law_r7_in (mem_app2 wsL_law_r8_in (mem_app2 wsL_law_r9_in (mem_app2 wsL_law_r10_in (mem_app2 wsL_law_r11_in (mem_app2 wsL_law_r12_in (mem_app2 wsL_law_r13_in (mem_app2 wsL_law_r14_in (mem_app2 wsL_law_r15_in (mem_app2 wsL_law_r16_in (mem_app2 wsL_law_r17_in (mem_app2 wsL_law_r18_in (mem_app2 wsL_law_r19_in (mem_app2 wsL_law_r20_in (mem_app2 wsL_law_r21_in (mem_app2 wsL_law_r22_in (mem_app2 wsL_law_r23_in (mem_app2 wsL_law_r24_in wsL_law_r25_in)))))))))))))))))))))))) wsX60_in) wsX70_in) wsX30_in) wsX10_in) wsX50_in) wsX00_in) wsX20_in) wsX40_in) (fun _ h => absurd h List.not_mem_nil))
theorem inlX0 : ∀ w ∈ wsX00, w ∈ wsL_law := fun _ h => List.mem_append_left _ (List.mem_append_left _ (List.mem_append_left _ (List.mem_append_right _ h)))
theorem inX0 : ∀ w ∈ wsX00, w ∈ lw_tbl := fun w h => wsL_law_in w (inlX0 w h)
theorem inlX1 : ∀ w ∈ wsX10, w ∈ wsL_law := fun _ h => List.mem_append_left _ (List.mem_append_left _ (List.mem_append_left _ (List.mem_append_left _ (List.mem_append_left _ (List.mem_append_right _ h)))))
theorem inX1 : ∀ w ∈ wsX10, w ∈ lw_tbl := fun w h => wsL_law_in w (inlX1 w h)
theorem inlX2 : ∀ w ∈ wsX20, w ∈ wsL_law := fun _ h => List.mem_append_left _ (List.mem_append_left _ (List.mem_append_right _ h))
theorem inX2 : ∀ w ∈ wsX20, w ∈ lw_tbl := fun w h => wsL_law_in w (inlX2 w h)
theorem inlX3 : ∀ w ∈ wsX30, w ∈ wsL_law := fun _ h => List.mem_append_left _ (List.mem_append_left _ (List.mem_append_left _ (List.mem_append_left _ (List.mem_append_left _ (List.mem_append_left _ (List.mem_append_right _ h))))))
theorem inX3 : ∀ w ∈ wsX30, w ∈ lw_tbl := fun w h => wsL_law_in w (inlX3 w h)
theorem inlX4 : ∀ w ∈ wsX40, w ∈ wsL_law := fun _ h => List.mem_append_left _ (List.mem_append_right _ h)
theorem inX4 : ∀ w ∈ wsX40, w ∈ lw_tbl := fun w h => wsL_law_in w (inlX4 w h)
theorem inlX5 : ∀ w ∈ wsX50, w ∈ wsL_law := fun _ h => List.mem_append_left _ (List.mem_append_left _ (List.mem_append_left _ (List.mem_append_left _ (List.mem_append_right _ h))))
theorem inX5 : ∀ w ∈ wsX50, w ∈ lw_tbl := fun w h => wsL_law_in w (inlX5 w h)
theorem inlX6 : ∀ w ∈ wsX60, w ∈ wsL_law := fun _ h => List.mem_append_left _ (List.mem_append_left _ (List.mem_append_left _ (List.mem_append_left _ (List.mem_append_left _ (List.mem_append_left _ (List.mem_append_left _ (List.mem_append_left _ (List.mem_append_right _ h))))))))
theorem inX6 : ∀ w ∈ wsX60, w ∈ lw_tbl := fun w h => wsL_law_in w (inlX6 w h)
theorem inlX7 : ∀ w ∈ wsX70, w ∈ wsL_law := fun _ h => List.mem_append_left _ (List.mem_append_left _ (List.mem_append_left _ (List.mem_append_left _ (List.mem_append_left _ (List.mem_append_left _ (List.mem_append_left _ (List.mem_append_right _ h)))))))
theorem inX7 : ∀ w ∈ wsX70, w ∈ lw_tbl := fun w h => wsL_law_in w (inlX7 w h)
theorem inJxe99ae : ∀ w ∈ wsJxe99ae0, w ∈ lw_tbl := by decide +kernel
theorem inJ9 : ∀ w ∈ wsJ90, w ∈ lw_tbl := by decide +kernel
abbrev vwCl : List vw_C := [(RX0, TX0, 7), (RX1, TX1, 7), (RX2, TX2, 3), (RX3, TX3, 6), (RX4, TX4, 9), (RX5, TX5, 6), (RX6, TX6, 6), (RX7, TX7, 31)]
end
section
theorem dX0_init_0 : decode cX0_init 0 = .ok (.aload_n 0, 1) := by decide +kernel
theorem dX0_init_1 : decode cX0_init 1 = .ok (.invokespecial 3, 3) := by decide +kernel
theorem dX0_init_4 : decode cX0_init 4 = .ok (.aload_n 0, 1) := by decide +kernel
theorem dX0_init_5 : decode cX0_init 5 = .ok (.iconst 3, 1) := by decide +kernel
theorem dX0_init_6 : decode cX0_init 6 = .ok (.newarray .double, 2) := by decide +kernel
theorem dX0_init_8 : decode cX0_init 8 = .ok (.putfield 9, 3) := by decide +kernel
theorem dX0_init_11 : decode cX0_init 11 = .ok (.aload_n 0, 1) := by decide +kernel
theorem dX0_init_12 : decode cX0_init 12 = .ok (.ldc2_w 15, 3) := by decide +kernel
theorem dX0_init_15 : decode cX0_init 15 = .ok (.putfield 17, 3) := by decide +kernel
theorem dX0_init_18 : decode cX0_init 18 = .ok (.aload_n 0, 1) := by decide +kernel
theorem dX0_init_19 : decode cX0_init 19 = .ok (.iconst 3, 1) := by decide +kernel
theorem dX0_init_20 : decode cX0_init 20 = .ok (.newarray .double, 2) := by decide +kernel
theorem dX0_init_22 : decode cX0_init 22 = .ok (.putfield 21, 3) := by decide +kernel
theorem dX0_init_25 : decode cX0_init 25 = .ok (.aload_n 0, 1) := by decide +kernel
theorem dX0_init_26 : decode cX0_init 26 = .ok (.iconst 3, 1) := by decide +kernel
theorem dX0_init_27 : decode cX0_init 27 = .ok (.newarray .double, 2) := by decide +kernel
theorem dX0_init_29 : decode cX0_init 29 = .ok (.putfield 24, 3) := by decide +kernel
theorem dX0_init_32 : decode cX0_init 32 = .ok (.aload_n 0, 1) := by decide +kernel
theorem dX0_init_33 : decode cX0_init 33 = .ok (.aload_n 1, 1) := by decide +kernel
theorem dX0_init_34 : decode cX0_init 34 = .ok (.putfield 27, 3) := by decide +kernel
theorem dX0_init_37 : decode cX0_init 37 = .ok (.aload_n 0, 1) := by decide +kernel
theorem dX0_init_38 : decode cX0_init 38 = .ok (.aload_n 2, 1) := by decide +kernel
theorem dX0_init_39 : decode cX0_init 39 = .ok (.putfield 31, 3) := by decide +kernel
theorem dX0_init_42 : decode cX0_init 42 = .ok (.aload_n 0, 1) := by decide +kernel
theorem dX0_init_43 : decode cX0_init 43 = .ok (.aload_n 3, 1) := by decide +kernel
theorem dX0_init_44 : decode cX0_init 44 = .ok (.putfield 35, 3) := by decide +kernel
theorem dX0_init_47 : decode cX0_init 47 = .ok (.return_, 1) := by decide +kernel
set_option maxRecDepth 20000 in
theorem ggX0_comesInRound_X3_startForces : GoodIn wsX0_comesInRound wsX3_startForces := goodIn_r _ [10, 11, 12, 13, 14, 103, 104, 105, 106, 107, 108] (by decide +kernel) (by decide +kernel)
set_option maxRecDepth 20000 in
theorem gX0_comesInRound_X3_startForces : GoodIn wsX0_comesInRound (wsV RX0 39 RX3 yX3_startForces wsX3_startForces) := goodIn_app (goodIn_of _ (by decide +kernel)) ggX0_comesInRound_X3_startForces
set_option maxRecDepth 20000 in
theorem ggX0_comesInRound_X0_measure : GoodIn wsX0_comesInRound wsX0_measure := goodIn_r _ [19, 1, 20, 21, 3, 22, 23, 24, 25, 18, 26, 27, 28, 29, 30, 89, 90, 91, 92, 93, 94, 95, 103, 104, 105, 106, 107, 108, 96, 97, 98, 99, 100, 101, 102] (by decide +kernel) (by decide +kernel)
set_option maxRecDepth 20000 in
theorem gX0_comesInRound_X0_measure : GoodIn wsX0_comesInRound (wsV RX0 50 RX0 yX0_measure wsX0_measure) := goodIn_app (goodIn_of _ (by decide +kernel)) ggX0_comesInRound_X0_measure
set_option maxRecDepth 20000 in
theorem ggX0_comesInRound_X0_tighten : GoodIn wsX0_comesInRound wsX0_tighten := goodIn_r _ [34, 3, 35, 36, 37, 1, 38, 23, 21, 22, 89, 90, 91, 92, 93, 94, 95, 96, 97, 98, 99, 100, 101, 102, 103, 104, 105, 106, 107, 108] (by decide +kernel) (by decide +kernel)
set_option maxRecDepth 20000 in
theorem gX0_comesInRound_X0_tighten : GoodIn wsX0_comesInRound (wsV RX0 54 RX0 yX0_tighten wsX0_tighten) := goodIn_app (goodIn_of _ (by decide +kernel)) ggX0_comesInRound_X0_tighten
set_option maxRecDepth 20000 in
theorem ggX0_comesInRound_X0_wash : GoodIn wsX0_comesInRound wsX0_wash := goodIn_r _ [42, 43, 3, 44, 45, 46, 35, 47, 2, 48, 1, 38, 23, 22, 49, 50, 51, 18, 52, 20, 53, 54, 55, 21, 56, 57, 58, 59, 60, 61, 62, 63, 64, 65, 66, 67, 68, 69, 70, 71, 24, 25, 26, 27, 28, 29, 30, 89, 90, 91, 92, 93, 94, 95, 96, 97, 98, 99, 100, 101, 102, 109, 110, 111, 112, 113, 114, 103, 104, 105, 106, 107, 108] (by decide +kernel) (by decide +kernel)
set_option maxRecDepth 20000 in
theorem gX0_comesInRound_X0_wash : GoodIn wsX0_comesInRound (wsV RX0 58 RX0 yX0_wash wsX0_wash) := goodIn_app (goodIn_of _ (by decide +kernel)) ggX0_comesInRound_X0_wash
set_option maxRecDepth 20000 in
theorem ggX0_comesInRound_X3_greatestForce : GoodIn wsX0_comesInRound wsX3_greatestForce := goodIn_r _ [75, 11, 76, 12, 77, 28, 78, 103, 104, 105, 106, 107, 108] (by decide +kernel) (by decide +kernel)
set_option maxRecDepth 20000 in
theorem gX0_comesInRound_X3_greatestForce : GoodIn wsX0_comesInRound (wsV RX0 61 RX3 yX3_greatestForce wsX3_greatestForce) := goodIn_app (goodIn_of _ (by decide +kernel)) ggX0_comesInRound_X3_greatestForce
set_option maxRecDepth 20000 in
theorem ggX0_comesInRound_X3_giveWay : GoodIn wsX0_comesInRound wsX3_giveWay := goodIn_r _ [82, 11, 76, 83, 12, 84, 85, 9, 86, 87, 88, 103, 104, 105, 106, 107, 108] (by decide +kernel) (by decide +kernel)
set_option maxRecDepth 20000 in
theorem gX0_comesInRound_X3_giveWay : GoodIn wsX0_comesInRound (wsV RX0 64 RX3 yX3_giveWay wsX3_giveWay) := goodIn_app (goodIn_of _ (by decide +kernel)) ggX0_comesInRound_X3_giveWay
theorem dX0_comesInRound_0 : decode cX0_comesInRound 0 = .ok (.aload_n 0, 1) := by decide +kernel
theorem dX0_comesInRound_1 : decode cX0_comesInRound 1 = .ok (.getfield 27, 3) := by decide +kernel
theorem dX0_comesInRound_4 : decode cX0_comesInRound 4 = .ok (.invokevirtual 39, 3) := by decide +kernel
theorem dX0_comesInRound_7 : decode cX0_comesInRound 7 = .ok (.iconst 0, 1) := by decide +kernel
theorem dX0_comesInRound_8 : decode cX0_comesInRound 8 = .ok (.istore_n 1, 1) := by decide +kernel
theorem dX0_comesInRound_9 : decode cX0_comesInRound 9 = .ok (.iload_n 1, 1) := by decide +kernel
theorem dX0_comesInRound_10 : decode cX0_comesInRound 10 = .ok (.iconst 3, 1) := by decide +kernel
theorem dX0_comesInRound_11 : decode cX0_comesInRound 11 = .ok (.if_icmp .ge 16, 3) := by decide +kernel
theorem dX0_comesInRound_14 : decode cX0_comesInRound 14 = .ok (.aload_n 0, 1) := by decide +kernel
theorem dX0_comesInRound_15 : decode cX0_comesInRound 15 = .ok (.getfield 9, 3) := by decide +kernel
theorem dX0_comesInRound_18 : decode cX0_comesInRound 18 = .ok (.iload_n 1, 1) := by decide +kernel
theorem dX0_comesInRound_19 : decode cX0_comesInRound 19 = .ok (.dconst 0, 1) := by decide +kernel
theorem dX0_comesInRound_20 : decode cX0_comesInRound 20 = .ok (.dastore, 1) := by decide +kernel
theorem dX0_comesInRound_21 : decode cX0_comesInRound 21 = .ok (.iinc 1 1, 3) := by decide +kernel
theorem dX0_comesInRound_24 : decode cX0_comesInRound 24 = .ok (.goto (-15), 3) := by decide +kernel
theorem dX0_comesInRound_27 : decode cX0_comesInRound 27 = .ok (.iconst 0, 1) := by decide +kernel
theorem dX0_comesInRound_28 : decode cX0_comesInRound 28 = .ok (.istore_n 1, 1) := by decide +kernel
theorem dX0_comesInRound_29 : decode cX0_comesInRound 29 = .ok (.iload_n 1, 1) := by decide +kernel
theorem dX0_comesInRound_30 : decode cX0_comesInRound 30 = .ok (.aload_n 0, 1) := by decide +kernel
theorem dX0_comesInRound_31 : decode cX0_comesInRound 31 = .ok (.getfield 31, 3) := by decide +kernel
theorem dX0_comesInRound_34 : decode cX0_comesInRound 34 = .ok (.getfield 44, 3) := by decide +kernel
theorem dX0_comesInRound_37 : decode cX0_comesInRound 37 = .ok (.if_icmp .ge 33, 3) := by decide +kernel
theorem dX0_comesInRound_40 : decode cX0_comesInRound 40 = .ok (.aload_n 0, 1) := by decide +kernel
theorem dX0_comesInRound_41 : decode cX0_comesInRound 41 = .ok (.iload_n 1, 1) := by decide +kernel
theorem dX0_comesInRound_42 : decode cX0_comesInRound 42 = .ok (.invokevirtual 50, 3) := by decide +kernel
theorem dX0_comesInRound_45 : decode cX0_comesInRound 45 = .ok (.dstore_n 2, 1) := by decide +kernel
theorem dX0_comesInRound_46 : decode cX0_comesInRound 46 = .ok (.aload_n 0, 1) := by decide +kernel
theorem dX0_comesInRound_47 : decode cX0_comesInRound 47 = .ok (.iload_n 1, 1) := by decide +kernel
theorem dX0_comesInRound_48 : decode cX0_comesInRound 48 = .ok (.dload_n 2, 1) := by decide +kernel
theorem dX0_comesInRound_49 : decode cX0_comesInRound 49 = .ok (.invokevirtual 54, 3) := by decide +kernel
theorem dX0_comesInRound_52 : decode cX0_comesInRound 52 = .ok (.dload_n 2, 1) := by decide +kernel
theorem dX0_comesInRound_53 : decode cX0_comesInRound 53 = .ok (.dconst 0, 1) := by decide +kernel
theorem dX0_comesInRound_54 : decode cX0_comesInRound 54 = .ok (.dcmp .l, 1) := by decide +kernel
theorem dX0_comesInRound_55 : decode cX0_comesInRound 55 = .ok (.ifCond .le 9, 3) := by decide +kernel
theorem dX0_comesInRound_58 : decode cX0_comesInRound 58 = .ok (.aload_n 0, 1) := by decide +kernel
theorem dX0_comesInRound_59 : decode cX0_comesInRound 59 = .ok (.iload_n 1, 1) := by decide +kernel
theorem dX0_comesInRound_60 : decode cX0_comesInRound 60 = .ok (.dload_n 2, 1) := by decide +kernel
theorem dX0_comesInRound_61 : decode cX0_comesInRound 61 = .ok (.invokevirtual 58, 3) := by decide +kernel
theorem dX0_comesInRound_64 : decode cX0_comesInRound 64 = .ok (.iinc 1 1, 3) := by decide +kernel
theorem dX0_comesInRound_67 : decode cX0_comesInRound 67 = .ok (.goto (-38), 3) := by decide +kernel
theorem dX0_comesInRound_70 : decode cX0_comesInRound 70 = .ok (.aload_n 0, 1) := by decide +kernel
theorem dX0_comesInRound_71 : decode cX0_comesInRound 71 = .ok (.aload_n 0, 1) := by decide +kernel
theorem dX0_comesInRound_72 : decode cX0_comesInRound 72 = .ok (.getfield 27, 3) := by decide +kernel
theorem dX0_comesInRound_75 : decode cX0_comesInRound 75 = .ok (.invokevirtual 61, 3) := by decide +kernel
theorem dX0_comesInRound_78 : decode cX0_comesInRound 78 = .ok (.putfield 17, 3) := by decide +kernel
theorem dX0_comesInRound_81 : decode cX0_comesInRound 81 = .ok (.aload_n 0, 1) := by decide +kernel
theorem dX0_comesInRound_82 : decode cX0_comesInRound 82 = .ok (.getfield 17, 3) := by decide +kernel
theorem dX0_comesInRound_85 : decode cX0_comesInRound 85 = .ok (.dconst 1, 1) := by decide +kernel
theorem dX0_comesInRound_86 : decode cX0_comesInRound 86 = .ok (.dcmp .g, 1) := by decide +kernel
theorem dX0_comesInRound_87 : decode cX0_comesInRound 87 = .ok (.ifCond .ge 5, 3) := by decide +kernel
theorem dX0_comesInRound_90 : decode cX0_comesInRound 90 = .ok (.iconst 1, 1) := by decide +kernel
theorem dX0_comesInRound_91 : decode cX0_comesInRound 91 = .ok (.ireturn, 1) := by decide +kernel
theorem dX0_comesInRound_92 : decode cX0_comesInRound 92 = .ok (.aload_n 0, 1) := by decide +kernel
theorem dX0_comesInRound_93 : decode cX0_comesInRound 93 = .ok (.getfield 27, 3) := by decide +kernel
theorem dX0_comesInRound_96 : decode cX0_comesInRound 96 = .ok (.invokevirtual 64, 3) := by decide +kernel
theorem dX0_comesInRound_99 : decode cX0_comesInRound 99 = .ok (.iconst 0, 1) := by decide +kernel
theorem dX0_comesInRound_100 : decode cX0_comesInRound 100 = .ok (.ireturn, 1) := by decide +kernel
set_option maxRecDepth 20000 in
theorem ggX0_measure_X0_lengthOf : GoodIn wsX0_measure wsX0_lengthOf := goodIn_r _ [10, 11, 12, 13, 14] (by decide +kernel) (by decide +kernel)
set_option maxRecDepth 20000 in
theorem gX0_measure_X0_lengthOf : GoodIn wsX0_measure (va_wsS RX0 78 yX0_lengthOf wsX0_lengthOf) := goodIn_app (goodIn_of _ (by decide +kernel)) ggX0_measure_X0_lengthOf
theorem dX0_measure_0 : decode cX0_measure 0 = .ok (.iconst 0, 1) := by decide +kernel
theorem dX0_measure_1 : decode cX0_measure 1 = .ok (.istore_n 2, 1) := by decide +kernel
theorem dX0_measure_2 : decode cX0_measure 2 = .ok (.iload_n 2, 1) := by decide +kernel
theorem dX0_measure_3 : decode cX0_measure 3 = .ok (.iconst 3, 1) := by decide +kernel
theorem dX0_measure_4 : decode cX0_measure 4 = .ok (.if_icmp .ge 48, 3) := by decide +kernel
theorem dX0_measure_7 : decode cX0_measure 7 = .ok (.aload_n 0, 1) := by decide +kernel
theorem dX0_measure_8 : decode cX0_measure 8 = .ok (.getfield 27, 3) := by decide +kernel
theorem dX0_measure_11 : decode cX0_measure 11 = .ok (.getfield 67, 3) := by decide +kernel
theorem dX0_measure_14 : decode cX0_measure 14 = .ok (.iload_n 2, 1) := by decide +kernel
theorem dX0_measure_15 : decode cX0_measure 15 = .ok (.aaload, 1) := by decide +kernel
theorem dX0_measure_16 : decode cX0_measure 16 = .ok (.astore_n 3, 1) := by decide +kernel
theorem dX0_measure_17 : decode cX0_measure 17 = .ok (.aload_n 0, 1) := by decide +kernel
theorem dX0_measure_18 : decode cX0_measure 18 = .ok (.getfield 21, 3) := by decide +kernel
theorem dX0_measure_21 : decode cX0_measure 21 = .ok (.iload_n 2, 1) := by decide +kernel
theorem dX0_measure_22 : decode cX0_measure 22 = .ok (.aload_n 3, 1) := by decide +kernel
theorem dX0_measure_23 : decode cX0_measure 23 = .ok (.aload_n 0, 1) := by decide +kernel
theorem dX0_measure_24 : decode cX0_measure 24 = .ok (.getfield 31, 3) := by decide +kernel
theorem dX0_measure_27 : decode cX0_measure 27 = .ok (.getfield 71, 3) := by decide +kernel
theorem dX0_measure_30 : decode cX0_measure 30 = .ok (.iload_n 1, 1) := by decide +kernel
theorem dX0_measure_31 : decode cX0_measure 31 = .ok (.iaload, 1) := by decide +kernel
theorem dX0_measure_32 : decode cX0_measure 32 = .ok (.daload, 1) := by decide +kernel
theorem dX0_measure_33 : decode cX0_measure 33 = .ok (.aload_n 3, 1) := by decide +kernel
theorem dX0_measure_34 : decode cX0_measure 34 = .ok (.aload_n 0, 1) := by decide +kernel
theorem dX0_measure_35 : decode cX0_measure 35 = .ok (.getfield 31, 3) := by decide +kernel
theorem dX0_measure_38 : decode cX0_measure 38 = .ok (.getfield 75, 3) := by decide +kernel
theorem dX0_measure_41 : decode cX0_measure 41 = .ok (.iload_n 1, 1) := by decide +kernel
theorem dX0_measure_42 : decode cX0_measure 42 = .ok (.iaload, 1) := by decide +kernel
theorem dX0_measure_43 : decode cX0_measure 43 = .ok (.daload, 1) := by decide +kernel
theorem dX0_measure_44 : decode cX0_measure 44 = .ok (.dsub, 1) := by decide +kernel
theorem dX0_measure_45 : decode cX0_measure 45 = .ok (.dastore, 1) := by decide +kernel
theorem dX0_measure_46 : decode cX0_measure 46 = .ok (.iinc 2 1, 3) := by decide +kernel
theorem dX0_measure_49 : decode cX0_measure 49 = .ok (.goto (-47), 3) := by decide +kernel
theorem dX0_measure_52 : decode cX0_measure 52 = .ok (.aload_n 0, 1) := by decide +kernel
theorem dX0_measure_53 : decode cX0_measure 53 = .ok (.getfield 21, 3) := by decide +kernel
theorem dX0_measure_56 : decode cX0_measure 56 = .ok (.invokestatic 78, 3) := by decide +kernel
theorem dX0_measure_59 : decode cX0_measure 59 = .ok (.dreturn, 1) := by decide +kernel
set_option maxRecDepth 20000 in
theorem ggX0_lengthOf_X6_root : GoodIn wsX0_lengthOf wsX6_root := goodIn_r _ [3, 4] (by decide +kernel) (by decide +kernel)
set_option maxRecDepth 20000 in
theorem gX0_lengthOf_X6_root_n82 : GoodIn wsX0_lengthOf (wsX6_root) := ggX0_lengthOf_X6_root
theorem dX0_lengthOf_0 : decode cX0_lengthOf 0 = .ok (.aload_n 0, 1) := by decide +kernel
theorem dX0_lengthOf_1 : decode cX0_lengthOf 1 = .ok (.iconst 0, 1) := by decide +kernel
theorem dX0_lengthOf_2 : decode cX0_lengthOf 2 = .ok (.daload, 1) := by decide +kernel
theorem dX0_lengthOf_3 : decode cX0_lengthOf 3 = .ok (.aload_n 0, 1) := by decide +kernel
theorem dX0_lengthOf_4 : decode cX0_lengthOf 4 = .ok (.iconst 0, 1) := by decide +kernel
theorem dX0_lengthOf_5 : decode cX0_lengthOf 5 = .ok (.daload, 1) := by decide +kernel
theorem dX0_lengthOf_6 : decode cX0_lengthOf 6 = .ok (.dmul, 1) := by decide +kernel
theorem dX0_lengthOf_7 : decode cX0_lengthOf 7 = .ok (.aload_n 0, 1) := by decide +kernel
theorem dX0_lengthOf_8 : decode cX0_lengthOf 8 = .ok (.iconst 1, 1) := by decide +kernel
theorem dX0_lengthOf_9 : decode cX0_lengthOf 9 = .ok (.daload, 1) := by decide +kernel
theorem dX0_lengthOf_10 : decode cX0_lengthOf 10 = .ok (.aload_n 0, 1) := by decide +kernel
theorem dX0_lengthOf_11 : decode cX0_lengthOf 11 = .ok (.iconst 1, 1) := by decide +kernel
theorem dX0_lengthOf_12 : decode cX0_lengthOf 12 = .ok (.daload, 1) := by decide +kernel
theorem dX0_lengthOf_13 : decode cX0_lengthOf 13 = .ok (.dmul, 1) := by decide +kernel
theorem dX0_lengthOf_14 : decode cX0_lengthOf 14 = .ok (.dadd, 1) := by decide +kernel
theorem dX0_lengthOf_15 : decode cX0_lengthOf 15 = .ok (.aload_n 0, 1) := by decide +kernel
theorem dX0_lengthOf_16 : decode cX0_lengthOf 16 = .ok (.iconst 2, 1) := by decide +kernel
theorem dX0_lengthOf_17 : decode cX0_lengthOf 17 = .ok (.daload, 1) := by decide +kernel
theorem dX0_lengthOf_18 : decode cX0_lengthOf 18 = .ok (.aload_n 0, 1) := by decide +kernel
theorem dX0_lengthOf_19 : decode cX0_lengthOf 19 = .ok (.iconst 2, 1) := by decide +kernel
theorem dX0_lengthOf_20 : decode cX0_lengthOf 20 = .ok (.daload, 1) := by decide +kernel
theorem dX0_lengthOf_21 : decode cX0_lengthOf 21 = .ok (.dmul, 1) := by decide +kernel
theorem dX0_lengthOf_22 : decode cX0_lengthOf 22 = .ok (.dadd, 1) := by decide +kernel
theorem dX0_lengthOf_23 : decode cX0_lengthOf 23 = .ok (.invokestatic 82, 3) := by decide +kernel
theorem dX0_lengthOf_26 : decode cX0_lengthOf 26 = .ok (.dreturn, 1) := by decide +kernel
theorem dX0_tighten_0 : decode cX0_tighten 0 = .ok (.aload_n 0, 1) := by decide +kernel
theorem dX0_tighten_1 : decode cX0_tighten 1 = .ok (.getfield 31, 3) := by decide +kernel
theorem dX0_tighten_4 : decode cX0_tighten 4 = .ok (.getfield 86, 3) := by decide +kernel
theorem dX0_tighten_7 : decode cX0_tighten 7 = .ok (.iload_n 1, 1) := by decide +kernel
theorem dX0_tighten_8 : decode cX0_tighten 8 = .ok (.daload, 1) := by decide +kernel
theorem dX0_tighten_9 : decode cX0_tighten 9 = .ok (.dstore 4, 2) := by decide +kernel
theorem dX0_tighten_11 : decode cX0_tighten 11 = .ok (.dload_n 2, 1) := by decide +kernel
theorem dX0_tighten_12 : decode cX0_tighten 12 = .ok (.dload 4, 2) := by decide +kernel
theorem dX0_tighten_14 : decode cX0_tighten 14 = .ok (.dcmp .l, 1) := by decide +kernel
theorem dX0_tighten_15 : decode cX0_tighten 15 = .ok (.ifCond .le 17, 3) := by decide +kernel
theorem dX0_tighten_18 : decode cX0_tighten 18 = .ok (.ldc2_w 89, 3) := by decide +kernel
theorem dX0_tighten_21 : decode cX0_tighten 21 = .ok (.dload_n 2, 1) := by decide +kernel
theorem dX0_tighten_22 : decode cX0_tighten 22 = .ok (.dload 4, 2) := by decide +kernel
theorem dX0_tighten_24 : decode cX0_tighten 24 = .ok (.dsub, 1) := by decide +kernel
theorem dX0_tighten_25 : decode cX0_tighten 25 = .ok (.dmul, 1) := by decide +kernel
theorem dX0_tighten_26 : decode cX0_tighten 26 = .ok (.dload 4, 2) := by decide +kernel
theorem dX0_tighten_28 : decode cX0_tighten 28 = .ok (.ddiv, 1) := by decide +kernel
theorem dX0_tighten_29 : decode cX0_tighten 29 = .ok (.goto 4, 3) := by decide +kernel
theorem dX0_tighten_32 : decode cX0_tighten 32 = .ok (.dconst 0, 1) := by decide +kernel
theorem dX0_tighten_33 : decode cX0_tighten 33 = .ok (.dstore 6, 2) := by decide +kernel
theorem dX0_tighten_35 : decode cX0_tighten 35 = .ok (.aload_n 0, 1) := by decide +kernel
theorem dX0_tighten_36 : decode cX0_tighten 36 = .ok (.getfield 31, 3) := by decide +kernel
theorem dX0_tighten_39 : decode cX0_tighten 39 = .ok (.getfield 91, 3) := by decide +kernel
theorem dX0_tighten_42 : decode cX0_tighten 42 = .ok (.iload_n 1, 1) := by decide +kernel
theorem dX0_tighten_43 : decode cX0_tighten 43 = .ok (.dload 6, 2) := by decide +kernel
theorem dX0_tighten_45 : decode cX0_tighten 45 = .ok (.dastore, 1) := by decide +kernel
theorem dX0_tighten_46 : decode cX0_tighten 46 = .ok (.dload 6, 2) := by decide +kernel
theorem dX0_tighten_48 : decode cX0_tighten 48 = .ok (.dconst 0, 1) := by decide +kernel
theorem dX0_tighten_49 : decode cX0_tighten 49 = .ok (.dcmp .l, 1) := by decide +kernel
theorem dX0_tighten_50 : decode cX0_tighten 50 = .ok (.ifCond .le 90, 3) := by decide +kernel
theorem dX0_tighten_53 : decode cX0_tighten 53 = .ok (.dload 6, 2) := by decide +kernel
theorem dX0_tighten_55 : decode cX0_tighten 55 = .ok (.dload_n 2, 1) := by decide +kernel
theorem dX0_tighten_56 : decode cX0_tighten 56 = .ok (.ddiv, 1) := by decide +kernel
theorem dX0_tighten_57 : decode cX0_tighten 57 = .ok (.dstore 8, 2) := by decide +kernel
theorem dX0_tighten_59 : decode cX0_tighten 59 = .ok (.iconst 0, 1) := by decide +kernel
theorem dX0_tighten_60 : decode cX0_tighten 60 = .ok (.istore 10, 2) := by decide +kernel
theorem dX0_tighten_62 : decode cX0_tighten 62 = .ok (.iload 10, 2) := by decide +kernel
theorem dX0_tighten_64 : decode cX0_tighten 64 = .ok (.iconst 3, 1) := by decide +kernel
theorem dX0_tighten_65 : decode cX0_tighten 65 = .ok (.if_icmp .ge 75, 3) := by decide +kernel
theorem dX0_tighten_68 : decode cX0_tighten 68 = .ok (.aload_n 0, 1) := by decide +kernel
theorem dX0_tighten_69 : decode cX0_tighten 69 = .ok (.getfield 27, 3) := by decide +kernel
theorem dX0_tighten_72 : decode cX0_tighten 72 = .ok (.getfield 94, 3) := by decide +kernel
theorem dX0_tighten_75 : decode cX0_tighten 75 = .ok (.iload 10, 2) := by decide +kernel
theorem dX0_tighten_77 : decode cX0_tighten 77 = .ok (.aaload, 1) := by decide +kernel
theorem dX0_tighten_78 : decode cX0_tighten 78 = .ok (.aload_n 0, 1) := by decide +kernel
theorem dX0_tighten_79 : decode cX0_tighten 79 = .ok (.getfield 31, 3) := by decide +kernel
theorem dX0_tighten_82 : decode cX0_tighten 82 = .ok (.getfield 75, 3) := by decide +kernel
theorem dX0_tighten_85 : decode cX0_tighten 85 = .ok (.iload_n 1, 1) := by decide +kernel
theorem dX0_tighten_86 : decode cX0_tighten 86 = .ok (.iaload, 1) := by decide +kernel
theorem dX0_tighten_87 : decode cX0_tighten 87 = .ok (.dup2, 1) := by decide +kernel
theorem dX0_tighten_88 : decode cX0_tighten 88 = .ok (.daload, 1) := by decide +kernel
theorem dX0_tighten_89 : decode cX0_tighten 89 = .ok (.dload 8, 2) := by decide +kernel
theorem dX0_tighten_91 : decode cX0_tighten 91 = .ok (.aload_n 0, 1) := by decide +kernel
theorem dX0_tighten_92 : decode cX0_tighten 92 = .ok (.getfield 21, 3) := by decide +kernel
theorem dX0_tighten_95 : decode cX0_tighten 95 = .ok (.iload 10, 2) := by decide +kernel
theorem dX0_tighten_97 : decode cX0_tighten 97 = .ok (.daload, 1) := by decide +kernel
theorem dX0_tighten_98 : decode cX0_tighten 98 = .ok (.dmul, 1) := by decide +kernel
theorem dX0_tighten_99 : decode cX0_tighten 99 = .ok (.dadd, 1) := by decide +kernel
theorem dX0_tighten_100 : decode cX0_tighten 100 = .ok (.dastore, 1) := by decide +kernel
theorem dX0_tighten_101 : decode cX0_tighten 101 = .ok (.aload_n 0, 1) := by decide +kernel
theorem dX0_tighten_102 : decode cX0_tighten 102 = .ok (.getfield 27, 3) := by decide +kernel
theorem dX0_tighten_105 : decode cX0_tighten 105 = .ok (.getfield 94, 3) := by decide +kernel
theorem dX0_tighten_108 : decode cX0_tighten 108 = .ok (.iload 10, 2) := by decide +kernel
theorem dX0_tighten_110 : decode cX0_tighten 110 = .ok (.aaload, 1) := by decide +kernel
theorem dX0_tighten_111 : decode cX0_tighten 111 = .ok (.aload_n 0, 1) := by decide +kernel
theorem dX0_tighten_112 : decode cX0_tighten 112 = .ok (.getfield 31, 3) := by decide +kernel
theorem dX0_tighten_115 : decode cX0_tighten 115 = .ok (.getfield 71, 3) := by decide +kernel
theorem dX0_tighten_118 : decode cX0_tighten 118 = .ok (.iload_n 1, 1) := by decide +kernel
theorem dX0_tighten_119 : decode cX0_tighten 119 = .ok (.iaload, 1) := by decide +kernel
theorem dX0_tighten_120 : decode cX0_tighten 120 = .ok (.dup2, 1) := by decide +kernel
theorem dX0_tighten_121 : decode cX0_tighten 121 = .ok (.daload, 1) := by decide +kernel
theorem dX0_tighten_122 : decode cX0_tighten 122 = .ok (.dload 8, 2) := by decide +kernel
theorem dX0_tighten_124 : decode cX0_tighten 124 = .ok (.aload_n 0, 1) := by decide +kernel
theorem dX0_tighten_125 : decode cX0_tighten 125 = .ok (.getfield 21, 3) := by decide +kernel
theorem dX0_tighten_128 : decode cX0_tighten 128 = .ok (.iload 10, 2) := by decide +kernel
theorem dX0_tighten_130 : decode cX0_tighten 130 = .ok (.daload, 1) := by decide +kernel
theorem dX0_tighten_131 : decode cX0_tighten 131 = .ok (.dmul, 1) := by decide +kernel
theorem dX0_tighten_132 : decode cX0_tighten 132 = .ok (.dsub, 1) := by decide +kernel
theorem dX0_tighten_133 : decode cX0_tighten 133 = .ok (.dastore, 1) := by decide +kernel
theorem dX0_tighten_134 : decode cX0_tighten 134 = .ok (.iinc 10 1, 3) := by decide +kernel
theorem dX0_tighten_137 : decode cX0_tighten 137 = .ok (.goto (-75), 3) := by decide +kernel
theorem dX0_tighten_140 : decode cX0_tighten 140 = .ok (.return_, 1) := by decide +kernel
set_option maxRecDepth 20000 in
theorem ggX0_wash_X0_findFlowAcross : GoodIn wsX0_wash wsX0_findFlowAcross := goodIn_r _ [18, 10, 19, 20, 2, 12, 13, 4, 21, 22, 23, 7, 24, 25, 26, 27, 28, 29, 30, 31, 32, 33, 34, 35, 36, 37, 38, 39, 47, 48, 49, 50, 51, 52, 53, 67, 68, 69, 70, 71, 72, 54, 55, 56, 57, 58, 59, 60, 61, 62, 63, 64, 65, 66] (by decide +kernel) (by decide +kernel)
set_option maxRecDepth 20000 in
theorem gX0_wash_X0_findFlowAcross : GoodIn wsX0_wash (wsV RX0 97 RX0 yX0_findFlowAcross wsX0_findFlowAcross) := goodIn_app (goodIn_of _ (by decide +kernel)) ggX0_wash_X0_findFlowAcross
set_option maxRecDepth 20000 in
theorem ggX0_wash_X0_lengthOf : GoodIn wsX0_wash wsX0_lengthOf := goodIn_r _ [42, 43, 44, 45, 46] (by decide +kernel) (by decide +kernel)
set_option maxRecDepth 20000 in
theorem gX0_wash_X0_lengthOf : GoodIn wsX0_wash (va_wsS RX0 78 yX0_lengthOf wsX0_lengthOf) := goodIn_app (goodIn_of _ (by decide +kernel)) ggX0_wash_X0_lengthOf
theorem dX0_wash_0 : decode cX0_wash 0 = .ok (.aload_n 0, 1) := by decide +kernel
theorem dX0_wash_1 : decode cX0_wash 1 = .ok (.iload_n 1, 1) := by decide +kernel
theorem dX0_wash_2 : decode cX0_wash 2 = .ok (.dload_n 2, 1) := by decide +kernel
theorem dX0_wash_3 : decode cX0_wash 3 = .ok (.invokevirtual 97, 3) := by decide +kernel
theorem dX0_wash_6 : decode cX0_wash 6 = .ok (.ldc2_w 100, 3) := by decide +kernel
theorem dX0_wash_9 : decode cX0_wash 9 = .ok (.aload_n 0, 1) := by decide +kernel
theorem dX0_wash_10 : decode cX0_wash 10 = .ok (.getfield 31, 3) := by decide +kernel
theorem dX0_wash_13 : decode cX0_wash 13 = .ok (.getfield 102, 3) := by decide +kernel
theorem dX0_wash_16 : decode cX0_wash 16 = .ok (.iload_n 1, 1) := by decide +kernel
theorem dX0_wash_17 : decode cX0_wash 17 = .ok (.daload, 1) := by decide +kernel
theorem dX0_wash_18 : decode cX0_wash 18 = .ok (.dmul, 1) := by decide +kernel
theorem dX0_wash_19 : decode cX0_wash 19 = .ok (.dconst 1, 1) := by decide +kernel
theorem dX0_wash_20 : decode cX0_wash 20 = .ok (.aload_n 0, 1) := by decide +kernel
theorem dX0_wash_21 : decode cX0_wash 21 = .ok (.getfield 35, 3) := by decide +kernel
theorem dX0_wash_24 : decode cX0_wash 24 = .ok (.getfield 105, 3) := by decide +kernel
theorem dX0_wash_27 : decode cX0_wash 27 = .ok (.dadd, 1) := by decide +kernel
theorem dX0_wash_28 : decode cX0_wash 28 = .ok (.dmul, 1) := by decide +kernel
theorem dX0_wash_29 : decode cX0_wash 29 = .ok (.aload_n 0, 1) := by decide +kernel
theorem dX0_wash_30 : decode cX0_wash 30 = .ok (.getfield 31, 3) := by decide +kernel
theorem dX0_wash_33 : decode cX0_wash 33 = .ok (.getfield 86, 3) := by decide +kernel
theorem dX0_wash_36 : decode cX0_wash 36 = .ok (.iload_n 1, 1) := by decide +kernel
theorem dX0_wash_37 : decode cX0_wash 37 = .ok (.daload, 1) := by decide +kernel
theorem dX0_wash_38 : decode cX0_wash 38 = .ok (.dmul, 1) := by decide +kernel
theorem dX0_wash_39 : decode cX0_wash 39 = .ok (.aload_n 0, 1) := by decide +kernel
theorem dX0_wash_40 : decode cX0_wash 40 = .ok (.getfield 24, 3) := by decide +kernel
theorem dX0_wash_43 : decode cX0_wash 43 = .ok (.invokestatic 78, 3) := by decide +kernel
theorem dX0_wash_46 : decode cX0_wash 46 = .ok (.dmul, 1) := by decide +kernel
theorem dX0_wash_47 : decode cX0_wash 47 = .ok (.dstore 4, 2) := by decide +kernel
theorem dX0_wash_49 : decode cX0_wash 49 = .ok (.iconst 0, 1) := by decide +kernel
theorem dX0_wash_50 : decode cX0_wash 50 = .ok (.istore 6, 2) := by decide +kernel
theorem dX0_wash_52 : decode cX0_wash 52 = .ok (.iload 6, 2) := by decide +kernel
theorem dX0_wash_54 : decode cX0_wash 54 = .ok (.iconst 3, 1) := by decide +kernel
theorem dX0_wash_55 : decode cX0_wash 55 = .ok (.if_icmp .ge 99, 3) := by decide +kernel
theorem dX0_wash_58 : decode cX0_wash 58 = .ok (.aload_n 0, 1) := by decide +kernel
theorem dX0_wash_59 : decode cX0_wash 59 = .ok (.getfield 9, 3) := by decide +kernel
theorem dX0_wash_62 : decode cX0_wash 62 = .ok (.iload 6, 2) := by decide +kernel
theorem dX0_wash_64 : decode cX0_wash 64 = .ok (.dup2, 1) := by decide +kernel
theorem dX0_wash_65 : decode cX0_wash 65 = .ok (.daload, 1) := by decide +kernel
theorem dX0_wash_66 : decode cX0_wash 66 = .ok (.ldc2_w 110, 3) := by decide +kernel
theorem dX0_wash_69 : decode cX0_wash 69 = .ok (.dload 4, 2) := by decide +kernel
theorem dX0_wash_71 : decode cX0_wash 71 = .ok (.dmul, 1) := by decide +kernel
theorem dX0_wash_72 : decode cX0_wash 72 = .ok (.aload_n 0, 1) := by decide +kernel
theorem dX0_wash_73 : decode cX0_wash 73 = .ok (.getfield 24, 3) := by decide +kernel
theorem dX0_wash_76 : decode cX0_wash 76 = .ok (.iload 6, 2) := by decide +kernel
theorem dX0_wash_78 : decode cX0_wash 78 = .ok (.daload, 1) := by decide +kernel
theorem dX0_wash_79 : decode cX0_wash 79 = .ok (.dmul, 1) := by decide +kernel
theorem dX0_wash_80 : decode cX0_wash 80 = .ok (.dadd, 1) := by decide +kernel
theorem dX0_wash_81 : decode cX0_wash 81 = .ok (.dastore, 1) := by decide +kernel
theorem dX0_wash_82 : decode cX0_wash 82 = .ok (.aload_n 0, 1) := by decide +kernel
theorem dX0_wash_83 : decode cX0_wash 83 = .ok (.getfield 27, 3) := by decide +kernel
theorem dX0_wash_86 : decode cX0_wash 86 = .ok (.getfield 94, 3) := by decide +kernel
theorem dX0_wash_89 : decode cX0_wash 89 = .ok (.iload 6, 2) := by decide +kernel
theorem dX0_wash_91 : decode cX0_wash 91 = .ok (.aaload, 1) := by decide +kernel
theorem dX0_wash_92 : decode cX0_wash 92 = .ok (.aload_n 0, 1) := by decide +kernel
theorem dX0_wash_93 : decode cX0_wash 93 = .ok (.getfield 31, 3) := by decide +kernel
theorem dX0_wash_96 : decode cX0_wash 96 = .ok (.getfield 75, 3) := by decide +kernel
theorem dX0_wash_99 : decode cX0_wash 99 = .ok (.iload_n 1, 1) := by decide +kernel
theorem dX0_wash_100 : decode cX0_wash 100 = .ok (.iaload, 1) := by decide +kernel
theorem dX0_wash_101 : decode cX0_wash 101 = .ok (.dup2, 1) := by decide +kernel
theorem dX0_wash_102 : decode cX0_wash 102 = .ok (.daload, 1) := by decide +kernel
theorem dX0_wash_103 : decode cX0_wash 103 = .ok (.dload 4, 2) := by decide +kernel
theorem dX0_wash_105 : decode cX0_wash 105 = .ok (.aload_n 0, 1) := by decide +kernel
theorem dX0_wash_106 : decode cX0_wash 106 = .ok (.getfield 24, 3) := by decide +kernel
theorem dX0_wash_109 : decode cX0_wash 109 = .ok (.iload 6, 2) := by decide +kernel
theorem dX0_wash_111 : decode cX0_wash 111 = .ok (.daload, 1) := by decide +kernel
theorem dX0_wash_112 : decode cX0_wash 112 = .ok (.dmul, 1) := by decide +kernel
theorem dX0_wash_113 : decode cX0_wash 113 = .ok (.dadd, 1) := by decide +kernel
theorem dX0_wash_114 : decode cX0_wash 114 = .ok (.dastore, 1) := by decide +kernel
theorem dX0_wash_115 : decode cX0_wash 115 = .ok (.aload_n 0, 1) := by decide +kernel
theorem dX0_wash_116 : decode cX0_wash 116 = .ok (.getfield 27, 3) := by decide +kernel
theorem dX0_wash_119 : decode cX0_wash 119 = .ok (.getfield 94, 3) := by decide +kernel
theorem dX0_wash_122 : decode cX0_wash 122 = .ok (.iload 6, 2) := by decide +kernel
theorem dX0_wash_124 : decode cX0_wash 124 = .ok (.aaload, 1) := by decide +kernel
theorem dX0_wash_125 : decode cX0_wash 125 = .ok (.aload_n 0, 1) := by decide +kernel
theorem dX0_wash_126 : decode cX0_wash 126 = .ok (.getfield 31, 3) := by decide +kernel
theorem dX0_wash_129 : decode cX0_wash 129 = .ok (.getfield 71, 3) := by decide +kernel
theorem dX0_wash_132 : decode cX0_wash 132 = .ok (.iload_n 1, 1) := by decide +kernel
theorem dX0_wash_133 : decode cX0_wash 133 = .ok (.iaload, 1) := by decide +kernel
theorem dX0_wash_134 : decode cX0_wash 134 = .ok (.dup2, 1) := by decide +kernel
theorem dX0_wash_135 : decode cX0_wash 135 = .ok (.daload, 1) := by decide +kernel
theorem dX0_wash_136 : decode cX0_wash 136 = .ok (.dload 4, 2) := by decide +kernel
theorem dX0_wash_138 : decode cX0_wash 138 = .ok (.aload_n 0, 1) := by decide +kernel
theorem dX0_wash_139 : decode cX0_wash 139 = .ok (.getfield 24, 3) := by decide +kernel
theorem dX0_wash_142 : decode cX0_wash 142 = .ok (.iload 6, 2) := by decide +kernel
theorem dX0_wash_144 : decode cX0_wash 144 = .ok (.daload, 1) := by decide +kernel
theorem dX0_wash_145 : decode cX0_wash 145 = .ok (.dmul, 1) := by decide +kernel
theorem dX0_wash_146 : decode cX0_wash 146 = .ok (.dadd, 1) := by decide +kernel
theorem dX0_wash_147 : decode cX0_wash 147 = .ok (.dastore, 1) := by decide +kernel
theorem dX0_wash_148 : decode cX0_wash 148 = .ok (.iinc 6 1, 3) := by decide +kernel
theorem dX0_wash_151 : decode cX0_wash 151 = .ok (.goto (-99), 3) := by decide +kernel
theorem dX0_wash_154 : decode cX0_wash 154 = .ok (.return_, 1) := by decide +kernel
set_option maxRecDepth 20000 in
theorem ggX0_findFlowAcross_X5_rowAtOrAbove : GoodIn wsX0_findFlowAcross wsX5_rowAtOrAbove := goodIn_r _ [16, 17, 18, 48, 49, 50, 51, 52, 53] (by decide +kernel) (by decide +kernel)
set_option maxRecDepth 20000 in
theorem gX0_findFlowAcross_X5_rowAtOrAbove : GoodIn wsX0_findFlowAcross (wsV RX0 114 RX5 yX5_rowAtOrAbove wsX5_rowAtOrAbove) := goodIn_app (goodIn_of _ (by decide +kernel)) ggX0_findFlowAcross_X5_rowAtOrAbove
set_option maxRecDepth 20000 in
theorem ggX0_findFlowAcross_X5_speedAt : GoodIn wsX0_findFlowAcross wsX5_speedAt := goodIn_r _ [22, 23, 24, 25, 26, 15, 27, 17, 18, 48, 49, 50, 51, 52, 53] (by decide +kernel) (by decide +kernel)
set_option maxRecDepth 20000 in
theorem gX0_findFlowAcross_X5_speedAt : GoodIn wsX0_findFlowAcross (wsV RX0 121 RX5 yX5_speedAt wsX5_speedAt) := goodIn_app (goodIn_of _ (by decide +kernel)) ggX0_findFlowAcross_X5_speedAt
theorem dX0_findFlowAcross_0 : decode cX0_findFlowAcross 0 = .ok (.aload_n 0, 1) := by decide +kernel
theorem dX0_findFlowAcross_1 : decode cX0_findFlowAcross 1 = .ok (.getfield 27, 3) := by decide +kernel
theorem dX0_findFlowAcross_4 : decode cX0_findFlowAcross 4 = .ok (.getfield 67, 3) := by decide +kernel
theorem dX0_findFlowAcross_7 : decode cX0_findFlowAcross 7 = .ok (.iconst 2, 1) := by decide +kernel
theorem dX0_findFlowAcross_8 : decode cX0_findFlowAcross 8 = .ok (.aaload, 1) := by decide +kernel
theorem dX0_findFlowAcross_9 : decode cX0_findFlowAcross 9 = .ok (.astore 4, 2) := by decide +kernel
theorem dX0_findFlowAcross_11 : decode cX0_findFlowAcross 11 = .ok (.ldc2_w 112, 3) := by decide +kernel
theorem dX0_findFlowAcross_14 : decode cX0_findFlowAcross 14 = .ok (.aload 4, 2) := by decide +kernel
theorem dX0_findFlowAcross_16 : decode cX0_findFlowAcross 16 = .ok (.aload_n 0, 1) := by decide +kernel
theorem dX0_findFlowAcross_17 : decode cX0_findFlowAcross 17 = .ok (.getfield 31, 3) := by decide +kernel
theorem dX0_findFlowAcross_20 : decode cX0_findFlowAcross 20 = .ok (.getfield 75, 3) := by decide +kernel
theorem dX0_findFlowAcross_23 : decode cX0_findFlowAcross 23 = .ok (.iload_n 1, 1) := by decide +kernel
theorem dX0_findFlowAcross_24 : decode cX0_findFlowAcross 24 = .ok (.iaload, 1) := by decide +kernel
theorem dX0_findFlowAcross_25 : decode cX0_findFlowAcross 25 = .ok (.daload, 1) := by decide +kernel
theorem dX0_findFlowAcross_26 : decode cX0_findFlowAcross 26 = .ok (.aload 4, 2) := by decide +kernel
theorem dX0_findFlowAcross_28 : decode cX0_findFlowAcross 28 = .ok (.aload_n 0, 1) := by decide +kernel
theorem dX0_findFlowAcross_29 : decode cX0_findFlowAcross 29 = .ok (.getfield 31, 3) := by decide +kernel
theorem dX0_findFlowAcross_32 : decode cX0_findFlowAcross 32 = .ok (.getfield 71, 3) := by decide +kernel
theorem dX0_findFlowAcross_35 : decode cX0_findFlowAcross 35 = .ok (.iload_n 1, 1) := by decide +kernel
theorem dX0_findFlowAcross_36 : decode cX0_findFlowAcross 36 = .ok (.iaload, 1) := by decide +kernel
theorem dX0_findFlowAcross_37 : decode cX0_findFlowAcross 37 = .ok (.daload, 1) := by decide +kernel
theorem dX0_findFlowAcross_38 : decode cX0_findFlowAcross 38 = .ok (.dadd, 1) := by decide +kernel
theorem dX0_findFlowAcross_39 : decode cX0_findFlowAcross 39 = .ok (.dmul, 1) := by decide +kernel
theorem dX0_findFlowAcross_40 : decode cX0_findFlowAcross 40 = .ok (.dstore 5, 2) := by decide +kernel
theorem dX0_findFlowAcross_42 : decode cX0_findFlowAcross 42 = .ok (.aload_n 0, 1) := by decide +kernel
theorem dX0_findFlowAcross_43 : decode cX0_findFlowAcross 43 = .ok (.getfield 35, 3) := by decide +kernel
theorem dX0_findFlowAcross_46 : decode cX0_findFlowAcross 46 = .ok (.dload 5, 2) := by decide +kernel
theorem dX0_findFlowAcross_48 : decode cX0_findFlowAcross 48 = .ok (.invokevirtual 114, 3) := by decide +kernel
theorem dX0_findFlowAcross_51 : decode cX0_findFlowAcross 51 = .ok (.istore 7, 2) := by decide +kernel
theorem dX0_findFlowAcross_53 : decode cX0_findFlowAcross 53 = .ok (.aload_n 0, 1) := by decide +kernel
theorem dX0_findFlowAcross_54 : decode cX0_findFlowAcross 54 = .ok (.getfield 35, 3) := by decide +kernel
theorem dX0_findFlowAcross_57 : decode cX0_findFlowAcross 57 = .ok (.aload_n 0, 1) := by decide +kernel
theorem dX0_findFlowAcross_58 : decode cX0_findFlowAcross 58 = .ok (.getfield 35, 3) := by decide +kernel
theorem dX0_findFlowAcross_61 : decode cX0_findFlowAcross 61 = .ok (.getfield 118, 3) := by decide +kernel
theorem dX0_findFlowAcross_64 : decode cX0_findFlowAcross 64 = .ok (.dload 5, 2) := by decide +kernel
theorem dX0_findFlowAcross_66 : decode cX0_findFlowAcross 66 = .ok (.iload 7, 2) := by decide +kernel
theorem dX0_findFlowAcross_68 : decode cX0_findFlowAcross 68 = .ok (.invokevirtual 121, 3) := by decide +kernel
theorem dX0_findFlowAcross_71 : decode cX0_findFlowAcross 71 = .ok (.dstore 8, 2) := by decide +kernel
theorem dX0_findFlowAcross_73 : decode cX0_findFlowAcross 73 = .ok (.aload_n 0, 1) := by decide +kernel
theorem dX0_findFlowAcross_74 : decode cX0_findFlowAcross 74 = .ok (.getfield 35, 3) := by decide +kernel
theorem dX0_findFlowAcross_77 : decode cX0_findFlowAcross 77 = .ok (.aload_n 0, 1) := by decide +kernel
theorem dX0_findFlowAcross_78 : decode cX0_findFlowAcross 78 = .ok (.getfield 35, 3) := by decide +kernel
theorem dX0_findFlowAcross_81 : decode cX0_findFlowAcross 81 = .ok (.getfield 125, 3) := by decide +kernel
theorem dX0_findFlowAcross_84 : decode cX0_findFlowAcross 84 = .ok (.dload 5, 2) := by decide +kernel
theorem dX0_findFlowAcross_86 : decode cX0_findFlowAcross 86 = .ok (.iload 7, 2) := by decide +kernel
theorem dX0_findFlowAcross_88 : decode cX0_findFlowAcross 88 = .ok (.invokevirtual 121, 3) := by decide +kernel
theorem dX0_findFlowAcross_91 : decode cX0_findFlowAcross 91 = .ok (.dstore 10, 2) := by decide +kernel
theorem dX0_findFlowAcross_93 : decode cX0_findFlowAcross 93 = .ok (.dload 8, 2) := by decide +kernel
theorem dX0_findFlowAcross_95 : decode cX0_findFlowAcross 95 = .ok (.aload_n 0, 1) := by decide +kernel
theorem dX0_findFlowAcross_96 : decode cX0_findFlowAcross 96 = .ok (.getfield 21, 3) := by decide +kernel
theorem dX0_findFlowAcross_99 : decode cX0_findFlowAcross 99 = .ok (.iconst 0, 1) := by decide +kernel
theorem dX0_findFlowAcross_100 : decode cX0_findFlowAcross 100 = .ok (.daload, 1) := by decide +kernel
theorem dX0_findFlowAcross_101 : decode cX0_findFlowAcross 101 = .ok (.dmul, 1) := by decide +kernel
theorem dX0_findFlowAcross_102 : decode cX0_findFlowAcross 102 = .ok (.dload 10, 2) := by decide +kernel
theorem dX0_findFlowAcross_104 : decode cX0_findFlowAcross 104 = .ok (.aload_n 0, 1) := by decide +kernel
theorem dX0_findFlowAcross_105 : decode cX0_findFlowAcross 105 = .ok (.getfield 21, 3) := by decide +kernel
theorem dX0_findFlowAcross_108 : decode cX0_findFlowAcross 108 = .ok (.iconst 1, 1) := by decide +kernel
theorem dX0_findFlowAcross_109 : decode cX0_findFlowAcross 109 = .ok (.daload, 1) := by decide +kernel
theorem dX0_findFlowAcross_110 : decode cX0_findFlowAcross 110 = .ok (.dmul, 1) := by decide +kernel
theorem dX0_findFlowAcross_111 : decode cX0_findFlowAcross 111 = .ok (.dadd, 1) := by decide +kernel
theorem dX0_findFlowAcross_112 : decode cX0_findFlowAcross 112 = .ok (.dload_n 2, 1) := by decide +kernel
theorem dX0_findFlowAcross_113 : decode cX0_findFlowAcross 113 = .ok (.ddiv, 1) := by decide +kernel
theorem dX0_findFlowAcross_114 : decode cX0_findFlowAcross 114 = .ok (.dstore 12, 2) := by decide +kernel
theorem dX0_findFlowAcross_116 : decode cX0_findFlowAcross 116 = .ok (.aload_n 0, 1) := by decide +kernel
theorem dX0_findFlowAcross_117 : decode cX0_findFlowAcross 117 = .ok (.getfield 24, 3) := by decide +kernel
theorem dX0_findFlowAcross_120 : decode cX0_findFlowAcross 120 = .ok (.iconst 0, 1) := by decide +kernel
theorem dX0_findFlowAcross_121 : decode cX0_findFlowAcross 121 = .ok (.dload 8, 2) := by decide +kernel
theorem dX0_findFlowAcross_123 : decode cX0_findFlowAcross 123 = .ok (.dload 12, 2) := by decide +kernel
theorem dX0_findFlowAcross_125 : decode cX0_findFlowAcross 125 = .ok (.aload_n 0, 1) := by decide +kernel
theorem dX0_findFlowAcross_126 : decode cX0_findFlowAcross 126 = .ok (.getfield 21, 3) := by decide +kernel
theorem dX0_findFlowAcross_129 : decode cX0_findFlowAcross 129 = .ok (.iconst 0, 1) := by decide +kernel
theorem dX0_findFlowAcross_130 : decode cX0_findFlowAcross 130 = .ok (.daload, 1) := by decide +kernel
theorem dX0_findFlowAcross_131 : decode cX0_findFlowAcross 131 = .ok (.dmul, 1) := by decide +kernel
theorem dX0_findFlowAcross_132 : decode cX0_findFlowAcross 132 = .ok (.dload_n 2, 1) := by decide +kernel
theorem dX0_findFlowAcross_133 : decode cX0_findFlowAcross 133 = .ok (.ddiv, 1) := by decide +kernel
theorem dX0_findFlowAcross_134 : decode cX0_findFlowAcross 134 = .ok (.dsub, 1) := by decide +kernel
theorem dX0_findFlowAcross_135 : decode cX0_findFlowAcross 135 = .ok (.dastore, 1) := by decide +kernel
theorem dX0_findFlowAcross_136 : decode cX0_findFlowAcross 136 = .ok (.aload_n 0, 1) := by decide +kernel
theorem dX0_findFlowAcross_137 : decode cX0_findFlowAcross 137 = .ok (.getfield 24, 3) := by decide +kernel
theorem dX0_findFlowAcross_140 : decode cX0_findFlowAcross 140 = .ok (.iconst 1, 1) := by decide +kernel
theorem dX0_findFlowAcross_141 : decode cX0_findFlowAcross 141 = .ok (.dload 10, 2) := by decide +kernel
theorem dX0_findFlowAcross_143 : decode cX0_findFlowAcross 143 = .ok (.dload 12, 2) := by decide +kernel
theorem dX0_findFlowAcross_145 : decode cX0_findFlowAcross 145 = .ok (.aload_n 0, 1) := by decide +kernel
theorem dX0_findFlowAcross_146 : decode cX0_findFlowAcross 146 = .ok (.getfield 21, 3) := by decide +kernel
theorem dX0_findFlowAcross_149 : decode cX0_findFlowAcross 149 = .ok (.iconst 1, 1) := by decide +kernel
theorem dX0_findFlowAcross_150 : decode cX0_findFlowAcross 150 = .ok (.daload, 1) := by decide +kernel
theorem dX0_findFlowAcross_151 : decode cX0_findFlowAcross 151 = .ok (.dmul, 1) := by decide +kernel
theorem dX0_findFlowAcross_152 : decode cX0_findFlowAcross 152 = .ok (.dload_n 2, 1) := by decide +kernel
theorem dX0_findFlowAcross_153 : decode cX0_findFlowAcross 153 = .ok (.ddiv, 1) := by decide +kernel
theorem dX0_findFlowAcross_154 : decode cX0_findFlowAcross 154 = .ok (.dsub, 1) := by decide +kernel
theorem dX0_findFlowAcross_155 : decode cX0_findFlowAcross 155 = .ok (.dastore, 1) := by decide +kernel
theorem dX0_findFlowAcross_156 : decode cX0_findFlowAcross 156 = .ok (.aload_n 0, 1) := by decide +kernel
theorem dX0_findFlowAcross_157 : decode cX0_findFlowAcross 157 = .ok (.getfield 24, 3) := by decide +kernel
theorem dX0_findFlowAcross_160 : decode cX0_findFlowAcross 160 = .ok (.iconst 2, 1) := by decide +kernel
theorem dX0_findFlowAcross_161 : decode cX0_findFlowAcross 161 = .ok (.dconst 0, 1) := by decide +kernel
theorem dX0_findFlowAcross_162 : decode cX0_findFlowAcross 162 = .ok (.dload 12, 2) := by decide +kernel
theorem dX0_findFlowAcross_164 : decode cX0_findFlowAcross 164 = .ok (.aload_n 0, 1) := by decide +kernel
theorem dX0_findFlowAcross_165 : decode cX0_findFlowAcross 165 = .ok (.getfield 21, 3) := by decide +kernel
theorem dX0_findFlowAcross_168 : decode cX0_findFlowAcross 168 = .ok (.iconst 2, 1) := by decide +kernel
theorem dX0_findFlowAcross_169 : decode cX0_findFlowAcross 169 = .ok (.daload, 1) := by decide +kernel
theorem dX0_findFlowAcross_170 : decode cX0_findFlowAcross 170 = .ok (.dmul, 1) := by decide +kernel
theorem dX0_findFlowAcross_171 : decode cX0_findFlowAcross 171 = .ok (.dload_n 2, 1) := by decide +kernel
theorem dX0_findFlowAcross_172 : decode cX0_findFlowAcross 172 = .ok (.ddiv, 1) := by decide +kernel
theorem dX0_findFlowAcross_173 : decode cX0_findFlowAcross 173 = .ok (.dsub, 1) := by decide +kernel
theorem dX0_findFlowAcross_174 : decode cX0_findFlowAcross 174 = .ok (.dastore, 1) := by decide +kernel
theorem dX0_findFlowAcross_175 : decode cX0_findFlowAcross 175 = .ok (.return_, 1) := by decide +kernel
theorem dX1_init_0 : decode cX1_init 0 = .ok (.aload_n 0, 1) := by decide +kernel
theorem dX1_init_1 : decode cX1_init 1 = .ok (.invokespecial 3, 3) := by decide +kernel
theorem dX1_init_4 : decode cX1_init 4 = .ok (.aload_n 0, 1) := by decide +kernel
theorem dX1_init_5 : decode cX1_init 5 = .ok (.bipush 60, 2) := by decide +kernel
theorem dX1_init_7 : decode cX1_init 7 = .ok (.newarray .int, 2) := by decide +kernel
theorem dX1_init_9 : decode cX1_init 9 = .ok (.putfield 9, 3) := by decide +kernel
theorem dX1_init_12 : decode cX1_init 12 = .ok (.aload_n 0, 1) := by decide +kernel
theorem dX1_init_13 : decode cX1_init 13 = .ok (.bipush 60, 2) := by decide +kernel
theorem dX1_init_15 : decode cX1_init 15 = .ok (.newarray .int, 2) := by decide +kernel
theorem dX1_init_17 : decode cX1_init 17 = .ok (.putfield 15, 3) := by decide +kernel
theorem dX1_init_20 : decode cX1_init 20 = .ok (.aload_n 0, 1) := by decide +kernel
theorem dX1_init_21 : decode cX1_init 21 = .ok (.bipush 60, 2) := by decide +kernel
theorem dX1_init_23 : decode cX1_init 23 = .ok (.newarray .double, 2) := by decide +kernel
theorem dX1_init_25 : decode cX1_init 25 = .ok (.putfield 18, 3) := by decide +kernel
theorem dX1_init_28 : decode cX1_init 28 = .ok (.aload_n 0, 1) := by decide +kernel
theorem dX1_init_29 : decode cX1_init 29 = .ok (.bipush 60, 2) := by decide +kernel
theorem dX1_init_31 : decode cX1_init 31 = .ok (.newarray .double, 2) := by decide +kernel
theorem dX1_init_33 : decode cX1_init 33 = .ok (.putfield 22, 3) := by decide +kernel
theorem dX1_init_36 : decode cX1_init 36 = .ok (.aload_n 0, 1) := by decide +kernel
theorem dX1_init_37 : decode cX1_init 37 = .ok (.bipush 60, 2) := by decide +kernel
theorem dX1_init_39 : decode cX1_init 39 = .ok (.newarray .double, 2) := by decide +kernel
theorem dX1_init_41 : decode cX1_init 41 = .ok (.putfield 25, 3) := by decide +kernel
theorem dX1_init_44 : decode cX1_init 44 = .ok (.aload_n 0, 1) := by decide +kernel
theorem dX1_init_45 : decode cX1_init 45 = .ok (.bipush 60, 2) := by decide +kernel
theorem dX1_init_47 : decode cX1_init 47 = .ok (.newarray .double, 2) := by decide +kernel
theorem dX1_init_49 : decode cX1_init 49 = .ok (.putfield 28, 3) := by decide +kernel
theorem dX1_init_52 : decode cX1_init 52 = .ok (.aload_n 0, 1) := by decide +kernel
theorem dX1_init_53 : decode cX1_init 53 = .ok (.iconst 0, 1) := by decide +kernel
theorem dX1_init_54 : decode cX1_init 54 = .ok (.putfield 31, 3) := by decide +kernel
theorem dX1_init_57 : decode cX1_init 57 = .ok (.return_, 1) := by decide +kernel
theorem dX1_has_0 : decode cX1_has 0 = .ok (.iload_n 1, 1) := by decide +kernel
theorem dX1_has_1 : decode cX1_has 1 = .ok (.ifCond .lt 15, 3) := by decide +kernel
theorem dX1_has_4 : decode cX1_has 4 = .ok (.iload_n 1, 1) := by decide +kernel
theorem dX1_has_5 : decode cX1_has 5 = .ok (.aload_n 0, 1) := by decide +kernel
theorem dX1_has_6 : decode cX1_has 6 = .ok (.getfield 31, 3) := by decide +kernel
theorem dX1_has_9 : decode cX1_has 9 = .ok (.if_icmp .ge 7, 3) := by decide +kernel
theorem dX1_has_12 : decode cX1_has 12 = .ok (.iconst 1, 1) := by decide +kernel
theorem dX1_has_13 : decode cX1_has 13 = .ok (.goto 4, 3) := by decide +kernel
theorem dX1_has_16 : decode cX1_has 16 = .ok (.iconst 0, 1) := by decide +kernel
theorem dX1_has_17 : decode cX1_has 17 = .ok (.ireturn, 1) := by decide +kernel
theorem dX1_add_0 : decode cX1_add 0 = .ok (.aload_n 0, 1) := by decide +kernel
theorem dX1_add_1 : decode cX1_add 1 = .ok (.getfield 31, 3) := by decide +kernel
theorem dX1_add_4 : decode cX1_add 4 = .ok (.istore 9, 2) := by decide +kernel
theorem dX1_add_6 : decode cX1_add 6 = .ok (.aload_n 0, 1) := by decide +kernel
theorem dX1_add_7 : decode cX1_add 7 = .ok (.getfield 9, 3) := by decide +kernel
theorem dX1_add_10 : decode cX1_add 10 = .ok (.iload 9, 2) := by decide +kernel
theorem dX1_add_12 : decode cX1_add 12 = .ok (.iload_n 1, 1) := by decide +kernel
theorem dX1_add_13 : decode cX1_add 13 = .ok (.iastore, 1) := by decide +kernel
theorem dX1_add_14 : decode cX1_add 14 = .ok (.aload_n 0, 1) := by decide +kernel
theorem dX1_add_15 : decode cX1_add 15 = .ok (.getfield 15, 3) := by decide +kernel
theorem dX1_add_18 : decode cX1_add 18 = .ok (.iload 9, 2) := by decide +kernel
theorem dX1_add_20 : decode cX1_add 20 = .ok (.iload_n 2, 1) := by decide +kernel
theorem dX1_add_21 : decode cX1_add 21 = .ok (.iastore, 1) := by decide +kernel
theorem dX1_add_22 : decode cX1_add 22 = .ok (.aload_n 0, 1) := by decide +kernel
theorem dX1_add_23 : decode cX1_add 23 = .ok (.getfield 18, 3) := by decide +kernel
theorem dX1_add_26 : decode cX1_add 26 = .ok (.iload 9, 2) := by decide +kernel
theorem dX1_add_28 : decode cX1_add 28 = .ok (.dload_n 3, 1) := by decide +kernel
theorem dX1_add_29 : decode cX1_add 29 = .ok (.dastore, 1) := by decide +kernel
theorem dX1_add_30 : decode cX1_add 30 = .ok (.aload_n 0, 1) := by decide +kernel
theorem dX1_add_31 : decode cX1_add 31 = .ok (.getfield 22, 3) := by decide +kernel
theorem dX1_add_34 : decode cX1_add 34 = .ok (.iload 9, 2) := by decide +kernel
theorem dX1_add_36 : decode cX1_add 36 = .ok (.dload 5, 2) := by decide +kernel
theorem dX1_add_38 : decode cX1_add 38 = .ok (.dastore, 1) := by decide +kernel
theorem dX1_add_39 : decode cX1_add 39 = .ok (.aload_n 0, 1) := by decide +kernel
theorem dX1_add_40 : decode cX1_add 40 = .ok (.getfield 25, 3) := by decide +kernel
theorem dX1_add_43 : decode cX1_add 43 = .ok (.iload 9, 2) := by decide +kernel
theorem dX1_add_45 : decode cX1_add 45 = .ok (.dload 7, 2) := by decide +kernel
theorem dX1_add_47 : decode cX1_add 47 = .ok (.dastore, 1) := by decide +kernel
theorem dX1_add_48 : decode cX1_add 48 = .ok (.aload_n 0, 1) := by decide +kernel
theorem dX1_add_49 : decode cX1_add 49 = .ok (.getfield 28, 3) := by decide +kernel
theorem dX1_add_52 : decode cX1_add 52 = .ok (.iload 9, 2) := by decide +kernel
theorem dX1_add_54 : decode cX1_add 54 = .ok (.ldc2_w 35, 3) := by decide +kernel
theorem dX1_add_57 : decode cX1_add 57 = .ok (.dastore, 1) := by decide +kernel
theorem dX1_add_58 : decode cX1_add 58 = .ok (.aload_n 0, 1) := by decide +kernel
theorem dX1_add_59 : decode cX1_add 59 = .ok (.dup, 1) := by decide +kernel
theorem dX1_add_60 : decode cX1_add 60 = .ok (.getfield 31, 3) := by decide +kernel
theorem dX1_add_63 : decode cX1_add 63 = .ok (.iconst 1, 1) := by decide +kernel
theorem dX1_add_64 : decode cX1_add 64 = .ok (.iadd, 1) := by decide +kernel
theorem dX1_add_65 : decode cX1_add 65 = .ok (.putfield 31, 3) := by decide +kernel
theorem dX1_add_68 : decode cX1_add 68 = .ok (.iload 9, 2) := by decide +kernel
theorem dX1_add_70 : decode cX1_add 70 = .ok (.ireturn, 1) := by decide +kernel
theorem dX1_overloaded_0 : decode cX1_overloaded 0 = .ok (.iconst 0, 1) := by decide +kernel
theorem dX1_overloaded_1 : decode cX1_overloaded 1 = .ok (.istore_n 2, 1) := by decide +kernel
theorem dX1_overloaded_2 : decode cX1_overloaded 2 = .ok (.iconst 0, 1) := by decide +kernel
theorem dX1_overloaded_3 : decode cX1_overloaded 3 = .ok (.istore_n 3, 1) := by decide +kernel
theorem dX1_overloaded_4 : decode cX1_overloaded 4 = .ok (.iload_n 3, 1) := by decide +kernel
theorem dX1_overloaded_5 : decode cX1_overloaded 5 = .ok (.aload_n 0, 1) := by decide +kernel
theorem dX1_overloaded_6 : decode cX1_overloaded 6 = .ok (.getfield 31, 3) := by decide +kernel
theorem dX1_overloaded_9 : decode cX1_overloaded 9 = .ok (.if_icmp .ge 35, 3) := by decide +kernel
theorem dX1_overloaded_12 : decode cX1_overloaded 12 = .ok (.aload_n 0, 1) := by decide +kernel
theorem dX1_overloaded_13 : decode cX1_overloaded 13 = .ok (.getfield 28, 3) := by decide +kernel
theorem dX1_overloaded_16 : decode cX1_overloaded 16 = .ok (.iload_n 3, 1) := by decide +kernel
theorem dX1_overloaded_17 : decode cX1_overloaded 17 = .ok (.daload, 1) := by decide +kernel
theorem dX1_overloaded_18 : decode cX1_overloaded 18 = .ok (.aload_n 0, 1) := by decide +kernel
theorem dX1_overloaded_19 : decode cX1_overloaded 19 = .ok (.getfield 25, 3) := by decide +kernel
theorem dX1_overloaded_22 : decode cX1_overloaded 22 = .ok (.iload_n 3, 1) := by decide +kernel
theorem dX1_overloaded_23 : decode cX1_overloaded 23 = .ok (.daload, 1) := by decide +kernel
theorem dX1_overloaded_24 : decode cX1_overloaded 24 = .ok (.dcmp .l, 1) := by decide +kernel
theorem dX1_overloaded_25 : decode cX1_overloaded 25 = .ok (.ifCond .le 13, 3) := by decide +kernel
theorem dX1_overloaded_28 : decode cX1_overloaded 28 = .ok (.iload_n 2, 1) := by decide +kernel
theorem dX1_overloaded_29 : decode cX1_overloaded 29 = .ok (.iload_n 1, 1) := by decide +kernel
theorem dX1_overloaded_30 : decode cX1_overloaded 30 = .ok (.if_icmp .ne 5, 3) := by decide +kernel
theorem dX1_overloaded_33 : decode cX1_overloaded 33 = .ok (.iload_n 3, 1) := by decide +kernel
theorem dX1_overloaded_34 : decode cX1_overloaded 34 = .ok (.ireturn, 1) := by decide +kernel
theorem dX1_overloaded_35 : decode cX1_overloaded 35 = .ok (.iinc 2 1, 3) := by decide +kernel
theorem dX1_overloaded_38 : decode cX1_overloaded 38 = .ok (.iinc 3 1, 3) := by decide +kernel
theorem dX1_overloaded_41 : decode cX1_overloaded 41 = .ok (.goto (-37), 3) := by decide +kernel
theorem dX1_overloaded_44 : decode cX1_overloaded 44 = .ok (.iconst (-1), 1) := by decide +kernel
theorem dX1_overloaded_45 : decode cX1_overloaded 45 = .ok (.ireturn, 1) := by decide +kernel
theorem dX2_init_0 : decode cX2_init 0 = .ok (.aload_n 0, 1) := by decide +kernel
theorem dX2_init_1 : decode cX2_init 1 = .ok (.invokespecial 3, 3) := by decide +kernel
theorem dX2_init_4 : decode cX2_init 4 = .ok (.aload_n 0, 1) := by decide +kernel
theorem dX2_init_5 : decode cX2_init 5 = .ok (.bipush 20, 2) := by decide +kernel
theorem dX2_init_7 : decode cX2_init 7 = .ok (.newarray .double, 2) := by decide +kernel
theorem dX2_init_9 : decode cX2_init 9 = .ok (.putfield 9, 3) := by decide +kernel
theorem dX2_init_12 : decode cX2_init 12 = .ok (.aload_n 0, 1) := by decide +kernel
theorem dX2_init_13 : decode cX2_init 13 = .ok (.iconst 0, 1) := by decide +kernel
theorem dX2_init_14 : decode cX2_init 14 = .ok (.putfield 15, 3) := by decide +kernel
theorem dX2_init_17 : decode cX2_init 17 = .ok (.aload_n 0, 1) := by decide +kernel
theorem dX2_init_18 : decode cX2_init 18 = .ok (.iconst 0, 1) := by decide +kernel
theorem dX2_init_19 : decode cX2_init 19 = .ok (.putfield 19, 3) := by decide +kernel
theorem dX2_init_22 : decode cX2_init 22 = .ok (.return_, 1) := by decide +kernel
theorem dX2_add_0 : decode cX2_add 0 = .ok (.aload_n 0, 1) := by decide +kernel
theorem dX2_add_1 : decode cX2_add 1 = .ok (.getfield 9, 3) := by decide +kernel
theorem dX2_add_4 : decode cX2_add 4 = .ok (.aload_n 0, 1) := by decide +kernel
theorem dX2_add_5 : decode cX2_add 5 = .ok (.getfield 19, 3) := by decide +kernel
theorem dX2_add_8 : decode cX2_add 8 = .ok (.dload_n 1, 1) := by decide +kernel
theorem dX2_add_9 : decode cX2_add 9 = .ok (.dastore, 1) := by decide +kernel
theorem dX2_add_10 : decode cX2_add 10 = .ok (.aload_n 0, 1) := by decide +kernel
theorem dX2_add_11 : decode cX2_add 11 = .ok (.aload_n 0, 1) := by decide +kernel
theorem dX2_add_12 : decode cX2_add 12 = .ok (.getfield 19, 3) := by decide +kernel
theorem dX2_add_15 : decode cX2_add 15 = .ok (.iconst 1, 1) := by decide +kernel
theorem dX2_add_16 : decode cX2_add 16 = .ok (.iadd, 1) := by decide +kernel
theorem dX2_add_17 : decode cX2_add 17 = .ok (.bipush 20, 2) := by decide +kernel
theorem dX2_add_19 : decode cX2_add 19 = .ok (.irem, 1) := by decide +kernel
theorem dX2_add_20 : decode cX2_add 20 = .ok (.putfield 19, 3) := by decide +kernel
theorem dX2_add_23 : decode cX2_add 23 = .ok (.aload_n 0, 1) := by decide +kernel
theorem dX2_add_24 : decode cX2_add 24 = .ok (.aload_n 0, 1) := by decide +kernel
theorem dX2_add_25 : decode cX2_add 25 = .ok (.getfield 15, 3) := by decide +kernel
theorem dX2_add_28 : decode cX2_add 28 = .ok (.iconst 1, 1) := by decide +kernel
theorem dX2_add_29 : decode cX2_add 29 = .ok (.iadd, 1) := by decide +kernel
theorem dX2_add_30 : decode cX2_add 30 = .ok (.bipush 20, 2) := by decide +kernel
theorem dX2_add_32 : decode cX2_add 32 = .ok (.invokestatic 22, 3) := by decide +kernel
theorem dX2_add_35 : decode cX2_add 35 = .ok (.putfield 15, 3) := by decide +kernel
theorem dX2_add_38 : decode cX2_add 38 = .ok (.return_, 1) := by decide +kernel
set_option maxRecDepth 20000 in
theorem ggX2_leastOfLatest_X2_backwards : GoodIn wsX2_leastOfLatest wsX2_backwards := goodIn_r _ [6, 7, 8, 9, 10, 11, 12, 13, 14, 15] (by decide +kernel) (by decide +kernel)
set_option maxRecDepth 20000 in
theorem gX2_leastOfLatest_X2_backwards : GoodIn wsX2_leastOfLatest (wsV RX2 28 RX2 yX2_backwards wsX2_backwards) := goodIn_app (goodIn_of _ (by decide +kernel)) ggX2_leastOfLatest_X2_backwards
theorem dX2_leastOfLatest_0 : decode cX2_leastOfLatest 0 = .ok (.iconst (-1), 1) := by decide +kernel
theorem dX2_leastOfLatest_1 : decode cX2_leastOfLatest 1 = .ok (.istore_n 2, 1) := by decide +kernel
theorem dX2_leastOfLatest_2 : decode cX2_leastOfLatest 2 = .ok (.iconst 0, 1) := by decide +kernel
theorem dX2_leastOfLatest_3 : decode cX2_leastOfLatest 3 = .ok (.istore_n 3, 1) := by decide +kernel
theorem dX2_leastOfLatest_4 : decode cX2_leastOfLatest 4 = .ok (.iload_n 3, 1) := by decide +kernel
theorem dX2_leastOfLatest_5 : decode cX2_leastOfLatest 5 = .ok (.iload_n 1, 1) := by decide +kernel
theorem dX2_leastOfLatest_6 : decode cX2_leastOfLatest 6 = .ok (.if_icmp .ge 38, 3) := by decide +kernel
theorem dX2_leastOfLatest_9 : decode cX2_leastOfLatest 9 = .ok (.iload_n 3, 1) := by decide +kernel
theorem dX2_leastOfLatest_10 : decode cX2_leastOfLatest 10 = .ok (.aload_n 0, 1) := by decide +kernel
theorem dX2_leastOfLatest_11 : decode cX2_leastOfLatest 11 = .ok (.getfield 15, 3) := by decide +kernel
theorem dX2_leastOfLatest_14 : decode cX2_leastOfLatest 14 = .ok (.if_icmp .ge 30, 3) := by decide +kernel
theorem dX2_leastOfLatest_17 : decode cX2_leastOfLatest 17 = .ok (.iload_n 2, 1) := by decide +kernel
theorem dX2_leastOfLatest_18 : decode cX2_leastOfLatest 18 = .ok (.iconst (-1), 1) := by decide +kernel
theorem dX2_leastOfLatest_19 : decode cX2_leastOfLatest 19 = .ok (.if_icmp .eq 17, 3) := by decide +kernel
theorem dX2_leastOfLatest_22 : decode cX2_leastOfLatest 22 = .ok (.aload_n 0, 1) := by decide +kernel
theorem dX2_leastOfLatest_23 : decode cX2_leastOfLatest 23 = .ok (.iload_n 3, 1) := by decide +kernel
theorem dX2_leastOfLatest_24 : decode cX2_leastOfLatest 24 = .ok (.invokevirtual 28, 3) := by decide +kernel
theorem dX2_leastOfLatest_27 : decode cX2_leastOfLatest 27 = .ok (.aload_n 0, 1) := by decide +kernel
theorem dX2_leastOfLatest_28 : decode cX2_leastOfLatest 28 = .ok (.iload_n 2, 1) := by decide +kernel
theorem dX2_leastOfLatest_29 : decode cX2_leastOfLatest 29 = .ok (.invokevirtual 28, 3) := by decide +kernel
theorem dX2_leastOfLatest_32 : decode cX2_leastOfLatest 32 = .ok (.dcmp .g, 1) := by decide +kernel
theorem dX2_leastOfLatest_33 : decode cX2_leastOfLatest 33 = .ok (.ifCond .ge 5, 3) := by decide +kernel
theorem dX2_leastOfLatest_36 : decode cX2_leastOfLatest 36 = .ok (.iload_n 3, 1) := by decide +kernel
theorem dX2_leastOfLatest_37 : decode cX2_leastOfLatest 37 = .ok (.istore_n 2, 1) := by decide +kernel
theorem dX2_leastOfLatest_38 : decode cX2_leastOfLatest 38 = .ok (.iinc 3 1, 3) := by decide +kernel
theorem dX2_leastOfLatest_41 : decode cX2_leastOfLatest 41 = .ok (.goto (-37), 3) := by decide +kernel
theorem dX2_leastOfLatest_44 : decode cX2_leastOfLatest 44 = .ok (.iload_n 2, 1) := by decide +kernel
theorem dX2_leastOfLatest_45 : decode cX2_leastOfLatest 45 = .ok (.ireturn, 1) := by decide +kernel
set_option maxRecDepth 20000 in
theorem ggX2_backwards_J9_floorMod_7cf53 : GoodIn wsX2_backwards wsJ9_floorMod_7cf53 := goodIn_r _ [6] (by decide +kernel) (by decide +kernel)
set_option maxRecDepth 20000 in
theorem gX2_backwards_J9_floorMod_7cf53 : GoodIn wsX2_backwards (va_wsS RX2 32 yJ9_floorMod_7cf53 wsJ9_floorMod_7cf53) := goodIn_app (goodIn_of _ (by decide +kernel)) ggX2_backwards_J9_floorMod_7cf53
theorem dX2_backwards_0 : decode cX2_backwards 0 = .ok (.aload_n 0, 1) := by decide +kernel
theorem dX2_backwards_1 : decode cX2_backwards 1 = .ok (.getfield 9, 3) := by decide +kernel
theorem dX2_backwards_4 : decode cX2_backwards 4 = .ok (.aload_n 0, 1) := by decide +kernel
theorem dX2_backwards_5 : decode cX2_backwards 5 = .ok (.getfield 19, 3) := by decide +kernel
theorem dX2_backwards_8 : decode cX2_backwards 8 = .ok (.iconst 1, 1) := by decide +kernel
theorem dX2_backwards_9 : decode cX2_backwards 9 = .ok (.isub, 1) := by decide +kernel
theorem dX2_backwards_10 : decode cX2_backwards 10 = .ok (.iload_n 1, 1) := by decide +kernel
theorem dX2_backwards_11 : decode cX2_backwards 11 = .ok (.isub, 1) := by decide +kernel
theorem dX2_backwards_12 : decode cX2_backwards 12 = .ok (.bipush 20, 2) := by decide +kernel
theorem dX2_backwards_14 : decode cX2_backwards 14 = .ok (.invokestatic 32, 3) := by decide +kernel
theorem dX2_backwards_17 : decode cX2_backwards 17 = .ok (.daload, 1) := by decide +kernel
theorem dX2_backwards_18 : decode cX2_backwards 18 = .ok (.dreturn, 1) := by decide +kernel
theorem dX3_init_0 : decode cX3_init 0 = .ok (.aload_n 0, 1) := by decide +kernel
theorem dX3_init_1 : decode cX3_init 1 = .ok (.invokespecial 3, 3) := by decide +kernel
theorem dX3_init_4 : decode cX3_init 4 = .ok (.aload_n 0, 1) := by decide +kernel
theorem dX3_init_5 : decode cX3_init 5 = .ok (.iconst 3, 1) := by decide +kernel
theorem dX3_init_6 : decode cX3_init 6 = .ok (.bipush 30, 2) := by decide +kernel
theorem dX3_init_8 : decode cX3_init 8 = .ok (.multianewarray 9 2, 4) := by decide +kernel
theorem dX3_init_12 : decode cX3_init 12 = .ok (.putfield 11, 3) := by decide +kernel
theorem dX3_init_15 : decode cX3_init 15 = .ok (.aload_n 0, 1) := by decide +kernel
theorem dX3_init_16 : decode cX3_init 16 = .ok (.iconst 3, 1) := by decide +kernel
theorem dX3_init_17 : decode cX3_init 17 = .ok (.bipush 30, 2) := by decide +kernel
theorem dX3_init_19 : decode cX3_init 19 = .ok (.multianewarray 9 2, 4) := by decide +kernel
theorem dX3_init_23 : decode cX3_init 23 = .ok (.putfield 16, 3) := by decide +kernel
theorem dX3_init_26 : decode cX3_init 26 = .ok (.aload_n 0, 1) := by decide +kernel
theorem dX3_init_27 : decode cX3_init 27 = .ok (.bipush 30, 2) := by decide +kernel
theorem dX3_init_29 : decode cX3_init 29 = .ok (.newarray .double, 2) := by decide +kernel
theorem dX3_init_31 : decode cX3_init 31 = .ok (.putfield 19, 3) := by decide +kernel
theorem dX3_init_34 : decode cX3_init 34 = .ok (.aload_n 0, 1) := by decide +kernel
theorem dX3_init_35 : decode cX3_init 35 = .ok (.bipush 30, 2) := by decide +kernel
theorem dX3_init_37 : decode cX3_init 37 = .ok (.newarray .double, 2) := by decide +kernel
theorem dX3_init_39 : decode cX3_init 39 = .ok (.putfield 23, 3) := by decide +kernel
theorem dX3_init_42 : decode cX3_init 42 = .ok (.aload_n 0, 1) := by decide +kernel
theorem dX3_init_43 : decode cX3_init 43 = .ok (.bipush 30, 2) := by decide +kernel
theorem dX3_init_45 : decode cX3_init 45 = .ok (.newarray .boolean, 2) := by decide +kernel
theorem dX3_init_47 : decode cX3_init 47 = .ok (.putfield 26, 3) := by decide +kernel
theorem dX3_init_50 : decode cX3_init 50 = .ok (.aload_n 0, 1) := by decide +kernel
theorem dX3_init_51 : decode cX3_init 51 = .ok (.iconst 0, 1) := by decide +kernel
theorem dX3_init_52 : decode cX3_init 52 = .ok (.putfield 30, 3) := by decide +kernel
theorem dX3_init_55 : decode cX3_init 55 = .ok (.return_, 1) := by decide +kernel
theorem dX3_has_0 : decode cX3_has 0 = .ok (.iload_n 1, 1) := by decide +kernel
theorem dX3_has_1 : decode cX3_has 1 = .ok (.ifCond .lt 15, 3) := by decide +kernel
theorem dX3_has_4 : decode cX3_has 4 = .ok (.iload_n 1, 1) := by decide +kernel
theorem dX3_has_5 : decode cX3_has 5 = .ok (.aload_n 0, 1) := by decide +kernel
theorem dX3_has_6 : decode cX3_has 6 = .ok (.getfield 30, 3) := by decide +kernel
theorem dX3_has_9 : decode cX3_has 9 = .ok (.if_icmp .ge 7, 3) := by decide +kernel
theorem dX3_has_12 : decode cX3_has 12 = .ok (.iconst 1, 1) := by decide +kernel
theorem dX3_has_13 : decode cX3_has 13 = .ok (.goto 4, 3) := by decide +kernel
theorem dX3_has_16 : decode cX3_has 16 = .ok (.iconst 0, 1) := by decide +kernel
theorem dX3_has_17 : decode cX3_has 17 = .ok (.ireturn, 1) := by decide +kernel
theorem dX3_add_0 : decode cX3_add 0 = .ok (.aload_n 0, 1) := by decide +kernel
theorem dX3_add_1 : decode cX3_add 1 = .ok (.getfield 30, 3) := by decide +kernel
theorem dX3_add_4 : decode cX3_add 4 = .ok (.istore 7, 2) := by decide +kernel
theorem dX3_add_6 : decode cX3_add 6 = .ok (.aload_n 0, 1) := by decide +kernel
theorem dX3_add_7 : decode cX3_add 7 = .ok (.getfield 11, 3) := by decide +kernel
theorem dX3_add_10 : decode cX3_add 10 = .ok (.iconst 0, 1) := by decide +kernel
theorem dX3_add_11 : decode cX3_add 11 = .ok (.aaload, 1) := by decide +kernel
theorem dX3_add_12 : decode cX3_add 12 = .ok (.iload 7, 2) := by decide +kernel
theorem dX3_add_14 : decode cX3_add 14 = .ok (.dload_n 1, 1) := by decide +kernel
theorem dX3_add_15 : decode cX3_add 15 = .ok (.dastore, 1) := by decide +kernel
theorem dX3_add_16 : decode cX3_add 16 = .ok (.aload_n 0, 1) := by decide +kernel
theorem dX3_add_17 : decode cX3_add 17 = .ok (.getfield 11, 3) := by decide +kernel
theorem dX3_add_20 : decode cX3_add 20 = .ok (.iconst 1, 1) := by decide +kernel
theorem dX3_add_21 : decode cX3_add 21 = .ok (.aaload, 1) := by decide +kernel
theorem dX3_add_22 : decode cX3_add 22 = .ok (.iload 7, 2) := by decide +kernel
theorem dX3_add_24 : decode cX3_add 24 = .ok (.dload_n 3, 1) := by decide +kernel
theorem dX3_add_25 : decode cX3_add 25 = .ok (.dastore, 1) := by decide +kernel
theorem dX3_add_26 : decode cX3_add 26 = .ok (.aload_n 0, 1) := by decide +kernel
theorem dX3_add_27 : decode cX3_add 27 = .ok (.getfield 11, 3) := by decide +kernel
theorem dX3_add_30 : decode cX3_add 30 = .ok (.iconst 2, 1) := by decide +kernel
theorem dX3_add_31 : decode cX3_add 31 = .ok (.aaload, 1) := by decide +kernel
theorem dX3_add_32 : decode cX3_add 32 = .ok (.iload 7, 2) := by decide +kernel
theorem dX3_add_34 : decode cX3_add 34 = .ok (.dload 5, 2) := by decide +kernel
theorem dX3_add_36 : decode cX3_add 36 = .ok (.dastore, 1) := by decide +kernel
theorem dX3_add_37 : decode cX3_add 37 = .ok (.aload_n 0, 1) := by decide +kernel
theorem dX3_add_38 : decode cX3_add 38 = .ok (.dup, 1) := by decide +kernel
theorem dX3_add_39 : decode cX3_add 39 = .ok (.getfield 30, 3) := by decide +kernel
theorem dX3_add_42 : decode cX3_add 42 = .ok (.iconst 1, 1) := by decide +kernel
theorem dX3_add_43 : decode cX3_add 43 = .ok (.iadd, 1) := by decide +kernel
theorem dX3_add_44 : decode cX3_add 44 = .ok (.putfield 30, 3) := by decide +kernel
theorem dX3_add_47 : decode cX3_add 47 = .ok (.iload 7, 2) := by decide +kernel
theorem dX3_add_49 : decode cX3_add 49 = .ok (.ireturn, 1) := by decide +kernel
theorem dX3_startForces_0 : decode cX3_startForces 0 = .ok (.iconst 0, 1) := by decide +kernel
theorem dX3_startForces_1 : decode cX3_startForces 1 = .ok (.istore_n 1, 1) := by decide +kernel
theorem dX3_startForces_2 : decode cX3_startForces 2 = .ok (.iload_n 1, 1) := by decide +kernel
theorem dX3_startForces_3 : decode cX3_startForces 3 = .ok (.aload_n 0, 1) := by decide +kernel
theorem dX3_startForces_4 : decode cX3_startForces 4 = .ok (.getfield 30, 3) := by decide +kernel
theorem dX3_startForces_7 : decode cX3_startForces 7 = .ok (.if_icmp .ge 50, 3) := by decide +kernel
theorem dX3_startForces_10 : decode cX3_startForces 10 = .ok (.aload_n 0, 1) := by decide +kernel
theorem dX3_startForces_11 : decode cX3_startForces 11 = .ok (.getfield 16, 3) := by decide +kernel
theorem dX3_startForces_14 : decode cX3_startForces 14 = .ok (.iconst 0, 1) := by decide +kernel
theorem dX3_startForces_15 : decode cX3_startForces 15 = .ok (.aaload, 1) := by decide +kernel
theorem dX3_startForces_16 : decode cX3_startForces 16 = .ok (.iload_n 1, 1) := by decide +kernel
theorem dX3_startForces_17 : decode cX3_startForces 17 = .ok (.dconst 0, 1) := by decide +kernel
theorem dX3_startForces_18 : decode cX3_startForces 18 = .ok (.dastore, 1) := by decide +kernel
theorem dX3_startForces_19 : decode cX3_startForces 19 = .ok (.aload_n 0, 1) := by decide +kernel
theorem dX3_startForces_20 : decode cX3_startForces 20 = .ok (.getfield 16, 3) := by decide +kernel
theorem dX3_startForces_23 : decode cX3_startForces 23 = .ok (.iconst 1, 1) := by decide +kernel
theorem dX3_startForces_24 : decode cX3_startForces 24 = .ok (.aaload, 1) := by decide +kernel
theorem dX3_startForces_25 : decode cX3_startForces 25 = .ok (.iload_n 1, 1) := by decide +kernel
theorem dX3_startForces_26 : decode cX3_startForces 26 = .ok (.dconst 0, 1) := by decide +kernel
theorem dX3_startForces_27 : decode cX3_startForces 27 = .ok (.dastore, 1) := by decide +kernel
theorem dX3_startForces_28 : decode cX3_startForces 28 = .ok (.aload_n 0, 1) := by decide +kernel
theorem dX3_startForces_29 : decode cX3_startForces 29 = .ok (.getfield 16, 3) := by decide +kernel
theorem dX3_startForces_32 : decode cX3_startForces 32 = .ok (.iconst 2, 1) := by decide +kernel
theorem dX3_startForces_33 : decode cX3_startForces 33 = .ok (.aaload, 1) := by decide +kernel
theorem dX3_startForces_34 : decode cX3_startForces 34 = .ok (.iload_n 1, 1) := by decide +kernel
theorem dX3_startForces_35 : decode cX3_startForces 35 = .ok (.dconst 0, 1) := by decide +kernel
theorem dX3_startForces_36 : decode cX3_startForces 36 = .ok (.aload_n 0, 1) := by decide +kernel
theorem dX3_startForces_37 : decode cX3_startForces 37 = .ok (.getfield 23, 3) := by decide +kernel
theorem dX3_startForces_40 : decode cX3_startForces 40 = .ok (.iload_n 1, 1) := by decide +kernel
theorem dX3_startForces_41 : decode cX3_startForces 41 = .ok (.daload, 1) := by decide +kernel
theorem dX3_startForces_42 : decode cX3_startForces 42 = .ok (.aload_n 0, 1) := by decide +kernel
theorem dX3_startForces_43 : decode cX3_startForces 43 = .ok (.getfield 19, 3) := by decide +kernel
theorem dX3_startForces_46 : decode cX3_startForces 46 = .ok (.iload_n 1, 1) := by decide +kernel
theorem dX3_startForces_47 : decode cX3_startForces 47 = .ok (.daload, 1) := by decide +kernel
theorem dX3_startForces_48 : decode cX3_startForces 48 = .ok (.dsub, 1) := by decide +kernel
theorem dX3_startForces_49 : decode cX3_startForces 49 = .ok (.dadd, 1) := by decide +kernel
theorem dX3_startForces_50 : decode cX3_startForces 50 = .ok (.dastore, 1) := by decide +kernel
theorem dX3_startForces_51 : decode cX3_startForces 51 = .ok (.iinc 1 1, 3) := by decide +kernel
theorem dX3_startForces_54 : decode cX3_startForces 54 = .ok (.goto (-52), 3) := by decide +kernel
theorem dX3_startForces_57 : decode cX3_startForces 57 = .ok (.return_, 1) := by decide +kernel
set_option maxRecDepth 20000 in
theorem ggX3_greatestForce_X6_size : GoodIn wsX3_greatestForce wsX6_size := goodIn_r _ [6] (by decide +kernel) (by decide +kernel)
set_option maxRecDepth 20000 in
theorem gX3_greatestForce_X6_size_n34 : GoodIn wsX3_greatestForce (wsX6_size) := ggX3_greatestForce_X6_size
theorem dX3_greatestForce_0 : decode cX3_greatestForce 0 = .ok (.dconst 0, 1) := by decide +kernel
theorem dX3_greatestForce_1 : decode cX3_greatestForce 1 = .ok (.dstore_n 1, 1) := by decide +kernel
theorem dX3_greatestForce_2 : decode cX3_greatestForce 2 = .ok (.iconst 0, 1) := by decide +kernel
theorem dX3_greatestForce_3 : decode cX3_greatestForce 3 = .ok (.istore_n 3, 1) := by decide +kernel
theorem dX3_greatestForce_4 : decode cX3_greatestForce 4 = .ok (.iload_n 3, 1) := by decide +kernel
theorem dX3_greatestForce_5 : decode cX3_greatestForce 5 = .ok (.aload_n 0, 1) := by decide +kernel
theorem dX3_greatestForce_6 : decode cX3_greatestForce 6 = .ok (.getfield 30, 3) := by decide +kernel
theorem dX3_greatestForce_9 : decode cX3_greatestForce 9 = .ok (.if_icmp .ge 64, 3) := by decide +kernel
theorem dX3_greatestForce_12 : decode cX3_greatestForce 12 = .ok (.aload_n 0, 1) := by decide +kernel
theorem dX3_greatestForce_13 : decode cX3_greatestForce 13 = .ok (.getfield 26, 3) := by decide +kernel
theorem dX3_greatestForce_16 : decode cX3_greatestForce 16 = .ok (.iload_n 3, 1) := by decide +kernel
theorem dX3_greatestForce_17 : decode cX3_greatestForce 17 = .ok (.baload, 1) := by decide +kernel
theorem dX3_greatestForce_18 : decode cX3_greatestForce 18 = .ok (.ifCond .eq 6, 3) := by decide +kernel
theorem dX3_greatestForce_21 : decode cX3_greatestForce 21 = .ok (.goto 46, 3) := by decide +kernel
theorem dX3_greatestForce_24 : decode cX3_greatestForce 24 = .ok (.iconst 0, 1) := by decide +kernel
theorem dX3_greatestForce_25 : decode cX3_greatestForce 25 = .ok (.istore 4, 2) := by decide +kernel
theorem dX3_greatestForce_27 : decode cX3_greatestForce 27 = .ok (.iload 4, 2) := by decide +kernel
theorem dX3_greatestForce_29 : decode cX3_greatestForce 29 = .ok (.iconst 3, 1) := by decide +kernel
theorem dX3_greatestForce_30 : decode cX3_greatestForce 30 = .ok (.if_icmp .ge 37, 3) := by decide +kernel
theorem dX3_greatestForce_33 : decode cX3_greatestForce 33 = .ok (.aload_n 0, 1) := by decide +kernel
theorem dX3_greatestForce_34 : decode cX3_greatestForce 34 = .ok (.getfield 16, 3) := by decide +kernel
theorem dX3_greatestForce_37 : decode cX3_greatestForce 37 = .ok (.iload 4, 2) := by decide +kernel
theorem dX3_greatestForce_39 : decode cX3_greatestForce 39 = .ok (.aaload, 1) := by decide +kernel
theorem dX3_greatestForce_40 : decode cX3_greatestForce 40 = .ok (.iload_n 3, 1) := by decide +kernel
theorem dX3_greatestForce_41 : decode cX3_greatestForce 41 = .ok (.daload, 1) := by decide +kernel
theorem dX3_greatestForce_42 : decode cX3_greatestForce 42 = .ok (.invokestatic 34, 3) := by decide +kernel
theorem dX3_greatestForce_45 : decode cX3_greatestForce 45 = .ok (.dstore 5, 2) := by decide +kernel
theorem dX3_greatestForce_47 : decode cX3_greatestForce 47 = .ok (.dload 5, 2) := by decide +kernel
theorem dX3_greatestForce_49 : decode cX3_greatestForce 49 = .ok (.dload_n 1, 1) := by decide +kernel
theorem dX3_greatestForce_50 : decode cX3_greatestForce 50 = .ok (.dcmp .l, 1) := by decide +kernel
theorem dX3_greatestForce_51 : decode cX3_greatestForce 51 = .ok (.ifCond .le 8, 3) := by decide +kernel
theorem dX3_greatestForce_54 : decode cX3_greatestForce 54 = .ok (.dload 5, 2) := by decide +kernel
theorem dX3_greatestForce_56 : decode cX3_greatestForce 56 = .ok (.goto 4, 3) := by decide +kernel
theorem dX3_greatestForce_59 : decode cX3_greatestForce 59 = .ok (.dload_n 1, 1) := by decide +kernel
theorem dX3_greatestForce_60 : decode cX3_greatestForce 60 = .ok (.dstore_n 1, 1) := by decide +kernel
theorem dX3_greatestForce_61 : decode cX3_greatestForce 61 = .ok (.iinc 4 1, 3) := by decide +kernel
theorem dX3_greatestForce_64 : decode cX3_greatestForce 64 = .ok (.goto (-37), 3) := by decide +kernel
theorem dX3_greatestForce_67 : decode cX3_greatestForce 67 = .ok (.iinc 3 1, 3) := by decide +kernel
theorem dX3_greatestForce_70 : decode cX3_greatestForce 70 = .ok (.goto (-66), 3) := by decide +kernel
theorem dX3_greatestForce_73 : decode cX3_greatestForce 73 = .ok (.dload_n 1, 1) := by decide +kernel
theorem dX3_greatestForce_74 : decode cX3_greatestForce 74 = .ok (.dreturn, 1) := by decide +kernel
set_option maxRecDepth 20000 in
theorem ggX3_giveWay_X3_stepFor : GoodIn wsX3_giveWay wsX3_stepFor := goodIn_r _ [8, 9, 10] (by decide +kernel) (by decide +kernel)
set_option maxRecDepth 20000 in
theorem gX3_giveWay_X3_stepFor : GoodIn wsX3_giveWay (va_wsS RX3 38 yX3_stepFor wsX3_stepFor) := goodIn_app (goodIn_of _ (by decide +kernel)) ggX3_giveWay_X3_stepFor
theorem dX3_giveWay_0 : decode cX3_giveWay 0 = .ok (.iconst 0, 1) := by decide +kernel
theorem dX3_giveWay_1 : decode cX3_giveWay 1 = .ok (.istore_n 1, 1) := by decide +kernel
theorem dX3_giveWay_2 : decode cX3_giveWay 2 = .ok (.iload_n 1, 1) := by decide +kernel
theorem dX3_giveWay_3 : decode cX3_giveWay 3 = .ok (.aload_n 0, 1) := by decide +kernel
theorem dX3_giveWay_4 : decode cX3_giveWay 4 = .ok (.getfield 30, 3) := by decide +kernel
theorem dX3_giveWay_7 : decode cX3_giveWay 7 = .ok (.if_icmp .ge 56, 3) := by decide +kernel
theorem dX3_giveWay_10 : decode cX3_giveWay 10 = .ok (.aload_n 0, 1) := by decide +kernel
theorem dX3_giveWay_11 : decode cX3_giveWay 11 = .ok (.getfield 26, 3) := by decide +kernel
theorem dX3_giveWay_14 : decode cX3_giveWay 14 = .ok (.iload_n 1, 1) := by decide +kernel
theorem dX3_giveWay_15 : decode cX3_giveWay 15 = .ok (.baload, 1) := by decide +kernel
theorem dX3_giveWay_16 : decode cX3_giveWay 16 = .ok (.ifCond .eq 6, 3) := by decide +kernel
theorem dX3_giveWay_19 : decode cX3_giveWay 19 = .ok (.goto 38, 3) := by decide +kernel
theorem dX3_giveWay_22 : decode cX3_giveWay 22 = .ok (.iconst 0, 1) := by decide +kernel
theorem dX3_giveWay_23 : decode cX3_giveWay 23 = .ok (.istore_n 2, 1) := by decide +kernel
theorem dX3_giveWay_24 : decode cX3_giveWay 24 = .ok (.iload_n 2, 1) := by decide +kernel
theorem dX3_giveWay_25 : decode cX3_giveWay 25 = .ok (.iconst 3, 1) := by decide +kernel
theorem dX3_giveWay_26 : decode cX3_giveWay 26 = .ok (.if_icmp .ge 31, 3) := by decide +kernel
theorem dX3_giveWay_29 : decode cX3_giveWay 29 = .ok (.aload_n 0, 1) := by decide +kernel
theorem dX3_giveWay_30 : decode cX3_giveWay 30 = .ok (.getfield 11, 3) := by decide +kernel
theorem dX3_giveWay_33 : decode cX3_giveWay 33 = .ok (.iload_n 2, 1) := by decide +kernel
theorem dX3_giveWay_34 : decode cX3_giveWay 34 = .ok (.aaload, 1) := by decide +kernel
theorem dX3_giveWay_35 : decode cX3_giveWay 35 = .ok (.iload_n 1, 1) := by decide +kernel
theorem dX3_giveWay_36 : decode cX3_giveWay 36 = .ok (.dup2, 1) := by decide +kernel
theorem dX3_giveWay_37 : decode cX3_giveWay 37 = .ok (.daload, 1) := by decide +kernel
theorem dX3_giveWay_38 : decode cX3_giveWay 38 = .ok (.aload_n 0, 1) := by decide +kernel
theorem dX3_giveWay_39 : decode cX3_giveWay 39 = .ok (.getfield 16, 3) := by decide +kernel
theorem dX3_giveWay_42 : decode cX3_giveWay 42 = .ok (.iload_n 2, 1) := by decide +kernel
theorem dX3_giveWay_43 : decode cX3_giveWay 43 = .ok (.aaload, 1) := by decide +kernel
theorem dX3_giveWay_44 : decode cX3_giveWay 44 = .ok (.iload_n 1, 1) := by decide +kernel
theorem dX3_giveWay_45 : decode cX3_giveWay 45 = .ok (.daload, 1) := by decide +kernel
theorem dX3_giveWay_46 : decode cX3_giveWay 46 = .ok (.invokestatic 38, 3) := by decide +kernel
theorem dX3_giveWay_49 : decode cX3_giveWay 49 = .ok (.dadd, 1) := by decide +kernel
theorem dX3_giveWay_50 : decode cX3_giveWay 50 = .ok (.dastore, 1) := by decide +kernel
theorem dX3_giveWay_51 : decode cX3_giveWay 51 = .ok (.iinc 2 1, 3) := by decide +kernel
theorem dX3_giveWay_54 : decode cX3_giveWay 54 = .ok (.goto (-30), 3) := by decide +kernel
theorem dX3_giveWay_57 : decode cX3_giveWay 57 = .ok (.iinc 1 1, 3) := by decide +kernel
theorem dX3_giveWay_60 : decode cX3_giveWay 60 = .ok (.goto (-58), 3) := by decide +kernel
theorem dX3_giveWay_63 : decode cX3_giveWay 63 = .ok (.return_, 1) := by decide +kernel
theorem dX3_stepFor_0 : decode cX3_stepFor 0 = .ok (.ldc2_w 41, 3) := by decide +kernel
theorem dX3_stepFor_3 : decode cX3_stepFor 3 = .ok (.dstore_n 2, 1) := by decide +kernel
theorem dX3_stepFor_4 : decode cX3_stepFor 4 = .ok (.ldc2_w 43, 3) := by decide +kernel
theorem dX3_stepFor_7 : decode cX3_stepFor 7 = .ok (.dload_n 0, 1) := by decide +kernel
theorem dX3_stepFor_8 : decode cX3_stepFor 8 = .ok (.dmul, 1) := by decide +kernel
theorem dX3_stepFor_9 : decode cX3_stepFor 9 = .ok (.dstore 4, 2) := by decide +kernel
theorem dX3_stepFor_11 : decode cX3_stepFor 11 = .ok (.dload 4, 2) := by decide +kernel
theorem dX3_stepFor_13 : decode cX3_stepFor 13 = .ok (.dload_n 2, 1) := by decide +kernel
theorem dX3_stepFor_14 : decode cX3_stepFor 14 = .ok (.dcmp .l, 1) := by decide +kernel
theorem dX3_stepFor_15 : decode cX3_stepFor 15 = .ok (.ifCond .le 5, 3) := by decide +kernel
theorem dX3_stepFor_18 : decode cX3_stepFor 18 = .ok (.dload_n 2, 1) := by decide +kernel
theorem dX3_stepFor_19 : decode cX3_stepFor 19 = .ok (.dreturn, 1) := by decide +kernel
theorem dX3_stepFor_20 : decode cX3_stepFor 20 = .ok (.dload 4, 2) := by decide +kernel
theorem dX3_stepFor_22 : decode cX3_stepFor 22 = .ok (.dload_n 2, 1) := by decide +kernel
theorem dX3_stepFor_23 : decode cX3_stepFor 23 = .ok (.dneg, 1) := by decide +kernel
theorem dX3_stepFor_24 : decode cX3_stepFor 24 = .ok (.dcmp .g, 1) := by decide +kernel
theorem dX3_stepFor_25 : decode cX3_stepFor 25 = .ok (.ifCond .ge 8, 3) := by decide +kernel
theorem dX3_stepFor_28 : decode cX3_stepFor 28 = .ok (.dload_n 2, 1) := by decide +kernel
theorem dX3_stepFor_29 : decode cX3_stepFor 29 = .ok (.dneg, 1) := by decide +kernel
theorem dX3_stepFor_30 : decode cX3_stepFor 30 = .ok (.goto 5, 3) := by decide +kernel
theorem dX3_stepFor_33 : decode cX3_stepFor 33 = .ok (.dload 4, 2) := by decide +kernel
theorem dX3_stepFor_35 : decode cX3_stepFor 35 = .ok (.dreturn, 1) := by decide +kernel
theorem dX3_spread_0 : decode cX3_spread 0 = .ok (.aload_n 0, 1) := by decide +kernel
theorem dX3_spread_1 : decode cX3_spread 1 = .ok (.getfield 11, 3) := by decide +kernel
theorem dX3_spread_4 : decode cX3_spread 4 = .ok (.iload_n 1, 1) := by decide +kernel
theorem dX3_spread_5 : decode cX3_spread 5 = .ok (.aaload, 1) := by decide +kernel
theorem dX3_spread_6 : decode cX3_spread 6 = .ok (.astore_n 2, 1) := by decide +kernel
theorem dX3_spread_7 : decode cX3_spread 7 = .ok (.aload_n 2, 1) := by decide +kernel
theorem dX3_spread_8 : decode cX3_spread 8 = .ok (.iconst 0, 1) := by decide +kernel
theorem dX3_spread_9 : decode cX3_spread 9 = .ok (.daload, 1) := by decide +kernel
theorem dX3_spread_10 : decode cX3_spread 10 = .ok (.dstore_n 3, 1) := by decide +kernel
theorem dX3_spread_11 : decode cX3_spread 11 = .ok (.aload_n 2, 1) := by decide +kernel
theorem dX3_spread_12 : decode cX3_spread 12 = .ok (.iconst 0, 1) := by decide +kernel
theorem dX3_spread_13 : decode cX3_spread 13 = .ok (.daload, 1) := by decide +kernel
theorem dX3_spread_14 : decode cX3_spread 14 = .ok (.dstore 5, 2) := by decide +kernel
theorem dX3_spread_16 : decode cX3_spread 16 = .ok (.iconst 1, 1) := by decide +kernel
theorem dX3_spread_17 : decode cX3_spread 17 = .ok (.istore 7, 2) := by decide +kernel
theorem dX3_spread_19 : decode cX3_spread 19 = .ok (.iload 7, 2) := by decide +kernel
theorem dX3_spread_21 : decode cX3_spread 21 = .ok (.aload_n 0, 1) := by decide +kernel
theorem dX3_spread_22 : decode cX3_spread 22 = .ok (.getfield 30, 3) := by decide +kernel
theorem dX3_spread_25 : decode cX3_spread 25 = .ok (.if_icmp .ge 48, 3) := by decide +kernel
theorem dX3_spread_28 : decode cX3_spread 28 = .ok (.aload_n 2, 1) := by decide +kernel
theorem dX3_spread_29 : decode cX3_spread 29 = .ok (.iload 7, 2) := by decide +kernel
theorem dX3_spread_31 : decode cX3_spread 31 = .ok (.daload, 1) := by decide +kernel
theorem dX3_spread_32 : decode cX3_spread 32 = .ok (.dload_n 3, 1) := by decide +kernel
theorem dX3_spread_33 : decode cX3_spread 33 = .ok (.dcmp .g, 1) := by decide +kernel
theorem dX3_spread_34 : decode cX3_spread 34 = .ok (.ifCond .ge 10, 3) := by decide +kernel
theorem dX3_spread_37 : decode cX3_spread 37 = .ok (.aload_n 2, 1) := by decide +kernel
theorem dX3_spread_38 : decode cX3_spread 38 = .ok (.iload 7, 2) := by decide +kernel
theorem dX3_spread_40 : decode cX3_spread 40 = .ok (.daload, 1) := by decide +kernel
theorem dX3_spread_41 : decode cX3_spread 41 = .ok (.goto 4, 3) := by decide +kernel
theorem dX3_spread_44 : decode cX3_spread 44 = .ok (.dload_n 3, 1) := by decide +kernel
theorem dX3_spread_45 : decode cX3_spread 45 = .ok (.dstore_n 3, 1) := by decide +kernel
theorem dX3_spread_46 : decode cX3_spread 46 = .ok (.aload_n 2, 1) := by decide +kernel
theorem dX3_spread_47 : decode cX3_spread 47 = .ok (.iload 7, 2) := by decide +kernel
theorem dX3_spread_49 : decode cX3_spread 49 = .ok (.daload, 1) := by decide +kernel
theorem dX3_spread_50 : decode cX3_spread 50 = .ok (.dload 5, 2) := by decide +kernel
theorem dX3_spread_52 : decode cX3_spread 52 = .ok (.dcmp .l, 1) := by decide +kernel
theorem dX3_spread_53 : decode cX3_spread 53 = .ok (.ifCond .le 10, 3) := by decide +kernel
theorem dX3_spread_56 : decode cX3_spread 56 = .ok (.aload_n 2, 1) := by decide +kernel
theorem dX3_spread_57 : decode cX3_spread 57 = .ok (.iload 7, 2) := by decide +kernel
theorem dX3_spread_59 : decode cX3_spread 59 = .ok (.daload, 1) := by decide +kernel
theorem dX3_spread_60 : decode cX3_spread 60 = .ok (.goto 5, 3) := by decide +kernel
theorem dX3_spread_63 : decode cX3_spread 63 = .ok (.dload 5, 2) := by decide +kernel
theorem dX3_spread_65 : decode cX3_spread 65 = .ok (.dstore 5, 2) := by decide +kernel
theorem dX3_spread_67 : decode cX3_spread 67 = .ok (.iinc 7 1, 3) := by decide +kernel
theorem dX3_spread_70 : decode cX3_spread 70 = .ok (.goto (-51), 3) := by decide +kernel
theorem dX3_spread_73 : decode cX3_spread 73 = .ok (.dload 5, 2) := by decide +kernel
theorem dX3_spread_75 : decode cX3_spread 75 = .ok (.dload_n 3, 1) := by decide +kernel
theorem dX3_spread_76 : decode cX3_spread 76 = .ok (.dsub, 1) := by decide +kernel
theorem dX3_spread_77 : decode cX3_spread 77 = .ok (.dreturn, 1) := by decide +kernel
theorem dX3_hasMirrorImage_0 : decode cX3_hasMirrorImage 0 = .ok (.dconst 0, 1) := by decide +kernel
theorem dX3_hasMirrorImage_1 : decode cX3_hasMirrorImage 1 = .ok (.aload_n 0, 1) := by decide +kernel
theorem dX3_hasMirrorImage_2 : decode cX3_hasMirrorImage 2 = .ok (.getfield 11, 3) := by decide +kernel
theorem dX3_hasMirrorImage_5 : decode cX3_hasMirrorImage 5 = .ok (.iconst 0, 1) := by decide +kernel
theorem dX3_hasMirrorImage_6 : decode cX3_hasMirrorImage 6 = .ok (.aaload, 1) := by decide +kernel
theorem dX3_hasMirrorImage_7 : decode cX3_hasMirrorImage 7 = .ok (.iload_n 1, 1) := by decide +kernel
theorem dX3_hasMirrorImage_8 : decode cX3_hasMirrorImage 8 = .ok (.daload, 1) := by decide +kernel
theorem dX3_hasMirrorImage_9 : decode cX3_hasMirrorImage 9 = .ok (.dsub, 1) := by decide +kernel
theorem dX3_hasMirrorImage_10 : decode cX3_hasMirrorImage 10 = .ok (.dstore_n 2, 1) := by decide +kernel
theorem dX3_hasMirrorImage_11 : decode cX3_hasMirrorImage 11 = .ok (.iconst 0, 1) := by decide +kernel
theorem dX3_hasMirrorImage_12 : decode cX3_hasMirrorImage 12 = .ok (.istore 4, 2) := by decide +kernel
theorem dX3_hasMirrorImage_14 : decode cX3_hasMirrorImage 14 = .ok (.iload 4, 2) := by decide +kernel
theorem dX3_hasMirrorImage_16 : decode cX3_hasMirrorImage 16 = .ok (.aload_n 0, 1) := by decide +kernel
theorem dX3_hasMirrorImage_17 : decode cX3_hasMirrorImage 17 = .ok (.getfield 30, 3) := by decide +kernel
theorem dX3_hasMirrorImage_20 : decode cX3_hasMirrorImage 20 = .ok (.if_icmp .ge 67, 3) := by decide +kernel
theorem dX3_hasMirrorImage_23 : decode cX3_hasMirrorImage 23 = .ok (.aload_n 0, 1) := by decide +kernel
theorem dX3_hasMirrorImage_24 : decode cX3_hasMirrorImage 24 = .ok (.getfield 11, 3) := by decide +kernel
theorem dX3_hasMirrorImage_27 : decode cX3_hasMirrorImage 27 = .ok (.iconst 0, 1) := by decide +kernel
theorem dX3_hasMirrorImage_28 : decode cX3_hasMirrorImage 28 = .ok (.aaload, 1) := by decide +kernel
theorem dX3_hasMirrorImage_29 : decode cX3_hasMirrorImage 29 = .ok (.iload 4, 2) := by decide +kernel
theorem dX3_hasMirrorImage_31 : decode cX3_hasMirrorImage 31 = .ok (.daload, 1) := by decide +kernel
theorem dX3_hasMirrorImage_32 : decode cX3_hasMirrorImage 32 = .ok (.dload_n 2, 1) := by decide +kernel
theorem dX3_hasMirrorImage_33 : decode cX3_hasMirrorImage 33 = .ok (.dcmp .l, 1) := by decide +kernel
theorem dX3_hasMirrorImage_34 : decode cX3_hasMirrorImage 34 = .ok (.ifCond .ne 47, 3) := by decide +kernel
theorem dX3_hasMirrorImage_37 : decode cX3_hasMirrorImage 37 = .ok (.aload_n 0, 1) := by decide +kernel
theorem dX3_hasMirrorImage_38 : decode cX3_hasMirrorImage 38 = .ok (.getfield 11, 3) := by decide +kernel
theorem dX3_hasMirrorImage_41 : decode cX3_hasMirrorImage 41 = .ok (.iconst 1, 1) := by decide +kernel
theorem dX3_hasMirrorImage_42 : decode cX3_hasMirrorImage 42 = .ok (.aaload, 1) := by decide +kernel
theorem dX3_hasMirrorImage_43 : decode cX3_hasMirrorImage 43 = .ok (.iload 4, 2) := by decide +kernel
theorem dX3_hasMirrorImage_45 : decode cX3_hasMirrorImage 45 = .ok (.daload, 1) := by decide +kernel
theorem dX3_hasMirrorImage_46 : decode cX3_hasMirrorImage 46 = .ok (.aload_n 0, 1) := by decide +kernel
theorem dX3_hasMirrorImage_47 : decode cX3_hasMirrorImage 47 = .ok (.getfield 11, 3) := by decide +kernel
theorem dX3_hasMirrorImage_50 : decode cX3_hasMirrorImage 50 = .ok (.iconst 1, 1) := by decide +kernel
theorem dX3_hasMirrorImage_51 : decode cX3_hasMirrorImage 51 = .ok (.aaload, 1) := by decide +kernel
theorem dX3_hasMirrorImage_52 : decode cX3_hasMirrorImage 52 = .ok (.iload_n 1, 1) := by decide +kernel
theorem dX3_hasMirrorImage_53 : decode cX3_hasMirrorImage 53 = .ok (.daload, 1) := by decide +kernel
theorem dX3_hasMirrorImage_54 : decode cX3_hasMirrorImage 54 = .ok (.dcmp .l, 1) := by decide +kernel
theorem dX3_hasMirrorImage_55 : decode cX3_hasMirrorImage 55 = .ok (.ifCond .ne 26, 3) := by decide +kernel
theorem dX3_hasMirrorImage_58 : decode cX3_hasMirrorImage 58 = .ok (.aload_n 0, 1) := by decide +kernel
theorem dX3_hasMirrorImage_59 : decode cX3_hasMirrorImage 59 = .ok (.getfield 11, 3) := by decide +kernel
theorem dX3_hasMirrorImage_62 : decode cX3_hasMirrorImage 62 = .ok (.iconst 2, 1) := by decide +kernel
theorem dX3_hasMirrorImage_63 : decode cX3_hasMirrorImage 63 = .ok (.aaload, 1) := by decide +kernel
theorem dX3_hasMirrorImage_64 : decode cX3_hasMirrorImage 64 = .ok (.iload 4, 2) := by decide +kernel
theorem dX3_hasMirrorImage_66 : decode cX3_hasMirrorImage 66 = .ok (.daload, 1) := by decide +kernel
theorem dX3_hasMirrorImage_67 : decode cX3_hasMirrorImage 67 = .ok (.aload_n 0, 1) := by decide +kernel
theorem dX3_hasMirrorImage_68 : decode cX3_hasMirrorImage 68 = .ok (.getfield 11, 3) := by decide +kernel
theorem dX3_hasMirrorImage_71 : decode cX3_hasMirrorImage 71 = .ok (.iconst 2, 1) := by decide +kernel
theorem dX3_hasMirrorImage_72 : decode cX3_hasMirrorImage 72 = .ok (.aaload, 1) := by decide +kernel
theorem dX3_hasMirrorImage_73 : decode cX3_hasMirrorImage 73 = .ok (.iload_n 1, 1) := by decide +kernel
theorem dX3_hasMirrorImage_74 : decode cX3_hasMirrorImage 74 = .ok (.daload, 1) := by decide +kernel
theorem dX3_hasMirrorImage_75 : decode cX3_hasMirrorImage 75 = .ok (.dcmp .l, 1) := by decide +kernel
theorem dX3_hasMirrorImage_76 : decode cX3_hasMirrorImage 76 = .ok (.ifCond .ne 5, 3) := by decide +kernel
theorem dX3_hasMirrorImage_79 : decode cX3_hasMirrorImage 79 = .ok (.iconst 1, 1) := by decide +kernel
theorem dX3_hasMirrorImage_80 : decode cX3_hasMirrorImage 80 = .ok (.ireturn, 1) := by decide +kernel
theorem dX3_hasMirrorImage_81 : decode cX3_hasMirrorImage 81 = .ok (.iinc 4 1, 3) := by decide +kernel
theorem dX3_hasMirrorImage_84 : decode cX3_hasMirrorImage 84 = .ok (.goto (-70), 3) := by decide +kernel
theorem dX3_hasMirrorImage_87 : decode cX3_hasMirrorImage 87 = .ok (.iconst 0, 1) := by decide +kernel
theorem dX3_hasMirrorImage_88 : decode cX3_hasMirrorImage 88 = .ok (.ireturn, 1) := by decide +kernel
theorem dX4_init_0 : decode cX4_init 0 = .ok (.aload_n 0, 1) := by decide +kernel
theorem dX4_init_1 : decode cX4_init 1 = .ok (.invokespecial 3, 3) := by decide +kernel
theorem dX4_init_4 : decode cX4_init 4 = .ok (.aload_n 0, 1) := by decide +kernel
theorem dX4_init_5 : decode cX4_init 5 = .ok (.bipush 30, 2) := by decide +kernel
theorem dX4_init_7 : decode cX4_init 7 = .ok (.newarray .int, 2) := by decide +kernel
theorem dX4_init_9 : decode cX4_init 9 = .ok (.putfield 9, 3) := by decide +kernel
theorem dX4_init_12 : decode cX4_init 12 = .ok (.aload_n 0, 1) := by decide +kernel
theorem dX4_init_13 : decode cX4_init 13 = .ok (.bipush 30, 2) := by decide +kernel
theorem dX4_init_15 : decode cX4_init 15 = .ok (.newarray .int, 2) := by decide +kernel
theorem dX4_init_17 : decode cX4_init 17 = .ok (.putfield 15, 3) := by decide +kernel
theorem dX4_init_20 : decode cX4_init 20 = .ok (.aload_n 0, 1) := by decide +kernel
theorem dX4_init_21 : decode cX4_init 21 = .ok (.bipush 30, 2) := by decide +kernel
theorem dX4_init_23 : decode cX4_init 23 = .ok (.newarray .int, 2) := by decide +kernel
theorem dX4_init_25 : decode cX4_init 25 = .ok (.putfield 18, 3) := by decide +kernel
theorem dX4_init_28 : decode cX4_init 28 = .ok (.aload_n 0, 1) := by decide +kernel
theorem dX4_init_29 : decode cX4_init 29 = .ok (.bipush 30, 2) := by decide +kernel
theorem dX4_init_31 : decode cX4_init 31 = .ok (.newarray .int, 2) := by decide +kernel
theorem dX4_init_33 : decode cX4_init 33 = .ok (.putfield 21, 3) := by decide +kernel
theorem dX4_init_36 : decode cX4_init 36 = .ok (.aload_n 0, 1) := by decide +kernel
theorem dX4_init_37 : decode cX4_init 37 = .ok (.bipush 30, 2) := by decide +kernel
theorem dX4_init_39 : decode cX4_init 39 = .ok (.newarray .int, 2) := by decide +kernel
theorem dX4_init_41 : decode cX4_init 41 = .ok (.putfield 24, 3) := by decide +kernel
theorem dX4_init_44 : decode cX4_init 44 = .ok (.aload_n 0, 1) := by decide +kernel
theorem dX4_init_45 : decode cX4_init 45 = .ok (.iconst 0, 1) := by decide +kernel
theorem dX4_init_46 : decode cX4_init 46 = .ok (.putfield 27, 3) := by decide +kernel
theorem dX4_init_49 : decode cX4_init 49 = .ok (.aload_n 0, 1) := by decide +kernel
theorem dX4_init_50 : decode cX4_init 50 = .ok (.iconst 0, 1) := by decide +kernel
theorem dX4_init_51 : decode cX4_init 51 = .ok (.putfield 31, 3) := by decide +kernel
theorem dX4_init_54 : decode cX4_init 54 = .ok (.aload_n 0, 1) := by decide +kernel
theorem dX4_init_55 : decode cX4_init 55 = .ok (.iconst 0, 1) := by decide +kernel
theorem dX4_init_56 : decode cX4_init 56 = .ok (.putfield 34, 3) := by decide +kernel
theorem dX4_init_59 : decode cX4_init 59 = .ok (.aload_n 0, 1) := by decide +kernel
theorem dX4_init_60 : decode cX4_init 60 = .ok (.iconst 0, 1) := by decide +kernel
theorem dX4_init_61 : decode cX4_init 61 = .ok (.putfield 37, 3) := by decide +kernel
theorem dX4_init_64 : decode cX4_init 64 = .ok (.return_, 1) := by decide +kernel
theorem dX4_has_0 : decode cX4_has 0 = .ok (.iload_n 1, 1) := by decide +kernel
theorem dX4_has_1 : decode cX4_has 1 = .ok (.ifCond .lt 15, 3) := by decide +kernel
theorem dX4_has_4 : decode cX4_has 4 = .ok (.iload_n 1, 1) := by decide +kernel
theorem dX4_has_5 : decode cX4_has 5 = .ok (.aload_n 0, 1) := by decide +kernel
theorem dX4_has_6 : decode cX4_has 6 = .ok (.getfield 27, 3) := by decide +kernel
theorem dX4_has_9 : decode cX4_has 9 = .ok (.if_icmp .ge 7, 3) := by decide +kernel
theorem dX4_has_12 : decode cX4_has 12 = .ok (.iconst 1, 1) := by decide +kernel
theorem dX4_has_13 : decode cX4_has 13 = .ok (.goto 4, 3) := by decide +kernel
theorem dX4_has_16 : decode cX4_has 16 = .ok (.iconst 0, 1) := by decide +kernel
theorem dX4_has_17 : decode cX4_has 17 = .ok (.ireturn, 1) := by decide +kernel
set_option maxRecDepth 20000 in
theorem ggX4_add_X4_lay : GoodIn wsX4_add wsX4_lay := goodIn_r _ [9, 2, 3, 10, 11, 12, 13, 14, 15, 16, 17, 18, 4, 19, 20, 21, 22, 23, 24, 25, 26, 27] (by decide +kernel) (by decide +kernel)
set_option maxRecDepth 20000 in
theorem gX4_add_X4_lay : GoodIn wsX4_add (wsV RX4 40 RX4 yX4_lay wsX4_lay) := goodIn_app (goodIn_of _ (by decide +kernel)) ggX4_add_X4_lay
theorem dX4_add_0 : decode cX4_add 0 = .ok (.aload_n 0, 1) := by decide +kernel
theorem dX4_add_1 : decode cX4_add 1 = .ok (.getfield 27, 3) := by decide +kernel
theorem dX4_add_4 : decode cX4_add 4 = .ok (.istore 4, 2) := by decide +kernel
theorem dX4_add_6 : decode cX4_add 6 = .ok (.aload_n 0, 1) := by decide +kernel
theorem dX4_add_7 : decode cX4_add 7 = .ok (.getfield 9, 3) := by decide +kernel
theorem dX4_add_10 : decode cX4_add 10 = .ok (.iload 4, 2) := by decide +kernel
theorem dX4_add_12 : decode cX4_add 12 = .ok (.iload_n 1, 1) := by decide +kernel
theorem dX4_add_13 : decode cX4_add 13 = .ok (.iastore, 1) := by decide +kernel
theorem dX4_add_14 : decode cX4_add 14 = .ok (.aload_n 0, 1) := by decide +kernel
theorem dX4_add_15 : decode cX4_add 15 = .ok (.getfield 15, 3) := by decide +kernel
theorem dX4_add_18 : decode cX4_add 18 = .ok (.iload 4, 2) := by decide +kernel
theorem dX4_add_20 : decode cX4_add 20 = .ok (.iload_n 2, 1) := by decide +kernel
theorem dX4_add_21 : decode cX4_add 21 = .ok (.iastore, 1) := by decide +kernel
theorem dX4_add_22 : decode cX4_add 22 = .ok (.aload_n 0, 1) := by decide +kernel
theorem dX4_add_23 : decode cX4_add 23 = .ok (.getfield 18, 3) := by decide +kernel
theorem dX4_add_26 : decode cX4_add 26 = .ok (.iload 4, 2) := by decide +kernel
theorem dX4_add_28 : decode cX4_add 28 = .ok (.iload_n 3, 1) := by decide +kernel
theorem dX4_add_29 : decode cX4_add 29 = .ok (.iastore, 1) := by decide +kernel
theorem dX4_add_30 : decode cX4_add 30 = .ok (.aload_n 0, 1) := by decide +kernel
theorem dX4_add_31 : decode cX4_add 31 = .ok (.iload 4, 2) := by decide +kernel
theorem dX4_add_33 : decode cX4_add 33 = .ok (.invokevirtual 40, 3) := by decide +kernel
theorem dX4_add_36 : decode cX4_add 36 = .ok (.aload_n 0, 1) := by decide +kernel
theorem dX4_add_37 : decode cX4_add 37 = .ok (.dup, 1) := by decide +kernel
theorem dX4_add_38 : decode cX4_add 38 = .ok (.getfield 27, 3) := by decide +kernel
theorem dX4_add_41 : decode cX4_add 41 = .ok (.iconst 1, 1) := by decide +kernel
theorem dX4_add_42 : decode cX4_add 42 = .ok (.iadd, 1) := by decide +kernel
theorem dX4_add_43 : decode cX4_add 43 = .ok (.putfield 27, 3) := by decide +kernel
theorem dX4_add_46 : decode cX4_add 46 = .ok (.iload 4, 2) := by decide +kernel
theorem dX4_add_48 : decode cX4_add 48 = .ok (.ireturn, 1) := by decide +kernel
theorem dX4_lay_0 : decode cX4_lay 0 = .ok (.aload_n 0, 1) := by decide +kernel
theorem dX4_lay_1 : decode cX4_lay 1 = .ok (.getfield 9, 3) := by decide +kernel
theorem dX4_lay_4 : decode cX4_lay 4 = .ok (.iload_n 1, 1) := by decide +kernel
theorem dX4_lay_5 : decode cX4_lay 5 = .ok (.iaload, 1) := by decide +kernel
theorem dX4_lay_6 : decode cX4_lay 6 = .ok (.aload_n 0, 1) := by decide +kernel
theorem dX4_lay_7 : decode cX4_lay 7 = .ok (.getfield 15, 3) := by decide +kernel
theorem dX4_lay_10 : decode cX4_lay 10 = .ok (.iload_n 1, 1) := by decide +kernel
theorem dX4_lay_11 : decode cX4_lay 11 = .ok (.iaload, 1) := by decide +kernel
theorem dX4_lay_12 : decode cX4_lay 12 = .ok (.invokestatic 44, 3) := by decide +kernel
theorem dX4_lay_15 : decode cX4_lay 15 = .ok (.istore_n 2, 1) := by decide +kernel
theorem dX4_lay_16 : decode cX4_lay 16 = .ok (.aload_n 0, 1) := by decide +kernel
theorem dX4_lay_17 : decode cX4_lay 17 = .ok (.getfield 31, 3) := by decide +kernel
theorem dX4_lay_20 : decode cX4_lay 20 = .ok (.iload_n 2, 1) := by decide +kernel
theorem dX4_lay_21 : decode cX4_lay 21 = .ok (.iadd, 1) := by decide +kernel
theorem dX4_lay_22 : decode cX4_lay 22 = .ok (.sipush 400, 3) := by decide +kernel
theorem dX4_lay_25 : decode cX4_lay 25 = .ok (.if_icmp .le 26, 3) := by decide +kernel
theorem dX4_lay_28 : decode cX4_lay 28 = .ok (.aload_n 0, 1) := by decide +kernel
theorem dX4_lay_29 : decode cX4_lay 29 = .ok (.dup, 1) := by decide +kernel
theorem dX4_lay_30 : decode cX4_lay 30 = .ok (.getfield 34, 3) := by decide +kernel
theorem dX4_lay_33 : decode cX4_lay 33 = .ok (.aload_n 0, 1) := by decide +kernel
theorem dX4_lay_34 : decode cX4_lay 34 = .ok (.getfield 37, 3) := by decide +kernel
theorem dX4_lay_37 : decode cX4_lay 37 = .ok (.iadd, 1) := by decide +kernel
theorem dX4_lay_38 : decode cX4_lay 38 = .ok (.putfield 34, 3) := by decide +kernel
theorem dX4_lay_41 : decode cX4_lay 41 = .ok (.aload_n 0, 1) := by decide +kernel
theorem dX4_lay_42 : decode cX4_lay 42 = .ok (.iconst 0, 1) := by decide +kernel
theorem dX4_lay_43 : decode cX4_lay 43 = .ok (.putfield 31, 3) := by decide +kernel
theorem dX4_lay_46 : decode cX4_lay 46 = .ok (.aload_n 0, 1) := by decide +kernel
theorem dX4_lay_47 : decode cX4_lay 47 = .ok (.iconst 0, 1) := by decide +kernel
theorem dX4_lay_48 : decode cX4_lay 48 = .ok (.putfield 37, 3) := by decide +kernel
theorem dX4_lay_51 : decode cX4_lay 51 = .ok (.aload_n 0, 1) := by decide +kernel
theorem dX4_lay_52 : decode cX4_lay 52 = .ok (.getfield 21, 3) := by decide +kernel
theorem dX4_lay_55 : decode cX4_lay 55 = .ok (.iload_n 1, 1) := by decide +kernel
theorem dX4_lay_56 : decode cX4_lay 56 = .ok (.aload_n 0, 1) := by decide +kernel
theorem dX4_lay_57 : decode cX4_lay 57 = .ok (.getfield 31, 3) := by decide +kernel
theorem dX4_lay_60 : decode cX4_lay 60 = .ok (.iastore, 1) := by decide +kernel
theorem dX4_lay_61 : decode cX4_lay 61 = .ok (.aload_n 0, 1) := by decide +kernel
theorem dX4_lay_62 : decode cX4_lay 62 = .ok (.getfield 24, 3) := by decide +kernel
theorem dX4_lay_65 : decode cX4_lay 65 = .ok (.iload_n 1, 1) := by decide +kernel
theorem dX4_lay_66 : decode cX4_lay 66 = .ok (.aload_n 0, 1) := by decide +kernel
theorem dX4_lay_67 : decode cX4_lay 67 = .ok (.getfield 34, 3) := by decide +kernel
theorem dX4_lay_70 : decode cX4_lay 70 = .ok (.iastore, 1) := by decide +kernel
theorem dX4_lay_71 : decode cX4_lay 71 = .ok (.aload_n 0, 1) := by decide +kernel
theorem dX4_lay_72 : decode cX4_lay 72 = .ok (.dup, 1) := by decide +kernel
theorem dX4_lay_73 : decode cX4_lay 73 = .ok (.getfield 31, 3) := by decide +kernel
theorem dX4_lay_76 : decode cX4_lay 76 = .ok (.iload_n 2, 1) := by decide +kernel
theorem dX4_lay_77 : decode cX4_lay 77 = .ok (.iadd, 1) := by decide +kernel
theorem dX4_lay_78 : decode cX4_lay 78 = .ok (.putfield 31, 3) := by decide +kernel
theorem dX4_lay_81 : decode cX4_lay 81 = .ok (.aload_n 0, 1) := by decide +kernel
theorem dX4_lay_82 : decode cX4_lay 82 = .ok (.aload_n 0, 1) := by decide +kernel
theorem dX4_lay_83 : decode cX4_lay 83 = .ok (.getfield 37, 3) := by decide +kernel
theorem dX4_lay_86 : decode cX4_lay 86 = .ok (.aload_n 0, 1) := by decide +kernel
theorem dX4_lay_87 : decode cX4_lay 87 = .ok (.getfield 18, 3) := by decide +kernel
theorem dX4_lay_90 : decode cX4_lay 90 = .ok (.iload_n 1, 1) := by decide +kernel
theorem dX4_lay_91 : decode cX4_lay 91 = .ok (.iaload, 1) := by decide +kernel
theorem dX4_lay_92 : decode cX4_lay 92 = .ok (.invokestatic 44, 3) := by decide +kernel
theorem dX4_lay_95 : decode cX4_lay 95 = .ok (.putfield 37, 3) := by decide +kernel
theorem dX4_lay_98 : decode cX4_lay 98 = .ok (.return_, 1) := by decide +kernel
theorem dX4_meshesAfter_0 : decode cX4_meshesAfter 0 = .ok (.aload_n 0, 1) := by decide +kernel
theorem dX4_meshesAfter_1 : decode cX4_meshesAfter 1 = .ok (.getfield 15, 3) := by decide +kernel
theorem dX4_meshesAfter_4 : decode cX4_meshesAfter 4 = .ok (.iload_n 1, 1) := by decide +kernel
theorem dX4_meshesAfter_5 : decode cX4_meshesAfter 5 = .ok (.iaload, 1) := by decide +kernel
theorem dX4_meshesAfter_6 : decode cX4_meshesAfter 6 = .ok (.aload_n 0, 1) := by decide +kernel
theorem dX4_meshesAfter_7 : decode cX4_meshesAfter 7 = .ok (.getfield 9, 3) := by decide +kernel
theorem dX4_meshesAfter_10 : decode cX4_meshesAfter 10 = .ok (.iload_n 1, 1) := by decide +kernel
theorem dX4_meshesAfter_11 : decode cX4_meshesAfter 11 = .ok (.iaload, 1) := by decide +kernel
theorem dX4_meshesAfter_12 : decode cX4_meshesAfter 12 = .ok (.isub, 1) := by decide +kernel
theorem dX4_meshesAfter_13 : decode cX4_meshesAfter 13 = .ok (.istore_n 3, 1) := by decide +kernel
theorem dX4_meshesAfter_14 : decode cX4_meshesAfter 14 = .ok (.aload_n 0, 1) := by decide +kernel
theorem dX4_meshesAfter_15 : decode cX4_meshesAfter 15 = .ok (.getfield 9, 3) := by decide +kernel
theorem dX4_meshesAfter_18 : decode cX4_meshesAfter 18 = .ok (.iload_n 1, 1) := by decide +kernel
theorem dX4_meshesAfter_19 : decode cX4_meshesAfter 19 = .ok (.iaload, 1) := by decide +kernel
theorem dX4_meshesAfter_20 : decode cX4_meshesAfter 20 = .ok (.iload_n 3, 1) := by decide +kernel
theorem dX4_meshesAfter_21 : decode cX4_meshesAfter 21 = .ok (.iload_n 2, 1) := by decide +kernel
theorem dX4_meshesAfter_22 : decode cX4_meshesAfter 22 = .ok (.imul, 1) := by decide +kernel
theorem dX4_meshesAfter_23 : decode cX4_meshesAfter 23 = .ok (.aload_n 0, 1) := by decide +kernel
theorem dX4_meshesAfter_24 : decode cX4_meshesAfter 24 = .ok (.getfield 18, 3) := by decide +kernel
theorem dX4_meshesAfter_27 : decode cX4_meshesAfter 27 = .ok (.iload_n 1, 1) := by decide +kernel
theorem dX4_meshesAfter_28 : decode cX4_meshesAfter 28 = .ok (.iaload, 1) := by decide +kernel
theorem dX4_meshesAfter_29 : decode cX4_meshesAfter 29 = .ok (.idiv, 1) := by decide +kernel
theorem dX4_meshesAfter_30 : decode cX4_meshesAfter 30 = .ok (.iadd, 1) := by decide +kernel
theorem dX4_meshesAfter_31 : decode cX4_meshesAfter 31 = .ok (.ireturn, 1) := by decide +kernel
theorem dX5_init_0 : decode cX5_init 0 = .ok (.aload_n 0, 1) := by decide +kernel
theorem dX5_init_1 : decode cX5_init 1 = .ok (.invokespecial 3, 3) := by decide +kernel
theorem dX5_init_4 : decode cX5_init 4 = .ok (.aload_n 0, 1) := by decide +kernel
theorem dX5_init_5 : decode cX5_init 5 = .ok (.bipush 10, 2) := by decide +kernel
theorem dX5_init_7 : decode cX5_init 7 = .ok (.newarray .double, 2) := by decide +kernel
theorem dX5_init_9 : decode cX5_init 9 = .ok (.putfield 9, 3) := by decide +kernel
theorem dX5_init_12 : decode cX5_init 12 = .ok (.aload_n 0, 1) := by decide +kernel
theorem dX5_init_13 : decode cX5_init 13 = .ok (.bipush 10, 2) := by decide +kernel
theorem dX5_init_15 : decode cX5_init 15 = .ok (.newarray .double, 2) := by decide +kernel
theorem dX5_init_17 : decode cX5_init 17 = .ok (.putfield 15, 3) := by decide +kernel
theorem dX5_init_20 : decode cX5_init 20 = .ok (.aload_n 0, 1) := by decide +kernel
theorem dX5_init_21 : decode cX5_init 21 = .ok (.bipush 10, 2) := by decide +kernel
theorem dX5_init_23 : decode cX5_init 23 = .ok (.newarray .double, 2) := by decide +kernel
theorem dX5_init_25 : decode cX5_init 25 = .ok (.putfield 18, 3) := by decide +kernel
theorem dX5_init_28 : decode cX5_init 28 = .ok (.aload_n 0, 1) := by decide +kernel
theorem dX5_init_29 : decode cX5_init 29 = .ok (.iconst 0, 1) := by decide +kernel
theorem dX5_init_30 : decode cX5_init 30 = .ok (.putfield 21, 3) := by decide +kernel
theorem dX5_init_33 : decode cX5_init 33 = .ok (.aload_n 0, 1) := by decide +kernel
theorem dX5_init_34 : decode cX5_init 34 = .ok (.dconst 0, 1) := by decide +kernel
theorem dX5_init_35 : decode cX5_init 35 = .ok (.putfield 25, 3) := by decide +kernel
theorem dX5_init_38 : decode cX5_init 38 = .ok (.aload_n 0, 1) := by decide +kernel
theorem dX5_init_39 : decode cX5_init 39 = .ok (.dconst 0, 1) := by decide +kernel
theorem dX5_init_40 : decode cX5_init 40 = .ok (.putfield 29, 3) := by decide +kernel
theorem dX5_init_43 : decode cX5_init 43 = .ok (.return_, 1) := by decide +kernel
set_option maxRecDepth 20000 in
theorem ggX5_tell_X5_rowAtOrAbove : GoodIn wsX5_tell wsX5_rowAtOrAbove := goodIn_r _ [9, 2, 1, 14, 15, 16, 17, 18, 19] (by decide +kernel) (by decide +kernel)
set_option maxRecDepth 20000 in
theorem gX5_tell_X5_rowAtOrAbove : GoodIn wsX5_tell (wsV RX5 32 RX5 yX5_rowAtOrAbove wsX5_rowAtOrAbove) := goodIn_app (goodIn_of _ (by decide +kernel)) ggX5_tell_X5_rowAtOrAbove
set_option maxRecDepth 20000 in
theorem ggX5_tell_X5_makeRoomAt : GoodIn wsX5_tell wsX5_makeRoomAt := goodIn_r _ [13, 2, 1, 3, 4, 14, 15, 16, 17, 18, 19] (by decide +kernel) (by decide +kernel)
set_option maxRecDepth 20000 in
theorem gX5_tell_X5_makeRoomAt : GoodIn wsX5_tell (wsV RX5 36 RX5 yX5_makeRoomAt wsX5_makeRoomAt) := goodIn_app (goodIn_of _ (by decide +kernel)) ggX5_tell_X5_makeRoomAt
theorem dX5_tell_0 : decode cX5_tell 0 = .ok (.aload_n 0, 1) := by decide +kernel
theorem dX5_tell_1 : decode cX5_tell 1 = .ok (.dload_n 1, 1) := by decide +kernel
theorem dX5_tell_2 : decode cX5_tell 2 = .ok (.invokevirtual 32, 3) := by decide +kernel
theorem dX5_tell_5 : decode cX5_tell 5 = .ok (.istore 7, 2) := by decide +kernel
theorem dX5_tell_7 : decode cX5_tell 7 = .ok (.iload 7, 2) := by decide +kernel
theorem dX5_tell_9 : decode cX5_tell 9 = .ok (.iconst (-1), 1) := by decide +kernel
theorem dX5_tell_10 : decode cX5_tell 10 = .ok (.if_icmp .eq 15, 3) := by decide +kernel
theorem dX5_tell_13 : decode cX5_tell 13 = .ok (.aload_n 0, 1) := by decide +kernel
theorem dX5_tell_14 : decode cX5_tell 14 = .ok (.getfield 9, 3) := by decide +kernel
theorem dX5_tell_17 : decode cX5_tell 17 = .ok (.iload 7, 2) := by decide +kernel
theorem dX5_tell_19 : decode cX5_tell 19 = .ok (.daload, 1) := by decide +kernel
theorem dX5_tell_20 : decode cX5_tell 20 = .ok (.dload_n 1, 1) := by decide +kernel
theorem dX5_tell_21 : decode cX5_tell 21 = .ok (.dcmp .l, 1) := by decide +kernel
theorem dX5_tell_22 : decode cX5_tell 22 = .ok (.ifCond .eq 23, 3) := by decide +kernel
theorem dX5_tell_25 : decode cX5_tell 25 = .ok (.aload_n 0, 1) := by decide +kernel
theorem dX5_tell_26 : decode cX5_tell 26 = .ok (.getfield 21, 3) := by decide +kernel
theorem dX5_tell_29 : decode cX5_tell 29 = .ok (.bipush 10, 2) := by decide +kernel
theorem dX5_tell_31 : decode cX5_tell 31 = .ok (.if_icmp .lt 5, 3) := by decide +kernel
theorem dX5_tell_34 : decode cX5_tell 34 = .ok (.iconst 0, 1) := by decide +kernel
theorem dX5_tell_35 : decode cX5_tell 35 = .ok (.ireturn, 1) := by decide +kernel
theorem dX5_tell_36 : decode cX5_tell 36 = .ok (.iinc 7 1, 3) := by decide +kernel
theorem dX5_tell_39 : decode cX5_tell 39 = .ok (.aload_n 0, 1) := by decide +kernel
theorem dX5_tell_40 : decode cX5_tell 40 = .ok (.iload 7, 2) := by decide +kernel
theorem dX5_tell_42 : decode cX5_tell 42 = .ok (.invokevirtual 36, 3) := by decide +kernel
theorem dX5_tell_45 : decode cX5_tell 45 = .ok (.aload_n 0, 1) := by decide +kernel
theorem dX5_tell_46 : decode cX5_tell 46 = .ok (.getfield 9, 3) := by decide +kernel
theorem dX5_tell_49 : decode cX5_tell 49 = .ok (.iload 7, 2) := by decide +kernel
theorem dX5_tell_51 : decode cX5_tell 51 = .ok (.dload_n 1, 1) := by decide +kernel
theorem dX5_tell_52 : decode cX5_tell 52 = .ok (.dastore, 1) := by decide +kernel
theorem dX5_tell_53 : decode cX5_tell 53 = .ok (.aload_n 0, 1) := by decide +kernel
theorem dX5_tell_54 : decode cX5_tell 54 = .ok (.getfield 15, 3) := by decide +kernel
theorem dX5_tell_57 : decode cX5_tell 57 = .ok (.iload 7, 2) := by decide +kernel
theorem dX5_tell_59 : decode cX5_tell 59 = .ok (.dload_n 3, 1) := by decide +kernel
theorem dX5_tell_60 : decode cX5_tell 60 = .ok (.dastore, 1) := by decide +kernel
theorem dX5_tell_61 : decode cX5_tell 61 = .ok (.aload_n 0, 1) := by decide +kernel
theorem dX5_tell_62 : decode cX5_tell 62 = .ok (.getfield 18, 3) := by decide +kernel
theorem dX5_tell_65 : decode cX5_tell 65 = .ok (.iload 7, 2) := by decide +kernel
theorem dX5_tell_67 : decode cX5_tell 67 = .ok (.dload 5, 2) := by decide +kernel
theorem dX5_tell_69 : decode cX5_tell 69 = .ok (.dastore, 1) := by decide +kernel
theorem dX5_tell_70 : decode cX5_tell 70 = .ok (.iconst 1, 1) := by decide +kernel
theorem dX5_tell_71 : decode cX5_tell 71 = .ok (.ireturn, 1) := by decide +kernel
theorem dX5_makeRoomAt_0 : decode cX5_makeRoomAt 0 = .ok (.aload_n 0, 1) := by decide +kernel
theorem dX5_makeRoomAt_1 : decode cX5_makeRoomAt 1 = .ok (.getfield 21, 3) := by decide +kernel
theorem dX5_makeRoomAt_4 : decode cX5_makeRoomAt 4 = .ok (.istore_n 2, 1) := by decide +kernel
theorem dX5_makeRoomAt_5 : decode cX5_makeRoomAt 5 = .ok (.iload_n 2, 1) := by decide +kernel
theorem dX5_makeRoomAt_6 : decode cX5_makeRoomAt 6 = .ok (.iload_n 1, 1) := by decide +kernel
theorem dX5_makeRoomAt_7 : decode cX5_makeRoomAt 7 = .ok (.if_icmp .le 51, 3) := by decide +kernel
theorem dX5_makeRoomAt_10 : decode cX5_makeRoomAt 10 = .ok (.aload_n 0, 1) := by decide +kernel
theorem dX5_makeRoomAt_11 : decode cX5_makeRoomAt 11 = .ok (.getfield 9, 3) := by decide +kernel
theorem dX5_makeRoomAt_14 : decode cX5_makeRoomAt 14 = .ok (.iload_n 2, 1) := by decide +kernel
theorem dX5_makeRoomAt_15 : decode cX5_makeRoomAt 15 = .ok (.aload_n 0, 1) := by decide +kernel
theorem dX5_makeRoomAt_16 : decode cX5_makeRoomAt 16 = .ok (.getfield 9, 3) := by decide +kernel
theorem dX5_makeRoomAt_19 : decode cX5_makeRoomAt 19 = .ok (.iload_n 2, 1) := by decide +kernel
theorem dX5_makeRoomAt_20 : decode cX5_makeRoomAt 20 = .ok (.iconst 1, 1) := by decide +kernel
theorem dX5_makeRoomAt_21 : decode cX5_makeRoomAt 21 = .ok (.isub, 1) := by decide +kernel
theorem dX5_makeRoomAt_22 : decode cX5_makeRoomAt 22 = .ok (.daload, 1) := by decide +kernel
theorem dX5_makeRoomAt_23 : decode cX5_makeRoomAt 23 = .ok (.dastore, 1) := by decide +kernel
theorem dX5_makeRoomAt_24 : decode cX5_makeRoomAt 24 = .ok (.aload_n 0, 1) := by decide +kernel
theorem dX5_makeRoomAt_25 : decode cX5_makeRoomAt 25 = .ok (.getfield 15, 3) := by decide +kernel
theorem dX5_makeRoomAt_28 : decode cX5_makeRoomAt 28 = .ok (.iload_n 2, 1) := by decide +kernel
theorem dX5_makeRoomAt_29 : decode cX5_makeRoomAt 29 = .ok (.aload_n 0, 1) := by decide +kernel
theorem dX5_makeRoomAt_30 : decode cX5_makeRoomAt 30 = .ok (.getfield 15, 3) := by decide +kernel
theorem dX5_makeRoomAt_33 : decode cX5_makeRoomAt 33 = .ok (.iload_n 2, 1) := by decide +kernel
theorem dX5_makeRoomAt_34 : decode cX5_makeRoomAt 34 = .ok (.iconst 1, 1) := by decide +kernel
theorem dX5_makeRoomAt_35 : decode cX5_makeRoomAt 35 = .ok (.isub, 1) := by decide +kernel
theorem dX5_makeRoomAt_36 : decode cX5_makeRoomAt 36 = .ok (.daload, 1) := by decide +kernel
theorem dX5_makeRoomAt_37 : decode cX5_makeRoomAt 37 = .ok (.dastore, 1) := by decide +kernel
theorem dX5_makeRoomAt_38 : decode cX5_makeRoomAt 38 = .ok (.aload_n 0, 1) := by decide +kernel
theorem dX5_makeRoomAt_39 : decode cX5_makeRoomAt 39 = .ok (.getfield 18, 3) := by decide +kernel
theorem dX5_makeRoomAt_42 : decode cX5_makeRoomAt 42 = .ok (.iload_n 2, 1) := by decide +kernel
theorem dX5_makeRoomAt_43 : decode cX5_makeRoomAt 43 = .ok (.aload_n 0, 1) := by decide +kernel
theorem dX5_makeRoomAt_44 : decode cX5_makeRoomAt 44 = .ok (.getfield 18, 3) := by decide +kernel
theorem dX5_makeRoomAt_47 : decode cX5_makeRoomAt 47 = .ok (.iload_n 2, 1) := by decide +kernel
theorem dX5_makeRoomAt_48 : decode cX5_makeRoomAt 48 = .ok (.iconst 1, 1) := by decide +kernel
theorem dX5_makeRoomAt_49 : decode cX5_makeRoomAt 49 = .ok (.isub, 1) := by decide +kernel
theorem dX5_makeRoomAt_50 : decode cX5_makeRoomAt 50 = .ok (.daload, 1) := by decide +kernel
theorem dX5_makeRoomAt_51 : decode cX5_makeRoomAt 51 = .ok (.dastore, 1) := by decide +kernel
theorem dX5_makeRoomAt_52 : decode cX5_makeRoomAt 52 = .ok (.iinc 2 (-1), 3) := by decide +kernel
theorem dX5_makeRoomAt_55 : decode cX5_makeRoomAt 55 = .ok (.goto (-50), 3) := by decide +kernel
theorem dX5_makeRoomAt_58 : decode cX5_makeRoomAt 58 = .ok (.aload_n 0, 1) := by decide +kernel
theorem dX5_makeRoomAt_59 : decode cX5_makeRoomAt 59 = .ok (.dup, 1) := by decide +kernel
theorem dX5_makeRoomAt_60 : decode cX5_makeRoomAt 60 = .ok (.getfield 21, 3) := by decide +kernel
theorem dX5_makeRoomAt_63 : decode cX5_makeRoomAt 63 = .ok (.iconst 1, 1) := by decide +kernel
theorem dX5_makeRoomAt_64 : decode cX5_makeRoomAt 64 = .ok (.iadd, 1) := by decide +kernel
theorem dX5_makeRoomAt_65 : decode cX5_makeRoomAt 65 = .ok (.putfield 21, 3) := by decide +kernel
theorem dX5_makeRoomAt_68 : decode cX5_makeRoomAt 68 = .ok (.return_, 1) := by decide +kernel
theorem dX5_rowAtOrAbove_0 : decode cX5_rowAtOrAbove 0 = .ok (.iconst (-1), 1) := by decide +kernel
theorem dX5_rowAtOrAbove_1 : decode cX5_rowAtOrAbove 1 = .ok (.istore_n 3, 1) := by decide +kernel
theorem dX5_rowAtOrAbove_2 : decode cX5_rowAtOrAbove 2 = .ok (.iconst 0, 1) := by decide +kernel
theorem dX5_rowAtOrAbove_3 : decode cX5_rowAtOrAbove 3 = .ok (.istore 4, 2) := by decide +kernel
theorem dX5_rowAtOrAbove_5 : decode cX5_rowAtOrAbove 5 = .ok (.iload 4, 2) := by decide +kernel
theorem dX5_rowAtOrAbove_7 : decode cX5_rowAtOrAbove 7 = .ok (.aload_n 0, 1) := by decide +kernel
theorem dX5_rowAtOrAbove_8 : decode cX5_rowAtOrAbove 8 = .ok (.getfield 21, 3) := by decide +kernel
theorem dX5_rowAtOrAbove_11 : decode cX5_rowAtOrAbove 11 = .ok (.if_icmp .ge 24, 3) := by decide +kernel
theorem dX5_rowAtOrAbove_14 : decode cX5_rowAtOrAbove 14 = .ok (.aload_n 0, 1) := by decide +kernel
theorem dX5_rowAtOrAbove_15 : decode cX5_rowAtOrAbove 15 = .ok (.getfield 9, 3) := by decide +kernel
theorem dX5_rowAtOrAbove_18 : decode cX5_rowAtOrAbove 18 = .ok (.iload 4, 2) := by decide +kernel
theorem dX5_rowAtOrAbove_20 : decode cX5_rowAtOrAbove 20 = .ok (.daload, 1) := by decide +kernel
theorem dX5_rowAtOrAbove_21 : decode cX5_rowAtOrAbove 21 = .ok (.dload_n 1, 1) := by decide +kernel
theorem dX5_rowAtOrAbove_22 : decode cX5_rowAtOrAbove 22 = .ok (.dcmp .g, 1) := by decide +kernel
theorem dX5_rowAtOrAbove_23 : decode cX5_rowAtOrAbove 23 = .ok (.ifCond .gt 12, 3) := by decide +kernel
theorem dX5_rowAtOrAbove_26 : decode cX5_rowAtOrAbove 26 = .ok (.iload 4, 2) := by decide +kernel
theorem dX5_rowAtOrAbove_28 : decode cX5_rowAtOrAbove 28 = .ok (.istore_n 3, 1) := by decide +kernel
theorem dX5_rowAtOrAbove_29 : decode cX5_rowAtOrAbove 29 = .ok (.iinc 4 1, 3) := by decide +kernel
theorem dX5_rowAtOrAbove_32 : decode cX5_rowAtOrAbove 32 = .ok (.goto (-27), 3) := by decide +kernel
theorem dX5_rowAtOrAbove_35 : decode cX5_rowAtOrAbove 35 = .ok (.iload_n 3, 1) := by decide +kernel
theorem dX5_rowAtOrAbove_36 : decode cX5_rowAtOrAbove 36 = .ok (.ireturn, 1) := by decide +kernel
set_option maxRecDepth 20000 in
theorem ggX5_speedAt_X5_speedOfRows : GoodIn wsX5_speedAt wsX5_speedOfRows := goodIn_r _ [6, 7, 8, 9, 10, 11, 12, 13, 14] (by decide +kernel) (by decide +kernel)
set_option maxRecDepth 20000 in
theorem gX5_speedAt_X5_speedOfRows : GoodIn wsX5_speedAt (wsV RX5 40 RX5 yX5_speedOfRows wsX5_speedOfRows) := goodIn_app (goodIn_of _ (by decide +kernel)) ggX5_speedAt_X5_speedOfRows
theorem dX5_speedAt_0 : decode cX5_speedAt 0 = .ok (.aload_n 0, 1) := by decide +kernel
theorem dX5_speedAt_1 : decode cX5_speedAt 1 = .ok (.aload_n 1, 1) := by decide +kernel
theorem dX5_speedAt_2 : decode cX5_speedAt 2 = .ok (.dload_n 2, 1) := by decide +kernel
theorem dX5_speedAt_3 : decode cX5_speedAt 3 = .ok (.iload 4, 2) := by decide +kernel
theorem dX5_speedAt_5 : decode cX5_speedAt 5 = .ok (.invokevirtual 40, 3) := by decide +kernel
theorem dX5_speedAt_8 : decode cX5_speedAt 8 = .ok (.dconst 1, 1) := by decide +kernel
theorem dX5_speedAt_9 : decode cX5_speedAt 9 = .ok (.aload_n 0, 1) := by decide +kernel
theorem dX5_speedAt_10 : decode cX5_speedAt 10 = .ok (.getfield 25, 3) := by decide +kernel
theorem dX5_speedAt_13 : decode cX5_speedAt 13 = .ok (.dadd, 1) := by decide +kernel
theorem dX5_speedAt_14 : decode cX5_speedAt 14 = .ok (.dmul, 1) := by decide +kernel
theorem dX5_speedAt_15 : decode cX5_speedAt 15 = .ok (.dreturn, 1) := by decide +kernel
theorem dX5_speedOfRows_0 : decode cX5_speedOfRows 0 = .ok (.aload_n 0, 1) := by decide +kernel
theorem dX5_speedOfRows_1 : decode cX5_speedOfRows 1 = .ok (.getfield 21, 3) := by decide +kernel
theorem dX5_speedOfRows_4 : decode cX5_speedOfRows 4 = .ok (.ifCond .ne 5, 3) := by decide +kernel
theorem dX5_speedOfRows_7 : decode cX5_speedOfRows 7 = .ok (.dconst 0, 1) := by decide +kernel
theorem dX5_speedOfRows_8 : decode cX5_speedOfRows 8 = .ok (.dreturn, 1) := by decide +kernel
theorem dX5_speedOfRows_9 : decode cX5_speedOfRows 9 = .ok (.iload 4, 2) := by decide +kernel
theorem dX5_speedOfRows_11 : decode cX5_speedOfRows 11 = .ok (.ifCond .ge 7, 3) := by decide +kernel
theorem dX5_speedOfRows_14 : decode cX5_speedOfRows 14 = .ok (.aload_n 1, 1) := by decide +kernel
theorem dX5_speedOfRows_15 : decode cX5_speedOfRows 15 = .ok (.iconst 0, 1) := by decide +kernel
theorem dX5_speedOfRows_16 : decode cX5_speedOfRows 16 = .ok (.daload, 1) := by decide +kernel
theorem dX5_speedOfRows_17 : decode cX5_speedOfRows 17 = .ok (.dreturn, 1) := by decide +kernel
theorem dX5_speedOfRows_18 : decode cX5_speedOfRows 18 = .ok (.iload 4, 2) := by decide +kernel
theorem dX5_speedOfRows_20 : decode cX5_speedOfRows 20 = .ok (.iconst 1, 1) := by decide +kernel
theorem dX5_speedOfRows_21 : decode cX5_speedOfRows 21 = .ok (.iadd, 1) := by decide +kernel
theorem dX5_speedOfRows_22 : decode cX5_speedOfRows 22 = .ok (.aload_n 0, 1) := by decide +kernel
theorem dX5_speedOfRows_23 : decode cX5_speedOfRows 23 = .ok (.getfield 21, 3) := by decide +kernel
theorem dX5_speedOfRows_26 : decode cX5_speedOfRows 26 = .ok (.if_icmp .lt 12, 3) := by decide +kernel
theorem dX5_speedOfRows_29 : decode cX5_speedOfRows 29 = .ok (.aload_n 1, 1) := by decide +kernel
theorem dX5_speedOfRows_30 : decode cX5_speedOfRows 30 = .ok (.aload_n 0, 1) := by decide +kernel
theorem dX5_speedOfRows_31 : decode cX5_speedOfRows 31 = .ok (.getfield 21, 3) := by decide +kernel
theorem dX5_speedOfRows_34 : decode cX5_speedOfRows 34 = .ok (.iconst 1, 1) := by decide +kernel
theorem dX5_speedOfRows_35 : decode cX5_speedOfRows 35 = .ok (.isub, 1) := by decide +kernel
theorem dX5_speedOfRows_36 : decode cX5_speedOfRows 36 = .ok (.daload, 1) := by decide +kernel
theorem dX5_speedOfRows_37 : decode cX5_speedOfRows 37 = .ok (.dreturn, 1) := by decide +kernel
theorem dX5_speedOfRows_38 : decode cX5_speedOfRows 38 = .ok (.dload_n 2, 1) := by decide +kernel
theorem dX5_speedOfRows_39 : decode cX5_speedOfRows 39 = .ok (.aload_n 0, 1) := by decide +kernel
theorem dX5_speedOfRows_40 : decode cX5_speedOfRows 40 = .ok (.getfield 9, 3) := by decide +kernel
theorem dX5_speedOfRows_43 : decode cX5_speedOfRows 43 = .ok (.iload 4, 2) := by decide +kernel
theorem dX5_speedOfRows_45 : decode cX5_speedOfRows 45 = .ok (.daload, 1) := by decide +kernel
theorem dX5_speedOfRows_46 : decode cX5_speedOfRows 46 = .ok (.dsub, 1) := by decide +kernel
theorem dX5_speedOfRows_47 : decode cX5_speedOfRows 47 = .ok (.aload_n 0, 1) := by decide +kernel
theorem dX5_speedOfRows_48 : decode cX5_speedOfRows 48 = .ok (.getfield 9, 3) := by decide +kernel
theorem dX5_speedOfRows_51 : decode cX5_speedOfRows 51 = .ok (.iload 4, 2) := by decide +kernel
theorem dX5_speedOfRows_53 : decode cX5_speedOfRows 53 = .ok (.iconst 1, 1) := by decide +kernel
theorem dX5_speedOfRows_54 : decode cX5_speedOfRows 54 = .ok (.iadd, 1) := by decide +kernel
theorem dX5_speedOfRows_55 : decode cX5_speedOfRows 55 = .ok (.daload, 1) := by decide +kernel
theorem dX5_speedOfRows_56 : decode cX5_speedOfRows 56 = .ok (.aload_n 0, 1) := by decide +kernel
theorem dX5_speedOfRows_57 : decode cX5_speedOfRows 57 = .ok (.getfield 9, 3) := by decide +kernel
theorem dX5_speedOfRows_60 : decode cX5_speedOfRows 60 = .ok (.iload 4, 2) := by decide +kernel
theorem dX5_speedOfRows_62 : decode cX5_speedOfRows 62 = .ok (.daload, 1) := by decide +kernel
theorem dX5_speedOfRows_63 : decode cX5_speedOfRows 63 = .ok (.dsub, 1) := by decide +kernel
theorem dX5_speedOfRows_64 : decode cX5_speedOfRows 64 = .ok (.ddiv, 1) := by decide +kernel
theorem dX5_speedOfRows_65 : decode cX5_speedOfRows 65 = .ok (.dstore 5, 2) := by decide +kernel
theorem dX5_speedOfRows_67 : decode cX5_speedOfRows 67 = .ok (.aload_n 1, 1) := by decide +kernel
theorem dX5_speedOfRows_68 : decode cX5_speedOfRows 68 = .ok (.iload 4, 2) := by decide +kernel
theorem dX5_speedOfRows_70 : decode cX5_speedOfRows 70 = .ok (.daload, 1) := by decide +kernel
theorem dX5_speedOfRows_71 : decode cX5_speedOfRows 71 = .ok (.aload_n 1, 1) := by decide +kernel
theorem dX5_speedOfRows_72 : decode cX5_speedOfRows 72 = .ok (.iload 4, 2) := by decide +kernel
theorem dX5_speedOfRows_74 : decode cX5_speedOfRows 74 = .ok (.iconst 1, 1) := by decide +kernel
theorem dX5_speedOfRows_75 : decode cX5_speedOfRows 75 = .ok (.iadd, 1) := by decide +kernel
theorem dX5_speedOfRows_76 : decode cX5_speedOfRows 76 = .ok (.daload, 1) := by decide +kernel
theorem dX5_speedOfRows_77 : decode cX5_speedOfRows 77 = .ok (.aload_n 1, 1) := by decide +kernel
theorem dX5_speedOfRows_78 : decode cX5_speedOfRows 78 = .ok (.iload 4, 2) := by decide +kernel
theorem dX5_speedOfRows_80 : decode cX5_speedOfRows 80 = .ok (.daload, 1) := by decide +kernel
theorem dX5_speedOfRows_81 : decode cX5_speedOfRows 81 = .ok (.dsub, 1) := by decide +kernel
theorem dX5_speedOfRows_82 : decode cX5_speedOfRows 82 = .ok (.dload 5, 2) := by decide +kernel
theorem dX5_speedOfRows_84 : decode cX5_speedOfRows 84 = .ok (.dmul, 1) := by decide +kernel
theorem dX5_speedOfRows_85 : decode cX5_speedOfRows 85 = .ok (.dadd, 1) := by decide +kernel
theorem dX5_speedOfRows_86 : decode cX5_speedOfRows 86 = .ok (.dreturn, 1) := by decide +kernel
end
section
set_option maxRecDepth 20000 in
theorem ggX6_init_X3_init : GoodIn wsX6_init wsX3_init := goodIn_r _ [29, 30, 2, 3, 31, 32, 33, 34, 35, 36, 37, 38, 39, 90, 91, 92, 93, 94, 95] (by decide +kernel) (by decide +kernel)
set_option maxRecDepth 20000 in
theorem gX6_init_X3_init_n9 : GoodIn wsX6_init (wsX3_init) := ggX6_init_X3_init
set_option maxRecDepth 20000 in
theorem ggX6_init_X1_init : GoodIn wsX6_init wsX1_init := goodIn_r _ [41, 42, 2, 3, 43, 44, 45, 32, 46, 47, 48, 49, 50, 102, 103, 104, 105, 106, 107, 108] (by decide +kernel) (by decide +kernel)
set_option maxRecDepth 20000 in
theorem gX6_init_X1_init_n18 : GoodIn wsX6_init (wsX1_init) := ggX6_init_X1_init
set_option maxRecDepth 20000 in
theorem ggX6_init_X5_init : GoodIn wsX6_init wsX5_init := goodIn_r _ [52, 53, 2, 3, 32, 54, 55, 56, 57, 58, 59, 109, 110, 111, 112, 113, 114] (by decide +kernel) (by decide +kernel)
set_option maxRecDepth 20000 in
theorem gX6_init_X5_init_n25 : GoodIn wsX6_init (wsX5_init) := ggX6_init_X5_init
set_option maxRecDepth 20000 in
theorem ggX6_init_X0_init : GoodIn wsX6_init wsX0_init := goodIn_r _ [62, 63, 2, 3, 32, 64, 65, 66, 67, 68, 69, 70, 71, 115, 116, 117, 118, 119, 120, 121] (by decide +kernel) (by decide +kernel)
set_option maxRecDepth 20000 in
theorem gX6_init_X0_init : GoodIn wsX6_init (wsX0_init) := ggX6_init_X0_init
set_option maxRecDepth 20000 in
theorem ggX6_init_X2_init : GoodIn wsX6_init wsX2_init := goodIn_r _ [73, 74, 2, 3, 32, 75, 76, 77, 122, 123, 124] (by decide +kernel) (by decide +kernel)
set_option maxRecDepth 20000 in
theorem gX6_init_X2_init_n41 : GoodIn wsX6_init (wsX2_init) := ggX6_init_X2_init
set_option maxRecDepth 20000 in
theorem ggX6_init_X4_init : GoodIn wsX6_init wsX4_init := goodIn_r _ [79, 80, 2, 3, 43, 81, 82, 83, 84, 85, 86, 87, 88, 89, 125, 126, 127, 128, 129, 130, 131, 132, 133] (by decide +kernel) (by decide +kernel)
set_option maxRecDepth 20000 in
theorem gX6_init_X4_init_n48 : GoodIn wsX6_init (wsX4_init) := ggX6_init_X4_init
theorem dX6_init_0 : decode cX6_init 0 = .ok (.aload_n 0, 1) := by decide +kernel
theorem dX6_init_1 : decode cX6_init 1 = .ok (.invokespecial 1, 3) := by decide +kernel
theorem dX6_init_4 : decode cX6_init 4 = .ok (.aload_n 0, 1) := by decide +kernel
theorem dX6_init_5 : decode cX6_init 5 = .ok (.new 7, 3) := by decide +kernel
theorem dX6_init_8 : decode cX6_init 8 = .ok (.dup, 1) := by decide +kernel
theorem dX6_init_9 : decode cX6_init 9 = .ok (.invokespecial 9, 3) := by decide +kernel
theorem dX6_init_12 : decode cX6_init 12 = .ok (.putfield 10, 3) := by decide +kernel
theorem dX6_init_15 : decode cX6_init 15 = .ok (.aload_n 0, 1) := by decide +kernel
theorem dX6_init_16 : decode cX6_init 16 = .ok (.new 16, 3) := by decide +kernel
theorem dX6_init_19 : decode cX6_init 19 = .ok (.dup, 1) := by decide +kernel
theorem dX6_init_20 : decode cX6_init 20 = .ok (.invokespecial 18, 3) := by decide +kernel
theorem dX6_init_23 : decode cX6_init 23 = .ok (.putfield 19, 3) := by decide +kernel
theorem dX6_init_26 : decode cX6_init 26 = .ok (.aload_n 0, 1) := by decide +kernel
theorem dX6_init_27 : decode cX6_init 27 = .ok (.new 23, 3) := by decide +kernel
theorem dX6_init_30 : decode cX6_init 30 = .ok (.dup, 1) := by decide +kernel
theorem dX6_init_31 : decode cX6_init 31 = .ok (.invokespecial 25, 3) := by decide +kernel
theorem dX6_init_34 : decode cX6_init 34 = .ok (.putfield 26, 3) := by decide +kernel
theorem dX6_init_37 : decode cX6_init 37 = .ok (.aload_n 0, 1) := by decide +kernel
theorem dX6_init_38 : decode cX6_init 38 = .ok (.new 30, 3) := by decide +kernel
theorem dX6_init_41 : decode cX6_init 41 = .ok (.dup, 1) := by decide +kernel
theorem dX6_init_42 : decode cX6_init 42 = .ok (.aload_n 0, 1) := by decide +kernel
theorem dX6_init_43 : decode cX6_init 43 = .ok (.getfield 10, 3) := by decide +kernel
theorem dX6_init_46 : decode cX6_init 46 = .ok (.aload_n 0, 1) := by decide +kernel
theorem dX6_init_47 : decode cX6_init 47 = .ok (.getfield 19, 3) := by decide +kernel
theorem dX6_init_50 : decode cX6_init 50 = .ok (.aload_n 0, 1) := by decide +kernel
theorem dX6_init_51 : decode cX6_init 51 = .ok (.getfield 26, 3) := by decide +kernel
theorem dX6_init_54 : decode cX6_init 54 = .ok (.invokespecial 32, 3) := by decide +kernel
theorem dX6_init_57 : decode cX6_init 57 = .ok (.putfield 35, 3) := by decide +kernel
theorem dX6_init_60 : decode cX6_init 60 = .ok (.aload_n 0, 1) := by decide +kernel
theorem dX6_init_61 : decode cX6_init 61 = .ok (.new 39, 3) := by decide +kernel
theorem dX6_init_64 : decode cX6_init 64 = .ok (.dup, 1) := by decide +kernel
theorem dX6_init_65 : decode cX6_init 65 = .ok (.invokespecial 41, 3) := by decide +kernel
theorem dX6_init_68 : decode cX6_init 68 = .ok (.putfield 42, 3) := by decide +kernel
theorem dX6_init_71 : decode cX6_init 71 = .ok (.aload_n 0, 1) := by decide +kernel
theorem dX6_init_72 : decode cX6_init 72 = .ok (.new 46, 3) := by decide +kernel
theorem dX6_init_75 : decode cX6_init 75 = .ok (.dup, 1) := by decide +kernel
theorem dX6_init_76 : decode cX6_init 76 = .ok (.invokespecial 48, 3) := by decide +kernel
theorem dX6_init_79 : decode cX6_init 79 = .ok (.putfield 49, 3) := by decide +kernel
theorem dX6_init_82 : decode cX6_init 82 = .ok (.return_, 1) := by decide +kernel
set_option maxRecDepth 20000 in
theorem ggX6_node_X6_isPlace : GoodIn wsX6_node wsX6_isPlace := goodIn_r _ [6, 7, 8, 9, 10, 5, 11] (by decide +kernel) (by decide +kernel)
set_option maxRecDepth 20000 in
theorem gX6_node_X6_isPlace : GoodIn wsX6_node (va_wsS RX6 57 yX6_isPlace wsX6_isPlace) := goodIn_app (goodIn_of _ (by decide +kernel)) ggX6_node_X6_isPlace
set_option maxRecDepth 20000 in
theorem ggX6_node_X3_add : GoodIn wsX6_node wsX3_add := goodIn_r _ [16, 17, 18, 25, 26, 27, 28, 29, 30] (by decide +kernel) (by decide +kernel)
set_option maxRecDepth 20000 in
theorem gX6_node_X3_add : GoodIn wsX6_node (wsV RX6 61 RX3 yX3_add wsX3_add) := goodIn_app (goodIn_of _ (by decide +kernel)) ggX6_node_X3_add
theorem dX6_node_0 : decode cX6_node 0 = .ok (.aload_n 0, 1) := by decide +kernel
theorem dX6_node_1 : decode cX6_node 1 = .ok (.getfield 10, 3) := by decide +kernel
theorem dX6_node_4 : decode cX6_node 4 = .ok (.getfield 53, 3) := by decide +kernel
theorem dX6_node_7 : decode cX6_node 7 = .ok (.bipush 30, 2) := by decide +kernel
theorem dX6_node_9 : decode cX6_node 9 = .ok (.if_icmp .ge 25, 3) := by decide +kernel
theorem dX6_node_12 : decode cX6_node 12 = .ok (.dload_n 1, 1) := by decide +kernel
theorem dX6_node_13 : decode cX6_node 13 = .ok (.invokestatic 57, 3) := by decide +kernel
theorem dX6_node_16 : decode cX6_node 16 = .ok (.ifCond .eq 18, 3) := by decide +kernel
theorem dX6_node_19 : decode cX6_node 19 = .ok (.dload_n 3, 1) := by decide +kernel
theorem dX6_node_20 : decode cX6_node 20 = .ok (.invokestatic 57, 3) := by decide +kernel
theorem dX6_node_23 : decode cX6_node 23 = .ok (.ifCond .eq 11, 3) := by decide +kernel
theorem dX6_node_26 : decode cX6_node 26 = .ok (.dload 5, 2) := by decide +kernel
theorem dX6_node_28 : decode cX6_node 28 = .ok (.invokestatic 57, 3) := by decide +kernel
theorem dX6_node_31 : decode cX6_node 31 = .ok (.ifCond .ne 5, 3) := by decide +kernel
theorem dX6_node_34 : decode cX6_node 34 = .ok (.iconst (-1), 1) := by decide +kernel
theorem dX6_node_35 : decode cX6_node 35 = .ok (.ireturn, 1) := by decide +kernel
theorem dX6_node_36 : decode cX6_node 36 = .ok (.aload_n 0, 1) := by decide +kernel
theorem dX6_node_37 : decode cX6_node 37 = .ok (.getfield 10, 3) := by decide +kernel
theorem dX6_node_40 : decode cX6_node 40 = .ok (.dload_n 1, 1) := by decide +kernel
theorem dX6_node_41 : decode cX6_node 41 = .ok (.dload_n 3, 1) := by decide +kernel
theorem dX6_node_42 : decode cX6_node 42 = .ok (.dload 5, 2) := by decide +kernel
theorem dX6_node_44 : decode cX6_node 44 = .ok (.invokevirtual 61, 3) := by decide +kernel
theorem dX6_node_47 : decode cX6_node 47 = .ok (.ireturn, 1) := by decide +kernel
set_option maxRecDepth 20000 in
theorem ggX6_bar_X3_has : GoodIn wsX6_bar wsX3_has := goodIn_r _ [12, 13, 44, 45, 46, 47, 48, 49] (by decide +kernel) (by decide +kernel)
set_option maxRecDepth 20000 in
theorem gX6_bar_X3_has : GoodIn wsX6_bar (wsV RX6 65 RX3 yX3_has wsX3_has) := goodIn_app (goodIn_of _ (by decide +kernel)) ggX6_bar_X3_has
set_option maxRecDepth 20000 in
theorem ggX6_bar_X6_within : GoodIn wsX6_bar wsX6_within := goodIn_r _ [17] (by decide +kernel) (by decide +kernel)
set_option maxRecDepth 20000 in
theorem gX6_bar_X6_within : GoodIn wsX6_bar (va_wsS RX6 74 yX6_within wsX6_within) := goodIn_app (goodIn_of _ (by decide +kernel)) ggX6_bar_X6_within
set_option maxRecDepth 20000 in
theorem ggX6_bar_X1_add : GoodIn wsX6_bar wsX1_add := goodIn_r _ [22, 23, 24, 25, 26, 27, 28, 29, 30, 37, 38, 39, 40, 41, 42, 43] (by decide +kernel) (by decide +kernel)
set_option maxRecDepth 20000 in
theorem gX6_bar_X1_add : GoodIn wsX6_bar (wsV RX6 82 RX1 yX1_add wsX1_add) := goodIn_app (goodIn_of _ (by decide +kernel)) ggX6_bar_X1_add
theorem dX6_bar_0 : decode cX6_bar 0 = .ok (.aload_n 0, 1) := by decide +kernel
theorem dX6_bar_1 : decode cX6_bar 1 = .ok (.getfield 10, 3) := by decide +kernel
theorem dX6_bar_4 : decode cX6_bar 4 = .ok (.iload_n 1, 1) := by decide +kernel
theorem dX6_bar_5 : decode cX6_bar 5 = .ok (.invokevirtual 65, 3) := by decide +kernel
theorem dX6_bar_8 : decode cX6_bar 8 = .ok (.ifCond .eq 31, 3) := by decide +kernel
theorem dX6_bar_11 : decode cX6_bar 11 = .ok (.aload_n 0, 1) := by decide +kernel
theorem dX6_bar_12 : decode cX6_bar 12 = .ok (.getfield 10, 3) := by decide +kernel
theorem dX6_bar_15 : decode cX6_bar 15 = .ok (.iload_n 2, 1) := by decide +kernel
theorem dX6_bar_16 : decode cX6_bar 16 = .ok (.invokevirtual 65, 3) := by decide +kernel
theorem dX6_bar_19 : decode cX6_bar 19 = .ok (.ifCond .eq 20, 3) := by decide +kernel
theorem dX6_bar_22 : decode cX6_bar 22 = .ok (.iload_n 1, 1) := by decide +kernel
theorem dX6_bar_23 : decode cX6_bar 23 = .ok (.iload_n 2, 1) := by decide +kernel
theorem dX6_bar_24 : decode cX6_bar 24 = .ok (.if_icmp .eq 15, 3) := by decide +kernel
theorem dX6_bar_27 : decode cX6_bar 27 = .ok (.aload_n 0, 1) := by decide +kernel
theorem dX6_bar_28 : decode cX6_bar 28 = .ok (.getfield 19, 3) := by decide +kernel
theorem dX6_bar_31 : decode cX6_bar 31 = .ok (.getfield 69, 3) := by decide +kernel
theorem dX6_bar_34 : decode cX6_bar 34 = .ok (.bipush 60, 2) := by decide +kernel
theorem dX6_bar_36 : decode cX6_bar 36 = .ok (.if_icmp .lt 5, 3) := by decide +kernel
theorem dX6_bar_39 : decode cX6_bar 39 = .ok (.iconst (-1), 1) := by decide +kernel
theorem dX6_bar_40 : decode cX6_bar 40 = .ok (.ireturn, 1) := by decide +kernel
theorem dX6_bar_41 : decode cX6_bar 41 = .ok (.dload_n 3, 1) := by decide +kernel
theorem dX6_bar_42 : decode cX6_bar 42 = .ok (.ldc2_w 70, 3) := by decide +kernel
theorem dX6_bar_45 : decode cX6_bar 45 = .ok (.ldc2_w 72, 3) := by decide +kernel
theorem dX6_bar_48 : decode cX6_bar 48 = .ok (.invokestatic 74, 3) := by decide +kernel
theorem dX6_bar_51 : decode cX6_bar 51 = .ok (.ifCond .eq 27, 3) := by decide +kernel
theorem dX6_bar_54 : decode cX6_bar 54 = .ok (.dload 5, 2) := by decide +kernel
theorem dX6_bar_56 : decode cX6_bar 56 = .ok (.dconst 0, 1) := by decide +kernel
theorem dX6_bar_57 : decode cX6_bar 57 = .ok (.ldc2_w 78, 3) := by decide +kernel
theorem dX6_bar_60 : decode cX6_bar 60 = .ok (.invokestatic 74, 3) := by decide +kernel
theorem dX6_bar_63 : decode cX6_bar 63 = .ok (.ifCond .eq 15, 3) := by decide +kernel
theorem dX6_bar_66 : decode cX6_bar 66 = .ok (.dload 7, 2) := by decide +kernel
theorem dX6_bar_68 : decode cX6_bar 68 = .ok (.dconst 0, 1) := by decide +kernel
theorem dX6_bar_69 : decode cX6_bar 69 = .ok (.ldc2_w 80, 3) := by decide +kernel
theorem dX6_bar_72 : decode cX6_bar 72 = .ok (.invokestatic 74, 3) := by decide +kernel
theorem dX6_bar_75 : decode cX6_bar 75 = .ok (.ifCond .ne 5, 3) := by decide +kernel
theorem dX6_bar_78 : decode cX6_bar 78 = .ok (.iconst (-1), 1) := by decide +kernel
theorem dX6_bar_79 : decode cX6_bar 79 = .ok (.ireturn, 1) := by decide +kernel
theorem dX6_bar_80 : decode cX6_bar 80 = .ok (.aload_n 0, 1) := by decide +kernel
theorem dX6_bar_81 : decode cX6_bar 81 = .ok (.getfield 19, 3) := by decide +kernel
theorem dX6_bar_84 : decode cX6_bar 84 = .ok (.iload_n 1, 1) := by decide +kernel
theorem dX6_bar_85 : decode cX6_bar 85 = .ok (.iload_n 2, 1) := by decide +kernel
theorem dX6_bar_86 : decode cX6_bar 86 = .ok (.dload_n 3, 1) := by decide +kernel
theorem dX6_bar_87 : decode cX6_bar 87 = .ok (.dload 5, 2) := by decide +kernel
theorem dX6_bar_89 : decode cX6_bar 89 = .ok (.dload 7, 2) := by decide +kernel
theorem dX6_bar_91 : decode cX6_bar 91 = .ok (.invokevirtual 82, 3) := by decide +kernel
theorem dX6_bar_94 : decode cX6_bar 94 = .ok (.ireturn, 1) := by decide +kernel
set_option maxRecDepth 20000 in
theorem ggX6_fix_X3_has : GoodIn wsX6_fix wsX3_has := goodIn_r _ [7, 8, 15, 16, 17, 18, 19, 20] (by decide +kernel) (by decide +kernel)
set_option maxRecDepth 20000 in
theorem gX6_fix_X3_has : GoodIn wsX6_fix (wsV RX6 65 RX3 yX3_has wsX3_has) := goodIn_app (goodIn_of _ (by decide +kernel)) ggX6_fix_X3_has
theorem dX6_fix_0 : decode cX6_fix 0 = .ok (.aload_n 0, 1) := by decide +kernel
theorem dX6_fix_1 : decode cX6_fix 1 = .ok (.getfield 10, 3) := by decide +kernel
theorem dX6_fix_4 : decode cX6_fix 4 = .ok (.iload_n 1, 1) := by decide +kernel
theorem dX6_fix_5 : decode cX6_fix 5 = .ok (.invokevirtual 65, 3) := by decide +kernel
theorem dX6_fix_8 : decode cX6_fix 8 = .ok (.ifCond .ne 5, 3) := by decide +kernel
theorem dX6_fix_11 : decode cX6_fix 11 = .ok (.iconst 0, 1) := by decide +kernel
theorem dX6_fix_12 : decode cX6_fix 12 = .ok (.ireturn, 1) := by decide +kernel
theorem dX6_fix_13 : decode cX6_fix 13 = .ok (.aload_n 0, 1) := by decide +kernel
theorem dX6_fix_14 : decode cX6_fix 14 = .ok (.getfield 10, 3) := by decide +kernel
theorem dX6_fix_17 : decode cX6_fix 17 = .ok (.getfield 85, 3) := by decide +kernel
theorem dX6_fix_20 : decode cX6_fix 20 = .ok (.iload_n 1, 1) := by decide +kernel
theorem dX6_fix_21 : decode cX6_fix 21 = .ok (.iconst 1, 1) := by decide +kernel
theorem dX6_fix_22 : decode cX6_fix 22 = .ok (.bastore, 1) := by decide +kernel
theorem dX6_fix_23 : decode cX6_fix 23 = .ok (.iconst 1, 1) := by decide +kernel
theorem dX6_fix_24 : decode cX6_fix 24 = .ok (.ireturn, 1) := by decide +kernel
set_option maxRecDepth 20000 in
theorem ggX6_floats_X3_has : GoodIn wsX6_floats wsX3_has := goodIn_r _ [9, 10, 21, 22, 23, 24, 25, 26] (by decide +kernel) (by decide +kernel)
set_option maxRecDepth 20000 in
theorem gX6_floats_X3_has : GoodIn wsX6_floats (wsV RX6 65 RX3 yX3_has wsX3_has) := goodIn_app (goodIn_of _ (by decide +kernel)) ggX6_floats_X3_has
set_option maxRecDepth 20000 in
theorem ggX6_floats_X6_within : GoodIn wsX6_floats wsX6_within := goodIn_r _ [14] (by decide +kernel) (by decide +kernel)
set_option maxRecDepth 20000 in
theorem gX6_floats_X6_within : GoodIn wsX6_floats (va_wsS RX6 74 yX6_within wsX6_within) := goodIn_app (goodIn_of _ (by decide +kernel)) ggX6_floats_X6_within
theorem dX6_floats_0 : decode cX6_floats 0 = .ok (.aload_n 0, 1) := by decide +kernel
theorem dX6_floats_1 : decode cX6_floats 1 = .ok (.getfield 10, 3) := by decide +kernel
theorem dX6_floats_4 : decode cX6_floats 4 = .ok (.iload_n 1, 1) := by decide +kernel
theorem dX6_floats_5 : decode cX6_floats 5 = .ok (.invokevirtual 65, 3) := by decide +kernel
theorem dX6_floats_8 : decode cX6_floats 8 = .ok (.ifCond .eq 16, 3) := by decide +kernel
theorem dX6_floats_11 : decode cX6_floats 11 = .ok (.dload_n 2, 1) := by decide +kernel
theorem dX6_floats_12 : decode cX6_floats 12 = .ok (.ldc2_w 89, 3) := by decide +kernel
theorem dX6_floats_15 : decode cX6_floats 15 = .ok (.ldc2_w 91, 3) := by decide +kernel
theorem dX6_floats_18 : decode cX6_floats 18 = .ok (.invokestatic 74, 3) := by decide +kernel
theorem dX6_floats_21 : decode cX6_floats 21 = .ok (.ifCond .ne 5, 3) := by decide +kernel
theorem dX6_floats_24 : decode cX6_floats 24 = .ok (.iconst 0, 1) := by decide +kernel
theorem dX6_floats_25 : decode cX6_floats 25 = .ok (.ireturn, 1) := by decide +kernel
theorem dX6_floats_26 : decode cX6_floats 26 = .ok (.aload_n 0, 1) := by decide +kernel
theorem dX6_floats_27 : decode cX6_floats 27 = .ok (.getfield 10, 3) := by decide +kernel
theorem dX6_floats_30 : decode cX6_floats 30 = .ok (.getfield 93, 3) := by decide +kernel
theorem dX6_floats_33 : decode cX6_floats 33 = .ok (.iload_n 1, 1) := by decide +kernel
theorem dX6_floats_34 : decode cX6_floats 34 = .ok (.dload_n 2, 1) := by decide +kernel
theorem dX6_floats_35 : decode cX6_floats 35 = .ok (.dastore, 1) := by decide +kernel
theorem dX6_floats_36 : decode cX6_floats 36 = .ok (.iconst 1, 1) := by decide +kernel
theorem dX6_floats_37 : decode cX6_floats 37 = .ok (.ireturn, 1) := by decide +kernel
set_option maxRecDepth 20000 in
theorem ggX6_current_X6_eighthOfTurn : GoodIn wsX6_current wsX6_eighthOfTurn := goodIn_r _ [6] (by decide +kernel) (by decide +kernel)
set_option maxRecDepth 20000 in
theorem gX6_current_X6_eighthOfTurn : GoodIn wsX6_current (va_wsS RX6 97 yX6_eighthOfTurn wsX6_eighthOfTurn) := goodIn_app (goodIn_of _ (by decide +kernel)) ggX6_current_X6_eighthOfTurn
set_option maxRecDepth 20000 in
theorem ggX6_current_X6_isPlace : GoodIn wsX6_current wsX6_isPlace := goodIn_r _ [9, 10, 11, 12, 13, 5, 14] (by decide +kernel) (by decide +kernel)
set_option maxRecDepth 20000 in
theorem gX6_current_X6_isPlace : GoodIn wsX6_current (va_wsS RX6 57 yX6_isPlace wsX6_isPlace) := goodIn_app (goodIn_of _ (by decide +kernel)) ggX6_current_X6_isPlace
set_option maxRecDepth 20000 in
theorem ggX6_current_X6_within : GoodIn wsX6_current wsX6_within := goodIn_r _ [14] (by decide +kernel) (by decide +kernel)
set_option maxRecDepth 20000 in
theorem gX6_current_X6_within : GoodIn wsX6_current (va_wsS RX6 74 yX6_within wsX6_within) := goodIn_app (goodIn_of _ (by decide +kernel)) ggX6_current_X6_within
set_option maxRecDepth 20000 in
theorem ggX6_current_X6_partTowardsX : GoodIn wsX6_current wsX6_partTowardsX := goodIn_r _ [17, 18] (by decide +kernel) (by decide +kernel)
set_option maxRecDepth 20000 in
theorem gX6_current_X6_partTowardsX : GoodIn wsX6_current (va_wsS RX6 101 yX6_partTowardsX wsX6_partTowardsX) := goodIn_app (goodIn_of _ (by decide +kernel)) ggX6_current_X6_partTowardsX
set_option maxRecDepth 20000 in
theorem ggX6_current_X5_tell : GoodIn wsX6_current wsX5_tell := goodIn_r _ [23, 24, 25, 26, 27, 28, 29, 30, 22, 31, 32, 33, 34, 35, 42, 43, 44, 45, 46, 47] (by decide +kernel) (by decide +kernel)
set_option maxRecDepth 20000 in
theorem gX6_current_X5_tell : GoodIn wsX6_current (wsV RX6 105 RX5 yX5_tell wsX5_tell) := goodIn_app (goodIn_of _ (by decide +kernel)) ggX6_current_X5_tell
theorem dX6_current_0 : decode cX6_current 0 = .ok (.dload 5, 2) := by decide +kernel
theorem dX6_current_2 : decode cX6_current 2 = .ok (.invokestatic 97, 3) := by decide +kernel
theorem dX6_current_5 : decode cX6_current 5 = .ok (.istore 7, 2) := by decide +kernel
theorem dX6_current_7 : decode cX6_current 7 = .ok (.dload_n 1, 1) := by decide +kernel
theorem dX6_current_8 : decode cX6_current 8 = .ok (.invokestatic 57, 3) := by decide +kernel
theorem dX6_current_11 : decode cX6_current 11 = .ok (.ifCond .eq 20, 3) := by decide +kernel
theorem dX6_current_14 : decode cX6_current 14 = .ok (.dload_n 3, 1) := by decide +kernel
theorem dX6_current_15 : decode cX6_current 15 = .ok (.dconst 0, 1) := by decide +kernel
theorem dX6_current_16 : decode cX6_current 16 = .ok (.ldc2_w 78, 3) := by decide +kernel
theorem dX6_current_19 : decode cX6_current 19 = .ok (.invokestatic 74, 3) := by decide +kernel
theorem dX6_current_22 : decode cX6_current 22 = .ok (.ifCond .eq 9, 3) := by decide +kernel
theorem dX6_current_25 : decode cX6_current 25 = .ok (.iload 7, 2) := by decide +kernel
theorem dX6_current_27 : decode cX6_current 27 = .ok (.iconst (-1), 1) := by decide +kernel
theorem dX6_current_28 : decode cX6_current 28 = .ok (.if_icmp .ne 5, 3) := by decide +kernel
theorem dX6_current_31 : decode cX6_current 31 = .ok (.iconst 0, 1) := by decide +kernel
theorem dX6_current_32 : decode cX6_current 32 = .ok (.ireturn, 1) := by decide +kernel
theorem dX6_current_33 : decode cX6_current 33 = .ok (.iload 7, 2) := by decide +kernel
theorem dX6_current_35 : decode cX6_current 35 = .ok (.bipush 6, 2) := by decide +kernel
theorem dX6_current_37 : decode cX6_current 37 = .ok (.iadd, 1) := by decide +kernel
theorem dX6_current_38 : decode cX6_current 38 = .ok (.bipush 8, 2) := by decide +kernel
theorem dX6_current_40 : decode cX6_current 40 = .ok (.irem, 1) := by decide +kernel
theorem dX6_current_41 : decode cX6_current 41 = .ok (.istore 8, 2) := by decide +kernel
theorem dX6_current_43 : decode cX6_current 43 = .ok (.aload_n 0, 1) := by decide +kernel
theorem dX6_current_44 : decode cX6_current 44 = .ok (.getfield 26, 3) := by decide +kernel
theorem dX6_current_47 : decode cX6_current 47 = .ok (.dload_n 1, 1) := by decide +kernel
theorem dX6_current_48 : decode cX6_current 48 = .ok (.dload_n 3, 1) := by decide +kernel
theorem dX6_current_49 : decode cX6_current 49 = .ok (.iload 7, 2) := by decide +kernel
theorem dX6_current_51 : decode cX6_current 51 = .ok (.invokestatic 101, 3) := by decide +kernel
theorem dX6_current_54 : decode cX6_current 54 = .ok (.dload_n 3, 1) := by decide +kernel
theorem dX6_current_55 : decode cX6_current 55 = .ok (.iload 8, 2) := by decide +kernel
theorem dX6_current_57 : decode cX6_current 57 = .ok (.invokestatic 101, 3) := by decide +kernel
theorem dX6_current_60 : decode cX6_current 60 = .ok (.invokevirtual 105, 3) := by decide +kernel
theorem dX6_current_63 : decode cX6_current 63 = .ok (.ireturn, 1) := by decide +kernel
set_option maxRecDepth 20000 in
theorem ggX6_run_X0_comesInRound : GoodIn wsX6_run wsX0_comesInRound := goodIn_r _ [10, 11, 12, 13, 14, 15, 16, 17, 18, 19, 20, 21, 22, 23, 24, 25, 26, 27, 9, 28, 29, 30, 31, 32, 33, 34, 35, 36, 37, 38, 39, 40, 41, 42, 43, 44, 45, 46, 47, 48, 49, 50, 51, 52, 53, 54, 55, 56, 57, 58, 59, 60, 61, 62, 63, 64, 65, 66, 67, 68, 69, 70, 71, 72, 73, 74, 75, 76, 77, 78, 79, 80, 81, 82, 83, 84, 85, 86, 87, 88, 89, 90, 91, 92, 93, 94, 95, 96, 97, 127, 128, 129, 130, 131, 132, 133, 134, 135, 136, 137, 138, 139, 140, 121, 122, 123, 124, 125, 126, 141, 142, 143, 144, 145, 146] (by decide +kernel) (by decide +kernel)
set_option maxRecDepth 20000 in
theorem gX6_run_X0_comesInRound : GoodIn wsX6_run (wsV RX6 108 RX0 yX0_comesInRound wsX0_comesInRound) := goodIn_app (goodIn_of _ (by decide +kernel)) ggX6_run_X0_comesInRound
set_option maxRecDepth 20000 in
theorem ggX6_run_X6_size : GoodIn wsX6_run wsX6_size := goodIn_r _ [87] (by decide +kernel) (by decide +kernel)
set_option maxRecDepth 20000 in
theorem gX6_run_X6_size : GoodIn wsX6_run (va_wsS RX6 115 yX6_size wsX6_size) := goodIn_app (goodIn_of _ (by decide +kernel)) ggX6_run_X6_size
set_option maxRecDepth 20000 in
theorem ggX6_run_X3_spread : GoodIn wsX6_run wsX3_spread := goodIn_r _ [102, 92, 21, 121, 122, 123, 124, 125, 126] (by decide +kernel) (by decide +kernel)
set_option maxRecDepth 20000 in
theorem gX6_run_X3_spread : GoodIn wsX6_run (wsV RX6 119 RX3 yX3_spread wsX3_spread) := goodIn_app (goodIn_of _ (by decide +kernel)) ggX6_run_X3_spread
set_option maxRecDepth 20000 in
theorem ggX6_run_X2_add : GoodIn wsX6_run wsX2_add := goodIn_r _ [107, 108, 109, 110, 111, 112, 113, 114, 147, 148, 149] (by decide +kernel) (by decide +kernel)
set_option maxRecDepth 20000 in
theorem gX6_run_X2_add : GoodIn wsX6_run (wsV RX6 123 RX2 yX2_add wsX2_add) := goodIn_app (goodIn_of _ (by decide +kernel)) ggX6_run_X2_add
theorem dX6_run_0 : decode cX6_run 0 = .ok (.iload_n 1, 1) := by decide +kernel
theorem dX6_run_1 : decode cX6_run 1 = .ok (.iconst 1, 1) := by decide +kernel
theorem dX6_run_2 : decode cX6_run 2 = .ok (.if_icmp .lt 20, 3) := by decide +kernel
theorem dX6_run_5 : decode cX6_run 5 = .ok (.iload_n 1, 1) := by decide +kernel
theorem dX6_run_6 : decode cX6_run 6 = .ok (.sipush 300, 3) := by decide +kernel
theorem dX6_run_9 : decode cX6_run 9 = .ok (.if_icmp .gt 13, 3) := by decide +kernel
theorem dX6_run_12 : decode cX6_run 12 = .ok (.aload_n 0, 1) := by decide +kernel
theorem dX6_run_13 : decode cX6_run 13 = .ok (.getfield 10, 3) := by decide +kernel
theorem dX6_run_16 : decode cX6_run 16 = .ok (.getfield 53, 3) := by decide +kernel
theorem dX6_run_19 : decode cX6_run 19 = .ok (.ifCond .ne 5, 3) := by decide +kernel
theorem dX6_run_22 : decode cX6_run 22 = .ok (.iconst (-1), 1) := by decide +kernel
theorem dX6_run_23 : decode cX6_run 23 = .ok (.ireturn, 1) := by decide +kernel
theorem dX6_run_24 : decode cX6_run 24 = .ok (.iconst 0, 1) := by decide +kernel
theorem dX6_run_25 : decode cX6_run 25 = .ok (.istore_n 2, 1) := by decide +kernel
theorem dX6_run_26 : decode cX6_run 26 = .ok (.iload_n 2, 1) := by decide +kernel
theorem dX6_run_27 : decode cX6_run 27 = .ok (.iload_n 1, 1) := by decide +kernel
theorem dX6_run_28 : decode cX6_run 28 = .ok (.if_icmp .ge 51, 3) := by decide +kernel
theorem dX6_run_31 : decode cX6_run 31 = .ok (.aload_n 0, 1) := by decide +kernel
theorem dX6_run_32 : decode cX6_run 32 = .ok (.getfield 35, 3) := by decide +kernel
theorem dX6_run_35 : decode cX6_run 35 = .ok (.invokevirtual 108, 3) := by decide +kernel
theorem dX6_run_38 : decode cX6_run 38 = .ok (.ifCond .eq 35, 3) := by decide +kernel
theorem dX6_run_41 : decode cX6_run 41 = .ok (.aload_n 0, 1) := by decide +kernel
theorem dX6_run_42 : decode cX6_run 42 = .ok (.getfield 42, 3) := by decide +kernel
theorem dX6_run_45 : decode cX6_run 45 = .ok (.aload_n 0, 1) := by decide +kernel
theorem dX6_run_46 : decode cX6_run 46 = .ok (.getfield 35, 3) := by decide +kernel
theorem dX6_run_49 : decode cX6_run 49 = .ok (.getfield 112, 3) := by decide +kernel
theorem dX6_run_52 : decode cX6_run 52 = .ok (.iconst 0, 1) := by decide +kernel
theorem dX6_run_53 : decode cX6_run 53 = .ok (.daload, 1) := by decide +kernel
theorem dX6_run_54 : decode cX6_run 54 = .ok (.invokestatic 115, 3) := by decide +kernel
theorem dX6_run_57 : decode cX6_run 57 = .ok (.dconst 1, 1) := by decide +kernel
theorem dX6_run_58 : decode cX6_run 58 = .ok (.aload_n 0, 1) := by decide +kernel
theorem dX6_run_59 : decode cX6_run 59 = .ok (.getfield 10, 3) := by decide +kernel
theorem dX6_run_62 : decode cX6_run 62 = .ok (.iconst 1, 1) := by decide +kernel
theorem dX6_run_63 : decode cX6_run 63 = .ok (.invokevirtual 119, 3) := by decide +kernel
theorem dX6_run_66 : decode cX6_run 66 = .ok (.dadd, 1) := by decide +kernel
theorem dX6_run_67 : decode cX6_run 67 = .ok (.ddiv, 1) := by decide +kernel
theorem dX6_run_68 : decode cX6_run 68 = .ok (.invokevirtual 123, 3) := by decide +kernel
theorem dX6_run_71 : decode cX6_run 71 = .ok (.iload_n 2, 1) := by decide +kernel
theorem dX6_run_72 : decode cX6_run 72 = .ok (.ireturn, 1) := by decide +kernel
theorem dX6_run_73 : decode cX6_run 73 = .ok (.iinc 2 1, 3) := by decide +kernel
theorem dX6_run_76 : decode cX6_run 76 = .ok (.goto (-50), 3) := by decide +kernel
theorem dX6_run_79 : decode cX6_run 79 = .ok (.iconst (-1), 1) := by decide +kernel
theorem dX6_run_80 : decode cX6_run 80 = .ok (.ireturn, 1) := by decide +kernel
set_option maxRecDepth 20000 in
theorem ggX6_at_X3_has : GoodIn wsX6_at wsX3_has := goodIn_r _ [7, 8, 19, 20, 21, 22, 23, 24] (by decide +kernel) (by decide +kernel)
set_option maxRecDepth 20000 in
theorem gX6_at_X3_has : GoodIn wsX6_at (wsV RX6 65 RX3 yX3_has wsX3_has) := goodIn_app (goodIn_of _ (by decide +kernel)) ggX6_at_X3_has
set_option maxRecDepth 20000 in
theorem ggX6_at_X6_isAxis : GoodIn wsX6_at wsX6_isAxis := goodIn_r _ [12] (by decide +kernel) (by decide +kernel)
set_option maxRecDepth 20000 in
theorem gX6_at_X6_isAxis : GoodIn wsX6_at (va_wsS RX6 126 yX6_isAxis wsX6_isAxis) := goodIn_app (goodIn_of _ (by decide +kernel)) ggX6_at_X6_isAxis
theorem dX6_at_0 : decode cX6_at 0 = .ok (.aload_n 0, 1) := by decide +kernel
theorem dX6_at_1 : decode cX6_at 1 = .ok (.getfield 10, 3) := by decide +kernel
theorem dX6_at_4 : decode cX6_at 4 = .ok (.iload_n 1, 1) := by decide +kernel
theorem dX6_at_5 : decode cX6_at 5 = .ok (.invokevirtual 65, 3) := by decide +kernel
theorem dX6_at_8 : decode cX6_at 8 = .ok (.ifCond .eq 10, 3) := by decide +kernel
theorem dX6_at_11 : decode cX6_at 11 = .ok (.iload_n 2, 1) := by decide +kernel
theorem dX6_at_12 : decode cX6_at 12 = .ok (.invokestatic 126, 3) := by decide +kernel
theorem dX6_at_15 : decode cX6_at 15 = .ok (.ifCond .ne 5, 3) := by decide +kernel
theorem dX6_at_18 : decode cX6_at 18 = .ok (.dconst 0, 1) := by decide +kernel
theorem dX6_at_19 : decode cX6_at 19 = .ok (.dreturn, 1) := by decide +kernel
theorem dX6_at_20 : decode cX6_at 20 = .ok (.aload_n 0, 1) := by decide +kernel
theorem dX6_at_21 : decode cX6_at 21 = .ok (.getfield 10, 3) := by decide +kernel
theorem dX6_at_24 : decode cX6_at 24 = .ok (.getfield 129, 3) := by decide +kernel
theorem dX6_at_27 : decode cX6_at 27 = .ok (.iload_n 2, 1) := by decide +kernel
theorem dX6_at_28 : decode cX6_at 28 = .ok (.aaload, 1) := by decide +kernel
theorem dX6_at_29 : decode cX6_at 29 = .ok (.iload_n 1, 1) := by decide +kernel
theorem dX6_at_30 : decode cX6_at 30 = .ok (.daload, 1) := by decide +kernel
theorem dX6_at_31 : decode cX6_at 31 = .ok (.dreturn, 1) := by decide +kernel
set_option maxRecDepth 20000 in
theorem ggX6_pull_X1_has : GoodIn wsX6_pull wsX1_has := goodIn_r _ [8, 9, 16, 17, 18, 19, 20, 21, 22] (by decide +kernel) (by decide +kernel)
set_option maxRecDepth 20000 in
theorem gX6_pull_X1_has : GoodIn wsX6_pull (wsV RX6 133 RX1 yX1_has wsX1_has) := goodIn_app (goodIn_of _ (by decide +kernel)) ggX6_pull_X1_has
theorem dX6_pull_0 : decode cX6_pull 0 = .ok (.aload_n 0, 1) := by decide +kernel
theorem dX6_pull_1 : decode cX6_pull 1 = .ok (.getfield 19, 3) := by decide +kernel
theorem dX6_pull_4 : decode cX6_pull 4 = .ok (.iload_n 1, 1) := by decide +kernel
theorem dX6_pull_5 : decode cX6_pull 5 = .ok (.invokevirtual 133, 3) := by decide +kernel
theorem dX6_pull_8 : decode cX6_pull 8 = .ok (.ifCond .eq 15, 3) := by decide +kernel
theorem dX6_pull_11 : decode cX6_pull 11 = .ok (.aload_n 0, 1) := by decide +kernel
theorem dX6_pull_12 : decode cX6_pull 12 = .ok (.getfield 19, 3) := by decide +kernel
theorem dX6_pull_15 : decode cX6_pull 15 = .ok (.getfield 134, 3) := by decide +kernel
theorem dX6_pull_18 : decode cX6_pull 18 = .ok (.iload_n 1, 1) := by decide +kernel
theorem dX6_pull_19 : decode cX6_pull 19 = .ok (.daload, 1) := by decide +kernel
theorem dX6_pull_20 : decode cX6_pull 20 = .ok (.goto 6, 3) := by decide +kernel
theorem dX6_pull_23 : decode cX6_pull 23 = .ok (.ldc2_w 137, 3) := by decide +kernel
theorem dX6_pull_26 : decode cX6_pull 26 = .ok (.dreturn, 1) := by decide +kernel
theorem dX6_residual_0 : decode cX6_residual 0 = .ok (.aload_n 0, 1) := by decide +kernel
theorem dX6_residual_1 : decode cX6_residual 1 = .ok (.getfield 35, 3) := by decide +kernel
theorem dX6_residual_4 : decode cX6_residual 4 = .ok (.getfield 139, 3) := by decide +kernel
theorem dX6_residual_7 : decode cX6_residual 7 = .ok (.dreturn, 1) := by decide +kernel
set_option maxRecDepth 20000 in
theorem ggX6_drag_X6_isAxis : GoodIn wsX6_drag wsX6_isAxis := goodIn_r _ [6] (by decide +kernel) (by decide +kernel)
set_option maxRecDepth 20000 in
theorem gX6_drag_X6_isAxis : GoodIn wsX6_drag (va_wsS RX6 126 yX6_isAxis wsX6_isAxis) := goodIn_app (goodIn_of _ (by decide +kernel)) ggX6_drag_X6_isAxis
theorem dX6_drag_0 : decode cX6_drag 0 = .ok (.iload_n 1, 1) := by decide +kernel
theorem dX6_drag_1 : decode cX6_drag 1 = .ok (.invokestatic 126, 3) := by decide +kernel
theorem dX6_drag_4 : decode cX6_drag 4 = .ok (.ifCond .eq 15, 3) := by decide +kernel
theorem dX6_drag_7 : decode cX6_drag 7 = .ok (.aload_n 0, 1) := by decide +kernel
theorem dX6_drag_8 : decode cX6_drag 8 = .ok (.getfield 35, 3) := by decide +kernel
theorem dX6_drag_11 : decode cX6_drag 11 = .ok (.getfield 112, 3) := by decide +kernel
theorem dX6_drag_14 : decode cX6_drag 14 = .ok (.iload_n 1, 1) := by decide +kernel
theorem dX6_drag_15 : decode cX6_drag 15 = .ok (.daload, 1) := by decide +kernel
theorem dX6_drag_16 : decode cX6_drag 16 = .ok (.goto 4, 3) := by decide +kernel
theorem dX6_drag_19 : decode cX6_drag 19 = .ok (.dconst 0, 1) := by decide +kernel
theorem dX6_drag_20 : decode cX6_drag 20 = .ok (.dreturn, 1) := by decide +kernel
set_option maxRecDepth 20000 in
theorem ggX6_over_X1_overloaded : GoodIn wsX6_over wsX1_overloaded := goodIn_r _ [6, 7, 8, 9, 16, 17, 18, 19, 20, 21, 22] (by decide +kernel) (by decide +kernel)
set_option maxRecDepth 20000 in
theorem gX6_over_X1_overloaded : GoodIn wsX6_over (wsV RX6 143 RX1 yX1_overloaded wsX1_overloaded) := goodIn_app (goodIn_of _ (by decide +kernel)) ggX6_over_X1_overloaded
theorem dX6_over_0 : decode cX6_over 0 = .ok (.iload_n 1, 1) := by decide +kernel
theorem dX6_over_1 : decode cX6_over 1 = .ok (.ifCond .ge 7, 3) := by decide +kernel
theorem dX6_over_4 : decode cX6_over 4 = .ok (.iconst (-1), 1) := by decide +kernel
theorem dX6_over_5 : decode cX6_over 5 = .ok (.goto 11, 3) := by decide +kernel
theorem dX6_over_8 : decode cX6_over 8 = .ok (.aload_n 0, 1) := by decide +kernel
theorem dX6_over_9 : decode cX6_over 9 = .ok (.getfield 19, 3) := by decide +kernel
theorem dX6_over_12 : decode cX6_over 12 = .ok (.iload_n 1, 1) := by decide +kernel
theorem dX6_over_13 : decode cX6_over 13 = .ok (.invokevirtual 143, 3) := by decide +kernel
theorem dX6_over_16 : decode cX6_over 16 = .ok (.ireturn, 1) := by decide +kernel
set_option maxRecDepth 20000 in
theorem ggX6_open_X6_isAxis : GoodIn wsX6_open wsX6_isAxis := goodIn_r _ [7] (by decide +kernel) (by decide +kernel)
set_option maxRecDepth 20000 in
theorem gX6_open_X6_isAxis : GoodIn wsX6_open (va_wsS RX6 126 yX6_isAxis wsX6_isAxis) := goodIn_app (goodIn_of _ (by decide +kernel)) ggX6_open_X6_isAxis
set_option maxRecDepth 20000 in
theorem ggX6_open_X3_spread : GoodIn wsX6_open wsX3_spread := goodIn_r _ [12, 13, 14, 21, 22, 23, 24, 25, 26] (by decide +kernel) (by decide +kernel)
set_option maxRecDepth 20000 in
theorem gX6_open_X3_spread : GoodIn wsX6_open (wsV RX6 119 RX3 yX3_spread wsX3_spread) := goodIn_app (goodIn_of _ (by decide +kernel)) ggX6_open_X3_spread
theorem dX6_open_0 : decode cX6_open 0 = .ok (.aload_n 0, 1) := by decide +kernel
theorem dX6_open_1 : decode cX6_open 1 = .ok (.getfield 10, 3) := by decide +kernel
theorem dX6_open_4 : decode cX6_open 4 = .ok (.getfield 53, 3) := by decide +kernel
theorem dX6_open_7 : decode cX6_open 7 = .ok (.ifCond .eq 10, 3) := by decide +kernel
theorem dX6_open_10 : decode cX6_open 10 = .ok (.iload_n 1, 1) := by decide +kernel
theorem dX6_open_11 : decode cX6_open 11 = .ok (.invokestatic 126, 3) := by decide +kernel
theorem dX6_open_14 : decode cX6_open 14 = .ok (.ifCond .ne 7, 3) := by decide +kernel
theorem dX6_open_17 : decode cX6_open 17 = .ok (.ldc2_w 137, 3) := by decide +kernel
theorem dX6_open_20 : decode cX6_open 20 = .ok (.dreturn, 1) := by decide +kernel
theorem dX6_open_21 : decode cX6_open 21 = .ok (.aload_n 0, 1) := by decide +kernel
theorem dX6_open_22 : decode cX6_open 22 = .ok (.getfield 10, 3) := by decide +kernel
theorem dX6_open_25 : decode cX6_open 25 = .ok (.iload_n 1, 1) := by decide +kernel
theorem dX6_open_26 : decode cX6_open 26 = .ok (.invokevirtual 119, 3) := by decide +kernel
theorem dX6_open_29 : decode cX6_open 29 = .ok (.dreturn, 1) := by decide +kernel
set_option maxRecDepth 20000 in
theorem ggX6_catchAt_X3_has : GoodIn wsX6_catchAt wsX3_has := goodIn_r _ [8, 9, 20, 21, 22, 23, 24, 25] (by decide +kernel) (by decide +kernel)
set_option maxRecDepth 20000 in
theorem gX6_catchAt_X3_has : GoodIn wsX6_catchAt (wsV RX6 65 RX3 yX3_has wsX3_has) := goodIn_app (goodIn_of _ (by decide +kernel)) ggX6_catchAt_X3_has
set_option maxRecDepth 20000 in
theorem ggX6_catchAt_X6_within : GoodIn wsX6_catchAt wsX6_within := goodIn_r _ [13] (by decide +kernel) (by decide +kernel)
set_option maxRecDepth 20000 in
theorem gX6_catchAt_X6_within : GoodIn wsX6_catchAt (va_wsS RX6 74 yX6_within wsX6_within) := goodIn_app (goodIn_of _ (by decide +kernel)) ggX6_catchAt_X6_within
theorem dX6_catchAt_0 : decode cX6_catchAt 0 = .ok (.aload_n 0, 1) := by decide +kernel
theorem dX6_catchAt_1 : decode cX6_catchAt 1 = .ok (.getfield 10, 3) := by decide +kernel
theorem dX6_catchAt_4 : decode cX6_catchAt 4 = .ok (.iload_n 1, 1) := by decide +kernel
theorem dX6_catchAt_5 : decode cX6_catchAt 5 = .ok (.invokevirtual 65, 3) := by decide +kernel
theorem dX6_catchAt_8 : decode cX6_catchAt 8 = .ok (.ifCond .eq 14, 3) := by decide +kernel
theorem dX6_catchAt_11 : decode cX6_catchAt 11 = .ok (.dload_n 2, 1) := by decide +kernel
theorem dX6_catchAt_12 : decode cX6_catchAt 12 = .ok (.dconst 0, 1) := by decide +kernel
theorem dX6_catchAt_13 : decode cX6_catchAt 13 = .ok (.ldc2_w 91, 3) := by decide +kernel
theorem dX6_catchAt_16 : decode cX6_catchAt 16 = .ok (.invokestatic 74, 3) := by decide +kernel
theorem dX6_catchAt_19 : decode cX6_catchAt 19 = .ok (.ifCond .ne 5, 3) := by decide +kernel
theorem dX6_catchAt_22 : decode cX6_catchAt 22 = .ok (.iconst 0, 1) := by decide +kernel
theorem dX6_catchAt_23 : decode cX6_catchAt 23 = .ok (.ireturn, 1) := by decide +kernel
theorem dX6_catchAt_24 : decode cX6_catchAt 24 = .ok (.aload_n 0, 1) := by decide +kernel
theorem dX6_catchAt_25 : decode cX6_catchAt 25 = .ok (.getfield 10, 3) := by decide +kernel
theorem dX6_catchAt_28 : decode cX6_catchAt 28 = .ok (.getfield 147, 3) := by decide +kernel
theorem dX6_catchAt_31 : decode cX6_catchAt 31 = .ok (.iload_n 1, 1) := by decide +kernel
theorem dX6_catchAt_32 : decode cX6_catchAt 32 = .ok (.dload_n 2, 1) := by decide +kernel
theorem dX6_catchAt_33 : decode cX6_catchAt 33 = .ok (.dastore, 1) := by decide +kernel
theorem dX6_catchAt_34 : decode cX6_catchAt 34 = .ok (.iconst 1, 1) := by decide +kernel
theorem dX6_catchAt_35 : decode cX6_catchAt 35 = .ok (.ireturn, 1) := by decide +kernel
set_option maxRecDepth 20000 in
theorem ggX6_panel_X6_isPanelWidth : GoodIn wsX6_panel wsX6_isPanelWidth := goodIn_r _ [6] (by decide +kernel) (by decide +kernel)
set_option maxRecDepth 20000 in
theorem gX6_panel_X6_isPanelWidth : GoodIn wsX6_panel (va_wsS RX6 151 yX6_isPanelWidth wsX6_isPanelWidth) := goodIn_app (goodIn_of _ (by decide +kernel)) ggX6_panel_X6_isPanelWidth
set_option maxRecDepth 20000 in
theorem ggX6_panel_X4_add : GoodIn wsX6_panel wsX4_add := goodIn_r _ [11, 12, 13, 14, 15, 16, 17, 18, 10, 19, 20, 21, 22, 23, 24, 25, 26, 27, 28, 35, 36, 37, 38, 39, 40, 41, 42, 43] (by decide +kernel) (by decide +kernel)
set_option maxRecDepth 20000 in
theorem gX6_panel_X4_add : GoodIn wsX6_panel (wsV RX6 154 RX4 yX4_add wsX4_add) := goodIn_app (goodIn_of _ (by decide +kernel)) ggX6_panel_X4_add
theorem dX6_panel_0 : decode cX6_panel 0 = .ok (.aload_n 0, 1) := by decide +kernel
theorem dX6_panel_1 : decode cX6_panel 1 = .ok (.getfield 49, 3) := by decide +kernel
theorem dX6_panel_4 : decode cX6_panel 4 = .ok (.getfield 150, 3) := by decide +kernel
theorem dX6_panel_7 : decode cX6_panel 7 = .ok (.bipush 30, 2) := by decide +kernel
theorem dX6_panel_9 : decode cX6_panel 9 = .ok (.if_icmp .ge 29, 3) := by decide +kernel
theorem dX6_panel_12 : decode cX6_panel 12 = .ok (.iload_n 1, 1) := by decide +kernel
theorem dX6_panel_13 : decode cX6_panel 13 = .ok (.invokestatic 151, 3) := by decide +kernel
theorem dX6_panel_16 : decode cX6_panel 16 = .ok (.ifCond .eq 22, 3) := by decide +kernel
theorem dX6_panel_19 : decode cX6_panel 19 = .ok (.iload_n 2, 1) := by decide +kernel
theorem dX6_panel_20 : decode cX6_panel 20 = .ok (.invokestatic 151, 3) := by decide +kernel
theorem dX6_panel_23 : decode cX6_panel 23 = .ok (.ifCond .eq 15, 3) := by decide +kernel
theorem dX6_panel_26 : decode cX6_panel 26 = .ok (.iload_n 3, 1) := by decide +kernel
theorem dX6_panel_27 : decode cX6_panel 27 = .ok (.iconst 1, 1) := by decide +kernel
theorem dX6_panel_28 : decode cX6_panel 28 = .ok (.if_icmp .lt 10, 3) := by decide +kernel
theorem dX6_panel_31 : decode cX6_panel 31 = .ok (.iload_n 3, 1) := by decide +kernel
theorem dX6_panel_32 : decode cX6_panel 32 = .ok (.sipush 200, 3) := by decide +kernel
theorem dX6_panel_35 : decode cX6_panel 35 = .ok (.if_icmp .le 5, 3) := by decide +kernel
theorem dX6_panel_38 : decode cX6_panel 38 = .ok (.iconst (-1), 1) := by decide +kernel
theorem dX6_panel_39 : decode cX6_panel 39 = .ok (.ireturn, 1) := by decide +kernel
theorem dX6_panel_40 : decode cX6_panel 40 = .ok (.aload_n 0, 1) := by decide +kernel
theorem dX6_panel_41 : decode cX6_panel 41 = .ok (.getfield 49, 3) := by decide +kernel
theorem dX6_panel_44 : decode cX6_panel 44 = .ok (.iload_n 1, 1) := by decide +kernel
theorem dX6_panel_45 : decode cX6_panel 45 = .ok (.iload_n 2, 1) := by decide +kernel
theorem dX6_panel_46 : decode cX6_panel 46 = .ok (.iload_n 3, 1) := by decide +kernel
theorem dX6_panel_47 : decode cX6_panel 47 = .ok (.invokevirtual 154, 3) := by decide +kernel
theorem dX6_panel_50 : decode cX6_panel 50 = .ok (.ireturn, 1) := by decide +kernel
set_option maxRecDepth 20000 in
theorem ggX6_cut_X4_has : GoodIn wsX6_cut wsX4_has := goodIn_r _ [7, 8, 22, 23, 24, 25, 26, 27, 28, 29, 30] (by decide +kernel) (by decide +kernel)
set_option maxRecDepth 20000 in
theorem gX6_cut_X4_has : GoodIn wsX6_cut (wsV RX6 157 RX4 yX4_has wsX4_has) := goodIn_app (goodIn_of _ (by decide +kernel)) ggX6_cut_X4_has
set_option maxRecDepth 20000 in
theorem ggX6_cut_X4_meshesAfter : GoodIn wsX6_cut wsX4_meshesAfter := goodIn_r _ [12, 13, 14, 15, 22, 23, 24, 25, 26, 27, 28, 29, 30] (by decide +kernel) (by decide +kernel)
set_option maxRecDepth 20000 in
theorem gX6_cut_X4_meshesAfter : GoodIn wsX6_cut (wsV RX6 162 RX4 yX4_meshesAfter wsX4_meshesAfter) := goodIn_app (goodIn_of _ (by decide +kernel)) ggX6_cut_X4_meshesAfter
theorem dX6_cut_0 : decode cX6_cut 0 = .ok (.aload_n 0, 1) := by decide +kernel
theorem dX6_cut_1 : decode cX6_cut 1 = .ok (.getfield 49, 3) := by decide +kernel
theorem dX6_cut_4 : decode cX6_cut 4 = .ok (.iload_n 1, 1) := by decide +kernel
theorem dX6_cut_5 : decode cX6_cut 5 = .ok (.invokevirtual 157, 3) := by decide +kernel
theorem dX6_cut_8 : decode cX6_cut 8 = .ok (.ifCond .eq 20, 3) := by decide +kernel
theorem dX6_cut_11 : decode cX6_cut 11 = .ok (.iload_n 2, 1) := by decide +kernel
theorem dX6_cut_12 : decode cX6_cut 12 = .ok (.ifCond .lt 16, 3) := by decide +kernel
theorem dX6_cut_15 : decode cX6_cut 15 = .ok (.iload_n 2, 1) := by decide +kernel
theorem dX6_cut_16 : decode cX6_cut 16 = .ok (.aload_n 0, 1) := by decide +kernel
theorem dX6_cut_17 : decode cX6_cut 17 = .ok (.getfield 49, 3) := by decide +kernel
theorem dX6_cut_20 : decode cX6_cut 20 = .ok (.getfield 158, 3) := by decide +kernel
theorem dX6_cut_23 : decode cX6_cut 23 = .ok (.iload_n 1, 1) := by decide +kernel
theorem dX6_cut_24 : decode cX6_cut 24 = .ok (.iaload, 1) := by decide +kernel
theorem dX6_cut_25 : decode cX6_cut 25 = .ok (.if_icmp .lt 5, 3) := by decide +kernel
theorem dX6_cut_28 : decode cX6_cut 28 = .ok (.iconst (-1), 1) := by decide +kernel
theorem dX6_cut_29 : decode cX6_cut 29 = .ok (.ireturn, 1) := by decide +kernel
theorem dX6_cut_30 : decode cX6_cut 30 = .ok (.iload_n 3, 1) := by decide +kernel
theorem dX6_cut_31 : decode cX6_cut 31 = .ok (.lookupswitch 59 #[(0, 25), (1, 37)], 25) := by decide +kernel
theorem dX6_cut_56 : decode cX6_cut 56 = .ok (.aload_n 0, 1) := by decide +kernel
theorem dX6_cut_57 : decode cX6_cut 57 = .ok (.getfield 49, 3) := by decide +kernel
theorem dX6_cut_60 : decode cX6_cut 60 = .ok (.iload_n 1, 1) := by decide +kernel
theorem dX6_cut_61 : decode cX6_cut 61 = .ok (.iload_n 2, 1) := by decide +kernel
theorem dX6_cut_62 : decode cX6_cut 62 = .ok (.iconst 1, 1) := by decide +kernel
theorem dX6_cut_63 : decode cX6_cut 63 = .ok (.iadd, 1) := by decide +kernel
theorem dX6_cut_64 : decode cX6_cut 64 = .ok (.invokevirtual 162, 3) := by decide +kernel
theorem dX6_cut_67 : decode cX6_cut 67 = .ok (.ireturn, 1) := by decide +kernel
theorem dX6_cut_68 : decode cX6_cut 68 = .ok (.aload_n 0, 1) := by decide +kernel
theorem dX6_cut_69 : decode cX6_cut 69 = .ok (.getfield 49, 3) := by decide +kernel
theorem dX6_cut_72 : decode cX6_cut 72 = .ok (.iload_n 1, 1) := by decide +kernel
theorem dX6_cut_73 : decode cX6_cut 73 = .ok (.iload_n 2, 1) := by decide +kernel
theorem dX6_cut_74 : decode cX6_cut 74 = .ok (.iconst 1, 1) := by decide +kernel
theorem dX6_cut_75 : decode cX6_cut 75 = .ok (.iadd, 1) := by decide +kernel
theorem dX6_cut_76 : decode cX6_cut 76 = .ok (.invokevirtual 162, 3) := by decide +kernel
theorem dX6_cut_79 : decode cX6_cut 79 = .ok (.aload_n 0, 1) := by decide +kernel
theorem dX6_cut_80 : decode cX6_cut 80 = .ok (.getfield 49, 3) := by decide +kernel
theorem dX6_cut_83 : decode cX6_cut 83 = .ok (.iload_n 1, 1) := by decide +kernel
theorem dX6_cut_84 : decode cX6_cut 84 = .ok (.iload_n 2, 1) := by decide +kernel
theorem dX6_cut_85 : decode cX6_cut 85 = .ok (.invokevirtual 162, 3) := by decide +kernel
theorem dX6_cut_88 : decode cX6_cut 88 = .ok (.isub, 1) := by decide +kernel
theorem dX6_cut_89 : decode cX6_cut 89 = .ok (.ireturn, 1) := by decide +kernel
theorem dX6_cut_90 : decode cX6_cut 90 = .ok (.iconst (-1), 1) := by decide +kernel
theorem dX6_cut_91 : decode cX6_cut 91 = .ok (.ireturn, 1) := by decide +kernel
set_option maxRecDepth 20000 in
theorem ggX6_whole_X4_has : GoodIn wsX6_whole wsX4_has := goodIn_r _ [8, 9, 16, 17, 18, 19, 20, 21, 22, 23, 24] (by decide +kernel) (by decide +kernel)
set_option maxRecDepth 20000 in
theorem gX6_whole_X4_has : GoodIn wsX6_whole (wsV RX6 157 RX4 yX4_has wsX4_has) := goodIn_app (goodIn_of _ (by decide +kernel)) ggX6_whole_X4_has
theorem dX6_whole_0 : decode cX6_whole 0 = .ok (.aload_n 0, 1) := by decide +kernel
theorem dX6_whole_1 : decode cX6_whole 1 = .ok (.getfield 49, 3) := by decide +kernel
theorem dX6_whole_4 : decode cX6_whole 4 = .ok (.iload_n 1, 1) := by decide +kernel
theorem dX6_whole_5 : decode cX6_whole 5 = .ok (.invokevirtual 157, 3) := by decide +kernel
theorem dX6_whole_8 : decode cX6_whole 8 = .ok (.ifCond .eq 31, 3) := by decide +kernel
theorem dX6_whole_11 : decode cX6_whole 11 = .ok (.aload_n 0, 1) := by decide +kernel
theorem dX6_whole_12 : decode cX6_whole 12 = .ok (.getfield 49, 3) := by decide +kernel
theorem dX6_whole_15 : decode cX6_whole 15 = .ok (.getfield 166, 3) := by decide +kernel
theorem dX6_whole_18 : decode cX6_whole 18 = .ok (.iload_n 1, 1) := by decide +kernel
theorem dX6_whole_19 : decode cX6_whole 19 = .ok (.iaload, 1) := by decide +kernel
theorem dX6_whole_20 : decode cX6_whole 20 = .ok (.aload_n 0, 1) := by decide +kernel
theorem dX6_whole_21 : decode cX6_whole 21 = .ok (.getfield 49, 3) := by decide +kernel
theorem dX6_whole_24 : decode cX6_whole 24 = .ok (.getfield 169, 3) := by decide +kernel
theorem dX6_whole_27 : decode cX6_whole 27 = .ok (.iload_n 1, 1) := by decide +kernel
theorem dX6_whole_28 : decode cX6_whole 28 = .ok (.iaload, 1) := by decide +kernel
theorem dX6_whole_29 : decode cX6_whole 29 = .ok (.isub, 1) := by decide +kernel
theorem dX6_whole_30 : decode cX6_whole 30 = .ok (.iconst 2, 1) := by decide +kernel
theorem dX6_whole_31 : decode cX6_whole 31 = .ok (.irem, 1) := by decide +kernel
theorem dX6_whole_32 : decode cX6_whole 32 = .ok (.ifCond .ne 7, 3) := by decide +kernel
theorem dX6_whole_35 : decode cX6_whole 35 = .ok (.iconst 1, 1) := by decide +kernel
theorem dX6_whole_36 : decode cX6_whole 36 = .ok (.goto 4, 3) := by decide +kernel
theorem dX6_whole_39 : decode cX6_whole 39 = .ok (.iconst 0, 1) := by decide +kernel
theorem dX6_whole_40 : decode cX6_whole 40 = .ok (.ireturn, 1) := by decide +kernel
set_option maxRecDepth 20000 in
theorem ggX6_edge_X4_has : GoodIn wsX6_edge wsX4_has := goodIn_r _ [12, 13, 20, 21, 22, 23, 24, 25, 26, 27, 28] (by decide +kernel) (by decide +kernel)
set_option maxRecDepth 20000 in
theorem gX6_edge_X4_has : GoodIn wsX6_edge (wsV RX6 157 RX4 yX4_has wsX4_has) := goodIn_app (goodIn_of _ (by decide +kernel)) ggX6_edge_X4_has
theorem dX6_edge_0 : decode cX6_edge 0 = .ok (.aload_n 0, 1) := by decide +kernel
theorem dX6_edge_1 : decode cX6_edge 1 = .ok (.getfield 49, 3) := by decide +kernel
theorem dX6_edge_4 : decode cX6_edge 4 = .ok (.iload_n 1, 1) := by decide +kernel
theorem dX6_edge_5 : decode cX6_edge 5 = .ok (.invokevirtual 157, 3) := by decide +kernel
theorem dX6_edge_8 : decode cX6_edge 8 = .ok (.ifCond .eq 14, 3) := by decide +kernel
theorem dX6_edge_11 : decode cX6_edge 11 = .ok (.aload_n 0, 1) := by decide +kernel
theorem dX6_edge_12 : decode cX6_edge 12 = .ok (.getfield 49, 3) := by decide +kernel
theorem dX6_edge_15 : decode cX6_edge 15 = .ok (.iload_n 2, 1) := by decide +kernel
theorem dX6_edge_16 : decode cX6_edge 16 = .ok (.invokevirtual 157, 3) := by decide +kernel
theorem dX6_edge_19 : decode cX6_edge 19 = .ok (.ifCond .ne 5, 3) := by decide +kernel
theorem dX6_edge_22 : decode cX6_edge 22 = .ok (.iconst (-1), 1) := by decide +kernel
theorem dX6_edge_23 : decode cX6_edge 23 = .ok (.ireturn, 1) := by decide +kernel
theorem dX6_edge_24 : decode cX6_edge 24 = .ok (.aload_n 0, 1) := by decide +kernel
theorem dX6_edge_25 : decode cX6_edge 25 = .ok (.getfield 49, 3) := by decide +kernel
theorem dX6_edge_28 : decode cX6_edge 28 = .ok (.getfield 166, 3) := by decide +kernel
theorem dX6_edge_31 : decode cX6_edge 31 = .ok (.iload_n 1, 1) := by decide +kernel
theorem dX6_edge_32 : decode cX6_edge 32 = .ok (.iaload, 1) := by decide +kernel
theorem dX6_edge_33 : decode cX6_edge 33 = .ok (.aload_n 0, 1) := by decide +kernel
theorem dX6_edge_34 : decode cX6_edge 34 = .ok (.getfield 49, 3) := by decide +kernel
theorem dX6_edge_37 : decode cX6_edge 37 = .ok (.getfield 169, 3) := by decide +kernel
theorem dX6_edge_40 : decode cX6_edge 40 = .ok (.iload_n 2, 1) := by decide +kernel
theorem dX6_edge_41 : decode cX6_edge 41 = .ok (.iaload, 1) := by decide +kernel
theorem dX6_edge_42 : decode cX6_edge 42 = .ok (.invokestatic 172, 3) := by decide +kernel
theorem dX6_edge_45 : decode cX6_edge 45 = .ok (.ireturn, 1) := by decide +kernel
set_option maxRecDepth 20000 in
theorem ggX6_foul_X6_within : GoodIn wsX6_foul wsX6_within := goodIn_r _ [7] (by decide +kernel) (by decide +kernel)
set_option maxRecDepth 20000 in
theorem gX6_foul_X6_within : GoodIn wsX6_foul (va_wsS RX6 74 yX6_within wsX6_within) := goodIn_app (goodIn_of _ (by decide +kernel)) ggX6_foul_X6_within
theorem dX6_foul_0 : decode cX6_foul 0 = .ok (.dload_n 1, 1) := by decide +kernel
theorem dX6_foul_1 : decode cX6_foul 1 = .ok (.dconst 0, 1) := by decide +kernel
theorem dX6_foul_2 : decode cX6_foul 2 = .ok (.ldc2_w 177, 3) := by decide +kernel
theorem dX6_foul_5 : decode cX6_foul 5 = .ok (.invokestatic 74, 3) := by decide +kernel
theorem dX6_foul_8 : decode cX6_foul 8 = .ok (.ifCond .ne 5, 3) := by decide +kernel
theorem dX6_foul_11 : decode cX6_foul 11 = .ok (.iconst 0, 1) := by decide +kernel
theorem dX6_foul_12 : decode cX6_foul 12 = .ok (.ireturn, 1) := by decide +kernel
theorem dX6_foul_13 : decode cX6_foul 13 = .ok (.aload_n 0, 1) := by decide +kernel
theorem dX6_foul_14 : decode cX6_foul 14 = .ok (.getfield 26, 3) := by decide +kernel
theorem dX6_foul_17 : decode cX6_foul 17 = .ok (.dload_n 1, 1) := by decide +kernel
theorem dX6_foul_18 : decode cX6_foul 18 = .ok (.putfield 179, 3) := by decide +kernel
theorem dX6_foul_21 : decode cX6_foul 21 = .ok (.iconst 1, 1) := by decide +kernel
theorem dX6_foul_22 : decode cX6_foul 22 = .ok (.ireturn, 1) := by decide +kernel
set_option maxRecDepth 20000 in
theorem ggX6_wave_X6_within : GoodIn wsX6_wave wsX6_within := goodIn_r _ [10] (by decide +kernel) (by decide +kernel)
set_option maxRecDepth 20000 in
theorem gX6_wave_X6_within : GoodIn wsX6_wave (va_wsS RX6 74 yX6_within wsX6_within) := goodIn_app (goodIn_of _ (by decide +kernel)) ggX6_wave_X6_within
theorem dX6_wave_0 : decode cX6_wave 0 = .ok (.dload_n 1, 1) := by decide +kernel
theorem dX6_wave_1 : decode cX6_wave 1 = .ok (.dconst 0, 1) := by decide +kernel
theorem dX6_wave_2 : decode cX6_wave 2 = .ok (.ldc2_w 182, 3) := by decide +kernel
theorem dX6_wave_5 : decode cX6_wave 5 = .ok (.invokestatic 74, 3) := by decide +kernel
theorem dX6_wave_8 : decode cX6_wave 8 = .ok (.ifCond .eq 26, 3) := by decide +kernel
theorem dX6_wave_11 : decode cX6_wave 11 = .ok (.dload_n 3, 1) := by decide +kernel
theorem dX6_wave_12 : decode cX6_wave 12 = .ok (.dconst 1, 1) := by decide +kernel
theorem dX6_wave_13 : decode cX6_wave 13 = .ok (.ldc2_w 184, 3) := by decide +kernel
theorem dX6_wave_16 : decode cX6_wave 16 = .ok (.invokestatic 74, 3) := by decide +kernel
theorem dX6_wave_19 : decode cX6_wave 19 = .ok (.ifCond .eq 15, 3) := by decide +kernel
theorem dX6_wave_22 : decode cX6_wave 22 = .ok (.iload 5, 2) := by decide +kernel
theorem dX6_wave_24 : decode cX6_wave 24 = .ok (.ifCond .lt 10, 3) := by decide +kernel
theorem dX6_wave_27 : decode cX6_wave 27 = .ok (.iload 5, 2) := by decide +kernel
theorem dX6_wave_29 : decode cX6_wave 29 = .ok (.bipush 100, 2) := by decide +kernel
theorem dX6_wave_31 : decode cX6_wave 31 = .ok (.if_icmp .le 5, 3) := by decide +kernel
theorem dX6_wave_34 : decode cX6_wave 34 = .ok (.iconst (-1), 1) := by decide +kernel
theorem dX6_wave_35 : decode cX6_wave 35 = .ok (.ireturn, 1) := by decide +kernel
theorem dX6_wave_36 : decode cX6_wave 36 = .ok (.aload_n 0, 1) := by decide +kernel
theorem dX6_wave_37 : decode cX6_wave 37 = .ok (.getfield 26, 3) := by decide +kernel
theorem dX6_wave_40 : decode cX6_wave 40 = .ok (.dload_n 1, 1) := by decide +kernel
theorem dX6_wave_41 : decode cX6_wave 41 = .ok (.dload_n 3, 1) := by decide +kernel
theorem dX6_wave_42 : decode cX6_wave 42 = .ok (.dconst 1, 1) := by decide +kernel
theorem dX6_wave_43 : decode cX6_wave 43 = .ok (.dadd, 1) := by decide +kernel
theorem dX6_wave_44 : decode cX6_wave 44 = .ok (.ddiv, 1) := by decide +kernel
theorem dX6_wave_45 : decode cX6_wave 45 = .ok (.iload 5, 2) := by decide +kernel
theorem dX6_wave_47 : decode cX6_wave 47 = .ok (.i2d, 1) := by decide +kernel
theorem dX6_wave_48 : decode cX6_wave 48 = .ok (.dmul, 1) := by decide +kernel
theorem dX6_wave_49 : decode cX6_wave 49 = .ok (.ldc2_w 186, 3) := by decide +kernel
theorem dX6_wave_52 : decode cX6_wave 52 = .ok (.ddiv, 1) := by decide +kernel
theorem dX6_wave_53 : decode cX6_wave 53 = .ok (.putfield 188, 3) := by decide +kernel
theorem dX6_wave_56 : decode cX6_wave 56 = .ok (.aload_n 0, 1) := by decide +kernel
theorem dX6_wave_57 : decode cX6_wave 57 = .ok (.getfield 26, 3) := by decide +kernel
theorem dX6_wave_60 : decode cX6_wave 60 = .ok (.getfield 191, 3) := by decide +kernel
theorem dX6_wave_63 : decode cX6_wave 63 = .ok (.ireturn, 1) := by decide +kernel
set_option maxRecDepth 20000 in
theorem ggX6_mirrored_X3_hasMirrorImage : GoodIn wsX6_mirrored wsX3_hasMirrorImage := goodIn_r _ [7, 8, 9, 16, 17, 18, 19, 20, 21] (by decide +kernel) (by decide +kernel)
set_option maxRecDepth 20000 in
theorem gX6_mirrored_X3_hasMirrorImage : GoodIn wsX6_mirrored (wsV RX6 192 RX3 yX3_hasMirrorImage wsX3_hasMirrorImage) := goodIn_app (goodIn_of _ (by decide +kernel)) ggX6_mirrored_X3_hasMirrorImage
theorem dX6_mirrored_0 : decode cX6_mirrored 0 = .ok (.iconst 0, 1) := by decide +kernel
theorem dX6_mirrored_1 : decode cX6_mirrored 1 = .ok (.istore_n 1, 1) := by decide +kernel
theorem dX6_mirrored_2 : decode cX6_mirrored 2 = .ok (.iload_n 1, 1) := by decide +kernel
theorem dX6_mirrored_3 : decode cX6_mirrored 3 = .ok (.aload_n 0, 1) := by decide +kernel
theorem dX6_mirrored_4 : decode cX6_mirrored 4 = .ok (.getfield 10, 3) := by decide +kernel
theorem dX6_mirrored_7 : decode cX6_mirrored 7 = .ok (.getfield 53, 3) := by decide +kernel
theorem dX6_mirrored_10 : decode cX6_mirrored 10 = .ok (.if_icmp .ge 22, 3) := by decide +kernel
theorem dX6_mirrored_13 : decode cX6_mirrored 13 = .ok (.aload_n 0, 1) := by decide +kernel
theorem dX6_mirrored_14 : decode cX6_mirrored 14 = .ok (.getfield 10, 3) := by decide +kernel
theorem dX6_mirrored_17 : decode cX6_mirrored 17 = .ok (.iload_n 1, 1) := by decide +kernel
theorem dX6_mirrored_18 : decode cX6_mirrored 18 = .ok (.invokevirtual 192, 3) := by decide +kernel
theorem dX6_mirrored_21 : decode cX6_mirrored 21 = .ok (.ifCond .ne 5, 3) := by decide +kernel
theorem dX6_mirrored_24 : decode cX6_mirrored 24 = .ok (.iconst 0, 1) := by decide +kernel
theorem dX6_mirrored_25 : decode cX6_mirrored 25 = .ok (.ireturn, 1) := by decide +kernel
theorem dX6_mirrored_26 : decode cX6_mirrored 26 = .ok (.iinc 1 1, 3) := by decide +kernel
theorem dX6_mirrored_29 : decode cX6_mirrored 29 = .ok (.goto (-27), 3) := by decide +kernel
theorem dX6_mirrored_32 : decode cX6_mirrored 32 = .ok (.iconst 1, 1) := by decide +kernel
theorem dX6_mirrored_33 : decode cX6_mirrored 33 = .ok (.ireturn, 1) := by decide +kernel
set_option maxRecDepth 20000 in
theorem ggX6_best_X2_leastOfLatest : GoodIn wsX6_best wsX2_leastOfLatest := goodIn_r _ [6, 7, 8, 9, 10, 5, 11, 12, 13, 14, 15, 16, 17, 24, 25, 26] (by decide +kernel) (by decide +kernel)
set_option maxRecDepth 20000 in
theorem gX6_best_X2_leastOfLatest : GoodIn wsX6_best (wsV RX6 195 RX2 yX2_leastOfLatest wsX2_leastOfLatest) := goodIn_app (goodIn_of _ (by decide +kernel)) ggX6_best_X2_leastOfLatest
theorem dX6_best_0 : decode cX6_best 0 = .ok (.iload_n 1, 1) := by decide +kernel
theorem dX6_best_1 : decode cX6_best 1 = .ok (.iconst 1, 1) := by decide +kernel
theorem dX6_best_2 : decode cX6_best 2 = .ok (.if_icmp .lt 9, 3) := by decide +kernel
theorem dX6_best_5 : decode cX6_best 5 = .ok (.iload_n 1, 1) := by decide +kernel
theorem dX6_best_6 : decode cX6_best 6 = .ok (.bipush 20, 2) := by decide +kernel
theorem dX6_best_8 : decode cX6_best 8 = .ok (.if_icmp .le 5, 3) := by decide +kernel
theorem dX6_best_11 : decode cX6_best 11 = .ok (.iconst (-1), 1) := by decide +kernel
theorem dX6_best_12 : decode cX6_best 12 = .ok (.ireturn, 1) := by decide +kernel
theorem dX6_best_13 : decode cX6_best 13 = .ok (.aload_n 0, 1) := by decide +kernel
theorem dX6_best_14 : decode cX6_best 14 = .ok (.getfield 42, 3) := by decide +kernel
theorem dX6_best_17 : decode cX6_best 17 = .ok (.iload_n 1, 1) := by decide +kernel
theorem dX6_best_18 : decode cX6_best 18 = .ok (.invokevirtual 195, 3) := by decide +kernel
theorem dX6_best_21 : decode cX6_best 21 = .ok (.ireturn, 1) := by decide +kernel
set_option maxRecDepth 20000 in
theorem ggX6_sheet_X4_has : GoodIn wsX6_sheet wsX4_has := goodIn_r _ [8, 9, 16, 17, 18, 19, 20, 21, 22, 23, 24] (by decide +kernel) (by decide +kernel)
set_option maxRecDepth 20000 in
theorem gX6_sheet_X4_has : GoodIn wsX6_sheet (wsV RX6 157 RX4 yX4_has wsX4_has) := goodIn_app (goodIn_of _ (by decide +kernel)) ggX6_sheet_X4_has
theorem dX6_sheet_0 : decode cX6_sheet 0 = .ok (.aload_n 0, 1) := by decide +kernel
theorem dX6_sheet_1 : decode cX6_sheet 1 = .ok (.getfield 49, 3) := by decide +kernel
theorem dX6_sheet_4 : decode cX6_sheet 4 = .ok (.iload_n 1, 1) := by decide +kernel
theorem dX6_sheet_5 : decode cX6_sheet 5 = .ok (.invokevirtual 157, 3) := by decide +kernel
theorem dX6_sheet_8 : decode cX6_sheet 8 = .ok (.ifCond .ne 5, 3) := by decide +kernel
theorem dX6_sheet_11 : decode cX6_sheet 11 = .ok (.iconst (-1), 1) := by decide +kernel
theorem dX6_sheet_12 : decode cX6_sheet 12 = .ok (.ireturn, 1) := by decide +kernel
theorem dX6_sheet_13 : decode cX6_sheet 13 = .ok (.iload_n 2, 1) := by decide +kernel
theorem dX6_sheet_14 : decode cX6_sheet 14 = .ok (.lookupswitch 46 #[(0, 26), (1, 36)], 26) := by decide +kernel
theorem dX6_sheet_40 : decode cX6_sheet 40 = .ok (.aload_n 0, 1) := by decide +kernel
theorem dX6_sheet_41 : decode cX6_sheet 41 = .ok (.getfield 49, 3) := by decide +kernel
theorem dX6_sheet_44 : decode cX6_sheet 44 = .ok (.getfield 198, 3) := by decide +kernel
theorem dX6_sheet_47 : decode cX6_sheet 47 = .ok (.iload_n 1, 1) := by decide +kernel
theorem dX6_sheet_48 : decode cX6_sheet 48 = .ok (.iaload, 1) := by decide +kernel
theorem dX6_sheet_49 : decode cX6_sheet 49 = .ok (.ireturn, 1) := by decide +kernel
theorem dX6_sheet_50 : decode cX6_sheet 50 = .ok (.aload_n 0, 1) := by decide +kernel
theorem dX6_sheet_51 : decode cX6_sheet 51 = .ok (.getfield 49, 3) := by decide +kernel
theorem dX6_sheet_54 : decode cX6_sheet 54 = .ok (.getfield 201, 3) := by decide +kernel
theorem dX6_sheet_57 : decode cX6_sheet 57 = .ok (.iload_n 1, 1) := by decide +kernel
theorem dX6_sheet_58 : decode cX6_sheet 58 = .ok (.iaload, 1) := by decide +kernel
theorem dX6_sheet_59 : decode cX6_sheet 59 = .ok (.ireturn, 1) := by decide +kernel
theorem dX6_sheet_60 : decode cX6_sheet 60 = .ok (.iconst (-1), 1) := by decide +kernel
theorem dX6_sheet_61 : decode cX6_sheet 61 = .ok (.ireturn, 1) := by decide +kernel
theorem dX6_within_0 : decode cX6_within 0 = .ok (.dload_n 0, 1) := by decide +kernel
theorem dX6_within_1 : decode cX6_within 1 = .ok (.dload_n 2, 1) := by decide +kernel
theorem dX6_within_2 : decode cX6_within 2 = .ok (.dcmp .l, 1) := by decide +kernel
theorem dX6_within_3 : decode cX6_within 3 = .ok (.ifCond .lt 14, 3) := by decide +kernel
theorem dX6_within_6 : decode cX6_within 6 = .ok (.dload_n 0, 1) := by decide +kernel
theorem dX6_within_7 : decode cX6_within 7 = .ok (.dload 4, 2) := by decide +kernel
theorem dX6_within_9 : decode cX6_within 9 = .ok (.dcmp .g, 1) := by decide +kernel
theorem dX6_within_10 : decode cX6_within 10 = .ok (.ifCond .gt 7, 3) := by decide +kernel
theorem dX6_within_13 : decode cX6_within 13 = .ok (.iconst 1, 1) := by decide +kernel
theorem dX6_within_14 : decode cX6_within 14 = .ok (.goto 4, 3) := by decide +kernel
theorem dX6_within_17 : decode cX6_within 17 = .ok (.iconst 0, 1) := by decide +kernel
theorem dX6_within_18 : decode cX6_within 18 = .ok (.ireturn, 1) := by decide +kernel
set_option maxRecDepth 20000 in
theorem ggX6_isPlace_X6_within : GoodIn wsX6_isPlace wsX6_within := goodIn_r _ [6] (by decide +kernel) (by decide +kernel)
set_option maxRecDepth 20000 in
theorem gX6_isPlace_X6_within : GoodIn wsX6_isPlace (va_wsS RX6 74 yX6_within wsX6_within) := goodIn_app (goodIn_of _ (by decide +kernel)) ggX6_isPlace_X6_within
theorem dX6_isPlace_0 : decode cX6_isPlace 0 = .ok (.dload_n 0, 1) := by decide +kernel
theorem dX6_isPlace_1 : decode cX6_isPlace 1 = .ok (.ldc2_w 204, 3) := by decide +kernel
theorem dX6_isPlace_4 : decode cX6_isPlace 4 = .ok (.ldc2_w 72, 3) := by decide +kernel
theorem dX6_isPlace_7 : decode cX6_isPlace 7 = .ok (.invokestatic 74, 3) := by decide +kernel
theorem dX6_isPlace_10 : decode cX6_isPlace 10 = .ok (.ireturn, 1) := by decide +kernel
theorem dX6_isAxis_0 : decode cX6_isAxis 0 = .ok (.iload_n 0, 1) := by decide +kernel
theorem dX6_isAxis_1 : decode cX6_isAxis 1 = .ok (.ifCond .lt 12, 3) := by decide +kernel
theorem dX6_isAxis_4 : decode cX6_isAxis 4 = .ok (.iload_n 0, 1) := by decide +kernel
theorem dX6_isAxis_5 : decode cX6_isAxis 5 = .ok (.iconst 3, 1) := by decide +kernel
theorem dX6_isAxis_6 : decode cX6_isAxis 6 = .ok (.if_icmp .ge 7, 3) := by decide +kernel
theorem dX6_isAxis_9 : decode cX6_isAxis 9 = .ok (.iconst 1, 1) := by decide +kernel
theorem dX6_isAxis_10 : decode cX6_isAxis 10 = .ok (.goto 4, 3) := by decide +kernel
theorem dX6_isAxis_13 : decode cX6_isAxis 13 = .ok (.iconst 0, 1) := by decide +kernel
theorem dX6_isAxis_14 : decode cX6_isAxis 14 = .ok (.ireturn, 1) := by decide +kernel
theorem dX6_isPanelWidth_0 : decode cX6_isPanelWidth 0 = .ok (.iload_n 0, 1) := by decide +kernel
theorem dX6_isPanelWidth_1 : decode cX6_isPanelWidth 1 = .ok (.iconst 1, 1) := by decide +kernel
theorem dX6_isPanelWidth_2 : decode cX6_isPanelWidth 2 = .ok (.if_icmp .lt 14, 3) := by decide +kernel
theorem dX6_isPanelWidth_5 : decode cX6_isPanelWidth 5 = .ok (.iload_n 0, 1) := by decide +kernel
theorem dX6_isPanelWidth_6 : decode cX6_isPanelWidth 6 = .ok (.sipush 400, 3) := by decide +kernel
theorem dX6_isPanelWidth_9 : decode cX6_isPanelWidth 9 = .ok (.if_icmp .gt 7, 3) := by decide +kernel
theorem dX6_isPanelWidth_12 : decode cX6_isPanelWidth 12 = .ok (.iconst 1, 1) := by decide +kernel
theorem dX6_isPanelWidth_13 : decode cX6_isPanelWidth 13 = .ok (.goto 4, 3) := by decide +kernel
theorem dX6_isPanelWidth_16 : decode cX6_isPanelWidth 16 = .ok (.iconst 0, 1) := by decide +kernel
theorem dX6_isPanelWidth_17 : decode cX6_isPanelWidth 17 = .ok (.ireturn, 1) := by decide +kernel
theorem dX6_eighthOfTurn_0 : decode cX6_eighthOfTurn 0 = .ok (.iconst 0, 1) := by decide +kernel
theorem dX6_eighthOfTurn_1 : decode cX6_eighthOfTurn 1 = .ok (.istore_n 2, 1) := by decide +kernel
theorem dX6_eighthOfTurn_2 : decode cX6_eighthOfTurn 2 = .ok (.iload_n 2, 1) := by decide +kernel
theorem dX6_eighthOfTurn_3 : decode cX6_eighthOfTurn 3 = .ok (.bipush 8, 2) := by decide +kernel
theorem dX6_eighthOfTurn_5 : decode cX6_eighthOfTurn 5 = .ok (.if_icmp .ge 21, 3) := by decide +kernel
theorem dX6_eighthOfTurn_8 : decode cX6_eighthOfTurn 8 = .ok (.dload_n 0, 1) := by decide +kernel
theorem dX6_eighthOfTurn_9 : decode cX6_eighthOfTurn 9 = .ok (.bipush 45, 2) := by decide +kernel
theorem dX6_eighthOfTurn_11 : decode cX6_eighthOfTurn 11 = .ok (.iload_n 2, 1) := by decide +kernel
theorem dX6_eighthOfTurn_12 : decode cX6_eighthOfTurn 12 = .ok (.imul, 1) := by decide +kernel
theorem dX6_eighthOfTurn_13 : decode cX6_eighthOfTurn 13 = .ok (.i2d, 1) := by decide +kernel
theorem dX6_eighthOfTurn_14 : decode cX6_eighthOfTurn 14 = .ok (.dcmp .l, 1) := by decide +kernel
theorem dX6_eighthOfTurn_15 : decode cX6_eighthOfTurn 15 = .ok (.ifCond .ne 5, 3) := by decide +kernel
theorem dX6_eighthOfTurn_18 : decode cX6_eighthOfTurn 18 = .ok (.iload_n 2, 1) := by decide +kernel
theorem dX6_eighthOfTurn_19 : decode cX6_eighthOfTurn 19 = .ok (.ireturn, 1) := by decide +kernel
theorem dX6_eighthOfTurn_20 : decode cX6_eighthOfTurn 20 = .ok (.iinc 2 1, 3) := by decide +kernel
theorem dX6_eighthOfTurn_23 : decode cX6_eighthOfTurn 23 = .ok (.goto (-21), 3) := by decide +kernel
theorem dX6_eighthOfTurn_26 : decode cX6_eighthOfTurn 26 = .ok (.iconst (-1), 1) := by decide +kernel
theorem dX6_eighthOfTurn_27 : decode cX6_eighthOfTurn 27 = .ok (.ireturn, 1) := by decide +kernel
theorem dX6_partTowardsX_0 : decode cX6_partTowardsX 0 = .ok (.dload_n 0, 1) := by decide +kernel
theorem dX6_partTowardsX_1 : decode cX6_partTowardsX 1 = .ok (.ldc2_w 206, 3) := by decide +kernel
theorem dX6_partTowardsX_4 : decode cX6_partTowardsX 4 = .ok (.dmul, 1) := by decide +kernel
theorem dX6_partTowardsX_5 : decode cX6_partTowardsX 5 = .ok (.dstore_n 3, 1) := by decide +kernel
theorem dX6_partTowardsX_6 : decode cX6_partTowardsX 6 = .ok (.iload_n 2, 1) := by decide +kernel
theorem dX6_partTowardsX_7 : decode cX6_partTowardsX 7 = .ok (.tableswitch 57 0 7 #[45, 47, 57, 49, 53, 49, 57, 47], 45) := by decide +kernel
theorem dX6_partTowardsX_52 : decode cX6_partTowardsX 52 = .ok (.dload_n 0, 1) := by decide +kernel
theorem dX6_partTowardsX_53 : decode cX6_partTowardsX 53 = .ok (.dreturn, 1) := by decide +kernel
theorem dX6_partTowardsX_54 : decode cX6_partTowardsX 54 = .ok (.dload_n 3, 1) := by decide +kernel
theorem dX6_partTowardsX_55 : decode cX6_partTowardsX 55 = .ok (.dreturn, 1) := by decide +kernel
theorem dX6_partTowardsX_56 : decode cX6_partTowardsX 56 = .ok (.dconst 0, 1) := by decide +kernel
theorem dX6_partTowardsX_57 : decode cX6_partTowardsX 57 = .ok (.dload_n 3, 1) := by decide +kernel
theorem dX6_partTowardsX_58 : decode cX6_partTowardsX 58 = .ok (.dsub, 1) := by decide +kernel
theorem dX6_partTowardsX_59 : decode cX6_partTowardsX 59 = .ok (.dreturn, 1) := by decide +kernel
theorem dX6_partTowardsX_60 : decode cX6_partTowardsX 60 = .ok (.dconst 0, 1) := by decide +kernel
theorem dX6_partTowardsX_61 : decode cX6_partTowardsX 61 = .ok (.dload_n 0, 1) := by decide +kernel
theorem dX6_partTowardsX_62 : decode cX6_partTowardsX 62 = .ok (.dsub, 1) := by decide +kernel
theorem dX6_partTowardsX_63 : decode cX6_partTowardsX 63 = .ok (.dreturn, 1) := by decide +kernel
theorem dX6_partTowardsX_64 : decode cX6_partTowardsX 64 = .ok (.dconst 0, 1) := by decide +kernel
theorem dX6_partTowardsX_65 : decode cX6_partTowardsX 65 = .ok (.dreturn, 1) := by decide +kernel
theorem dX6_size_0 : decode cX6_size 0 = .ok (.dload_n 0, 1) := by decide +kernel
theorem dX6_size_1 : decode cX6_size 1 = .ok (.dconst 0, 1) := by decide +kernel
theorem dX6_size_2 : decode cX6_size 2 = .ok (.dcmp .g, 1) := by decide +kernel
theorem dX6_size_3 : decode cX6_size 3 = .ok (.ifCond .ge 8, 3) := by decide +kernel
theorem dX6_size_6 : decode cX6_size 6 = .ok (.dload_n 0, 1) := by decide +kernel
theorem dX6_size_7 : decode cX6_size 7 = .ok (.dneg, 1) := by decide +kernel
theorem dX6_size_8 : decode cX6_size 8 = .ok (.goto 4, 3) := by decide +kernel
theorem dX6_size_11 : decode cX6_size 11 = .ok (.dload_n 0, 1) := by decide +kernel
theorem dX6_size_12 : decode cX6_size 12 = .ok (.dreturn, 1) := by decide +kernel
theorem dX6_root_0 : decode cX6_root 0 = .ok (.dload_n 0, 1) := by decide +kernel
theorem dX6_root_1 : decode cX6_root 1 = .ok (.dconst 0, 1) := by decide +kernel
theorem dX6_root_2 : decode cX6_root 2 = .ok (.dcmp .l, 1) := by decide +kernel
theorem dX6_root_3 : decode cX6_root 3 = .ok (.ifCond .gt 5, 3) := by decide +kernel
theorem dX6_root_6 : decode cX6_root 6 = .ok (.dconst 0, 1) := by decide +kernel
theorem dX6_root_7 : decode cX6_root 7 = .ok (.dreturn, 1) := by decide +kernel
theorem dX6_root_8 : decode cX6_root 8 = .ok (.ldc2_w 208, 3) := by decide +kernel
theorem dX6_root_11 : decode cX6_root 11 = .ok (.dload_n 0, 1) := by decide +kernel
theorem dX6_root_12 : decode cX6_root 12 = .ok (.dconst 1, 1) := by decide +kernel
theorem dX6_root_13 : decode cX6_root 13 = .ok (.dadd, 1) := by decide +kernel
theorem dX6_root_14 : decode cX6_root 14 = .ok (.dmul, 1) := by decide +kernel
theorem dX6_root_15 : decode cX6_root 15 = .ok (.dstore_n 2, 1) := by decide +kernel
theorem dX6_root_16 : decode cX6_root 16 = .ok (.iconst 0, 1) := by decide +kernel
theorem dX6_root_17 : decode cX6_root 17 = .ok (.istore 4, 2) := by decide +kernel
theorem dX6_root_19 : decode cX6_root 19 = .ok (.iload 4, 2) := by decide +kernel
theorem dX6_root_21 : decode cX6_root 21 = .ok (.bipush 30, 2) := by decide +kernel
theorem dX6_root_23 : decode cX6_root 23 = .ok (.if_icmp .ge 32, 3) := by decide +kernel
theorem dX6_root_26 : decode cX6_root 26 = .ok (.ldc2_w 208, 3) := by decide +kernel
theorem dX6_root_29 : decode cX6_root 29 = .ok (.dload_n 2, 1) := by decide +kernel
theorem dX6_root_30 : decode cX6_root 30 = .ok (.dload_n 0, 1) := by decide +kernel
theorem dX6_root_31 : decode cX6_root 31 = .ok (.dload_n 2, 1) := by decide +kernel
theorem dX6_root_32 : decode cX6_root 32 = .ok (.ddiv, 1) := by decide +kernel
theorem dX6_root_33 : decode cX6_root 33 = .ok (.dadd, 1) := by decide +kernel
theorem dX6_root_34 : decode cX6_root 34 = .ok (.dmul, 1) := by decide +kernel
theorem dX6_root_35 : decode cX6_root 35 = .ok (.dstore 5, 2) := by decide +kernel
theorem dX6_root_37 : decode cX6_root 37 = .ok (.dload 5, 2) := by decide +kernel
theorem dX6_root_39 : decode cX6_root 39 = .ok (.dload_n 2, 1) := by decide +kernel
theorem dX6_root_40 : decode cX6_root 40 = .ok (.dcmp .l, 1) := by decide +kernel
theorem dX6_root_41 : decode cX6_root 41 = .ok (.ifCond .ne 5, 3) := by decide +kernel
theorem dX6_root_44 : decode cX6_root 44 = .ok (.dload_n 2, 1) := by decide +kernel
theorem dX6_root_45 : decode cX6_root 45 = .ok (.dreturn, 1) := by decide +kernel
theorem dX6_root_46 : decode cX6_root 46 = .ok (.dload 5, 2) := by decide +kernel
theorem dX6_root_48 : decode cX6_root 48 = .ok (.dstore_n 2, 1) := by decide +kernel
theorem dX6_root_49 : decode cX6_root 49 = .ok (.iinc 4 1, 3) := by decide +kernel
theorem dX6_root_52 : decode cX6_root 52 = .ok (.goto (-33), 3) := by decide +kernel
theorem dX6_root_55 : decode cX6_root 55 = .ok (.dload_n 2, 1) := by decide +kernel
theorem dX6_root_56 : decode cX6_root 56 = .ok (.dreturn, 1) := by decide +kernel
end
section
theorem dX7_init_0 : decode cX7_init 0 = .ok (.aload_n 0, 1) := by decide +kernel
theorem dX7_init_1 : decode cX7_init 1 = .ok (.invokespecial 1, 3) := by decide +kernel
theorem dX7_init_4 : decode cX7_init 4 = .ok (.aload_n 0, 1) := by decide +kernel
theorem dX7_init_5 : decode cX7_init 5 = .ok (.bipush 30, 2) := by decide +kernel
theorem dX7_init_7 : decode cX7_init 7 = .ok (.newarray .double, 2) := by decide +kernel
theorem dX7_init_9 : decode cX7_init 9 = .ok (.putfield 7, 3) := by decide +kernel
theorem dX7_init_12 : decode cX7_init 12 = .ok (.aload_n 0, 1) := by decide +kernel
theorem dX7_init_13 : decode cX7_init 13 = .ok (.bipush 30, 2) := by decide +kernel
theorem dX7_init_15 : decode cX7_init 15 = .ok (.newarray .double, 2) := by decide +kernel
theorem dX7_init_17 : decode cX7_init 17 = .ok (.putfield 13, 3) := by decide +kernel
theorem dX7_init_20 : decode cX7_init 20 = .ok (.aload_n 0, 1) := by decide +kernel
theorem dX7_init_21 : decode cX7_init 21 = .ok (.bipush 30, 2) := by decide +kernel
theorem dX7_init_23 : decode cX7_init 23 = .ok (.newarray .double, 2) := by decide +kernel
theorem dX7_init_25 : decode cX7_init 25 = .ok (.putfield 16, 3) := by decide +kernel
theorem dX7_init_28 : decode cX7_init 28 = .ok (.aload_n 0, 1) := by decide +kernel
theorem dX7_init_29 : decode cX7_init 29 = .ok (.bipush 30, 2) := by decide +kernel
theorem dX7_init_31 : decode cX7_init 31 = .ok (.newarray .double, 2) := by decide +kernel
theorem dX7_init_33 : decode cX7_init 33 = .ok (.putfield 19, 3) := by decide +kernel
theorem dX7_init_36 : decode cX7_init 36 = .ok (.aload_n 0, 1) := by decide +kernel
theorem dX7_init_37 : decode cX7_init 37 = .ok (.bipush 30, 2) := by decide +kernel
theorem dX7_init_39 : decode cX7_init 39 = .ok (.newarray .double, 2) := by decide +kernel
theorem dX7_init_41 : decode cX7_init 41 = .ok (.putfield 22, 3) := by decide +kernel
theorem dX7_init_44 : decode cX7_init 44 = .ok (.aload_n 0, 1) := by decide +kernel
theorem dX7_init_45 : decode cX7_init 45 = .ok (.bipush 30, 2) := by decide +kernel
theorem dX7_init_47 : decode cX7_init 47 = .ok (.newarray .boolean, 2) := by decide +kernel
theorem dX7_init_49 : decode cX7_init 49 = .ok (.putfield 25, 3) := by decide +kernel
theorem dX7_init_52 : decode cX7_init 52 = .ok (.aload_n 0, 1) := by decide +kernel
theorem dX7_init_53 : decode cX7_init 53 = .ok (.bipush 30, 2) := by decide +kernel
theorem dX7_init_55 : decode cX7_init 55 = .ok (.newarray .double, 2) := by decide +kernel
theorem dX7_init_57 : decode cX7_init 57 = .ok (.putfield 29, 3) := by decide +kernel
theorem dX7_init_60 : decode cX7_init 60 = .ok (.aload_n 0, 1) := by decide +kernel
theorem dX7_init_61 : decode cX7_init 61 = .ok (.bipush 30, 2) := by decide +kernel
theorem dX7_init_63 : decode cX7_init 63 = .ok (.newarray .double, 2) := by decide +kernel
theorem dX7_init_65 : decode cX7_init 65 = .ok (.putfield 32, 3) := by decide +kernel
theorem dX7_init_68 : decode cX7_init 68 = .ok (.aload_n 0, 1) := by decide +kernel
theorem dX7_init_69 : decode cX7_init 69 = .ok (.bipush 30, 2) := by decide +kernel
theorem dX7_init_71 : decode cX7_init 71 = .ok (.newarray .double, 2) := by decide +kernel
theorem dX7_init_73 : decode cX7_init 73 = .ok (.putfield 35, 3) := by decide +kernel
theorem dX7_init_76 : decode cX7_init 76 = .ok (.aload_n 0, 1) := by decide +kernel
theorem dX7_init_77 : decode cX7_init 77 = .ok (.bipush 60, 2) := by decide +kernel
theorem dX7_init_79 : decode cX7_init 79 = .ok (.newarray .int, 2) := by decide +kernel
theorem dX7_init_81 : decode cX7_init 81 = .ok (.putfield 38, 3) := by decide +kernel
theorem dX7_init_84 : decode cX7_init 84 = .ok (.aload_n 0, 1) := by decide +kernel
theorem dX7_init_85 : decode cX7_init 85 = .ok (.bipush 60, 2) := by decide +kernel
theorem dX7_init_87 : decode cX7_init 87 = .ok (.newarray .int, 2) := by decide +kernel
theorem dX7_init_89 : decode cX7_init 89 = .ok (.putfield 42, 3) := by decide +kernel
theorem dX7_init_92 : decode cX7_init 92 = .ok (.aload_n 0, 1) := by decide +kernel
theorem dX7_init_93 : decode cX7_init 93 = .ok (.bipush 60, 2) := by decide +kernel
theorem dX7_init_95 : decode cX7_init 95 = .ok (.newarray .double, 2) := by decide +kernel
theorem dX7_init_97 : decode cX7_init 97 = .ok (.putfield 45, 3) := by decide +kernel
theorem dX7_init_100 : decode cX7_init 100 = .ok (.aload_n 0, 1) := by decide +kernel
theorem dX7_init_101 : decode cX7_init 101 = .ok (.bipush 60, 2) := by decide +kernel
theorem dX7_init_103 : decode cX7_init 103 = .ok (.newarray .double, 2) := by decide +kernel
theorem dX7_init_105 : decode cX7_init 105 = .ok (.putfield 48, 3) := by decide +kernel
theorem dX7_init_108 : decode cX7_init 108 = .ok (.aload_n 0, 1) := by decide +kernel
theorem dX7_init_109 : decode cX7_init 109 = .ok (.bipush 60, 2) := by decide +kernel
theorem dX7_init_111 : decode cX7_init 111 = .ok (.newarray .double, 2) := by decide +kernel
theorem dX7_init_113 : decode cX7_init 113 = .ok (.putfield 51, 3) := by decide +kernel
theorem dX7_init_116 : decode cX7_init 116 = .ok (.aload_n 0, 1) := by decide +kernel
theorem dX7_init_117 : decode cX7_init 117 = .ok (.bipush 60, 2) := by decide +kernel
theorem dX7_init_119 : decode cX7_init 119 = .ok (.newarray .double, 2) := by decide +kernel
theorem dX7_init_121 : decode cX7_init 121 = .ok (.putfield 54, 3) := by decide +kernel
theorem dX7_init_124 : decode cX7_init 124 = .ok (.aload_n 0, 1) := by decide +kernel
theorem dX7_init_125 : decode cX7_init 125 = .ok (.bipush 10, 2) := by decide +kernel
theorem dX7_init_127 : decode cX7_init 127 = .ok (.newarray .double, 2) := by decide +kernel
theorem dX7_init_129 : decode cX7_init 129 = .ok (.putfield 57, 3) := by decide +kernel
theorem dX7_init_132 : decode cX7_init 132 = .ok (.aload_n 0, 1) := by decide +kernel
theorem dX7_init_133 : decode cX7_init 133 = .ok (.bipush 10, 2) := by decide +kernel
theorem dX7_init_135 : decode cX7_init 135 = .ok (.newarray .double, 2) := by decide +kernel
theorem dX7_init_137 : decode cX7_init 137 = .ok (.putfield 60, 3) := by decide +kernel
theorem dX7_init_140 : decode cX7_init 140 = .ok (.aload_n 0, 1) := by decide +kernel
theorem dX7_init_141 : decode cX7_init 141 = .ok (.bipush 10, 2) := by decide +kernel
theorem dX7_init_143 : decode cX7_init 143 = .ok (.newarray .double, 2) := by decide +kernel
theorem dX7_init_145 : decode cX7_init 145 = .ok (.putfield 63, 3) := by decide +kernel
theorem dX7_init_148 : decode cX7_init 148 = .ok (.aload_n 0, 1) := by decide +kernel
theorem dX7_init_149 : decode cX7_init 149 = .ok (.ldc2_w 66, 3) := by decide +kernel
theorem dX7_init_152 : decode cX7_init 152 = .ok (.putfield 68, 3) := by decide +kernel
theorem dX7_init_155 : decode cX7_init 155 = .ok (.aload_n 0, 1) := by decide +kernel
theorem dX7_init_156 : decode cX7_init 156 = .ok (.iconst 3, 1) := by decide +kernel
theorem dX7_init_157 : decode cX7_init 157 = .ok (.newarray .double, 2) := by decide +kernel
theorem dX7_init_159 : decode cX7_init 159 = .ok (.putfield 72, 3) := by decide +kernel
theorem dX7_init_162 : decode cX7_init 162 = .ok (.aload_n 0, 1) := by decide +kernel
theorem dX7_init_163 : decode cX7_init 163 = .ok (.sipush 600, 3) := by decide +kernel
theorem dX7_init_166 : decode cX7_init 166 = .ok (.newarray .double, 2) := by decide +kernel
theorem dX7_init_168 : decode cX7_init 168 = .ok (.putfield 75, 3) := by decide +kernel
theorem dX7_init_171 : decode cX7_init 171 = .ok (.aload_n 0, 1) := by decide +kernel
theorem dX7_init_172 : decode cX7_init 172 = .ok (.bipush 30, 2) := by decide +kernel
theorem dX7_init_174 : decode cX7_init 174 = .ok (.newarray .int, 2) := by decide +kernel
theorem dX7_init_176 : decode cX7_init 176 = .ok (.putfield 78, 3) := by decide +kernel
theorem dX7_init_179 : decode cX7_init 179 = .ok (.aload_n 0, 1) := by decide +kernel
theorem dX7_init_180 : decode cX7_init 180 = .ok (.bipush 30, 2) := by decide +kernel
theorem dX7_init_182 : decode cX7_init 182 = .ok (.newarray .int, 2) := by decide +kernel
theorem dX7_init_184 : decode cX7_init 184 = .ok (.putfield 81, 3) := by decide +kernel
theorem dX7_init_187 : decode cX7_init 187 = .ok (.aload_n 0, 1) := by decide +kernel
theorem dX7_init_188 : decode cX7_init 188 = .ok (.bipush 30, 2) := by decide +kernel
theorem dX7_init_190 : decode cX7_init 190 = .ok (.newarray .int, 2) := by decide +kernel
theorem dX7_init_192 : decode cX7_init 192 = .ok (.putfield 84, 3) := by decide +kernel
theorem dX7_init_195 : decode cX7_init 195 = .ok (.return_, 1) := by decide +kernel
theorem dX7_isIn_0 : decode cX7_isIn 0 = .ok (.dload_n 0, 1) := by decide +kernel
theorem dX7_isIn_1 : decode cX7_isIn 1 = .ok (.dload_n 2, 1) := by decide +kernel
theorem dX7_isIn_2 : decode cX7_isIn 2 = .ok (.dcmp .l, 1) := by decide +kernel
theorem dX7_isIn_3 : decode cX7_isIn 3 = .ok (.ifCond .lt 14, 3) := by decide +kernel
theorem dX7_isIn_6 : decode cX7_isIn 6 = .ok (.dload_n 0, 1) := by decide +kernel
theorem dX7_isIn_7 : decode cX7_isIn 7 = .ok (.dload 4, 2) := by decide +kernel
theorem dX7_isIn_9 : decode cX7_isIn 9 = .ok (.dcmp .g, 1) := by decide +kernel
theorem dX7_isIn_10 : decode cX7_isIn 10 = .ok (.ifCond .gt 7, 3) := by decide +kernel
theorem dX7_isIn_13 : decode cX7_isIn 13 = .ok (.iconst 1, 1) := by decide +kernel
theorem dX7_isIn_14 : decode cX7_isIn 14 = .ok (.goto 4, 3) := by decide +kernel
theorem dX7_isIn_17 : decode cX7_isIn 17 = .ok (.iconst 0, 1) := by decide +kernel
theorem dX7_isIn_18 : decode cX7_isIn 18 = .ok (.ireturn, 1) := by decide +kernel
theorem dX7_root_0 : decode cX7_root 0 = .ok (.dload_n 0, 1) := by decide +kernel
theorem dX7_root_1 : decode cX7_root 1 = .ok (.dconst 0, 1) := by decide +kernel
theorem dX7_root_2 : decode cX7_root 2 = .ok (.dcmp .l, 1) := by decide +kernel
theorem dX7_root_3 : decode cX7_root 3 = .ok (.ifCond .gt 5, 3) := by decide +kernel
theorem dX7_root_6 : decode cX7_root 6 = .ok (.dconst 0, 1) := by decide +kernel
theorem dX7_root_7 : decode cX7_root 7 = .ok (.dreturn, 1) := by decide +kernel
theorem dX7_root_8 : decode cX7_root 8 = .ok (.ldc2_w 87, 3) := by decide +kernel
theorem dX7_root_11 : decode cX7_root 11 = .ok (.dload_n 0, 1) := by decide +kernel
theorem dX7_root_12 : decode cX7_root 12 = .ok (.dconst 1, 1) := by decide +kernel
theorem dX7_root_13 : decode cX7_root 13 = .ok (.dadd, 1) := by decide +kernel
theorem dX7_root_14 : decode cX7_root 14 = .ok (.dmul, 1) := by decide +kernel
theorem dX7_root_15 : decode cX7_root 15 = .ok (.dstore_n 2, 1) := by decide +kernel
theorem dX7_root_16 : decode cX7_root 16 = .ok (.iconst 0, 1) := by decide +kernel
theorem dX7_root_17 : decode cX7_root 17 = .ok (.istore 4, 2) := by decide +kernel
theorem dX7_root_19 : decode cX7_root 19 = .ok (.iload 4, 2) := by decide +kernel
theorem dX7_root_21 : decode cX7_root 21 = .ok (.bipush 30, 2) := by decide +kernel
theorem dX7_root_23 : decode cX7_root 23 = .ok (.if_icmp .ge 19, 3) := by decide +kernel
theorem dX7_root_26 : decode cX7_root 26 = .ok (.ldc2_w 87, 3) := by decide +kernel
theorem dX7_root_29 : decode cX7_root 29 = .ok (.dload_n 2, 1) := by decide +kernel
theorem dX7_root_30 : decode cX7_root 30 = .ok (.dload_n 0, 1) := by decide +kernel
theorem dX7_root_31 : decode cX7_root 31 = .ok (.dload_n 2, 1) := by decide +kernel
theorem dX7_root_32 : decode cX7_root 32 = .ok (.ddiv, 1) := by decide +kernel
theorem dX7_root_33 : decode cX7_root 33 = .ok (.dadd, 1) := by decide +kernel
theorem dX7_root_34 : decode cX7_root 34 = .ok (.dmul, 1) := by decide +kernel
theorem dX7_root_35 : decode cX7_root 35 = .ok (.dstore_n 2, 1) := by decide +kernel
theorem dX7_root_36 : decode cX7_root 36 = .ok (.iinc 4 1, 3) := by decide +kernel
theorem dX7_root_39 : decode cX7_root 39 = .ok (.goto (-20), 3) := by decide +kernel
theorem dX7_root_42 : decode cX7_root 42 = .ok (.dload_n 2, 1) := by decide +kernel
theorem dX7_root_43 : decode cX7_root 43 = .ok (.dreturn, 1) := by decide +kernel
theorem dX7_size_0 : decode cX7_size 0 = .ok (.dload_n 0, 1) := by decide +kernel
theorem dX7_size_1 : decode cX7_size 1 = .ok (.dconst 0, 1) := by decide +kernel
theorem dX7_size_2 : decode cX7_size 2 = .ok (.dcmp .g, 1) := by decide +kernel
theorem dX7_size_3 : decode cX7_size 3 = .ok (.ifCond .ge 9, 3) := by decide +kernel
theorem dX7_size_6 : decode cX7_size 6 = .ok (.dconst 0, 1) := by decide +kernel
theorem dX7_size_7 : decode cX7_size 7 = .ok (.dload_n 0, 1) := by decide +kernel
theorem dX7_size_8 : decode cX7_size 8 = .ok (.dsub, 1) := by decide +kernel
theorem dX7_size_9 : decode cX7_size 9 = .ok (.goto 4, 3) := by decide +kernel
theorem dX7_size_12 : decode cX7_size 12 = .ok (.dload_n 0, 1) := by decide +kernel
theorem dX7_size_13 : decode cX7_size 13 = .ok (.dreturn, 1) := by decide +kernel
set_option maxRecDepth 100000 in
theorem ggX7_node_X7_isIn : GoodIn wsX7_node wsX7_isIn := goodIn_r _ [10] rfl (by decide +kernel)
set_option maxRecDepth 100000 in
theorem gX7_node_X7_isIn : GoodIn wsX7_node (va_wsS RX7 97 yX7_isIn wsX7_isIn) := goodIn_app (goodIn_of _ (by decide +kernel)) ggX7_node_X7_isIn
theorem dX7_node_0 : decode cX7_node 0 = .ok (.aload_n 0, 1) := by decide +kernel
theorem dX7_node_1 : decode cX7_node 1 = .ok (.getfield 89, 3) := by decide +kernel
theorem dX7_node_4 : decode cX7_node 4 = .ok (.bipush 30, 2) := by decide +kernel
theorem dX7_node_6 : decode cX7_node 6 = .ok (.if_icmp .eq 43, 3) := by decide +kernel
theorem dX7_node_9 : decode cX7_node 9 = .ok (.dload_n 1, 1) := by decide +kernel
theorem dX7_node_10 : decode cX7_node 10 = .ok (.ldc2_w 93, 3) := by decide +kernel
theorem dX7_node_13 : decode cX7_node 13 = .ok (.ldc2_w 95, 3) := by decide +kernel
theorem dX7_node_16 : decode cX7_node 16 = .ok (.invokestatic 97, 3) := by decide +kernel
theorem dX7_node_19 : decode cX7_node 19 = .ok (.ifCond .eq 30, 3) := by decide +kernel
theorem dX7_node_22 : decode cX7_node 22 = .ok (.dload_n 3, 1) := by decide +kernel
theorem dX7_node_23 : decode cX7_node 23 = .ok (.ldc2_w 93, 3) := by decide +kernel
theorem dX7_node_26 : decode cX7_node 26 = .ok (.ldc2_w 95, 3) := by decide +kernel
theorem dX7_node_29 : decode cX7_node 29 = .ok (.invokestatic 97, 3) := by decide +kernel
theorem dX7_node_32 : decode cX7_node 32 = .ok (.ifCond .eq 17, 3) := by decide +kernel
theorem dX7_node_35 : decode cX7_node 35 = .ok (.dload 5, 2) := by decide +kernel
theorem dX7_node_37 : decode cX7_node 37 = .ok (.ldc2_w 93, 3) := by decide +kernel
theorem dX7_node_40 : decode cX7_node 40 = .ok (.ldc2_w 95, 3) := by decide +kernel
theorem dX7_node_43 : decode cX7_node 43 = .ok (.invokestatic 97, 3) := by decide +kernel
theorem dX7_node_46 : decode cX7_node 46 = .ok (.ifCond .ne 5, 3) := by decide +kernel
theorem dX7_node_49 : decode cX7_node 49 = .ok (.iconst (-1), 1) := by decide +kernel
theorem dX7_node_50 : decode cX7_node 50 = .ok (.ireturn, 1) := by decide +kernel
theorem dX7_node_51 : decode cX7_node 51 = .ok (.aload_n 0, 1) := by decide +kernel
theorem dX7_node_52 : decode cX7_node 52 = .ok (.getfield 7, 3) := by decide +kernel
theorem dX7_node_55 : decode cX7_node 55 = .ok (.aload_n 0, 1) := by decide +kernel
theorem dX7_node_56 : decode cX7_node 56 = .ok (.getfield 89, 3) := by decide +kernel
theorem dX7_node_59 : decode cX7_node 59 = .ok (.dload_n 1, 1) := by decide +kernel
theorem dX7_node_60 : decode cX7_node 60 = .ok (.dastore, 1) := by decide +kernel
theorem dX7_node_61 : decode cX7_node 61 = .ok (.aload_n 0, 1) := by decide +kernel
theorem dX7_node_62 : decode cX7_node 62 = .ok (.getfield 13, 3) := by decide +kernel
theorem dX7_node_65 : decode cX7_node 65 = .ok (.aload_n 0, 1) := by decide +kernel
theorem dX7_node_66 : decode cX7_node 66 = .ok (.getfield 89, 3) := by decide +kernel
theorem dX7_node_69 : decode cX7_node 69 = .ok (.dload_n 3, 1) := by decide +kernel
theorem dX7_node_70 : decode cX7_node 70 = .ok (.dastore, 1) := by decide +kernel
theorem dX7_node_71 : decode cX7_node 71 = .ok (.aload_n 0, 1) := by decide +kernel
theorem dX7_node_72 : decode cX7_node 72 = .ok (.getfield 16, 3) := by decide +kernel
theorem dX7_node_75 : decode cX7_node 75 = .ok (.aload_n 0, 1) := by decide +kernel
theorem dX7_node_76 : decode cX7_node 76 = .ok (.getfield 89, 3) := by decide +kernel
theorem dX7_node_79 : decode cX7_node 79 = .ok (.dload 5, 2) := by decide +kernel
theorem dX7_node_81 : decode cX7_node 81 = .ok (.dastore, 1) := by decide +kernel
theorem dX7_node_82 : decode cX7_node 82 = .ok (.aload_n 0, 1) := by decide +kernel
theorem dX7_node_83 : decode cX7_node 83 = .ok (.dup, 1) := by decide +kernel
theorem dX7_node_84 : decode cX7_node 84 = .ok (.getfield 89, 3) := by decide +kernel
theorem dX7_node_87 : decode cX7_node 87 = .ok (.iconst 1, 1) := by decide +kernel
theorem dX7_node_88 : decode cX7_node 88 = .ok (.iadd, 1) := by decide +kernel
theorem dX7_node_89 : decode cX7_node 89 = .ok (.putfield 89, 3) := by decide +kernel
theorem dX7_node_92 : decode cX7_node 92 = .ok (.aload_n 0, 1) := by decide +kernel
theorem dX7_node_93 : decode cX7_node 93 = .ok (.getfield 89, 3) := by decide +kernel
theorem dX7_node_96 : decode cX7_node 96 = .ok (.iconst 1, 1) := by decide +kernel
theorem dX7_node_97 : decode cX7_node 97 = .ok (.isub, 1) := by decide +kernel
theorem dX7_node_98 : decode cX7_node 98 = .ok (.ireturn, 1) := by decide +kernel
theorem dX7_isNode_0 : decode cX7_isNode 0 = .ok (.iload_n 1, 1) := by decide +kernel
theorem dX7_isNode_1 : decode cX7_isNode 1 = .ok (.ifCond .lt 15, 3) := by decide +kernel
theorem dX7_isNode_4 : decode cX7_isNode 4 = .ok (.iload_n 1, 1) := by decide +kernel
theorem dX7_isNode_5 : decode cX7_isNode 5 = .ok (.aload_n 0, 1) := by decide +kernel
theorem dX7_isNode_6 : decode cX7_isNode 6 = .ok (.getfield 89, 3) := by decide +kernel
theorem dX7_isNode_9 : decode cX7_isNode 9 = .ok (.if_icmp .ge 7, 3) := by decide +kernel
theorem dX7_isNode_12 : decode cX7_isNode 12 = .ok (.iconst 1, 1) := by decide +kernel
theorem dX7_isNode_13 : decode cX7_isNode 13 = .ok (.goto 4, 3) := by decide +kernel
theorem dX7_isNode_16 : decode cX7_isNode 16 = .ok (.iconst 0, 1) := by decide +kernel
theorem dX7_isNode_17 : decode cX7_isNode 17 = .ok (.ireturn, 1) := by decide +kernel
set_option maxRecDepth 100000 in
theorem ggX7_bar_X7_isNode : GoodIn wsX7_bar wsX7_isNode := goodIn_r _ [17, 18, 22, 23, 24, 25, 26, 27, 28, 29, 30, 31, 32, 33, 34, 35, 36, 37, 38, 39, 40, 41, 42, 43, 44, 45, 46, 47, 48, 49, 50, 51, 52] rfl (by decide +kernel)
set_option maxRecDepth 100000 in
theorem gX7_bar_X7_isNode : GoodIn wsX7_bar (wsV RX7 101 RX7 yX7_isNode wsX7_isNode) := goodIn_app (goodIn_of _ (by decide +kernel)) ggX7_bar_X7_isNode
set_option maxRecDepth 100000 in
theorem ggX7_bar_X7_isIn : GoodIn wsX7_bar wsX7_isIn := goodIn_r _ [21] rfl (by decide +kernel)
set_option maxRecDepth 100000 in
theorem gX7_bar_X7_isIn : GoodIn wsX7_bar (va_wsS RX7 97 yX7_isIn wsX7_isIn) := goodIn_app (goodIn_of _ (by decide +kernel)) ggX7_bar_X7_isIn
theorem dX7_bar_0 : decode cX7_bar 0 = .ok (.aload_n 0, 1) := by decide +kernel
theorem dX7_bar_1 : decode cX7_bar 1 = .ok (.iload_n 1, 1) := by decide +kernel
theorem dX7_bar_2 : decode cX7_bar 2 = .ok (.invokevirtual 101, 3) := by decide +kernel
theorem dX7_bar_5 : decode cX7_bar 5 = .ok (.ifCond .eq 62, 3) := by decide +kernel
theorem dX7_bar_8 : decode cX7_bar 8 = .ok (.aload_n 0, 1) := by decide +kernel
theorem dX7_bar_9 : decode cX7_bar 9 = .ok (.iload_n 2, 1) := by decide +kernel
theorem dX7_bar_10 : decode cX7_bar 10 = .ok (.invokevirtual 101, 3) := by decide +kernel
theorem dX7_bar_13 : decode cX7_bar 13 = .ok (.ifCond .eq 54, 3) := by decide +kernel
theorem dX7_bar_16 : decode cX7_bar 16 = .ok (.aload_n 0, 1) := by decide +kernel
theorem dX7_bar_17 : decode cX7_bar 17 = .ok (.getfield 105, 3) := by decide +kernel
theorem dX7_bar_20 : decode cX7_bar 20 = .ok (.bipush 60, 2) := by decide +kernel
theorem dX7_bar_22 : decode cX7_bar 22 = .ok (.if_icmp .eq 45, 3) := by decide +kernel
theorem dX7_bar_25 : decode cX7_bar 25 = .ok (.iload_n 1, 1) := by decide +kernel
theorem dX7_bar_26 : decode cX7_bar 26 = .ok (.iload_n 2, 1) := by decide +kernel
theorem dX7_bar_27 : decode cX7_bar 27 = .ok (.if_icmp .eq 40, 3) := by decide +kernel
theorem dX7_bar_30 : decode cX7_bar 30 = .ok (.dload_n 3, 1) := by decide +kernel
theorem dX7_bar_31 : decode cX7_bar 31 = .ok (.ldc2_w 108, 3) := by decide +kernel
theorem dX7_bar_34 : decode cX7_bar 34 = .ok (.ldc2_w 95, 3) := by decide +kernel
theorem dX7_bar_37 : decode cX7_bar 37 = .ok (.invokestatic 97, 3) := by decide +kernel
theorem dX7_bar_40 : decode cX7_bar 40 = .ok (.ifCond .eq 27, 3) := by decide +kernel
theorem dX7_bar_43 : decode cX7_bar 43 = .ok (.dload 5, 2) := by decide +kernel
theorem dX7_bar_45 : decode cX7_bar 45 = .ok (.dconst 0, 1) := by decide +kernel
theorem dX7_bar_46 : decode cX7_bar 46 = .ok (.ldc2_w 110, 3) := by decide +kernel
theorem dX7_bar_49 : decode cX7_bar 49 = .ok (.invokestatic 97, 3) := by decide +kernel
theorem dX7_bar_52 : decode cX7_bar 52 = .ok (.ifCond .eq 15, 3) := by decide +kernel
theorem dX7_bar_55 : decode cX7_bar 55 = .ok (.dload 7, 2) := by decide +kernel
theorem dX7_bar_57 : decode cX7_bar 57 = .ok (.dconst 0, 1) := by decide +kernel
theorem dX7_bar_58 : decode cX7_bar 58 = .ok (.ldc2_w 112, 3) := by decide +kernel
theorem dX7_bar_61 : decode cX7_bar 61 = .ok (.invokestatic 97, 3) := by decide +kernel
theorem dX7_bar_64 : decode cX7_bar 64 = .ok (.ifCond .ne 5, 3) := by decide +kernel
theorem dX7_bar_67 : decode cX7_bar 67 = .ok (.iconst (-1), 1) := by decide +kernel
theorem dX7_bar_68 : decode cX7_bar 68 = .ok (.ireturn, 1) := by decide +kernel
theorem dX7_bar_69 : decode cX7_bar 69 = .ok (.aload_n 0, 1) := by decide +kernel
theorem dX7_bar_70 : decode cX7_bar 70 = .ok (.getfield 38, 3) := by decide +kernel
theorem dX7_bar_73 : decode cX7_bar 73 = .ok (.aload_n 0, 1) := by decide +kernel
theorem dX7_bar_74 : decode cX7_bar 74 = .ok (.getfield 105, 3) := by decide +kernel
theorem dX7_bar_77 : decode cX7_bar 77 = .ok (.iload_n 1, 1) := by decide +kernel
theorem dX7_bar_78 : decode cX7_bar 78 = .ok (.iastore, 1) := by decide +kernel
theorem dX7_bar_79 : decode cX7_bar 79 = .ok (.aload_n 0, 1) := by decide +kernel
theorem dX7_bar_80 : decode cX7_bar 80 = .ok (.getfield 42, 3) := by decide +kernel
theorem dX7_bar_83 : decode cX7_bar 83 = .ok (.aload_n 0, 1) := by decide +kernel
theorem dX7_bar_84 : decode cX7_bar 84 = .ok (.getfield 105, 3) := by decide +kernel
theorem dX7_bar_87 : decode cX7_bar 87 = .ok (.iload_n 2, 1) := by decide +kernel
theorem dX7_bar_88 : decode cX7_bar 88 = .ok (.iastore, 1) := by decide +kernel
theorem dX7_bar_89 : decode cX7_bar 89 = .ok (.aload_n 0, 1) := by decide +kernel
theorem dX7_bar_90 : decode cX7_bar 90 = .ok (.getfield 45, 3) := by decide +kernel
theorem dX7_bar_93 : decode cX7_bar 93 = .ok (.aload_n 0, 1) := by decide +kernel
theorem dX7_bar_94 : decode cX7_bar 94 = .ok (.getfield 105, 3) := by decide +kernel
theorem dX7_bar_97 : decode cX7_bar 97 = .ok (.dload_n 3, 1) := by decide +kernel
theorem dX7_bar_98 : decode cX7_bar 98 = .ok (.dastore, 1) := by decide +kernel
theorem dX7_bar_99 : decode cX7_bar 99 = .ok (.aload_n 0, 1) := by decide +kernel
theorem dX7_bar_100 : decode cX7_bar 100 = .ok (.getfield 48, 3) := by decide +kernel
theorem dX7_bar_103 : decode cX7_bar 103 = .ok (.aload_n 0, 1) := by decide +kernel
theorem dX7_bar_104 : decode cX7_bar 104 = .ok (.getfield 105, 3) := by decide +kernel
theorem dX7_bar_107 : decode cX7_bar 107 = .ok (.dload 5, 2) := by decide +kernel
theorem dX7_bar_109 : decode cX7_bar 109 = .ok (.dastore, 1) := by decide +kernel
theorem dX7_bar_110 : decode cX7_bar 110 = .ok (.aload_n 0, 1) := by decide +kernel
theorem dX7_bar_111 : decode cX7_bar 111 = .ok (.getfield 51, 3) := by decide +kernel
theorem dX7_bar_114 : decode cX7_bar 114 = .ok (.aload_n 0, 1) := by decide +kernel
theorem dX7_bar_115 : decode cX7_bar 115 = .ok (.getfield 105, 3) := by decide +kernel
theorem dX7_bar_118 : decode cX7_bar 118 = .ok (.dload 7, 2) := by decide +kernel
theorem dX7_bar_120 : decode cX7_bar 120 = .ok (.dastore, 1) := by decide +kernel
theorem dX7_bar_121 : decode cX7_bar 121 = .ok (.aload_n 0, 1) := by decide +kernel
theorem dX7_bar_122 : decode cX7_bar 122 = .ok (.getfield 54, 3) := by decide +kernel
theorem dX7_bar_125 : decode cX7_bar 125 = .ok (.aload_n 0, 1) := by decide +kernel
theorem dX7_bar_126 : decode cX7_bar 126 = .ok (.getfield 105, 3) := by decide +kernel
theorem dX7_bar_129 : decode cX7_bar 129 = .ok (.ldc2_w 66, 3) := by decide +kernel
theorem dX7_bar_132 : decode cX7_bar 132 = .ok (.dastore, 1) := by decide +kernel
theorem dX7_bar_133 : decode cX7_bar 133 = .ok (.aload_n 0, 1) := by decide +kernel
theorem dX7_bar_134 : decode cX7_bar 134 = .ok (.dup, 1) := by decide +kernel
theorem dX7_bar_135 : decode cX7_bar 135 = .ok (.getfield 105, 3) := by decide +kernel
theorem dX7_bar_138 : decode cX7_bar 138 = .ok (.iconst 1, 1) := by decide +kernel
theorem dX7_bar_139 : decode cX7_bar 139 = .ok (.iadd, 1) := by decide +kernel
theorem dX7_bar_140 : decode cX7_bar 140 = .ok (.putfield 105, 3) := by decide +kernel
theorem dX7_bar_143 : decode cX7_bar 143 = .ok (.aload_n 0, 1) := by decide +kernel
theorem dX7_bar_144 : decode cX7_bar 144 = .ok (.getfield 105, 3) := by decide +kernel
theorem dX7_bar_147 : decode cX7_bar 147 = .ok (.iconst 1, 1) := by decide +kernel
theorem dX7_bar_148 : decode cX7_bar 148 = .ok (.isub, 1) := by decide +kernel
theorem dX7_bar_149 : decode cX7_bar 149 = .ok (.ireturn, 1) := by decide +kernel
set_option maxRecDepth 100000 in
theorem ggX7_fix_X7_isNode : GoodIn wsX7_fix wsX7_isNode := goodIn_r _ [6, 7, 8, 9, 10, 11, 12, 13, 14, 15, 16, 17, 18, 19, 20, 21, 22, 23, 24, 25, 26, 27, 28, 29, 30, 31, 32, 33, 34, 35, 36, 37, 38] rfl (by decide +kernel)
set_option maxRecDepth 100000 in
theorem gX7_fix_X7_isNode : GoodIn wsX7_fix (wsV RX7 101 RX7 yX7_isNode wsX7_isNode) := goodIn_app (goodIn_of _ (by decide +kernel)) ggX7_fix_X7_isNode
theorem dX7_fix_0 : decode cX7_fix 0 = .ok (.aload_n 0, 1) := by decide +kernel
theorem dX7_fix_1 : decode cX7_fix 1 = .ok (.iload_n 1, 1) := by decide +kernel
theorem dX7_fix_2 : decode cX7_fix 2 = .ok (.invokevirtual 101, 3) := by decide +kernel
theorem dX7_fix_5 : decode cX7_fix 5 = .ok (.ifCond .ne 5, 3) := by decide +kernel
theorem dX7_fix_8 : decode cX7_fix 8 = .ok (.iconst 0, 1) := by decide +kernel
theorem dX7_fix_9 : decode cX7_fix 9 = .ok (.ireturn, 1) := by decide +kernel
theorem dX7_fix_10 : decode cX7_fix 10 = .ok (.aload_n 0, 1) := by decide +kernel
theorem dX7_fix_11 : decode cX7_fix 11 = .ok (.getfield 25, 3) := by decide +kernel
theorem dX7_fix_14 : decode cX7_fix 14 = .ok (.iload_n 1, 1) := by decide +kernel
theorem dX7_fix_15 : decode cX7_fix 15 = .ok (.iconst 1, 1) := by decide +kernel
theorem dX7_fix_16 : decode cX7_fix 16 = .ok (.bastore, 1) := by decide +kernel
theorem dX7_fix_17 : decode cX7_fix 17 = .ok (.iconst 1, 1) := by decide +kernel
theorem dX7_fix_18 : decode cX7_fix 18 = .ok (.ireturn, 1) := by decide +kernel
set_option maxRecDepth 100000 in
theorem ggX7_floats_X7_isNode : GoodIn wsX7_floats wsX7_isNode := goodIn_r _ [8, 9, 13, 14, 15, 16, 17, 18, 19, 20, 21, 22, 23, 24, 25, 26, 27, 28, 29, 30, 31, 32, 33, 34, 35, 36, 37, 38, 39, 40, 41, 42, 43] rfl (by decide +kernel)
set_option maxRecDepth 100000 in
theorem gX7_floats_X7_isNode : GoodIn wsX7_floats (wsV RX7 101 RX7 yX7_isNode wsX7_isNode) := goodIn_app (goodIn_of _ (by decide +kernel)) ggX7_floats_X7_isNode
set_option maxRecDepth 100000 in
theorem ggX7_floats_X7_isIn : GoodIn wsX7_floats wsX7_isIn := goodIn_r _ [12] rfl (by decide +kernel)
set_option maxRecDepth 100000 in
theorem gX7_floats_X7_isIn : GoodIn wsX7_floats (va_wsS RX7 97 yX7_isIn wsX7_isIn) := goodIn_app (goodIn_of _ (by decide +kernel)) ggX7_floats_X7_isIn
theorem dX7_floats_0 : decode cX7_floats 0 = .ok (.aload_n 0, 1) := by decide +kernel
theorem dX7_floats_1 : decode cX7_floats 1 = .ok (.iload_n 1, 1) := by decide +kernel
theorem dX7_floats_2 : decode cX7_floats 2 = .ok (.invokevirtual 101, 3) := by decide +kernel
theorem dX7_floats_5 : decode cX7_floats 5 = .ok (.ifCond .eq 16, 3) := by decide +kernel
theorem dX7_floats_8 : decode cX7_floats 8 = .ok (.dload_n 2, 1) := by decide +kernel
theorem dX7_floats_9 : decode cX7_floats 9 = .ok (.ldc2_w 114, 3) := by decide +kernel
theorem dX7_floats_12 : decode cX7_floats 12 = .ok (.ldc2_w 116, 3) := by decide +kernel
theorem dX7_floats_15 : decode cX7_floats 15 = .ok (.invokestatic 97, 3) := by decide +kernel
theorem dX7_floats_18 : decode cX7_floats 18 = .ok (.ifCond .ne 5, 3) := by decide +kernel
theorem dX7_floats_21 : decode cX7_floats 21 = .ok (.iconst 0, 1) := by decide +kernel
theorem dX7_floats_22 : decode cX7_floats 22 = .ok (.ireturn, 1) := by decide +kernel
theorem dX7_floats_23 : decode cX7_floats 23 = .ok (.aload_n 0, 1) := by decide +kernel
theorem dX7_floats_24 : decode cX7_floats 24 = .ok (.getfield 19, 3) := by decide +kernel
theorem dX7_floats_27 : decode cX7_floats 27 = .ok (.iload_n 1, 1) := by decide +kernel
theorem dX7_floats_28 : decode cX7_floats 28 = .ok (.dload_n 2, 1) := by decide +kernel
theorem dX7_floats_29 : decode cX7_floats 29 = .ok (.dastore, 1) := by decide +kernel
theorem dX7_floats_30 : decode cX7_floats 30 = .ok (.iconst 1, 1) := by decide +kernel
theorem dX7_floats_31 : decode cX7_floats 31 = .ok (.ireturn, 1) := by decide +kernel
set_option maxRecDepth 100000 in
theorem ggX7_catchAt_X7_isNode : GoodIn wsX7_catchAt wsX7_isNode := goodIn_r _ [7, 8, 12, 13, 14, 15, 16, 17, 18, 19, 20, 21, 22, 23, 24, 25, 26, 27, 28, 29, 30, 31, 32, 33, 34, 35, 36, 37, 38, 39, 40, 41, 42] rfl (by decide +kernel)
set_option maxRecDepth 100000 in
theorem gX7_catchAt_X7_isNode : GoodIn wsX7_catchAt (wsV RX7 101 RX7 yX7_isNode wsX7_isNode) := goodIn_app (goodIn_of _ (by decide +kernel)) ggX7_catchAt_X7_isNode
set_option maxRecDepth 100000 in
theorem ggX7_catchAt_X7_isIn : GoodIn wsX7_catchAt wsX7_isIn := goodIn_r _ [11] rfl (by decide +kernel)
set_option maxRecDepth 100000 in
theorem gX7_catchAt_X7_isIn : GoodIn wsX7_catchAt (va_wsS RX7 97 yX7_isIn wsX7_isIn) := goodIn_app (goodIn_of _ (by decide +kernel)) ggX7_catchAt_X7_isIn
theorem dX7_catchAt_0 : decode cX7_catchAt 0 = .ok (.aload_n 0, 1) := by decide +kernel
theorem dX7_catchAt_1 : decode cX7_catchAt 1 = .ok (.iload_n 1, 1) := by decide +kernel
theorem dX7_catchAt_2 : decode cX7_catchAt 2 = .ok (.invokevirtual 101, 3) := by decide +kernel
theorem dX7_catchAt_5 : decode cX7_catchAt 5 = .ok (.ifCond .eq 14, 3) := by decide +kernel
theorem dX7_catchAt_8 : decode cX7_catchAt 8 = .ok (.dload_n 2, 1) := by decide +kernel
theorem dX7_catchAt_9 : decode cX7_catchAt 9 = .ok (.dconst 0, 1) := by decide +kernel
theorem dX7_catchAt_10 : decode cX7_catchAt 10 = .ok (.ldc2_w 116, 3) := by decide +kernel
theorem dX7_catchAt_13 : decode cX7_catchAt 13 = .ok (.invokestatic 97, 3) := by decide +kernel
theorem dX7_catchAt_16 : decode cX7_catchAt 16 = .ok (.ifCond .ne 5, 3) := by decide +kernel
theorem dX7_catchAt_19 : decode cX7_catchAt 19 = .ok (.iconst 0, 1) := by decide +kernel
theorem dX7_catchAt_20 : decode cX7_catchAt 20 = .ok (.ireturn, 1) := by decide +kernel
theorem dX7_catchAt_21 : decode cX7_catchAt 21 = .ok (.aload_n 0, 1) := by decide +kernel
theorem dX7_catchAt_22 : decode cX7_catchAt 22 = .ok (.getfield 22, 3) := by decide +kernel
theorem dX7_catchAt_25 : decode cX7_catchAt 25 = .ok (.iload_n 1, 1) := by decide +kernel
theorem dX7_catchAt_26 : decode cX7_catchAt 26 = .ok (.dload_n 2, 1) := by decide +kernel
theorem dX7_catchAt_27 : decode cX7_catchAt 27 = .ok (.dastore, 1) := by decide +kernel
theorem dX7_catchAt_28 : decode cX7_catchAt 28 = .ok (.iconst 1, 1) := by decide +kernel
theorem dX7_catchAt_29 : decode cX7_catchAt 29 = .ok (.ireturn, 1) := by decide +kernel
set_option maxRecDepth 100000 in
theorem ggX7_foul_X7_isIn : GoodIn wsX7_foul wsX7_isIn := goodIn_r _ [6] rfl (by decide +kernel)
set_option maxRecDepth 100000 in
theorem gX7_foul_X7_isIn : GoodIn wsX7_foul (va_wsS RX7 97 yX7_isIn wsX7_isIn) := goodIn_app (goodIn_of _ (by decide +kernel)) ggX7_foul_X7_isIn
theorem dX7_foul_0 : decode cX7_foul 0 = .ok (.dload_n 1, 1) := by decide +kernel
theorem dX7_foul_1 : decode cX7_foul 1 = .ok (.dconst 0, 1) := by decide +kernel
theorem dX7_foul_2 : decode cX7_foul 2 = .ok (.ldc2_w 118, 3) := by decide +kernel
theorem dX7_foul_5 : decode cX7_foul 5 = .ok (.invokestatic 97, 3) := by decide +kernel
theorem dX7_foul_8 : decode cX7_foul 8 = .ok (.ifCond .ne 5, 3) := by decide +kernel
theorem dX7_foul_11 : decode cX7_foul 11 = .ok (.iconst 0, 1) := by decide +kernel
theorem dX7_foul_12 : decode cX7_foul 12 = .ok (.ireturn, 1) := by decide +kernel
theorem dX7_foul_13 : decode cX7_foul 13 = .ok (.aload_n 0, 1) := by decide +kernel
theorem dX7_foul_14 : decode cX7_foul 14 = .ok (.dload_n 1, 1) := by decide +kernel
theorem dX7_foul_15 : decode cX7_foul 15 = .ok (.putfield 120, 3) := by decide +kernel
theorem dX7_foul_18 : decode cX7_foul 18 = .ok (.iconst 1, 1) := by decide +kernel
theorem dX7_foul_19 : decode cX7_foul 19 = .ok (.ireturn, 1) := by decide +kernel
set_option maxRecDepth 100000 in
theorem ggX7_wave_X7_isIn : GoodIn wsX7_wave wsX7_isIn := goodIn_r _ [9] rfl (by decide +kernel)
set_option maxRecDepth 100000 in
theorem gX7_wave_X7_isIn : GoodIn wsX7_wave (va_wsS RX7 97 yX7_isIn wsX7_isIn) := goodIn_app (goodIn_of _ (by decide +kernel)) ggX7_wave_X7_isIn
theorem dX7_wave_0 : decode cX7_wave 0 = .ok (.dload_n 1, 1) := by decide +kernel
theorem dX7_wave_1 : decode cX7_wave 1 = .ok (.dconst 0, 1) := by decide +kernel
theorem dX7_wave_2 : decode cX7_wave 2 = .ok (.ldc2_w 123, 3) := by decide +kernel
theorem dX7_wave_5 : decode cX7_wave 5 = .ok (.invokestatic 97, 3) := by decide +kernel
theorem dX7_wave_8 : decode cX7_wave 8 = .ok (.ifCond .eq 26, 3) := by decide +kernel
theorem dX7_wave_11 : decode cX7_wave 11 = .ok (.dload_n 3, 1) := by decide +kernel
theorem dX7_wave_12 : decode cX7_wave 12 = .ok (.dconst 1, 1) := by decide +kernel
theorem dX7_wave_13 : decode cX7_wave 13 = .ok (.ldc2_w 125, 3) := by decide +kernel
theorem dX7_wave_16 : decode cX7_wave 16 = .ok (.invokestatic 97, 3) := by decide +kernel
theorem dX7_wave_19 : decode cX7_wave 19 = .ok (.ifCond .eq 15, 3) := by decide +kernel
theorem dX7_wave_22 : decode cX7_wave 22 = .ok (.iload 5, 2) := by decide +kernel
theorem dX7_wave_24 : decode cX7_wave 24 = .ok (.ifCond .lt 10, 3) := by decide +kernel
theorem dX7_wave_27 : decode cX7_wave 27 = .ok (.iload 5, 2) := by decide +kernel
theorem dX7_wave_29 : decode cX7_wave 29 = .ok (.bipush 100, 2) := by decide +kernel
theorem dX7_wave_31 : decode cX7_wave 31 = .ok (.if_icmp .le 5, 3) := by decide +kernel
theorem dX7_wave_34 : decode cX7_wave 34 = .ok (.iconst (-1), 1) := by decide +kernel
theorem dX7_wave_35 : decode cX7_wave 35 = .ok (.ireturn, 1) := by decide +kernel
theorem dX7_wave_36 : decode cX7_wave 36 = .ok (.aload_n 0, 1) := by decide +kernel
theorem dX7_wave_37 : decode cX7_wave 37 = .ok (.dload_n 1, 1) := by decide +kernel
theorem dX7_wave_38 : decode cX7_wave 38 = .ok (.dload_n 3, 1) := by decide +kernel
theorem dX7_wave_39 : decode cX7_wave 39 = .ok (.dconst 1, 1) := by decide +kernel
theorem dX7_wave_40 : decode cX7_wave 40 = .ok (.dadd, 1) := by decide +kernel
theorem dX7_wave_41 : decode cX7_wave 41 = .ok (.ddiv, 1) := by decide +kernel
theorem dX7_wave_42 : decode cX7_wave 42 = .ok (.iload 5, 2) := by decide +kernel
theorem dX7_wave_44 : decode cX7_wave 44 = .ok (.i2d, 1) := by decide +kernel
theorem dX7_wave_45 : decode cX7_wave 45 = .ok (.dmul, 1) := by decide +kernel
theorem dX7_wave_46 : decode cX7_wave 46 = .ok (.ldc2_w 127, 3) := by decide +kernel
theorem dX7_wave_49 : decode cX7_wave 49 = .ok (.ddiv, 1) := by decide +kernel
theorem dX7_wave_50 : decode cX7_wave 50 = .ok (.putfield 129, 3) := by decide +kernel
theorem dX7_wave_53 : decode cX7_wave 53 = .ok (.aload_n 0, 1) := by decide +kernel
theorem dX7_wave_54 : decode cX7_wave 54 = .ok (.getfield 132, 3) := by decide +kernel
theorem dX7_wave_57 : decode cX7_wave 57 = .ok (.ireturn, 1) := by decide +kernel
set_option maxRecDepth 100000 in
theorem ggX7_current_X7_isIn : GoodIn wsX7_current wsX7_isIn := goodIn_r _ [14] rfl (by decide +kernel)
set_option maxRecDepth 100000 in
theorem gX7_current_X7_isIn : GoodIn wsX7_current (va_wsS RX7 97 yX7_isIn wsX7_isIn) := goodIn_app (goodIn_of _ (by decide +kernel)) ggX7_current_X7_isIn
theorem dX7_current_0 : decode cX7_current 0 = .ok (.dload 5, 2) := by decide +kernel
theorem dX7_current_2 : decode cX7_current 2 = .ok (.ldc2_w 135, 3) := by decide +kernel
theorem dX7_current_5 : decode cX7_current 5 = .ok (.ddiv, 1) := by decide +kernel
theorem dX7_current_6 : decode cX7_current 6 = .ok (.d2i, 1) := by decide +kernel
theorem dX7_current_7 : decode cX7_current 7 = .ok (.istore 7, 2) := by decide +kernel
theorem dX7_current_9 : decode cX7_current 9 = .ok (.dload_n 1, 1) := by decide +kernel
theorem dX7_current_10 : decode cX7_current 10 = .ok (.ldc2_w 93, 3) := by decide +kernel
theorem dX7_current_13 : decode cX7_current 13 = .ok (.ldc2_w 95, 3) := by decide +kernel
theorem dX7_current_16 : decode cX7_current 16 = .ok (.invokestatic 97, 3) := by decide +kernel
theorem dX7_current_19 : decode cX7_current 19 = .ok (.ifCond .eq 39, 3) := by decide +kernel
theorem dX7_current_22 : decode cX7_current 22 = .ok (.dload_n 3, 1) := by decide +kernel
theorem dX7_current_23 : decode cX7_current 23 = .ok (.dconst 0, 1) := by decide +kernel
theorem dX7_current_24 : decode cX7_current 24 = .ok (.ldc2_w 110, 3) := by decide +kernel
theorem dX7_current_27 : decode cX7_current 27 = .ok (.invokestatic 97, 3) := by decide +kernel
theorem dX7_current_30 : decode cX7_current 30 = .ok (.ifCond .eq 28, 3) := by decide +kernel
theorem dX7_current_33 : decode cX7_current 33 = .ok (.dload 5, 2) := by decide +kernel
theorem dX7_current_35 : decode cX7_current 35 = .ok (.dconst 0, 1) := by decide +kernel
theorem dX7_current_36 : decode cX7_current 36 = .ok (.ldc2_w 137, 3) := by decide +kernel
theorem dX7_current_39 : decode cX7_current 39 = .ok (.invokestatic 97, 3) := by decide +kernel
theorem dX7_current_42 : decode cX7_current 42 = .ok (.ifCond .eq 16, 3) := by decide +kernel
theorem dX7_current_45 : decode cX7_current 45 = .ok (.iload 7, 2) := by decide +kernel
theorem dX7_current_47 : decode cX7_current 47 = .ok (.i2d, 1) := by decide +kernel
theorem dX7_current_48 : decode cX7_current 48 = .ok (.ldc2_w 135, 3) := by decide +kernel
theorem dX7_current_51 : decode cX7_current 51 = .ok (.dmul, 1) := by decide +kernel
theorem dX7_current_52 : decode cX7_current 52 = .ok (.dload 5, 2) := by decide +kernel
theorem dX7_current_54 : decode cX7_current 54 = .ok (.dcmp .l, 1) := by decide +kernel
theorem dX7_current_55 : decode cX7_current 55 = .ok (.ifCond .eq 5, 3) := by decide +kernel
theorem dX7_current_58 : decode cX7_current 58 = .ok (.iconst 0, 1) := by decide +kernel
theorem dX7_current_59 : decode cX7_current 59 = .ok (.ireturn, 1) := by decide +kernel
theorem dX7_current_60 : decode cX7_current 60 = .ok (.iconst 0, 1) := by decide +kernel
theorem dX7_current_61 : decode cX7_current 61 = .ok (.istore 8, 2) := by decide +kernel
theorem dX7_current_63 : decode cX7_current 63 = .ok (.iload 8, 2) := by decide +kernel
theorem dX7_current_65 : decode cX7_current 65 = .ok (.aload_n 0, 1) := by decide +kernel
theorem dX7_current_66 : decode cX7_current 66 = .ok (.getfield 132, 3) := by decide +kernel
theorem dX7_current_69 : decode cX7_current 69 = .ok (.if_icmp .ge 21, 3) := by decide +kernel
theorem dX7_current_72 : decode cX7_current 72 = .ok (.aload_n 0, 1) := by decide +kernel
theorem dX7_current_73 : decode cX7_current 73 = .ok (.getfield 57, 3) := by decide +kernel
theorem dX7_current_76 : decode cX7_current 76 = .ok (.iload 8, 2) := by decide +kernel
theorem dX7_current_78 : decode cX7_current 78 = .ok (.daload, 1) := by decide +kernel
theorem dX7_current_79 : decode cX7_current 79 = .ok (.dload_n 1, 1) := by decide +kernel
theorem dX7_current_80 : decode cX7_current 80 = .ok (.dcmp .g, 1) := by decide +kernel
theorem dX7_current_81 : decode cX7_current 81 = .ok (.ifCond .ge 9, 3) := by decide +kernel
theorem dX7_current_84 : decode cX7_current 84 = .ok (.iinc 8 1, 3) := by decide +kernel
theorem dX7_current_87 : decode cX7_current 87 = .ok (.goto (-24), 3) := by decide +kernel
theorem dX7_current_90 : decode cX7_current 90 = .ok (.iload 8, 2) := by decide +kernel
theorem dX7_current_92 : decode cX7_current 92 = .ok (.aload_n 0, 1) := by decide +kernel
theorem dX7_current_93 : decode cX7_current 93 = .ok (.getfield 132, 3) := by decide +kernel
theorem dX7_current_96 : decode cX7_current 96 = .ok (.if_icmp .eq 15, 3) := by decide +kernel
theorem dX7_current_99 : decode cX7_current 99 = .ok (.aload_n 0, 1) := by decide +kernel
theorem dX7_current_100 : decode cX7_current 100 = .ok (.getfield 57, 3) := by decide +kernel
theorem dX7_current_103 : decode cX7_current 103 = .ok (.iload 8, 2) := by decide +kernel
theorem dX7_current_105 : decode cX7_current 105 = .ok (.daload, 1) := by decide +kernel
theorem dX7_current_106 : decode cX7_current 106 = .ok (.dload_n 1, 1) := by decide +kernel
theorem dX7_current_107 : decode cX7_current 107 = .ok (.dcmp .l, 1) := by decide +kernel
theorem dX7_current_108 : decode cX7_current 108 = .ok (.ifCond .eq 91, 3) := by decide +kernel
theorem dX7_current_111 : decode cX7_current 111 = .ok (.aload_n 0, 1) := by decide +kernel
theorem dX7_current_112 : decode cX7_current 112 = .ok (.getfield 132, 3) := by decide +kernel
theorem dX7_current_115 : decode cX7_current 115 = .ok (.bipush 10, 2) := by decide +kernel
theorem dX7_current_117 : decode cX7_current 117 = .ok (.if_icmp .ne 5, 3) := by decide +kernel
theorem dX7_current_120 : decode cX7_current 120 = .ok (.iconst 0, 1) := by decide +kernel
theorem dX7_current_121 : decode cX7_current 121 = .ok (.ireturn, 1) := by decide +kernel
theorem dX7_current_122 : decode cX7_current 122 = .ok (.aload_n 0, 1) := by decide +kernel
theorem dX7_current_123 : decode cX7_current 123 = .ok (.getfield 132, 3) := by decide +kernel
theorem dX7_current_126 : decode cX7_current 126 = .ok (.istore 9, 2) := by decide +kernel
theorem dX7_current_128 : decode cX7_current 128 = .ok (.iload 9, 2) := by decide +kernel
theorem dX7_current_130 : decode cX7_current 130 = .ok (.iload 8, 2) := by decide +kernel
theorem dX7_current_132 : decode cX7_current 132 = .ok (.if_icmp .le 57, 3) := by decide +kernel
theorem dX7_current_135 : decode cX7_current 135 = .ok (.aload_n 0, 1) := by decide +kernel
theorem dX7_current_136 : decode cX7_current 136 = .ok (.getfield 57, 3) := by decide +kernel
theorem dX7_current_139 : decode cX7_current 139 = .ok (.iload 9, 2) := by decide +kernel
theorem dX7_current_141 : decode cX7_current 141 = .ok (.aload_n 0, 1) := by decide +kernel
theorem dX7_current_142 : decode cX7_current 142 = .ok (.getfield 57, 3) := by decide +kernel
theorem dX7_current_145 : decode cX7_current 145 = .ok (.iload 9, 2) := by decide +kernel
theorem dX7_current_147 : decode cX7_current 147 = .ok (.iconst 1, 1) := by decide +kernel
theorem dX7_current_148 : decode cX7_current 148 = .ok (.isub, 1) := by decide +kernel
theorem dX7_current_149 : decode cX7_current 149 = .ok (.daload, 1) := by decide +kernel
theorem dX7_current_150 : decode cX7_current 150 = .ok (.dastore, 1) := by decide +kernel
theorem dX7_current_151 : decode cX7_current 151 = .ok (.aload_n 0, 1) := by decide +kernel
theorem dX7_current_152 : decode cX7_current 152 = .ok (.getfield 60, 3) := by decide +kernel
theorem dX7_current_155 : decode cX7_current 155 = .ok (.iload 9, 2) := by decide +kernel
theorem dX7_current_157 : decode cX7_current 157 = .ok (.aload_n 0, 1) := by decide +kernel
theorem dX7_current_158 : decode cX7_current 158 = .ok (.getfield 60, 3) := by decide +kernel
theorem dX7_current_161 : decode cX7_current 161 = .ok (.iload 9, 2) := by decide +kernel
theorem dX7_current_163 : decode cX7_current 163 = .ok (.iconst 1, 1) := by decide +kernel
theorem dX7_current_164 : decode cX7_current 164 = .ok (.isub, 1) := by decide +kernel
theorem dX7_current_165 : decode cX7_current 165 = .ok (.daload, 1) := by decide +kernel
theorem dX7_current_166 : decode cX7_current 166 = .ok (.dastore, 1) := by decide +kernel
theorem dX7_current_167 : decode cX7_current 167 = .ok (.aload_n 0, 1) := by decide +kernel
theorem dX7_current_168 : decode cX7_current 168 = .ok (.getfield 63, 3) := by decide +kernel
theorem dX7_current_171 : decode cX7_current 171 = .ok (.iload 9, 2) := by decide +kernel
theorem dX7_current_173 : decode cX7_current 173 = .ok (.aload_n 0, 1) := by decide +kernel
theorem dX7_current_174 : decode cX7_current 174 = .ok (.getfield 63, 3) := by decide +kernel
theorem dX7_current_177 : decode cX7_current 177 = .ok (.iload 9, 2) := by decide +kernel
theorem dX7_current_179 : decode cX7_current 179 = .ok (.iconst 1, 1) := by decide +kernel
theorem dX7_current_180 : decode cX7_current 180 = .ok (.isub, 1) := by decide +kernel
theorem dX7_current_181 : decode cX7_current 181 = .ok (.daload, 1) := by decide +kernel
theorem dX7_current_182 : decode cX7_current 182 = .ok (.dastore, 1) := by decide +kernel
theorem dX7_current_183 : decode cX7_current 183 = .ok (.iinc 9 (-1), 3) := by decide +kernel
theorem dX7_current_186 : decode cX7_current 186 = .ok (.goto (-58), 3) := by decide +kernel
theorem dX7_current_189 : decode cX7_current 189 = .ok (.aload_n 0, 1) := by decide +kernel
theorem dX7_current_190 : decode cX7_current 190 = .ok (.dup, 1) := by decide +kernel
theorem dX7_current_191 : decode cX7_current 191 = .ok (.getfield 132, 3) := by decide +kernel
theorem dX7_current_194 : decode cX7_current 194 = .ok (.iconst 1, 1) := by decide +kernel
theorem dX7_current_195 : decode cX7_current 195 = .ok (.iadd, 1) := by decide +kernel
theorem dX7_current_196 : decode cX7_current 196 = .ok (.putfield 132, 3) := by decide +kernel
theorem dX7_current_199 : decode cX7_current 199 = .ok (.dload_n 3, 1) := by decide +kernel
theorem dX7_current_200 : decode cX7_current 200 = .ok (.ldc2_w 139, 3) := by decide +kernel
theorem dX7_current_203 : decode cX7_current 203 = .ok (.dmul, 1) := by decide +kernel
theorem dX7_current_204 : decode cX7_current 204 = .ok (.dstore 9, 2) := by decide +kernel
theorem dX7_current_206 : decode cX7_current 206 = .ok (.aload_n 0, 1) := by decide +kernel
theorem dX7_current_207 : decode cX7_current 207 = .ok (.getfield 57, 3) := by decide +kernel
theorem dX7_current_210 : decode cX7_current 210 = .ok (.iload 8, 2) := by decide +kernel
theorem dX7_current_212 : decode cX7_current 212 = .ok (.dload_n 1, 1) := by decide +kernel
theorem dX7_current_213 : decode cX7_current 213 = .ok (.dastore, 1) := by decide +kernel
theorem dX7_current_214 : decode cX7_current 214 = .ok (.aload_n 0, 1) := by decide +kernel
theorem dX7_current_215 : decode cX7_current 215 = .ok (.getfield 60, 3) := by decide +kernel
theorem dX7_current_218 : decode cX7_current 218 = .ok (.iload 8, 2) := by decide +kernel
theorem dX7_current_220 : decode cX7_current 220 = .ok (.iload 7, 2) := by decide +kernel
theorem dX7_current_222 : decode cX7_current 222 = .ok (.ifCond .ne 7, 3) := by decide +kernel
theorem dX7_current_225 : decode cX7_current 225 = .ok (.dload_n 3, 1) := by decide +kernel
theorem dX7_current_226 : decode cX7_current 226 = .ok (.goto 54, 3) := by decide +kernel
theorem dX7_current_229 : decode cX7_current 229 = .ok (.iload 7, 2) := by decide +kernel
theorem dX7_current_231 : decode cX7_current 231 = .ok (.iconst 1, 1) := by decide +kernel
theorem dX7_current_232 : decode cX7_current 232 = .ok (.if_icmp .eq 10, 3) := by decide +kernel
theorem dX7_current_235 : decode cX7_current 235 = .ok (.iload 7, 2) := by decide +kernel
theorem dX7_current_237 : decode cX7_current 237 = .ok (.bipush 7, 2) := by decide +kernel
theorem dX7_current_239 : decode cX7_current 239 = .ok (.if_icmp .ne 8, 3) := by decide +kernel
theorem dX7_current_242 : decode cX7_current 242 = .ok (.dload 9, 2) := by decide +kernel
theorem dX7_current_244 : decode cX7_current 244 = .ok (.goto 36, 3) := by decide +kernel
theorem dX7_current_247 : decode cX7_current 247 = .ok (.iload 7, 2) := by decide +kernel
theorem dX7_current_249 : decode cX7_current 249 = .ok (.iconst 2, 1) := by decide +kernel
theorem dX7_current_250 : decode cX7_current 250 = .ok (.if_icmp .eq 10, 3) := by decide +kernel
theorem dX7_current_253 : decode cX7_current 253 = .ok (.iload 7, 2) := by decide +kernel
theorem dX7_current_255 : decode cX7_current 255 = .ok (.bipush 6, 2) := by decide +kernel
theorem dX7_current_257 : decode cX7_current 257 = .ok (.if_icmp .ne 7, 3) := by decide +kernel
theorem dX7_current_260 : decode cX7_current 260 = .ok (.dconst 0, 1) := by decide +kernel
theorem dX7_current_261 : decode cX7_current 261 = .ok (.goto 19, 3) := by decide +kernel
theorem dX7_current_264 : decode cX7_current 264 = .ok (.iload 7, 2) := by decide +kernel
theorem dX7_current_266 : decode cX7_current 266 = .ok (.iconst 4, 1) := by decide +kernel
theorem dX7_current_267 : decode cX7_current 267 = .ok (.if_icmp .ne 9, 3) := by decide +kernel
theorem dX7_current_270 : decode cX7_current 270 = .ok (.dconst 0, 1) := by decide +kernel
theorem dX7_current_271 : decode cX7_current 271 = .ok (.dload_n 3, 1) := by decide +kernel
theorem dX7_current_272 : decode cX7_current 272 = .ok (.dsub, 1) := by decide +kernel
theorem dX7_current_273 : decode cX7_current 273 = .ok (.goto 7, 3) := by decide +kernel
theorem dX7_current_276 : decode cX7_current 276 = .ok (.dconst 0, 1) := by decide +kernel
theorem dX7_current_277 : decode cX7_current 277 = .ok (.dload 9, 2) := by decide +kernel
theorem dX7_current_279 : decode cX7_current 279 = .ok (.dsub, 1) := by decide +kernel
theorem dX7_current_280 : decode cX7_current 280 = .ok (.dastore, 1) := by decide +kernel
theorem dX7_current_281 : decode cX7_current 281 = .ok (.aload_n 0, 1) := by decide +kernel
theorem dX7_current_282 : decode cX7_current 282 = .ok (.getfield 63, 3) := by decide +kernel
theorem dX7_current_285 : decode cX7_current 285 = .ok (.iload 8, 2) := by decide +kernel
theorem dX7_current_287 : decode cX7_current 287 = .ok (.iload 7, 2) := by decide +kernel
theorem dX7_current_289 : decode cX7_current 289 = .ok (.iconst 2, 1) := by decide +kernel
theorem dX7_current_290 : decode cX7_current 290 = .ok (.if_icmp .ne 7, 3) := by decide +kernel
theorem dX7_current_293 : decode cX7_current 293 = .ok (.dload_n 3, 1) := by decide +kernel
theorem dX7_current_294 : decode cX7_current 294 = .ok (.goto 52, 3) := by decide +kernel
theorem dX7_current_297 : decode cX7_current 297 = .ok (.iload 7, 2) := by decide +kernel
theorem dX7_current_299 : decode cX7_current 299 = .ok (.iconst 1, 1) := by decide +kernel
theorem dX7_current_300 : decode cX7_current 300 = .ok (.if_icmp .eq 9, 3) := by decide +kernel
theorem dX7_current_303 : decode cX7_current 303 = .ok (.iload 7, 2) := by decide +kernel
theorem dX7_current_305 : decode cX7_current 305 = .ok (.iconst 3, 1) := by decide +kernel
theorem dX7_current_306 : decode cX7_current 306 = .ok (.if_icmp .ne 8, 3) := by decide +kernel
theorem dX7_current_309 : decode cX7_current 309 = .ok (.dload 9, 2) := by decide +kernel
theorem dX7_current_311 : decode cX7_current 311 = .ok (.goto 35, 3) := by decide +kernel
theorem dX7_current_314 : decode cX7_current 314 = .ok (.iload 7, 2) := by decide +kernel
theorem dX7_current_316 : decode cX7_current 316 = .ok (.ifCond .eq 9, 3) := by decide +kernel
theorem dX7_current_319 : decode cX7_current 319 = .ok (.iload 7, 2) := by decide +kernel
theorem dX7_current_321 : decode cX7_current 321 = .ok (.iconst 4, 1) := by decide +kernel
theorem dX7_current_322 : decode cX7_current 322 = .ok (.if_icmp .ne 7, 3) := by decide +kernel
theorem dX7_current_325 : decode cX7_current 325 = .ok (.dconst 0, 1) := by decide +kernel
theorem dX7_current_326 : decode cX7_current 326 = .ok (.goto 20, 3) := by decide +kernel
theorem dX7_current_329 : decode cX7_current 329 = .ok (.iload 7, 2) := by decide +kernel
theorem dX7_current_331 : decode cX7_current 331 = .ok (.bipush 6, 2) := by decide +kernel
theorem dX7_current_333 : decode cX7_current 333 = .ok (.if_icmp .ne 9, 3) := by decide +kernel
theorem dX7_current_336 : decode cX7_current 336 = .ok (.dconst 0, 1) := by decide +kernel
theorem dX7_current_337 : decode cX7_current 337 = .ok (.dload_n 3, 1) := by decide +kernel
theorem dX7_current_338 : decode cX7_current 338 = .ok (.dsub, 1) := by decide +kernel
theorem dX7_current_339 : decode cX7_current 339 = .ok (.goto 7, 3) := by decide +kernel
theorem dX7_current_342 : decode cX7_current 342 = .ok (.dconst 0, 1) := by decide +kernel
theorem dX7_current_343 : decode cX7_current 343 = .ok (.dload 9, 2) := by decide +kernel
theorem dX7_current_345 : decode cX7_current 345 = .ok (.dsub, 1) := by decide +kernel
theorem dX7_current_346 : decode cX7_current 346 = .ok (.dastore, 1) := by decide +kernel
theorem dX7_current_347 : decode cX7_current 347 = .ok (.iconst 1, 1) := by decide +kernel
theorem dX7_current_348 : decode cX7_current 348 = .ok (.ireturn, 1) := by decide +kernel
theorem dX7_speed_0 : decode cX7_speed 0 = .ok (.dconst 0, 1) := by decide +kernel
theorem dX7_speed_1 : decode cX7_speed 1 = .ok (.dstore 4, 2) := by decide +kernel
theorem dX7_speed_3 : decode cX7_speed 3 = .ok (.aload_n 0, 1) := by decide +kernel
theorem dX7_speed_4 : decode cX7_speed 4 = .ok (.getfield 132, 3) := by decide +kernel
theorem dX7_speed_7 : decode cX7_speed 7 = .ok (.ifCond .le 154, 3) := by decide +kernel
theorem dX7_speed_10 : decode cX7_speed 10 = .ok (.iconst 0, 1) := by decide +kernel
theorem dX7_speed_11 : decode cX7_speed 11 = .ok (.istore 6, 2) := by decide +kernel
theorem dX7_speed_13 : decode cX7_speed 13 = .ok (.iload 6, 2) := by decide +kernel
theorem dX7_speed_15 : decode cX7_speed 15 = .ok (.iconst 1, 1) := by decide +kernel
theorem dX7_speed_16 : decode cX7_speed 16 = .ok (.iadd, 1) := by decide +kernel
theorem dX7_speed_17 : decode cX7_speed 17 = .ok (.aload_n 0, 1) := by decide +kernel
theorem dX7_speed_18 : decode cX7_speed 18 = .ok (.getfield 132, 3) := by decide +kernel
theorem dX7_speed_21 : decode cX7_speed 21 = .ok (.if_icmp .ge 23, 3) := by decide +kernel
theorem dX7_speed_24 : decode cX7_speed 24 = .ok (.aload_n 0, 1) := by decide +kernel
theorem dX7_speed_25 : decode cX7_speed 25 = .ok (.getfield 57, 3) := by decide +kernel
theorem dX7_speed_28 : decode cX7_speed 28 = .ok (.iload 6, 2) := by decide +kernel
theorem dX7_speed_30 : decode cX7_speed 30 = .ok (.iconst 1, 1) := by decide +kernel
theorem dX7_speed_31 : decode cX7_speed 31 = .ok (.iadd, 1) := by decide +kernel
theorem dX7_speed_32 : decode cX7_speed 32 = .ok (.daload, 1) := by decide +kernel
theorem dX7_speed_33 : decode cX7_speed 33 = .ok (.dload_n 1, 1) := by decide +kernel
theorem dX7_speed_34 : decode cX7_speed 34 = .ok (.dcmp .g, 1) := by decide +kernel
theorem dX7_speed_35 : decode cX7_speed 35 = .ok (.ifCond .gt 9, 3) := by decide +kernel
theorem dX7_speed_38 : decode cX7_speed 38 = .ok (.iinc 6 1, 3) := by decide +kernel
theorem dX7_speed_41 : decode cX7_speed 41 = .ok (.goto (-28), 3) := by decide +kernel
theorem dX7_speed_44 : decode cX7_speed 44 = .ok (.iload_n 3, 1) := by decide +kernel
theorem dX7_speed_45 : decode cX7_speed 45 = .ok (.ifCond .eq 13, 3) := by decide +kernel
theorem dX7_speed_48 : decode cX7_speed 48 = .ok (.aload_n 0, 1) := by decide +kernel
theorem dX7_speed_49 : decode cX7_speed 49 = .ok (.getfield 60, 3) := by decide +kernel
theorem dX7_speed_52 : decode cX7_speed 52 = .ok (.iload 6, 2) := by decide +kernel
theorem dX7_speed_54 : decode cX7_speed 54 = .ok (.daload, 1) := by decide +kernel
theorem dX7_speed_55 : decode cX7_speed 55 = .ok (.goto 10, 3) := by decide +kernel
theorem dX7_speed_58 : decode cX7_speed 58 = .ok (.aload_n 0, 1) := by decide +kernel
theorem dX7_speed_59 : decode cX7_speed 59 = .ok (.getfield 63, 3) := by decide +kernel
theorem dX7_speed_62 : decode cX7_speed 62 = .ok (.iload 6, 2) := by decide +kernel
theorem dX7_speed_64 : decode cX7_speed 64 = .ok (.daload, 1) := by decide +kernel
theorem dX7_speed_65 : decode cX7_speed 65 = .ok (.dstore 7, 2) := by decide +kernel
theorem dX7_speed_67 : decode cX7_speed 67 = .ok (.dload_n 1, 1) := by decide +kernel
theorem dX7_speed_68 : decode cX7_speed 68 = .ok (.aload_n 0, 1) := by decide +kernel
theorem dX7_speed_69 : decode cX7_speed 69 = .ok (.getfield 57, 3) := by decide +kernel
theorem dX7_speed_72 : decode cX7_speed 72 = .ok (.iconst 0, 1) := by decide +kernel
theorem dX7_speed_73 : decode cX7_speed 73 = .ok (.daload, 1) := by decide +kernel
theorem dX7_speed_74 : decode cX7_speed 74 = .ok (.dcmp .g, 1) := by decide +kernel
theorem dX7_speed_75 : decode cX7_speed 75 = .ok (.ifCond .lt 14, 3) := by decide +kernel
theorem dX7_speed_78 : decode cX7_speed 78 = .ok (.iload 6, 2) := by decide +kernel
theorem dX7_speed_80 : decode cX7_speed 80 = .ok (.iconst 1, 1) := by decide +kernel
theorem dX7_speed_81 : decode cX7_speed 81 = .ok (.iadd, 1) := by decide +kernel
theorem dX7_speed_82 : decode cX7_speed 82 = .ok (.aload_n 0, 1) := by decide +kernel
theorem dX7_speed_83 : decode cX7_speed 83 = .ok (.getfield 132, 3) := by decide +kernel
theorem dX7_speed_86 : decode cX7_speed 86 = .ok (.if_icmp .ne 10, 3) := by decide +kernel
theorem dX7_speed_89 : decode cX7_speed 89 = .ok (.dload 7, 2) := by decide +kernel
theorem dX7_speed_91 : decode cX7_speed 91 = .ok (.dstore 4, 2) := by decide +kernel
theorem dX7_speed_93 : decode cX7_speed 93 = .ok (.goto 68, 3) := by decide +kernel
theorem dX7_speed_96 : decode cX7_speed 96 = .ok (.iload_n 3, 1) := by decide +kernel
theorem dX7_speed_97 : decode cX7_speed 97 = .ok (.ifCond .eq 15, 3) := by decide +kernel
theorem dX7_speed_100 : decode cX7_speed 100 = .ok (.aload_n 0, 1) := by decide +kernel
theorem dX7_speed_101 : decode cX7_speed 101 = .ok (.getfield 60, 3) := by decide +kernel
theorem dX7_speed_104 : decode cX7_speed 104 = .ok (.iload 6, 2) := by decide +kernel
theorem dX7_speed_106 : decode cX7_speed 106 = .ok (.iconst 1, 1) := by decide +kernel
theorem dX7_speed_107 : decode cX7_speed 107 = .ok (.iadd, 1) := by decide +kernel
theorem dX7_speed_108 : decode cX7_speed 108 = .ok (.daload, 1) := by decide +kernel
theorem dX7_speed_109 : decode cX7_speed 109 = .ok (.goto 12, 3) := by decide +kernel
theorem dX7_speed_112 : decode cX7_speed 112 = .ok (.aload_n 0, 1) := by decide +kernel
theorem dX7_speed_113 : decode cX7_speed 113 = .ok (.getfield 63, 3) := by decide +kernel
theorem dX7_speed_116 : decode cX7_speed 116 = .ok (.iload 6, 2) := by decide +kernel
theorem dX7_speed_118 : decode cX7_speed 118 = .ok (.iconst 1, 1) := by decide +kernel
theorem dX7_speed_119 : decode cX7_speed 119 = .ok (.iadd, 1) := by decide +kernel
theorem dX7_speed_120 : decode cX7_speed 120 = .ok (.daload, 1) := by decide +kernel
theorem dX7_speed_121 : decode cX7_speed 121 = .ok (.dstore 9, 2) := by decide +kernel
theorem dX7_speed_123 : decode cX7_speed 123 = .ok (.dload 7, 2) := by decide +kernel
theorem dX7_speed_125 : decode cX7_speed 125 = .ok (.dload 9, 2) := by decide +kernel
theorem dX7_speed_127 : decode cX7_speed 127 = .ok (.dload 7, 2) := by decide +kernel
theorem dX7_speed_129 : decode cX7_speed 129 = .ok (.dsub, 1) := by decide +kernel
theorem dX7_speed_130 : decode cX7_speed 130 = .ok (.dload_n 1, 1) := by decide +kernel
theorem dX7_speed_131 : decode cX7_speed 131 = .ok (.aload_n 0, 1) := by decide +kernel
theorem dX7_speed_132 : decode cX7_speed 132 = .ok (.getfield 57, 3) := by decide +kernel
theorem dX7_speed_135 : decode cX7_speed 135 = .ok (.iload 6, 2) := by decide +kernel
theorem dX7_speed_137 : decode cX7_speed 137 = .ok (.daload, 1) := by decide +kernel
theorem dX7_speed_138 : decode cX7_speed 138 = .ok (.dsub, 1) := by decide +kernel
theorem dX7_speed_139 : decode cX7_speed 139 = .ok (.aload_n 0, 1) := by decide +kernel
theorem dX7_speed_140 : decode cX7_speed 140 = .ok (.getfield 57, 3) := by decide +kernel
theorem dX7_speed_143 : decode cX7_speed 143 = .ok (.iload 6, 2) := by decide +kernel
theorem dX7_speed_145 : decode cX7_speed 145 = .ok (.iconst 1, 1) := by decide +kernel
theorem dX7_speed_146 : decode cX7_speed 146 = .ok (.iadd, 1) := by decide +kernel
theorem dX7_speed_147 : decode cX7_speed 147 = .ok (.daload, 1) := by decide +kernel
theorem dX7_speed_148 : decode cX7_speed 148 = .ok (.aload_n 0, 1) := by decide +kernel
theorem dX7_speed_149 : decode cX7_speed 149 = .ok (.getfield 57, 3) := by decide +kernel
theorem dX7_speed_152 : decode cX7_speed 152 = .ok (.iload 6, 2) := by decide +kernel
theorem dX7_speed_154 : decode cX7_speed 154 = .ok (.daload, 1) := by decide +kernel
theorem dX7_speed_155 : decode cX7_speed 155 = .ok (.dsub, 1) := by decide +kernel
theorem dX7_speed_156 : decode cX7_speed 156 = .ok (.ddiv, 1) := by decide +kernel
theorem dX7_speed_157 : decode cX7_speed 157 = .ok (.dmul, 1) := by decide +kernel
theorem dX7_speed_158 : decode cX7_speed 158 = .ok (.dadd, 1) := by decide +kernel
theorem dX7_speed_159 : decode cX7_speed 159 = .ok (.dstore 4, 2) := by decide +kernel
theorem dX7_speed_161 : decode cX7_speed 161 = .ok (.dload 4, 2) := by decide +kernel
theorem dX7_speed_163 : decode cX7_speed 163 = .ok (.dconst 1, 1) := by decide +kernel
theorem dX7_speed_164 : decode cX7_speed 164 = .ok (.aload_n 0, 1) := by decide +kernel
theorem dX7_speed_165 : decode cX7_speed 165 = .ok (.getfield 129, 3) := by decide +kernel
theorem dX7_speed_168 : decode cX7_speed 168 = .ok (.dadd, 1) := by decide +kernel
theorem dX7_speed_169 : decode cX7_speed 169 = .ok (.dmul, 1) := by decide +kernel
theorem dX7_speed_170 : decode cX7_speed 170 = .ok (.dreturn, 1) := by decide +kernel
set_option maxRecDepth 100000 in
theorem ggX7_forces_X7_root : GoodIn wsX7_forces wsX7_root := goodIn_r _ [27, 17] rfl (by decide +kernel)
set_option maxRecDepth 100000 in
theorem gX7_forces_X7_root : GoodIn wsX7_forces (va_wsS RX7 141 yX7_root wsX7_root) := goodIn_app (goodIn_of _ (by decide +kernel)) ggX7_forces_X7_root
set_option maxRecDepth 100000 in
theorem ggX7_forces_X7_speed : GoodIn wsX7_forces wsX7_speed := goodIn_r _ [31, 32, 33, 34, 35, 36, 49, 50, 51, 52, 53, 54, 55, 56, 57, 58, 59, 60, 61, 62, 63, 64, 65, 66, 67, 68, 69, 70, 71, 72, 73, 74, 75, 76, 77, 78, 79] rfl (by decide +kernel)
set_option maxRecDepth 100000 in
theorem gX7_forces_X7_speed : GoodIn wsX7_forces (wsV RX7 147 RX7 yX7_speed wsX7_speed) := goodIn_app (goodIn_of _ (by decide +kernel)) ggX7_forces_X7_speed
set_option maxRecDepth 100000 in
theorem ggX7_forces_X7_size : GoodIn wsX7_forces wsX7_size := goodIn_r _ [39] rfl (by decide +kernel)
set_option maxRecDepth 100000 in
theorem gX7_forces_X7_size : GoodIn wsX7_forces (va_wsS RX7 155 yX7_size wsX7_size) := goodIn_app (goodIn_of _ (by decide +kernel)) ggX7_forces_X7_size
set_option maxRecDepth 100000 in
theorem ggX7_forces_J9_max_eb370 : GoodIn wsX7_forces wsJ9_max_eb370 := goodIn_r _ [43, 44, 45, 46, 47, 48] rfl (by decide +kernel)
set_option maxRecDepth 100000 in
theorem gX7_forces_J9_max_eb370 : GoodIn wsX7_forces (va_wsS RX7 158 yJ9_max_eb370 wsJ9_max_eb370) := goodIn_app (goodIn_of _ (by decide +kernel)) ggX7_forces_J9_max_eb370
theorem dX7_forces_0 : decode cX7_forces 0 = .ok (.iconst 0, 1) := by decide +kernel
theorem dX7_forces_1 : decode cX7_forces 1 = .ok (.istore_n 1, 1) := by decide +kernel
theorem dX7_forces_2 : decode cX7_forces 2 = .ok (.iload_n 1, 1) := by decide +kernel
theorem dX7_forces_3 : decode cX7_forces 3 = .ok (.aload_n 0, 1) := by decide +kernel
theorem dX7_forces_4 : decode cX7_forces 4 = .ok (.getfield 89, 3) := by decide +kernel
theorem dX7_forces_7 : decode cX7_forces 7 = .ok (.if_icmp .ge 44, 3) := by decide +kernel
theorem dX7_forces_10 : decode cX7_forces 10 = .ok (.aload_n 0, 1) := by decide +kernel
theorem dX7_forces_11 : decode cX7_forces 11 = .ok (.getfield 29, 3) := by decide +kernel
theorem dX7_forces_14 : decode cX7_forces 14 = .ok (.iload_n 1, 1) := by decide +kernel
theorem dX7_forces_15 : decode cX7_forces 15 = .ok (.dconst 0, 1) := by decide +kernel
theorem dX7_forces_16 : decode cX7_forces 16 = .ok (.dastore, 1) := by decide +kernel
theorem dX7_forces_17 : decode cX7_forces 17 = .ok (.aload_n 0, 1) := by decide +kernel
theorem dX7_forces_18 : decode cX7_forces 18 = .ok (.getfield 32, 3) := by decide +kernel
theorem dX7_forces_21 : decode cX7_forces 21 = .ok (.iload_n 1, 1) := by decide +kernel
theorem dX7_forces_22 : decode cX7_forces 22 = .ok (.dconst 0, 1) := by decide +kernel
theorem dX7_forces_23 : decode cX7_forces 23 = .ok (.dastore, 1) := by decide +kernel
theorem dX7_forces_24 : decode cX7_forces 24 = .ok (.aload_n 0, 1) := by decide +kernel
theorem dX7_forces_25 : decode cX7_forces 25 = .ok (.getfield 35, 3) := by decide +kernel
theorem dX7_forces_28 : decode cX7_forces 28 = .ok (.iload_n 1, 1) := by decide +kernel
theorem dX7_forces_29 : decode cX7_forces 29 = .ok (.dconst 0, 1) := by decide +kernel
theorem dX7_forces_30 : decode cX7_forces 30 = .ok (.aload_n 0, 1) := by decide +kernel
theorem dX7_forces_31 : decode cX7_forces 31 = .ok (.getfield 22, 3) := by decide +kernel
theorem dX7_forces_34 : decode cX7_forces 34 = .ok (.iload_n 1, 1) := by decide +kernel
theorem dX7_forces_35 : decode cX7_forces 35 = .ok (.daload, 1) := by decide +kernel
theorem dX7_forces_36 : decode cX7_forces 36 = .ok (.aload_n 0, 1) := by decide +kernel
theorem dX7_forces_37 : decode cX7_forces 37 = .ok (.getfield 19, 3) := by decide +kernel
theorem dX7_forces_40 : decode cX7_forces 40 = .ok (.iload_n 1, 1) := by decide +kernel
theorem dX7_forces_41 : decode cX7_forces 41 = .ok (.daload, 1) := by decide +kernel
theorem dX7_forces_42 : decode cX7_forces 42 = .ok (.dsub, 1) := by decide +kernel
theorem dX7_forces_43 : decode cX7_forces 43 = .ok (.dadd, 1) := by decide +kernel
theorem dX7_forces_44 : decode cX7_forces 44 = .ok (.dastore, 1) := by decide +kernel
theorem dX7_forces_45 : decode cX7_forces 45 = .ok (.iinc 1 1, 3) := by decide +kernel
theorem dX7_forces_48 : decode cX7_forces 48 = .ok (.goto (-46), 3) := by decide +kernel
theorem dX7_forces_51 : decode cX7_forces 51 = .ok (.aload_n 0, 1) := by decide +kernel
theorem dX7_forces_52 : decode cX7_forces 52 = .ok (.getfield 72, 3) := by decide +kernel
theorem dX7_forces_55 : decode cX7_forces 55 = .ok (.iconst 0, 1) := by decide +kernel
theorem dX7_forces_56 : decode cX7_forces 56 = .ok (.dconst 0, 1) := by decide +kernel
theorem dX7_forces_57 : decode cX7_forces 57 = .ok (.dastore, 1) := by decide +kernel
theorem dX7_forces_58 : decode cX7_forces 58 = .ok (.aload_n 0, 1) := by decide +kernel
theorem dX7_forces_59 : decode cX7_forces 59 = .ok (.getfield 72, 3) := by decide +kernel
theorem dX7_forces_62 : decode cX7_forces 62 = .ok (.iconst 1, 1) := by decide +kernel
theorem dX7_forces_63 : decode cX7_forces 63 = .ok (.dconst 0, 1) := by decide +kernel
theorem dX7_forces_64 : decode cX7_forces 64 = .ok (.dastore, 1) := by decide +kernel
theorem dX7_forces_65 : decode cX7_forces 65 = .ok (.aload_n 0, 1) := by decide +kernel
theorem dX7_forces_66 : decode cX7_forces 66 = .ok (.getfield 72, 3) := by decide +kernel
theorem dX7_forces_69 : decode cX7_forces 69 = .ok (.iconst 2, 1) := by decide +kernel
theorem dX7_forces_70 : decode cX7_forces 70 = .ok (.dconst 0, 1) := by decide +kernel
theorem dX7_forces_71 : decode cX7_forces 71 = .ok (.dastore, 1) := by decide +kernel
theorem dX7_forces_72 : decode cX7_forces 72 = .ok (.iconst 0, 1) := by decide +kernel
theorem dX7_forces_73 : decode cX7_forces 73 = .ok (.istore_n 1, 1) := by decide +kernel
theorem dX7_forces_74 : decode cX7_forces 74 = .ok (.iload_n 1, 1) := by decide +kernel
theorem dX7_forces_75 : decode cX7_forces 75 = .ok (.aload_n 0, 1) := by decide +kernel
theorem dX7_forces_76 : decode cX7_forces 76 = .ok (.getfield 105, 3) := by decide +kernel
theorem dX7_forces_79 : decode cX7_forces 79 = .ok (.if_icmp .ge 585, 3) := by decide +kernel
theorem dX7_forces_82 : decode cX7_forces 82 = .ok (.aload_n 0, 1) := by decide +kernel
theorem dX7_forces_83 : decode cX7_forces 83 = .ok (.getfield 38, 3) := by decide +kernel
theorem dX7_forces_86 : decode cX7_forces 86 = .ok (.iload_n 1, 1) := by decide +kernel
theorem dX7_forces_87 : decode cX7_forces 87 = .ok (.iaload, 1) := by decide +kernel
theorem dX7_forces_88 : decode cX7_forces 88 = .ok (.istore_n 2, 1) := by decide +kernel
theorem dX7_forces_89 : decode cX7_forces 89 = .ok (.aload_n 0, 1) := by decide +kernel
theorem dX7_forces_90 : decode cX7_forces 90 = .ok (.getfield 42, 3) := by decide +kernel
theorem dX7_forces_93 : decode cX7_forces 93 = .ok (.iload_n 1, 1) := by decide +kernel
theorem dX7_forces_94 : decode cX7_forces 94 = .ok (.iaload, 1) := by decide +kernel
theorem dX7_forces_95 : decode cX7_forces 95 = .ok (.istore_n 3, 1) := by decide +kernel
theorem dX7_forces_96 : decode cX7_forces 96 = .ok (.aload_n 0, 1) := by decide +kernel
theorem dX7_forces_97 : decode cX7_forces 97 = .ok (.getfield 7, 3) := by decide +kernel
theorem dX7_forces_100 : decode cX7_forces 100 = .ok (.iload_n 3, 1) := by decide +kernel
theorem dX7_forces_101 : decode cX7_forces 101 = .ok (.daload, 1) := by decide +kernel
theorem dX7_forces_102 : decode cX7_forces 102 = .ok (.aload_n 0, 1) := by decide +kernel
theorem dX7_forces_103 : decode cX7_forces 103 = .ok (.getfield 7, 3) := by decide +kernel
theorem dX7_forces_106 : decode cX7_forces 106 = .ok (.iload_n 2, 1) := by decide +kernel
theorem dX7_forces_107 : decode cX7_forces 107 = .ok (.daload, 1) := by decide +kernel
theorem dX7_forces_108 : decode cX7_forces 108 = .ok (.dsub, 1) := by decide +kernel
theorem dX7_forces_109 : decode cX7_forces 109 = .ok (.dstore 4, 2) := by decide +kernel
theorem dX7_forces_111 : decode cX7_forces 111 = .ok (.aload_n 0, 1) := by decide +kernel
theorem dX7_forces_112 : decode cX7_forces 112 = .ok (.getfield 13, 3) := by decide +kernel
theorem dX7_forces_115 : decode cX7_forces 115 = .ok (.iload_n 3, 1) := by decide +kernel
theorem dX7_forces_116 : decode cX7_forces 116 = .ok (.daload, 1) := by decide +kernel
theorem dX7_forces_117 : decode cX7_forces 117 = .ok (.aload_n 0, 1) := by decide +kernel
theorem dX7_forces_118 : decode cX7_forces 118 = .ok (.getfield 13, 3) := by decide +kernel
theorem dX7_forces_121 : decode cX7_forces 121 = .ok (.iload_n 2, 1) := by decide +kernel
theorem dX7_forces_122 : decode cX7_forces 122 = .ok (.daload, 1) := by decide +kernel
theorem dX7_forces_123 : decode cX7_forces 123 = .ok (.dsub, 1) := by decide +kernel
theorem dX7_forces_124 : decode cX7_forces 124 = .ok (.dstore 6, 2) := by decide +kernel
theorem dX7_forces_126 : decode cX7_forces 126 = .ok (.aload_n 0, 1) := by decide +kernel
theorem dX7_forces_127 : decode cX7_forces 127 = .ok (.getfield 16, 3) := by decide +kernel
theorem dX7_forces_130 : decode cX7_forces 130 = .ok (.iload_n 3, 1) := by decide +kernel
theorem dX7_forces_131 : decode cX7_forces 131 = .ok (.daload, 1) := by decide +kernel
theorem dX7_forces_132 : decode cX7_forces 132 = .ok (.aload_n 0, 1) := by decide +kernel
theorem dX7_forces_133 : decode cX7_forces 133 = .ok (.getfield 16, 3) := by decide +kernel
theorem dX7_forces_136 : decode cX7_forces 136 = .ok (.iload_n 2, 1) := by decide +kernel
theorem dX7_forces_137 : decode cX7_forces 137 = .ok (.daload, 1) := by decide +kernel
theorem dX7_forces_138 : decode cX7_forces 138 = .ok (.dsub, 1) := by decide +kernel
theorem dX7_forces_139 : decode cX7_forces 139 = .ok (.dstore 8, 2) := by decide +kernel
theorem dX7_forces_141 : decode cX7_forces 141 = .ok (.dload 4, 2) := by decide +kernel
theorem dX7_forces_143 : decode cX7_forces 143 = .ok (.dload 4, 2) := by decide +kernel
theorem dX7_forces_145 : decode cX7_forces 145 = .ok (.dmul, 1) := by decide +kernel
theorem dX7_forces_146 : decode cX7_forces 146 = .ok (.dload 6, 2) := by decide +kernel
theorem dX7_forces_148 : decode cX7_forces 148 = .ok (.dload 6, 2) := by decide +kernel
theorem dX7_forces_150 : decode cX7_forces 150 = .ok (.dmul, 1) := by decide +kernel
theorem dX7_forces_151 : decode cX7_forces 151 = .ok (.dadd, 1) := by decide +kernel
theorem dX7_forces_152 : decode cX7_forces 152 = .ok (.dload 8, 2) := by decide +kernel
theorem dX7_forces_154 : decode cX7_forces 154 = .ok (.dload 8, 2) := by decide +kernel
theorem dX7_forces_156 : decode cX7_forces 156 = .ok (.dmul, 1) := by decide +kernel
theorem dX7_forces_157 : decode cX7_forces 157 = .ok (.dadd, 1) := by decide +kernel
theorem dX7_forces_158 : decode cX7_forces 158 = .ok (.invokestatic 141, 3) := by decide +kernel
theorem dX7_forces_161 : decode cX7_forces 161 = .ok (.dstore 10, 2) := by decide +kernel
theorem dX7_forces_163 : decode cX7_forces 163 = .ok (.aload_n 0, 1) := by decide +kernel
theorem dX7_forces_164 : decode cX7_forces 164 = .ok (.getfield 54, 3) := by decide +kernel
theorem dX7_forces_167 : decode cX7_forces 167 = .ok (.iload_n 1, 1) := by decide +kernel
theorem dX7_forces_168 : decode cX7_forces 168 = .ok (.dload 10, 2) := by decide +kernel
theorem dX7_forces_170 : decode cX7_forces 170 = .ok (.aload_n 0, 1) := by decide +kernel
theorem dX7_forces_171 : decode cX7_forces 171 = .ok (.getfield 45, 3) := by decide +kernel
theorem dX7_forces_174 : decode cX7_forces 174 = .ok (.iload_n 1, 1) := by decide +kernel
theorem dX7_forces_175 : decode cX7_forces 175 = .ok (.daload, 1) := by decide +kernel
theorem dX7_forces_176 : decode cX7_forces 176 = .ok (.dcmp .l, 1) := by decide +kernel
theorem dX7_forces_177 : decode cX7_forces 177 = .ok (.ifCond .le 26, 3) := by decide +kernel
theorem dX7_forces_180 : decode cX7_forces 180 = .ok (.ldc2_w 145, 3) := by decide +kernel
theorem dX7_forces_183 : decode cX7_forces 183 = .ok (.dload 10, 2) := by decide +kernel
theorem dX7_forces_185 : decode cX7_forces 185 = .ok (.aload_n 0, 1) := by decide +kernel
theorem dX7_forces_186 : decode cX7_forces 186 = .ok (.getfield 45, 3) := by decide +kernel
theorem dX7_forces_189 : decode cX7_forces 189 = .ok (.iload_n 1, 1) := by decide +kernel
theorem dX7_forces_190 : decode cX7_forces 190 = .ok (.daload, 1) := by decide +kernel
theorem dX7_forces_191 : decode cX7_forces 191 = .ok (.dsub, 1) := by decide +kernel
theorem dX7_forces_192 : decode cX7_forces 192 = .ok (.dmul, 1) := by decide +kernel
theorem dX7_forces_193 : decode cX7_forces 193 = .ok (.aload_n 0, 1) := by decide +kernel
theorem dX7_forces_194 : decode cX7_forces 194 = .ok (.getfield 45, 3) := by decide +kernel
theorem dX7_forces_197 : decode cX7_forces 197 = .ok (.iload_n 1, 1) := by decide +kernel
theorem dX7_forces_198 : decode cX7_forces 198 = .ok (.daload, 1) := by decide +kernel
theorem dX7_forces_199 : decode cX7_forces 199 = .ok (.ddiv, 1) := by decide +kernel
theorem dX7_forces_200 : decode cX7_forces 200 = .ok (.goto 4, 3) := by decide +kernel
theorem dX7_forces_203 : decode cX7_forces 203 = .ok (.dconst 0, 1) := by decide +kernel
theorem dX7_forces_204 : decode cX7_forces 204 = .ok (.dastore, 1) := by decide +kernel
theorem dX7_forces_205 : decode cX7_forces 205 = .ok (.aload_n 0, 1) := by decide +kernel
theorem dX7_forces_206 : decode cX7_forces 206 = .ok (.getfield 54, 3) := by decide +kernel
theorem dX7_forces_209 : decode cX7_forces 209 = .ok (.iload_n 1, 1) := by decide +kernel
theorem dX7_forces_210 : decode cX7_forces 210 = .ok (.daload, 1) := by decide +kernel
theorem dX7_forces_211 : decode cX7_forces 211 = .ok (.dconst 0, 1) := by decide +kernel
theorem dX7_forces_212 : decode cX7_forces 212 = .ok (.dcmp .l, 1) := by decide +kernel
theorem dX7_forces_213 : decode cX7_forces 213 = .ok (.ifCond .le 122, 3) := by decide +kernel
theorem dX7_forces_216 : decode cX7_forces 216 = .ok (.aload_n 0, 1) := by decide +kernel
theorem dX7_forces_217 : decode cX7_forces 217 = .ok (.getfield 54, 3) := by decide +kernel
theorem dX7_forces_220 : decode cX7_forces 220 = .ok (.iload_n 1, 1) := by decide +kernel
theorem dX7_forces_221 : decode cX7_forces 221 = .ok (.daload, 1) := by decide +kernel
theorem dX7_forces_222 : decode cX7_forces 222 = .ok (.dload 10, 2) := by decide +kernel
theorem dX7_forces_224 : decode cX7_forces 224 = .ok (.ddiv, 1) := by decide +kernel
theorem dX7_forces_225 : decode cX7_forces 225 = .ok (.dstore 12, 2) := by decide +kernel
theorem dX7_forces_227 : decode cX7_forces 227 = .ok (.aload_n 0, 1) := by decide +kernel
theorem dX7_forces_228 : decode cX7_forces 228 = .ok (.getfield 29, 3) := by decide +kernel
theorem dX7_forces_231 : decode cX7_forces 231 = .ok (.iload_n 2, 1) := by decide +kernel
theorem dX7_forces_232 : decode cX7_forces 232 = .ok (.aload_n 0, 1) := by decide +kernel
theorem dX7_forces_233 : decode cX7_forces 233 = .ok (.getfield 29, 3) := by decide +kernel
theorem dX7_forces_236 : decode cX7_forces 236 = .ok (.iload_n 2, 1) := by decide +kernel
theorem dX7_forces_237 : decode cX7_forces 237 = .ok (.daload, 1) := by decide +kernel
theorem dX7_forces_238 : decode cX7_forces 238 = .ok (.dload 12, 2) := by decide +kernel
theorem dX7_forces_240 : decode cX7_forces 240 = .ok (.dload 4, 2) := by decide +kernel
theorem dX7_forces_242 : decode cX7_forces 242 = .ok (.dmul, 1) := by decide +kernel
theorem dX7_forces_243 : decode cX7_forces 243 = .ok (.dadd, 1) := by decide +kernel
theorem dX7_forces_244 : decode cX7_forces 244 = .ok (.dastore, 1) := by decide +kernel
theorem dX7_forces_245 : decode cX7_forces 245 = .ok (.aload_n 0, 1) := by decide +kernel
theorem dX7_forces_246 : decode cX7_forces 246 = .ok (.getfield 32, 3) := by decide +kernel
theorem dX7_forces_249 : decode cX7_forces 249 = .ok (.iload_n 2, 1) := by decide +kernel
theorem dX7_forces_250 : decode cX7_forces 250 = .ok (.aload_n 0, 1) := by decide +kernel
theorem dX7_forces_251 : decode cX7_forces 251 = .ok (.getfield 32, 3) := by decide +kernel
theorem dX7_forces_254 : decode cX7_forces 254 = .ok (.iload_n 2, 1) := by decide +kernel
theorem dX7_forces_255 : decode cX7_forces 255 = .ok (.daload, 1) := by decide +kernel
theorem dX7_forces_256 : decode cX7_forces 256 = .ok (.dload 12, 2) := by decide +kernel
theorem dX7_forces_258 : decode cX7_forces 258 = .ok (.dload 6, 2) := by decide +kernel
theorem dX7_forces_260 : decode cX7_forces 260 = .ok (.dmul, 1) := by decide +kernel
theorem dX7_forces_261 : decode cX7_forces 261 = .ok (.dadd, 1) := by decide +kernel
theorem dX7_forces_262 : decode cX7_forces 262 = .ok (.dastore, 1) := by decide +kernel
theorem dX7_forces_263 : decode cX7_forces 263 = .ok (.aload_n 0, 1) := by decide +kernel
theorem dX7_forces_264 : decode cX7_forces 264 = .ok (.getfield 35, 3) := by decide +kernel
theorem dX7_forces_267 : decode cX7_forces 267 = .ok (.iload_n 2, 1) := by decide +kernel
theorem dX7_forces_268 : decode cX7_forces 268 = .ok (.aload_n 0, 1) := by decide +kernel
theorem dX7_forces_269 : decode cX7_forces 269 = .ok (.getfield 35, 3) := by decide +kernel
theorem dX7_forces_272 : decode cX7_forces 272 = .ok (.iload_n 2, 1) := by decide +kernel
theorem dX7_forces_273 : decode cX7_forces 273 = .ok (.daload, 1) := by decide +kernel
theorem dX7_forces_274 : decode cX7_forces 274 = .ok (.dload 12, 2) := by decide +kernel
theorem dX7_forces_276 : decode cX7_forces 276 = .ok (.dload 8, 2) := by decide +kernel
theorem dX7_forces_278 : decode cX7_forces 278 = .ok (.dmul, 1) := by decide +kernel
theorem dX7_forces_279 : decode cX7_forces 279 = .ok (.dadd, 1) := by decide +kernel
theorem dX7_forces_280 : decode cX7_forces 280 = .ok (.dastore, 1) := by decide +kernel
theorem dX7_forces_281 : decode cX7_forces 281 = .ok (.aload_n 0, 1) := by decide +kernel
theorem dX7_forces_282 : decode cX7_forces 282 = .ok (.getfield 29, 3) := by decide +kernel
theorem dX7_forces_285 : decode cX7_forces 285 = .ok (.iload_n 3, 1) := by decide +kernel
theorem dX7_forces_286 : decode cX7_forces 286 = .ok (.aload_n 0, 1) := by decide +kernel
theorem dX7_forces_287 : decode cX7_forces 287 = .ok (.getfield 29, 3) := by decide +kernel
theorem dX7_forces_290 : decode cX7_forces 290 = .ok (.iload_n 3, 1) := by decide +kernel
theorem dX7_forces_291 : decode cX7_forces 291 = .ok (.daload, 1) := by decide +kernel
theorem dX7_forces_292 : decode cX7_forces 292 = .ok (.dload 12, 2) := by decide +kernel
theorem dX7_forces_294 : decode cX7_forces 294 = .ok (.dload 4, 2) := by decide +kernel
theorem dX7_forces_296 : decode cX7_forces 296 = .ok (.dmul, 1) := by decide +kernel
theorem dX7_forces_297 : decode cX7_forces 297 = .ok (.dsub, 1) := by decide +kernel
theorem dX7_forces_298 : decode cX7_forces 298 = .ok (.dastore, 1) := by decide +kernel
theorem dX7_forces_299 : decode cX7_forces 299 = .ok (.aload_n 0, 1) := by decide +kernel
theorem dX7_forces_300 : decode cX7_forces 300 = .ok (.getfield 32, 3) := by decide +kernel
theorem dX7_forces_303 : decode cX7_forces 303 = .ok (.iload_n 3, 1) := by decide +kernel
theorem dX7_forces_304 : decode cX7_forces 304 = .ok (.aload_n 0, 1) := by decide +kernel
theorem dX7_forces_305 : decode cX7_forces 305 = .ok (.getfield 32, 3) := by decide +kernel
theorem dX7_forces_308 : decode cX7_forces 308 = .ok (.iload_n 3, 1) := by decide +kernel
theorem dX7_forces_309 : decode cX7_forces 309 = .ok (.daload, 1) := by decide +kernel
theorem dX7_forces_310 : decode cX7_forces 310 = .ok (.dload 12, 2) := by decide +kernel
theorem dX7_forces_312 : decode cX7_forces 312 = .ok (.dload 6, 2) := by decide +kernel
theorem dX7_forces_314 : decode cX7_forces 314 = .ok (.dmul, 1) := by decide +kernel
theorem dX7_forces_315 : decode cX7_forces 315 = .ok (.dsub, 1) := by decide +kernel
theorem dX7_forces_316 : decode cX7_forces 316 = .ok (.dastore, 1) := by decide +kernel
theorem dX7_forces_317 : decode cX7_forces 317 = .ok (.aload_n 0, 1) := by decide +kernel
theorem dX7_forces_318 : decode cX7_forces 318 = .ok (.getfield 35, 3) := by decide +kernel
theorem dX7_forces_321 : decode cX7_forces 321 = .ok (.iload_n 3, 1) := by decide +kernel
theorem dX7_forces_322 : decode cX7_forces 322 = .ok (.aload_n 0, 1) := by decide +kernel
theorem dX7_forces_323 : decode cX7_forces 323 = .ok (.getfield 35, 3) := by decide +kernel
theorem dX7_forces_326 : decode cX7_forces 326 = .ok (.iload_n 3, 1) := by decide +kernel
theorem dX7_forces_327 : decode cX7_forces 327 = .ok (.daload, 1) := by decide +kernel
theorem dX7_forces_328 : decode cX7_forces 328 = .ok (.dload 12, 2) := by decide +kernel
theorem dX7_forces_330 : decode cX7_forces 330 = .ok (.dload 8, 2) := by decide +kernel
theorem dX7_forces_332 : decode cX7_forces 332 = .ok (.dmul, 1) := by decide +kernel
theorem dX7_forces_333 : decode cX7_forces 333 = .ok (.dsub, 1) := by decide +kernel
theorem dX7_forces_334 : decode cX7_forces 334 = .ok (.dastore, 1) := by decide +kernel
theorem dX7_forces_335 : decode cX7_forces 335 = .ok (.dload 10, 2) := by decide +kernel
theorem dX7_forces_337 : decode cX7_forces 337 = .ok (.dconst 0, 1) := by decide +kernel
theorem dX7_forces_338 : decode cX7_forces 338 = .ok (.dcmp .l, 1) := by decide +kernel
theorem dX7_forces_339 : decode cX7_forces 339 = .ok (.ifCond .le 319, 3) := by decide +kernel
theorem dX7_forces_342 : decode cX7_forces 342 = .ok (.ldc2_w 87, 3) := by decide +kernel
theorem dX7_forces_345 : decode cX7_forces 345 = .ok (.aload_n 0, 1) := by decide +kernel
theorem dX7_forces_346 : decode cX7_forces 346 = .ok (.getfield 16, 3) := by decide +kernel
theorem dX7_forces_349 : decode cX7_forces 349 = .ok (.iload_n 2, 1) := by decide +kernel
theorem dX7_forces_350 : decode cX7_forces 350 = .ok (.daload, 1) := by decide +kernel
theorem dX7_forces_351 : decode cX7_forces 351 = .ok (.aload_n 0, 1) := by decide +kernel
theorem dX7_forces_352 : decode cX7_forces 352 = .ok (.getfield 16, 3) := by decide +kernel
theorem dX7_forces_355 : decode cX7_forces 355 = .ok (.iload_n 3, 1) := by decide +kernel
theorem dX7_forces_356 : decode cX7_forces 356 = .ok (.daload, 1) := by decide +kernel
theorem dX7_forces_357 : decode cX7_forces 357 = .ok (.dadd, 1) := by decide +kernel
theorem dX7_forces_358 : decode cX7_forces 358 = .ok (.dmul, 1) := by decide +kernel
theorem dX7_forces_359 : decode cX7_forces 359 = .ok (.dstore 12, 2) := by decide +kernel
theorem dX7_forces_361 : decode cX7_forces 361 = .ok (.aload_n 0, 1) := by decide +kernel
theorem dX7_forces_362 : decode cX7_forces 362 = .ok (.dload 12, 2) := by decide +kernel
theorem dX7_forces_364 : decode cX7_forces 364 = .ok (.iconst 1, 1) := by decide +kernel
theorem dX7_forces_365 : decode cX7_forces 365 = .ok (.invokevirtual 147, 3) := by decide +kernel
theorem dX7_forces_368 : decode cX7_forces 368 = .ok (.dstore 14, 2) := by decide +kernel
theorem dX7_forces_370 : decode cX7_forces 370 = .ok (.aload_n 0, 1) := by decide +kernel
theorem dX7_forces_371 : decode cX7_forces 371 = .ok (.dload 12, 2) := by decide +kernel
theorem dX7_forces_373 : decode cX7_forces 373 = .ok (.iconst 0, 1) := by decide +kernel
theorem dX7_forces_374 : decode cX7_forces 374 = .ok (.invokevirtual 147, 3) := by decide +kernel
theorem dX7_forces_377 : decode cX7_forces 377 = .ok (.dstore 16, 2) := by decide +kernel
theorem dX7_forces_379 : decode cX7_forces 379 = .ok (.dload 14, 2) := by decide +kernel
theorem dX7_forces_381 : decode cX7_forces 381 = .ok (.dload 4, 2) := by decide +kernel
theorem dX7_forces_383 : decode cX7_forces 383 = .ok (.dmul, 1) := by decide +kernel
theorem dX7_forces_384 : decode cX7_forces 384 = .ok (.dload 16, 2) := by decide +kernel
theorem dX7_forces_386 : decode cX7_forces 386 = .ok (.dload 6, 2) := by decide +kernel
theorem dX7_forces_388 : decode cX7_forces 388 = .ok (.dmul, 1) := by decide +kernel
theorem dX7_forces_389 : decode cX7_forces 389 = .ok (.dadd, 1) := by decide +kernel
theorem dX7_forces_390 : decode cX7_forces 390 = .ok (.dload 10, 2) := by decide +kernel
theorem dX7_forces_392 : decode cX7_forces 392 = .ok (.ddiv, 1) := by decide +kernel
theorem dX7_forces_393 : decode cX7_forces 393 = .ok (.dstore 18, 2) := by decide +kernel
theorem dX7_forces_395 : decode cX7_forces 395 = .ok (.dload 14, 2) := by decide +kernel
theorem dX7_forces_397 : decode cX7_forces 397 = .ok (.dload 18, 2) := by decide +kernel
theorem dX7_forces_399 : decode cX7_forces 399 = .ok (.dload 4, 2) := by decide +kernel
theorem dX7_forces_401 : decode cX7_forces 401 = .ok (.dmul, 1) := by decide +kernel
theorem dX7_forces_402 : decode cX7_forces 402 = .ok (.dload 10, 2) := by decide +kernel
theorem dX7_forces_404 : decode cX7_forces 404 = .ok (.ddiv, 1) := by decide +kernel
theorem dX7_forces_405 : decode cX7_forces 405 = .ok (.dsub, 1) := by decide +kernel
theorem dX7_forces_406 : decode cX7_forces 406 = .ok (.dstore 20, 2) := by decide +kernel
theorem dX7_forces_408 : decode cX7_forces 408 = .ok (.dload 16, 2) := by decide +kernel
theorem dX7_forces_410 : decode cX7_forces 410 = .ok (.dload 18, 2) := by decide +kernel
theorem dX7_forces_412 : decode cX7_forces 412 = .ok (.dload 6, 2) := by decide +kernel
theorem dX7_forces_414 : decode cX7_forces 414 = .ok (.dmul, 1) := by decide +kernel
theorem dX7_forces_415 : decode cX7_forces 415 = .ok (.dload 10, 2) := by decide +kernel
theorem dX7_forces_417 : decode cX7_forces 417 = .ok (.ddiv, 1) := by decide +kernel
theorem dX7_forces_418 : decode cX7_forces 418 = .ok (.dsub, 1) := by decide +kernel
theorem dX7_forces_419 : decode cX7_forces 419 = .ok (.dstore 22, 2) := by decide +kernel
theorem dX7_forces_421 : decode cX7_forces 421 = .ok (.dconst 0, 1) := by decide +kernel
theorem dX7_forces_422 : decode cX7_forces 422 = .ok (.dload 18, 2) := by decide +kernel
theorem dX7_forces_424 : decode cX7_forces 424 = .ok (.dload 8, 2) := by decide +kernel
theorem dX7_forces_426 : decode cX7_forces 426 = .ok (.dmul, 1) := by decide +kernel
theorem dX7_forces_427 : decode cX7_forces 427 = .ok (.dload 10, 2) := by decide +kernel
theorem dX7_forces_429 : decode cX7_forces 429 = .ok (.ddiv, 1) := by decide +kernel
theorem dX7_forces_430 : decode cX7_forces 430 = .ok (.dsub, 1) := by decide +kernel
theorem dX7_forces_431 : decode cX7_forces 431 = .ok (.dstore 24, 2) := by decide +kernel
theorem dX7_forces_433 : decode cX7_forces 433 = .ok (.dload 20, 2) := by decide +kernel
theorem dX7_forces_435 : decode cX7_forces 435 = .ok (.dload 20, 2) := by decide +kernel
theorem dX7_forces_437 : decode cX7_forces 437 = .ok (.dmul, 1) := by decide +kernel
theorem dX7_forces_438 : decode cX7_forces 438 = .ok (.dload 22, 2) := by decide +kernel
theorem dX7_forces_440 : decode cX7_forces 440 = .ok (.dload 22, 2) := by decide +kernel
theorem dX7_forces_442 : decode cX7_forces 442 = .ok (.dmul, 1) := by decide +kernel
theorem dX7_forces_443 : decode cX7_forces 443 = .ok (.dadd, 1) := by decide +kernel
theorem dX7_forces_444 : decode cX7_forces 444 = .ok (.dload 24, 2) := by decide +kernel
theorem dX7_forces_446 : decode cX7_forces 446 = .ok (.dload 24, 2) := by decide +kernel
theorem dX7_forces_448 : decode cX7_forces 448 = .ok (.dmul, 1) := by decide +kernel
theorem dX7_forces_449 : decode cX7_forces 449 = .ok (.dadd, 1) := by decide +kernel
theorem dX7_forces_450 : decode cX7_forces 450 = .ok (.invokestatic 141, 3) := by decide +kernel
theorem dX7_forces_453 : decode cX7_forces 453 = .ok (.dstore 26, 2) := by decide +kernel
theorem dX7_forces_455 : decode cX7_forces 455 = .ok (.ldc2_w 151, 3) := by decide +kernel
theorem dX7_forces_458 : decode cX7_forces 458 = .ok (.aload_n 0, 1) := by decide +kernel
theorem dX7_forces_459 : decode cX7_forces 459 = .ok (.getfield 48, 3) := by decide +kernel
theorem dX7_forces_462 : decode cX7_forces 462 = .ok (.iload_n 1, 1) := by decide +kernel
theorem dX7_forces_463 : decode cX7_forces 463 = .ok (.daload, 1) := by decide +kernel
theorem dX7_forces_464 : decode cX7_forces 464 = .ok (.dmul, 1) := by decide +kernel
theorem dX7_forces_465 : decode cX7_forces 465 = .ok (.dconst 1, 1) := by decide +kernel
theorem dX7_forces_466 : decode cX7_forces 466 = .ok (.aload_n 0, 1) := by decide +kernel
theorem dX7_forces_467 : decode cX7_forces 467 = .ok (.getfield 120, 3) := by decide +kernel
theorem dX7_forces_470 : decode cX7_forces 470 = .ok (.dadd, 1) := by decide +kernel
theorem dX7_forces_471 : decode cX7_forces 471 = .ok (.dmul, 1) := by decide +kernel
theorem dX7_forces_472 : decode cX7_forces 472 = .ok (.aload_n 0, 1) := by decide +kernel
theorem dX7_forces_473 : decode cX7_forces 473 = .ok (.getfield 45, 3) := by decide +kernel
theorem dX7_forces_476 : decode cX7_forces 476 = .ok (.iload_n 1, 1) := by decide +kernel
theorem dX7_forces_477 : decode cX7_forces 477 = .ok (.daload, 1) := by decide +kernel
theorem dX7_forces_478 : decode cX7_forces 478 = .ok (.dmul, 1) := by decide +kernel
theorem dX7_forces_479 : decode cX7_forces 479 = .ok (.dload 26, 2) := by decide +kernel
theorem dX7_forces_481 : decode cX7_forces 481 = .ok (.dmul, 1) := by decide +kernel
theorem dX7_forces_482 : decode cX7_forces 482 = .ok (.dstore 28, 2) := by decide +kernel
theorem dX7_forces_484 : decode cX7_forces 484 = .ok (.aload_n 0, 1) := by decide +kernel
theorem dX7_forces_485 : decode cX7_forces 485 = .ok (.getfield 72, 3) := by decide +kernel
theorem dX7_forces_488 : decode cX7_forces 488 = .ok (.iconst 0, 1) := by decide +kernel
theorem dX7_forces_489 : decode cX7_forces 489 = .ok (.aload_n 0, 1) := by decide +kernel
theorem dX7_forces_490 : decode cX7_forces 490 = .ok (.getfield 72, 3) := by decide +kernel
theorem dX7_forces_493 : decode cX7_forces 493 = .ok (.iconst 0, 1) := by decide +kernel
theorem dX7_forces_494 : decode cX7_forces 494 = .ok (.daload, 1) := by decide +kernel
theorem dX7_forces_495 : decode cX7_forces 495 = .ok (.ldc2_w 153, 3) := by decide +kernel
theorem dX7_forces_498 : decode cX7_forces 498 = .ok (.dload 28, 2) := by decide +kernel
theorem dX7_forces_500 : decode cX7_forces 500 = .ok (.dmul, 1) := by decide +kernel
theorem dX7_forces_501 : decode cX7_forces 501 = .ok (.dload 20, 2) := by decide +kernel
theorem dX7_forces_503 : decode cX7_forces 503 = .ok (.dmul, 1) := by decide +kernel
theorem dX7_forces_504 : decode cX7_forces 504 = .ok (.dadd, 1) := by decide +kernel
theorem dX7_forces_505 : decode cX7_forces 505 = .ok (.dastore, 1) := by decide +kernel
theorem dX7_forces_506 : decode cX7_forces 506 = .ok (.aload_n 0, 1) := by decide +kernel
theorem dX7_forces_507 : decode cX7_forces 507 = .ok (.getfield 72, 3) := by decide +kernel
theorem dX7_forces_510 : decode cX7_forces 510 = .ok (.iconst 1, 1) := by decide +kernel
theorem dX7_forces_511 : decode cX7_forces 511 = .ok (.aload_n 0, 1) := by decide +kernel
theorem dX7_forces_512 : decode cX7_forces 512 = .ok (.getfield 72, 3) := by decide +kernel
theorem dX7_forces_515 : decode cX7_forces 515 = .ok (.iconst 1, 1) := by decide +kernel
theorem dX7_forces_516 : decode cX7_forces 516 = .ok (.daload, 1) := by decide +kernel
theorem dX7_forces_517 : decode cX7_forces 517 = .ok (.ldc2_w 153, 3) := by decide +kernel
theorem dX7_forces_520 : decode cX7_forces 520 = .ok (.dload 28, 2) := by decide +kernel
theorem dX7_forces_522 : decode cX7_forces 522 = .ok (.dmul, 1) := by decide +kernel
theorem dX7_forces_523 : decode cX7_forces 523 = .ok (.dload 22, 2) := by decide +kernel
theorem dX7_forces_525 : decode cX7_forces 525 = .ok (.dmul, 1) := by decide +kernel
theorem dX7_forces_526 : decode cX7_forces 526 = .ok (.dadd, 1) := by decide +kernel
theorem dX7_forces_527 : decode cX7_forces 527 = .ok (.dastore, 1) := by decide +kernel
theorem dX7_forces_528 : decode cX7_forces 528 = .ok (.aload_n 0, 1) := by decide +kernel
theorem dX7_forces_529 : decode cX7_forces 529 = .ok (.getfield 72, 3) := by decide +kernel
theorem dX7_forces_532 : decode cX7_forces 532 = .ok (.iconst 2, 1) := by decide +kernel
theorem dX7_forces_533 : decode cX7_forces 533 = .ok (.aload_n 0, 1) := by decide +kernel
theorem dX7_forces_534 : decode cX7_forces 534 = .ok (.getfield 72, 3) := by decide +kernel
theorem dX7_forces_537 : decode cX7_forces 537 = .ok (.iconst 2, 1) := by decide +kernel
theorem dX7_forces_538 : decode cX7_forces 538 = .ok (.daload, 1) := by decide +kernel
theorem dX7_forces_539 : decode cX7_forces 539 = .ok (.ldc2_w 153, 3) := by decide +kernel
theorem dX7_forces_542 : decode cX7_forces 542 = .ok (.dload 28, 2) := by decide +kernel
theorem dX7_forces_544 : decode cX7_forces 544 = .ok (.dmul, 1) := by decide +kernel
theorem dX7_forces_545 : decode cX7_forces 545 = .ok (.dload 24, 2) := by decide +kernel
theorem dX7_forces_547 : decode cX7_forces 547 = .ok (.dmul, 1) := by decide +kernel
theorem dX7_forces_548 : decode cX7_forces 548 = .ok (.dadd, 1) := by decide +kernel
theorem dX7_forces_549 : decode cX7_forces 549 = .ok (.dastore, 1) := by decide +kernel
theorem dX7_forces_550 : decode cX7_forces 550 = .ok (.aload_n 0, 1) := by decide +kernel
theorem dX7_forces_551 : decode cX7_forces 551 = .ok (.getfield 29, 3) := by decide +kernel
theorem dX7_forces_554 : decode cX7_forces 554 = .ok (.iload_n 2, 1) := by decide +kernel
theorem dX7_forces_555 : decode cX7_forces 555 = .ok (.aload_n 0, 1) := by decide +kernel
theorem dX7_forces_556 : decode cX7_forces 556 = .ok (.getfield 29, 3) := by decide +kernel
theorem dX7_forces_559 : decode cX7_forces 559 = .ok (.iload_n 2, 1) := by decide +kernel
theorem dX7_forces_560 : decode cX7_forces 560 = .ok (.daload, 1) := by decide +kernel
theorem dX7_forces_561 : decode cX7_forces 561 = .ok (.dload 28, 2) := by decide +kernel
theorem dX7_forces_563 : decode cX7_forces 563 = .ok (.dload 20, 2) := by decide +kernel
theorem dX7_forces_565 : decode cX7_forces 565 = .ok (.dmul, 1) := by decide +kernel
theorem dX7_forces_566 : decode cX7_forces 566 = .ok (.dadd, 1) := by decide +kernel
theorem dX7_forces_567 : decode cX7_forces 567 = .ok (.dastore, 1) := by decide +kernel
theorem dX7_forces_568 : decode cX7_forces 568 = .ok (.aload_n 0, 1) := by decide +kernel
theorem dX7_forces_569 : decode cX7_forces 569 = .ok (.getfield 32, 3) := by decide +kernel
theorem dX7_forces_572 : decode cX7_forces 572 = .ok (.iload_n 2, 1) := by decide +kernel
theorem dX7_forces_573 : decode cX7_forces 573 = .ok (.aload_n 0, 1) := by decide +kernel
theorem dX7_forces_574 : decode cX7_forces 574 = .ok (.getfield 32, 3) := by decide +kernel
theorem dX7_forces_577 : decode cX7_forces 577 = .ok (.iload_n 2, 1) := by decide +kernel
theorem dX7_forces_578 : decode cX7_forces 578 = .ok (.daload, 1) := by decide +kernel
theorem dX7_forces_579 : decode cX7_forces 579 = .ok (.dload 28, 2) := by decide +kernel
theorem dX7_forces_581 : decode cX7_forces 581 = .ok (.dload 22, 2) := by decide +kernel
theorem dX7_forces_583 : decode cX7_forces 583 = .ok (.dmul, 1) := by decide +kernel
theorem dX7_forces_584 : decode cX7_forces 584 = .ok (.dadd, 1) := by decide +kernel
theorem dX7_forces_585 : decode cX7_forces 585 = .ok (.dastore, 1) := by decide +kernel
theorem dX7_forces_586 : decode cX7_forces 586 = .ok (.aload_n 0, 1) := by decide +kernel
theorem dX7_forces_587 : decode cX7_forces 587 = .ok (.getfield 35, 3) := by decide +kernel
theorem dX7_forces_590 : decode cX7_forces 590 = .ok (.iload_n 2, 1) := by decide +kernel
theorem dX7_forces_591 : decode cX7_forces 591 = .ok (.aload_n 0, 1) := by decide +kernel
theorem dX7_forces_592 : decode cX7_forces 592 = .ok (.getfield 35, 3) := by decide +kernel
theorem dX7_forces_595 : decode cX7_forces 595 = .ok (.iload_n 2, 1) := by decide +kernel
theorem dX7_forces_596 : decode cX7_forces 596 = .ok (.daload, 1) := by decide +kernel
theorem dX7_forces_597 : decode cX7_forces 597 = .ok (.dload 28, 2) := by decide +kernel
theorem dX7_forces_599 : decode cX7_forces 599 = .ok (.dload 24, 2) := by decide +kernel
theorem dX7_forces_601 : decode cX7_forces 601 = .ok (.dmul, 1) := by decide +kernel
theorem dX7_forces_602 : decode cX7_forces 602 = .ok (.dadd, 1) := by decide +kernel
theorem dX7_forces_603 : decode cX7_forces 603 = .ok (.dastore, 1) := by decide +kernel
theorem dX7_forces_604 : decode cX7_forces 604 = .ok (.aload_n 0, 1) := by decide +kernel
theorem dX7_forces_605 : decode cX7_forces 605 = .ok (.getfield 29, 3) := by decide +kernel
theorem dX7_forces_608 : decode cX7_forces 608 = .ok (.iload_n 3, 1) := by decide +kernel
theorem dX7_forces_609 : decode cX7_forces 609 = .ok (.aload_n 0, 1) := by decide +kernel
theorem dX7_forces_610 : decode cX7_forces 610 = .ok (.getfield 29, 3) := by decide +kernel
theorem dX7_forces_613 : decode cX7_forces 613 = .ok (.iload_n 3, 1) := by decide +kernel
theorem dX7_forces_614 : decode cX7_forces 614 = .ok (.daload, 1) := by decide +kernel
theorem dX7_forces_615 : decode cX7_forces 615 = .ok (.dload 28, 2) := by decide +kernel
theorem dX7_forces_617 : decode cX7_forces 617 = .ok (.dload 20, 2) := by decide +kernel
theorem dX7_forces_619 : decode cX7_forces 619 = .ok (.dmul, 1) := by decide +kernel
theorem dX7_forces_620 : decode cX7_forces 620 = .ok (.dadd, 1) := by decide +kernel
theorem dX7_forces_621 : decode cX7_forces 621 = .ok (.dastore, 1) := by decide +kernel
theorem dX7_forces_622 : decode cX7_forces 622 = .ok (.aload_n 0, 1) := by decide +kernel
theorem dX7_forces_623 : decode cX7_forces 623 = .ok (.getfield 32, 3) := by decide +kernel
theorem dX7_forces_626 : decode cX7_forces 626 = .ok (.iload_n 3, 1) := by decide +kernel
theorem dX7_forces_627 : decode cX7_forces 627 = .ok (.aload_n 0, 1) := by decide +kernel
theorem dX7_forces_628 : decode cX7_forces 628 = .ok (.getfield 32, 3) := by decide +kernel
theorem dX7_forces_631 : decode cX7_forces 631 = .ok (.iload_n 3, 1) := by decide +kernel
theorem dX7_forces_632 : decode cX7_forces 632 = .ok (.daload, 1) := by decide +kernel
theorem dX7_forces_633 : decode cX7_forces 633 = .ok (.dload 28, 2) := by decide +kernel
theorem dX7_forces_635 : decode cX7_forces 635 = .ok (.dload 22, 2) := by decide +kernel
theorem dX7_forces_637 : decode cX7_forces 637 = .ok (.dmul, 1) := by decide +kernel
theorem dX7_forces_638 : decode cX7_forces 638 = .ok (.dadd, 1) := by decide +kernel
theorem dX7_forces_639 : decode cX7_forces 639 = .ok (.dastore, 1) := by decide +kernel
theorem dX7_forces_640 : decode cX7_forces 640 = .ok (.aload_n 0, 1) := by decide +kernel
theorem dX7_forces_641 : decode cX7_forces 641 = .ok (.getfield 35, 3) := by decide +kernel
theorem dX7_forces_644 : decode cX7_forces 644 = .ok (.iload_n 3, 1) := by decide +kernel
theorem dX7_forces_645 : decode cX7_forces 645 = .ok (.aload_n 0, 1) := by decide +kernel
theorem dX7_forces_646 : decode cX7_forces 646 = .ok (.getfield 35, 3) := by decide +kernel
theorem dX7_forces_649 : decode cX7_forces 649 = .ok (.iload_n 3, 1) := by decide +kernel
theorem dX7_forces_650 : decode cX7_forces 650 = .ok (.daload, 1) := by decide +kernel
theorem dX7_forces_651 : decode cX7_forces 651 = .ok (.dload 28, 2) := by decide +kernel
theorem dX7_forces_653 : decode cX7_forces 653 = .ok (.dload 24, 2) := by decide +kernel
theorem dX7_forces_655 : decode cX7_forces 655 = .ok (.dmul, 1) := by decide +kernel
theorem dX7_forces_656 : decode cX7_forces 656 = .ok (.dadd, 1) := by decide +kernel
theorem dX7_forces_657 : decode cX7_forces 657 = .ok (.dastore, 1) := by decide +kernel
theorem dX7_forces_658 : decode cX7_forces 658 = .ok (.iinc 1 1, 3) := by decide +kernel
theorem dX7_forces_661 : decode cX7_forces 661 = .ok (.goto (-587), 3) := by decide +kernel
theorem dX7_forces_664 : decode cX7_forces 664 = .ok (.aload_n 0, 1) := by decide +kernel
theorem dX7_forces_665 : decode cX7_forces 665 = .ok (.dconst 0, 1) := by decide +kernel
theorem dX7_forces_666 : decode cX7_forces 666 = .ok (.putfield 68, 3) := by decide +kernel
theorem dX7_forces_669 : decode cX7_forces 669 = .ok (.iconst 0, 1) := by decide +kernel
theorem dX7_forces_670 : decode cX7_forces 670 = .ok (.istore_n 1, 1) := by decide +kernel
theorem dX7_forces_671 : decode cX7_forces 671 = .ok (.iload_n 1, 1) := by decide +kernel
theorem dX7_forces_672 : decode cX7_forces 672 = .ok (.aload_n 0, 1) := by decide +kernel
theorem dX7_forces_673 : decode cX7_forces 673 = .ok (.getfield 89, 3) := by decide +kernel
theorem dX7_forces_676 : decode cX7_forces 676 = .ok (.if_icmp .ge 62, 3) := by decide +kernel
theorem dX7_forces_679 : decode cX7_forces 679 = .ok (.aload_n 0, 1) := by decide +kernel
theorem dX7_forces_680 : decode cX7_forces 680 = .ok (.getfield 25, 3) := by decide +kernel
theorem dX7_forces_683 : decode cX7_forces 683 = .ok (.iload_n 1, 1) := by decide +kernel
theorem dX7_forces_684 : decode cX7_forces 684 = .ok (.baload, 1) := by decide +kernel
theorem dX7_forces_685 : decode cX7_forces 685 = .ok (.ifCond .ne 47, 3) := by decide +kernel
theorem dX7_forces_688 : decode cX7_forces 688 = .ok (.aload_n 0, 1) := by decide +kernel
theorem dX7_forces_689 : decode cX7_forces 689 = .ok (.aload_n 0, 1) := by decide +kernel
theorem dX7_forces_690 : decode cX7_forces 690 = .ok (.getfield 68, 3) := by decide +kernel
theorem dX7_forces_693 : decode cX7_forces 693 = .ok (.aload_n 0, 1) := by decide +kernel
theorem dX7_forces_694 : decode cX7_forces 694 = .ok (.getfield 29, 3) := by decide +kernel
theorem dX7_forces_697 : decode cX7_forces 697 = .ok (.iload_n 1, 1) := by decide +kernel
theorem dX7_forces_698 : decode cX7_forces 698 = .ok (.daload, 1) := by decide +kernel
theorem dX7_forces_699 : decode cX7_forces 699 = .ok (.invokestatic 155, 3) := by decide +kernel
theorem dX7_forces_702 : decode cX7_forces 702 = .ok (.aload_n 0, 1) := by decide +kernel
theorem dX7_forces_703 : decode cX7_forces 703 = .ok (.getfield 32, 3) := by decide +kernel
theorem dX7_forces_706 : decode cX7_forces 706 = .ok (.iload_n 1, 1) := by decide +kernel
theorem dX7_forces_707 : decode cX7_forces 707 = .ok (.daload, 1) := by decide +kernel
theorem dX7_forces_708 : decode cX7_forces 708 = .ok (.invokestatic 155, 3) := by decide +kernel
theorem dX7_forces_711 : decode cX7_forces 711 = .ok (.aload_n 0, 1) := by decide +kernel
theorem dX7_forces_712 : decode cX7_forces 712 = .ok (.getfield 35, 3) := by decide +kernel
theorem dX7_forces_715 : decode cX7_forces 715 = .ok (.iload_n 1, 1) := by decide +kernel
theorem dX7_forces_716 : decode cX7_forces 716 = .ok (.daload, 1) := by decide +kernel
theorem dX7_forces_717 : decode cX7_forces 717 = .ok (.invokestatic 155, 3) := by decide +kernel
theorem dX7_forces_720 : decode cX7_forces 720 = .ok (.invokestatic 158, 3) := by decide +kernel
theorem dX7_forces_723 : decode cX7_forces 723 = .ok (.invokestatic 158, 3) := by decide +kernel
theorem dX7_forces_726 : decode cX7_forces 726 = .ok (.invokestatic 158, 3) := by decide +kernel
theorem dX7_forces_729 : decode cX7_forces 729 = .ok (.putfield 68, 3) := by decide +kernel
theorem dX7_forces_732 : decode cX7_forces 732 = .ok (.iinc 1 1, 3) := by decide +kernel
theorem dX7_forces_735 : decode cX7_forces 735 = .ok (.goto (-64), 3) := by decide +kernel
theorem dX7_forces_738 : decode cX7_forces 738 = .ok (.return_, 1) := by decide +kernel
theorem dX7_moved_0 : decode cX7_moved 0 = .ok (.ldc2_w 164, 3) := by decide +kernel
theorem dX7_moved_3 : decode cX7_moved 3 = .ok (.dload_n 0, 1) := by decide +kernel
theorem dX7_moved_4 : decode cX7_moved 4 = .ok (.dmul, 1) := by decide +kernel
theorem dX7_moved_5 : decode cX7_moved 5 = .ok (.dstore_n 2, 1) := by decide +kernel
theorem dX7_moved_6 : decode cX7_moved 6 = .ok (.dload_n 2, 1) := by decide +kernel
theorem dX7_moved_7 : decode cX7_moved 7 = .ok (.ldc2_w 166, 3) := by decide +kernel
theorem dX7_moved_10 : decode cX7_moved 10 = .ok (.dcmp .l, 1) := by decide +kernel
theorem dX7_moved_11 : decode cX7_moved 11 = .ok (.ifCond .le 9, 3) := by decide +kernel
theorem dX7_moved_14 : decode cX7_moved 14 = .ok (.ldc2_w 166, 3) := by decide +kernel
theorem dX7_moved_17 : decode cX7_moved 17 = .ok (.goto 18, 3) := by decide +kernel
theorem dX7_moved_20 : decode cX7_moved 20 = .ok (.dload_n 2, 1) := by decide +kernel
theorem dX7_moved_21 : decode cX7_moved 21 = .ok (.ldc2_w 168, 3) := by decide +kernel
theorem dX7_moved_24 : decode cX7_moved 24 = .ok (.dcmp .g, 1) := by decide +kernel
theorem dX7_moved_25 : decode cX7_moved 25 = .ok (.ifCond .ge 9, 3) := by decide +kernel
theorem dX7_moved_28 : decode cX7_moved 28 = .ok (.ldc2_w 168, 3) := by decide +kernel
theorem dX7_moved_31 : decode cX7_moved 31 = .ok (.goto 4, 3) := by decide +kernel
theorem dX7_moved_34 : decode cX7_moved 34 = .ok (.dload_n 2, 1) := by decide +kernel
theorem dX7_moved_35 : decode cX7_moved 35 = .ok (.dreturn, 1) := by decide +kernel
set_option maxRecDepth 100000 in
theorem ggX7_run_X7_forces : GoodIn wsX7_run wsX7_forces := goodIn_r _ [17, 1, 8, 10, 12, 18, 19, 5, 20, 21, 22, 7, 9, 11, 23, 24, 25, 26, 27, 28, 29, 30, 2, 6, 31, 32, 16, 33, 34, 35, 36, 37, 38, 39, 40, 41, 42, 43, 44, 45, 46, 47, 48, 49, 50, 51, 52, 53, 54, 77, 78, 79, 80, 81, 82, 83, 84, 85, 86, 87, 88, 89, 90, 91, 92, 93, 94, 95, 96, 97, 98, 99, 100, 101, 102, 103, 104, 105, 106, 107] rfl (by decide +kernel)
set_option maxRecDepth 100000 in
theorem gX7_run_X7_forces : GoodIn wsX7_run (wsV RX7 170 RX7 yX7_forces wsX7_forces) := goodIn_app (goodIn_of _ (by decide +kernel)) ggX7_run_X7_forces
set_option maxRecDepth 100000 in
theorem ggX7_run_X7_size : GoodIn wsX7_run wsX7_size := goodIn_r _ [45] rfl (by decide +kernel)
set_option maxRecDepth 100000 in
theorem gX7_run_X7_size : GoodIn wsX7_run (va_wsS RX7 155 yX7_size wsX7_size) := goodIn_app (goodIn_of _ (by decide +kernel)) ggX7_run_X7_size
set_option maxRecDepth 100000 in
theorem ggX7_run_X7_open : GoodIn wsX7_run wsX7_open := goodIn_r _ [58, 1, 59, 60, 61, 62, 16, 63, 7, 9, 11, 64, 65, 66, 67, 68, 69, 48, 70, 50, 51, 52, 53, 54, 46, 47, 49, 77, 78, 79, 80, 81, 82, 83, 84, 85, 86, 87, 88, 89, 90, 91, 92, 93, 94, 95, 96, 97, 98, 99, 100, 101, 102, 103, 104, 105, 106, 107] rfl (by decide +kernel)
set_option maxRecDepth 100000 in
theorem gX7_run_X7_open : GoodIn wsX7_run (wsV RX7 176 RX7 yX7_open wsX7_open) := goodIn_app (goodIn_of _ (by decide +kernel)) ggX7_run_X7_open
set_option maxRecDepth 100000 in
theorem ggX7_run_X7_moved : GoodIn wsX7_run wsX7_moved := goodIn_r _ [73, 74, 75, 76] rfl (by decide +kernel)
set_option maxRecDepth 100000 in
theorem gX7_run_X7_moved : GoodIn wsX7_run (va_wsS RX7 180 yX7_moved wsX7_moved) := goodIn_app (goodIn_of _ (by decide +kernel)) ggX7_run_X7_moved
theorem dX7_run_0 : decode cX7_run 0 = .ok (.iload_n 1, 1) := by decide +kernel
theorem dX7_run_1 : decode cX7_run 1 = .ok (.iconst 1, 1) := by decide +kernel
theorem dX7_run_2 : decode cX7_run 2 = .ok (.if_icmp .lt 17, 3) := by decide +kernel
theorem dX7_run_5 : decode cX7_run 5 = .ok (.iload_n 1, 1) := by decide +kernel
theorem dX7_run_6 : decode cX7_run 6 = .ok (.sipush 300, 3) := by decide +kernel
theorem dX7_run_9 : decode cX7_run 9 = .ok (.if_icmp .gt 10, 3) := by decide +kernel
theorem dX7_run_12 : decode cX7_run 12 = .ok (.aload_n 0, 1) := by decide +kernel
theorem dX7_run_13 : decode cX7_run 13 = .ok (.getfield 89, 3) := by decide +kernel
theorem dX7_run_16 : decode cX7_run 16 = .ok (.ifCond .ne 5, 3) := by decide +kernel
theorem dX7_run_19 : decode cX7_run 19 = .ok (.iconst (-1), 1) := by decide +kernel
theorem dX7_run_20 : decode cX7_run 20 = .ok (.ireturn, 1) := by decide +kernel
theorem dX7_run_21 : decode cX7_run 21 = .ok (.iconst 0, 1) := by decide +kernel
theorem dX7_run_22 : decode cX7_run 22 = .ok (.istore_n 2, 1) := by decide +kernel
theorem dX7_run_23 : decode cX7_run 23 = .ok (.iload_n 2, 1) := by decide +kernel
theorem dX7_run_24 : decode cX7_run 24 = .ok (.iload_n 1, 1) := by decide +kernel
theorem dX7_run_25 : decode cX7_run 25 = .ok (.if_icmp .ge 151, 3) := by decide +kernel
theorem dX7_run_28 : decode cX7_run 28 = .ok (.aload_n 0, 1) := by decide +kernel
theorem dX7_run_29 : decode cX7_run 29 = .ok (.invokevirtual 170, 3) := by decide +kernel
theorem dX7_run_32 : decode cX7_run 32 = .ok (.aload_n 0, 1) := by decide +kernel
theorem dX7_run_33 : decode cX7_run 33 = .ok (.getfield 68, 3) := by decide +kernel
theorem dX7_run_36 : decode cX7_run 36 = .ok (.dconst 1, 1) := by decide +kernel
theorem dX7_run_37 : decode cX7_run 37 = .ok (.dcmp .g, 1) := by decide +kernel
theorem dX7_run_38 : decode cX7_run 38 = .ok (.ifCond .ge 41, 3) := by decide +kernel
theorem dX7_run_41 : decode cX7_run 41 = .ok (.aload_n 0, 1) := by decide +kernel
theorem dX7_run_42 : decode cX7_run 42 = .ok (.getfield 75, 3) := by decide +kernel
theorem dX7_run_45 : decode cX7_run 45 = .ok (.aload_n 0, 1) := by decide +kernel
theorem dX7_run_46 : decode cX7_run 46 = .ok (.getfield 173, 3) := by decide +kernel
theorem dX7_run_49 : decode cX7_run 49 = .ok (.aload_n 0, 1) := by decide +kernel
theorem dX7_run_50 : decode cX7_run 50 = .ok (.getfield 72, 3) := by decide +kernel
theorem dX7_run_53 : decode cX7_run 53 = .ok (.iconst 0, 1) := by decide +kernel
theorem dX7_run_54 : decode cX7_run 54 = .ok (.daload, 1) := by decide +kernel
theorem dX7_run_55 : decode cX7_run 55 = .ok (.invokestatic 155, 3) := by decide +kernel
theorem dX7_run_58 : decode cX7_run 58 = .ok (.dconst 1, 1) := by decide +kernel
theorem dX7_run_59 : decode cX7_run 59 = .ok (.aload_n 0, 1) := by decide +kernel
theorem dX7_run_60 : decode cX7_run 60 = .ok (.iconst 1, 1) := by decide +kernel
theorem dX7_run_61 : decode cX7_run 61 = .ok (.invokevirtual 176, 3) := by decide +kernel
theorem dX7_run_64 : decode cX7_run 64 = .ok (.dadd, 1) := by decide +kernel
theorem dX7_run_65 : decode cX7_run 65 = .ok (.ddiv, 1) := by decide +kernel
theorem dX7_run_66 : decode cX7_run 66 = .ok (.dastore, 1) := by decide +kernel
theorem dX7_run_67 : decode cX7_run 67 = .ok (.aload_n 0, 1) := by decide +kernel
theorem dX7_run_68 : decode cX7_run 68 = .ok (.dup, 1) := by decide +kernel
theorem dX7_run_69 : decode cX7_run 69 = .ok (.getfield 173, 3) := by decide +kernel
theorem dX7_run_72 : decode cX7_run 72 = .ok (.iconst 1, 1) := by decide +kernel
theorem dX7_run_73 : decode cX7_run 73 = .ok (.iadd, 1) := by decide +kernel
theorem dX7_run_74 : decode cX7_run 74 = .ok (.putfield 173, 3) := by decide +kernel
theorem dX7_run_77 : decode cX7_run 77 = .ok (.iload_n 2, 1) := by decide +kernel
theorem dX7_run_78 : decode cX7_run 78 = .ok (.ireturn, 1) := by decide +kernel
theorem dX7_run_79 : decode cX7_run 79 = .ok (.iconst 0, 1) := by decide +kernel
theorem dX7_run_80 : decode cX7_run 80 = .ok (.istore_n 3, 1) := by decide +kernel
theorem dX7_run_81 : decode cX7_run 81 = .ok (.iload_n 3, 1) := by decide +kernel
theorem dX7_run_82 : decode cX7_run 82 = .ok (.aload_n 0, 1) := by decide +kernel
theorem dX7_run_83 : decode cX7_run 83 = .ok (.getfield 89, 3) := by decide +kernel
theorem dX7_run_86 : decode cX7_run 86 = .ok (.if_icmp .ge 84, 3) := by decide +kernel
theorem dX7_run_89 : decode cX7_run 89 = .ok (.aload_n 0, 1) := by decide +kernel
theorem dX7_run_90 : decode cX7_run 90 = .ok (.getfield 25, 3) := by decide +kernel
theorem dX7_run_93 : decode cX7_run 93 = .ok (.iload_n 3, 1) := by decide +kernel
theorem dX7_run_94 : decode cX7_run 94 = .ok (.baload, 1) := by decide +kernel
theorem dX7_run_95 : decode cX7_run 95 = .ok (.ifCond .ne 69, 3) := by decide +kernel
theorem dX7_run_98 : decode cX7_run 98 = .ok (.aload_n 0, 1) := by decide +kernel
theorem dX7_run_99 : decode cX7_run 99 = .ok (.getfield 7, 3) := by decide +kernel
theorem dX7_run_102 : decode cX7_run 102 = .ok (.iload_n 3, 1) := by decide +kernel
theorem dX7_run_103 : decode cX7_run 103 = .ok (.aload_n 0, 1) := by decide +kernel
theorem dX7_run_104 : decode cX7_run 104 = .ok (.getfield 7, 3) := by decide +kernel
theorem dX7_run_107 : decode cX7_run 107 = .ok (.iload_n 3, 1) := by decide +kernel
theorem dX7_run_108 : decode cX7_run 108 = .ok (.daload, 1) := by decide +kernel
theorem dX7_run_109 : decode cX7_run 109 = .ok (.aload_n 0, 1) := by decide +kernel
theorem dX7_run_110 : decode cX7_run 110 = .ok (.getfield 29, 3) := by decide +kernel
theorem dX7_run_113 : decode cX7_run 113 = .ok (.iload_n 3, 1) := by decide +kernel
theorem dX7_run_114 : decode cX7_run 114 = .ok (.daload, 1) := by decide +kernel
theorem dX7_run_115 : decode cX7_run 115 = .ok (.invokestatic 180, 3) := by decide +kernel
theorem dX7_run_118 : decode cX7_run 118 = .ok (.dadd, 1) := by decide +kernel
theorem dX7_run_119 : decode cX7_run 119 = .ok (.dastore, 1) := by decide +kernel
theorem dX7_run_120 : decode cX7_run 120 = .ok (.aload_n 0, 1) := by decide +kernel
theorem dX7_run_121 : decode cX7_run 121 = .ok (.getfield 13, 3) := by decide +kernel
theorem dX7_run_124 : decode cX7_run 124 = .ok (.iload_n 3, 1) := by decide +kernel
theorem dX7_run_125 : decode cX7_run 125 = .ok (.aload_n 0, 1) := by decide +kernel
theorem dX7_run_126 : decode cX7_run 126 = .ok (.getfield 13, 3) := by decide +kernel
theorem dX7_run_129 : decode cX7_run 129 = .ok (.iload_n 3, 1) := by decide +kernel
theorem dX7_run_130 : decode cX7_run 130 = .ok (.daload, 1) := by decide +kernel
theorem dX7_run_131 : decode cX7_run 131 = .ok (.aload_n 0, 1) := by decide +kernel
theorem dX7_run_132 : decode cX7_run 132 = .ok (.getfield 32, 3) := by decide +kernel
theorem dX7_run_135 : decode cX7_run 135 = .ok (.iload_n 3, 1) := by decide +kernel
theorem dX7_run_136 : decode cX7_run 136 = .ok (.daload, 1) := by decide +kernel
theorem dX7_run_137 : decode cX7_run 137 = .ok (.invokestatic 180, 3) := by decide +kernel
theorem dX7_run_140 : decode cX7_run 140 = .ok (.dadd, 1) := by decide +kernel
theorem dX7_run_141 : decode cX7_run 141 = .ok (.dastore, 1) := by decide +kernel
theorem dX7_run_142 : decode cX7_run 142 = .ok (.aload_n 0, 1) := by decide +kernel
theorem dX7_run_143 : decode cX7_run 143 = .ok (.getfield 16, 3) := by decide +kernel
theorem dX7_run_146 : decode cX7_run 146 = .ok (.iload_n 3, 1) := by decide +kernel
theorem dX7_run_147 : decode cX7_run 147 = .ok (.aload_n 0, 1) := by decide +kernel
theorem dX7_run_148 : decode cX7_run 148 = .ok (.getfield 16, 3) := by decide +kernel
theorem dX7_run_151 : decode cX7_run 151 = .ok (.iload_n 3, 1) := by decide +kernel
theorem dX7_run_152 : decode cX7_run 152 = .ok (.daload, 1) := by decide +kernel
theorem dX7_run_153 : decode cX7_run 153 = .ok (.aload_n 0, 1) := by decide +kernel
theorem dX7_run_154 : decode cX7_run 154 = .ok (.getfield 35, 3) := by decide +kernel
theorem dX7_run_157 : decode cX7_run 157 = .ok (.iload_n 3, 1) := by decide +kernel
theorem dX7_run_158 : decode cX7_run 158 = .ok (.daload, 1) := by decide +kernel
theorem dX7_run_159 : decode cX7_run 159 = .ok (.invokestatic 180, 3) := by decide +kernel
theorem dX7_run_162 : decode cX7_run 162 = .ok (.dadd, 1) := by decide +kernel
theorem dX7_run_163 : decode cX7_run 163 = .ok (.dastore, 1) := by decide +kernel
theorem dX7_run_164 : decode cX7_run 164 = .ok (.iinc 3 1, 3) := by decide +kernel
theorem dX7_run_167 : decode cX7_run 167 = .ok (.goto (-86), 3) := by decide +kernel
theorem dX7_run_170 : decode cX7_run 170 = .ok (.iinc 2 1, 3) := by decide +kernel
theorem dX7_run_173 : decode cX7_run 173 = .ok (.goto (-150), 3) := by decide +kernel
theorem dX7_run_176 : decode cX7_run 176 = .ok (.iconst (-1), 1) := by decide +kernel
theorem dX7_run_177 : decode cX7_run 177 = .ok (.ireturn, 1) := by decide +kernel
set_option maxRecDepth 100000 in
theorem ggX7_at_X7_isNode : GoodIn wsX7_at wsX7_isNode := goodIn_r _ [8, 9, 10, 11, 12, 13, 14, 15, 16, 17, 18, 19, 20, 21, 22, 23, 24, 25, 26, 27, 28, 29, 30, 31, 32, 33, 34, 35, 36, 37, 38, 39, 40] rfl (by decide +kernel)
set_option maxRecDepth 100000 in
theorem gX7_at_X7_isNode : GoodIn wsX7_at (wsV RX7 101 RX7 yX7_isNode wsX7_isNode) := goodIn_app (goodIn_of _ (by decide +kernel)) ggX7_at_X7_isNode
theorem dX7_at_0 : decode cX7_at 0 = .ok (.aload_n 0, 1) := by decide +kernel
theorem dX7_at_1 : decode cX7_at 1 = .ok (.iload_n 1, 1) := by decide +kernel
theorem dX7_at_2 : decode cX7_at 2 = .ok (.invokevirtual 101, 3) := by decide +kernel
theorem dX7_at_5 : decode cX7_at 5 = .ok (.ifCond .ne 7, 3) := by decide +kernel
theorem dX7_at_8 : decode cX7_at 8 = .ok (.dconst 0, 1) := by decide +kernel
theorem dX7_at_9 : decode cX7_at 9 = .ok (.goto 45, 3) := by decide +kernel
theorem dX7_at_12 : decode cX7_at 12 = .ok (.iload_n 2, 1) := by decide +kernel
theorem dX7_at_13 : decode cX7_at 13 = .ok (.ifCond .ne 12, 3) := by decide +kernel
theorem dX7_at_16 : decode cX7_at 16 = .ok (.aload_n 0, 1) := by decide +kernel
theorem dX7_at_17 : decode cX7_at 17 = .ok (.getfield 7, 3) := by decide +kernel
theorem dX7_at_20 : decode cX7_at 20 = .ok (.iload_n 1, 1) := by decide +kernel
theorem dX7_at_21 : decode cX7_at 21 = .ok (.daload, 1) := by decide +kernel
theorem dX7_at_22 : decode cX7_at 22 = .ok (.goto 32, 3) := by decide +kernel
theorem dX7_at_25 : decode cX7_at 25 = .ok (.iload_n 2, 1) := by decide +kernel
theorem dX7_at_26 : decode cX7_at 26 = .ok (.iconst 1, 1) := by decide +kernel
theorem dX7_at_27 : decode cX7_at 27 = .ok (.if_icmp .ne 12, 3) := by decide +kernel
theorem dX7_at_30 : decode cX7_at 30 = .ok (.aload_n 0, 1) := by decide +kernel
theorem dX7_at_31 : decode cX7_at 31 = .ok (.getfield 13, 3) := by decide +kernel
theorem dX7_at_34 : decode cX7_at 34 = .ok (.iload_n 1, 1) := by decide +kernel
theorem dX7_at_35 : decode cX7_at 35 = .ok (.daload, 1) := by decide +kernel
theorem dX7_at_36 : decode cX7_at 36 = .ok (.goto 18, 3) := by decide +kernel
theorem dX7_at_39 : decode cX7_at 39 = .ok (.iload_n 2, 1) := by decide +kernel
theorem dX7_at_40 : decode cX7_at 40 = .ok (.iconst 2, 1) := by decide +kernel
theorem dX7_at_41 : decode cX7_at 41 = .ok (.if_icmp .ne 12, 3) := by decide +kernel
theorem dX7_at_44 : decode cX7_at 44 = .ok (.aload_n 0, 1) := by decide +kernel
theorem dX7_at_45 : decode cX7_at 45 = .ok (.getfield 16, 3) := by decide +kernel
theorem dX7_at_48 : decode cX7_at 48 = .ok (.iload_n 1, 1) := by decide +kernel
theorem dX7_at_49 : decode cX7_at 49 = .ok (.daload, 1) := by decide +kernel
theorem dX7_at_50 : decode cX7_at 50 = .ok (.goto 4, 3) := by decide +kernel
theorem dX7_at_53 : decode cX7_at 53 = .ok (.dconst 0, 1) := by decide +kernel
theorem dX7_at_54 : decode cX7_at 54 = .ok (.dreturn, 1) := by decide +kernel
theorem dX7_pull_0 : decode cX7_pull 0 = .ok (.iload_n 1, 1) := by decide +kernel
theorem dX7_pull_1 : decode cX7_pull 1 = .ok (.ifCond .lt 11, 3) := by decide +kernel
theorem dX7_pull_4 : decode cX7_pull 4 = .ok (.iload_n 1, 1) := by decide +kernel
theorem dX7_pull_5 : decode cX7_pull 5 = .ok (.aload_n 0, 1) := by decide +kernel
theorem dX7_pull_6 : decode cX7_pull 6 = .ok (.getfield 105, 3) := by decide +kernel
theorem dX7_pull_9 : decode cX7_pull 9 = .ok (.if_icmp .lt 9, 3) := by decide +kernel
theorem dX7_pull_12 : decode cX7_pull 12 = .ok (.ldc2_w 66, 3) := by decide +kernel
theorem dX7_pull_15 : decode cX7_pull 15 = .ok (.goto 9, 3) := by decide +kernel
theorem dX7_pull_18 : decode cX7_pull 18 = .ok (.aload_n 0, 1) := by decide +kernel
theorem dX7_pull_19 : decode cX7_pull 19 = .ok (.getfield 54, 3) := by decide +kernel
theorem dX7_pull_22 : decode cX7_pull 22 = .ok (.iload_n 1, 1) := by decide +kernel
theorem dX7_pull_23 : decode cX7_pull 23 = .ok (.daload, 1) := by decide +kernel
theorem dX7_pull_24 : decode cX7_pull 24 = .ok (.dreturn, 1) := by decide +kernel
theorem dX7_residual_0 : decode cX7_residual 0 = .ok (.aload_n 0, 1) := by decide +kernel
theorem dX7_residual_1 : decode cX7_residual 1 = .ok (.getfield 68, 3) := by decide +kernel
theorem dX7_residual_4 : decode cX7_residual 4 = .ok (.dreturn, 1) := by decide +kernel
theorem dX7_drag_0 : decode cX7_drag 0 = .ok (.iload_n 1, 1) := by decide +kernel
theorem dX7_drag_1 : decode cX7_drag 1 = .ok (.ifCond .lt 8, 3) := by decide +kernel
theorem dX7_drag_4 : decode cX7_drag 4 = .ok (.iload_n 1, 1) := by decide +kernel
theorem dX7_drag_5 : decode cX7_drag 5 = .ok (.iconst 2, 1) := by decide +kernel
theorem dX7_drag_6 : decode cX7_drag 6 = .ok (.if_icmp .le 7, 3) := by decide +kernel
theorem dX7_drag_9 : decode cX7_drag 9 = .ok (.dconst 0, 1) := by decide +kernel
theorem dX7_drag_10 : decode cX7_drag 10 = .ok (.goto 9, 3) := by decide +kernel
theorem dX7_drag_13 : decode cX7_drag 13 = .ok (.aload_n 0, 1) := by decide +kernel
theorem dX7_drag_14 : decode cX7_drag 14 = .ok (.getfield 72, 3) := by decide +kernel
theorem dX7_drag_17 : decode cX7_drag 17 = .ok (.iload_n 1, 1) := by decide +kernel
theorem dX7_drag_18 : decode cX7_drag 18 = .ok (.daload, 1) := by decide +kernel
theorem dX7_drag_19 : decode cX7_drag 19 = .ok (.dreturn, 1) := by decide +kernel
theorem dX7_over_0 : decode cX7_over 0 = .ok (.iconst 0, 1) := by decide +kernel
theorem dX7_over_1 : decode cX7_over 1 = .ok (.istore_n 2, 1) := by decide +kernel
theorem dX7_over_2 : decode cX7_over 2 = .ok (.iconst 0, 1) := by decide +kernel
theorem dX7_over_3 : decode cX7_over 3 = .ok (.istore_n 3, 1) := by decide +kernel
theorem dX7_over_4 : decode cX7_over 4 = .ok (.iload_n 3, 1) := by decide +kernel
theorem dX7_over_5 : decode cX7_over 5 = .ok (.aload_n 0, 1) := by decide +kernel
theorem dX7_over_6 : decode cX7_over 6 = .ok (.getfield 105, 3) := by decide +kernel
theorem dX7_over_9 : decode cX7_over 9 = .ok (.if_icmp .ge 35, 3) := by decide +kernel
theorem dX7_over_12 : decode cX7_over 12 = .ok (.aload_n 0, 1) := by decide +kernel
theorem dX7_over_13 : decode cX7_over 13 = .ok (.getfield 54, 3) := by decide +kernel
theorem dX7_over_16 : decode cX7_over 16 = .ok (.iload_n 3, 1) := by decide +kernel
theorem dX7_over_17 : decode cX7_over 17 = .ok (.daload, 1) := by decide +kernel
theorem dX7_over_18 : decode cX7_over 18 = .ok (.aload_n 0, 1) := by decide +kernel
theorem dX7_over_19 : decode cX7_over 19 = .ok (.getfield 51, 3) := by decide +kernel
theorem dX7_over_22 : decode cX7_over 22 = .ok (.iload_n 3, 1) := by decide +kernel
theorem dX7_over_23 : decode cX7_over 23 = .ok (.daload, 1) := by decide +kernel
theorem dX7_over_24 : decode cX7_over 24 = .ok (.dcmp .l, 1) := by decide +kernel
theorem dX7_over_25 : decode cX7_over 25 = .ok (.ifCond .le 13, 3) := by decide +kernel
theorem dX7_over_28 : decode cX7_over 28 = .ok (.iload_n 2, 1) := by decide +kernel
theorem dX7_over_29 : decode cX7_over 29 = .ok (.iload_n 1, 1) := by decide +kernel
theorem dX7_over_30 : decode cX7_over 30 = .ok (.if_icmp .ne 5, 3) := by decide +kernel
theorem dX7_over_33 : decode cX7_over 33 = .ok (.iload_n 3, 1) := by decide +kernel
theorem dX7_over_34 : decode cX7_over 34 = .ok (.ireturn, 1) := by decide +kernel
theorem dX7_over_35 : decode cX7_over 35 = .ok (.iinc 2 1, 3) := by decide +kernel
theorem dX7_over_38 : decode cX7_over 38 = .ok (.iinc 3 1, 3) := by decide +kernel
theorem dX7_over_41 : decode cX7_over 41 = .ok (.goto (-37), 3) := by decide +kernel
theorem dX7_over_44 : decode cX7_over 44 = .ok (.iconst (-1), 1) := by decide +kernel
theorem dX7_over_45 : decode cX7_over 45 = .ok (.ireturn, 1) := by decide +kernel
set_option maxRecDepth 100000 in
theorem ggX7_open_X7_at : GoodIn wsX7_open wsX7_at := goodIn_r _ [7, 8, 9, 10, 11, 12, 13, 6, 14, 1, 27, 28, 29, 30, 31, 32, 33, 34, 35, 36, 37, 38, 39, 40, 41, 42, 43, 44, 45, 46, 47, 48, 49, 50, 51, 52, 53, 54, 55, 56, 57] rfl (by decide +kernel)
set_option maxRecDepth 100000 in
theorem gX7_open_X7_at : GoodIn wsX7_open (wsV RX7 183 RX7 yX7_at wsX7_at) := goodIn_app (goodIn_of _ (by decide +kernel)) ggX7_open_X7_at
set_option maxRecDepth 100000 in
theorem ggX7_open_J9_min_eb370 : GoodIn wsX7_open wsJ9_min_eb370 := goodIn_r _ [18, 19, 20, 21, 22, 23] rfl (by decide +kernel)
set_option maxRecDepth 100000 in
theorem gX7_open_J9_min_eb370 : GoodIn wsX7_open (va_wsS RX7 187 yJ9_min_eb370 wsJ9_min_eb370) := goodIn_app (goodIn_of _ (by decide +kernel)) ggX7_open_J9_min_eb370
set_option maxRecDepth 100000 in
theorem ggX7_open_J9_max_eb370 : GoodIn wsX7_open wsJ9_max_eb370 := goodIn_r _ [26, 19, 20, 21, 22, 23] rfl (by decide +kernel)
set_option maxRecDepth 100000 in
theorem gX7_open_J9_max_eb370 : GoodIn wsX7_open (va_wsS RX7 158 yJ9_max_eb370 wsJ9_max_eb370) := goodIn_app (goodIn_of _ (by decide +kernel)) ggX7_open_J9_max_eb370
theorem dX7_open_0 : decode cX7_open 0 = .ok (.aload_n 0, 1) := by decide +kernel
theorem dX7_open_1 : decode cX7_open 1 = .ok (.getfield 89, 3) := by decide +kernel
theorem dX7_open_4 : decode cX7_open 4 = .ok (.ifCond .eq 12, 3) := by decide +kernel
theorem dX7_open_7 : decode cX7_open 7 = .ok (.iload_n 1, 1) := by decide +kernel
theorem dX7_open_8 : decode cX7_open 8 = .ok (.ifCond .lt 8, 3) := by decide +kernel
theorem dX7_open_11 : decode cX7_open 11 = .ok (.iload_n 1, 1) := by decide +kernel
theorem dX7_open_12 : decode cX7_open 12 = .ok (.iconst 2, 1) := by decide +kernel
theorem dX7_open_13 : decode cX7_open 13 = .ok (.if_icmp .le 7, 3) := by decide +kernel
theorem dX7_open_16 : decode cX7_open 16 = .ok (.ldc2_w 66, 3) := by decide +kernel
theorem dX7_open_19 : decode cX7_open 19 = .ok (.dreturn, 1) := by decide +kernel
theorem dX7_open_20 : decode cX7_open 20 = .ok (.aload_n 0, 1) := by decide +kernel
theorem dX7_open_21 : decode cX7_open 21 = .ok (.iconst 0, 1) := by decide +kernel
theorem dX7_open_22 : decode cX7_open 22 = .ok (.iload_n 1, 1) := by decide +kernel
theorem dX7_open_23 : decode cX7_open 23 = .ok (.invokevirtual 183, 3) := by decide +kernel
theorem dX7_open_26 : decode cX7_open 26 = .ok (.dstore_n 2, 1) := by decide +kernel
theorem dX7_open_27 : decode cX7_open 27 = .ok (.dload_n 2, 1) := by decide +kernel
theorem dX7_open_28 : decode cX7_open 28 = .ok (.dstore 4, 2) := by decide +kernel
theorem dX7_open_30 : decode cX7_open 30 = .ok (.iconst 1, 1) := by decide +kernel
theorem dX7_open_31 : decode cX7_open 31 = .ok (.istore 6, 2) := by decide +kernel
theorem dX7_open_33 : decode cX7_open 33 = .ok (.iload 6, 2) := by decide +kernel
theorem dX7_open_35 : decode cX7_open 35 = .ok (.aload_n 0, 1) := by decide +kernel
theorem dX7_open_36 : decode cX7_open 36 = .ok (.getfield 89, 3) := by decide +kernel
theorem dX7_open_39 : decode cX7_open 39 = .ok (.if_icmp .ge 35, 3) := by decide +kernel
theorem dX7_open_42 : decode cX7_open 42 = .ok (.dload_n 2, 1) := by decide +kernel
theorem dX7_open_43 : decode cX7_open 43 = .ok (.aload_n 0, 1) := by decide +kernel
theorem dX7_open_44 : decode cX7_open 44 = .ok (.iload 6, 2) := by decide +kernel
theorem dX7_open_46 : decode cX7_open 46 = .ok (.iload_n 1, 1) := by decide +kernel
theorem dX7_open_47 : decode cX7_open 47 = .ok (.invokevirtual 183, 3) := by decide +kernel
theorem dX7_open_50 : decode cX7_open 50 = .ok (.invokestatic 187, 3) := by decide +kernel
theorem dX7_open_53 : decode cX7_open 53 = .ok (.dstore_n 2, 1) := by decide +kernel
theorem dX7_open_54 : decode cX7_open 54 = .ok (.dload 4, 2) := by decide +kernel
theorem dX7_open_56 : decode cX7_open 56 = .ok (.aload_n 0, 1) := by decide +kernel
theorem dX7_open_57 : decode cX7_open 57 = .ok (.iload 6, 2) := by decide +kernel
theorem dX7_open_59 : decode cX7_open 59 = .ok (.iload_n 1, 1) := by decide +kernel
theorem dX7_open_60 : decode cX7_open 60 = .ok (.invokevirtual 183, 3) := by decide +kernel
theorem dX7_open_63 : decode cX7_open 63 = .ok (.invokestatic 158, 3) := by decide +kernel
theorem dX7_open_66 : decode cX7_open 66 = .ok (.dstore 4, 2) := by decide +kernel
theorem dX7_open_68 : decode cX7_open 68 = .ok (.iinc 6 1, 3) := by decide +kernel
theorem dX7_open_71 : decode cX7_open 71 = .ok (.goto (-38), 3) := by decide +kernel
theorem dX7_open_74 : decode cX7_open 74 = .ok (.dload 4, 2) := by decide +kernel
theorem dX7_open_76 : decode cX7_open 76 = .ok (.dload_n 2, 1) := by decide +kernel
theorem dX7_open_77 : decode cX7_open 77 = .ok (.dsub, 1) := by decide +kernel
theorem dX7_open_78 : decode cX7_open 78 = .ok (.dreturn, 1) := by decide +kernel
theorem dX7_mirrored_0 : decode cX7_mirrored 0 = .ok (.iconst 1, 1) := by decide +kernel
theorem dX7_mirrored_1 : decode cX7_mirrored 1 = .ok (.istore_n 1, 1) := by decide +kernel
theorem dX7_mirrored_2 : decode cX7_mirrored 2 = .ok (.iconst 0, 1) := by decide +kernel
theorem dX7_mirrored_3 : decode cX7_mirrored 3 = .ok (.istore_n 2, 1) := by decide +kernel
theorem dX7_mirrored_4 : decode cX7_mirrored 4 = .ok (.iload_n 2, 1) := by decide +kernel
theorem dX7_mirrored_5 : decode cX7_mirrored 5 = .ok (.aload_n 0, 1) := by decide +kernel
theorem dX7_mirrored_6 : decode cX7_mirrored 6 = .ok (.getfield 89, 3) := by decide +kernel
theorem dX7_mirrored_9 : decode cX7_mirrored 9 = .ok (.if_icmp .ge 106, 3) := by decide +kernel
theorem dX7_mirrored_12 : decode cX7_mirrored 12 = .ok (.iconst 0, 1) := by decide +kernel
theorem dX7_mirrored_13 : decode cX7_mirrored 13 = .ok (.istore_n 3, 1) := by decide +kernel
theorem dX7_mirrored_14 : decode cX7_mirrored 14 = .ok (.iconst 0, 1) := by decide +kernel
theorem dX7_mirrored_15 : decode cX7_mirrored 15 = .ok (.istore 4, 2) := by decide +kernel
theorem dX7_mirrored_17 : decode cX7_mirrored 17 = .ok (.iload 4, 2) := by decide +kernel
theorem dX7_mirrored_19 : decode cX7_mirrored 19 = .ok (.aload_n 0, 1) := by decide +kernel
theorem dX7_mirrored_20 : decode cX7_mirrored 20 = .ok (.getfield 89, 3) := by decide +kernel
theorem dX7_mirrored_23 : decode cX7_mirrored 23 = .ok (.if_icmp .ge 72, 3) := by decide +kernel
theorem dX7_mirrored_26 : decode cX7_mirrored 26 = .ok (.iload_n 3, 1) := by decide +kernel
theorem dX7_mirrored_27 : decode cX7_mirrored 27 = .ok (.ifCond .ne 56, 3) := by decide +kernel
theorem dX7_mirrored_30 : decode cX7_mirrored 30 = .ok (.aload_n 0, 1) := by decide +kernel
theorem dX7_mirrored_31 : decode cX7_mirrored 31 = .ok (.getfield 7, 3) := by decide +kernel
theorem dX7_mirrored_34 : decode cX7_mirrored 34 = .ok (.iload 4, 2) := by decide +kernel
theorem dX7_mirrored_36 : decode cX7_mirrored 36 = .ok (.daload, 1) := by decide +kernel
theorem dX7_mirrored_37 : decode cX7_mirrored 37 = .ok (.dconst 0, 1) := by decide +kernel
theorem dX7_mirrored_38 : decode cX7_mirrored 38 = .ok (.aload_n 0, 1) := by decide +kernel
theorem dX7_mirrored_39 : decode cX7_mirrored 39 = .ok (.getfield 7, 3) := by decide +kernel
theorem dX7_mirrored_42 : decode cX7_mirrored 42 = .ok (.iload_n 2, 1) := by decide +kernel
theorem dX7_mirrored_43 : decode cX7_mirrored 43 = .ok (.daload, 1) := by decide +kernel
theorem dX7_mirrored_44 : decode cX7_mirrored 44 = .ok (.dsub, 1) := by decide +kernel
theorem dX7_mirrored_45 : decode cX7_mirrored 45 = .ok (.dcmp .l, 1) := by decide +kernel
theorem dX7_mirrored_46 : decode cX7_mirrored 46 = .ok (.ifCond .ne 41, 3) := by decide +kernel
theorem dX7_mirrored_49 : decode cX7_mirrored 49 = .ok (.aload_n 0, 1) := by decide +kernel
theorem dX7_mirrored_50 : decode cX7_mirrored 50 = .ok (.getfield 13, 3) := by decide +kernel
theorem dX7_mirrored_53 : decode cX7_mirrored 53 = .ok (.iload 4, 2) := by decide +kernel
theorem dX7_mirrored_55 : decode cX7_mirrored 55 = .ok (.daload, 1) := by decide +kernel
theorem dX7_mirrored_56 : decode cX7_mirrored 56 = .ok (.aload_n 0, 1) := by decide +kernel
theorem dX7_mirrored_57 : decode cX7_mirrored 57 = .ok (.getfield 13, 3) := by decide +kernel
theorem dX7_mirrored_60 : decode cX7_mirrored 60 = .ok (.iload_n 2, 1) := by decide +kernel
theorem dX7_mirrored_61 : decode cX7_mirrored 61 = .ok (.daload, 1) := by decide +kernel
theorem dX7_mirrored_62 : decode cX7_mirrored 62 = .ok (.dcmp .l, 1) := by decide +kernel
theorem dX7_mirrored_63 : decode cX7_mirrored 63 = .ok (.ifCond .ne 24, 3) := by decide +kernel
theorem dX7_mirrored_66 : decode cX7_mirrored 66 = .ok (.aload_n 0, 1) := by decide +kernel
theorem dX7_mirrored_67 : decode cX7_mirrored 67 = .ok (.getfield 16, 3) := by decide +kernel
theorem dX7_mirrored_70 : decode cX7_mirrored 70 = .ok (.iload 4, 2) := by decide +kernel
theorem dX7_mirrored_72 : decode cX7_mirrored 72 = .ok (.daload, 1) := by decide +kernel
theorem dX7_mirrored_73 : decode cX7_mirrored 73 = .ok (.aload_n 0, 1) := by decide +kernel
theorem dX7_mirrored_74 : decode cX7_mirrored 74 = .ok (.getfield 16, 3) := by decide +kernel
theorem dX7_mirrored_77 : decode cX7_mirrored 77 = .ok (.iload_n 2, 1) := by decide +kernel
theorem dX7_mirrored_78 : decode cX7_mirrored 78 = .ok (.daload, 1) := by decide +kernel
theorem dX7_mirrored_79 : decode cX7_mirrored 79 = .ok (.dcmp .l, 1) := by decide +kernel
theorem dX7_mirrored_80 : decode cX7_mirrored 80 = .ok (.ifCond .ne 7, 3) := by decide +kernel
theorem dX7_mirrored_83 : decode cX7_mirrored 83 = .ok (.iconst 1, 1) := by decide +kernel
theorem dX7_mirrored_84 : decode cX7_mirrored 84 = .ok (.goto 4, 3) := by decide +kernel
theorem dX7_mirrored_87 : decode cX7_mirrored 87 = .ok (.iconst 0, 1) := by decide +kernel
theorem dX7_mirrored_88 : decode cX7_mirrored 88 = .ok (.istore_n 3, 1) := by decide +kernel
theorem dX7_mirrored_89 : decode cX7_mirrored 89 = .ok (.iinc 4 1, 3) := by decide +kernel
theorem dX7_mirrored_92 : decode cX7_mirrored 92 = .ok (.goto (-75), 3) := by decide +kernel
theorem dX7_mirrored_95 : decode cX7_mirrored 95 = .ok (.iload_n 1, 1) := by decide +kernel
theorem dX7_mirrored_96 : decode cX7_mirrored 96 = .ok (.ifCond .eq 11, 3) := by decide +kernel
theorem dX7_mirrored_99 : decode cX7_mirrored 99 = .ok (.iload_n 3, 1) := by decide +kernel
theorem dX7_mirrored_100 : decode cX7_mirrored 100 = .ok (.ifCond .eq 7, 3) := by decide +kernel
theorem dX7_mirrored_103 : decode cX7_mirrored 103 = .ok (.iconst 1, 1) := by decide +kernel
theorem dX7_mirrored_104 : decode cX7_mirrored 104 = .ok (.goto 4, 3) := by decide +kernel
theorem dX7_mirrored_107 : decode cX7_mirrored 107 = .ok (.iconst 0, 1) := by decide +kernel
theorem dX7_mirrored_108 : decode cX7_mirrored 108 = .ok (.istore_n 1, 1) := by decide +kernel
theorem dX7_mirrored_109 : decode cX7_mirrored 109 = .ok (.iinc 2 1, 3) := by decide +kernel
theorem dX7_mirrored_112 : decode cX7_mirrored 112 = .ok (.goto (-108), 3) := by decide +kernel
theorem dX7_mirrored_115 : decode cX7_mirrored 115 = .ok (.iload_n 1, 1) := by decide +kernel
theorem dX7_mirrored_116 : decode cX7_mirrored 116 = .ok (.ireturn, 1) := by decide +kernel
theorem dX7_best_0 : decode cX7_best 0 = .ok (.iload_n 1, 1) := by decide +kernel
theorem dX7_best_1 : decode cX7_best 1 = .ok (.iconst 1, 1) := by decide +kernel
theorem dX7_best_2 : decode cX7_best 2 = .ok (.if_icmp .lt 16, 3) := by decide +kernel
theorem dX7_best_5 : decode cX7_best 5 = .ok (.iload_n 1, 1) := by decide +kernel
theorem dX7_best_6 : decode cX7_best 6 = .ok (.bipush 20, 2) := by decide +kernel
theorem dX7_best_8 : decode cX7_best 8 = .ok (.if_icmp .gt 10, 3) := by decide +kernel
theorem dX7_best_11 : decode cX7_best 11 = .ok (.aload_n 0, 1) := by decide +kernel
theorem dX7_best_12 : decode cX7_best 12 = .ok (.getfield 173, 3) := by decide +kernel
theorem dX7_best_15 : decode cX7_best 15 = .ok (.ifCond .ne 5, 3) := by decide +kernel
theorem dX7_best_18 : decode cX7_best 18 = .ok (.iconst (-1), 1) := by decide +kernel
theorem dX7_best_19 : decode cX7_best 19 = .ok (.ireturn, 1) := by decide +kernel
theorem dX7_best_20 : decode cX7_best 20 = .ok (.iconst 0, 1) := by decide +kernel
theorem dX7_best_21 : decode cX7_best 21 = .ok (.istore_n 2, 1) := by decide +kernel
theorem dX7_best_22 : decode cX7_best 22 = .ok (.iconst 1, 1) := by decide +kernel
theorem dX7_best_23 : decode cX7_best 23 = .ok (.istore_n 3, 1) := by decide +kernel
theorem dX7_best_24 : decode cX7_best 24 = .ok (.iload_n 3, 1) := by decide +kernel
theorem dX7_best_25 : decode cX7_best 25 = .ok (.iload_n 1, 1) := by decide +kernel
theorem dX7_best_26 : decode cX7_best 26 = .ok (.if_icmp .ge 53, 3) := by decide +kernel
theorem dX7_best_29 : decode cX7_best 29 = .ok (.iload_n 3, 1) := by decide +kernel
theorem dX7_best_30 : decode cX7_best 30 = .ok (.aload_n 0, 1) := by decide +kernel
theorem dX7_best_31 : decode cX7_best 31 = .ok (.getfield 173, 3) := by decide +kernel
theorem dX7_best_34 : decode cX7_best 34 = .ok (.if_icmp .ge 45, 3) := by decide +kernel
theorem dX7_best_37 : decode cX7_best 37 = .ok (.aload_n 0, 1) := by decide +kernel
theorem dX7_best_38 : decode cX7_best 38 = .ok (.getfield 75, 3) := by decide +kernel
theorem dX7_best_41 : decode cX7_best 41 = .ok (.aload_n 0, 1) := by decide +kernel
theorem dX7_best_42 : decode cX7_best 42 = .ok (.getfield 173, 3) := by decide +kernel
theorem dX7_best_45 : decode cX7_best 45 = .ok (.iconst 1, 1) := by decide +kernel
theorem dX7_best_46 : decode cX7_best 46 = .ok (.isub, 1) := by decide +kernel
theorem dX7_best_47 : decode cX7_best 47 = .ok (.iload_n 3, 1) := by decide +kernel
theorem dX7_best_48 : decode cX7_best 48 = .ok (.isub, 1) := by decide +kernel
theorem dX7_best_49 : decode cX7_best 49 = .ok (.daload, 1) := by decide +kernel
theorem dX7_best_50 : decode cX7_best 50 = .ok (.aload_n 0, 1) := by decide +kernel
theorem dX7_best_51 : decode cX7_best 51 = .ok (.getfield 75, 3) := by decide +kernel
theorem dX7_best_54 : decode cX7_best 54 = .ok (.aload_n 0, 1) := by decide +kernel
theorem dX7_best_55 : decode cX7_best 55 = .ok (.getfield 173, 3) := by decide +kernel
theorem dX7_best_58 : decode cX7_best 58 = .ok (.iconst 1, 1) := by decide +kernel
theorem dX7_best_59 : decode cX7_best 59 = .ok (.isub, 1) := by decide +kernel
theorem dX7_best_60 : decode cX7_best 60 = .ok (.iload_n 2, 1) := by decide +kernel
theorem dX7_best_61 : decode cX7_best 61 = .ok (.isub, 1) := by decide +kernel
theorem dX7_best_62 : decode cX7_best 62 = .ok (.daload, 1) := by decide +kernel
theorem dX7_best_63 : decode cX7_best 63 = .ok (.dcmp .g, 1) := by decide +kernel
theorem dX7_best_64 : decode cX7_best 64 = .ok (.ifCond .ge 7, 3) := by decide +kernel
theorem dX7_best_67 : decode cX7_best 67 = .ok (.iload_n 3, 1) := by decide +kernel
theorem dX7_best_68 : decode cX7_best 68 = .ok (.goto 4, 3) := by decide +kernel
theorem dX7_best_71 : decode cX7_best 71 = .ok (.iload_n 2, 1) := by decide +kernel
theorem dX7_best_72 : decode cX7_best 72 = .ok (.istore_n 2, 1) := by decide +kernel
theorem dX7_best_73 : decode cX7_best 73 = .ok (.iinc 3 1, 3) := by decide +kernel
theorem dX7_best_76 : decode cX7_best 76 = .ok (.goto (-52), 3) := by decide +kernel
theorem dX7_best_79 : decode cX7_best 79 = .ok (.iload_n 2, 1) := by decide +kernel
theorem dX7_best_80 : decode cX7_best 80 = .ok (.ireturn, 1) := by decide +kernel
theorem dX7_panel_0 : decode cX7_panel 0 = .ok (.aload_n 0, 1) := by decide +kernel
theorem dX7_panel_1 : decode cX7_panel 1 = .ok (.getfield 190, 3) := by decide +kernel
theorem dX7_panel_4 : decode cX7_panel 4 = .ok (.bipush 30, 2) := by decide +kernel
theorem dX7_panel_6 : decode cX7_panel 6 = .ok (.if_icmp .eq 39, 3) := by decide +kernel
theorem dX7_panel_9 : decode cX7_panel 9 = .ok (.iload_n 1, 1) := by decide +kernel
theorem dX7_panel_10 : decode cX7_panel 10 = .ok (.iconst 1, 1) := by decide +kernel
theorem dX7_panel_11 : decode cX7_panel 11 = .ok (.if_icmp .lt 34, 3) := by decide +kernel
theorem dX7_panel_14 : decode cX7_panel 14 = .ok (.iload_n 1, 1) := by decide +kernel
theorem dX7_panel_15 : decode cX7_panel 15 = .ok (.sipush 400, 3) := by decide +kernel
theorem dX7_panel_18 : decode cX7_panel 18 = .ok (.if_icmp .gt 27, 3) := by decide +kernel
theorem dX7_panel_21 : decode cX7_panel 21 = .ok (.iload_n 2, 1) := by decide +kernel
theorem dX7_panel_22 : decode cX7_panel 22 = .ok (.iconst 1, 1) := by decide +kernel
theorem dX7_panel_23 : decode cX7_panel 23 = .ok (.if_icmp .lt 22, 3) := by decide +kernel
theorem dX7_panel_26 : decode cX7_panel 26 = .ok (.iload_n 2, 1) := by decide +kernel
theorem dX7_panel_27 : decode cX7_panel 27 = .ok (.sipush 400, 3) := by decide +kernel
theorem dX7_panel_30 : decode cX7_panel 30 = .ok (.if_icmp .gt 15, 3) := by decide +kernel
theorem dX7_panel_33 : decode cX7_panel 33 = .ok (.iload_n 3, 1) := by decide +kernel
theorem dX7_panel_34 : decode cX7_panel 34 = .ok (.iconst 1, 1) := by decide +kernel
theorem dX7_panel_35 : decode cX7_panel 35 = .ok (.if_icmp .lt 10, 3) := by decide +kernel
theorem dX7_panel_38 : decode cX7_panel 38 = .ok (.iload_n 3, 1) := by decide +kernel
theorem dX7_panel_39 : decode cX7_panel 39 = .ok (.sipush 200, 3) := by decide +kernel
theorem dX7_panel_42 : decode cX7_panel 42 = .ok (.if_icmp .le 5, 3) := by decide +kernel
theorem dX7_panel_45 : decode cX7_panel 45 = .ok (.iconst (-1), 1) := by decide +kernel
theorem dX7_panel_46 : decode cX7_panel 46 = .ok (.ireturn, 1) := by decide +kernel
theorem dX7_panel_47 : decode cX7_panel 47 = .ok (.aload_n 0, 1) := by decide +kernel
theorem dX7_panel_48 : decode cX7_panel 48 = .ok (.getfield 78, 3) := by decide +kernel
theorem dX7_panel_51 : decode cX7_panel 51 = .ok (.aload_n 0, 1) := by decide +kernel
theorem dX7_panel_52 : decode cX7_panel 52 = .ok (.getfield 190, 3) := by decide +kernel
theorem dX7_panel_55 : decode cX7_panel 55 = .ok (.iload_n 1, 1) := by decide +kernel
theorem dX7_panel_56 : decode cX7_panel 56 = .ok (.iastore, 1) := by decide +kernel
theorem dX7_panel_57 : decode cX7_panel 57 = .ok (.aload_n 0, 1) := by decide +kernel
theorem dX7_panel_58 : decode cX7_panel 58 = .ok (.getfield 81, 3) := by decide +kernel
theorem dX7_panel_61 : decode cX7_panel 61 = .ok (.aload_n 0, 1) := by decide +kernel
theorem dX7_panel_62 : decode cX7_panel 62 = .ok (.getfield 190, 3) := by decide +kernel
theorem dX7_panel_65 : decode cX7_panel 65 = .ok (.iload_n 2, 1) := by decide +kernel
theorem dX7_panel_66 : decode cX7_panel 66 = .ok (.iastore, 1) := by decide +kernel
theorem dX7_panel_67 : decode cX7_panel 67 = .ok (.aload_n 0, 1) := by decide +kernel
theorem dX7_panel_68 : decode cX7_panel 68 = .ok (.getfield 84, 3) := by decide +kernel
theorem dX7_panel_71 : decode cX7_panel 71 = .ok (.aload_n 0, 1) := by decide +kernel
theorem dX7_panel_72 : decode cX7_panel 72 = .ok (.getfield 190, 3) := by decide +kernel
theorem dX7_panel_75 : decode cX7_panel 75 = .ok (.iload_n 3, 1) := by decide +kernel
theorem dX7_panel_76 : decode cX7_panel 76 = .ok (.iastore, 1) := by decide +kernel
theorem dX7_panel_77 : decode cX7_panel 77 = .ok (.aload_n 0, 1) := by decide +kernel
theorem dX7_panel_78 : decode cX7_panel 78 = .ok (.dup, 1) := by decide +kernel
theorem dX7_panel_79 : decode cX7_panel 79 = .ok (.getfield 190, 3) := by decide +kernel
theorem dX7_panel_82 : decode cX7_panel 82 = .ok (.iconst 1, 1) := by decide +kernel
theorem dX7_panel_83 : decode cX7_panel 83 = .ok (.iadd, 1) := by decide +kernel
theorem dX7_panel_84 : decode cX7_panel 84 = .ok (.putfield 190, 3) := by decide +kernel
theorem dX7_panel_87 : decode cX7_panel 87 = .ok (.aload_n 0, 1) := by decide +kernel
theorem dX7_panel_88 : decode cX7_panel 88 = .ok (.getfield 190, 3) := by decide +kernel
theorem dX7_panel_91 : decode cX7_panel 91 = .ok (.iconst 1, 1) := by decide +kernel
theorem dX7_panel_92 : decode cX7_panel 92 = .ok (.isub, 1) := by decide +kernel
theorem dX7_panel_93 : decode cX7_panel 93 = .ok (.ireturn, 1) := by decide +kernel
theorem dX7_isPanel_0 : decode cX7_isPanel 0 = .ok (.iload_n 1, 1) := by decide +kernel
theorem dX7_isPanel_1 : decode cX7_isPanel 1 = .ok (.ifCond .lt 15, 3) := by decide +kernel
theorem dX7_isPanel_4 : decode cX7_isPanel 4 = .ok (.iload_n 1, 1) := by decide +kernel
theorem dX7_isPanel_5 : decode cX7_isPanel 5 = .ok (.aload_n 0, 1) := by decide +kernel
theorem dX7_isPanel_6 : decode cX7_isPanel 6 = .ok (.getfield 190, 3) := by decide +kernel
theorem dX7_isPanel_9 : decode cX7_isPanel 9 = .ok (.if_icmp .ge 7, 3) := by decide +kernel
theorem dX7_isPanel_12 : decode cX7_isPanel 12 = .ok (.iconst 1, 1) := by decide +kernel
theorem dX7_isPanel_13 : decode cX7_isPanel 13 = .ok (.goto 4, 3) := by decide +kernel
theorem dX7_isPanel_16 : decode cX7_isPanel 16 = .ok (.iconst 0, 1) := by decide +kernel
theorem dX7_isPanel_17 : decode cX7_isPanel 17 = .ok (.ireturn, 1) := by decide +kernel
theorem dX7_meshes_0 : decode cX7_meshes 0 = .ok (.aload_n 0, 1) := by decide +kernel
theorem dX7_meshes_1 : decode cX7_meshes 1 = .ok (.getfield 78, 3) := by decide +kernel
theorem dX7_meshes_4 : decode cX7_meshes 4 = .ok (.iload_n 1, 1) := by decide +kernel
theorem dX7_meshes_5 : decode cX7_meshes 5 = .ok (.iaload, 1) := by decide +kernel
theorem dX7_meshes_6 : decode cX7_meshes 6 = .ok (.aload_n 0, 1) := by decide +kernel
theorem dX7_meshes_7 : decode cX7_meshes 7 = .ok (.getfield 81, 3) := by decide +kernel
theorem dX7_meshes_10 : decode cX7_meshes 10 = .ok (.iload_n 1, 1) := by decide +kernel
theorem dX7_meshes_11 : decode cX7_meshes 11 = .ok (.iaload, 1) := by decide +kernel
theorem dX7_meshes_12 : decode cX7_meshes 12 = .ok (.aload_n 0, 1) := by decide +kernel
theorem dX7_meshes_13 : decode cX7_meshes 13 = .ok (.getfield 78, 3) := by decide +kernel
theorem dX7_meshes_16 : decode cX7_meshes 16 = .ok (.iload_n 1, 1) := by decide +kernel
theorem dX7_meshes_17 : decode cX7_meshes 17 = .ok (.iaload, 1) := by decide +kernel
theorem dX7_meshes_18 : decode cX7_meshes 18 = .ok (.isub, 1) := by decide +kernel
theorem dX7_meshes_19 : decode cX7_meshes 19 = .ok (.iload_n 2, 1) := by decide +kernel
theorem dX7_meshes_20 : decode cX7_meshes 20 = .ok (.iconst 1, 1) := by decide +kernel
theorem dX7_meshes_21 : decode cX7_meshes 21 = .ok (.iadd, 1) := by decide +kernel
theorem dX7_meshes_22 : decode cX7_meshes 22 = .ok (.imul, 1) := by decide +kernel
theorem dX7_meshes_23 : decode cX7_meshes 23 = .ok (.aload_n 0, 1) := by decide +kernel
theorem dX7_meshes_24 : decode cX7_meshes 24 = .ok (.getfield 84, 3) := by decide +kernel
theorem dX7_meshes_27 : decode cX7_meshes 27 = .ok (.iload_n 1, 1) := by decide +kernel
theorem dX7_meshes_28 : decode cX7_meshes 28 = .ok (.iaload, 1) := by decide +kernel
theorem dX7_meshes_29 : decode cX7_meshes 29 = .ok (.idiv, 1) := by decide +kernel
theorem dX7_meshes_30 : decode cX7_meshes 30 = .ok (.iadd, 1) := by decide +kernel
theorem dX7_meshes_31 : decode cX7_meshes 31 = .ok (.ireturn, 1) := by decide +kernel
set_option maxRecDepth 100000 in
theorem ggX7_cut_X7_isPanel : GoodIn wsX7_cut wsX7_isPanel := goodIn_r _ [6, 7, 14, 15, 16, 17, 18, 19, 20, 21, 22, 23, 24, 25, 26, 27, 28, 29, 30, 31, 32, 33, 34, 35, 36, 37, 38, 39, 40, 41, 42, 43, 44] rfl (by decide +kernel)
set_option maxRecDepth 100000 in
theorem gX7_cut_X7_isPanel : GoodIn wsX7_cut (wsV RX7 193 RX7 yX7_isPanel wsX7_isPanel) := goodIn_app (goodIn_of _ (by decide +kernel)) ggX7_cut_X7_isPanel
set_option maxRecDepth 100000 in
theorem ggX7_cut_X7_meshes : GoodIn wsX7_cut wsX7_meshes := goodIn_r _ [11, 12, 13, 1, 14, 15, 16, 17, 18, 19, 20, 21, 22, 23, 24, 25, 26, 27, 28, 29, 30, 31, 32, 33, 34, 35, 36, 37, 38, 39, 40, 41, 42, 43, 44] rfl (by decide +kernel)
set_option maxRecDepth 100000 in
theorem gX7_cut_X7_meshes : GoodIn wsX7_cut (wsV RX7 196 RX7 yX7_meshes wsX7_meshes) := goodIn_app (goodIn_of _ (by decide +kernel)) ggX7_cut_X7_meshes
theorem dX7_cut_0 : decode cX7_cut 0 = .ok (.aload_n 0, 1) := by decide +kernel
theorem dX7_cut_1 : decode cX7_cut 1 = .ok (.iload_n 1, 1) := by decide +kernel
theorem dX7_cut_2 : decode cX7_cut 2 = .ok (.invokevirtual 193, 3) := by decide +kernel
theorem dX7_cut_5 : decode cX7_cut 5 = .ok (.ifCond .eq 26, 3) := by decide +kernel
theorem dX7_cut_8 : decode cX7_cut 8 = .ok (.iload_n 2, 1) := by decide +kernel
theorem dX7_cut_9 : decode cX7_cut 9 = .ok (.ifCond .lt 22, 3) := by decide +kernel
theorem dX7_cut_12 : decode cX7_cut 12 = .ok (.iload_n 2, 1) := by decide +kernel
theorem dX7_cut_13 : decode cX7_cut 13 = .ok (.aload_n 0, 1) := by decide +kernel
theorem dX7_cut_14 : decode cX7_cut 14 = .ok (.getfield 84, 3) := by decide +kernel
theorem dX7_cut_17 : decode cX7_cut 17 = .ok (.iload_n 1, 1) := by decide +kernel
theorem dX7_cut_18 : decode cX7_cut 18 = .ok (.iaload, 1) := by decide +kernel
theorem dX7_cut_19 : decode cX7_cut 19 = .ok (.if_icmp .ge 12, 3) := by decide +kernel
theorem dX7_cut_22 : decode cX7_cut 22 = .ok (.iload_n 3, 1) := by decide +kernel
theorem dX7_cut_23 : decode cX7_cut 23 = .ok (.ifCond .lt 8, 3) := by decide +kernel
theorem dX7_cut_26 : decode cX7_cut 26 = .ok (.iload_n 3, 1) := by decide +kernel
theorem dX7_cut_27 : decode cX7_cut 27 = .ok (.iconst 1, 1) := by decide +kernel
theorem dX7_cut_28 : decode cX7_cut 28 = .ok (.if_icmp .le 5, 3) := by decide +kernel
theorem dX7_cut_31 : decode cX7_cut 31 = .ok (.iconst (-1), 1) := by decide +kernel
theorem dX7_cut_32 : decode cX7_cut 32 = .ok (.ireturn, 1) := by decide +kernel
theorem dX7_cut_33 : decode cX7_cut 33 = .ok (.iload_n 3, 1) := by decide +kernel
theorem dX7_cut_34 : decode cX7_cut 34 = .ok (.ifCond .ne 12, 3) := by decide +kernel
theorem dX7_cut_37 : decode cX7_cut 37 = .ok (.aload_n 0, 1) := by decide +kernel
theorem dX7_cut_38 : decode cX7_cut 38 = .ok (.iload_n 1, 1) := by decide +kernel
theorem dX7_cut_39 : decode cX7_cut 39 = .ok (.iload_n 2, 1) := by decide +kernel
theorem dX7_cut_40 : decode cX7_cut 40 = .ok (.invokevirtual 196, 3) := by decide +kernel
theorem dX7_cut_43 : decode cX7_cut 43 = .ok (.goto 18, 3) := by decide +kernel
theorem dX7_cut_46 : decode cX7_cut 46 = .ok (.aload_n 0, 1) := by decide +kernel
theorem dX7_cut_47 : decode cX7_cut 47 = .ok (.iload_n 1, 1) := by decide +kernel
theorem dX7_cut_48 : decode cX7_cut 48 = .ok (.iload_n 2, 1) := by decide +kernel
theorem dX7_cut_49 : decode cX7_cut 49 = .ok (.invokevirtual 196, 3) := by decide +kernel
theorem dX7_cut_52 : decode cX7_cut 52 = .ok (.aload_n 0, 1) := by decide +kernel
theorem dX7_cut_53 : decode cX7_cut 53 = .ok (.iload_n 1, 1) := by decide +kernel
theorem dX7_cut_54 : decode cX7_cut 54 = .ok (.iload_n 2, 1) := by decide +kernel
theorem dX7_cut_55 : decode cX7_cut 55 = .ok (.iconst 1, 1) := by decide +kernel
theorem dX7_cut_56 : decode cX7_cut 56 = .ok (.isub, 1) := by decide +kernel
theorem dX7_cut_57 : decode cX7_cut 57 = .ok (.invokevirtual 196, 3) := by decide +kernel
theorem dX7_cut_60 : decode cX7_cut 60 = .ok (.isub, 1) := by decide +kernel
theorem dX7_cut_61 : decode cX7_cut 61 = .ok (.ireturn, 1) := by decide +kernel
set_option maxRecDepth 100000 in
theorem ggX7_whole_X7_isPanel : GoodIn wsX7_whole wsX7_isPanel := goodIn_r _ [7, 8, 9, 10, 11, 12, 13, 14, 15, 16, 17, 18, 19, 20, 21, 22, 23, 24, 25, 26, 27, 28, 29, 30, 31, 32, 33, 34, 35, 36, 37, 38, 39] rfl (by decide +kernel)
set_option maxRecDepth 100000 in
theorem gX7_whole_X7_isPanel : GoodIn wsX7_whole (wsV RX7 193 RX7 yX7_isPanel wsX7_isPanel) := goodIn_app (goodIn_of _ (by decide +kernel)) ggX7_whole_X7_isPanel
theorem dX7_whole_0 : decode cX7_whole 0 = .ok (.aload_n 0, 1) := by decide +kernel
theorem dX7_whole_1 : decode cX7_whole 1 = .ok (.iload_n 1, 1) := by decide +kernel
theorem dX7_whole_2 : decode cX7_whole 2 = .ok (.invokevirtual 193, 3) := by decide +kernel
theorem dX7_whole_5 : decode cX7_whole 5 = .ok (.ifCond .eq 25, 3) := by decide +kernel
theorem dX7_whole_8 : decode cX7_whole 8 = .ok (.aload_n 0, 1) := by decide +kernel
theorem dX7_whole_9 : decode cX7_whole 9 = .ok (.getfield 81, 3) := by decide +kernel
theorem dX7_whole_12 : decode cX7_whole 12 = .ok (.iload_n 1, 1) := by decide +kernel
theorem dX7_whole_13 : decode cX7_whole 13 = .ok (.iaload, 1) := by decide +kernel
theorem dX7_whole_14 : decode cX7_whole 14 = .ok (.aload_n 0, 1) := by decide +kernel
theorem dX7_whole_15 : decode cX7_whole 15 = .ok (.getfield 78, 3) := by decide +kernel
theorem dX7_whole_18 : decode cX7_whole 18 = .ok (.iload_n 1, 1) := by decide +kernel
theorem dX7_whole_19 : decode cX7_whole 19 = .ok (.iaload, 1) := by decide +kernel
theorem dX7_whole_20 : decode cX7_whole 20 = .ok (.isub, 1) := by decide +kernel
theorem dX7_whole_21 : decode cX7_whole 21 = .ok (.iconst 2, 1) := by decide +kernel
theorem dX7_whole_22 : decode cX7_whole 22 = .ok (.irem, 1) := by decide +kernel
theorem dX7_whole_23 : decode cX7_whole 23 = .ok (.ifCond .ne 7, 3) := by decide +kernel
theorem dX7_whole_26 : decode cX7_whole 26 = .ok (.iconst 1, 1) := by decide +kernel
theorem dX7_whole_27 : decode cX7_whole 27 = .ok (.goto 4, 3) := by decide +kernel
theorem dX7_whole_30 : decode cX7_whole 30 = .ok (.iconst 0, 1) := by decide +kernel
theorem dX7_whole_31 : decode cX7_whole 31 = .ok (.ireturn, 1) := by decide +kernel
set_option maxRecDepth 100000 in
theorem ggX7_edge_X7_isPanel : GoodIn wsX7_edge wsX7_isPanel := goodIn_r _ [11, 12, 13, 14, 15, 16, 17, 18, 19, 20, 21, 22, 23, 24, 25, 26, 27, 28, 29, 30, 31, 32, 33, 34, 35, 36, 37, 38, 39, 40, 41, 42, 43] rfl (by decide +kernel)
set_option maxRecDepth 100000 in
theorem gX7_edge_X7_isPanel : GoodIn wsX7_edge (wsV RX7 193 RX7 yX7_isPanel wsX7_isPanel) := goodIn_app (goodIn_of _ (by decide +kernel)) ggX7_edge_X7_isPanel
theorem dX7_edge_0 : decode cX7_edge 0 = .ok (.aload_n 0, 1) := by decide +kernel
theorem dX7_edge_1 : decode cX7_edge 1 = .ok (.iload_n 1, 1) := by decide +kernel
theorem dX7_edge_2 : decode cX7_edge 2 = .ok (.invokevirtual 193, 3) := by decide +kernel
theorem dX7_edge_5 : decode cX7_edge 5 = .ok (.ifCond .eq 11, 3) := by decide +kernel
theorem dX7_edge_8 : decode cX7_edge 8 = .ok (.aload_n 0, 1) := by decide +kernel
theorem dX7_edge_9 : decode cX7_edge 9 = .ok (.iload_n 2, 1) := by decide +kernel
theorem dX7_edge_10 : decode cX7_edge 10 = .ok (.invokevirtual 193, 3) := by decide +kernel
theorem dX7_edge_13 : decode cX7_edge 13 = .ok (.ifCond .ne 7, 3) := by decide +kernel
theorem dX7_edge_16 : decode cX7_edge 16 = .ok (.iconst (-1), 1) := by decide +kernel
theorem dX7_edge_17 : decode cX7_edge 17 = .ok (.goto 18, 3) := by decide +kernel
theorem dX7_edge_20 : decode cX7_edge 20 = .ok (.aload_n 0, 1) := by decide +kernel
theorem dX7_edge_21 : decode cX7_edge 21 = .ok (.getfield 81, 3) := by decide +kernel
theorem dX7_edge_24 : decode cX7_edge 24 = .ok (.iload_n 1, 1) := by decide +kernel
theorem dX7_edge_25 : decode cX7_edge 25 = .ok (.iaload, 1) := by decide +kernel
theorem dX7_edge_26 : decode cX7_edge 26 = .ok (.aload_n 0, 1) := by decide +kernel
theorem dX7_edge_27 : decode cX7_edge 27 = .ok (.getfield 78, 3) := by decide +kernel
theorem dX7_edge_30 : decode cX7_edge 30 = .ok (.iload_n 2, 1) := by decide +kernel
theorem dX7_edge_31 : decode cX7_edge 31 = .ok (.iaload, 1) := by decide +kernel
theorem dX7_edge_32 : decode cX7_edge 32 = .ok (.invokestatic 200, 3) := by decide +kernel
theorem dX7_edge_35 : decode cX7_edge 35 = .ok (.ireturn, 1) := by decide +kernel
set_option maxRecDepth 100000 in
theorem ggX7_sheet_X7_isPanel : GoodIn wsX7_sheet wsX7_isPanel := goodIn_r _ [12, 13, 14, 15, 16, 17, 18, 19, 20, 21, 22, 23, 24, 25, 26, 27, 28, 29, 30, 31, 32, 33, 34, 35, 36, 37, 38, 39, 40, 41, 42, 43, 44] rfl (by decide +kernel)
set_option maxRecDepth 100000 in
theorem gX7_sheet_X7_isPanel : GoodIn wsX7_sheet (wsV RX7 193 RX7 yX7_isPanel wsX7_isPanel) := goodIn_app (goodIn_of _ (by decide +kernel)) ggX7_sheet_X7_isPanel
theorem dX7_sheet_0 : decode cX7_sheet 0 = .ok (.aload_n 0, 1) := by decide +kernel
theorem dX7_sheet_1 : decode cX7_sheet 1 = .ok (.iload_n 1, 1) := by decide +kernel
theorem dX7_sheet_2 : decode cX7_sheet 2 = .ok (.invokevirtual 193, 3) := by decide +kernel
theorem dX7_sheet_5 : decode cX7_sheet 5 = .ok (.ifCond .eq 12, 3) := by decide +kernel
theorem dX7_sheet_8 : decode cX7_sheet 8 = .ok (.iload_n 2, 1) := by decide +kernel
theorem dX7_sheet_9 : decode cX7_sheet 9 = .ok (.ifCond .lt 8, 3) := by decide +kernel
theorem dX7_sheet_12 : decode cX7_sheet 12 = .ok (.iload_n 2, 1) := by decide +kernel
theorem dX7_sheet_13 : decode cX7_sheet 13 = .ok (.iconst 1, 1) := by decide +kernel
theorem dX7_sheet_14 : decode cX7_sheet 14 = .ok (.if_icmp .le 5, 3) := by decide +kernel
theorem dX7_sheet_17 : decode cX7_sheet 17 = .ok (.iconst (-1), 1) := by decide +kernel
theorem dX7_sheet_18 : decode cX7_sheet 18 = .ok (.ireturn, 1) := by decide +kernel
theorem dX7_sheet_19 : decode cX7_sheet 19 = .ok (.iconst 0, 1) := by decide +kernel
theorem dX7_sheet_20 : decode cX7_sheet 20 = .ok (.istore_n 3, 1) := by decide +kernel
theorem dX7_sheet_21 : decode cX7_sheet 21 = .ok (.iconst 0, 1) := by decide +kernel
theorem dX7_sheet_22 : decode cX7_sheet 22 = .ok (.istore 4, 2) := by decide +kernel
theorem dX7_sheet_24 : decode cX7_sheet 24 = .ok (.iconst 0, 1) := by decide +kernel
theorem dX7_sheet_25 : decode cX7_sheet 25 = .ok (.istore 5, 2) := by decide +kernel
theorem dX7_sheet_27 : decode cX7_sheet 27 = .ok (.iconst 0, 1) := by decide +kernel
theorem dX7_sheet_28 : decode cX7_sheet 28 = .ok (.istore 6, 2) := by decide +kernel
theorem dX7_sheet_30 : decode cX7_sheet 30 = .ok (.iload 6, 2) := by decide +kernel
theorem dX7_sheet_32 : decode cX7_sheet 32 = .ok (.iload_n 1, 1) := by decide +kernel
theorem dX7_sheet_33 : decode cX7_sheet 33 = .ok (.if_icmp .gt 86, 3) := by decide +kernel
theorem dX7_sheet_36 : decode cX7_sheet 36 = .ok (.aload_n 0, 1) := by decide +kernel
theorem dX7_sheet_37 : decode cX7_sheet 37 = .ok (.getfield 78, 3) := by decide +kernel
theorem dX7_sheet_40 : decode cX7_sheet 40 = .ok (.iload 6, 2) := by decide +kernel
theorem dX7_sheet_42 : decode cX7_sheet 42 = .ok (.iaload, 1) := by decide +kernel
theorem dX7_sheet_43 : decode cX7_sheet 43 = .ok (.aload_n 0, 1) := by decide +kernel
theorem dX7_sheet_44 : decode cX7_sheet 44 = .ok (.getfield 81, 3) := by decide +kernel
theorem dX7_sheet_47 : decode cX7_sheet 47 = .ok (.iload 6, 2) := by decide +kernel
theorem dX7_sheet_49 : decode cX7_sheet 49 = .ok (.iaload, 1) := by decide +kernel
theorem dX7_sheet_50 : decode cX7_sheet 50 = .ok (.invokestatic 202, 3) := by decide +kernel
theorem dX7_sheet_53 : decode cX7_sheet 53 = .ok (.istore 7, 2) := by decide +kernel
theorem dX7_sheet_55 : decode cX7_sheet 55 = .ok (.iload_n 3, 1) := by decide +kernel
theorem dX7_sheet_56 : decode cX7_sheet 56 = .ok (.iload 7, 2) := by decide +kernel
theorem dX7_sheet_58 : decode cX7_sheet 58 = .ok (.iadd, 1) := by decide +kernel
theorem dX7_sheet_59 : decode cX7_sheet 59 = .ok (.sipush 400, 3) := by decide +kernel
theorem dX7_sheet_62 : decode cX7_sheet 62 = .ok (.if_icmp .le 15, 3) := by decide +kernel
theorem dX7_sheet_65 : decode cX7_sheet 65 = .ok (.iload 4, 2) := by decide +kernel
theorem dX7_sheet_67 : decode cX7_sheet 67 = .ok (.iload 5, 2) := by decide +kernel
theorem dX7_sheet_69 : decode cX7_sheet 69 = .ok (.iadd, 1) := by decide +kernel
theorem dX7_sheet_70 : decode cX7_sheet 70 = .ok (.istore 4, 2) := by decide +kernel
theorem dX7_sheet_72 : decode cX7_sheet 72 = .ok (.iconst 0, 1) := by decide +kernel
theorem dX7_sheet_73 : decode cX7_sheet 73 = .ok (.istore_n 3, 1) := by decide +kernel
theorem dX7_sheet_74 : decode cX7_sheet 74 = .ok (.iconst 0, 1) := by decide +kernel
theorem dX7_sheet_75 : decode cX7_sheet 75 = .ok (.istore 5, 2) := by decide +kernel
theorem dX7_sheet_77 : decode cX7_sheet 77 = .ok (.iload 6, 2) := by decide +kernel
theorem dX7_sheet_79 : decode cX7_sheet 79 = .ok (.iload_n 1, 1) := by decide +kernel
theorem dX7_sheet_80 : decode cX7_sheet 80 = .ok (.if_icmp .ne 14, 3) := by decide +kernel
theorem dX7_sheet_83 : decode cX7_sheet 83 = .ok (.iload_n 2, 1) := by decide +kernel
theorem dX7_sheet_84 : decode cX7_sheet 84 = .ok (.ifCond .ne 7, 3) := by decide +kernel
theorem dX7_sheet_87 : decode cX7_sheet 87 = .ok (.iload_n 3, 1) := by decide +kernel
theorem dX7_sheet_88 : decode cX7_sheet 88 = .ok (.goto 5, 3) := by decide +kernel
theorem dX7_sheet_91 : decode cX7_sheet 91 = .ok (.iload 4, 2) := by decide +kernel
theorem dX7_sheet_93 : decode cX7_sheet 93 = .ok (.ireturn, 1) := by decide +kernel
theorem dX7_sheet_94 : decode cX7_sheet 94 = .ok (.iload_n 3, 1) := by decide +kernel
theorem dX7_sheet_95 : decode cX7_sheet 95 = .ok (.iload 7, 2) := by decide +kernel
theorem dX7_sheet_97 : decode cX7_sheet 97 = .ok (.iadd, 1) := by decide +kernel
theorem dX7_sheet_98 : decode cX7_sheet 98 = .ok (.istore_n 3, 1) := by decide +kernel
theorem dX7_sheet_99 : decode cX7_sheet 99 = .ok (.iload 5, 2) := by decide +kernel
theorem dX7_sheet_101 : decode cX7_sheet 101 = .ok (.aload_n 0, 1) := by decide +kernel
theorem dX7_sheet_102 : decode cX7_sheet 102 = .ok (.getfield 84, 3) := by decide +kernel
theorem dX7_sheet_105 : decode cX7_sheet 105 = .ok (.iload 6, 2) := by decide +kernel
theorem dX7_sheet_107 : decode cX7_sheet 107 = .ok (.iaload, 1) := by decide +kernel
theorem dX7_sheet_108 : decode cX7_sheet 108 = .ok (.invokestatic 202, 3) := by decide +kernel
theorem dX7_sheet_111 : decode cX7_sheet 111 = .ok (.istore 5, 2) := by decide +kernel
theorem dX7_sheet_113 : decode cX7_sheet 113 = .ok (.iinc 6 1, 3) := by decide +kernel
theorem dX7_sheet_116 : decode cX7_sheet 116 = .ok (.goto (-86), 3) := by decide +kernel
theorem dX7_sheet_119 : decode cX7_sheet 119 = .ok (.iconst (-1), 1) := by decide +kernel
theorem dX7_sheet_120 : decode cX7_sheet 120 = .ok (.ireturn, 1) := by decide +kernel
end
section
theorem dJ9_floorMod_7cf53_0 : decode cJ9_floorMod_7cf53 0 = .ok (.iload_n 0, 1) := by decide +kernel
theorem dJ9_floorMod_7cf53_1 : decode cJ9_floorMod_7cf53 1 = .ok (.iload_n 1, 1) := by decide +kernel
theorem dJ9_floorMod_7cf53_2 : decode cJ9_floorMod_7cf53 2 = .ok (.irem, 1) := by decide +kernel
theorem dJ9_floorMod_7cf53_3 : decode cJ9_floorMod_7cf53 3 = .ok (.istore_n 2, 1) := by decide +kernel
theorem dJ9_floorMod_7cf53_4 : decode cJ9_floorMod_7cf53 4 = .ok (.iload_n 0, 1) := by decide +kernel
theorem dJ9_floorMod_7cf53_5 : decode cJ9_floorMod_7cf53 5 = .ok (.iload_n 1, 1) := by decide +kernel
theorem dJ9_floorMod_7cf53_6 : decode cJ9_floorMod_7cf53 6 = .ok (.ixor, 1) := by decide +kernel
theorem dJ9_floorMod_7cf53_7 : decode cJ9_floorMod_7cf53 7 = .ok (.ifCond .ge 11, 3) := by decide +kernel
theorem dJ9_floorMod_7cf53_10 : decode cJ9_floorMod_7cf53 10 = .ok (.iload_n 2, 1) := by decide +kernel
theorem dJ9_floorMod_7cf53_11 : decode cJ9_floorMod_7cf53 11 = .ok (.ifCond .eq 7, 3) := by decide +kernel
theorem dJ9_floorMod_7cf53_14 : decode cJ9_floorMod_7cf53 14 = .ok (.iload_n 2, 1) := by decide +kernel
theorem dJ9_floorMod_7cf53_15 : decode cJ9_floorMod_7cf53 15 = .ok (.iload_n 1, 1) := by decide +kernel
theorem dJ9_floorMod_7cf53_16 : decode cJ9_floorMod_7cf53 16 = .ok (.iadd, 1) := by decide +kernel
theorem dJ9_floorMod_7cf53_17 : decode cJ9_floorMod_7cf53 17 = .ok (.ireturn, 1) := by decide +kernel
theorem dJ9_floorMod_7cf53_18 : decode cJ9_floorMod_7cf53 18 = .ok (.iload_n 2, 1) := by decide +kernel
theorem dJ9_floorMod_7cf53_19 : decode cJ9_floorMod_7cf53 19 = .ok (.ireturn, 1) := by decide +kernel
theorem dJ9_max_7cf53_0 : decode cJ9_max_7cf53 0 = .ok (.iload_n 0, 1) := by decide +kernel
theorem dJ9_max_7cf53_1 : decode cJ9_max_7cf53 1 = .ok (.iload_n 1, 1) := by decide +kernel
theorem dJ9_max_7cf53_2 : decode cJ9_max_7cf53 2 = .ok (.if_icmp .lt 7, 3) := by decide +kernel
theorem dJ9_max_7cf53_5 : decode cJ9_max_7cf53 5 = .ok (.iload_n 0, 1) := by decide +kernel
theorem dJ9_max_7cf53_6 : decode cJ9_max_7cf53 6 = .ok (.goto 4, 3) := by decide +kernel
theorem dJ9_max_7cf53_9 : decode cJ9_max_7cf53 9 = .ok (.iload_n 1, 1) := by decide +kernel
theorem dJ9_max_7cf53_10 : decode cJ9_max_7cf53 10 = .ok (.ireturn, 1) := by decide +kernel
theorem dJ9_max_eb370_0 : decode cJ9_max_eb370 0 = .ok (.dload_n 0, 1) := by decide +kernel
theorem dJ9_max_eb370_1 : decode cJ9_max_eb370 1 = .ok (.dload_n 0, 1) := by decide +kernel
theorem dJ9_max_eb370_2 : decode cJ9_max_eb370 2 = .ok (.dcmp .l, 1) := by decide +kernel
theorem dJ9_max_eb370_3 : decode cJ9_max_eb370 3 = .ok (.ifCond .eq 5, 3) := by decide +kernel
theorem dJ9_max_eb370_6 : decode cJ9_max_eb370 6 = .ok (.dload_n 0, 1) := by decide +kernel
theorem dJ9_max_eb370_7 : decode cJ9_max_eb370 7 = .ok (.dreturn, 1) := by decide +kernel
theorem dJ9_max_eb370_8 : decode cJ9_max_eb370 8 = .ok (.dload_n 0, 1) := by decide +kernel
theorem dJ9_max_eb370_9 : decode cJ9_max_eb370 9 = .ok (.dconst 0, 1) := by decide +kernel
theorem dJ9_max_eb370_10 : decode cJ9_max_eb370 10 = .ok (.dcmp .l, 1) := by decide +kernel
theorem dJ9_max_eb370_11 : decode cJ9_max_eb370 11 = .ok (.ifCond .ne 22, 3) := by decide +kernel
theorem dJ9_max_eb370_14 : decode cJ9_max_eb370 14 = .ok (.dload_n 2, 1) := by decide +kernel
theorem dJ9_max_eb370_15 : decode cJ9_max_eb370 15 = .ok (.dconst 0, 1) := by decide +kernel
theorem dJ9_max_eb370_16 : decode cJ9_max_eb370 16 = .ok (.dcmp .l, 1) := by decide +kernel
theorem dJ9_max_eb370_17 : decode cJ9_max_eb370 17 = .ok (.ifCond .ne 16, 3) := by decide +kernel
theorem dJ9_max_eb370_20 : decode cJ9_max_eb370 20 = .ok (.dload_n 0, 1) := by decide +kernel
theorem dJ9_max_eb370_21 : decode cJ9_max_eb370 21 = .ok (.invokestatic 79, 3) := by decide +kernel
theorem dJ9_max_eb370_24 : decode cJ9_max_eb370 24 = .ok (.getstatic 174, 3) := by decide +kernel
theorem dJ9_max_eb370_27 : decode cJ9_max_eb370 27 = .ok (.lcmp, 1) := by decide +kernel
theorem dJ9_max_eb370_28 : decode cJ9_max_eb370 28 = .ok (.ifCond .ne 5, 3) := by decide +kernel
theorem dJ9_max_eb370_31 : decode cJ9_max_eb370 31 = .ok (.dload_n 2, 1) := by decide +kernel
theorem dJ9_max_eb370_32 : decode cJ9_max_eb370 32 = .ok (.dreturn, 1) := by decide +kernel
theorem dJ9_max_eb370_33 : decode cJ9_max_eb370 33 = .ok (.dload_n 0, 1) := by decide +kernel
theorem dJ9_max_eb370_34 : decode cJ9_max_eb370 34 = .ok (.dload_n 2, 1) := by decide +kernel
theorem dJ9_max_eb370_35 : decode cJ9_max_eb370 35 = .ok (.dcmp .l, 1) := by decide +kernel
theorem dJ9_max_eb370_36 : decode cJ9_max_eb370 36 = .ok (.ifCond .lt 7, 3) := by decide +kernel
theorem dJ9_max_eb370_39 : decode cJ9_max_eb370 39 = .ok (.dload_n 0, 1) := by decide +kernel
theorem dJ9_max_eb370_40 : decode cJ9_max_eb370 40 = .ok (.goto 4, 3) := by decide +kernel
theorem dJ9_max_eb370_43 : decode cJ9_max_eb370 43 = .ok (.dload_n 2, 1) := by decide +kernel
theorem dJ9_max_eb370_44 : decode cJ9_max_eb370 44 = .ok (.dreturn, 1) := by decide +kernel
theorem dJ9_min_7cf53_0 : decode cJ9_min_7cf53 0 = .ok (.iload_n 0, 1) := by decide +kernel
theorem dJ9_min_7cf53_1 : decode cJ9_min_7cf53 1 = .ok (.iload_n 1, 1) := by decide +kernel
theorem dJ9_min_7cf53_2 : decode cJ9_min_7cf53 2 = .ok (.if_icmp .gt 7, 3) := by decide +kernel
theorem dJ9_min_7cf53_5 : decode cJ9_min_7cf53 5 = .ok (.iload_n 0, 1) := by decide +kernel
theorem dJ9_min_7cf53_6 : decode cJ9_min_7cf53 6 = .ok (.goto 4, 3) := by decide +kernel
theorem dJ9_min_7cf53_9 : decode cJ9_min_7cf53 9 = .ok (.iload_n 1, 1) := by decide +kernel
theorem dJ9_min_7cf53_10 : decode cJ9_min_7cf53 10 = .ok (.ireturn, 1) := by decide +kernel
theorem dJ9_min_eb370_0 : decode cJ9_min_eb370 0 = .ok (.dload_n 0, 1) := by decide +kernel
theorem dJ9_min_eb370_1 : decode cJ9_min_eb370 1 = .ok (.dload_n 0, 1) := by decide +kernel
theorem dJ9_min_eb370_2 : decode cJ9_min_eb370 2 = .ok (.dcmp .l, 1) := by decide +kernel
theorem dJ9_min_eb370_3 : decode cJ9_min_eb370 3 = .ok (.ifCond .eq 5, 3) := by decide +kernel
theorem dJ9_min_eb370_6 : decode cJ9_min_eb370 6 = .ok (.dload_n 0, 1) := by decide +kernel
theorem dJ9_min_eb370_7 : decode cJ9_min_eb370 7 = .ok (.dreturn, 1) := by decide +kernel
theorem dJ9_min_eb370_8 : decode cJ9_min_eb370 8 = .ok (.dload_n 0, 1) := by decide +kernel
theorem dJ9_min_eb370_9 : decode cJ9_min_eb370 9 = .ok (.dconst 0, 1) := by decide +kernel
theorem dJ9_min_eb370_10 : decode cJ9_min_eb370 10 = .ok (.dcmp .l, 1) := by decide +kernel
theorem dJ9_min_eb370_11 : decode cJ9_min_eb370 11 = .ok (.ifCond .ne 22, 3) := by decide +kernel
theorem dJ9_min_eb370_14 : decode cJ9_min_eb370 14 = .ok (.dload_n 2, 1) := by decide +kernel
theorem dJ9_min_eb370_15 : decode cJ9_min_eb370 15 = .ok (.dconst 0, 1) := by decide +kernel
theorem dJ9_min_eb370_16 : decode cJ9_min_eb370 16 = .ok (.dcmp .l, 1) := by decide +kernel
theorem dJ9_min_eb370_17 : decode cJ9_min_eb370 17 = .ok (.ifCond .ne 16, 3) := by decide +kernel
theorem dJ9_min_eb370_20 : decode cJ9_min_eb370 20 = .ok (.dload_n 2, 1) := by decide +kernel
theorem dJ9_min_eb370_21 : decode cJ9_min_eb370 21 = .ok (.invokestatic 79, 3) := by decide +kernel
theorem dJ9_min_eb370_24 : decode cJ9_min_eb370 24 = .ok (.getstatic 174, 3) := by decide +kernel
theorem dJ9_min_eb370_27 : decode cJ9_min_eb370 27 = .ok (.lcmp, 1) := by decide +kernel
theorem dJ9_min_eb370_28 : decode cJ9_min_eb370 28 = .ok (.ifCond .ne 5, 3) := by decide +kernel
theorem dJ9_min_eb370_31 : decode cJ9_min_eb370 31 = .ok (.dload_n 2, 1) := by decide +kernel
theorem dJ9_min_eb370_32 : decode cJ9_min_eb370 32 = .ok (.dreturn, 1) := by decide +kernel
theorem dJ9_min_eb370_33 : decode cJ9_min_eb370 33 = .ok (.dload_n 0, 1) := by decide +kernel
theorem dJ9_min_eb370_34 : decode cJ9_min_eb370 34 = .ok (.dload_n 2, 1) := by decide +kernel
theorem dJ9_min_eb370_35 : decode cJ9_min_eb370 35 = .ok (.dcmp .g, 1) := by decide +kernel
theorem dJ9_min_eb370_36 : decode cJ9_min_eb370 36 = .ok (.ifCond .gt 7, 3) := by decide +kernel
theorem dJ9_min_eb370_39 : decode cJ9_min_eb370 39 = .ok (.dload_n 0, 1) := by decide +kernel
theorem dJ9_min_eb370_40 : decode cJ9_min_eb370 40 = .ok (.goto 4, 3) := by decide +kernel
theorem dJ9_min_eb370_43 : decode cJ9_min_eb370 43 = .ok (.dload_n 2, 1) := by decide +kernel
theorem dJ9_min_eb370_44 : decode cJ9_min_eb370 44 = .ok (.dreturn, 1) := by decide +kernel
end
section
/-! doubles: bounds by the biased exponent; order -/
abbrev dlt (a b : UInt64) : Prop := FP.dcmp a b = some .lt
abbrev dle (a b : UInt64) : Prop := FP.dcmp a b = some .lt ∨ FP.dcmp a b = some .eq
abbrev dgt (a b : UInt64) : Prop := FP.dcmp a b = some .gt
abbrev dge (a b : UInt64) : Prop := FP.dcmp a b = some .gt ∨ FP.dcmp a b = some .eq
abbrev deq (a b : UInt64) : Prop := FP.dcmp a b = some .eq
/-- below 2^(K-1023) in size -/
def fB (K : Nat) (a : UInt64) : Prop := a.toNat % 2 ^ 63 < K * 2 ^ 52
/-- at least 2^(L-1023) in size -/
def fL (L : Nat) (a : UInt64) : Prop := L * 2 ^ 52 ≤ a.toNat % 2 ^ 63
theorem fB_mono {K L : Nat} {a : UInt64} (h : fB K a) (hl : K ≤ L) : fB L a := Nat.lt_of_lt_of_le h (Nat.mul_le_mul_right _ hl)
theorem fL_mono {K L : Nat} {a : UInt64} (h : fL K a) (hl : L ≤ K) : fL L a := Nat.le_trans (Nat.mul_le_mul_right _ hl) h
theorem fB_ne {K : Nat} {a : UInt64} (h : fB K a) (hK : K ≤ 2047) : vf_n64 a := by
  unfold vf_n64
  rw [UInt64.le_iff_toNat_le, FP.Core.mask_toNat]
  have h1 : a.toNat % 2 ^ 63 < 2047 * 2 ^ 52 := fB_mono h hK
  have h2 : (9218868437227405312 : UInt64).toNat = 2047 * 2 ^ 52 := by decide +kernel
  omega
theorem fB_nn {K : Nat} {a : UInt64} (h : fB K a) (hK : K ≤ 2047) : FP.Core.val64 a ≠ .nan := by
  rw [FP.Core.ne_nan]
  have h1 : a.toNat % 2 ^ 63 < 2047 * 2 ^ 52 := fB_mono h hK
  omega
theorem fB_add {K L M : Nat} {a b : UInt64} (ha : fB K a) (hb : fB L b) (h1 : K ≤ M) (h2 : L ≤ M) (hM : M ≤ 2047) : fB (M + 2) (FP.dadd a b) := FP.Core.dadd_mag (fB_mono ha h1) (fB_mono hb h2) hM
theorem fB_sub {K L M : Nat} {a b : UInt64} (ha : fB K a) (hb : fB L b) (h1 : K ≤ M) (h2 : L ≤ M) (hM : M ≤ 2047) : fB (M + 2) (FP.dsub a b) := FP.Core.dsub_mag (fB_mono ha h1) (fB_mono hb h2) hM
theorem fB_mul {K L M : Nat} {a b : UInt64} (ha : fB K a) (hb : fB L b) (h1 : K ≤ 2047) (h2 : L ≤ 2047) (hM : K + L - 1025 + 3 ≤ M) : fB M (FP.dmul a b) := fB_mono (FP.Core.dmul_mag ha hb h1 h2) hM
theorem fB_div {K L M : Nat} {a b : UInt64} (ha : fB K a) (hb : fL L b) (hb2 : fB 2047 b) (h1 : K ≤ 2047) (h2 : 1 ≤ L) (hM : K + (1074 - 52 - 1) - L + 3 ≤ M) : fB M (FP.ddiv a b) := fB_mono (FP.Core.ddiv_mag ha hb hb2 h1 h2) hM
theorem fB_i2d (v : Int32) : fB 1056 (FP.i2d v) := FP.Core.i2d_mag v
theorem fB_lit {K : Nat} {a : UInt64} (h : decide (a.toNat % 2 ^ 63 < K * 2 ^ 52) = true) : fB K a := by
  unfold fB
  exact of_decide_eq_true h
theorem fL_lit {K : Nat} {a : UInt64} (h : decide (K * 2 ^ 52 ≤ a.toNat % 2 ^ 63) = true) : fL K a := by
  unfold fL
  exact of_decide_eq_true h
theorem fB_half : fB 1023 4602678819172646912 := fB_lit (by decide +kernel)
end
section
/-! doubles: values in units, signs, lower bounds, the document's ROOT -/
abbrev zv (a : UInt64) : Int := FP.Core.zval FP.Core.b64 (FP.Core.val64 a)
abbrev nn (a : UInt64) : Prop := FP.Core.val64 a ≠ .nan
/-- the sign bit is not set -/
def fP (a : UInt64) : Prop := a.toNat < 2 ^ 63
theorem fB_c0 : fB 1 FP.dconst0 := fB_lit (by decide +kernel)
theorem fB_c1 : fB 1024 FP.dconst1 := fB_lit (by decide +kernel)
theorem fB_fin {K : Nat} {a : UInt64} (h : fB K a) (hK : K ≤ 2047) : FP.Core.DFin a := FP.Core.fin_of_lt h hK
theorem fin_fB {a : UInt64} (h : FP.Core.DFin a) : fB 2047 a := (FP.Core.fin_bits a).mp h
theorem fin_nn {a : UInt64} (h : FP.Core.DFin a) : nn a := h.ne_nan
theorem zle_key {a b : UInt64} (ha : nn a) (hb : nn b) : zv a ≤ zv b ↔ FP.Core.dkey a ≤ FP.Core.dkey b := by
  have h := Option.some.inj ((FP.Core.dcmp_zval ha hb).symm.trans (FP.Core.dcmp_key ha hb))
  constructor <;> intro q <;> refine Int.not_lt.mp fun r => ?_
  · have h1 := (FP.Core.compare_gt_iff _ _).mpr r
    rw [← h] at h1
    have h2 : zv b < zv a := (FP.Core.compare_gt_iff _ _).mp h1
    omega
  · have h1 := (FP.Core.compare_gt_iff _ _).mpr r
    rw [h] at h1
    have := (FP.Core.compare_gt_iff _ _).mp h1
    omega
theorem zadd_ge {a b V : UInt64} (ha : FP.Core.DFin a) (hb : FP.Core.DFin b) (hV : nn V) (h : zv V ≤ zv a + zv b) : zv V ≤ zv (FP.dadd a b) := by
  have fa := FP.Core.val64_fits a
  have fb := FP.Core.val64_fits b
  obtain ⟨s, c, q, ea⟩ := ha
  obtain ⟨t, d, r, eb⟩ := hb
  unfold zv at h ⊢
  rw [ea, eb] at h
  rw [ea] at fa
  rw [eb] at fb
  obtain ⟨sg, n, e, h1, h2, h3⟩ := FP.Core.sum_units fa fb
  rw [show FP.dadd a b = FP.Core.dadd a b from rfl, FP.Core.val64_dadd, ea, eb, h1]
  refine FP.Core.zval_round_ge FP.Core.good_b64 (FP.Core.val64_fits V) hV (Int.le_refl _) h2 ?_
  rw [h3, Int.sub_self]
  simpa using h
theorem zadd_le {a b V : UInt64} (ha : FP.Core.DFin a) (hb : FP.Core.DFin b) (hV : nn V) (h : zv a + zv b ≤ zv V) : zv (FP.dadd a b) ≤ zv V := by
  have fa := FP.Core.val64_fits a
  have fb := FP.Core.val64_fits b
  obtain ⟨s, c, q, ea⟩ := ha
  obtain ⟨t, d, r, eb⟩ := hb
  unfold zv at h ⊢
  rw [ea, eb] at h
  rw [ea] at fa
  rw [eb] at fb
  obtain ⟨sg, n, e, h1, h2, h3⟩ := FP.Core.sum_units fa fb
  rw [show FP.dadd a b = FP.Core.dadd a b from rfl, FP.Core.val64_dadd, ea, eb, h1]
  refine FP.Core.zval_round_le FP.Core.good_b64 (FP.Core.val64_fits V) hV (Int.le_refl _) h2 ?_
  rw [h3, Int.sub_self]
  simpa using h
theorem zneg (b : UInt64) : zv (FP.Core.dneg b) = -zv b := by
  unfold zv
  rw [FP.Core.val64_dneg, FP.Core.zval_negate]
theorem fin_neg {b : UInt64} (hb : FP.Core.DFin b) : FP.Core.DFin (FP.Core.dneg b) := by
  obtain ⟨t, d, r, eb⟩ := hb
  exact ⟨!t, d, r, by rw [FP.Core.val64_dneg, eb]; rfl⟩
theorem zsub_ge {a b V : UInt64} (ha : FP.Core.DFin a) (hb : FP.Core.DFin b) (hV : nn V) (h : zv V ≤ zv a - zv b) : zv V ≤ zv (FP.dsub a b) := by
  rw [show FP.dsub a b = FP.Core.dsub a b from rfl, FP.Core.dsub_eq]
  exact zadd_ge ha (fin_neg hb) hV (by rw [zneg]; omega)
theorem zsub_le {a b V : UInt64} (ha : FP.Core.DFin a) (hb : FP.Core.DFin b) (hV : nn V) (h : zv a - zv b ≤ zv V) : zv (FP.dsub a b) ≤ zv V := by
  rw [show FP.dsub a b = FP.Core.dsub a b from rfl, FP.Core.dsub_eq]
  exact zadd_le ha (fin_neg hb) hV (by rw [zneg]; omega)
theorem sgn_fP {a : UInt64} (hn : nn a) : FP.Core.sgn (FP.Core.val64 a) = false ↔ fP a := by
  rw [FP.Core.sgn_bits hn, decide_eq_false_iff_not, Nat.not_le]
  exact Iff.rfl
theorem fP_nonneg {a : UInt64} (hn : nn a) (h : fP a) : 0 ≤ zv a := FP.Core.zval_nonneg hn h
/-- the number 2^(L-1023) -/
def vL (L : Nat) : UInt64 := UInt64.ofNat (L * 2 ^ 52)
theorem vL_nat {L : Nat} (h : L ≤ 2046) : (vL L).toNat = L * 2 ^ 52 := by
  unfold vL
  rw [UInt64.toNat_ofNat']
  exact Nat.mod_eq_of_lt (by omega)
theorem vL_nn {L : Nat} (h : L ≤ 2046) : nn (vL L) := by
  unfold nn
  rw [FP.Core.ne_nan, vL_nat h]
  omega
theorem fL_iff {L : Nat} {a : UInt64} (h1 : 1 ≤ L) (h2 : L ≤ 2046) (hn : nn a) : (fP a ∧ fL L a) ↔ zv (vL L) ≤ zv a := by
  rw [zle_key (vL_nn h2) hn]
  unfold FP.Core.dkey fP fL
  rw [vL_nat h2]
  have ha := a.toNat_lt
  constructor
  · rintro ⟨q1, q2⟩
    rw [if_neg (by omega), if_neg (by omega)]
    omega
  · intro q
    rw [if_neg (by omega)] at q
    by_cases hs : 2 ^ 63 ≤ a.toNat
    · rw [if_pos hs] at q
      omega
    · rw [if_neg hs] at q
      constructor <;> omega
theorem fL_addl {L : Nat} {a b : UInt64} (h1 : 1 ≤ L) (h2 : L ≤ 2046) (ha : FP.Core.DFin a) (hb : FP.Core.DFin b) (pa : fP a) (la : fL L a) (pb : fP b) (hn : nn (FP.dadd a b)) : fP (FP.dadd a b) ∧ fL L (FP.dadd a b) := by
  refine (fL_iff h1 h2 hn).mpr (zadd_ge ha hb (vL_nn h2) ?_)
  have q1 := (fL_iff h1 h2 (fin_nn ha)).mp ⟨pa, la⟩
  have q2 := fP_nonneg (fin_nn hb) pb
  omega
theorem fL_addr {L : Nat} {a b : UInt64} (h1 : 1 ≤ L) (h2 : L ≤ 2046) (ha : FP.Core.DFin a) (hb : FP.Core.DFin b) (pa : fP a) (pb : fP b) (lb : fL L b) (hn : nn (FP.dadd a b)) : fP (FP.dadd a b) ∧ fL L (FP.dadd a b) := by
  refine (fL_iff h1 h2 hn).mpr (zadd_ge ha hb (vL_nn h2) ?_)
  have q1 := (fL_iff h1 h2 (fin_nn hb)).mp ⟨pb, lb⟩
  have q2 := fP_nonneg (fin_nn ha) pa
  omega
theorem zmag_vL {L : Nat} (h1 : 1 ≤ L) (h : L ≤ 2046) : FP.Core.zmag FP.Core.b64 (FP.Core.val64 (vL L)) = 2 ^ 52 * 2 ^ (L - 1) := by
  rw [FP.Core.zmag_bits (vL_nn h), vL_nat h, Nat.mod_eq_of_lt (by omega), ← FP.Core.tails_b64, FP.Core.unitsOf_start h1]
theorem val_half : FP.Core.val64 4602678819172646912 = .fin false (2 ^ 52) (-53) := by decide +kernel
theorem fL_half {L : Nat} {g : UInt64} (h1 : 2 ≤ L) (h2 : L ≤ 2046) (hg : FP.Core.DFin g) (pg : fP g) (lg : fL L g) : fP (FP.dmul 4602678819172646912 g) ∧ fL (L - 1) (FP.dmul 4602678819172646912 g) := by
  have hgn := fin_nn hg
  have fg := FP.Core.val64_fits g
  have fh := FP.Core.val64_fits 4602678819172646912
  have hm : 2 ^ 52 * 2 ^ (L - 1) ≤ FP.Core.zmag FP.Core.b64 (FP.Core.val64 g) := by
    rw [FP.Core.zmag_bits hgn, ← FP.Core.tails_b64, ← FP.Core.unitsOf_start (by omega), FP.Core.tails_b64]
    exact FP.Core.unitsOf_le_iff.mpr lg
  have hsg := (sgn_fP hgn).mpr pg
  obtain ⟨t, d, r, eg⟩ := hg
  rw [eg] at fg hm hsg
  rw [val_half] at fh
  have ht : t = false := hsg
  subst ht
  obtain ⟨p1, p2, p3⟩ := FP.Core.product_units fh fg
  have e : FP.Core.val64 (FP.dmul 4602678819172646912 g) = FP.Core.roundRatio FP.Core.b64 false (2 ^ 52 * d) 1 (-53 + r) := by
    rw [show FP.dmul 4602678819172646912 g = FP.Core.dmul 4602678819172646912 g from rfl, FP.Core.val64_dmul, val_half, eg, p1]
    rfl
  have hn : nn (FP.dmul 4602678819172646912 g) := by
    unfold nn
    rw [e]
    exact FP.Core.roundRatio_ne_nan _ _ _ _ _
  have hp : fP (FP.dmul 4602678819172646912 g) := (sgn_fP hn).mp (by rw [e, FP.Core.sgn_roundRatio])
  have hz : FP.Core.zmag FP.Core.b64 (FP.Core.val64 (vL (L - 1))) ≤ FP.Core.zmag FP.Core.b64 (FP.Core.val64 (FP.dmul 4602678819172646912 g)) := by
    rw [e]
    refine FP.Core.zmag_roundRatio_ge FP.Core.good_b64 (by decide) (FP.Core.val64_fits _) (e0 := 2 * FP.Core.b64.qmin) (by decide) p2 ?_
    rw [p3, zmag_vL (by omega) (by omega), Nat.mul_one]
    have e3 : FP.Core.zmag FP.Core.b64 (.fin false (2 ^ 52) (-53)) = 2 ^ 1073 := by decide +kernel
    have e4 : (FP.Core.b64.qmin - 2 * FP.Core.b64.qmin).toNat = 1074 := by decide +kernel
    rw [e3, e4, show 2 ^ 1074 = 2 ^ 1073 * 2 from Nat.pow_succ 2 1073]
    generalize 2 ^ 1073 = z
    have e5 : ∀ k : Nat, 2 ^ 52 * 2 ^ k * (z * 2) = z * (2 ^ 52 * 2 ^ (k + 1)) := fun k => by
      rw [Nat.pow_succ 2 k]
      generalize 2 ^ 52 = x
      generalize 2 ^ k = y
      ac_rfl
    have e6 : L - 1 = L - 1 - 1 + 1 := by omega
    rw [e5, ← e6]
    exact Nat.mul_le_mul_left _ hm
  refine ⟨hp, ?_⟩
  rw [zmag_vL (by omega) (by omega), FP.Core.zmag_bits hn, ← FP.Core.tails_b64, ← FP.Core.unitsOf_start (by omega)] at hz
  have := FP.Core.unitsOf_le_iff.mp hz
  rw [FP.Core.tails_b64] at this
  exact this
theorem fP_div {a b : UInt64} (ha : FP.Core.DFin a) (hb : FP.Core.DFin b) (hz : b.toNat % 2 ^ 63 ≠ 0) (pa : fP a) (pb : fP b) : fP (FP.ddiv a b) := by
  have sa := (sgn_fP (fin_nn ha)).mpr pa
  have sb := (sgn_fP (fin_nn hb)).mpr pb
  obtain ⟨s, c, q, ea⟩ := ha
  obtain ⟨t, d, r, eb⟩ := hb
  rw [ea] at sa
  rw [eb] at sb
  have hs : s = false := sa
  have ht : t = false := sb
  subst hs
  subst ht
  have hd0 : d ≠ 0 := by
    rintro rfl
    exact hz ((FP.Core.zero_bits2 b).mp ⟨_, r, eb⟩)
  have e : FP.Core.val64 (FP.ddiv a b) = FP.Core.roundRatio FP.Core.b64 false c d (q - r) := by
    rw [show FP.ddiv a b = FP.Core.ddiv a b from rfl, FP.Core.val64_ddiv, ea, eb]
    simp only [FP.Core.quotient, if_neg hd0]
    rfl
  have hn : nn (FP.ddiv a b) := by
    unfold nn
    rw [e]
    exact FP.Core.roundRatio_ne_nan _ _ _ _ _
  exact (sgn_fP hn).mp (by rw [e, FP.Core.sgn_roundRatio])
theorem deq_bits {a b : UInt64} (pa : fP a) (pb : fP b) (h : deq a b) : a = b := by
  obtain ⟨h1, h2, h3⟩ := FP.Core.dcmp_eq.mp h
  have k1 := (zle_key h1 h2).mp (by unfold zv; omega)
  have k2 := (zle_key h2 h1).mp (by unfold zv; omega)
  unfold FP.Core.dkey at k1 k2
  unfold fP at pa pb
  rw [if_neg (by omega), if_neg (by omega)] at k1 k2
  exact UInt64.toNat.inj (by omega)
-- ROOT
def rS (v g : UInt64) : UInt64 := FP.dmul 4602678819172646912 (FP.dadd g (FP.ddiv v g))
def rI (v : UInt64) : Nat → UInt64
  | 0 => FP.dmul 4602678819172646912 (FP.dadd v FP.dconst1)
  | k + 1 => rS v (rI v k)
def rootF (v : UInt64) : UInt64 := if dgt v FP.dconst0 then rI v 30 else FP.dconst0
theorem rI_stop {v : UInt64} {k : Nat} (h : rI v (k + 1) = rI v k) : ∀ j, rI v (k + j) = rI v k
  | 0 => rfl
  | j + 1 => by
    show rS v (rI v (k + j)) = rI v k
    rw [rI_stop h j]
    exact h
theorem rI_0 {v : UInt64} {K : Nat} (hv : fB K v) (h0 : 1024 ≤ K) (hK : K ≤ 1900) (pv : fP v) : fB (K + 2) (FP.dadd v FP.dconst1) ∧ fP (rI v 0) ∧ fL 1022 (rI v 0) ∧ fB (K + 3) (rI v 0) := by
  have b1 : fB (K + 2) (FP.dadd v FP.dconst1) := fB_add (M := K) hv fB_c1 (Nat.le_refl _) h0 (by omega)
  have l1 := fL_addr (L := 1023) (by decide) (by decide) (fB_fin hv (by omega)) (fB_fin fB_c1 (by decide)) pv (b := FP.dconst1) (by unfold fP; decide +kernel) (fL_lit (by decide +kernel)) (fB_nn b1 (by omega))
  have l2 := fL_half (L := 1023) (by decide) (by decide) (fB_fin b1 (by omega)) l1.1 l1.2
  exact ⟨b1, l2.1, l2.2, fB_mul fB_half b1 (by omega) (by omega) (by omega)⟩
theorem rS_ok {v g : UInt64} {K G L : Nat} (hv : fB K v) (h0 : 1024 ≤ K) (hK : K ≤ 1900) (pv : fP v) (hg : fB G g) (pg : fP g) (lg : fL L g) (hL : 992 ≤ L) (hL2 : L ≤ 1022) (hG : G ≤ 2000) (hGK : K + 1024 - L ≤ G) :
    fB G (FP.ddiv v g) ∧ fB (G + 2) (FP.dadd g (FP.ddiv v g)) ∧ fP (rS v g) ∧ fL (L - 1) (rS v g) ∧ fB (G + 3) (rS v g) := by
  have fg := fB_fin hg (by omega)
  have b1 : fB G (FP.ddiv v g) := fB_div hv lg (fB_mono hg (by omega)) (by omega) (by omega) (by omega)
  have b2 : fB (G + 2) (FP.dadd g (FP.ddiv v g)) := fB_add (M := G) hg b1 (Nat.le_refl _) (Nat.le_refl _) (by omega)
  have p1 : fP (FP.ddiv v g) := fP_div (fB_fin hv (by omega)) fg (by unfold fL at lg; omega) pv pg
  have l1 := fL_addl (L := L) (by omega) (by omega) fg (fB_fin b1 (by omega)) pg lg p1 (fB_nn b2 (by omega))
  have l2 := fL_half (L := L) (by omega) (by omega) (fB_fin b2 (by omega)) l1.1 l1.2
  exact ⟨b1, b2, l2.1, l2.2, fB_mul fB_half b2 (by omega) (by omega) (by omega)⟩
theorem rI_ok {v : UInt64} {K : Nat} (hv : fB K v) (h0 : 1024 ≤ K) (hK : K ≤ 1900) (pv : fP v) : ∀ k, k ≤ 30 → fP (rI v k) ∧ fL (1022 - k) (rI v k) ∧ fB (K + 3 * (k + 1)) (rI v k)
  | 0, _ => (rI_0 hv h0 hK pv).2
  | k + 1, h => by
    obtain ⟨q1, q2, q3⟩ := rI_ok hv h0 hK pv k (by omega)
    obtain ⟨-, -, r1, r2, r3⟩ := rS_ok (G := K + 3 * (k + 1)) hv h0 hK pv q3 q1 q2 (by omega) (by omega) (by omega) (by omega)
    refine ⟨r1, ?_, fB_mono r3 (by omega)⟩
    have e : 1022 - (k + 1) = 1022 - k - 1 := by omega
    rw [e]
    exact r2
theorem rI_n {v : UInt64} {K : Nat} (hv : fB K v) (h0 : 1024 ≤ K) (hK : K ≤ 1900) (pv : fP v) {k : Nat} (hk : k < 30) : vf_n64 (FP.ddiv v (rI v k)) ∧ vf_n64 (FP.dadd (rI v k) (FP.ddiv v (rI v k))) ∧ vf_n64 (FP.dmul 4602678819172646912 (FP.dadd (rI v k) (FP.ddiv v (rI v k)))) := by
  obtain ⟨q1, q2, q3⟩ := rI_ok hv h0 hK pv k (by omega)
  obtain ⟨r0, r1, -, -, r3⟩ := rS_ok (G := K + 3 * (k + 1)) hv h0 hK pv q3 q1 q2 (by omega) (by omega) (by omega) (by omega)
  exact ⟨fB_ne r0 (by omega), fB_ne r1 (by omega), fB_ne r3 (by omega)⟩
theorem rootF_ok {v : UInt64} {K : Nat} (hv : fB K v) (h0 : 1024 ≤ K) (hK : K ≤ 1900) (pv : fP v) : fP (rootF v) ∧ fB (K + 93) (rootF v) ∧ (dgt (rootF v) FP.dconst0 → fL 992 (rootF v)) := by
  unfold rootF
  by_cases h : dgt v FP.dconst0
  · rw [if_pos h]
    obtain ⟨q1, q2, q3⟩ := rI_ok hv h0 hK pv 30 (by omega)
    exact ⟨q1, q3, fun _ => q2⟩
  · rw [if_neg h]
    exact ⟨by unfold fP; decide +kernel, fB_mono fB_c0 (by omega), fun q => absurd q (by decide +kernel)⟩
end
section
/-! worlds of one shape: wd gives the cells by a state; the addresses don't depend on the state -/
def gA (A0 : Nat → Prop) (sz : Nat) : Nat → Prop := fun q => A0 q ∨ sz ≤ q
theorem gA_mono {A0 : Nat → Prop} {a b : Nat} (h : a ≤ b) : ∀ q, gA A0 b q → gA A0 a q := fun _ h1 => h1.elim Or.inl (fun h2 => Or.inr (Nat.le_trans h h2))
def gF : Nat → Prop := fun _ => False
theorem gF_sub {A0 : Nat → Prop} {a b : Nat} (h : a ≤ b) : ∀ q, gA gF b q → gA A0 a q := fun _ h1 => h1.elim (fun h2 => h2.elim) (fun h2 => Or.inr (Nat.le_trans h h2))
def gB {σ : Type} (D : va_G) (wd : σ → va_W) : σ → State → Prop := fun u t => va_P D vwCl (wd u) t.heap
def gP {σ : Type} (D : va_G) (wd : σ → va_W) (E : State → Prop) (S : σ) (sz : Nat) (av : List Value) : Array Value → State → Prop := va_Pc av (fun U => U.heap.size = sz ∧ va_P D vwCl (wd S) U.heap ∧ E U)
def gE (E : State → Prop) : Prop := ∀ (U : State) (g : JFrame) (mk : MethodId) (a : Array Value), E U → E (U.calling g mk a)
theorem gP_blind {σ : Type} {D : va_G} {wd : σ → va_W} {E : State → Prop} {S : σ} {sz : Nat} {av : List Value} (h : gE E) : FrameBlind (gP D wd E S sz av) := fun a U g mk q => ⟨q.1, q.2.1, q.2.2.1, h U g mk a q.2.2.2⟩
/-- no world -/
abbrev w0 : Unit → va_W := fun _ => []
theorem w0_P {D : va_G} {H : Heap} : va_P D vwCl (w0 ()) H := fun k q h => by simp at h
theorem gPreV {σ : Type} {D : va_G} {wd : σ → va_W} {E : State → Prop} {S : σ} {s : State} {H : Heap} {C : String} {b : Addr} {As : List Value} (hbl : gE E) (hrec : ∃ cellB : Cell, H[b]? = some cellB ∧ cellB.vm.isStatics = false ∧ s.vm.findClass C = some cellB.cls) (hP : va_P D vwCl (wd S) H) (hEU : ∀ U : State, U.heap = H → s.WarmedH U.vm → E U) : PreV s H C b (gP D wd E S H.size (.ref b :: As)) As := ⟨gP_blind hbl, hrec, fun U hU hW => ⟨rfl, by rw [hU], by rw [hU]; exact hP, hEU U hU hW⟩⟩
theorem gPreS {σ : Type} {D : va_G} {wd : σ → va_W} {E : State → Prop} {S : σ} {s : State} {H : Heap} {As : List Value} (hbl : gE E) (hP : va_P D vwCl (wd S) H) (hEU : ∀ U : State, U.heap = H → s.WarmedH U.vm → E U) : PreS s H (gP D wd E S H.size As) As := ⟨gP_blind hbl, fun U hU hW => ⟨rfl, by rw [hU], by rw [hU]; exact hP, hEU U hU hW⟩⟩
def eT : State → Prop := fun _ => True
theorem eT_bl : gE eT := fun _ _ _ _ _ => trivial
theorem Met.ofWF {l : Launch} {y : MethodName} {ws ws' : List Cond} {rm : Room} {Pc : Array Value → State → Prop} {Qc : Array Value → State → Outcome → State → Prop} {mc ms : Nat} {free : Addr → Prop} {cc : ByteArray} {maxL : Nat} {ret : Option FieldType}
    (hy : plainFor y = true) (hw : ws = Cond.code y cc maxL ret :: ws')
    (body : ∀ p e s m args below meth c s₁, BodyLoose p l y (headSpec ws rm) cc maxL ret e s m args below meth c s₁ → c.maxLocals = maxL → Pc args s →
      W p l e (headSpec ws rm).room s m args below meth c s.heap [] 0 0 (MQ below Qc args s mc ms free) (entryFrame m args maxL)) : Met l y ws rm Pc Qc mc ms free := by
  refine MetFree.of_bodySF (code := cc) (maxLocals := maxL) (ret := ret) hy ?_ ?_
  · intro args s m h hn
    obtain ⟨meth, c, h1, h2, h3, h4, h5, h6, -, -⟩ := Cond.code_spec hn (atoms_spec (ws := ws) h _ (by rw [hw]; exact List.mem_cons_self))
    exact ⟨meth, c, h1, h2, h3, h4, h5, h6⟩
  · intro p e s m args below meth c s₁ B hml hP _
    have hh0 : s₁.heap = s.heap := by rw [B.state]; rfl
    obtain ⟨t, a1, o, b1, b2, b3⟩ := body p e s m args below meth c s₁ B hml hP s₁ hh0 (Stand.of_body B)
    exact ⟨t, o, a1, b1, b2, ⟨b3.1, b3.2⟩⟩
theorem gMet {σ : Type} {D : va_G} {wd : σ → va_W} {E : State → Prop} {S : σ} {sz : Nat} {av : List Value} {l : Launch} {y : MethodName} {ws ws' : List Cond} {rm : Room} {Qc : Array Value → State → Outcome → State → Prop} {mc ms : Nat} {free : Addr → Prop} {cc : ByteArray} {maxL : Nat} {ret : Option FieldType}
    (hy : plainFor y = true) (hw : ws = Cond.code y cc maxL ret :: ws') (hal : (lg_sl av).length ≤ maxL)
    (body : ∀ (p : Program) (e : Env) (s : State) (m : MethodId) (below : List Frame) (meth : Method) (c : Code), p.tables.exec = Jvm.exec → c.code = cc → meth.sig.returnType = ret → (∀ w ∈ ws, w.before av.toArray s = true) → s.vm.findClass y.cls = some m.cls → meth.locks = false → c.maxLocals = maxL → meth.name = y.name → s.heap.size = sz → va_P D vwCl (wd S) s.heap → E s → ∀ ls : Array Slot, lv_has ls maxL (lv_args 0 av) →
      W p l e rm s m av.toArray below meth c s.heap [] 0 0 (MQ below Qc av.toArray s mc ms free) (F0 m 0 ls [])) : Met l y ws rm (gP D wd E S sz av) Qc mc ms free := by
  refine Met.ofWF (cc := cc) (maxL := maxL) (ret := ret) hy hw ?_
  intro p e s m args below meth c s₁ B hml hv
  obtain ⟨rfl, hsz, hP, hE⟩ := hv
  have hts := atoms_spec (ws := ws) B.pre
  rw [lg_entry_eq]
  exact body p e s m below meth c B.exec B.bytes B.returns hts (findClass_of_methodNamed B.named) B.notSynchronized hml ((name_of_methodNamed B.named B.method).1) hsz hP hE _ (lv_entry av hal)
section GW
variable {p : Program} {l : Launch} {e : Env} {R : Room} {s : State} {m : MethodId} {args : Array Value} {below : List Frame} {meth : Method} {c : Code} {H : Heap} {locs : List Loc} {cells slots : Nat} {Q : State → Prop}
variable {cc : ByteArray} {pc : Nat} {ls : Array Slot} {rest st0 : List Value} {D : va_G} {cl : List vw_C} {A : Nat → Prop} {A0 : Nat → Prop} {a : Nat} {tys : List (ClassId × FieldType)} {ws : va_W} {H0 : Heap} {σ : Type} {wd : σ → va_W} {av : Array Value}
-- calls of methods of the same world
theorem gci {post : Int32 → σ → Prop} (hr : va_Run p l e R s m args below meth c H locs cells slots 0 0 (F0 m pc ls st0) rest (va_Qi post (gB D wd) (gA A0 H.size) av) (gA A0 H.size)) (hS : va_S (gA A0 s.heap.size) s.heap H locs)
    (kk : ∀ (r : Int32) (u : σ) (H1 : Heap) (locs1 : List Loc), post r u → va_P D vwCl (wd u) H1 → va_S (gA A0 s.heap.size) s.heap H1 locs1 → W p l e R s m args below meth c H1 locs1 cells slots Q (F0 m (pc + 3) ls (.int r :: rest))) : W p l e R s m args below meth c H locs cells slots Q (F0 m pc ls st0) :=
  va_calli hr hS (fun q _ h => gA_mono hS.1 q h) (fun q h => gA_mono hS.1 q h) (fun r u t H1 locs1 ht _ hw hB _ _ hS1 => kk r u H1 locs1 hw (by subst ht; exact hB) hS1)
theorem gcd {post : UInt64 → σ → Prop} (hr : va_Run p l e R s m args below meth c H locs cells slots 0 0 (F0 m pc ls st0) rest (va_Qd post (gB D wd) (gA A0 H.size) av) (gA A0 H.size)) (hS : va_S (gA A0 s.heap.size) s.heap H locs)
    (kk : ∀ (r : UInt64) (u : σ) (H1 : Heap) (locs1 : List Loc), post r u → va_P D vwCl (wd u) H1 → va_S (gA A0 s.heap.size) s.heap H1 locs1 → W p l e R s m args below meth c H1 locs1 cells slots Q (F0 m (pc + 3) ls (.double r :: rest))) : W p l e R s m args below meth c H locs cells slots Q (F0 m pc ls st0) :=
  va_calld hr hS (fun q _ h => gA_mono hS.1 q h) (fun q h => gA_mono hS.1 q h) (fun r u t H1 locs1 ht _ hw hB _ _ hS1 => kk r u H1 locs1 hw (by subst ht; exact hB) hS1)
theorem gcv {post : σ → Prop} (hr : va_Run p l e R s m args below meth c H locs cells slots 0 0 (F0 m pc ls st0) rest (va_Qv post (gB D wd) (gA A0 H.size) av) (gA A0 H.size)) (hS : va_S (gA A0 s.heap.size) s.heap H locs)
    (kk : ∀ (u : σ) (H1 : Heap) (locs1 : List Loc), post u → va_P D vwCl (wd u) H1 → va_S (gA A0 s.heap.size) s.heap H1 locs1 → W p l e R s m args below meth c H1 locs1 cells slots Q (F0 m (pc + 3) ls rest)) : W p l e R s m args below meth c H locs cells slots Q (F0 m pc ls st0) :=
  va_callv hr hS (fun q _ h => gA_mono hS.1 q h) (fun q h => gA_mono hS.1 q h) (fun u t H1 locs1 ht _ hw hB _ _ hS1 => kk u H1 locs1 hw (by subst ht; exact hB) hS1)
-- calls of methods without a world
theorem g0i {post : Int32 → Unit → Prop} {B : Unit → State → Prop} (hr : va_Run p l e R s m args below meth c H locs cells slots 0 0 (F0 m pc ls st0) rest (va_Qi post B (gA gF H.size) av) (gA gF H.size)) (hP : va_P D cl ws H) (hS : va_S (gA A0 s.heap.size) s.heap H locs)
    (kk : ∀ (r : Int32) (H1 : Heap) (locs1 : List Loc), post r () → va_P D cl ws H1 → va_S (gA A0 s.heap.size) s.heap H1 locs1 → W p l e R s m args below meth c H1 locs1 cells slots Q (F0 m (pc + 3) ls (.int r :: rest))) : W p l e R s m args below meth c H locs cells slots Q (F0 m pc ls st0) :=
  va_calli hr hS (fun q _ h => gF_sub hS.1 q h) (fun q h => gF_sub hS.1 q h) (fun r u t H1 locs1 ht _ hw hB _ hk hS1 => kk r H1 locs1 hw (hP.kept (fun k q hq => hk q.1 ((hP k q hq).lt) (fun z => z.elim (fun z => z.elim) (fun z => absurd ((hP k q hq).lt) (Nat.not_lt.mpr z))))) hS1)
theorem g0d {post : UInt64 → Unit → Prop} {B : Unit → State → Prop} (hr : va_Run p l e R s m args below meth c H locs cells slots 0 0 (F0 m pc ls st0) rest (va_Qd post B (gA gF H.size) av) (gA gF H.size)) (hP : va_P D cl ws H) (hS : va_S (gA A0 s.heap.size) s.heap H locs)
    (kk : ∀ (r : UInt64) (H1 : Heap) (locs1 : List Loc), post r () → va_P D cl ws H1 → va_S (gA A0 s.heap.size) s.heap H1 locs1 → W p l e R s m args below meth c H1 locs1 cells slots Q (F0 m (pc + 3) ls (.double r :: rest))) : W p l e R s m args below meth c H locs cells slots Q (F0 m pc ls st0) :=
  va_calld hr hS (fun q _ h => gF_sub hS.1 q h) (fun q h => gF_sub hS.1 q h) (fun r u t H1 locs1 ht _ hw hB _ hk hS1 => kk r H1 locs1 hw (hP.kept (fun k q hq => hk q.1 ((hP k q hq).lt) (fun z => z.elim (fun z => z.elim) (fun z => absurd ((hP k q hq).lt) (Nat.not_lt.mpr z))))) hS1)
-- ends
theorem gri {post : Int32 → σ → Prop} {v : Int32} {u : σ} (hexec : p.tables.exec = Jvm.exec) (hb : c.code = cc) (hr : meth.sig.returnType = some .int) (hlocks : meth.locks = false) (hS : va_S (gA A0 s.heap.size) s.heap H locs) (hP : va_P D vwCl (wd u) H) (hdg : decode cc pc = .ok (.ireturn, 1)) (hpost : post v u) :
    W p l e R s m args below meth c H locs cells slots (MQ below (va_Qi post (gB D wd) (gA A0 s.heap.size)) args s cells slots (gA A0 s.heap.size)) (F0 m pc ls [.int v]) :=
  W.iret hexec hb hr (fun t ht _ => ⟨⟨v, u, rfl, hpost, by subst ht; exact hP⟩, hS.F ht⟩) hS.2.2 hdg hlocks
theorem grz {post : Int32 → σ → Prop} {v : Int32} {u : σ} (hexec : p.tables.exec = Jvm.exec) (hb : c.code = cc) (hr : meth.sig.returnType = some .boolean) (hlocks : meth.locks = false) (hS : va_S (gA A0 s.heap.size) s.heap H locs) (hP : va_P D vwCl (wd u) H) (hdg : decode cc pc = .ok (.ireturn, 1)) (hz : v = nI 0 ∨ v = nI 1) (hpost : post v u) :
    W p l e R s m args below meth c H locs cells slots (MQ below (va_Qi post (gB D wd) (gA A0 s.heap.size)) args s cells slots (gA A0 s.heap.size)) (F0 m pc ls [.int v]) :=
  W.zret (ty := .boolean) hexec hb hr (by rcases hz with rfl | rfl <;> rfl) (fun t ht _ => ⟨⟨v, u, rfl, hpost, by subst ht; exact hP⟩, hS.F ht⟩) hS.2.2 hdg hlocks
theorem grd {post : UInt64 → σ → Prop} {v : UInt64} {u : σ} (hexec : p.tables.exec = Jvm.exec) (hb : c.code = cc) (hr : meth.sig.returnType = some .double) (hlocks : meth.locks = false) (hS : va_S (gA A0 s.heap.size) s.heap H locs) (hP : va_P D vwCl (wd u) H) (hdg : decode cc pc = .ok (.dreturn, 1)) (hpost : post v u) :
    W p l e R s m args below meth c H locs cells slots (MQ below (va_Qd post (gB D wd) (gA A0 s.heap.size)) args s cells slots (gA A0 s.heap.size)) (F0 m pc ls [.double v]) :=
  W.dret hexec hb hr (fun t ht _ => ⟨⟨v, u, rfl, hpost, by subst ht; exact hP⟩, hS.F ht⟩) hS.2.2 hdg hlocks
theorem grv {post : σ → Prop} {u : σ} (hexec : p.tables.exec = Jvm.exec) (hb : c.code = cc) (hr : meth.sig.returnType = none) (hlocks : meth.locks = false) (hS : va_S (gA A0 s.heap.size) s.heap H locs) (hP : va_P D vwCl (wd u) H) (hdg : decode cc pc = .ok (.return_, 1)) (hpost : post u) :
    W p l e R s m args below meth c H locs cells slots (MQ below (va_Qv post (gB D wd) (gA A0 s.heap.size)) args s cells slots (gA A0 s.heap.size)) (F0 m pc ls []) :=
  W.vret hexec hb hr (fun t ht _ => ⟨⟨u, rfl, hpost, by subst ht; exact hP⟩, hS.F ht⟩) hS.2.2 hdg hlocks
-- arrays at an index nI j
theorem xdl (hexec : p.tables.exec = Jvm.exec) (hb : c.code = cc) (hK : va_K D cl tys s) (hP : va_P D cl ws H) (q0 t0 : Nat) {cA : ClassId} {n : Nat} {f : Nat → UInt64} (ha : ws[q0]? = some (a, .inl (cA, n, .inr (.inr (.inr (.inl f)))))) (ht : tys[t0]? = some (cA, .double)) {j : Nat} (hn : n < 2 ^ 31) (hj : j < n) (hdg : decode cc pc = .ok (.daload, 1))
    (kk : W p l e R s m args below meth c H locs cells slots Q (F0 m (pc + 1) ls (.double (f j) :: rest))) : W p l e R s m args below meth c H locs cells slots Q (F0 m pc ls (.int (nI j) :: .ref a :: rest)) :=
  va_dald hexec hb hK hP q0 t0 ha ht (vp_in_nI hj hn) hdg (by rw [nI_clamp (Nat.lt_trans hj hn)]; exact kk)
theorem xil (hexec : p.tables.exec = Jvm.exec) (hb : c.code = cc) (hK : va_K D cl tys s) (hP : va_P D cl ws H) (q0 t0 : Nat) {cA : ClassId} {n : Nat} {f : Nat → Int32} (ha : ws[q0]? = some (a, .inl (cA, n, .inl f))) (ht : tys[t0]? = some (cA, .int)) {j : Nat} (hn : n < 2 ^ 31) (hj : j < n) (hdg : decode cc pc = .ok (.iaload, 1))
    (kk : W p l e R s m args below meth c H locs cells slots Q (F0 m (pc + 1) ls (.int (f j) :: rest))) : W p l e R s m args below meth c H locs cells slots Q (F0 m pc ls (.int (nI j) :: .ref a :: rest)) :=
  va_iald hexec hb hK hP q0 t0 ha ht (vp_in_nI hj hn) hdg (by rw [nI_clamp (Nat.lt_trans hj hn)]; exact kk)
theorem xzl (hexec : p.tables.exec = Jvm.exec) (hb : c.code = cc) (hK : va_K D cl tys s) (hP : va_P D cl ws H) (q0 t0 : Nat) {cA : ClassId} {n : Nat} {f : Nat → Int32} (ha : ws[q0]? = some (a, .inl (cA, n, .inl f))) (ht : tys[t0]? = some (cA, .boolean)) {j : Nat} (hn : n < 2 ^ 31) (hj : j < n) (hdg : decode cc pc = .ok (.baload, 1))
    (kk : W p l e R s m args below meth c H locs cells slots Q (F0 m (pc + 1) ls (.int (f j) :: rest))) : W p l e R s m args below meth c H locs cells slots Q (F0 m pc ls (.int (nI j) :: .ref a :: rest)) :=
  va_zald hexec hb hK hP q0 t0 ha ht (vp_in_nI hj hn) hdg (by rw [nI_clamp (Nat.lt_trans hj hn)]; exact kk)
theorem xal (hexec : p.tables.exec = Jvm.exec) (hb : c.code = cc) (hK : va_K D cl tys s) (hP : va_P D cl ws H) (q0 t0 : Nat) {cA : ClassId} {n : Nat} {f : Nat → Option Nat} (ha : ws[q0]? = some (a, .inl (cA, n, .inr (.inr (.inr (.inr f)))))) (ht : tys[t0]? = some (cA, .array .double)) {j v : Nat} (hn : n < 2 ^ 31) (hj : j < n) (hv : f j = some v) (hdg : decode cc pc = .ok (.aaload, 1))
    (kk : W p l e R s m args below meth c H locs cells slots Q (F0 m (pc + 1) ls (.ref v :: rest))) : W p l e R s m args below meth c H locs cells slots Q (F0 m pc ls (.int (nI j) :: .ref a :: rest)) := by
  have e0 : (nI j).toNatClampNeg = j := nI_clamp (Nat.lt_trans hj hn)
  refine W.aald (v := .ref v) (ty := .array .double) hexec hb (hP q0 _ ha) ((hK.2 t0 _ ht).1 n (fun j => va_rf (f j))) rfl (fun q => by cases q) (by show ¬ (nI j < 0 ∨ (arrV _ _ _).slots.size ≤ _); rw [arrV_size]; exact vp_in_nI hj hn) ?_ rfl rfl hdg kk
  show (arrV _ _ _).slots[_]? = _
  rw [e0, arrV_read _ _ hj]
  show some (va_rf (f j)) = _
  rw [hv]
  rfl
theorem xds (hexec : p.tables.exec = Jvm.exec) (hb : c.code = cc) (hK : va_K D cl tys s) (hD : ∀ u : σ, va_D A (wd u)) {S : σ} (hP : va_P D cl (wd S) H) (hS : va_S A H0 H locs) (q0 t0 : Nat) (S' : σ) {cA : ClassId} {n : Nat} {f : Nat → UInt64} (ha : (wd S)[q0]? = some (a, .inl (cA, n, .inr (.inr (.inr (.inl f)))))) (ht : tys[t0]? = some (cA, .double)) {j : Nat} {x : UInt64} (hn : n < 2 ^ 31) (hj : j < n) (hset : (wd S).set q0 (a, .inl (cA, n, .inr (.inr (.inr (.inl (vf_upd f j x)))))) = wd S') (hdg : decode cc pc = .ok (.dastore, 1))
    (kk : ∀ (H1 : Heap) (locs1 : List Loc), va_P D cl (wd S') H1 → va_S A H0 H1 locs1 → W p l e R s m args below meth c H1 locs1 cells slots Q (F0 m (pc + 1) ls rest)) : W p l e R s m args below meth c H locs cells slots Q (F0 m pc ls (.double x :: .int (nI j) :: .ref a :: rest)) :=
  va_dast hexec hb hK hP (hD S) hS q0 t0 ha ht (vp_in_nI hj hn) hdg (fun H1 locs1 hP1 _ hS1 => kk H1 locs1 (by rw [nI_clamp (Nat.lt_trans hj hn), hset] at hP1; exact hP1) hS1)
theorem xis (hexec : p.tables.exec = Jvm.exec) (hb : c.code = cc) (hK : va_K D cl tys s) (hD : ∀ u : σ, va_D A (wd u)) {S : σ} (hP : va_P D cl (wd S) H) (hS : va_S A H0 H locs) (q0 t0 : Nat) (S' : σ) {cA : ClassId} {n : Nat} {f : Nat → Int32} (ha : (wd S)[q0]? = some (a, .inl (cA, n, .inl f))) (ht : tys[t0]? = some (cA, .int)) {j : Nat} {x : Int32} (hn : n < 2 ^ 31) (hj : j < n) (hset : (wd S).set q0 (a, .inl (cA, n, .inl (upd f j x))) = wd S') (hdg : decode cc pc = .ok (.iastore, 1))
    (kk : ∀ (H1 : Heap) (locs1 : List Loc), va_P D cl (wd S') H1 → va_S A H0 H1 locs1 → W p l e R s m args below meth c H1 locs1 cells slots Q (F0 m (pc + 1) ls rest)) : W p l e R s m args below meth c H locs cells slots Q (F0 m pc ls (.int x :: .int (nI j) :: .ref a :: rest)) :=
  va_iast hexec hb hK hP (hD S) hS q0 t0 ha ht (vp_in_nI hj hn) hdg (fun H1 locs1 hP1 _ hS1 => kk H1 locs1 (by rw [nI_clamp (Nat.lt_trans hj hn), hset] at hP1; exact hP1) hS1)
theorem xzs (hexec : p.tables.exec = Jvm.exec) (hb : c.code = cc) (hK : va_K D cl tys s) (hD : ∀ u : σ, va_D A (wd u)) {S : σ} (hP : va_P D cl (wd S) H) (hS : va_S A H0 H locs) (q0 t0 : Nat) (S' : σ) {cA : ClassId} {n : Nat} {f : Nat → Int32} (ha : (wd S)[q0]? = some (a, .inl (cA, n, .inl f))) (ht : tys[t0]? = some (cA, .boolean)) {j : Nat} {x : Int32} (hn : n < 2 ^ 31) (hj : j < n) (hset : (wd S).set q0 (a, .inl (cA, n, .inl (upd f j (vp_nar .boolean x)))) = wd S') (hdg : decode cc pc = .ok (.bastore, 1))
    (kk : ∀ (H1 : Heap) (locs1 : List Loc), va_P D cl (wd S') H1 → va_S A H0 H1 locs1 → W p l e R s m args below meth c H1 locs1 cells slots Q (F0 m (pc + 1) ls rest)) : W p l e R s m args below meth c H locs cells slots Q (F0 m pc ls (.int x :: .int (nI j) :: .ref a :: rest)) :=
  va_zast hexec hb hK hP (hD S) hS q0 t0 ha ht (vp_in_nI hj hn) hdg (fun H1 locs1 hP1 _ hS1 => kk H1 locs1 (by rw [nI_clamp (Nat.lt_trans hj hn), hset] at hP1; exact hP1) hS1)
theorem xput (hexec : p.tables.exec = Jvm.exec) (hb : c.code = cc) {own ref C : String} {T : u_T} {N ci index : Nat} {Ts : List Cond} (hts : ∀ w ∈ Ts, w.before args s = true) (hin : ∀ w ∈ u_ws C T N, w ∈ Ts) (ty0 : Nat → FieldType) (hty : ∀ k, k < N → parseFieldDescriptor (T k).2.2.1 = some (ty0 k)) (hnm : ∀ a, a < N → ∀ b, b < N → a ≠ b → (T a).2.1 ≠ (T b).2.1) (hown : s.vm.findClass own = some m.cls) (hK : va_K D cl tys s) (hD : ∀ u : σ, va_D A (wd u)) {S : σ} (hP : va_P D cl (wd S) H) (hS : va_S A H0 H locs) (q0 : Nat) (S' : σ) {fs : List Value} (he : (wd S)[q0]? = some (a, .inr (ci, fs))) (hc : cl[ci]? = some (C, T, N)) (k : Nat) (hk : k < N) (hlink : (Cond.fieldLink own index ref (T k).2.1 (T k).2.2.1).before args s = true) (hsame : ∀ x, s.fieldFound? (T k).1 (T k).2.1 (T k).2.2.1 = some x → s.fieldFound? ref (T k).2.1 (T k).2.2.1 = some x)
    (hfin : (T k).2.2.2 = false) {ty : FieldType} {v : Value} (hd : parseFieldDescriptor (T k).2.2.1 = some ty) (hn : narrow ty v = v) (hfit : fits ty v = true) (hl : k < fs.length) (hset : (wd S).set q0 (a, .inr (ci, fs.set k v)) = wd S') (hdg : decode cc pc = .ok (.putfield index, 3))
    (kk : ∀ (H1 : Heap) (locs1 : List Loc), va_P D cl (wd S') H1 → va_S A H0 H1 locs1 → W p l e R s m args below meth c H1 locs1 cells slots Q (F0 m (pc + 3) ls rest)) : W p l e R s m args below meth c H locs cells slots Q (F0 m pc ls (v :: .ref a :: rest)) :=
  va_put hexec hb hts hin ty0 hty hnm hown hK hP (hD S) hS q0 he hc k hk hlink hsame hfin hd hn hfit hl hdg (fun H1 locs1 hP1 _ hS1 => kk H1 locs1 (by rw [hset] at hP1; exact hP1) hS1)
-- ints that are nI of a Nat
theorem xia (hexec : p.tables.exec = Jvm.exec) (hb : c.code = cc) {x y : Nat} (z : Nat) (hdg : decode cc pc = .ok (.iadd, 1)) (hz : x + y = z) (k : W p l e R s m args below meth c H locs cells slots Q (F0 m (pc + 1) ls (.int (nI z) :: rest))) : W p l e R s m args below meth c H locs cells slots Q (F0 m pc ls (.int (nI y) :: .int (nI x) :: rest)) :=
  lv_iadd hexec hb hdg (by rw [nI_add, hz]; exact k)
theorem xib (hexec : p.tables.exec = Jvm.exec) (hb : c.code = cc) {x y : Nat} (z : Nat) (hdg : decode cc pc = .ok (.isub, 1)) (hz : x = z + y) (k : W p l e R s m args below meth c H locs cells slots Q (F0 m (pc + 1) ls (.int (nI z) :: rest))) : W p l e R s m args below meth c H locs cells slots Q (F0 m pc ls (.int (nI y) :: .int (nI x) :: rest)) :=
  lv_isub hexec hb hdg (by rw [pk_sub (by omega), show x - y = z by omega]; exact k)
theorem xim (hexec : p.tables.exec = Jvm.exec) (hb : c.code = cc) {x y : Nat} (z : Nat) (hdg : decode cc pc = .ok (.imul, 1)) (hz : x * y = z) (k : W p l e R s m args below meth c H locs cells slots Q (F0 m (pc + 1) ls (.int (nI z) :: rest))) : W p l e R s m args below meth c H locs cells slots Q (F0 m pc ls (.int (nI y) :: .int (nI x) :: rest)) :=
  lv_imul hexec hb hdg (by rw [pk_mul, hz]; exact k)
-- compares of doubles, with their branch
theorem xc_gle (hexec : p.tables.exec = Jvm.exec) (hb : c.code = cc) {x y : UInt64} {off : Int} {tgt : Nat} (hdg : decode cc pc = .ok (.dcmp .g, 1)) (hdg2 : decode cc (pc + 1) = .ok (.ifCond .gt off, 3)) (ht : ((pc + 1 : Nat) : Int) + off = (tgt : Int)) (kt : ¬ dle x y → W p l e R s m args below meth c H locs cells slots Q (F0 m tgt ls rest)) (kf : dle x y → W p l e R s m args below meth c H locs cells slots Q (F0 m (pc + 4) ls rest)) : W p l e R s m args below meth c H locs cells slots Q (F0 m pc ls (.double y :: .double x :: rest)) := by
  refine lv_dcmp hexec hb hdg (lv_if_gt (tgt := tgt) hexec hb hdg2 ht (fun h => kt (fun q => ?_)) (fun h => kf ?_))
  · rcases q with q | q <;> rw [q] at h <;> exact absurd h (by decide)
  · show dle x y
    unfold dle
    rcases hq : FP.dcmp x y with _ | (_ | _ | _) <;> rw [hq] at h <;> first | (exact absurd (by decide) h) | simp
theorem xc_glt (hexec : p.tables.exec = Jvm.exec) (hb : c.code = cc) {x y : UInt64} {off : Int} {tgt : Nat} (hdg : decode cc pc = .ok (.dcmp .g, 1)) (hdg2 : decode cc (pc + 1) = .ok (.ifCond .ge off, 3)) (ht : ((pc + 1 : Nat) : Int) + off = (tgt : Int)) (kt : ¬ dlt x y → W p l e R s m args below meth c H locs cells slots Q (F0 m tgt ls rest)) (kf : dlt x y → W p l e R s m args below meth c H locs cells slots Q (F0 m (pc + 4) ls rest)) : W p l e R s m args below meth c H locs cells slots Q (F0 m pc ls (.double y :: .double x :: rest)) := by
  refine lv_dcmp hexec hb hdg (lv_if_ge (tgt := tgt) hexec hb hdg2 ht (fun h => kt (fun q => ?_)) (fun h => kf ?_))
  · rw [show FP.dcmp x y = some .lt from q] at h; exact absurd h (by decide)
  · show dlt x y
    unfold dlt
    rcases hq : FP.dcmp x y with _ | (_ | _ | _) <;> rw [hq] at h <;> first | (exact absurd (by decide) h) | simp
theorem xc_lge (hexec : p.tables.exec = Jvm.exec) (hb : c.code = cc) {x y : UInt64} {off : Int} {tgt : Nat} (hdg : decode cc pc = .ok (.dcmp .l, 1)) (hdg2 : decode cc (pc + 1) = .ok (.ifCond .lt off, 3)) (ht : ((pc + 1 : Nat) : Int) + off = (tgt : Int)) (kt : ¬ dge x y → W p l e R s m args below meth c H locs cells slots Q (F0 m tgt ls rest)) (kf : dge x y → W p l e R s m args below meth c H locs cells slots Q (F0 m (pc + 4) ls rest)) : W p l e R s m args below meth c H locs cells slots Q (F0 m pc ls (.double y :: .double x :: rest)) := by
  refine lv_dcmp hexec hb hdg (lv_if_lt (tgt := tgt) hexec hb hdg2 ht (fun h => kt (fun q => ?_)) (fun h => kf ?_))
  · rcases q with q | q <;> rw [q] at h <;> exact absurd h (by decide)
  · show dge x y
    unfold dge
    rcases hq : FP.dcmp x y with _ | (_ | _ | _) <;> rw [hq] at h <;> first | (exact absurd (by decide) h) | simp
theorem xc_lgt (hexec : p.tables.exec = Jvm.exec) (hb : c.code = cc) {x y : UInt64} {off : Int} {tgt : Nat} (hdg : decode cc pc = .ok (.dcmp .l, 1)) (hdg2 : decode cc (pc + 1) = .ok (.ifCond .le off, 3)) (ht : ((pc + 1 : Nat) : Int) + off = (tgt : Int)) (kt : ¬ dgt x y → W p l e R s m args below meth c H locs cells slots Q (F0 m tgt ls rest)) (kf : dgt x y → W p l e R s m args below meth c H locs cells slots Q (F0 m (pc + 4) ls rest)) : W p l e R s m args below meth c H locs cells slots Q (F0 m pc ls (.double y :: .double x :: rest)) := by
  refine lv_dcmp hexec hb hdg (lv_if_le (tgt := tgt) hexec hb hdg2 ht (fun h => kt (fun q => ?_)) (fun h => kf ?_))
  · rw [show FP.dcmp x y = some .gt from q] at h; exact absurd h (by decide)
  · show dgt x y
    unfold dgt
    rcases hq : FP.dcmp x y with _ | (_ | _ | _) <;> rw [hq] at h <;> first | (exact absurd (by decide) h) | simp
theorem xc_lgp (hexec : p.tables.exec = Jvm.exec) (hb : c.code = cc) {x y : UInt64} {off : Int} {tgt : Nat} (hdg : decode cc pc = .ok (.dcmp .l, 1)) (hdg2 : decode cc (pc + 1) = .ok (.ifCond .gt off, 3)) (ht : ((pc + 1 : Nat) : Int) + off = (tgt : Int)) (kt : dgt x y → W p l e R s m args below meth c H locs cells slots Q (F0 m tgt ls rest)) (kf : ¬ dgt x y → W p l e R s m args below meth c H locs cells slots Q (F0 m (pc + 4) ls rest)) : W p l e R s m args below meth c H locs cells slots Q (F0 m pc ls (.double y :: .double x :: rest)) := by
  refine lv_dcmp hexec hb hdg (lv_if_gt (tgt := tgt) hexec hb hdg2 ht (fun h => kt ?_) (fun h => kf (fun q => ?_)))
  · show dgt x y
    unfold dgt
    rcases hq : FP.dcmp x y with _ | (_ | _ | _) <;> rw [hq] at h <;> first | (exact absurd h (by decide)) | simp
  · rw [show FP.dcmp x y = some .gt from q] at h; exact absurd (by decide) h
theorem xc_leq (hexec : p.tables.exec = Jvm.exec) (hb : c.code = cc) {x y : UInt64} {off : Int} {tgt : Nat} (hdg : decode cc pc = .ok (.dcmp .l, 1)) (hdg2 : decode cc (pc + 1) = .ok (.ifCond .ne off, 3)) (ht : ((pc + 1 : Nat) : Int) + off = (tgt : Int)) (kt : ¬ deq x y → W p l e R s m args below meth c H locs cells slots Q (F0 m tgt ls rest)) (kf : deq x y → W p l e R s m args below meth c H locs cells slots Q (F0 m (pc + 4) ls rest)) : W p l e R s m args below meth c H locs cells slots Q (F0 m pc ls (.double y :: .double x :: rest)) := by
  refine lv_dcmp hexec hb hdg (lv_if_ne (tgt := tgt) hexec hb hdg2 ht (fun h => kt (fun q => ?_)) (fun h => kf ?_))
  · rw [show FP.dcmp x y = some .eq from q] at h; exact absurd h (by decide)
  · show deq x y
    unfold deq
    rcases hq : FP.dcmp x y with _ | (_ | _ | _) <;> rw [hq] at h <;> first | (exact absurd h (by decide)) | simp
theorem xc_lne (hexec : p.tables.exec = Jvm.exec) (hb : c.code = cc) {x y : UInt64} {off : Int} {tgt : Nat} (hdg : decode cc pc = .ok (.dcmp .l, 1)) (hdg2 : decode cc (pc + 1) = .ok (.ifCond .eq off, 3)) (ht : ((pc + 1 : Nat) : Int) + off = (tgt : Int)) (kt : deq x y → W p l e R s m args below meth c H locs cells slots Q (F0 m tgt ls rest)) (kf : ¬ deq x y → W p l e R s m args below meth c H locs cells slots Q (F0 m (pc + 4) ls rest)) : W p l e R s m args below meth c H locs cells slots Q (F0 m pc ls (.double y :: .double x :: rest)) := by
  refine lv_dcmp hexec hb hdg (lv_if_eq (tgt := tgt) hexec hb hdg2 ht (fun h => kt ?_) (fun h => kf (fun q => ?_)))
  · show deq x y
    unfold deq
    rcases hq : FP.dcmp x y with _ | (_ | _ | _) <;> rw [hq] at h <;> first | (exact absurd h (by decide)) | simp
  · rw [show FP.dcmp x y = some .eq from q] at h; exact absurd (by decide) h
end GW
theorem gMi {σ : Type} {D : va_G} {wd : σ → va_W} {E : State → Prop} {S : σ} {sz : Nat} {av : List Value} {A0 : Nat → Prop} {l : Launch} {y : MethodName} {ws ws' : List Cond} {rm : Room} {cc : ByteArray} {maxL : Nat} {post : Int32 → σ → Prop}
    (hy : plainFor y = true) (hw : ws = Cond.code y cc maxL (some .int) :: ws') (hal : (lg_sl av).length ≤ maxL)
    (body : ∀ (p : Program) (e : Env) (s : State) (m : MethodId) (below : List Frame) (meth : Method) (c : Code) (Q : State → Prop), p.tables.exec = Jvm.exec → c.code = cc → (∀ w ∈ ws, w.before av.toArray s = true) → s.vm.findClass y.cls = some m.cls → c.maxLocals = maxL → s.heap.size = sz → E s →
      (∀ {H : Heap} {locs : List Loc} {v : Int32} {u : σ} {pc : Nat} {ls : Array Slot}, va_S (gA A0 s.heap.size) s.heap H locs → va_P D vwCl (wd u) H → decode cc pc = .ok (.ireturn, 1) → post v u → W p l e rm s m av.toArray below meth c H locs 0 0 Q (F0 m pc ls [.int v])) →
      ∀ (H : Heap) (locs : List Loc), va_P D vwCl (wd S) H → va_S (gA A0 s.heap.size) s.heap H locs → ∀ ls : Array Slot, lv_has ls maxL (lv_args 0 av) → W p l e rm s m av.toArray below meth c H locs 0 0 Q (F0 m 0 ls [])) : Met l y ws rm (gP D wd E S sz av) (va_Qi post (gB D wd) (gA A0 sz)) 0 0 (gA A0 sz) := by
  refine gMet hy hw hal ?_
  intro p e s m below meth c hx hb hr hts hown hlocks hml hnm hsz hP hE ls hl
  subst hsz
  exact body p e s m below meth c _ hx hb hts hown hml rfl hE (fun hS hP1 hdg hp => gri hx hb hr hlocks hS hP1 hdg hp) s.heap [] hP va_S.rf ls hl
theorem gMz {σ : Type} {D : va_G} {wd : σ → va_W} {E : State → Prop} {S : σ} {sz : Nat} {av : List Value} {A0 : Nat → Prop} {l : Launch} {y : MethodName} {ws ws' : List Cond} {rm : Room} {cc : ByteArray} {maxL : Nat} {post : Int32 → σ → Prop}
    (hy : plainFor y = true) (hw : ws = Cond.code y cc maxL (some .boolean) :: ws') (hal : (lg_sl av).length ≤ maxL)
    (body : ∀ (p : Program) (e : Env) (s : State) (m : MethodId) (below : List Frame) (meth : Method) (c : Code) (Q : State → Prop), p.tables.exec = Jvm.exec → c.code = cc → (∀ w ∈ ws, w.before av.toArray s = true) → s.vm.findClass y.cls = some m.cls → c.maxLocals = maxL → s.heap.size = sz → E s →
      (∀ {H : Heap} {locs : List Loc} {v : Int32} {u : σ} {pc : Nat} {ls : Array Slot}, va_S (gA A0 s.heap.size) s.heap H locs → va_P D vwCl (wd u) H → decode cc pc = .ok (.ireturn, 1) → (v = nI 0 ∨ v = nI 1) → post v u → W p l e rm s m av.toArray below meth c H locs 0 0 Q (F0 m pc ls [.int v])) →
      ∀ (H : Heap) (locs : List Loc), va_P D vwCl (wd S) H → va_S (gA A0 s.heap.size) s.heap H locs → ∀ ls : Array Slot, lv_has ls maxL (lv_args 0 av) → W p l e rm s m av.toArray below meth c H locs 0 0 Q (F0 m 0 ls [])) : Met l y ws rm (gP D wd E S sz av) (va_Qi post (gB D wd) (gA A0 sz)) 0 0 (gA A0 sz) := by
  refine gMet hy hw hal ?_
  intro p e s m below meth c hx hb hr hts hown hlocks hml hnm hsz hP hE ls hl
  subst hsz
  exact body p e s m below meth c _ hx hb hts hown hml rfl hE (fun hS hP1 hdg hz hp => grz hx hb hr hlocks hS hP1 hdg hz hp) s.heap [] hP va_S.rf ls hl
theorem gMd {σ : Type} {D : va_G} {wd : σ → va_W} {E : State → Prop} {S : σ} {sz : Nat} {av : List Value} {A0 : Nat → Prop} {l : Launch} {y : MethodName} {ws ws' : List Cond} {rm : Room} {cc : ByteArray} {maxL : Nat} {post : UInt64 → σ → Prop}
    (hy : plainFor y = true) (hw : ws = Cond.code y cc maxL (some .double) :: ws') (hal : (lg_sl av).length ≤ maxL)
    (body : ∀ (p : Program) (e : Env) (s : State) (m : MethodId) (below : List Frame) (meth : Method) (c : Code) (Q : State → Prop), p.tables.exec = Jvm.exec → c.code = cc → (∀ w ∈ ws, w.before av.toArray s = true) → s.vm.findClass y.cls = some m.cls → c.maxLocals = maxL → s.heap.size = sz → E s →
      (∀ {H : Heap} {locs : List Loc} {v : UInt64} {u : σ} {pc : Nat} {ls : Array Slot}, va_S (gA A0 s.heap.size) s.heap H locs → va_P D vwCl (wd u) H → decode cc pc = .ok (.dreturn, 1) → post v u → W p l e rm s m av.toArray below meth c H locs 0 0 Q (F0 m pc ls [.double v])) →
      ∀ (H : Heap) (locs : List Loc), va_P D vwCl (wd S) H → va_S (gA A0 s.heap.size) s.heap H locs → ∀ ls : Array Slot, lv_has ls maxL (lv_args 0 av) → W p l e rm s m av.toArray below meth c H locs 0 0 Q (F0 m 0 ls [])) : Met l y ws rm (gP D wd E S sz av) (va_Qd post (gB D wd) (gA A0 sz)) 0 0 (gA A0 sz) := by
  refine gMet hy hw hal ?_
  intro p e s m below meth c hx hb hr hts hown hlocks hml hnm hsz hP hE ls hl
  subst hsz
  exact body p e s m below meth c _ hx hb hts hown hml rfl hE (fun hS hP1 hdg hp => grd hx hb hr hlocks hS hP1 hdg hp) s.heap [] hP va_S.rf ls hl
theorem gMv {σ : Type} {D : va_G} {wd : σ → va_W} {E : State → Prop} {S : σ} {sz : Nat} {av : List Value} {A0 : Nat → Prop} {l : Launch} {y : MethodName} {ws ws' : List Cond} {rm : Room} {cc : ByteArray} {maxL : Nat} {post : σ → Prop}
    (hy : plainFor y = true) (hw : ws = Cond.code y cc maxL none :: ws') (hal : (lg_sl av).length ≤ maxL)
    (body : ∀ (p : Program) (e : Env) (s : State) (m : MethodId) (below : List Frame) (meth : Method) (c : Code) (Q : State → Prop), p.tables.exec = Jvm.exec → c.code = cc → (∀ w ∈ ws, w.before av.toArray s = true) → s.vm.findClass y.cls = some m.cls → c.maxLocals = maxL → s.heap.size = sz → E s →
      (∀ {H : Heap} {locs : List Loc} {u : σ} {pc : Nat} {ls : Array Slot}, va_S (gA A0 s.heap.size) s.heap H locs → va_P D vwCl (wd u) H → decode cc pc = .ok (.return_, 1) → post u → W p l e rm s m av.toArray below meth c H locs 0 0 Q (F0 m pc ls [])) →
      ∀ (H : Heap) (locs : List Loc), va_P D vwCl (wd S) H → va_S (gA A0 s.heap.size) s.heap H locs → ∀ ls : Array Slot, lv_has ls maxL (lv_args 0 av) → W p l e rm s m av.toArray below meth c H locs 0 0 Q (F0 m 0 ls [])) : Met l y ws rm (gP D wd E S sz av) (va_Qv post (gB D wd) (gA A0 sz)) 0 0 (gA A0 sz) := by
  refine gMet hy hw hal ?_
  intro p e s m below meth c hx hb hr hts hown hlocks hml hnm hsz hP hE ls hl
  subst hsz
  exact body p e s m below meth c _ hx hb hts hown hml rfl hE (fun hS hP1 hdg hp => grv hx hb hr hlocks hS hP1 hdg hp) s.heap [] hP va_S.rf ls hl
end
section
/-! the states of the two sides, their cells, what the tables say of them -/
abbrev DF : Type := Nat → UInt64
abbrev IF : Type := Nat → Int32
abbrev NS : Type := Nat × DF × DF × DF × DF × DF × DF × DF × DF × IF
abbrev BS : Type := Nat × IF × IF × DF × DF × DF × DF
abbrev RS : Type := Nat × DF × DF × DF × UInt64 × UInt64
abbrev OS : Type := UInt64 × DF
abbrev PS : Type := Nat × IF × IF × IF
abbrev CS : Type := DF × DF × DF × Nat × Nat × IF × IF × Int32 × Int32 × Int32
abbrev ES : Type := Nat × DF
abbrev GS : Type := NS × BS × RS × OS × PS
abbrev XS : Type := GS × CS
abbrev MS : Type := GS × ES
def row3 (a b c : Nat) : Nat → Option Nat := fun j => match j with
  | 0 => some a
  | 1 => some b
  | 2 => some c
  | _ => none
def WX (cs : Nat → ClassId) (ad : Nat → Nat) : XS → va_W := fun S => match S with
  | (((nN, px, py, pz, fx, fy, fz, lf, ld, fi), (nB, fr, tt, ln, wi, sg, pu), (nR, rd, rx, ry, wv, fo), (re, dg), (nP, tp, bt, dp)), (sp, ac, kp, kc, kn, aw, dw, su, ss, sd)) => [(ad 0, .inr (6, [.ref (ad 1), .ref (ad 2), .ref (ad 3), .ref (ad 4), .ref (ad 5), .ref (ad 6)])), (ad 1, .inr (3, [.ref (ad 7), .ref (ad 8), .ref (ad 9), .ref (ad 10), .ref (ad 11), .int (nI nN)])), (ad 2, .inr (1, [.ref (ad 12), .ref (ad 13), .ref (ad 14), .ref (ad 15), .ref (ad 16), .ref (ad 17), .int (nI nB)])), (ad 3, .inr (5, [.ref (ad 18), .ref (ad 19), .ref (ad 20), .int (nI nR), .double wv, .double fo])), (ad 4, .inr (0, [.ref (ad 1), .ref (ad 2), .ref (ad 3), .ref (ad 21), .double re, .ref (ad 22), .ref (ad 23)])), (ad 5, .inr (2, [.ref (ad 24), .int (nI kc), .int (nI kn)])), (ad 6, .inr (4, [.ref (ad 25), .ref (ad 26), .ref (ad 27), .ref (ad 28), .ref (ad 29), .int (nI nP), .int su, .int ss, .int sd])), (ad 7, .inl (cs 3, 3, .inr (.inr (.inr (.inr (row3 (ad 30) (ad 31) (ad 32))))))), (ad 8, .inl (cs 3, 3, .inr (.inr (.inr (.inr (row3 (ad 33) (ad 34) (ad 35))))))), (ad 9, .inl (cs 0, 30, .inr (.inr (.inr (.inl lf))))), (ad 10, .inl (cs 0, 30, .inr (.inr (.inr (.inl ld))))), (ad 11, .inl (cs 2, 30, .inl fi)), (ad 12, .inl (cs 1, 60, .inl fr)), (ad 13, .inl (cs 1, 60, .inl tt)), (ad 14, .inl (cs 0, 60, .inr (.inr (.inr (.inl ln))))), (ad 15, .inl (cs 0, 60, .inr (.inr (.inr (.inl wi))))), (ad 16, .inl (cs 0, 60, .inr (.inr (.inr (.inl sg))))), (ad 17, .inl (cs 0, 60, .inr (.inr (.inr (.inl pu))))), (ad 18, .inl (cs 0, 10, .inr (.inr (.inr (.inl rd))))), (ad 19, .inl (cs 0, 10, .inr (.inr (.inr (.inl rx))))), (ad 20, .inl (cs 0, 10, .inr (.inr (.inr (.inl ry))))), (ad 21, .inl (cs 0, 3, .inr (.inr (.inr (.inl dg))))), (ad 22, .inl (cs 0, 3, .inr (.inr (.inr (.inl sp))))), (ad 23, .inl (cs 0, 3, .inr (.inr (.inr (.inl ac))))), (ad 24, .inl (cs 0, 20, .inr (.inr (.inr (.inl kp))))), (ad 25, .inl (cs 1, 30, .inl tp)), (ad 26, .inl (cs 1, 30, .inl bt)), (ad 27, .inl (cs 1, 30, .inl dp)), (ad 28, .inl (cs 1, 30, .inl aw)), (ad 29, .inl (cs 1, 30, .inl dw)), (ad 30, .inl (cs 0, 30, .inr (.inr (.inr (.inl px))))), (ad 31, .inl (cs 0, 30, .inr (.inr (.inr (.inl py))))), (ad 32, .inl (cs 0, 30, .inr (.inr (.inr (.inl pz))))), (ad 33, .inl (cs 0, 30, .inr (.inr (.inr (.inl fx))))), (ad 34, .inl (cs 0, 30, .inr (.inr (.inr (.inl fy))))), (ad 35, .inl (cs 0, 30, .inr (.inr (.inr (.inl fz)))))]
def WM (cs : Nat → ClassId) (ad : Nat → Nat) : MS → va_W := fun S => match S with
  | (((nN, px, py, pz, fx, fy, fz, lf, ld, fi), (nB, fr, tt, ln, wi, sg, pu), (nR, rd, rx, ry, wv, fo), (re, dg), (nP, tp, bt, dp)), (nQ, fu)) => [(ad 0, .inr (7, [.int (nI nN), .ref (ad 1), .ref (ad 2), .ref (ad 3), .ref (ad 4), .ref (ad 5), .ref (ad 6), .ref (ad 7), .ref (ad 8), .ref (ad 9), .int (nI nB), .ref (ad 10), .ref (ad 11), .ref (ad 12), .ref (ad 13), .ref (ad 14), .ref (ad 15), .int (nI nR), .ref (ad 16), .ref (ad 17), .ref (ad 18), .double wv, .double fo, .double re, .ref (ad 19), .int (nI nQ), .ref (ad 20), .int (nI nP), .ref (ad 21), .ref (ad 22), .ref (ad 23)])), (ad 1, .inl (cs 0, 30, .inr (.inr (.inr (.inl px))))), (ad 2, .inl (cs 0, 30, .inr (.inr (.inr (.inl py))))), (ad 3, .inl (cs 0, 30, .inr (.inr (.inr (.inl pz))))), (ad 4, .inl (cs 0, 30, .inr (.inr (.inr (.inl lf))))), (ad 5, .inl (cs 0, 30, .inr (.inr (.inr (.inl ld))))), (ad 6, .inl (cs 2, 30, .inl fi)), (ad 7, .inl (cs 0, 30, .inr (.inr (.inr (.inl fx))))), (ad 8, .inl (cs 0, 30, .inr (.inr (.inr (.inl fy))))), (ad 9, .inl (cs 0, 30, .inr (.inr (.inr (.inl fz))))), (ad 10, .inl (cs 1, 60, .inl fr)), (ad 11, .inl (cs 1, 60, .inl tt)), (ad 12, .inl (cs 0, 60, .inr (.inr (.inr (.inl ln))))), (ad 13, .inl (cs 0, 60, .inr (.inr (.inr (.inl wi))))), (ad 14, .inl (cs 0, 60, .inr (.inr (.inr (.inl sg))))), (ad 15, .inl (cs 0, 60, .inr (.inr (.inr (.inl pu))))), (ad 16, .inl (cs 0, 10, .inr (.inr (.inr (.inl rd))))), (ad 17, .inl (cs 0, 10, .inr (.inr (.inr (.inl rx))))), (ad 18, .inl (cs 0, 10, .inr (.inr (.inr (.inl ry))))), (ad 19, .inl (cs 0, 3, .inr (.inr (.inr (.inl dg))))), (ad 20, .inl (cs 0, 600, .inr (.inr (.inr (.inl fu))))), (ad 21, .inl (cs 1, 30, .inl tp)), (ad 22, .inl (cs 1, 30, .inl bt)), (ad 23, .inl (cs 1, 30, .inl dp))]
def tysX (cs : Nat → ClassId) : List (ClassId × FieldType) := [(cs 0, .double), (cs 1, .int), (cs 2, .boolean), (cs 3, .array .double)]
def distX (ad : Nat → Nat) : Prop := ∀ i j, i < 36 → j < 36 → ad i = ad j → i = j
def distM (ad : Nat → Nat) : Prop := ∀ i j, i < 24 → j < 24 → ad i = ad j → i = j
def AX (ad : Nat → Nat) : Nat → Prop := fun q => ∃ k, k < 36 ∧ q = ad k
def AM (ad : Nat → Nat) : Nat → Prop := fun q => ∃ k, k < 24 ∧ q = ad k
theorem at_map {ad : Nat → Nat} {n k : Nat} {ws : va_W} {q : Nat × va_E} (e : ws.map Prod.fst = (List.range n).map ad) (h : ws[k]? = some q) : k < n ∧ q.1 = ad k := by
  have h2 : ((List.range n).map ad)[k]? = some q.1 := by rw [← e, List.getElem?_map, h]; rfl
  rw [List.getElem?_map] at h2
  by_cases hk : k < n
  · rw [List.getElem?_range hk] at h2
    exact ⟨hk, (Option.some.inj h2).symm⟩
  · rw [List.getElem?_eq_none (by rw [List.length_range]; omega)] at h2
    cases h2
theorem WX_map (cs : Nat → ClassId) (ad : Nat → Nat) (S : XS) : (WX cs ad S).map Prod.fst = (List.range 36).map ad := by
  obtain ⟨⟨⟨nN, px, py, pz, fx, fy, fz, lf, ld, fi⟩, ⟨nB, fr, tt, ln, wi, sg, pu⟩, ⟨nR, rd, rx, ry, wv, fo⟩, ⟨re, dg⟩, ⟨nP, tp, bt, dp⟩⟩, ⟨sp, ac, kp, kc, kn, aw, dw, su, ss, sd⟩⟩ := S
  rfl
theorem WM_map (cs : Nat → ClassId) (ad : Nat → Nat) (S : MS) : (WM cs ad S).map Prod.fst = (List.range 24).map ad := by
  obtain ⟨⟨⟨nN, px, py, pz, fx, fy, fz, lf, ld, fi⟩, ⟨nB, fr, tt, ln, wi, sg, pu⟩, ⟨nR, rd, rx, ry, wv, fo⟩, ⟨re, dg⟩, ⟨nP, tp, bt, dp⟩⟩, ⟨nQ, fu⟩⟩ := S
  rfl
theorem WX_D {cs : Nat → ClassId} {ad : Nat → Nat} {sz : Nat} (hd : distX ad) (u : XS) : va_D (gA (AX ad) sz) (WX cs ad u) := ⟨fun i j p q hi hj e => hd i j (at_map (WX_map cs ad u) hi).1 (at_map (WX_map cs ad u) hj).1 (by rw [← (at_map (WX_map cs ad u) hi).2, ← (at_map (WX_map cs ad u) hj).2]; exact e), fun k q hk => Or.inl ⟨k, at_map (WX_map cs ad u) hk⟩⟩
theorem WM_D {cs : Nat → ClassId} {ad : Nat → Nat} {sz : Nat} (hd : distM ad) (u : MS) : va_D (gA (AM ad) sz) (WM cs ad u) := ⟨fun i j p q hi hj e => hd i j (at_map (WM_map cs ad u) hi).1 (at_map (WM_map cs ad u) hj).1 (by rw [← (at_map (WM_map cs ad u) hi).2, ← (at_map (WM_map cs ad u) hj).2]; exact e), fun k q hk => Or.inl ⟨k, at_map (WM_map cs ad u) hk⟩⟩
def EX (D : va_G) (cs : Nat → ClassId) (U : State) : Prop := va_K D vwCl (tysX cs) U ∧ va_Nw (.methodLinkNest RX0 82 yX6_root RX6) U ∧ va_Nw (.methodLinkNest RX3 34 yX6_size RX6) U
theorem EX_warm {D : va_G} {cs : Nat → ClassId} {s U : State} (hW : s.WarmedH U.vm) (h : EX D cs s) : EX D cs U := ⟨va_K.moved hW.alike h.1, va_Nw.warmM hW h.2.1, va_Nw.warmM hW h.2.2⟩
theorem EX_bl {D : va_G} {cs : Nat → ClassId} : gE (EX D cs) := fun U g mk a h => ⟨va_K.moved (u := U) (U := U.calling g mk a) (Vm.Alike.refl U.vm) h.1, va_Nw.same rfl (u := U) (U := U.calling g mk a) rfl h.2.1, va_Nw.same rfl (u := U) (U := U.calling g mk a) rfl h.2.2⟩
def EM (D : va_G) (cs : Nat → ClassId) (U : State) : Prop := va_K D vwCl (tysX cs) U ∧ True
theorem EM_warm {D : va_G} {cs : Nat → ClassId} {s U : State} (hW : s.WarmedH U.vm) (h : EM D cs s) : EM D cs U := ⟨va_K.moved hW.alike h.1, trivial⟩
theorem EM_bl {D : va_G} {cs : Nat → ClassId} : gE (EM D cs) := fun U g mk a h => ⟨va_K.moved (u := U) (U := U.calling g mk a) (Vm.Alike.refl U.vm) h.1, trivial⟩
/-! small numbers -/
def inN (n : Nat) (x : Int32) : Prop := ∃ j, j < n ∧ x = nI j
def inW (n : Nat) (x : Int32) : Prop := ∃ j, 1 ≤ j ∧ j ≤ n ∧ x = nI j
abbrev inR (v lo hi : UInt64) : Prop := dge v lo ∧ dle v hi
theorem inN_of {n : Nat} {x : Int32} (hn : n < 2 ^ 31) (h0 : ¬ x < 0) (h1 : ¬ nI n ≤ x) : inN n x := by
  obtain ⟨j, hj, rfl⟩ := nI_of h0
  exact ⟨j, Nat.lt_of_not_le (fun q => h1 ((nI_leI hn hj).mpr q)), rfl⟩
theorem inN_neg {n : Nat} {x : Int32} (hn : n < 2 ^ 31) (h : x < 0) : ¬ inN n x := by
  rintro ⟨j, hj, rfl⟩
  exact nI_pos (by omega) h
theorem inN_ge {n : Nat} {x : Int32} (hn : n < 2 ^ 31) (h : nI n ≤ x) : ¬ inN n x := by
  rintro ⟨j, hj, rfl⟩
  have := (nI_leI hn (by omega)).mp h
  omega
theorem inW_of {n : Nat} {x : Int32} (hn : n < 2 ^ 31) (h0 : ¬ x < nI 1) (h1 : ¬ nI n < x) : inW n x := by
  have h0' : ¬ x < 0 := fun q => h0 (by
    rw [Int32.lt_iff_toInt_lt] at q ⊢
    have e1 : (nI 1).toInt = 1 := nI_toInt (by decide)
    have e0 : (0 : Int32).toInt = 0 := rfl
    omega)
  obtain ⟨j, hj, rfl⟩ := nI_of h0'
  exact ⟨j, Nat.le_of_not_lt (fun q => h0 ((nI_ltI hj (by decide)).mpr q)), Nat.le_of_not_lt (fun q => h1 ((nI_ltI hn hj).mpr q)), rfl⟩
theorem inW_lo {n : Nat} {x : Int32} (hn : n < 2 ^ 31) (h : x < nI 1) : ¬ inW n x := by
  rintro ⟨j, h1, h2, rfl⟩
  have := (nI_ltI (by omega) (by decide)).mp h
  omega
theorem inW_hi {n : Nat} {x : Int32} (hn : n < 2 ^ 31) (h : nI n < x) : ¬ inW n x := by
  rintro ⟨j, h1, h2, rfl⟩
  have := (nI_ltI hn (by omega)).mp h
  omega
end
section
set_option maxHeartbeats 4000000 in
set_option maxRecDepth 100000 in
theorem kX6_within (l : Launch) (D : va_G) (sz : Nat) (v lo hi : UInt64) : Met l yX6_within wsX6_within ({ frames := 0, cells := 0, slots := 0, locals := 0 } : Room) (gP D (w0) (eT) () sz ([.double (v), .double (lo), .double (hi)] : List Value)) (va_Qi (fun r _ => (r = nI 1 ∧ inR v lo hi) ∨ (r = nI 0 ∧ ¬ (inR v lo hi))) (gB D (w0)) (gA (gF) sz)) 0 0 (gA (gF) sz) := by
  refine gMz (cc := cX6_within) (maxL := 6) (plainFor_of_name (by decide)) rfl (Nat.le_of_ble_eq_true rfl) ?_
  intro p e s m below meth c Q hx hb hts hown hml hsz hE hret H locs hP hS ls hl
  subst hsz
  have hown : s.vm.findClass RX6 = some m.cls := hown
  have hl : lv_has ls 6 [(0, .double (v)), (2, .double (lo)), (4, .double (hi))] := hl
  refine lv_dload_n hx hb dX6_within_0 rfl (lv_at hl 0 rfl) ?_
  refine lv_dload_n hx hb dX6_within_1 rfl (lv_at hl 1 rfl) ?_
  refine xc_lge (tgt := 17) hx hb dX6_within_2 dX6_within_3 (by decide) (fun c_2_1 => ?_) (fun c_2_1 => ?_)
  · skip
    refine lv_iconst (v := nI 0) hx hb dX6_within_17 (by decide) ?_
    exact hret hS hP dX6_within_18 (Or.inl rfl) (Or.inr ⟨rfl, fun q => c_2_1 q.1⟩)
  · skip
    refine lv_dload_n hx hb dX6_within_6 rfl (lv_at hl 0 rfl) ?_
    refine lv_dload hx hb dX6_within_7 (lv_at hl 2 rfl) ?_
    refine xc_gle (tgt := 17) hx hb dX6_within_9 dX6_within_10 (by decide) (fun c_9_2 => ?_) (fun c_9_2 => ?_)
    · skip
      refine lv_iconst (v := nI 0) hx hb dX6_within_17 (by decide) ?_
      exact hret hS hP dX6_within_18 (Or.inl rfl) (Or.inr ⟨rfl, fun q => c_9_2 q.2⟩)
    · skip
      refine lv_iconst (v := nI 1) hx hb dX6_within_13 (by decide) ?_
      refine lv_goto (tgt := 18) hx hb dX6_within_14 (by decide) ?_
      exact hret hS hP dX6_within_18 (Or.inr rfl) (Or.inl ⟨rfl, c_2_1, c_9_2⟩)
set_option maxHeartbeats 4000000 in
set_option maxRecDepth 100000 in
theorem kX7_isIn (l : Launch) (D : va_G) (sz : Nat) (v lo hi : UInt64) : Met l yX7_isIn wsX7_isIn ({ frames := 0, cells := 0, slots := 0, locals := 0 } : Room) (gP D (w0) (eT) () sz ([.double (v), .double (lo), .double (hi)] : List Value)) (va_Qi (fun r _ => (r = nI 1 ∧ inR v lo hi) ∨ (r = nI 0 ∧ ¬ (inR v lo hi))) (gB D (w0)) (gA (gF) sz)) 0 0 (gA (gF) sz) := by
  refine gMz (cc := cX7_isIn) (maxL := 6) (plainFor_of_name (by decide)) rfl (Nat.le_of_ble_eq_true rfl) ?_
  intro p e s m below meth c Q hx hb hts hown hml hsz hE hret H locs hP hS ls hl
  subst hsz
  have hown : s.vm.findClass RX7 = some m.cls := hown
  have hl : lv_has ls 6 [(0, .double (v)), (2, .double (lo)), (4, .double (hi))] := hl
  refine lv_dload_n hx hb dX7_isIn_0 rfl (lv_at hl 0 rfl) ?_
  refine lv_dload_n hx hb dX7_isIn_1 rfl (lv_at hl 1 rfl) ?_
  refine xc_lge (tgt := 17) hx hb dX7_isIn_2 dX7_isIn_3 (by decide) (fun c_2_1 => ?_) (fun c_2_1 => ?_)
  · skip
    refine lv_iconst (v := nI 0) hx hb dX7_isIn_17 (by decide) ?_
    exact hret hS hP dX7_isIn_18 (Or.inl rfl) (Or.inr ⟨rfl, fun q => c_2_1 q.1⟩)
  · skip
    refine lv_dload_n hx hb dX7_isIn_6 rfl (lv_at hl 0 rfl) ?_
    refine lv_dload hx hb dX7_isIn_7 (lv_at hl 2 rfl) ?_
    refine xc_gle (tgt := 17) hx hb dX7_isIn_9 dX7_isIn_10 (by decide) (fun c_9_2 => ?_) (fun c_9_2 => ?_)
    · skip
      refine lv_iconst (v := nI 0) hx hb dX7_isIn_17 (by decide) ?_
      exact hret hS hP dX7_isIn_18 (Or.inl rfl) (Or.inr ⟨rfl, fun q => c_9_2 q.2⟩)
    · skip
      refine lv_iconst (v := nI 1) hx hb dX7_isIn_13 (by decide) ?_
      refine lv_goto (tgt := 18) hx hb dX7_isIn_14 (by decide) ?_
      exact hret hS hP dX7_isIn_18 (Or.inr rfl) (Or.inl ⟨rfl, c_2_1, c_9_2⟩)
set_option maxHeartbeats 4000000 in
set_option maxRecDepth 100000 in
theorem kX6_isPlace (l : Launch) (D : va_G) (sz : Nat) (v : UInt64) : Met l yX6_isPlace wsX6_isPlace ({ frames := 1, cells := 0, slots := 0, locals := 25 } : Room) (gP D (w0) (eT) () sz ([.double (v)] : List Value)) (va_Qi (fun r _ => (r = nI 1 ∧ inR v 13875379345695965184 4652007308841189376) ∨ (r = nI 0 ∧ ¬ (inR v 13875379345695965184 4652007308841189376))) (gB D (w0)) (gA (gF) sz)) 0 0 (gA (gF) sz) := by
  refine gMz (cc := cX6_isPlace) (maxL := 2) (plainFor_of_name (by decide)) rfl (Nat.le_of_ble_eq_true rfl) ?_
  intro p e s m below meth c Q hx hb hts hown hml hsz hE hret H locs hP hS ls hl
  subst hsz
  have hown : s.vm.findClass RX6 = some m.cls := hown
  have hl : lv_has ls 2 [(0, .double (v))] := hl
  have c_72 := hts (.constantDouble RX6 72 4652007308841189376) (by decide +kernel)
  have c_204 := hts (.constantDouble RX6 204 13875379345695965184) (by decide +kernel)
  refine lv_dload_n hx hb dX6_isPlace_0 rfl (lv_at hl 0 rfl) ?_
  refine lv_ldc2d hx hb hown c_204 dX6_isPlace_1 ?_
  refine lv_ldc2d hx hb hown c_72 dX6_isPlace_4 ?_
  refine g0i (va_runS (As := [.double (v), .double (13875379345695965184), .double (4652007308841189376)]) (rest := []) ⟨hx, hb, hml, hown, hts⟩ (kX6_within l D H.size v 13875379345695965184 4652007308841189376) (va_cwS 3 hts gX6_isPlace_X6_within rfl rfl rfl (by decide +kernel) ⟨Nat.le_of_ble_eq_true rfl, Nat.le_of_ble_eq_true rfl⟩) (gPreS (eT_bl) w0_P (fun _ _ _ => trivial)) rfl rfl hl.1 rfl (lv_room (Nat.le_of_ble_eq_true rfl)) dX6_isPlace_7 ⟨Nat.zero_le _, Nat.zero_le _⟩) hP hS (fun r_ H locs hw hP hS => ?_)
  rcases hw with ⟨rfl, b_1⟩ | ⟨rfl, b_1⟩
  · skip
    have b_1 : inR (v) (13875379345695965184) (4652007308841189376) := b_1
    exact hret hS hP dX6_isPlace_10 (Or.inr rfl) (Or.inl ⟨rfl, b_1⟩)
  · skip
    have b_1 : ¬ (inR (v) (13875379345695965184) (4652007308841189376)) := b_1
    exact hret hS hP dX6_isPlace_10 (Or.inl rfl) (Or.inr ⟨rfl, b_1⟩)
set_option maxHeartbeats 4000000 in
set_option maxRecDepth 100000 in
theorem kX6_isAxis (l : Launch) (D : va_G) (sz : Nat) (x : Int32) : Met l yX6_isAxis wsX6_isAxis ({ frames := 0, cells := 0, slots := 0, locals := 0 } : Room) (gP D (w0) (eT) () sz ([.int (x)] : List Value)) (va_Qi (fun r _ => (r = nI 1 ∧ inN 3 x) ∨ (r = nI 0 ∧ ¬ (inN 3 x))) (gB D (w0)) (gA (gF) sz)) 0 0 (gA (gF) sz) := by
  refine gMz (cc := cX6_isAxis) (maxL := 1) (plainFor_of_name (by decide)) rfl (Nat.le_of_ble_eq_true rfl) ?_
  intro p e s m below meth c Q hx hb hts hown hml hsz hE hret H locs hP hS ls hl
  subst hsz
  have hown : s.vm.findClass RX6 = some m.cls := hown
  have hl : lv_has ls 1 [(0, .int (x))] := hl
  refine lv_iload_n hx hb dX6_isAxis_0 rfl (lv_at hl 0 rfl) ?_
  refine lv_if_lt (tgt := 13) hx hb dX6_isAxis_1 (by decide) (fun c_1_1 => ?_) (fun c_1_1 => ?_)
  · skip
    refine lv_iconst (v := nI 0) hx hb dX6_isAxis_13 (by decide) ?_
    exact hret hS hP dX6_isAxis_14 (Or.inl rfl) (Or.inr ⟨rfl, inN_neg (by decide) c_1_1⟩)
  · skip
    refine lv_iload_n hx hb dX6_isAxis_4 rfl (lv_at hl 0 rfl) ?_
    refine lv_iconst (v := nI 3) hx hb dX6_isAxis_5 (by decide) ?_
    refine lv_icmp_ge (tgt := 13) hx hb dX6_isAxis_6 (by decide) (fun c_6_2 => ?_) (fun c_6_2 => ?_)
    · skip
      refine lv_iconst (v := nI 0) hx hb dX6_isAxis_13 (by decide) ?_
      exact hret hS hP dX6_isAxis_14 (Or.inl rfl) (Or.inr ⟨rfl, inN_ge (by decide) c_6_2⟩)
    · skip
      refine lv_iconst (v := nI 1) hx hb dX6_isAxis_9 (by decide) ?_
      refine lv_goto (tgt := 14) hx hb dX6_isAxis_10 (by decide) ?_
      exact hret hS hP dX6_isAxis_14 (Or.inr rfl) (Or.inl ⟨rfl, inN_of (by decide) c_1_1 c_6_2⟩)
set_option maxHeartbeats 4000000 in
set_option maxRecDepth 100000 in
theorem kX6_isPanelWidth (l : Launch) (D : va_G) (sz : Nat) (x : Int32) : Met l yX6_isPanelWidth wsX6_isPanelWidth ({ frames := 0, cells := 0, slots := 0, locals := 0 } : Room) (gP D (w0) (eT) () sz ([.int (x)] : List Value)) (va_Qi (fun r _ => (r = nI 1 ∧ inW 400 x) ∨ (r = nI 0 ∧ ¬ (inW 400 x))) (gB D (w0)) (gA (gF) sz)) 0 0 (gA (gF) sz) := by
  refine gMz (cc := cX6_isPanelWidth) (maxL := 1) (plainFor_of_name (by decide)) rfl (Nat.le_of_ble_eq_true rfl) ?_
  intro p e s m below meth c Q hx hb hts hown hml hsz hE hret H locs hP hS ls hl
  subst hsz
  have hown : s.vm.findClass RX6 = some m.cls := hown
  have hl : lv_has ls 1 [(0, .int (x))] := hl
  refine lv_iload_n hx hb dX6_isPanelWidth_0 rfl (lv_at hl 0 rfl) ?_
  refine lv_iconst (v := nI 1) hx hb dX6_isPanelWidth_1 (by decide) ?_
  refine lv_icmp_lt (tgt := 16) hx hb dX6_isPanelWidth_2 (by decide) (fun c_2_1 => ?_) (fun c_2_1 => ?_)
  · skip
    refine lv_iconst (v := nI 0) hx hb dX6_isPanelWidth_16 (by decide) ?_
    exact hret hS hP dX6_isPanelWidth_17 (Or.inl rfl) (Or.inr ⟨rfl, inW_lo (by decide) c_2_1⟩)
  · skip
    refine lv_iload_n hx hb dX6_isPanelWidth_5 rfl (lv_at hl 0 rfl) ?_
    refine lv_sipush (v := nI 400) hx hb dX6_isPanelWidth_6 (by decide) ?_
    refine lv_icmp_gt (tgt := 16) hx hb dX6_isPanelWidth_9 (by decide) (fun c_9_2 => ?_) (fun c_9_2 => ?_)
    · skip
      refine lv_iconst (v := nI 0) hx hb dX6_isPanelWidth_16 (by decide) ?_
      exact hret hS hP dX6_isPanelWidth_17 (Or.inl rfl) (Or.inr ⟨rfl, inW_hi (by decide) c_9_2⟩)
    · skip
      refine lv_iconst (v := nI 1) hx hb dX6_isPanelWidth_12 (by decide) ?_
      refine lv_goto (tgt := 17) hx hb dX6_isPanelWidth_13 (by decide) ?_
      exact hret hS hP dX6_isPanelWidth_17 (Or.inr rfl) (Or.inl ⟨rfl, inW_of (by decide) c_2_1 c_9_2⟩)
end
section
/-! ROOT, the size, a step, floorMod, Math.max and Math.min of doubles -/
theorem root_early {v : UInt64} {K : Nat} (hv : fB K v) (h0 : 1024 ≤ K) (hK : K ≤ 1900) (pv : fP v) (hg : dgt v FP.dconst0) {i : Nat} (hi : i < 30) (h : deq (rI v (i + 1)) (rI v i)) : rI v i = rootF v := by
  have e := deq_bits (rI_ok hv h0 hK pv (i + 1) (by omega)).1 (rI_ok hv h0 hK pv i (by omega)).1 h
  have e2 := rI_stop e (30 - i)
  rw [show i + (30 - i) = 30 by omega] at e2
  unfold rootF
  rw [if_pos hg, e2]
theorem root_end {v : UInt64} (hg : dgt v FP.dconst0) {i : Nat} (h1 : 30 ≤ i) (h2 : i ≤ 30) : rI v i = rootF v := by
  unfold rootF
  rw [if_pos hg, show i = 30 by omega]
def sizeF (v : UInt64) : UInt64 := if dlt v FP.dconst0 then FP.dneg v else v
theorem sub0 {v : UInt64} {K : Nat} (hv : fB K v) (hK : K ≤ 2047) (h : dlt v FP.dconst0) : FP.dsub FP.dconst0 v = FP.dneg v := by
  have hn := fB_nn hv hK
  have hnn : FP.dIsNaN v = false := (FP.Core.notNaN_iff v).mpr hn
  rw [FP.dneg_core hnn, show FP.dsub FP.dconst0 v = FP.Core.dsub FP.Core.dconst0 v from rfl, FP.Core.dsub_eq, FP.Core.dadd_comm]
  refine FP.Core.dadd_zero (by rw [FP.Core.val64_dneg]; exact FP.Core.negate_ne_nan hn) ?_
  intro e
  have z1 := zneg v
  rw [e] at z1
  have z0 : zv FP.Core.dzeroNeg = 0 := by decide +kernel
  have z2 := (FP.Core.dcmp_lt.mp h).2.2
  have z3 : zv FP.dconst0 = 0 := by decide +kernel
  have z4 : zv v < zv FP.dconst0 := z2
  omega
def stepF (f : UInt64) : UInt64 := if dgt (FP.dmul 4557750909289998844 f) 4598175219545276416 then 4598175219545276416 else if dlt (FP.dmul 4557750909289998844 f) 13821547256400052224 then 13821547256400052224 else FP.dmul 4557750909289998844 f
theorem neg_quarter : FP.dneg 4598175219545276416 = 13821547256400052224 := by decide +kernel
def fmodF (x y : Int32) : Int32 := if 0 ≤ x ^^^ y then x - x / y * y else if x - x / y * y = 0 then x - x / y * y else (x - x / y * y) + y
theorem fmod20 : ∀ n, n < 20 → ∀ b, b < 20 → fmodF ((nI n - nI 1) - nI b) (nI 20) = nI ((n + 19 - b) % 20) := by decide +kernel
def maxF (a b : UInt64) : UInt64 := if dge a b then a else b
def minF (a b : UInt64) : UInt64 := if dle a b then a else b
theorem deq_eq {a b : UInt64} (ha : a ≠ 9223372036854775808) (hb : b ≠ 9223372036854775808) (h : deq a b) : a = b := by
  obtain ⟨h1, h2, h3⟩ := FP.Core.dcmp_eq.mp h
  have k1 := (zle_key h1 h2).mp (by unfold zv; omega)
  have k2 := (zle_key h2 h1).mp (by unfold zv; omega)
  have a1 : a.toNat ≠ 9223372036854775808 := fun q => ha (UInt64.toNat.inj (q.trans (by decide)))
  have b1 : b.toNat ≠ 9223372036854775808 := fun q => hb (UInt64.toNat.inj (q.trans (by decide)))
  have a2 := a.toNat_lt
  have b2 := b.toNat_lt
  unfold FP.Core.dkey at k1 k2
  refine UInt64.toNat.inj ?_
  by_cases ca : 2 ^ 63 ≤ a.toNat <;> by_cases cb : 2 ^ 63 ≤ b.toNat
  · rw [if_pos ca, if_pos cb] at k1 k2; omega
  · rw [if_pos ca, if_neg cb] at k1; rw [if_neg cb, if_pos ca] at k2; omega
  · rw [if_neg ca, if_pos cb] at k1; rw [if_pos cb, if_neg ca] at k2; omega
  · rw [if_neg ca, if_neg cb] at k1 k2; omega
theorem dcmp_3 {a b : UInt64} (na : nn a) (nb : nn b) : FP.dcmp a b = some .lt ∨ FP.dcmp a b = some .eq ∨ FP.dcmp a b = some .gt := by
  rcases hq : FP.dcmp a b with _ | (_ | _ | _)
  · exact absurd ((FP.Core.dcmp_none a b).mp hq) (fun q => q.elim na nb)
  · exact Or.inl rfl
  · exact Or.inr (Or.inl rfl)
  · exact Or.inr (Or.inr rfl)
theorem pick_max {a b : UInt64} (ha : a ≠ 9223372036854775808) (hb : b ≠ 9223372036854775808) (na : nn a) (nb : nn b) : Native.java_lang_Math.nans.pick64 true a b = maxF a b := by
  rcases dcmp_3 na nb with q | q | q
  · simp [Native.java_lang_Math.nans.pick64, maxF, dge, q]
  · have e := deq_eq ha hb q
    subst e
    simp [Native.java_lang_Math.nans.pick64, maxF, dge, q]
  · simp [Native.java_lang_Math.nans.pick64, maxF, dge, q]
theorem pick_min {a b : UInt64} (ha : a ≠ 9223372036854775808) (hb : b ≠ 9223372036854775808) (na : nn a) (nb : nn b) : Native.java_lang_Math.nans.pick64 false a b = minF a b := by
  rcases dcmp_3 na nb with q | q | q
  · simp [Native.java_lang_Math.nans.pick64, minF, dle, q]
  · have e := deq_eq ha hb q
    subst e
    simp [Native.java_lang_Math.nans.pick64, minF, dle, q]
  · simp [Native.java_lang_Math.nans.pick64, minF, dle, q]
section MXD
variable {p : Program} {l : Launch} {e : Env} {R : Room} {s : State} {m : MethodId} {args : Array Value} {below : List Frame} {meth : Method} {c : Code} {H : Heap} {locs : List Loc} {cells slots : Nat} {Q : State → Prop}
variable {cc : ByteArray} {pc : Nat} {ls : Array Slot} {rest : List Value}
theorem xdmax (hexec : p.tables.exec = Jvm.exec) (hb : c.code = cc) (hml : c.maxLocals = ls.size) {own : String} {index : Nat} (hown : s.vm.findClass own = some m.cls) (hlink : (Cond.methodLink own index yJ9_max_eb370).before args s = true) (hstat : (Cond.static yJ9_max_eb370).before args s = true) (hini : (Cond.initialized RJ9).before args s = true) (hcode : (Cond.code yJ9_max_eb370 cJ9_max_eb370 4 (some .double)).before args s = true)
    (hfr : 1 ≤ R.frames) (hlo : 8 + 15 ≤ R.locals) (hW : (rest.map fun v => v.category).sum ≤ 8) (hc : cells ≤ R.cells) (hs : slots ≤ R.slots) {x y : UInt64} (nx : nn x) (ny : nn y) (zx : x ≠ 9223372036854775808) (zy : y ≠ 9223372036854775808) (hdg : decode cc pc = .ok (.invokestatic index, 3))
    (kk : W p l e R s m args below meth c H locs cells slots Q (F0 m (pc + 3) ls (.double (maxF x y) :: rest))) : W p l e R s m args below meth c H locs cells slots Q (F0 m pc ls (.double y :: .double x :: rest)) := by
  intro T hT X
  have qx : Jvm.Free.Fl.NoNaN64 x := Jvm.Free.Fl.noNaN64_no.mpr ((FP.Core.notNaN_iff x).mpr nx)
  have qy : Jvm.Free.Fl.NoNaN64 y := Jvm.Free.Fl.noNaN64_no.mpr ((FP.Core.notNaN_iff y).mpr ny)
  obtain ⟨v, vm₁, B, hW1, X', ⟨hv, hB⟩, st⟩ := callS X hexec hown hlink hstat hini hcode ⟨by decide, by decide⟩ (Jvm.Free.Fl.Abs.maxD_pays (len := 3) (W := 8) x y hcode hfr hlo) (g := F0 m pc ls (.double y :: .double x :: rest)) rfl (by rw [hml]) (argsL := [.double x, .double y]) (rest := rest)
    (fun sig h => by
      have h2 : (parseMethodDescriptor yJ9_max_eb370.desc).map (fun d => d.parameters.length) = some 2 := by decide +kernel
      rw [h] at h2
      exact (Option.some.inj h2).symm) rfl (by show 2 * 0 + _ ≤ 8; omega) (by rw [hb]; exact hdg) (fun vm₁ _ => ⟨hc, hs, rfl, qx, qy⟩)
  subst hv
  subst hB
  rw [pick_max zx zy nx ny] at st
  obtain ⟨t, a1, b1⟩ := kk (T.setVm vm₁) hT X'
  exact ⟨t, st t a1, b1⟩
theorem xdmin (hexec : p.tables.exec = Jvm.exec) (hb : c.code = cc) (hml : c.maxLocals = ls.size) {own : String} {index : Nat} (hown : s.vm.findClass own = some m.cls) (hlink : (Cond.methodLink own index yJ9_min_eb370).before args s = true) (hstat : (Cond.static yJ9_min_eb370).before args s = true) (hini : (Cond.initialized RJ9).before args s = true) (hcode : (Cond.code yJ9_min_eb370 cJ9_min_eb370 4 (some .double)).before args s = true)
    (hfr : 1 ≤ R.frames) (hlo : 8 + 15 ≤ R.locals) (hW : (rest.map fun v => v.category).sum ≤ 8) (hc : cells ≤ R.cells) (hs : slots ≤ R.slots) {x y : UInt64} (nx : nn x) (ny : nn y) (zx : x ≠ 9223372036854775808) (zy : y ≠ 9223372036854775808) (hdg : decode cc pc = .ok (.invokestatic index, 3))
    (kk : W p l e R s m args below meth c H locs cells slots Q (F0 m (pc + 3) ls (.double (minF x y) :: rest))) : W p l e R s m args below meth c H locs cells slots Q (F0 m pc ls (.double y :: .double x :: rest)) := by
  intro T hT X
  have qx : Jvm.Free.Fl.NoNaN64 x := Jvm.Free.Fl.noNaN64_no.mpr ((FP.Core.notNaN_iff x).mpr nx)
  have qy : Jvm.Free.Fl.NoNaN64 y := Jvm.Free.Fl.noNaN64_no.mpr ((FP.Core.notNaN_iff y).mpr ny)
  obtain ⟨v, vm₁, B, hW1, X', ⟨hv, hB⟩, st⟩ := callS X hexec hown hlink hstat hini hcode ⟨by decide, by decide⟩ (Jvm.Free.Fl.Abs.minD_pays (len := 3) (W := 8) x y hcode hfr hlo) (g := F0 m pc ls (.double y :: .double x :: rest)) rfl (by rw [hml]) (argsL := [.double x, .double y]) (rest := rest)
    (fun sig h => by
      have h2 : (parseMethodDescriptor yJ9_min_eb370.desc).map (fun d => d.parameters.length) = some 2 := by decide +kernel
      rw [h] at h2
      exact (Option.some.inj h2).symm) rfl (by show 2 * 0 + _ ≤ 8; omega) (by rw [hb]; exact hdg) (fun vm₁ _ => ⟨hc, hs, rfl, qx, qy⟩)
  subst hv
  subst hB
  rw [pick_min zx zy nx ny] at st
  obtain ⟨t, a1, b1⟩ := kk (T.setVm vm₁) hT X'
  exact ⟨t, st t a1, b1⟩
end MXD
set_option maxHeartbeats 4000000 in
set_option maxRecDepth 100000 in
theorem kX6_root (l : Launch) (D : va_G) (sz : Nat) (v : UInt64) (K : Nat) (hv : fB K v) (h0 : 1024 ≤ K) (hK : K ≤ 1900) (pv : fP v) : Met l yX6_root wsX6_root ({ frames := 0, cells := 0, slots := 0, locals := 0 } : Room) (gP D (w0) (eT) () sz ([.double (v)] : List Value)) (va_Qd (fun r _ => r = rootF v) (gB D (w0)) (gA (gF) sz)) 0 0 (gA (gF) sz) := by
  refine gMd (cc := cX6_root) (maxL := 7) (plainFor_of_name (by decide)) rfl (Nat.le_of_ble_eq_true rfl) ?_
  intro p e s m below meth c Q hx hb hts hown hml hsz hE hret H locs hP hS ls hl
  subst hsz
  have hown : s.vm.findClass RX6 = some m.cls := hown
  have hl : lv_has ls 7 [(0, .double (v))] := hl
  have c_208 := hts (.constantDouble RX6 208 4602678819172646912) (by decide +kernel)
  refine lv_dload_n hx hb dX6_root_0 rfl (lv_at hl 0 rfl) ?_
  refine lv_dconst0 hx hb dX6_root_1 ?_
  refine xc_lgp (tgt := 8) hx hb dX6_root_2 dX6_root_3 (by decide) (fun c_2_1 => ?_) (fun c_2_1 => ?_)
  · skip
    refine lv_ldc2d hx hb hown c_208 dX6_root_8 ?_
    refine lv_dload_n hx hb dX6_root_11 rfl (lv_at hl 0 rfl) ?_
    refine lv_dconst1 hx hb dX6_root_12 ?_
    refine lv_dadd hx hb dX6_root_13 (fB_ne (rI_0 hv h0 hK pv).1 (by omega)) ?_
    refine lv_dmul hx hb dX6_root_14 (fB_ne (rI_0 hv h0 hK pv).2.2.2 (by omega)) ?_
    refine lv_dstore_n (lv' := [(2, .double (FP.dmul (4602678819172646912) (FP.dadd (v) (FP.dconst1)))), (0, .double (v))]) hx hb dX6_root_15 rfl hl (by decide) rfl (fun ls hl => ?_)
    refine lv_iconst (v := nI 0) hx hb dX6_root_16 (by decide) ?_
    refine lv_istore (lv' := [(4, .int (nI 0)), (2, .double (FP.dmul (4602678819172646912) (FP.dadd (v) (FP.dconst1)))), (0, .double (v))]) hx hb dX6_root_17 hl (by decide) rfl (fun ls hl => ?_)
    have L_19_6 : ∀ (n_19 i : Nat) , (30 + 1 ≤ i + n_19) → (i ≤ 30) → ∀ (H : Heap) (locs : List Loc), va_P D vwCl (w0 ()) H → va_S (gA (gF) s.heap.size) s.heap H locs → ∀ (ls : Array Slot), lv_has ls 7 [(4, .int (nI i)), (2, .double (rI v i)), (0, .double (v))] → W p l e ({ frames := 0, cells := 0, slots := 0, locals := 0 } : Room) s m ([.double (v)] : List Value).toArray below meth c H locs 0 0 Q (F0 m 19 ls []) := by
      intro n_19; induction n_19 with
      | zero => intro i hf_19 hi H locs hP hS ls hl; exact absurd hf_19 (by omega)
      | succ n_19 ih_19 =>
        intro i hf_19 hi H locs hP hS ls hl
        refine lv_iload hx hb dX6_root_19 (lv_at hl 0 rfl) ?_
        refine lv_bipush (v := nI 30) hx hb dX6_root_21 (by decide) ?_
        refine lv_icmp_ge (tgt := 55) hx hb dX6_root_23 (by decide) (fun c_23_7 => ?_) (fun c_23_7 => ?_)
        · skip
          have c_23_7 : 30 ≤ i := (nI_leI (a := 30) (b := i) (by omega) (by omega)).mp c_23_7
          refine lv_dload_n hx hb dX6_root_55 rfl (lv_at hl 1 rfl) ?_
          exact hret hS hP dX6_root_56 (root_end c_2_1 (by omega) (by omega))
        · skip
          have c_23_7 : ¬ (30 ≤ i) := fun q => c_23_7 ((nI_leI (a := 30) (b := i) (by omega) (by omega)).mpr q)
          refine lv_ldc2d hx hb hown c_208 dX6_root_26 ?_
          refine lv_dload_n hx hb dX6_root_29 rfl (lv_at hl 1 rfl) ?_
          refine lv_dload_n hx hb dX6_root_30 rfl (lv_at hl 2 rfl) ?_
          refine lv_dload_n hx hb dX6_root_31 rfl (lv_at hl 1 rfl) ?_
          refine lv_ddiv hx hb dX6_root_32 ((rI_n hv h0 hK pv (k := i) (by omega)).1) ?_
          refine lv_dadd hx hb dX6_root_33 ((rI_n hv h0 hK pv (k := i) (by omega)).2.1) ?_
          refine lv_dmul hx hb dX6_root_34 ((rI_n hv h0 hK pv (k := i) (by omega)).2.2) ?_
          refine lv_dstore (lv' := [(5, .double (FP.dmul (4602678819172646912) (FP.dadd (rI v i) (FP.ddiv (v) (rI v i))))), (4, .int (nI i)), (2, .double (rI v i)), (0, .double (v))]) hx hb dX6_root_35 hl (by decide) rfl (fun ls hl => ?_)
          refine lv_dload hx hb dX6_root_37 (lv_at hl 0 rfl) ?_
          refine lv_dload_n hx hb dX6_root_39 rfl (lv_at hl 2 rfl) ?_
          refine xc_leq (tgt := 46) hx hb dX6_root_40 dX6_root_41 (by decide) (fun c_40_14 => ?_) (fun c_40_14 => ?_)
          · skip
            refine lv_dload hx hb dX6_root_46 (lv_at hl 0 rfl) ?_
            refine lv_dstore_n (lv' := [(2, .double (FP.dmul (4602678819172646912) (FP.dadd (rI v i) (FP.ddiv (v) (rI v i))))), (5, .double (FP.dmul (4602678819172646912) (FP.dadd (rI v i) (FP.ddiv (v) (rI v i))))), (4, .int (nI i)), (0, .double (v))]) hx hb dX6_root_48 rfl hl (by decide) rfl (fun ls hl => ?_)
            refine lv_iinc (v := nI (i + 1)) (lv' := [(4, .int (nI (i + 1))), (2, .double (FP.dmul (4602678819172646912) (FP.dadd (rI v i) (FP.ddiv (v) (rI v i))))), (5, .double (FP.dmul (4602678819172646912) (FP.dadd (rI v i) (FP.ddiv (v) (rI v i))))), (0, .double (v))]) hx hb dX6_root_49 hl (k := 2) rfl (nI_add _ _) (by decide) rfl (fun ls hl => ?_)
            refine lv_goto (tgt := 19) hx hb dX6_root_52 (by decide) ?_
            exact ih_19 (i + 1)  (by omega) (by omega) _ _ hP hS ls (lv_sub hl [0, 1, 3] rfl)
          · skip
            refine lv_dload_n hx hb dX6_root_44 rfl (lv_at hl 2 rfl) ?_
            exact hret hS hP dX6_root_45 (root_early hv h0 hK pv c_2_1 (by omega) c_40_14)
    exact L_19_6 (30 + 1) (0)  (by omega) (by omega) _ _ hP hS ls (lv_sub hl [0, 1, 2] rfl)
  · skip
    refine lv_dconst0 hx hb dX6_root_6 ?_
    exact hret hS hP dX6_root_7 ((if_neg c_2_1).symm)
set_option maxHeartbeats 4000000 in
set_option maxRecDepth 100000 in
theorem kX7_root (l : Launch) (D : va_G) (sz : Nat) (v : UInt64) (K : Nat) (hv : fB K v) (h0 : 1024 ≤ K) (hK : K ≤ 1900) (pv : fP v) : Met l yX7_root wsX7_root ({ frames := 0, cells := 0, slots := 0, locals := 0 } : Room) (gP D (w0) (eT) () sz ([.double (v)] : List Value)) (va_Qd (fun r _ => r = rootF v) (gB D (w0)) (gA (gF) sz)) 0 0 (gA (gF) sz) := by
  refine gMd (cc := cX7_root) (maxL := 5) (plainFor_of_name (by decide)) rfl (Nat.le_of_ble_eq_true rfl) ?_
  intro p e s m below meth c Q hx hb hts hown hml hsz hE hret H locs hP hS ls hl
  subst hsz
  have hown : s.vm.findClass RX7 = some m.cls := hown
  have hl : lv_has ls 5 [(0, .double (v))] := hl
  have c_87 := hts (.constantDouble RX7 87 4602678819172646912) (by decide +kernel)
  refine lv_dload_n hx hb dX7_root_0 rfl (lv_at hl 0 rfl) ?_
  refine lv_dconst0 hx hb dX7_root_1 ?_
  refine xc_lgp (tgt := 8) hx hb dX7_root_2 dX7_root_3 (by decide) (fun c_2_1 => ?_) (fun c_2_1 => ?_)
  · skip
    refine lv_ldc2d hx hb hown c_87 dX7_root_8 ?_
    refine lv_dload_n hx hb dX7_root_11 rfl (lv_at hl 0 rfl) ?_
    refine lv_dconst1 hx hb dX7_root_12 ?_
    refine lv_dadd hx hb dX7_root_13 (fB_ne (rI_0 hv h0 hK pv).1 (by omega)) ?_
    refine lv_dmul hx hb dX7_root_14 (fB_ne (rI_0 hv h0 hK pv).2.2.2 (by omega)) ?_
    refine lv_dstore_n (lv' := [(2, .double (FP.dmul (4602678819172646912) (FP.dadd (v) (FP.dconst1)))), (0, .double (v))]) hx hb dX7_root_15 rfl hl (by decide) rfl (fun ls hl => ?_)
    refine lv_iconst (v := nI 0) hx hb dX7_root_16 (by decide) ?_
    refine lv_istore (lv' := [(4, .int (nI 0)), (2, .double (FP.dmul (4602678819172646912) (FP.dadd (v) (FP.dconst1)))), (0, .double (v))]) hx hb dX7_root_17 hl (by decide) rfl (fun ls hl => ?_)
    have L_19_6 : ∀ (n_19 i : Nat) , (30 + 1 ≤ i + n_19) → (i ≤ 30) → ∀ (H : Heap) (locs : List Loc), va_P D vwCl (w0 ()) H → va_S (gA (gF) s.heap.size) s.heap H locs → ∀ (ls : Array Slot), lv_has ls 5 [(4, .int (nI i)), (2, .double (rI v i)), (0, .double (v))] → W p l e ({ frames := 0, cells := 0, slots := 0, locals := 0 } : Room) s m ([.double (v)] : List Value).toArray below meth c H locs 0 0 Q (F0 m 19 ls []) := by
      intro n_19; induction n_19 with
      | zero => intro i hf_19 hi H locs hP hS ls hl; exact absurd hf_19 (by omega)
      | succ n_19 ih_19 =>
        intro i hf_19 hi H locs hP hS ls hl
        refine lv_iload hx hb dX7_root_19 (lv_at hl 0 rfl) ?_
        refine lv_bipush (v := nI 30) hx hb dX7_root_21 (by decide) ?_
        refine lv_icmp_ge (tgt := 42) hx hb dX7_root_23 (by decide) (fun c_23_7 => ?_) (fun c_23_7 => ?_)
        · skip
          have c_23_7 : 30 ≤ i := (nI_leI (a := 30) (b := i) (by omega) (by omega)).mp c_23_7
          refine lv_dload_n hx hb dX7_root_42 rfl (lv_at hl 1 rfl) ?_
          exact hret hS hP dX7_root_43 (root_end c_2_1 (by omega) (by omega))
        · skip
          have c_23_7 : ¬ (30 ≤ i) := fun q => c_23_7 ((nI_leI (a := 30) (b := i) (by omega) (by omega)).mpr q)
          refine lv_ldc2d hx hb hown c_87 dX7_root_26 ?_
          refine lv_dload_n hx hb dX7_root_29 rfl (lv_at hl 1 rfl) ?_
          refine lv_dload_n hx hb dX7_root_30 rfl (lv_at hl 2 rfl) ?_
          refine lv_dload_n hx hb dX7_root_31 rfl (lv_at hl 1 rfl) ?_
          refine lv_ddiv hx hb dX7_root_32 ((rI_n hv h0 hK pv (k := i) (by omega)).1) ?_
          refine lv_dadd hx hb dX7_root_33 ((rI_n hv h0 hK pv (k := i) (by omega)).2.1) ?_
          refine lv_dmul hx hb dX7_root_34 ((rI_n hv h0 hK pv (k := i) (by omega)).2.2) ?_
          refine lv_dstore_n (lv' := [(2, .double (FP.dmul (4602678819172646912) (FP.dadd (rI v i) (FP.ddiv (v) (rI v i))))), (4, .int (nI i)), (0, .double (v))]) hx hb dX7_root_35 rfl hl (by decide) rfl (fun ls hl => ?_)
          refine lv_iinc (v := nI (i + 1)) (lv' := [(4, .int (nI (i + 1))), (2, .double (FP.dmul (4602678819172646912) (FP.dadd (rI v i) (FP.ddiv (v) (rI v i))))), (0, .double (v))]) hx hb dX7_root_36 hl (k := 1) rfl (nI_add _ _) (by decide) rfl (fun ls hl => ?_)
          refine lv_goto (tgt := 19) hx hb dX7_root_39 (by decide) ?_
          exact ih_19 (i + 1)  (by omega) (by omega) _ _ hP hS ls (lv_sub hl [0, 1, 2] rfl)
    exact L_19_6 (30 + 1) (0)  (by omega) (by omega) _ _ hP hS ls (lv_sub hl [0, 1, 2] rfl)
  · skip
    refine lv_dconst0 hx hb dX7_root_6 ?_
    exact hret hS hP dX7_root_7 ((if_neg c_2_1).symm)
set_option maxHeartbeats 4000000 in
set_option maxRecDepth 100000 in
theorem kX6_size (l : Launch) (D : va_G) (sz : Nat) (v : UInt64) : Met l yX6_size wsX6_size ({ frames := 0, cells := 0, slots := 0, locals := 0 } : Room) (gP D (w0) (eT) () sz ([.double (v)] : List Value)) (va_Qd (fun r _ => r = sizeF v) (gB D (w0)) (gA (gF) sz)) 0 0 (gA (gF) sz) := by
  refine gMd (cc := cX6_size) (maxL := 2) (plainFor_of_name (by decide)) rfl (Nat.le_of_ble_eq_true rfl) ?_
  intro p e s m below meth c Q hx hb hts hown hml hsz hE hret H locs hP hS ls hl
  subst hsz
  have hown : s.vm.findClass RX6 = some m.cls := hown
  have hl : lv_has ls 2 [(0, .double (v))] := hl
  refine lv_dload_n hx hb dX6_size_0 rfl (lv_at hl 0 rfl) ?_
  refine lv_dconst0 hx hb dX6_size_1 ?_
  refine xc_glt (tgt := 11) hx hb dX6_size_2 dX6_size_3 (by decide) (fun c_2_1 => ?_) (fun c_2_1 => ?_)
  · skip
    refine lv_dload_n hx hb dX6_size_11 rfl (lv_at hl 0 rfl) ?_
    exact hret hS hP dX6_size_12 ((if_neg c_2_1).symm)
  · skip
    refine lv_dload_n hx hb dX6_size_6 rfl (lv_at hl 0 rfl) ?_
    refine lv_dneg hx hb dX6_size_7 ?_
    refine lv_goto (tgt := 12) hx hb dX6_size_8 (by decide) ?_
    exact hret hS hP dX6_size_12 ((if_pos c_2_1).symm)
set_option maxHeartbeats 4000000 in
set_option maxRecDepth 100000 in
theorem kX7_size (l : Launch) (D : va_G) (sz : Nat) (v : UInt64) (K : Nat) (hv : fB K v) (hK : K ≤ 2045) : Met l yX7_size wsX7_size ({ frames := 0, cells := 0, slots := 0, locals := 0 } : Room) (gP D (w0) (eT) () sz ([.double (v)] : List Value)) (va_Qd (fun r _ => r = sizeF v) (gB D (w0)) (gA (gF) sz)) 0 0 (gA (gF) sz) := by
  refine gMd (cc := cX7_size) (maxL := 2) (plainFor_of_name (by decide)) rfl (Nat.le_of_ble_eq_true rfl) ?_
  intro p e s m below meth c Q hx hb hts hown hml hsz hE hret H locs hP hS ls hl
  subst hsz
  have hown : s.vm.findClass RX7 = some m.cls := hown
  have hl : lv_has ls 2 [(0, .double (v))] := hl
  refine lv_dload_n hx hb dX7_size_0 rfl (lv_at hl 0 rfl) ?_
  refine lv_dconst0 hx hb dX7_size_1 ?_
  refine xc_glt (tgt := 12) hx hb dX7_size_2 dX7_size_3 (by decide) (fun c_2_1 => ?_) (fun c_2_1 => ?_)
  · skip
    refine lv_dload_n hx hb dX7_size_12 rfl (lv_at hl 0 rfl) ?_
    exact hret hS hP dX7_size_13 ((if_neg c_2_1).symm)
  · skip
    refine lv_dconst0 hx hb dX7_size_6 ?_
    refine lv_dload_n hx hb dX7_size_7 rfl (lv_at hl 0 rfl) ?_
    refine lv_dsub hx hb dX7_size_8 (fB_ne (fB_sub (M := 2045) fB_c0 hv (by omega) (by omega) (by omega)) (by omega)) ?_
    refine lv_goto (tgt := 13) hx hb dX7_size_9 (by decide) ?_
    exact hret hS hP dX7_size_13 ((by unfold sizeF; rw [if_pos c_2_1]; exact sub0 hv (by omega) c_2_1))
set_option maxHeartbeats 4000000 in
set_option maxRecDepth 100000 in
theorem kX3_stepFor (l : Launch) (D : va_G) (sz : Nat) (f : UInt64) (K : Nat) (hf : fB K f) (hK : K ≤ 2040) : Met l yX3_stepFor wsX3_stepFor ({ frames := 0, cells := 0, slots := 0, locals := 0 } : Room) (gP D (w0) (eT) () sz ([.double (f)] : List Value)) (va_Qd (fun r _ => r = stepF f) (gB D (w0)) (gA (gF) sz)) 0 0 (gA (gF) sz) := by
  refine gMd (cc := cX3_stepFor) (maxL := 6) (plainFor_of_name (by decide)) rfl (Nat.le_of_ble_eq_true rfl) ?_
  intro p e s m below meth c Q hx hb hts hown hml hsz hE hret H locs hP hS ls hl
  subst hsz
  have hown : s.vm.findClass RX3 = some m.cls := hown
  have hl : lv_has ls 6 [(0, .double (f))] := hl
  have c_41 := hts (.constantDouble RX3 41 4598175219545276416) (by decide +kernel)
  have c_43 := hts (.constantDouble RX3 43 4557750909289998844) (by decide +kernel)
  refine lv_ldc2d hx hb hown c_41 dX3_stepFor_0 ?_
  refine lv_dstore_n (lv' := [(2, .double (4598175219545276416)), (0, .double (f))]) hx hb dX3_stepFor_3 rfl hl (by decide) rfl (fun ls hl => ?_)
  refine lv_ldc2d hx hb hown c_43 dX3_stepFor_4 ?_
  refine lv_dload_n hx hb dX3_stepFor_7 rfl (lv_at hl 1 rfl) ?_
  refine lv_dmul hx hb dX3_stepFor_8 (fB_ne (fB_mul (M := 2047) (fB_lit (K := 1013) (a := 4557750909289998844) (by decide +kernel)) hf (by omega) (by omega) (by omega)) (by omega)) ?_
  refine lv_dstore (lv' := [(4, .double (FP.dmul (4557750909289998844) (f))), (2, .double (4598175219545276416)), (0, .double (f))]) hx hb dX3_stepFor_9 hl (by decide) rfl (fun ls hl => ?_)
  refine lv_dload hx hb dX3_stepFor_11 (lv_at hl 0 rfl) ?_
  refine lv_dload_n hx hb dX3_stepFor_13 rfl (lv_at hl 1 rfl) ?_
  refine xc_lgt (tgt := 20) hx hb dX3_stepFor_14 dX3_stepFor_15 (by decide) (fun c_14_3 => ?_) (fun c_14_3 => ?_)
  · skip
    refine lv_dload hx hb dX3_stepFor_20 (lv_at hl 0 rfl) ?_
    refine lv_dload_n hx hb dX3_stepFor_22 rfl (lv_at hl 1 rfl) ?_
    refine lv_dneg hx hb dX3_stepFor_23 ?_
    refine xc_glt (tgt := 33) hx hb dX3_stepFor_24 dX3_stepFor_25 (by decide) (fun c_24_4 => ?_) (fun c_24_4 => ?_)
    · skip
      refine lv_dload hx hb dX3_stepFor_33 (lv_at hl 0 rfl) ?_
      exact hret hS hP dX3_stepFor_35 ((by unfold stepF; rw [if_neg c_14_3, if_neg (by rw [← neg_quarter]; exact c_24_4)]))
    · skip
      refine lv_dload_n hx hb dX3_stepFor_28 rfl (lv_at hl 1 rfl) ?_
      refine lv_dneg hx hb dX3_stepFor_29 ?_
      refine lv_goto (tgt := 35) hx hb dX3_stepFor_30 (by decide) ?_
      exact hret hS hP dX3_stepFor_35 ((by unfold stepF; rw [if_neg c_14_3, if_pos (by rw [← neg_quarter]; exact c_24_4)]; exact neg_quarter))
  · skip
    refine lv_dload_n hx hb dX3_stepFor_18 rfl (lv_at hl 1 rfl) ?_
    exact hret hS hP dX3_stepFor_19 ((if_pos c_14_3).symm)
set_option maxHeartbeats 4000000 in
set_option maxRecDepth 100000 in
theorem kX7_moved (l : Launch) (D : va_G) (sz : Nat) (f : UInt64) (K : Nat) (hf : fB K f) (hK : K ≤ 2040) : Met l yX7_moved wsX7_moved ({ frames := 0, cells := 0, slots := 0, locals := 0 } : Room) (gP D (w0) (eT) () sz ([.double (f)] : List Value)) (va_Qd (fun r _ => r = stepF f) (gB D (w0)) (gA (gF) sz)) 0 0 (gA (gF) sz) := by
  refine gMd (cc := cX7_moved) (maxL := 4) (plainFor_of_name (by decide)) rfl (Nat.le_of_ble_eq_true rfl) ?_
  intro p e s m below meth c Q hx hb hts hown hml hsz hE hret H locs hP hS ls hl
  subst hsz
  have hown : s.vm.findClass RX7 = some m.cls := hown
  have hl : lv_has ls 4 [(0, .double (f))] := hl
  have c_164 := hts (.constantDouble RX7 164 4557750909289998844) (by decide +kernel)
  have c_166 := hts (.constantDouble RX7 166 4598175219545276416) (by decide +kernel)
  have c_168 := hts (.constantDouble RX7 168 13821547256400052224) (by decide +kernel)
  refine lv_ldc2d hx hb hown c_164 dX7_moved_0 ?_
  refine lv_dload_n hx hb dX7_moved_3 rfl (lv_at hl 0 rfl) ?_
  refine lv_dmul hx hb dX7_moved_4 (fB_ne (fB_mul (M := 2047) (fB_lit (K := 1013) (a := 4557750909289998844) (by decide +kernel)) hf (by omega) (by omega) (by omega)) (by omega)) ?_
  refine lv_dstore_n (lv' := [(2, .double (FP.dmul (4557750909289998844) (f))), (0, .double (f))]) hx hb dX7_moved_5 rfl hl (by decide) rfl (fun ls hl => ?_)
  refine lv_dload_n hx hb dX7_moved_6 rfl (lv_at hl 0 rfl) ?_
  refine lv_ldc2d hx hb hown c_166 dX7_moved_7 ?_
  refine xc_lgt (tgt := 20) hx hb dX7_moved_10 dX7_moved_11 (by decide) (fun c_10_3 => ?_) (fun c_10_3 => ?_)
  · skip
    refine lv_dload_n hx hb dX7_moved_20 rfl (lv_at hl 0 rfl) ?_
    refine lv_ldc2d hx hb hown c_168 dX7_moved_21 ?_
    refine xc_glt (tgt := 34) hx hb dX7_moved_24 dX7_moved_25 (by decide) (fun c_24_4 => ?_) (fun c_24_4 => ?_)
    · skip
      refine lv_dload_n hx hb dX7_moved_34 rfl (lv_at hl 0 rfl) ?_
      exact hret hS hP dX7_moved_35 ((by unfold stepF; rw [if_neg c_10_3, if_neg c_24_4]))
    · skip
      refine lv_ldc2d hx hb hown c_168 dX7_moved_28 ?_
      refine lv_goto (tgt := 35) hx hb dX7_moved_31 (by decide) ?_
      exact hret hS hP dX7_moved_35 ((by unfold stepF; rw [if_neg c_10_3, if_pos c_24_4]))
  · skip
    refine lv_ldc2d hx hb hown c_166 dX7_moved_14 ?_
    refine lv_goto (tgt := 35) hx hb dX7_moved_17 (by decide) ?_
    exact hret hS hP dX7_moved_35 ((if_pos c_10_3).symm)
set_option maxHeartbeats 4000000 in
set_option maxRecDepth 100000 in
theorem kJ9_floorMod_7cf53 (l : Launch) (D : va_G) (sz : Nat) (x y : Int32) (hy : ¬ y = 0) : Met l yJ9_floorMod_7cf53 wsJ9_floorMod_7cf53 ({ frames := 0, cells := 0, slots := 0, locals := 0 } : Room) (gP D (w0) (eT) () sz ([.int (x), .int (y)] : List Value)) (va_Qi (fun r _ => r = fmodF x y) (gB D (w0)) (gA (gF) sz)) 0 0 (gA (gF) sz) := by
  refine gMi (cc := cJ9_floorMod_7cf53) (maxL := 3) (by decide +kernel) rfl (Nat.le_of_ble_eq_true rfl) ?_
  intro p e s m below meth c Q hx hb hts hown hml hsz hE hret H locs hP hS ls hl
  subst hsz
  have hown : s.vm.findClass RJ9 = some m.cls := hown
  have hl : lv_has ls 3 [(0, .int (x)), (1, .int (y))] := hl
  refine lv_iload_n hx hb dJ9_floorMod_7cf53_0 rfl (lv_at hl 0 rfl) ?_
  refine lv_iload_n hx hb dJ9_floorMod_7cf53_1 rfl (lv_at hl 1 rfl) ?_
  refine lv_irem hx hb dJ9_floorMod_7cf53_2 hy ?_
  refine lv_istore_n (lv' := [(2, .int (x - x / y * y)), (0, .int (x)), (1, .int (y))]) hx hb dJ9_floorMod_7cf53_3 rfl hl (by decide) rfl (fun ls hl => ?_)
  refine lv_iload_n hx hb dJ9_floorMod_7cf53_4 rfl (lv_at hl 1 rfl) ?_
  refine lv_iload_n hx hb dJ9_floorMod_7cf53_5 rfl (lv_at hl 2 rfl) ?_
  refine lv_ixor hx hb dJ9_floorMod_7cf53_6 ?_
  refine lv_if_ge (tgt := 18) hx hb dJ9_floorMod_7cf53_7 (by decide) (fun c_7_1 => ?_) (fun c_7_1 => ?_)
  · skip
    refine lv_iload_n hx hb dJ9_floorMod_7cf53_18 rfl (lv_at hl 0 rfl) ?_
    exact hret hS hP dJ9_floorMod_7cf53_19 ((if_pos c_7_1).symm)
  · skip
    refine lv_iload_n hx hb dJ9_floorMod_7cf53_10 rfl (lv_at hl 0 rfl) ?_
    refine lv_if_eq (tgt := 18) hx hb dJ9_floorMod_7cf53_11 (by decide) (fun c_11_2 => ?_) (fun c_11_2 => ?_)
    · skip
      refine lv_iload_n hx hb dJ9_floorMod_7cf53_18 rfl (lv_at hl 0 rfl) ?_
      exact hret hS hP dJ9_floorMod_7cf53_19 ((by unfold fmodF; rw [if_neg c_7_1, if_pos c_11_2]))
    · skip
      refine lv_iload_n hx hb dJ9_floorMod_7cf53_14 rfl (lv_at hl 0 rfl) ?_
      refine lv_iload_n hx hb dJ9_floorMod_7cf53_15 rfl (lv_at hl 2 rfl) ?_
      refine lv_iadd hx hb dJ9_floorMod_7cf53_16 ?_
      exact hret hS hP dJ9_floorMod_7cf53_17 ((by unfold fmodF; rw [if_neg c_7_1, if_neg c_11_2]))
end
section
/-! values in a range; the public calls' words -/
theorem dge_key {a b : UInt64} (h : dge a b) : FP.Core.dkey b ≤ FP.Core.dkey a := by
  obtain ⟨h1, h2, h3⟩ := FP.Core.dcmp_ge.mp h
  exact (zle_key h2 h1).mp h3
theorem dle_key {a b : UInt64} (h : dle a b) : FP.Core.dkey a ≤ FP.Core.dkey b := by
  obtain ⟨h1, h2, h3⟩ := FP.Core.dcmp_le.mp h
  exact (zle_key h1 h2).mp h3
theorem inR_fB {v lo hi : UInt64} {K : Nat} (h : inR v lo hi) (h1 : fB K lo) (h2 : fB K hi) : fB K v := by
  have k1 := dge_key h.1
  have k2 := dle_key h.2
  unfold FP.Core.dkey at k1 k2
  unfold fB at h1 h2 ⊢
  have a1 := v.toNat_lt
  have a2 := lo.toNat_lt
  have a3 := hi.toNat_lt
  by_cases c1 : 2 ^ 63 ≤ v.toNat <;> by_cases c2 : 2 ^ 63 ≤ lo.toNat <;> by_cases c3 : 2 ^ 63 ≤ hi.toNat <;> simp only [c1, c2, c3, if_true, if_false] at k1 k2 <;> omega
theorem inR_fL {v lo hi : UInt64} {L : Nat} (h : inR v lo hi) (h0 : lo.toNat < 2 ^ 63) (h1 : fL L lo) (hL : 1 ≤ L) : fP v ∧ fL L v := by
  have k1 := dge_key h.1
  unfold FP.Core.dkey at k1
  unfold fL at h1 ⊢
  unfold fP
  have a1 := v.toNat_lt
  rw [if_neg (by omega)] at k1
  by_cases c1 : 2 ^ 63 ≤ v.toNat
  · rw [if_pos c1] at k1
    omega
  · rw [if_neg c1] at k1
    constructor <;> omega
theorem inN_lt {n : Nat} {x : Int32} (hn : n < 2 ^ 31) (h0 : ¬ x < 0) (h1 : x < nI n) : inN n x := by
  obtain ⟨j, hj, rfl⟩ := nI_of h0
  exact ⟨j, (nI_ltI hj hn).mp h1, rfl⟩
theorem inN_nlt {n : Nat} {x : Int32} (hn : n < 2 ^ 31) (h1 : ¬ x < nI n) : ¬ inN n x := by
  rintro ⟨j, hj, rfl⟩
  exact h1 ((nI_ltI (by omega) hn).mpr hj)
theorem inN_le {n : Nat} {x : Int32} (hn : n + 1 < 2 ^ 31) (h0 : ¬ x < 0) (h1 : x ≤ nI n) : inN (n + 1) x := by
  obtain ⟨j, hj, rfl⟩ := nI_of h0
  have := (nI_leI hj (by omega)).mp h1
  exact ⟨j, by omega, rfl⟩
theorem inN_nle {n : Nat} {x : Int32} (hn : n + 1 < 2 ^ 31) (h1 : ¬ x ≤ nI n) : ¬ inN (n + 1) x := by
  rintro ⟨j, hj, rfl⟩
  exact h1 ((nI_leI (by omega) (by omega)).mpr (by omega))
theorem ax_no {x : Int32} (h0 : ¬ x = 0) (h1 : ¬ x = nI 1) (h2 : ¬ x = nI 2) : ¬ inN 3 x := by
  rintro ⟨j, hj, rfl⟩
  rcases (show j = 0 ∨ j = 1 ∨ j = 2 by omega) with rfl | rfl | rfl
  · exact h0 rfl
  · exact h1 rfl
  · exact h2 rfl
def q_node (G : GS) (x : UInt64) (y : UInt64) (z : UInt64) (r : Int32) (G2 : GS) : Prop := match G with
  | ((nN, px, py, pz, fx, fy, fz, lf, ld, fi), (nB, fr, tt, ln, wi, sg, pu), (nR, rd, rx, ry, wv, fo), (re, dg), (nP, tp, bt, dp)) => ((nN < 30 ∧ inR x 13875379345695965184 4652007308841189376 ∧ inR y 13875379345695965184 4652007308841189376 ∧ inR z 13875379345695965184 4652007308841189376) ∧ r = nI nN ∧ G2 = ((nN + 1, vf_upd px nN x, vf_upd py nN y, vf_upd pz nN z, fx, fy, fz, lf, ld, fi), (nB, fr, tt, ln, wi, sg, pu), (nR, rd, rx, ry, wv, fo), (re, dg), (nP, tp, bt, dp))) ∨ (¬ (nN < 30 ∧ inR x 13875379345695965184 4652007308841189376 ∧ inR y 13875379345695965184 4652007308841189376 ∧ inR z 13875379345695965184 4652007308841189376) ∧ r = (-1 : Int32) ∧ G2 = ((nN, px, py, pz, fx, fy, fz, lf, ld, fi), (nB, fr, tt, ln, wi, sg, pu), (nR, rd, rx, ry, wv, fo), (re, dg), (nP, tp, bt, dp)))
theorem q_node_det {G : GS} {x : UInt64} {y : UInt64} {z : UInt64} {r1 r2 : Int32} {G1 G2 : GS} (h1 : q_node G x y z r1 G1) (h2 : q_node G x y z r2 G2) : r1 = r2 ∧ G1 = G2 := by
  obtain ⟨⟨nN, px, py, pz, fx, fy, fz, lf, ld, fi⟩, ⟨nB, fr, tt, ln, wi, sg, pu⟩, ⟨nR, rd, rx, ry, wv, fo⟩, ⟨re, dg⟩, ⟨nP, tp, bt, dp⟩⟩ := G
  rcases h1 with ⟨c1, rfl, rfl⟩ | ⟨c1, rfl, rfl⟩ <;> rcases h2 with ⟨c2, rfl, rfl⟩ | ⟨c2, rfl, rfl⟩ <;> first | exact ⟨rfl, rfl⟩ | exact absurd c1 c2 | exact absurd c2 c1
def q_bar (G : GS) (a : Int32) (b : Int32) (le : UInt64) (wd : UInt64) (sr : UInt64) (r : Int32) (G2 : GS) : Prop := match G with
  | ((nN, px, py, pz, fx, fy, fz, lf, ld, fi), (nB, fr, tt, ln, wi, sg, pu), (nR, rd, rx, ry, wv, fo), (re, dg), (nP, tp, bt, dp)) => ((inN nN a ∧ inN nN b ∧ ¬ a = b ∧ nB < 60 ∧ inR le 4593671619917905920 4652007308841189376 ∧ inR wd FP.dconst0 4621819117588971520 ∧ inR sr FP.dconst0 4696837146684686336) ∧ r = nI nB ∧ G2 = ((nN, px, py, pz, fx, fy, fz, lf, ld, fi), (nB + 1, upd fr nB a, upd tt nB b, vf_upd ln nB le, vf_upd wi nB wd, vf_upd sg nB sr, vf_upd pu nB 13830554455654793216), (nR, rd, rx, ry, wv, fo), (re, dg), (nP, tp, bt, dp))) ∨ (¬ (inN nN a ∧ inN nN b ∧ ¬ a = b ∧ nB < 60 ∧ inR le 4593671619917905920 4652007308841189376 ∧ inR wd FP.dconst0 4621819117588971520 ∧ inR sr FP.dconst0 4696837146684686336) ∧ r = (-1 : Int32) ∧ G2 = ((nN, px, py, pz, fx, fy, fz, lf, ld, fi), (nB, fr, tt, ln, wi, sg, pu), (nR, rd, rx, ry, wv, fo), (re, dg), (nP, tp, bt, dp)))
theorem q_bar_det {G : GS} {a : Int32} {b : Int32} {le : UInt64} {wd : UInt64} {sr : UInt64} {r1 r2 : Int32} {G1 G2 : GS} (h1 : q_bar G a b le wd sr r1 G1) (h2 : q_bar G a b le wd sr r2 G2) : r1 = r2 ∧ G1 = G2 := by
  obtain ⟨⟨nN, px, py, pz, fx, fy, fz, lf, ld, fi⟩, ⟨nB, fr, tt, ln, wi, sg, pu⟩, ⟨nR, rd, rx, ry, wv, fo⟩, ⟨re, dg⟩, ⟨nP, tp, bt, dp⟩⟩ := G
  rcases h1 with ⟨c1, rfl, rfl⟩ | ⟨c1, rfl, rfl⟩ <;> rcases h2 with ⟨c2, rfl, rfl⟩ | ⟨c2, rfl, rfl⟩ <;> first | exact ⟨rfl, rfl⟩ | exact absurd c1 c2 | exact absurd c2 c1
def q_fix (G : GS) (k : Int32)  (r : Int32) (G2 : GS) : Prop := match G with
  | ((nN, px, py, pz, fx, fy, fz, lf, ld, fi), (nB, fr, tt, ln, wi, sg, pu), (nR, rd, rx, ry, wv, fo), (re, dg), (nP, tp, bt, dp)) => (∃ j, j < nN ∧ k = nI j ∧ (True) ∧ r = nI 1 ∧ G2 = ((nN, px, py, pz, fx, fy, fz, lf, ld, upd fi j (nI 1)), (nB, fr, tt, ln, wi, sg, pu), (nR, rd, rx, ry, wv, fo), (re, dg), (nP, tp, bt, dp))) ∨ (¬ (inN nN k ∧ (True)) ∧ r = nI 0 ∧ G2 = ((nN, px, py, pz, fx, fy, fz, lf, ld, fi), (nB, fr, tt, ln, wi, sg, pu), (nR, rd, rx, ry, wv, fo), (re, dg), (nP, tp, bt, dp)))
theorem q_fix_det {G : GS} {k : Int32}  {r1 r2 : Int32} {G1 G2 : GS} (hN : G.1.1 ≤ 30) (h1 : q_fix G k  r1 G1) (h2 : q_fix G k  r2 G2) : r1 = r2 ∧ G1 = G2 := by
  obtain ⟨⟨nN, px, py, pz, fx, fy, fz, lf, ld, fi⟩, ⟨nB, fr, tt, ln, wi, sg, pu⟩, ⟨nR, rd, rx, ry, wv, fo⟩, ⟨re, dg⟩, ⟨nP, tp, bt, dp⟩⟩ := G
  have hN : nN ≤ 30 := hN
  rcases h1 with ⟨j, hj, rfl, c1, rfl, rfl⟩ | ⟨c1, rfl, rfl⟩ <;> rcases h2 with ⟨i, hi, e, c2, rfl, rfl⟩ | ⟨c2, rfl, rfl⟩
  · have e := (nI_eq (by omega) (by omega)).mp e
    subst e
    exact ⟨rfl, rfl⟩
  · exact absurd ⟨⟨j, hj, rfl⟩, c1⟩ c2
  · exact absurd ⟨⟨i, hi, e⟩, c2⟩ c1
  · exact ⟨rfl, rfl⟩
def q_floats (G : GS) (k : Int32) (v : UInt64) (r : Int32) (G2 : GS) : Prop := match G with
  | ((nN, px, py, pz, fx, fy, fz, lf, ld, fi), (nB, fr, tt, ln, wi, sg, pu), (nR, rd, rx, ry, wv, fo), (re, dg), (nP, tp, bt, dp)) => (∃ j, j < nN ∧ k = nI j ∧ (inR v 13904980397738950656 4681608360884174848) ∧ r = nI 1 ∧ G2 = ((nN, px, py, pz, fx, fy, fz, vf_upd lf j v, ld, fi), (nB, fr, tt, ln, wi, sg, pu), (nR, rd, rx, ry, wv, fo), (re, dg), (nP, tp, bt, dp))) ∨ (¬ (inN nN k ∧ (inR v 13904980397738950656 4681608360884174848)) ∧ r = nI 0 ∧ G2 = ((nN, px, py, pz, fx, fy, fz, lf, ld, fi), (nB, fr, tt, ln, wi, sg, pu), (nR, rd, rx, ry, wv, fo), (re, dg), (nP, tp, bt, dp)))
theorem q_floats_det {G : GS} {k : Int32} {v : UInt64} {r1 r2 : Int32} {G1 G2 : GS} (hN : G.1.1 ≤ 30) (h1 : q_floats G k v r1 G1) (h2 : q_floats G k v r2 G2) : r1 = r2 ∧ G1 = G2 := by
  obtain ⟨⟨nN, px, py, pz, fx, fy, fz, lf, ld, fi⟩, ⟨nB, fr, tt, ln, wi, sg, pu⟩, ⟨nR, rd, rx, ry, wv, fo⟩, ⟨re, dg⟩, ⟨nP, tp, bt, dp⟩⟩ := G
  have hN : nN ≤ 30 := hN
  rcases h1 with ⟨j, hj, rfl, c1, rfl, rfl⟩ | ⟨c1, rfl, rfl⟩ <;> rcases h2 with ⟨i, hi, e, c2, rfl, rfl⟩ | ⟨c2, rfl, rfl⟩
  · have e := (nI_eq (by omega) (by omega)).mp e
    subst e
    exact ⟨rfl, rfl⟩
  · exact absurd ⟨⟨j, hj, rfl⟩, c1⟩ c2
  · exact absurd ⟨⟨i, hi, e⟩, c2⟩ c1
  · exact ⟨rfl, rfl⟩
def q_catchAt (G : GS) (k : Int32) (v : UInt64) (r : Int32) (G2 : GS) : Prop := match G with
  | ((nN, px, py, pz, fx, fy, fz, lf, ld, fi), (nB, fr, tt, ln, wi, sg, pu), (nR, rd, rx, ry, wv, fo), (re, dg), (nP, tp, bt, dp)) => (∃ j, j < nN ∧ k = nI j ∧ (inR v FP.dconst0 4681608360884174848) ∧ r = nI 1 ∧ G2 = ((nN, px, py, pz, fx, fy, fz, lf, vf_upd ld j v, fi), (nB, fr, tt, ln, wi, sg, pu), (nR, rd, rx, ry, wv, fo), (re, dg), (nP, tp, bt, dp))) ∨ (¬ (inN nN k ∧ (inR v FP.dconst0 4681608360884174848)) ∧ r = nI 0 ∧ G2 = ((nN, px, py, pz, fx, fy, fz, lf, ld, fi), (nB, fr, tt, ln, wi, sg, pu), (nR, rd, rx, ry, wv, fo), (re, dg), (nP, tp, bt, dp)))
theorem q_catchAt_det {G : GS} {k : Int32} {v : UInt64} {r1 r2 : Int32} {G1 G2 : GS} (hN : G.1.1 ≤ 30) (h1 : q_catchAt G k v r1 G1) (h2 : q_catchAt G k v r2 G2) : r1 = r2 ∧ G1 = G2 := by
  obtain ⟨⟨nN, px, py, pz, fx, fy, fz, lf, ld, fi⟩, ⟨nB, fr, tt, ln, wi, sg, pu⟩, ⟨nR, rd, rx, ry, wv, fo⟩, ⟨re, dg⟩, ⟨nP, tp, bt, dp⟩⟩ := G
  have hN : nN ≤ 30 := hN
  rcases h1 with ⟨j, hj, rfl, c1, rfl, rfl⟩ | ⟨c1, rfl, rfl⟩ <;> rcases h2 with ⟨i, hi, e, c2, rfl, rfl⟩ | ⟨c2, rfl, rfl⟩
  · have e := (nI_eq (by omega) (by omega)).mp e
    subst e
    exact ⟨rfl, rfl⟩
  · exact absurd ⟨⟨j, hj, rfl⟩, c1⟩ c2
  · exact absurd ⟨⟨i, hi, e⟩, c2⟩ c1
  · exact ⟨rfl, rfl⟩
def q_foul (G : GS) (v : UInt64) (r : Int32) (G2 : GS) : Prop := match G with
  | ((nN, px, py, pz, fx, fy, fz, lf, ld, fi), (nB, fr, tt, ln, wi, sg, pu), (nR, rd, rx, ry, wv, fo), (re, dg), (nP, tp, bt, dp)) => ((inR v FP.dconst0 4617315517961601024) ∧ r = nI 1 ∧ G2 = ((nN, px, py, pz, fx, fy, fz, lf, ld, fi), (nB, fr, tt, ln, wi, sg, pu), (nR, rd, rx, ry, wv, v), (re, dg), (nP, tp, bt, dp))) ∨ (¬ (inR v FP.dconst0 4617315517961601024) ∧ r = nI 0 ∧ G2 = ((nN, px, py, pz, fx, fy, fz, lf, ld, fi), (nB, fr, tt, ln, wi, sg, pu), (nR, rd, rx, ry, wv, fo), (re, dg), (nP, tp, bt, dp)))
theorem q_foul_det {G : GS} {v : UInt64} {r1 r2 : Int32} {G1 G2 : GS} (h1 : q_foul G v r1 G1) (h2 : q_foul G v r2 G2) : r1 = r2 ∧ G1 = G2 := by
  obtain ⟨⟨nN, px, py, pz, fx, fy, fz, lf, ld, fi⟩, ⟨nB, fr, tt, ln, wi, sg, pu⟩, ⟨nR, rd, rx, ry, wv, fo⟩, ⟨re, dg⟩, ⟨nP, tp, bt, dp⟩⟩ := G
  rcases h1 with ⟨c1, rfl, rfl⟩ | ⟨c1, rfl, rfl⟩ <;> rcases h2 with ⟨c2, rfl, rfl⟩ | ⟨c2, rfl, rfl⟩ <;> first | exact ⟨rfl, rfl⟩ | exact absurd c1 c2 | exact absurd c2 c1
def q_wave (G : GS) (h : UInt64) (pe : UInt64) (n : Int32) (r : Int32) (G2 : GS) : Prop := match G with
  | ((nN, px, py, pz, fx, fy, fz, lf, ld, fi), (nB, fr, tt, ln, wi, sg, pu), (nR, rd, rx, ry, wv, fo), (re, dg), (nP, tp, bt, dp)) => ((inR h FP.dconst0 4629137466983448576 ∧ inR pe FP.dconst1 4633641066610819072 ∧ ¬ n < 0 ∧ n ≤ nI 100) ∧ r = nI nR ∧ G2 = ((nN, px, py, pz, fx, fy, fz, lf, ld, fi), (nB, fr, tt, ln, wi, sg, pu), (nR, rd, rx, ry, FP.ddiv (FP.dmul (FP.ddiv (h) (FP.dadd (pe) (FP.dconst1))) (FP.i2d (n))) (4636737291354636288), fo), (re, dg), (nP, tp, bt, dp))) ∨ (¬ (inR h FP.dconst0 4629137466983448576 ∧ inR pe FP.dconst1 4633641066610819072 ∧ ¬ n < 0 ∧ n ≤ nI 100) ∧ r = (-1 : Int32) ∧ G2 = ((nN, px, py, pz, fx, fy, fz, lf, ld, fi), (nB, fr, tt, ln, wi, sg, pu), (nR, rd, rx, ry, wv, fo), (re, dg), (nP, tp, bt, dp)))
theorem q_wave_det {G : GS} {h : UInt64} {pe : UInt64} {n : Int32} {r1 r2 : Int32} {G1 G2 : GS} (h1 : q_wave G h pe n r1 G1) (h2 : q_wave G h pe n r2 G2) : r1 = r2 ∧ G1 = G2 := by
  obtain ⟨⟨nN, px, py, pz, fx, fy, fz, lf, ld, fi⟩, ⟨nB, fr, tt, ln, wi, sg, pu⟩, ⟨nR, rd, rx, ry, wv, fo⟩, ⟨re, dg⟩, ⟨nP, tp, bt, dp⟩⟩ := G
  rcases h1 with ⟨c1, rfl, rfl⟩ | ⟨c1, rfl, rfl⟩ <;> rcases h2 with ⟨c2, rfl, rfl⟩ | ⟨c2, rfl, rfl⟩ <;> first | exact ⟨rfl, rfl⟩ | exact absurd c1 c2 | exact absurd c2 c1
def q_at (G : GS) (k : Int32) (x : Int32) (r : UInt64) : Prop := match G with
  | ((nN, px, py, pz, fx, fy, fz, lf, ld, fi), (nB, fr, tt, ln, wi, sg, pu), (nR, rd, rx, ry, wv, fo), (re, dg), (nP, tp, bt, dp)) => (∃ j, j < nN ∧ k = nI j ∧ ((x = nI 0 ∧ r = px j) ∨ (x = nI 1 ∧ r = py j) ∨ (x = nI 2 ∧ r = pz j))) ∨ (¬ (inN nN k ∧ inN 3 x) ∧ r = FP.dconst0)
def q_pull (G : GS) (k : Int32) (r : UInt64) : Prop := match G with
  | ((nN, px, py, pz, fx, fy, fz, lf, ld, fi), (nB, fr, tt, ln, wi, sg, pu), (nR, rd, rx, ry, wv, fo), (re, dg), (nP, tp, bt, dp)) => (∃ j, j < nB ∧ k = nI j ∧ r = pu j) ∨ (¬ inN nB k ∧ r = 13830554455654793216)
def q_drag (G : GS) (x : Int32) (r : UInt64) : Prop := match G with
  | ((nN, px, py, pz, fx, fy, fz, lf, ld, fi), (nB, fr, tt, ln, wi, sg, pu), (nR, rd, rx, ry, wv, fo), (re, dg), (nP, tp, bt, dp)) => (∃ j, j < 3 ∧ x = nI j ∧ r = dg j) ∨ (¬ inN 3 x ∧ r = FP.dconst0)
theorem iX3_has_X3 : ∀ w ∈ u_ws RX3 TX3 6, w ∈ wsX3_has := by decide +kernel
set_option maxHeartbeats 4000000 in
set_option maxRecDepth 100000 in
theorem kX3_has (l : Launch) (D : va_G) (cs : Nat → ClassId) (ad : Nat → Nat) (hd : distX ad) (sz : Nat) (S : XS) (hnN : S.1.1.1 ≤ 30) (k : Int32) : Met l yX3_has wsX3_has ({ frames := 0, cells := 0, slots := 0, locals := 0 } : Room) (gP D (WX cs ad) (EX D cs) S sz ([.ref (ad 1), .int (k)] : List Value)) (va_Qi (fun r u => u = S ∧ ((r = nI 1 ∧ inN (S.1.1.1) k) ∨ (r = nI 0 ∧ ¬ inN (S.1.1.1) k))) (gB D (WX cs ad)) (gA (AX ad) sz)) 0 0 (gA (AX ad) sz) := by
  obtain ⟨⟨⟨nN, px, py, pz, fx, fy, fz, lf, ld, fi⟩, ⟨nB, fr, tt, ln, wi, sg, pu⟩, ⟨nR, rd, rx, ry, wv, fo⟩, ⟨re, dg⟩, ⟨nP, tp, bt, dp⟩⟩, ⟨sp, ac, kp, kc, kn, aw, dw, su, ss, sd⟩⟩ := S
  have hnN : nN ≤ 30 := hnN
  refine gMz (cc := cX3_has) (maxL := 2) (plainFor_of_name (by decide)) rfl (Nat.le_of_ble_eq_true rfl) ?_
  intro p e s m below meth c Q hx hb hts hown hml hsz hE hret H locs hP hS ls hl
  subst hsz
  have hown : s.vm.findClass RX3 = some m.cls := hown
  have hK : va_K D vwCl (tysX cs) s := hE.1
  have hD : ∀ u, va_D (gA (AX ad) s.heap.size) (WX cs ad u) := fun u => WX_D hd u
  have hl : lv_has ls 2 [(0, .ref (ad 1)), (1, .int (k))] := hl
  have f_30 := hts (.fieldLink RX3 30 "NetShapes$Nodes" "count" "I") (by decide +kernel)
  refine lv_iload_n hx hb dX3_has_0 rfl (lv_at hl 1 rfl) ?_
  refine lv_if_lt (tgt := 16) hx hb dX3_has_1 (by decide) (fun c_1_1 => ?_) (fun c_1_1 => ?_)
  · skip
    refine lv_iconst (v := nI 0) hx hb dX3_has_16 (by decide) ?_
    exact hret hS hP dX3_has_17 (Or.inl rfl) (⟨rfl, Or.inr ⟨rfl, inN_neg (by omega) c_1_1⟩⟩)
  · skip
    refine lv_iload_n hx hb dX3_has_4 rfl (lv_at hl 1 rfl) ?_
    refine lv_aload_n hx hb dX3_has_5 rfl (lv_at hl 0 rfl) ?_
    refine va_get (D := D) (ci := 3) (v := .int (nI nN)) (C := RX3) (T := TX3) (N := 6) hx hb hts iX3_has_X3 hown hK hP 1 rfl rfl 5 (by decide) f_30 (fun _ h9 => h9) rfl dX3_has_6 ?_
    refine lv_icmp_ge (tgt := 16) hx hb dX3_has_9 (by decide) (fun c_9_2 => ?_) (fun c_9_2 => ?_)
    · skip
      refine lv_iconst (v := nI 0) hx hb dX3_has_16 (by decide) ?_
      exact hret hS hP dX3_has_17 (Or.inl rfl) (⟨rfl, Or.inr ⟨rfl, inN_ge (by omega) c_9_2⟩⟩)
    · skip
      refine lv_iconst (v := nI 1) hx hb dX3_has_12 (by decide) ?_
      refine lv_goto (tgt := 17) hx hb dX3_has_13 (by decide) ?_
      exact hret hS hP dX3_has_17 (Or.inr rfl) (⟨rfl, Or.inl ⟨rfl, inN_of (by omega) c_1_1 c_9_2⟩⟩)
theorem iX1_has_X1 : ∀ w ∈ u_ws RX1 TX1 7, w ∈ wsX1_has := by decide +kernel
set_option maxHeartbeats 4000000 in
set_option maxRecDepth 100000 in
theorem kX1_has (l : Launch) (D : va_G) (cs : Nat → ClassId) (ad : Nat → Nat) (hd : distX ad) (sz : Nat) (S : XS) (hnB : S.1.2.1.1 ≤ 60) (k : Int32) : Met l yX1_has wsX1_has ({ frames := 0, cells := 0, slots := 0, locals := 0 } : Room) (gP D (WX cs ad) (EX D cs) S sz ([.ref (ad 2), .int (k)] : List Value)) (va_Qi (fun r u => u = S ∧ ((r = nI 1 ∧ inN (S.1.2.1.1) k) ∨ (r = nI 0 ∧ ¬ inN (S.1.2.1.1) k))) (gB D (WX cs ad)) (gA (AX ad) sz)) 0 0 (gA (AX ad) sz) := by
  obtain ⟨⟨⟨nN, px, py, pz, fx, fy, fz, lf, ld, fi⟩, ⟨nB, fr, tt, ln, wi, sg, pu⟩, ⟨nR, rd, rx, ry, wv, fo⟩, ⟨re, dg⟩, ⟨nP, tp, bt, dp⟩⟩, ⟨sp, ac, kp, kc, kn, aw, dw, su, ss, sd⟩⟩ := S
  have hnB : nB ≤ 60 := hnB
  refine gMz (cc := cX1_has) (maxL := 2) (plainFor_of_name (by decide)) rfl (Nat.le_of_ble_eq_true rfl) ?_
  intro p e s m below meth c Q hx hb hts hown hml hsz hE hret H locs hP hS ls hl
  subst hsz
  have hown : s.vm.findClass RX1 = some m.cls := hown
  have hK : va_K D vwCl (tysX cs) s := hE.1
  have hD : ∀ u, va_D (gA (AX ad) s.heap.size) (WX cs ad u) := fun u => WX_D hd u
  have hl : lv_has ls 2 [(0, .ref (ad 2)), (1, .int (k))] := hl
  have f_31 := hts (.fieldLink RX1 31 "NetShapes$Bars" "count" "I") (by decide +kernel)
  refine lv_iload_n hx hb dX1_has_0 rfl (lv_at hl 1 rfl) ?_
  refine lv_if_lt (tgt := 16) hx hb dX1_has_1 (by decide) (fun c_1_1 => ?_) (fun c_1_1 => ?_)
  · skip
    refine lv_iconst (v := nI 0) hx hb dX1_has_16 (by decide) ?_
    exact hret hS hP dX1_has_17 (Or.inl rfl) (⟨rfl, Or.inr ⟨rfl, inN_neg (by omega) c_1_1⟩⟩)
  · skip
    refine lv_iload_n hx hb dX1_has_4 rfl (lv_at hl 1 rfl) ?_
    refine lv_aload_n hx hb dX1_has_5 rfl (lv_at hl 0 rfl) ?_
    refine va_get (D := D) (ci := 1) (v := .int (nI nB)) (C := RX1) (T := TX1) (N := 7) hx hb hts iX1_has_X1 hown hK hP 2 rfl rfl 6 (by decide) f_31 (fun _ h9 => h9) rfl dX1_has_6 ?_
    refine lv_icmp_ge (tgt := 16) hx hb dX1_has_9 (by decide) (fun c_9_2 => ?_) (fun c_9_2 => ?_)
    · skip
      refine lv_iconst (v := nI 0) hx hb dX1_has_16 (by decide) ?_
      exact hret hS hP dX1_has_17 (Or.inl rfl) (⟨rfl, Or.inr ⟨rfl, inN_ge (by omega) c_9_2⟩⟩)
    · skip
      refine lv_iconst (v := nI 1) hx hb dX1_has_12 (by decide) ?_
      refine lv_goto (tgt := 17) hx hb dX1_has_13 (by decide) ?_
      exact hret hS hP dX1_has_17 (Or.inr rfl) (⟨rfl, Or.inl ⟨rfl, inN_of (by omega) c_1_1 c_9_2⟩⟩)
theorem iX4_has_X4 : ∀ w ∈ u_ws RX4 TX4 9, w ∈ wsX4_has := by decide +kernel
set_option maxHeartbeats 4000000 in
set_option maxRecDepth 100000 in
theorem kX4_has (l : Launch) (D : va_G) (cs : Nat → ClassId) (ad : Nat → Nat) (hd : distX ad) (sz : Nat) (S : XS) (hnP : S.1.2.2.2.2.1 ≤ 30) (k : Int32) : Met l yX4_has wsX4_has ({ frames := 0, cells := 0, slots := 0, locals := 0 } : Room) (gP D (WX cs ad) (EX D cs) S sz ([.ref (ad 6), .int (k)] : List Value)) (va_Qi (fun r u => u = S ∧ ((r = nI 1 ∧ inN (S.1.2.2.2.2.1) k) ∨ (r = nI 0 ∧ ¬ inN (S.1.2.2.2.2.1) k))) (gB D (WX cs ad)) (gA (AX ad) sz)) 0 0 (gA (AX ad) sz) := by
  obtain ⟨⟨⟨nN, px, py, pz, fx, fy, fz, lf, ld, fi⟩, ⟨nB, fr, tt, ln, wi, sg, pu⟩, ⟨nR, rd, rx, ry, wv, fo⟩, ⟨re, dg⟩, ⟨nP, tp, bt, dp⟩⟩, ⟨sp, ac, kp, kc, kn, aw, dw, su, ss, sd⟩⟩ := S
  have hnP : nP ≤ 30 := hnP
  refine gMz (cc := cX4_has) (maxL := 2) (plainFor_of_name (by decide)) rfl (Nat.le_of_ble_eq_true rfl) ?_
  intro p e s m below meth c Q hx hb hts hown hml hsz hE hret H locs hP hS ls hl
  subst hsz
  have hown : s.vm.findClass RX4 = some m.cls := hown
  have hK : va_K D vwCl (tysX cs) s := hE.1
  have hD : ∀ u, va_D (gA (AX ad) s.heap.size) (WX cs ad u) := fun u => WX_D hd u
  have hl : lv_has ls 2 [(0, .ref (ad 6)), (1, .int (k))] := hl
  have f_27 := hts (.fieldLink RX4 27 "NetShapes$Panels" "count" "I") (by decide +kernel)
  refine lv_iload_n hx hb dX4_has_0 rfl (lv_at hl 1 rfl) ?_
  refine lv_if_lt (tgt := 16) hx hb dX4_has_1 (by decide) (fun c_1_1 => ?_) (fun c_1_1 => ?_)
  · skip
    refine lv_iconst (v := nI 0) hx hb dX4_has_16 (by decide) ?_
    exact hret hS hP dX4_has_17 (Or.inl rfl) (⟨rfl, Or.inr ⟨rfl, inN_neg (by omega) c_1_1⟩⟩)
  · skip
    refine lv_iload_n hx hb dX4_has_4 rfl (lv_at hl 1 rfl) ?_
    refine lv_aload_n hx hb dX4_has_5 rfl (lv_at hl 0 rfl) ?_
    refine va_get (D := D) (ci := 4) (v := .int (nI nP)) (C := RX4) (T := TX4) (N := 9) hx hb hts iX4_has_X4 hown hK hP 6 rfl rfl 5 (by decide) f_27 (fun _ h9 => h9) rfl dX4_has_6 ?_
    refine lv_icmp_ge (tgt := 16) hx hb dX4_has_9 (by decide) (fun c_9_2 => ?_) (fun c_9_2 => ?_)
    · skip
      refine lv_iconst (v := nI 0) hx hb dX4_has_16 (by decide) ?_
      exact hret hS hP dX4_has_17 (Or.inl rfl) (⟨rfl, Or.inr ⟨rfl, inN_ge (by omega) c_9_2⟩⟩)
    · skip
      refine lv_iconst (v := nI 1) hx hb dX4_has_12 (by decide) ?_
      refine lv_goto (tgt := 17) hx hb dX4_has_13 (by decide) ?_
      exact hret hS hP dX4_has_17 (Or.inr rfl) (⟨rfl, Or.inl ⟨rfl, inN_of (by omega) c_1_1 c_9_2⟩⟩)
theorem iX7_isNode_X7 : ∀ w ∈ u_ws RX7 TX7 31, w ∈ wsX7_isNode := by decide +kernel
set_option maxHeartbeats 4000000 in
set_option maxRecDepth 100000 in
theorem kX7_isNode (l : Launch) (D : va_G) (cs : Nat → ClassId) (ad : Nat → Nat) (hd : distM ad) (sz : Nat) (S : MS) (hnN : S.1.1.1 ≤ 30) (k : Int32) : Met l yX7_isNode wsX7_isNode ({ frames := 0, cells := 0, slots := 0, locals := 0 } : Room) (gP D (WM cs ad) (EM D cs) S sz ([.ref (ad 0), .int (k)] : List Value)) (va_Qi (fun r u => u = S ∧ ((r = nI 1 ∧ inN (S.1.1.1) k) ∨ (r = nI 0 ∧ ¬ inN (S.1.1.1) k))) (gB D (WM cs ad)) (gA (AM ad) sz)) 0 0 (gA (AM ad) sz) := by
  obtain ⟨⟨⟨nN, px, py, pz, fx, fy, fz, lf, ld, fi⟩, ⟨nB, fr, tt, ln, wi, sg, pu⟩, ⟨nR, rd, rx, ry, wv, fo⟩, ⟨re, dg⟩, ⟨nP, tp, bt, dp⟩⟩, ⟨nQ, fu⟩⟩ := S
  have hnN : nN ≤ 30 := hnN
  refine gMz (cc := cX7_isNode) (maxL := 2) (plainFor_of_name (by decide)) rfl (Nat.le_of_ble_eq_true rfl) ?_
  intro p e s m below meth c Q hx hb hts hown hml hsz hE hret H locs hP hS ls hl
  subst hsz
  have hown : s.vm.findClass RX7 = some m.cls := hown
  have hK : va_K D vwCl (tysX cs) s := hE.1
  have hD : ∀ u, va_D (gA (AM ad) s.heap.size) (WM cs ad u) := fun u => WM_D hd u
  have hl : lv_has ls 2 [(0, .ref (ad 0)), (1, .int (k))] := hl
  have f_89 := hts (.fieldLink RX7 89 "NetShapesModel" "nodes" "I") (by decide +kernel)
  refine lv_iload_n hx hb dX7_isNode_0 rfl (lv_at hl 1 rfl) ?_
  refine lv_if_lt (tgt := 16) hx hb dX7_isNode_1 (by decide) (fun c_1_1 => ?_) (fun c_1_1 => ?_)
  · skip
    refine lv_iconst (v := nI 0) hx hb dX7_isNode_16 (by decide) ?_
    exact hret hS hP dX7_isNode_17 (Or.inl rfl) (⟨rfl, Or.inr ⟨rfl, inN_neg (by omega) c_1_1⟩⟩)
  · skip
    refine lv_iload_n hx hb dX7_isNode_4 rfl (lv_at hl 1 rfl) ?_
    refine lv_aload_n hx hb dX7_isNode_5 rfl (lv_at hl 0 rfl) ?_
    refine va_get (D := D) (ci := 7) (v := .int (nI nN)) (C := RX7) (T := TX7) (N := 31) hx hb hts iX7_isNode_X7 hown hK hP 0 rfl rfl 0 (by decide) f_89 (fun _ h9 => h9) rfl dX7_isNode_6 ?_
    refine lv_icmp_ge (tgt := 16) hx hb dX7_isNode_9 (by decide) (fun c_9_2 => ?_) (fun c_9_2 => ?_)
    · skip
      refine lv_iconst (v := nI 0) hx hb dX7_isNode_16 (by decide) ?_
      exact hret hS hP dX7_isNode_17 (Or.inl rfl) (⟨rfl, Or.inr ⟨rfl, inN_ge (by omega) c_9_2⟩⟩)
    · skip
      refine lv_iconst (v := nI 1) hx hb dX7_isNode_12 (by decide) ?_
      refine lv_goto (tgt := 17) hx hb dX7_isNode_13 (by decide) ?_
      exact hret hS hP dX7_isNode_17 (Or.inr rfl) (⟨rfl, Or.inl ⟨rfl, inN_of (by omega) c_1_1 c_9_2⟩⟩)
theorem iX7_isPanel_X7 : ∀ w ∈ u_ws RX7 TX7 31, w ∈ wsX7_isPanel := by decide +kernel
set_option maxHeartbeats 4000000 in
set_option maxRecDepth 100000 in
theorem kX7_isPanel (l : Launch) (D : va_G) (cs : Nat → ClassId) (ad : Nat → Nat) (hd : distM ad) (sz : Nat) (S : MS) (hnP : S.1.2.2.2.2.1 ≤ 30) (k : Int32) : Met l yX7_isPanel wsX7_isPanel ({ frames := 0, cells := 0, slots := 0, locals := 0 } : Room) (gP D (WM cs ad) (EM D cs) S sz ([.ref (ad 0), .int (k)] : List Value)) (va_Qi (fun r u => u = S ∧ ((r = nI 1 ∧ inN (S.1.2.2.2.2.1) k) ∨ (r = nI 0 ∧ ¬ inN (S.1.2.2.2.2.1) k))) (gB D (WM cs ad)) (gA (AM ad) sz)) 0 0 (gA (AM ad) sz) := by
  obtain ⟨⟨⟨nN, px, py, pz, fx, fy, fz, lf, ld, fi⟩, ⟨nB, fr, tt, ln, wi, sg, pu⟩, ⟨nR, rd, rx, ry, wv, fo⟩, ⟨re, dg⟩, ⟨nP, tp, bt, dp⟩⟩, ⟨nQ, fu⟩⟩ := S
  have hnP : nP ≤ 30 := hnP
  refine gMz (cc := cX7_isPanel) (maxL := 2) (plainFor_of_name (by decide)) rfl (Nat.le_of_ble_eq_true rfl) ?_
  intro p e s m below meth c Q hx hb hts hown hml hsz hE hret H locs hP hS ls hl
  subst hsz
  have hown : s.vm.findClass RX7 = some m.cls := hown
  have hK : va_K D vwCl (tysX cs) s := hE.1
  have hD : ∀ u, va_D (gA (AM ad) s.heap.size) (WM cs ad u) := fun u => WM_D hd u
  have hl : lv_has ls 2 [(0, .ref (ad 0)), (1, .int (k))] := hl
  have f_190 := hts (.fieldLink RX7 190 "NetShapesModel" "panels" "I") (by decide +kernel)
  refine lv_iload_n hx hb dX7_isPanel_0 rfl (lv_at hl 1 rfl) ?_
  refine lv_if_lt (tgt := 16) hx hb dX7_isPanel_1 (by decide) (fun c_1_1 => ?_) (fun c_1_1 => ?_)
  · skip
    refine lv_iconst (v := nI 0) hx hb dX7_isPanel_16 (by decide) ?_
    exact hret hS hP dX7_isPanel_17 (Or.inl rfl) (⟨rfl, Or.inr ⟨rfl, inN_neg (by omega) c_1_1⟩⟩)
  · skip
    refine lv_iload_n hx hb dX7_isPanel_4 rfl (lv_at hl 1 rfl) ?_
    refine lv_aload_n hx hb dX7_isPanel_5 rfl (lv_at hl 0 rfl) ?_
    refine va_get (D := D) (ci := 7) (v := .int (nI nP)) (C := RX7) (T := TX7) (N := 31) hx hb hts iX7_isPanel_X7 hown hK hP 0 rfl rfl 27 (by decide) f_190 (fun _ h9 => h9) rfl dX7_isPanel_6 ?_
    refine lv_icmp_ge (tgt := 16) hx hb dX7_isPanel_9 (by decide) (fun c_9_2 => ?_) (fun c_9_2 => ?_)
    · skip
      refine lv_iconst (v := nI 0) hx hb dX7_isPanel_16 (by decide) ?_
      exact hret hS hP dX7_isPanel_17 (Or.inl rfl) (⟨rfl, Or.inr ⟨rfl, inN_ge (by omega) c_9_2⟩⟩)
    · skip
      refine lv_iconst (v := nI 1) hx hb dX7_isPanel_12 (by decide) ?_
      refine lv_goto (tgt := 17) hx hb dX7_isPanel_13 (by decide) ?_
      exact hret hS hP dX7_isPanel_17 (Or.inr rfl) (⟨rfl, Or.inl ⟨rfl, inN_of (by omega) c_1_1 c_9_2⟩⟩)
theorem iX3_add_X3 : ∀ w ∈ u_ws RX3 TX3 6, w ∈ wsX3_add := by decide +kernel
set_option maxHeartbeats 4000000 in
set_option maxRecDepth 100000 in
theorem kX3_add (l : Launch) (D : va_G) (cs : Nat → ClassId) (ad : Nat → Nat) (hd : distX ad) (sz : Nat) (S : XS) (hN : S.1.1.1 < 30) (x y z : UInt64) : Met l yX3_add wsX3_add ({ frames := 0, cells := 0, slots := 0, locals := 0 } : Room) (gP D (WX cs ad) (EX D cs) S sz ([.ref (ad 1), .double (x), .double (y), .double (z)] : List Value)) (va_Qi (fun r u => match S with | (((nN, px, py, pz, fx, fy, fz, lf, ld, fi), (nB, fr, tt, ln, wi, sg, pu), (nR, rd, rx, ry, wv, fo), (re, dg), (nP, tp, bt, dp)), (sp, ac, kp, kc, kn, aw, dw, su, ss, sd)) => r = nI nN ∧ u = (((nN + 1, (vf_upd px nN x), (vf_upd py nN y), (vf_upd pz nN z), fx, fy, fz, lf, ld, fi), (nB, fr, tt, ln, wi, sg, pu), (nR, rd, rx, ry, wv, fo), (re, dg), (nP, tp, bt, dp)), (sp, ac, kp, kc, kn, aw, dw, su, ss, sd))) (gB D (WX cs ad)) (gA (AX ad) sz)) 0 0 (gA (AX ad) sz) := by
  obtain ⟨⟨⟨nN, px, py, pz, fx, fy, fz, lf, ld, fi⟩, ⟨nB, fr, tt, ln, wi, sg, pu⟩, ⟨nR, rd, rx, ry, wv, fo⟩, ⟨re, dg⟩, ⟨nP, tp, bt, dp⟩⟩, ⟨sp, ac, kp, kc, kn, aw, dw, su, ss, sd⟩⟩ := S
  have hN : nN < 30 := hN
  refine gMi (cc := cX3_add) (maxL := 8) (plainFor_of_name (by decide)) rfl (Nat.le_of_ble_eq_true rfl) ?_
  intro p e s m below meth c Q hx hb hts hown hml hsz hE hret H locs hP hS ls hl
  subst hsz
  have hown : s.vm.findClass RX3 = some m.cls := hown
  have hK : va_K D vwCl (tysX cs) s := hE.1
  have hD : ∀ u, va_D (gA (AX ad) s.heap.size) (WX cs ad u) := fun u => WX_D hd u
  have hl : lv_has ls 8 [(0, .ref (ad 1)), (1, .double (x)), (3, .double (y)), (5, .double (z))] := hl
  have f_11 := hts (.fieldLink RX3 11 "NetShapes$Nodes" "places" "[[D") (by decide +kernel)
  have f_30 := hts (.fieldLink RX3 30 "NetShapes$Nodes" "count" "I") (by decide +kernel)
  refine lv_aload_n hx hb dX3_add_0 rfl (lv_at hl 0 rfl) ?_
  refine va_get (D := D) (ci := 3) (v := .int (nI nN)) (C := RX3) (T := TX3) (N := 6) hx hb hts iX3_add_X3 hown hK hP 1 rfl rfl 5 (by decide) f_30 (fun _ h9 => h9) rfl dX3_add_1 ?_
  refine lv_istore (lv' := [(7, .int (nI nN)), (0, .ref (ad 1)), (1, .double (x)), (3, .double (y)), (5, .double (z))]) hx hb dX3_add_4 hl (by decide) rfl (fun ls hl => ?_)
  refine lv_aload_n hx hb dX3_add_6 rfl (lv_at hl 1 rfl) ?_
  refine va_get (D := D) (ci := 3) (v := .ref (ad 7)) (C := RX3) (T := TX3) (N := 6) hx hb hts iX3_add_X3 hown hK hP 1 rfl rfl 0 (by decide) f_11 (fun _ h9 => h9) rfl dX3_add_7 ?_
  refine lv_iconst (v := nI 0) hx hb dX3_add_10 (by decide) ?_
  refine xal hx hb hK hP 7 3 rfl rfl (j := 0) (v := ad 30) (by decide) (by decide) rfl dX3_add_11 ?_
  refine lv_iload hx hb dX3_add_12 (lv_at hl 0 rfl) ?_
  refine lv_dload_n hx hb dX3_add_14 rfl (lv_at hl 2 rfl) ?_
  refine xds hx hb hK hD hP hS 30 0 (((nN, (vf_upd px nN x), py, pz, fx, fy, fz, lf, ld, fi), (nB, fr, tt, ln, wi, sg, pu), (nR, rd, rx, ry, wv, fo), (re, dg), (nP, tp, bt, dp)), (sp, ac, kp, kc, kn, aw, dw, su, ss, sd)) rfl rfl (j := nN) (by decide) (by omega) rfl dX3_add_15 (fun H locs hP hS => ?_)
  refine lv_aload_n hx hb dX3_add_16 rfl (lv_at hl 1 rfl) ?_
  refine va_get (D := D) (ci := 3) (v := .ref (ad 7)) (C := RX3) (T := TX3) (N := 6) hx hb hts iX3_add_X3 hown hK hP 1 rfl rfl 0 (by decide) f_11 (fun _ h9 => h9) rfl dX3_add_17 ?_
  refine lv_iconst (v := nI 1) hx hb dX3_add_20 (by decide) ?_
  refine xal hx hb hK hP 7 3 rfl rfl (j := 1) (v := ad 31) (by decide) (by decide) rfl dX3_add_21 ?_
  refine lv_iload hx hb dX3_add_22 (lv_at hl 0 rfl) ?_
  refine lv_dload_n hx hb dX3_add_24 rfl (lv_at hl 3 rfl) ?_
  refine xds hx hb hK hD hP hS 31 0 (((nN, (vf_upd px nN x), (vf_upd py nN y), pz, fx, fy, fz, lf, ld, fi), (nB, fr, tt, ln, wi, sg, pu), (nR, rd, rx, ry, wv, fo), (re, dg), (nP, tp, bt, dp)), (sp, ac, kp, kc, kn, aw, dw, su, ss, sd)) rfl rfl (j := nN) (by decide) (by omega) rfl dX3_add_25 (fun H locs hP hS => ?_)
  refine lv_aload_n hx hb dX3_add_26 rfl (lv_at hl 1 rfl) ?_
  refine va_get (D := D) (ci := 3) (v := .ref (ad 7)) (C := RX3) (T := TX3) (N := 6) hx hb hts iX3_add_X3 hown hK hP 1 rfl rfl 0 (by decide) f_11 (fun _ h9 => h9) rfl dX3_add_27 ?_
  refine lv_iconst (v := nI 2) hx hb dX3_add_30 (by decide) ?_
  refine xal hx hb hK hP 7 3 rfl rfl (j := 2) (v := ad 32) (by decide) (by decide) rfl dX3_add_31 ?_
  refine lv_iload hx hb dX3_add_32 (lv_at hl 0 rfl) ?_
  refine lv_dload hx hb dX3_add_34 (lv_at hl 4 rfl) ?_
  refine xds hx hb hK hD hP hS 32 0 (((nN, (vf_upd px nN x), (vf_upd py nN y), (vf_upd pz nN z), fx, fy, fz, lf, ld, fi), (nB, fr, tt, ln, wi, sg, pu), (nR, rd, rx, ry, wv, fo), (re, dg), (nP, tp, bt, dp)), (sp, ac, kp, kc, kn, aw, dw, su, ss, sd)) rfl rfl (j := nN) (by decide) (by omega) rfl dX3_add_36 (fun H locs hP hS => ?_)
  refine lv_aload_n hx hb dX3_add_37 rfl (lv_at hl 1 rfl) ?_
  refine lv_dup hx hb dX3_add_38 rfl ?_
  refine va_get (D := D) (ci := 3) (v := .int (nI nN)) (C := RX3) (T := TX3) (N := 6) hx hb hts iX3_add_X3 hown hK hP 1 rfl rfl 5 (by decide) f_30 (fun _ h9 => h9) rfl dX3_add_39 ?_
  refine lv_iconst (v := nI 1) hx hb dX3_add_42 (by decide) ?_
  refine xia hx hb (nN + 1) dX3_add_43 rfl ?_
  refine xput (D := D) (ci := 3) (v := .int (nI (nN + 1))) (ty := .int) (C := RX3) (T := TX3) (N := 6) hx hb hts iX3_add_X3 tyX3 tyX3_ok nmX3 hown hK hD hP hS 1 ((((nN + 1), (vf_upd px nN x), (vf_upd py nN y), (vf_upd pz nN z), fx, fy, fz, lf, ld, fi), (nB, fr, tt, ln, wi, sg, pu), (nR, rd, rx, ry, wv, fo), (re, dg), (nP, tp, bt, dp)), (sp, ac, kp, kc, kn, aw, dw, su, ss, sd)) rfl rfl 5 (by decide) f_30 (fun _ h9 => h9) rfl (by decide +kernel) rfl rfl (Nat.le_of_ble_eq_true rfl) rfl dX3_add_44 (fun H locs hP hS => ?_)
  refine lv_iload hx hb dX3_add_47 (lv_at hl 0 rfl) ?_
  exact hret hS hP dX3_add_49 (⟨rfl, rfl⟩)
theorem iX1_add_X1 : ∀ w ∈ u_ws RX1 TX1 7, w ∈ wsX1_add := by decide +kernel
set_option maxHeartbeats 4000000 in
set_option maxRecDepth 100000 in
theorem kX1_add (l : Launch) (D : va_G) (cs : Nat → ClassId) (ad : Nat → Nat) (hd : distX ad) (sz : Nat) (S : XS) (hB : S.1.2.1.1 < 60) (a b : Int32) (x y z : UInt64) : Met l yX1_add wsX1_add ({ frames := 0, cells := 0, slots := 0, locals := 0 } : Room) (gP D (WX cs ad) (EX D cs) S sz ([.ref (ad 2), .int (a), .int (b), .double (x), .double (y), .double (z)] : List Value)) (va_Qi (fun r u => match S with | (((nN, px, py, pz, fx, fy, fz, lf, ld, fi), (nB, fr, tt, ln, wi, sg, pu), (nR, rd, rx, ry, wv, fo), (re, dg), (nP, tp, bt, dp)), (sp, ac, kp, kc, kn, aw, dw, su, ss, sd)) => r = nI nB ∧ u = (((nN, px, py, pz, fx, fy, fz, lf, ld, fi), (nB + 1, (upd fr nB a), (upd tt nB b), (vf_upd ln nB x), (vf_upd wi nB y), (vf_upd sg nB z), (vf_upd pu nB 13830554455654793216)), (nR, rd, rx, ry, wv, fo), (re, dg), (nP, tp, bt, dp)), (sp, ac, kp, kc, kn, aw, dw, su, ss, sd))) (gB D (WX cs ad)) (gA (AX ad) sz)) 0 0 (gA (AX ad) sz) := by
  obtain ⟨⟨⟨nN, px, py, pz, fx, fy, fz, lf, ld, fi⟩, ⟨nB, fr, tt, ln, wi, sg, pu⟩, ⟨nR, rd, rx, ry, wv, fo⟩, ⟨re, dg⟩, ⟨nP, tp, bt, dp⟩⟩, ⟨sp, ac, kp, kc, kn, aw, dw, su, ss, sd⟩⟩ := S
  have hB : nB < 60 := hB
  refine gMi (cc := cX1_add) (maxL := 10) (plainFor_of_name (by decide)) rfl (Nat.le_of_ble_eq_true rfl) ?_
  intro p e s m below meth c Q hx hb hts hown hml hsz hE hret H locs hP hS ls hl
  subst hsz
  have hown : s.vm.findClass RX1 = some m.cls := hown
  have hK : va_K D vwCl (tysX cs) s := hE.1
  have hD : ∀ u, va_D (gA (AX ad) s.heap.size) (WX cs ad u) := fun u => WX_D hd u
  have hl : lv_has ls 10 [(0, .ref (ad 2)), (1, .int (a)), (2, .int (b)), (3, .double (x)), (5, .double (y)), (7, .double (z))] := hl
  have c_35 := hts (.constantDouble RX1 35 13830554455654793216) (by decide +kernel)
  have f_9 := hts (.fieldLink RX1 9 "NetShapes$Bars" "from" "[I") (by decide +kernel)
  have f_15 := hts (.fieldLink RX1 15 "NetShapes$Bars" "to" "[I") (by decide +kernel)
  have f_18 := hts (.fieldLink RX1 18 "NetShapes$Bars" "length" "[D") (by decide +kernel)
  have f_22 := hts (.fieldLink RX1 22 "NetShapes$Bars" "width" "[D") (by decide +kernel)
  have f_25 := hts (.fieldLink RX1 25 "NetShapes$Bars" "strength" "[D") (by decide +kernel)
  have f_28 := hts (.fieldLink RX1 28 "NetShapes$Bars" "pulls" "[D") (by decide +kernel)
  have f_31 := hts (.fieldLink RX1 31 "NetShapes$Bars" "count" "I") (by decide +kernel)
  refine lv_aload_n hx hb dX1_add_0 rfl (lv_at hl 0 rfl) ?_
  refine va_get (D := D) (ci := 1) (v := .int (nI nB)) (C := RX1) (T := TX1) (N := 7) hx hb hts iX1_add_X1 hown hK hP 2 rfl rfl 6 (by decide) f_31 (fun _ h9 => h9) rfl dX1_add_1 ?_
  refine lv_istore (lv' := [(9, .int (nI nB)), (0, .ref (ad 2)), (1, .int (a)), (2, .int (b)), (3, .double (x)), (5, .double (y)), (7, .double (z))]) hx hb dX1_add_4 hl (by decide) rfl (fun ls hl => ?_)
  refine lv_aload_n hx hb dX1_add_6 rfl (lv_at hl 1 rfl) ?_
  refine va_get (D := D) (ci := 1) (v := .ref (ad 12)) (C := RX1) (T := TX1) (N := 7) hx hb hts iX1_add_X1 hown hK hP 2 rfl rfl 0 (by decide) f_9 (fun _ h9 => h9) rfl dX1_add_7 ?_
  refine lv_iload hx hb dX1_add_10 (lv_at hl 0 rfl) ?_
  refine lv_iload_n hx hb dX1_add_12 rfl (lv_at hl 2 rfl) ?_
  refine xis hx hb hK hD hP hS 12 1 (((nN, px, py, pz, fx, fy, fz, lf, ld, fi), (nB, (upd fr nB a), tt, ln, wi, sg, pu), (nR, rd, rx, ry, wv, fo), (re, dg), (nP, tp, bt, dp)), (sp, ac, kp, kc, kn, aw, dw, su, ss, sd)) rfl rfl (j := nB) (by decide) (by omega) rfl dX1_add_13 (fun H locs hP hS => ?_)
  refine lv_aload_n hx hb dX1_add_14 rfl (lv_at hl 1 rfl) ?_
  refine va_get (D := D) (ci := 1) (v := .ref (ad 13)) (C := RX1) (T := TX1) (N := 7) hx hb hts iX1_add_X1 hown hK hP 2 rfl rfl 1 (by decide) f_15 (fun _ h9 => h9) rfl dX1_add_15 ?_
  refine lv_iload hx hb dX1_add_18 (lv_at hl 0 rfl) ?_
  refine lv_iload_n hx hb dX1_add_20 rfl (lv_at hl 3 rfl) ?_
  refine xis hx hb hK hD hP hS 13 1 (((nN, px, py, pz, fx, fy, fz, lf, ld, fi), (nB, (upd fr nB a), (upd tt nB b), ln, wi, sg, pu), (nR, rd, rx, ry, wv, fo), (re, dg), (nP, tp, bt, dp)), (sp, ac, kp, kc, kn, aw, dw, su, ss, sd)) rfl rfl (j := nB) (by decide) (by omega) rfl dX1_add_21 (fun H locs hP hS => ?_)
  refine lv_aload_n hx hb dX1_add_22 rfl (lv_at hl 1 rfl) ?_
  refine va_get (D := D) (ci := 1) (v := .ref (ad 14)) (C := RX1) (T := TX1) (N := 7) hx hb hts iX1_add_X1 hown hK hP 2 rfl rfl 2 (by decide) f_18 (fun _ h9 => h9) rfl dX1_add_23 ?_
  refine lv_iload hx hb dX1_add_26 (lv_at hl 0 rfl) ?_
  refine lv_dload_n hx hb dX1_add_28 rfl (lv_at hl 4 rfl) ?_
  refine xds hx hb hK hD hP hS 14 0 (((nN, px, py, pz, fx, fy, fz, lf, ld, fi), (nB, (upd fr nB a), (upd tt nB b), (vf_upd ln nB x), wi, sg, pu), (nR, rd, rx, ry, wv, fo), (re, dg), (nP, tp, bt, dp)), (sp, ac, kp, kc, kn, aw, dw, su, ss, sd)) rfl rfl (j := nB) (by decide) (by omega) rfl dX1_add_29 (fun H locs hP hS => ?_)
  refine lv_aload_n hx hb dX1_add_30 rfl (lv_at hl 1 rfl) ?_
  refine va_get (D := D) (ci := 1) (v := .ref (ad 15)) (C := RX1) (T := TX1) (N := 7) hx hb hts iX1_add_X1 hown hK hP 2 rfl rfl 3 (by decide) f_22 (fun _ h9 => h9) rfl dX1_add_31 ?_
  refine lv_iload hx hb dX1_add_34 (lv_at hl 0 rfl) ?_
  refine lv_dload hx hb dX1_add_36 (lv_at hl 5 rfl) ?_
  refine xds hx hb hK hD hP hS 15 0 (((nN, px, py, pz, fx, fy, fz, lf, ld, fi), (nB, (upd fr nB a), (upd tt nB b), (vf_upd ln nB x), (vf_upd wi nB y), sg, pu), (nR, rd, rx, ry, wv, fo), (re, dg), (nP, tp, bt, dp)), (sp, ac, kp, kc, kn, aw, dw, su, ss, sd)) rfl rfl (j := nB) (by decide) (by omega) rfl dX1_add_38 (fun H locs hP hS => ?_)
  refine lv_aload_n hx hb dX1_add_39 rfl (lv_at hl 1 rfl) ?_
  refine va_get (D := D) (ci := 1) (v := .ref (ad 16)) (C := RX1) (T := TX1) (N := 7) hx hb hts iX1_add_X1 hown hK hP 2 rfl rfl 4 (by decide) f_25 (fun _ h9 => h9) rfl dX1_add_40 ?_
  refine lv_iload hx hb dX1_add_43 (lv_at hl 0 rfl) ?_
  refine lv_dload hx hb dX1_add_45 (lv_at hl 6 rfl) ?_
  refine xds hx hb hK hD hP hS 16 0 (((nN, px, py, pz, fx, fy, fz, lf, ld, fi), (nB, (upd fr nB a), (upd tt nB b), (vf_upd ln nB x), (vf_upd wi nB y), (vf_upd sg nB z), pu), (nR, rd, rx, ry, wv, fo), (re, dg), (nP, tp, bt, dp)), (sp, ac, kp, kc, kn, aw, dw, su, ss, sd)) rfl rfl (j := nB) (by decide) (by omega) rfl dX1_add_47 (fun H locs hP hS => ?_)
  refine lv_aload_n hx hb dX1_add_48 rfl (lv_at hl 1 rfl) ?_
  refine va_get (D := D) (ci := 1) (v := .ref (ad 17)) (C := RX1) (T := TX1) (N := 7) hx hb hts iX1_add_X1 hown hK hP 2 rfl rfl 5 (by decide) f_28 (fun _ h9 => h9) rfl dX1_add_49 ?_
  refine lv_iload hx hb dX1_add_52 (lv_at hl 0 rfl) ?_
  refine lv_ldc2d hx hb hown c_35 dX1_add_54 ?_
  refine xds hx hb hK hD hP hS 17 0 (((nN, px, py, pz, fx, fy, fz, lf, ld, fi), (nB, (upd fr nB a), (upd tt nB b), (vf_upd ln nB x), (vf_upd wi nB y), (vf_upd sg nB z), (vf_upd pu nB 13830554455654793216)), (nR, rd, rx, ry, wv, fo), (re, dg), (nP, tp, bt, dp)), (sp, ac, kp, kc, kn, aw, dw, su, ss, sd)) rfl rfl (j := nB) (by decide) (by omega) rfl dX1_add_57 (fun H locs hP hS => ?_)
  refine lv_aload_n hx hb dX1_add_58 rfl (lv_at hl 1 rfl) ?_
  refine lv_dup hx hb dX1_add_59 rfl ?_
  refine va_get (D := D) (ci := 1) (v := .int (nI nB)) (C := RX1) (T := TX1) (N := 7) hx hb hts iX1_add_X1 hown hK hP 2 rfl rfl 6 (by decide) f_31 (fun _ h9 => h9) rfl dX1_add_60 ?_
  refine lv_iconst (v := nI 1) hx hb dX1_add_63 (by decide) ?_
  refine xia hx hb (nB + 1) dX1_add_64 rfl ?_
  refine xput (D := D) (ci := 1) (v := .int (nI (nB + 1))) (ty := .int) (C := RX1) (T := TX1) (N := 7) hx hb hts iX1_add_X1 tyX1 tyX1_ok nmX1 hown hK hD hP hS 2 (((nN, px, py, pz, fx, fy, fz, lf, ld, fi), ((nB + 1), (upd fr nB a), (upd tt nB b), (vf_upd ln nB x), (vf_upd wi nB y), (vf_upd sg nB z), (vf_upd pu nB 13830554455654793216)), (nR, rd, rx, ry, wv, fo), (re, dg), (nP, tp, bt, dp)), (sp, ac, kp, kc, kn, aw, dw, su, ss, sd)) rfl rfl 6 (by decide) f_31 (fun _ h9 => h9) rfl (by decide +kernel) rfl rfl (Nat.le_of_ble_eq_true rfl) rfl dX1_add_65 (fun H locs hP hS => ?_)
  refine lv_iload hx hb dX1_add_68 (lv_at hl 0 rfl) ?_
  exact hret hS hP dX1_add_70 (⟨rfl, rfl⟩)
theorem iX6_node_X3 : ∀ w ∈ u_ws RX3 TX3 6, w ∈ wsX6_node := by decide +kernel
theorem iX6_node_X6 : ∀ w ∈ u_ws RX6 TX6 6, w ∈ wsX6_node := by decide +kernel
set_option maxHeartbeats 4000000 in
set_option maxRecDepth 100000 in
theorem kX6_node (l : Launch) (D : va_G) (cs : Nat → ClassId) (ad : Nat → Nat) (hd : distX ad) (sz : Nat) (S : XS) (hnN : S.1.1.1 ≤ 30) (x y z : UInt64) : Met l yX6_node wsX6_node ({ frames := 2, cells := 0, slots := 0, locals := 46 } : Room) (gP D (WX cs ad) (EX D cs) S sz ([.ref (ad 0), .double (x), .double (y), .double (z)] : List Value)) (va_Qi (fun r u => q_node S.1 x y z r u.1 ∧ u.2 = S.2) (gB D (WX cs ad)) (gA (AX ad) sz)) 0 0 (gA (AX ad) sz) := by
  obtain ⟨⟨⟨nN, px, py, pz, fx, fy, fz, lf, ld, fi⟩, ⟨nB, fr, tt, ln, wi, sg, pu⟩, ⟨nR, rd, rx, ry, wv, fo⟩, ⟨re, dg⟩, ⟨nP, tp, bt, dp⟩⟩, ⟨sp, ac, kp, kc, kn, aw, dw, su, ss, sd⟩⟩ := S
  have hnN : nN ≤ 30 := hnN
  refine gMi (cc := cX6_node) (maxL := 7) (plainFor_of_name (by decide)) rfl (Nat.le_of_ble_eq_true rfl) ?_
  intro p e s m below meth c Q hx hb hts hown hml hsz hE hret H locs hP hS ls hl
  subst hsz
  have hown : s.vm.findClass RX6 = some m.cls := hown
  have hK : va_K D vwCl (tysX cs) s := hE.1
  have hD : ∀ u, va_D (gA (AX ad) s.heap.size) (WX cs ad u) := fun u => WX_D hd u
  have hl : lv_has ls 7 [(0, .ref (ad 0)), (1, .double (x)), (3, .double (y)), (5, .double (z))] := hl
  have f_10 := hts (.fieldLink RX6 10 "NetShapes" "nodes" "LNetShapes$Nodes;") (by decide +kernel)
  have f_53 := hts (.fieldLink RX6 53 "NetShapes$Nodes" "count" "I") (by decide +kernel)
  refine lv_aload_n hx hb dX6_node_0 rfl (lv_at hl 0 rfl) ?_
  refine va_get (D := D) (ci := 6) (v := .ref (ad 1)) (C := RX6) (T := TX6) (N := 6) hx hb hts iX6_node_X6 hown hK hP 0 rfl rfl 0 (by decide) f_10 (fun _ h9 => h9) rfl dX6_node_1 ?_
  refine va_get (D := D) (ci := 3) (v := .int (nI nN)) (C := RX3) (T := TX3) (N := 6) hx hb hts iX6_node_X3 hown hK hP 1 rfl rfl 5 (by decide) f_53 (fun _ h9 => h9) rfl dX6_node_4 ?_
  refine lv_bipush (v := nI 30) hx hb dX6_node_7 (by decide) ?_
  refine lv_icmp_ge (tgt := 34) hx hb dX6_node_9 (by decide) (fun c_9_1 => ?_) (fun c_9_1 => ?_)
  · skip
    have c_9_1 : 30 ≤ nN := (nI_leI (a := 30) (b := nN) (by omega) (by omega)).mp c_9_1
    refine lv_iconst (v := (-1 : Int32)) hx hb dX6_node_34 (by decide) ?_
    exact hret hS hP dX6_node_35 (⟨Or.inr ⟨fun q => absurd q.1 (by omega), rfl, rfl⟩, rfl⟩)
  · skip
    have c_9_1 : ¬ (30 ≤ nN) := fun q => c_9_1 ((nI_leI (a := 30) (b := nN) (by omega) (by omega)).mpr q)
    refine lv_dload_n hx hb dX6_node_12 rfl (lv_at hl 1 rfl) ?_
    refine g0i (va_runS (As := [.double (x)]) (rest := []) ⟨hx, hb, hml, hown, hts⟩ (kX6_isPlace l D H.size x) (va_cwS 1 hts gX6_node_X6_isPlace rfl rfl rfl (by decide +kernel) ⟨Nat.le_of_ble_eq_true rfl, Nat.le_of_ble_eq_true rfl⟩) (gPreS (eT_bl) w0_P (fun _ _ _ => trivial)) rfl rfl hl.1 rfl (lv_room (Nat.le_of_ble_eq_true rfl)) dX6_node_13 ⟨Nat.zero_le _, Nat.zero_le _⟩) hP hS (fun r_ H locs hw hP hS => ?_)
    rcases hw with ⟨rfl, b_2⟩ | ⟨rfl, b_2⟩
    · skip
      have b_2 : inR (x) 13875379345695965184 4652007308841189376 := b_2
      refine lv_if_eq (tgt := 34) hx hb dX6_node_16 (by decide) (fun c_16_3 => absurd c_16_3 (by decide)) (fun _ => ?_)
      refine lv_dload_n hx hb dX6_node_19 rfl (lv_at hl 2 rfl) ?_
      refine g0i (va_runS (As := [.double (y)]) (rest := []) ⟨hx, hb, hml, hown, hts⟩ (kX6_isPlace l D H.size y) (va_cwS 1 hts gX6_node_X6_isPlace rfl rfl rfl (by decide +kernel) ⟨Nat.le_of_ble_eq_true rfl, Nat.le_of_ble_eq_true rfl⟩) (gPreS (eT_bl) w0_P (fun _ _ _ => trivial)) rfl rfl hl.1 rfl (lv_room (Nat.le_of_ble_eq_true rfl)) dX6_node_20 ⟨Nat.zero_le _, Nat.zero_le _⟩) hP hS (fun r_ H locs hw hP hS => ?_)
      rcases hw with ⟨rfl, b_4⟩ | ⟨rfl, b_4⟩
      · skip
        have b_4 : inR (y) 13875379345695965184 4652007308841189376 := b_4
        refine lv_if_eq (tgt := 34) hx hb dX6_node_23 (by decide) (fun c_23_5 => absurd c_23_5 (by decide)) (fun _ => ?_)
        refine lv_dload hx hb dX6_node_26 (lv_at hl 3 rfl) ?_
        refine g0i (va_runS (As := [.double (z)]) (rest := []) ⟨hx, hb, hml, hown, hts⟩ (kX6_isPlace l D H.size z) (va_cwS 1 hts gX6_node_X6_isPlace rfl rfl rfl (by decide +kernel) ⟨Nat.le_of_ble_eq_true rfl, Nat.le_of_ble_eq_true rfl⟩) (gPreS (eT_bl) w0_P (fun _ _ _ => trivial)) rfl rfl hl.1 rfl (lv_room (Nat.le_of_ble_eq_true rfl)) dX6_node_28 ⟨Nat.zero_le _, Nat.zero_le _⟩) hP hS (fun r_ H locs hw hP hS => ?_)
        rcases hw with ⟨rfl, b_6⟩ | ⟨rfl, b_6⟩
        · skip
          have b_6 : inR (z) 13875379345695965184 4652007308841189376 := b_6
          refine lv_if_ne (tgt := 36) hx hb dX6_node_31 (by decide) (fun _ => ?_) (fun c_31_7 => absurd c_31_7 (by decide))
          refine lv_aload_n hx hb dX6_node_36 rfl (lv_at hl 0 rfl) ?_
          refine va_get (D := D) (ci := 6) (v := .ref (ad 1)) (C := RX6) (T := TX6) (N := 6) hx hb hts iX6_node_X6 hown hK hP 0 rfl rfl 0 (by decide) f_10 (fun _ h9 => h9) rfl dX6_node_37 ?_
          refine lv_dload_n hx hb dX6_node_40 rfl (lv_at hl 1 rfl) ?_
          refine lv_dload_n hx hb dX6_node_41 rfl (lv_at hl 2 rfl) ?_
          refine lv_dload hx hb dX6_node_42 (lv_at hl 3 rfl) ?_
          refine gci (va_runV (As := [.double (x), .double (y), .double (z)]) (rest := []) ⟨hx, hb, hml, hown, hts⟩ (kX3_add l D cs ad hd H.size (((nN, px, py, pz, fx, fy, fz, lf, ld, fi), (nB, fr, tt, ln, wi, sg, pu), (nR, rd, rx, ry, wv, fo), (re, dg), (nP, tp, bt, dp)), (sp, ac, kp, kc, kn, aw, dw, su, ss, sd)) (show nN < 30 by omega) x y z) (cwV 3 hts gX6_node_X3_add rfl rfl rfl (by decide +kernel) ⟨Nat.le_of_ble_eq_true rfl, Nat.le_of_ble_eq_true rfl⟩) (gPreV (EX_bl) (va_recv hK hP (ci := 3) (q0 := 1) rfl rfl) hP (fun U _ hW => EX_warm hW hE)) rfl rfl hl.1 rfl (lv_room (Nat.le_of_ble_eq_true rfl)) dX6_node_44 ⟨Nat.zero_le _, Nat.zero_le _⟩) hS (fun r_ u_ H locs hw hP hS => ?_)
          obtain ⟨rfl, rfl⟩ := hw
          have hP : va_P D vwCl (WX cs ad ((((nN + 1), (vf_upd px nN x), (vf_upd py nN y), (vf_upd pz nN z), fx, fy, fz, lf, ld, fi), (nB, fr, tt, ln, wi, sg, pu), (nR, rd, rx, ry, wv, fo), (re, dg), (nP, tp, bt, dp)), (sp, ac, kp, kc, kn, aw, dw, su, ss, sd))) H := hP
          exact hret hS hP dX6_node_47 (⟨Or.inl ⟨⟨(show nN < 30 by omega), b_2, b_4, b_6⟩, rfl, rfl⟩, rfl⟩)
        · skip
          have b_6 : ¬ (inR (z) 13875379345695965184 4652007308841189376) := b_6
          refine lv_if_ne (tgt := 36) hx hb dX6_node_31 (by decide) (fun c_31_8 => absurd c_31_8 (by decide)) (fun _ => ?_)
          refine lv_iconst (v := (-1 : Int32)) hx hb dX6_node_34 (by decide) ?_
          exact hret hS hP dX6_node_35 (⟨Or.inr ⟨fun q => absurd q.2.2.2 b_6, rfl, rfl⟩, rfl⟩)
      · skip
        have b_4 : ¬ (inR (y) 13875379345695965184 4652007308841189376) := b_4
        refine lv_if_eq (tgt := 34) hx hb dX6_node_23 (by decide) (fun _ => ?_) (fun c_23_9 => absurd c_23_9 (by decide))
        refine lv_iconst (v := (-1 : Int32)) hx hb dX6_node_34 (by decide) ?_
        exact hret hS hP dX6_node_35 (⟨Or.inr ⟨fun q => absurd q.2.2.1 b_4, rfl, rfl⟩, rfl⟩)
    · skip
      have b_2 : ¬ (inR (x) 13875379345695965184 4652007308841189376) := b_2
      refine lv_if_eq (tgt := 34) hx hb dX6_node_16 (by decide) (fun _ => ?_) (fun c_16_10 => absurd c_16_10 (by decide))
      refine lv_iconst (v := (-1 : Int32)) hx hb dX6_node_34 (by decide) ?_
      exact hret hS hP dX6_node_35 (⟨Or.inr ⟨fun q => absurd q.2.1 b_2, rfl, rfl⟩, rfl⟩)
theorem iX7_node_X7 : ∀ w ∈ u_ws RX7 TX7 31, w ∈ wsX7_node := by decide +kernel
set_option maxHeartbeats 4000000 in
set_option maxRecDepth 100000 in
theorem kX7_node (l : Launch) (D : va_G) (cs : Nat → ClassId) (ad : Nat → Nat) (hd : distM ad) (sz : Nat) (S : MS) (hnN : S.1.1.1 ≤ 30) (x y z : UInt64) : Met l yX7_node wsX7_node ({ frames := 1, cells := 0, slots := 0, locals := 25 } : Room) (gP D (WM cs ad) (EM D cs) S sz ([.ref (ad 0), .double (x), .double (y), .double (z)] : List Value)) (va_Qi (fun r u => q_node S.1 x y z r u.1 ∧ u.2 = S.2) (gB D (WM cs ad)) (gA (AM ad) sz)) 0 0 (gA (AM ad) sz) := by
  obtain ⟨⟨⟨nN, px, py, pz, fx, fy, fz, lf, ld, fi⟩, ⟨nB, fr, tt, ln, wi, sg, pu⟩, ⟨nR, rd, rx, ry, wv, fo⟩, ⟨re, dg⟩, ⟨nP, tp, bt, dp⟩⟩, ⟨nQ, fu⟩⟩ := S
  have hnN : nN ≤ 30 := hnN
  refine gMi (cc := cX7_node) (maxL := 7) (plainFor_of_name (by decide)) rfl (Nat.le_of_ble_eq_true rfl) ?_
  intro p e s m below meth c Q hx hb hts hown hml hsz hE hret H locs hP hS ls hl
  subst hsz
  have hown : s.vm.findClass RX7 = some m.cls := hown
  have hK : va_K D vwCl (tysX cs) s := hE.1
  have hD : ∀ u, va_D (gA (AM ad) s.heap.size) (WM cs ad u) := fun u => WM_D hd u
  have hl : lv_has ls 7 [(0, .ref (ad 0)), (1, .double (x)), (3, .double (y)), (5, .double (z))] := hl
  have c_93 := hts (.constantDouble RX7 93 13875379345695965184) (by decide +kernel)
  have c_95 := hts (.constantDouble RX7 95 4652007308841189376) (by decide +kernel)
  have f_7 := hts (.fieldLink RX7 7 "NetShapesModel" "x" "[D") (by decide +kernel)
  have f_13 := hts (.fieldLink RX7 13 "NetShapesModel" "y" "[D") (by decide +kernel)
  have f_16 := hts (.fieldLink RX7 16 "NetShapesModel" "z" "[D") (by decide +kernel)
  have f_89 := hts (.fieldLink RX7 89 "NetShapesModel" "nodes" "I") (by decide +kernel)
  refine lv_aload_n hx hb dX7_node_0 rfl (lv_at hl 0 rfl) ?_
  refine va_get (D := D) (ci := 7) (v := .int (nI nN)) (C := RX7) (T := TX7) (N := 31) hx hb hts iX7_node_X7 hown hK hP 0 rfl rfl 0 (by decide) f_89 (fun _ h9 => h9) rfl dX7_node_1 ?_
  refine lv_bipush (v := nI 30) hx hb dX7_node_4 (by decide) ?_
  refine lv_icmp_eq (tgt := 49) hx hb dX7_node_6 (by decide) (fun c_6_1 => ?_) (fun c_6_1 => ?_)
  · skip
    have c_6_1 : nN = 30 := (nI_eq (a := nN) (b := 30) (by omega) (by omega)).mp c_6_1
    refine lv_iconst (v := (-1 : Int32)) hx hb dX7_node_49 (by decide) ?_
    exact hret hS hP dX7_node_50 (⟨Or.inr ⟨fun q => absurd q.1 (by omega), rfl, rfl⟩, rfl⟩)
  · skip
    have c_6_1 : ¬ (nN = 30) := fun q => c_6_1 ((nI_eq (a := nN) (b := 30) (by omega) (by omega)).mpr q)
    refine lv_dload_n hx hb dX7_node_9 rfl (lv_at hl 1 rfl) ?_
    refine lv_ldc2d hx hb hown c_93 dX7_node_10 ?_
    refine lv_ldc2d hx hb hown c_95 dX7_node_13 ?_
    refine g0i (va_runS (As := [.double (x), .double (13875379345695965184), .double (4652007308841189376)]) (rest := []) ⟨hx, hb, hml, hown, hts⟩ (kX7_isIn l D H.size x 13875379345695965184 4652007308841189376) (va_cwS 3 hts gX7_node_X7_isIn rfl rfl rfl (by decide +kernel) ⟨Nat.le_of_ble_eq_true rfl, Nat.le_of_ble_eq_true rfl⟩) (gPreS (eT_bl) w0_P (fun _ _ _ => trivial)) rfl rfl hl.1 rfl (lv_room (Nat.le_of_ble_eq_true rfl)) dX7_node_16 ⟨Nat.zero_le _, Nat.zero_le _⟩) hP hS (fun r_ H locs hw hP hS => ?_)
    rcases hw with ⟨rfl, b_2⟩ | ⟨rfl, b_2⟩
    · skip
      have b_2 : inR (x) (13875379345695965184) (4652007308841189376) := b_2
      refine lv_if_eq (tgt := 49) hx hb dX7_node_19 (by decide) (fun c_19_3 => absurd c_19_3 (by decide)) (fun _ => ?_)
      refine lv_dload_n hx hb dX7_node_22 rfl (lv_at hl 2 rfl) ?_
      refine lv_ldc2d hx hb hown c_93 dX7_node_23 ?_
      refine lv_ldc2d hx hb hown c_95 dX7_node_26 ?_
      refine g0i (va_runS (As := [.double (y), .double (13875379345695965184), .double (4652007308841189376)]) (rest := []) ⟨hx, hb, hml, hown, hts⟩ (kX7_isIn l D H.size y 13875379345695965184 4652007308841189376) (va_cwS 3 hts gX7_node_X7_isIn rfl rfl rfl (by decide +kernel) ⟨Nat.le_of_ble_eq_true rfl, Nat.le_of_ble_eq_true rfl⟩) (gPreS (eT_bl) w0_P (fun _ _ _ => trivial)) rfl rfl hl.1 rfl (lv_room (Nat.le_of_ble_eq_true rfl)) dX7_node_29 ⟨Nat.zero_le _, Nat.zero_le _⟩) hP hS (fun r_ H locs hw hP hS => ?_)
      rcases hw with ⟨rfl, b_4⟩ | ⟨rfl, b_4⟩
      · skip
        have b_4 : inR (y) (13875379345695965184) (4652007308841189376) := b_4
        refine lv_if_eq (tgt := 49) hx hb dX7_node_32 (by decide) (fun c_32_5 => absurd c_32_5 (by decide)) (fun _ => ?_)
        refine lv_dload hx hb dX7_node_35 (lv_at hl 3 rfl) ?_
        refine lv_ldc2d hx hb hown c_93 dX7_node_37 ?_
        refine lv_ldc2d hx hb hown c_95 dX7_node_40 ?_
        refine g0i (va_runS (As := [.double (z), .double (13875379345695965184), .double (4652007308841189376)]) (rest := []) ⟨hx, hb, hml, hown, hts⟩ (kX7_isIn l D H.size z 13875379345695965184 4652007308841189376) (va_cwS 3 hts gX7_node_X7_isIn rfl rfl rfl (by decide +kernel) ⟨Nat.le_of_ble_eq_true rfl, Nat.le_of_ble_eq_true rfl⟩) (gPreS (eT_bl) w0_P (fun _ _ _ => trivial)) rfl rfl hl.1 rfl (lv_room (Nat.le_of_ble_eq_true rfl)) dX7_node_43 ⟨Nat.zero_le _, Nat.zero_le _⟩) hP hS (fun r_ H locs hw hP hS => ?_)
        rcases hw with ⟨rfl, b_6⟩ | ⟨rfl, b_6⟩
        · skip
          have b_6 : inR (z) (13875379345695965184) (4652007308841189376) := b_6
          refine lv_if_ne (tgt := 51) hx hb dX7_node_46 (by decide) (fun _ => ?_) (fun c_46_7 => absurd c_46_7 (by decide))
          refine lv_aload_n hx hb dX7_node_51 rfl (lv_at hl 0 rfl) ?_
          refine va_get (D := D) (ci := 7) (v := .ref (ad 1)) (C := RX7) (T := TX7) (N := 31) hx hb hts iX7_node_X7 hown hK hP 0 rfl rfl 1 (by decide) f_7 (fun _ h9 => h9) rfl dX7_node_52 ?_
          refine lv_aload_n hx hb dX7_node_55 rfl (lv_at hl 0 rfl) ?_
          refine va_get (D := D) (ci := 7) (v := .int (nI nN)) (C := RX7) (T := TX7) (N := 31) hx hb hts iX7_node_X7 hown hK hP 0 rfl rfl 0 (by decide) f_89 (fun _ h9 => h9) rfl dX7_node_56 ?_
          refine lv_dload_n hx hb dX7_node_59 rfl (lv_at hl 1 rfl) ?_
          refine xds hx hb hK hD hP hS 1 0 (((nN, (vf_upd px nN x), py, pz, fx, fy, fz, lf, ld, fi), (nB, fr, tt, ln, wi, sg, pu), (nR, rd, rx, ry, wv, fo), (re, dg), (nP, tp, bt, dp)), (nQ, fu)) rfl rfl (j := nN) (by decide) (by omega) rfl dX7_node_60 (fun H locs hP hS => ?_)
          refine lv_aload_n hx hb dX7_node_61 rfl (lv_at hl 0 rfl) ?_
          refine va_get (D := D) (ci := 7) (v := .ref (ad 2)) (C := RX7) (T := TX7) (N := 31) hx hb hts iX7_node_X7 hown hK hP 0 rfl rfl 2 (by decide) f_13 (fun _ h9 => h9) rfl dX7_node_62 ?_
          refine lv_aload_n hx hb dX7_node_65 rfl (lv_at hl 0 rfl) ?_
          refine va_get (D := D) (ci := 7) (v := .int (nI nN)) (C := RX7) (T := TX7) (N := 31) hx hb hts iX7_node_X7 hown hK hP 0 rfl rfl 0 (by decide) f_89 (fun _ h9 => h9) rfl dX7_node_66 ?_
          refine lv_dload_n hx hb dX7_node_69 rfl (lv_at hl 2 rfl) ?_
          refine xds hx hb hK hD hP hS 2 0 (((nN, (vf_upd px nN x), (vf_upd py nN y), pz, fx, fy, fz, lf, ld, fi), (nB, fr, tt, ln, wi, sg, pu), (nR, rd, rx, ry, wv, fo), (re, dg), (nP, tp, bt, dp)), (nQ, fu)) rfl rfl (j := nN) (by decide) (by omega) rfl dX7_node_70 (fun H locs hP hS => ?_)
          refine lv_aload_n hx hb dX7_node_71 rfl (lv_at hl 0 rfl) ?_
          refine va_get (D := D) (ci := 7) (v := .ref (ad 3)) (C := RX7) (T := TX7) (N := 31) hx hb hts iX7_node_X7 hown hK hP 0 rfl rfl 3 (by decide) f_16 (fun _ h9 => h9) rfl dX7_node_72 ?_
          refine lv_aload_n hx hb dX7_node_75 rfl (lv_at hl 0 rfl) ?_
          refine va_get (D := D) (ci := 7) (v := .int (nI nN)) (C := RX7) (T := TX7) (N := 31) hx hb hts iX7_node_X7 hown hK hP 0 rfl rfl 0 (by decide) f_89 (fun _ h9 => h9) rfl dX7_node_76 ?_
          refine lv_dload hx hb dX7_node_79 (lv_at hl 3 rfl) ?_
          refine xds hx hb hK hD hP hS 3 0 (((nN, (vf_upd px nN x), (vf_upd py nN y), (vf_upd pz nN z), fx, fy, fz, lf, ld, fi), (nB, fr, tt, ln, wi, sg, pu), (nR, rd, rx, ry, wv, fo), (re, dg), (nP, tp, bt, dp)), (nQ, fu)) rfl rfl (j := nN) (by decide) (by omega) rfl dX7_node_81 (fun H locs hP hS => ?_)
          refine lv_aload_n hx hb dX7_node_82 rfl (lv_at hl 0 rfl) ?_
          refine lv_dup hx hb dX7_node_83 rfl ?_
          refine va_get (D := D) (ci := 7) (v := .int (nI nN)) (C := RX7) (T := TX7) (N := 31) hx hb hts iX7_node_X7 hown hK hP 0 rfl rfl 0 (by decide) f_89 (fun _ h9 => h9) rfl dX7_node_84 ?_
          refine lv_iconst (v := nI 1) hx hb dX7_node_87 (by decide) ?_
          refine xia hx hb (nN + 1) dX7_node_88 rfl ?_
          refine xput (D := D) (ci := 7) (v := .int (nI (nN + 1))) (ty := .int) (C := RX7) (T := TX7) (N := 31) hx hb hts iX7_node_X7 tyX7 tyX7_ok nmX7 hown hK hD hP hS 0 ((((nN + 1), (vf_upd px nN x), (vf_upd py nN y), (vf_upd pz nN z), fx, fy, fz, lf, ld, fi), (nB, fr, tt, ln, wi, sg, pu), (nR, rd, rx, ry, wv, fo), (re, dg), (nP, tp, bt, dp)), (nQ, fu)) rfl rfl 0 (by decide) f_89 (fun _ h9 => h9) rfl (by decide +kernel) rfl rfl (Nat.le_of_ble_eq_true rfl) rfl dX7_node_89 (fun H locs hP hS => ?_)
          refine lv_aload_n hx hb dX7_node_92 rfl (lv_at hl 0 rfl) ?_
          refine va_get (D := D) (ci := 7) (v := .int (nI ((nN + 1)))) (C := RX7) (T := TX7) (N := 31) hx hb hts iX7_node_X7 hown hK hP 0 rfl rfl 0 (by decide) f_89 (fun _ h9 => h9) rfl dX7_node_93 ?_
          refine lv_iconst (v := nI 1) hx hb dX7_node_96 (by decide) ?_
          refine xib hx hb (nN) dX7_node_97 (rfl) ?_
          exact hret hS hP dX7_node_98 (⟨Or.inl ⟨⟨(show nN < 30 by omega), b_2, b_4, b_6⟩, rfl, rfl⟩, rfl⟩)
        · skip
          have b_6 : ¬ (inR (z) (13875379345695965184) (4652007308841189376)) := b_6
          refine lv_if_ne (tgt := 51) hx hb dX7_node_46 (by decide) (fun c_46_8 => absurd c_46_8 (by decide)) (fun _ => ?_)
          refine lv_iconst (v := (-1 : Int32)) hx hb dX7_node_49 (by decide) ?_
          exact hret hS hP dX7_node_50 (⟨Or.inr ⟨fun q => absurd q.2.2.2 b_6, rfl, rfl⟩, rfl⟩)
      · skip
        have b_4 : ¬ (inR (y) (13875379345695965184) (4652007308841189376)) := b_4
        refine lv_if_eq (tgt := 49) hx hb dX7_node_32 (by decide) (fun _ => ?_) (fun c_32_9 => absurd c_32_9 (by decide))
        refine lv_iconst (v := (-1 : Int32)) hx hb dX7_node_49 (by decide) ?_
        exact hret hS hP dX7_node_50 (⟨Or.inr ⟨fun q => absurd q.2.2.1 b_4, rfl, rfl⟩, rfl⟩)
    · skip
      have b_2 : ¬ (inR (x) (13875379345695965184) (4652007308841189376)) := b_2
      refine lv_if_eq (tgt := 49) hx hb dX7_node_19 (by decide) (fun _ => ?_) (fun c_19_10 => absurd c_19_10 (by decide))
      refine lv_iconst (v := (-1 : Int32)) hx hb dX7_node_49 (by decide) ?_
      exact hret hS hP dX7_node_50 (⟨Or.inr ⟨fun q => absurd q.2.1 b_2, rfl, rfl⟩, rfl⟩)
theorem iX6_bar_X1 : ∀ w ∈ u_ws RX1 TX1 7, w ∈ wsX6_bar := by decide +kernel
theorem iX6_bar_X6 : ∀ w ∈ u_ws RX6 TX6 6, w ∈ wsX6_bar := by decide +kernel
set_option maxHeartbeats 4000000 in
set_option maxRecDepth 100000 in
theorem kX6_bar (l : Launch) (D : va_G) (cs : Nat → ClassId) (ad : Nat → Nat) (hd : distX ad) (sz : Nat) (S : XS) (hnN : S.1.1.1 ≤ 30)(hnB : S.1.2.1.1 ≤ 60) (a b : Int32) (x y z : UInt64) : Met l yX6_bar wsX6_bar ({ frames := 1, cells := 0, slots := 0, locals := 29 } : Room) (gP D (WX cs ad) (EX D cs) S sz ([.ref (ad 0), .int (a), .int (b), .double (x), .double (y), .double (z)] : List Value)) (va_Qi (fun r u => q_bar S.1 a b x y z r u.1 ∧ u.2 = S.2) (gB D (WX cs ad)) (gA (AX ad) sz)) 0 0 (gA (AX ad) sz) := by
  obtain ⟨⟨⟨nN, px, py, pz, fx, fy, fz, lf, ld, fi⟩, ⟨nB, fr, tt, ln, wi, sg, pu⟩, ⟨nR, rd, rx, ry, wv, fo⟩, ⟨re, dg⟩, ⟨nP, tp, bt, dp⟩⟩, ⟨sp, ac, kp, kc, kn, aw, dw, su, ss, sd⟩⟩ := S
  have hnN : nN ≤ 30 := hnN
  have hnB : nB ≤ 60 := hnB
  refine gMi (cc := cX6_bar) (maxL := 9) (plainFor_of_name (by decide)) rfl (Nat.le_of_ble_eq_true rfl) ?_
  intro p e s m below meth c Q hx hb hts hown hml hsz hE hret H locs hP hS ls hl
  subst hsz
  have hown : s.vm.findClass RX6 = some m.cls := hown
  have hK : va_K D vwCl (tysX cs) s := hE.1
  have hD : ∀ u, va_D (gA (AX ad) s.heap.size) (WX cs ad u) := fun u => WX_D hd u
  have hl : lv_has ls 9 [(0, .ref (ad 0)), (1, .int (a)), (2, .int (b)), (3, .double (x)), (5, .double (y)), (7, .double (z))] := hl
  have c_70 := hts (.constantDouble RX6 70 4593671619917905920) (by decide +kernel)
  have c_72 := hts (.constantDouble RX6 72 4652007308841189376) (by decide +kernel)
  have c_78 := hts (.constantDouble RX6 78 4621819117588971520) (by decide +kernel)
  have c_80 := hts (.constantDouble RX6 80 4696837146684686336) (by decide +kernel)
  have f_10 := hts (.fieldLink RX6 10 "NetShapes" "nodes" "LNetShapes$Nodes;") (by decide +kernel)
  have f_19 := hts (.fieldLink RX6 19 "NetShapes" "bars" "LNetShapes$Bars;") (by decide +kernel)
  have f_69 := hts (.fieldLink RX6 69 "NetShapes$Bars" "count" "I") (by decide +kernel)
  refine lv_aload_n hx hb dX6_bar_0 rfl (lv_at hl 0 rfl) ?_
  refine va_get (D := D) (ci := 6) (v := .ref (ad 1)) (C := RX6) (T := TX6) (N := 6) hx hb hts iX6_bar_X6 hown hK hP 0 rfl rfl 0 (by decide) f_10 (fun _ h9 => h9) rfl dX6_bar_1 ?_
  refine lv_iload_n hx hb dX6_bar_4 rfl (lv_at hl 1 rfl) ?_
  refine gci (va_runV (As := [.int (a)]) (rest := []) ⟨hx, hb, hml, hown, hts⟩ (kX3_has l D cs ad hd H.size (((nN, px, py, pz, fx, fy, fz, lf, ld, fi), (nB, fr, tt, ln, wi, sg, pu), (nR, rd, rx, ry, wv, fo), (re, dg), (nP, tp, bt, dp)), (sp, ac, kp, kc, kn, aw, dw, su, ss, sd)) hnN a) (cwV 1 hts gX6_bar_X3_has rfl rfl rfl (by decide +kernel) ⟨Nat.le_of_ble_eq_true rfl, Nat.le_of_ble_eq_true rfl⟩) (gPreV (EX_bl) (va_recv hK hP (ci := 3) (q0 := 1) rfl rfl) hP (fun U _ hW => EX_warm hW hE)) rfl rfl hl.1 rfl (lv_room (Nat.le_of_ble_eq_true rfl)) dX6_bar_5 ⟨Nat.zero_le _, Nat.zero_le _⟩) hS (fun r_ u_ H locs hw hP hS => ?_)
  obtain ⟨rfl, hw⟩ := hw
  rcases hw with ⟨rfl, b_1⟩ | ⟨rfl, b_1⟩
  · skip
    have b_1 : inN (nN) (a) := b_1
    refine lv_if_eq (tgt := 39) hx hb dX6_bar_8 (by decide) (fun c_8_2 => absurd c_8_2 (by decide)) (fun _ => ?_)
    refine lv_aload_n hx hb dX6_bar_11 rfl (lv_at hl 0 rfl) ?_
    refine va_get (D := D) (ci := 6) (v := .ref (ad 1)) (C := RX6) (T := TX6) (N := 6) hx hb hts iX6_bar_X6 hown hK hP 0 rfl rfl 0 (by decide) f_10 (fun _ h9 => h9) rfl dX6_bar_12 ?_
    refine lv_iload_n hx hb dX6_bar_15 rfl (lv_at hl 2 rfl) ?_
    refine gci (va_runV (As := [.int (b)]) (rest := []) ⟨hx, hb, hml, hown, hts⟩ (kX3_has l D cs ad hd H.size (((nN, px, py, pz, fx, fy, fz, lf, ld, fi), (nB, fr, tt, ln, wi, sg, pu), (nR, rd, rx, ry, wv, fo), (re, dg), (nP, tp, bt, dp)), (sp, ac, kp, kc, kn, aw, dw, su, ss, sd)) hnN b) (cwV 1 hts gX6_bar_X3_has rfl rfl rfl (by decide +kernel) ⟨Nat.le_of_ble_eq_true rfl, Nat.le_of_ble_eq_true rfl⟩) (gPreV (EX_bl) (va_recv hK hP (ci := 3) (q0 := 1) rfl rfl) hP (fun U _ hW => EX_warm hW hE)) rfl rfl hl.1 rfl (lv_room (Nat.le_of_ble_eq_true rfl)) dX6_bar_16 ⟨Nat.zero_le _, Nat.zero_le _⟩) hS (fun r_ u_ H locs hw hP hS => ?_)
    obtain ⟨rfl, hw⟩ := hw
    rcases hw with ⟨rfl, b_3⟩ | ⟨rfl, b_3⟩
    · skip
      have b_3 : inN (nN) (b) := b_3
      refine lv_if_eq (tgt := 39) hx hb dX6_bar_19 (by decide) (fun c_19_4 => absurd c_19_4 (by decide)) (fun _ => ?_)
      refine lv_iload_n hx hb dX6_bar_22 rfl (lv_at hl 1 rfl) ?_
      refine lv_iload_n hx hb dX6_bar_23 rfl (lv_at hl 2 rfl) ?_
      refine lv_icmp_eq (tgt := 39) hx hb dX6_bar_24 (by decide) (fun c_24_5 => ?_) (fun c_24_5 => ?_)
      · skip
        refine lv_iconst (v := (-1 : Int32)) hx hb dX6_bar_39 (by decide) ?_
        exact hret hS hP dX6_bar_40 (⟨Or.inr ⟨fun q => q.2.2.1 c_24_5, rfl, rfl⟩, rfl⟩)
      · skip
        refine lv_aload_n hx hb dX6_bar_27 rfl (lv_at hl 0 rfl) ?_
        refine va_get (D := D) (ci := 6) (v := .ref (ad 2)) (C := RX6) (T := TX6) (N := 6) hx hb hts iX6_bar_X6 hown hK hP 0 rfl rfl 1 (by decide) f_19 (fun _ h9 => h9) rfl dX6_bar_28 ?_
        refine va_get (D := D) (ci := 1) (v := .int (nI nB)) (C := RX1) (T := TX1) (N := 7) hx hb hts iX6_bar_X1 hown hK hP 2 rfl rfl 6 (by decide) f_69 (fun _ h9 => h9) rfl dX6_bar_31 ?_
        refine lv_bipush (v := nI 60) hx hb dX6_bar_34 (by decide) ?_
        refine lv_icmp_lt (tgt := 41) hx hb dX6_bar_36 (by decide) (fun c_36_6 => ?_) (fun c_36_6 => ?_)
        · skip
          have c_36_6 : nB < 60 := (nI_ltI (a := nB) (b := 60) (by omega) (by omega)).mp c_36_6
          refine lv_dload_n hx hb dX6_bar_41 rfl (lv_at hl 3 rfl) ?_
          refine lv_ldc2d hx hb hown c_70 dX6_bar_42 ?_
          refine lv_ldc2d hx hb hown c_72 dX6_bar_45 ?_
          refine g0i (va_runS (As := [.double (x), .double (4593671619917905920), .double (4652007308841189376)]) (rest := []) ⟨hx, hb, hml, hown, hts⟩ (kX6_within l D H.size x 4593671619917905920 4652007308841189376) (va_cwS 3 hts gX6_bar_X6_within rfl rfl rfl (by decide +kernel) ⟨Nat.le_of_ble_eq_true rfl, Nat.le_of_ble_eq_true rfl⟩) (gPreS (eT_bl) w0_P (fun _ _ _ => trivial)) rfl rfl hl.1 rfl (lv_room (Nat.le_of_ble_eq_true rfl)) dX6_bar_48 ⟨Nat.zero_le _, Nat.zero_le _⟩) hP hS (fun r_ H locs hw hP hS => ?_)
          rcases hw with ⟨rfl, b_7⟩ | ⟨rfl, b_7⟩
          · skip
            have b_7 : inR (x) (4593671619917905920) (4652007308841189376) := b_7
            refine lv_if_eq (tgt := 78) hx hb dX6_bar_51 (by decide) (fun c_51_8 => absurd c_51_8 (by decide)) (fun _ => ?_)
            refine lv_dload hx hb dX6_bar_54 (lv_at hl 4 rfl) ?_
            refine lv_dconst0 hx hb dX6_bar_56 ?_
            refine lv_ldc2d hx hb hown c_78 dX6_bar_57 ?_
            refine g0i (va_runS (As := [.double (y), .double (FP.dconst0), .double (4621819117588971520)]) (rest := []) ⟨hx, hb, hml, hown, hts⟩ (kX6_within l D H.size y FP.dconst0 4621819117588971520) (va_cwS 3 hts gX6_bar_X6_within rfl rfl rfl (by decide +kernel) ⟨Nat.le_of_ble_eq_true rfl, Nat.le_of_ble_eq_true rfl⟩) (gPreS (eT_bl) w0_P (fun _ _ _ => trivial)) rfl rfl hl.1 rfl (lv_room (Nat.le_of_ble_eq_true rfl)) dX6_bar_60 ⟨Nat.zero_le _, Nat.zero_le _⟩) hP hS (fun r_ H locs hw hP hS => ?_)
            rcases hw with ⟨rfl, b_9⟩ | ⟨rfl, b_9⟩
            · skip
              have b_9 : inR (y) (FP.dconst0) (4621819117588971520) := b_9
              refine lv_if_eq (tgt := 78) hx hb dX6_bar_63 (by decide) (fun c_63_10 => absurd c_63_10 (by decide)) (fun _ => ?_)
              refine lv_dload hx hb dX6_bar_66 (lv_at hl 5 rfl) ?_
              refine lv_dconst0 hx hb dX6_bar_68 ?_
              refine lv_ldc2d hx hb hown c_80 dX6_bar_69 ?_
              refine g0i (va_runS (As := [.double (z), .double (FP.dconst0), .double (4696837146684686336)]) (rest := []) ⟨hx, hb, hml, hown, hts⟩ (kX6_within l D H.size z FP.dconst0 4696837146684686336) (va_cwS 3 hts gX6_bar_X6_within rfl rfl rfl (by decide +kernel) ⟨Nat.le_of_ble_eq_true rfl, Nat.le_of_ble_eq_true rfl⟩) (gPreS (eT_bl) w0_P (fun _ _ _ => trivial)) rfl rfl hl.1 rfl (lv_room (Nat.le_of_ble_eq_true rfl)) dX6_bar_72 ⟨Nat.zero_le _, Nat.zero_le _⟩) hP hS (fun r_ H locs hw hP hS => ?_)
              rcases hw with ⟨rfl, b_11⟩ | ⟨rfl, b_11⟩
              · skip
                have b_11 : inR (z) (FP.dconst0) (4696837146684686336) := b_11
                refine lv_if_ne (tgt := 80) hx hb dX6_bar_75 (by decide) (fun _ => ?_) (fun c_75_12 => absurd c_75_12 (by decide))
                refine lv_aload_n hx hb dX6_bar_80 rfl (lv_at hl 0 rfl) ?_
                refine va_get (D := D) (ci := 6) (v := .ref (ad 2)) (C := RX6) (T := TX6) (N := 6) hx hb hts iX6_bar_X6 hown hK hP 0 rfl rfl 1 (by decide) f_19 (fun _ h9 => h9) rfl dX6_bar_81 ?_
                refine lv_iload_n hx hb dX6_bar_84 rfl (lv_at hl 1 rfl) ?_
                refine lv_iload_n hx hb dX6_bar_85 rfl (lv_at hl 2 rfl) ?_
                refine lv_dload_n hx hb dX6_bar_86 rfl (lv_at hl 3 rfl) ?_
                refine lv_dload hx hb dX6_bar_87 (lv_at hl 4 rfl) ?_
                refine lv_dload hx hb dX6_bar_89 (lv_at hl 5 rfl) ?_
                refine gci (va_runV (As := [.int (a), .int (b), .double (x), .double (y), .double (z)]) (rest := []) ⟨hx, hb, hml, hown, hts⟩ (kX1_add l D cs ad hd H.size (((nN, px, py, pz, fx, fy, fz, lf, ld, fi), (nB, fr, tt, ln, wi, sg, pu), (nR, rd, rx, ry, wv, fo), (re, dg), (nP, tp, bt, dp)), (sp, ac, kp, kc, kn, aw, dw, su, ss, sd)) (show nB < 60 by omega) a b x y z) (cwV 5 hts gX6_bar_X1_add rfl rfl rfl (by decide +kernel) ⟨Nat.le_of_ble_eq_true rfl, Nat.le_of_ble_eq_true rfl⟩) (gPreV (EX_bl) (va_recv hK hP (ci := 1) (q0 := 2) rfl rfl) hP (fun U _ hW => EX_warm hW hE)) rfl rfl hl.1 rfl (lv_room (Nat.le_of_ble_eq_true rfl)) dX6_bar_91 ⟨Nat.zero_le _, Nat.zero_le _⟩) hS (fun r_ u_ H locs hw hP hS => ?_)
                obtain ⟨rfl, rfl⟩ := hw
                have hP : va_P D vwCl (WX cs ad (((nN, px, py, pz, fx, fy, fz, lf, ld, fi), ((nB + 1), (upd fr nB a), (upd tt nB b), (vf_upd ln nB x), (vf_upd wi nB y), (vf_upd sg nB z), (vf_upd pu nB 13830554455654793216)), (nR, rd, rx, ry, wv, fo), (re, dg), (nP, tp, bt, dp)), (sp, ac, kp, kc, kn, aw, dw, su, ss, sd))) H := hP
                exact hret hS hP dX6_bar_94 (⟨Or.inl ⟨⟨b_1, b_3, c_24_5, (show nB < 60 by omega), b_7, b_9, b_11⟩, rfl, rfl⟩, rfl⟩)
              · skip
                have b_11 : ¬ (inR (z) (FP.dconst0) (4696837146684686336)) := b_11
                refine lv_if_ne (tgt := 80) hx hb dX6_bar_75 (by decide) (fun c_75_13 => absurd c_75_13 (by decide)) (fun _ => ?_)
                refine lv_iconst (v := (-1 : Int32)) hx hb dX6_bar_78 (by decide) ?_
                exact hret hS hP dX6_bar_79 (⟨Or.inr ⟨fun q => absurd q.2.2.2.2.2.2 b_11, rfl, rfl⟩, rfl⟩)
            · skip
              have b_9 : ¬ (inR (y) (FP.dconst0) (4621819117588971520)) := b_9
              refine lv_if_eq (tgt := 78) hx hb dX6_bar_63 (by decide) (fun _ => ?_) (fun c_63_14 => absurd c_63_14 (by decide))
              refine lv_iconst (v := (-1 : Int32)) hx hb dX6_bar_78 (by decide) ?_
              exact hret hS hP dX6_bar_79 (⟨Or.inr ⟨fun q => absurd q.2.2.2.2.2.1 b_9, rfl, rfl⟩, rfl⟩)
          · skip
            have b_7 : ¬ (inR (x) (4593671619917905920) (4652007308841189376)) := b_7
            refine lv_if_eq (tgt := 78) hx hb dX6_bar_51 (by decide) (fun _ => ?_) (fun c_51_15 => absurd c_51_15 (by decide))
            refine lv_iconst (v := (-1 : Int32)) hx hb dX6_bar_78 (by decide) ?_
            exact hret hS hP dX6_bar_79 (⟨Or.inr ⟨fun q => absurd q.2.2.2.2.1 b_7, rfl, rfl⟩, rfl⟩)
        · skip
          have c_36_6 : ¬ (nB < 60) := fun q => c_36_6 ((nI_ltI (a := nB) (b := 60) (by omega) (by omega)).mpr q)
          refine lv_iconst (v := (-1 : Int32)) hx hb dX6_bar_39 (by decide) ?_
          exact hret hS hP dX6_bar_40 (⟨Or.inr ⟨fun q => absurd q.2.2.2.1 (by omega), rfl, rfl⟩, rfl⟩)
    · skip
      have b_3 : ¬ (inN (nN) (b)) := b_3
      refine lv_if_eq (tgt := 39) hx hb dX6_bar_19 (by decide) (fun _ => ?_) (fun c_19_16 => absurd c_19_16 (by decide))
      refine lv_iconst (v := (-1 : Int32)) hx hb dX6_bar_39 (by decide) ?_
      exact hret hS hP dX6_bar_40 (⟨Or.inr ⟨fun q => absurd q.2.1 b_3, rfl, rfl⟩, rfl⟩)
  · skip
    have b_1 : ¬ (inN (nN) (a)) := b_1
    refine lv_if_eq (tgt := 39) hx hb dX6_bar_8 (by decide) (fun _ => ?_) (fun c_8_17 => absurd c_8_17 (by decide))
    refine lv_iconst (v := (-1 : Int32)) hx hb dX6_bar_39 (by decide) ?_
    exact hret hS hP dX6_bar_40 (⟨Or.inr ⟨fun q => absurd q.1 b_1, rfl, rfl⟩, rfl⟩)
theorem iX7_bar_X7 : ∀ w ∈ u_ws RX7 TX7 31, w ∈ wsX7_bar := by decide +kernel
set_option maxHeartbeats 4000000 in
set_option maxRecDepth 100000 in
theorem kX7_bar (l : Launch) (D : va_G) (cs : Nat → ClassId) (ad : Nat → Nat) (hd : distM ad) (sz : Nat) (S : MS) (hnN : S.1.1.1 ≤ 30)(hnB : S.1.2.1.1 ≤ 60) (a b : Int32) (x y z : UInt64) : Met l yX7_bar wsX7_bar ({ frames := 1, cells := 0, slots := 0, locals := 25 } : Room) (gP D (WM cs ad) (EM D cs) S sz ([.ref (ad 0), .int (a), .int (b), .double (x), .double (y), .double (z)] : List Value)) (va_Qi (fun r u => q_bar S.1 a b x y z r u.1 ∧ u.2 = S.2) (gB D (WM cs ad)) (gA (AM ad) sz)) 0 0 (gA (AM ad) sz) := by
  obtain ⟨⟨⟨nN, px, py, pz, fx, fy, fz, lf, ld, fi⟩, ⟨nB, fr, tt, ln, wi, sg, pu⟩, ⟨nR, rd, rx, ry, wv, fo⟩, ⟨re, dg⟩, ⟨nP, tp, bt, dp⟩⟩, ⟨nQ, fu⟩⟩ := S
  have hnN : nN ≤ 30 := hnN
  have hnB : nB ≤ 60 := hnB
  refine gMi (cc := cX7_bar) (maxL := 9) (plainFor_of_name (by decide)) rfl (Nat.le_of_ble_eq_true rfl) ?_
  intro p e s m below meth c Q hx hb hts hown hml hsz hE hret H locs hP hS ls hl
  subst hsz
  have hown : s.vm.findClass RX7 = some m.cls := hown
  have hK : va_K D vwCl (tysX cs) s := hE.1
  have hD : ∀ u, va_D (gA (AM ad) s.heap.size) (WM cs ad u) := fun u => WM_D hd u
  have hl : lv_has ls 9 [(0, .ref (ad 0)), (1, .int (a)), (2, .int (b)), (3, .double (x)), (5, .double (y)), (7, .double (z))] := hl
  have c_66 := hts (.constantDouble RX7 66 13830554455654793216) (by decide +kernel)
  have c_95 := hts (.constantDouble RX7 95 4652007308841189376) (by decide +kernel)
  have c_108 := hts (.constantDouble RX7 108 4593671619917905920) (by decide +kernel)
  have c_110 := hts (.constantDouble RX7 110 4621819117588971520) (by decide +kernel)
  have c_112 := hts (.constantDouble RX7 112 4696837146684686336) (by decide +kernel)
  have f_38 := hts (.fieldLink RX7 38 "NetShapesModel" "from" "[I") (by decide +kernel)
  have f_42 := hts (.fieldLink RX7 42 "NetShapesModel" "to" "[I") (by decide +kernel)
  have f_45 := hts (.fieldLink RX7 45 "NetShapesModel" "natural" "[D") (by decide +kernel)
  have f_48 := hts (.fieldLink RX7 48 "NetShapesModel" "width" "[D") (by decide +kernel)
  have f_51 := hts (.fieldLink RX7 51 "NetShapesModel" "strong" "[D") (by decide +kernel)
  have f_54 := hts (.fieldLink RX7 54 "NetShapesModel" "pulls" "[D") (by decide +kernel)
  have f_105 := hts (.fieldLink RX7 105 "NetShapesModel" "bars" "I") (by decide +kernel)
  refine lv_aload_n hx hb dX7_bar_0 rfl (lv_at hl 0 rfl) ?_
  refine lv_iload_n hx hb dX7_bar_1 rfl (lv_at hl 1 rfl) ?_
  refine gci (va_runV (As := [.int (a)]) (rest := []) ⟨hx, hb, hml, hown, hts⟩ (kX7_isNode l D cs ad hd H.size (((nN, px, py, pz, fx, fy, fz, lf, ld, fi), (nB, fr, tt, ln, wi, sg, pu), (nR, rd, rx, ry, wv, fo), (re, dg), (nP, tp, bt, dp)), (nQ, fu)) hnN a) (cwV 1 hts gX7_bar_X7_isNode rfl rfl rfl (by decide +kernel) ⟨Nat.le_of_ble_eq_true rfl, Nat.le_of_ble_eq_true rfl⟩) (gPreV (EM_bl) (va_recv hK hP (ci := 7) (q0 := 0) rfl rfl) hP (fun U _ hW => EM_warm hW hE)) rfl rfl hl.1 rfl (lv_room (Nat.le_of_ble_eq_true rfl)) dX7_bar_2 ⟨Nat.zero_le _, Nat.zero_le _⟩) hS (fun r_ u_ H locs hw hP hS => ?_)
  obtain ⟨rfl, hw⟩ := hw
  rcases hw with ⟨rfl, b_1⟩ | ⟨rfl, b_1⟩
  · skip
    have b_1 : inN (nN) (a) := b_1
    refine lv_if_eq (tgt := 67) hx hb dX7_bar_5 (by decide) (fun c_5_2 => absurd c_5_2 (by decide)) (fun _ => ?_)
    refine lv_aload_n hx hb dX7_bar_8 rfl (lv_at hl 0 rfl) ?_
    refine lv_iload_n hx hb dX7_bar_9 rfl (lv_at hl 2 rfl) ?_
    refine gci (va_runV (As := [.int (b)]) (rest := []) ⟨hx, hb, hml, hown, hts⟩ (kX7_isNode l D cs ad hd H.size (((nN, px, py, pz, fx, fy, fz, lf, ld, fi), (nB, fr, tt, ln, wi, sg, pu), (nR, rd, rx, ry, wv, fo), (re, dg), (nP, tp, bt, dp)), (nQ, fu)) hnN b) (cwV 1 hts gX7_bar_X7_isNode rfl rfl rfl (by decide +kernel) ⟨Nat.le_of_ble_eq_true rfl, Nat.le_of_ble_eq_true rfl⟩) (gPreV (EM_bl) (va_recv hK hP (ci := 7) (q0 := 0) rfl rfl) hP (fun U _ hW => EM_warm hW hE)) rfl rfl hl.1 rfl (lv_room (Nat.le_of_ble_eq_true rfl)) dX7_bar_10 ⟨Nat.zero_le _, Nat.zero_le _⟩) hS (fun r_ u_ H locs hw hP hS => ?_)
    obtain ⟨rfl, hw⟩ := hw
    rcases hw with ⟨rfl, b_3⟩ | ⟨rfl, b_3⟩
    · skip
      have b_3 : inN (nN) (b) := b_3
      refine lv_if_eq (tgt := 67) hx hb dX7_bar_13 (by decide) (fun c_13_4 => absurd c_13_4 (by decide)) (fun _ => ?_)
      refine lv_aload_n hx hb dX7_bar_16 rfl (lv_at hl 0 rfl) ?_
      refine va_get (D := D) (ci := 7) (v := .int (nI nB)) (C := RX7) (T := TX7) (N := 31) hx hb hts iX7_bar_X7 hown hK hP 0 rfl rfl 10 (by decide) f_105 (fun _ h9 => h9) rfl dX7_bar_17 ?_
      refine lv_bipush (v := nI 60) hx hb dX7_bar_20 (by decide) ?_
      refine lv_icmp_eq (tgt := 67) hx hb dX7_bar_22 (by decide) (fun c_22_5 => ?_) (fun c_22_5 => ?_)
      · skip
        have c_22_5 : nB = 60 := (nI_eq (a := nB) (b := 60) (by omega) (by omega)).mp c_22_5
        refine lv_iconst (v := (-1 : Int32)) hx hb dX7_bar_67 (by decide) ?_
        exact hret hS hP dX7_bar_68 (⟨Or.inr ⟨fun q => absurd q.2.2.2.1 (by omega), rfl, rfl⟩, rfl⟩)
      · skip
        have c_22_5 : ¬ (nB = 60) := fun q => c_22_5 ((nI_eq (a := nB) (b := 60) (by omega) (by omega)).mpr q)
        refine lv_iload_n hx hb dX7_bar_25 rfl (lv_at hl 1 rfl) ?_
        refine lv_iload_n hx hb dX7_bar_26 rfl (lv_at hl 2 rfl) ?_
        refine lv_icmp_eq (tgt := 67) hx hb dX7_bar_27 (by decide) (fun c_27_6 => ?_) (fun c_27_6 => ?_)
        · skip
          refine lv_iconst (v := (-1 : Int32)) hx hb dX7_bar_67 (by decide) ?_
          exact hret hS hP dX7_bar_68 (⟨Or.inr ⟨fun q => q.2.2.1 c_27_6, rfl, rfl⟩, rfl⟩)
        · skip
          refine lv_dload_n hx hb dX7_bar_30 rfl (lv_at hl 3 rfl) ?_
          refine lv_ldc2d hx hb hown c_108 dX7_bar_31 ?_
          refine lv_ldc2d hx hb hown c_95 dX7_bar_34 ?_
          refine g0i (va_runS (As := [.double (x), .double (4593671619917905920), .double (4652007308841189376)]) (rest := []) ⟨hx, hb, hml, hown, hts⟩ (kX7_isIn l D H.size x 4593671619917905920 4652007308841189376) (va_cwS 3 hts gX7_bar_X7_isIn rfl rfl rfl (by decide +kernel) ⟨Nat.le_of_ble_eq_true rfl, Nat.le_of_ble_eq_true rfl⟩) (gPreS (eT_bl) w0_P (fun _ _ _ => trivial)) rfl rfl hl.1 rfl (lv_room (Nat.le_of_ble_eq_true rfl)) dX7_bar_37 ⟨Nat.zero_le _, Nat.zero_le _⟩) hP hS (fun r_ H locs hw hP hS => ?_)
          rcases hw with ⟨rfl, b_7⟩ | ⟨rfl, b_7⟩
          · skip
            have b_7 : inR (x) (4593671619917905920) (4652007308841189376) := b_7
            refine lv_if_eq (tgt := 67) hx hb dX7_bar_40 (by decide) (fun c_40_8 => absurd c_40_8 (by decide)) (fun _ => ?_)
            refine lv_dload hx hb dX7_bar_43 (lv_at hl 4 rfl) ?_
            refine lv_dconst0 hx hb dX7_bar_45 ?_
            refine lv_ldc2d hx hb hown c_110 dX7_bar_46 ?_
            refine g0i (va_runS (As := [.double (y), .double (FP.dconst0), .double (4621819117588971520)]) (rest := []) ⟨hx, hb, hml, hown, hts⟩ (kX7_isIn l D H.size y FP.dconst0 4621819117588971520) (va_cwS 3 hts gX7_bar_X7_isIn rfl rfl rfl (by decide +kernel) ⟨Nat.le_of_ble_eq_true rfl, Nat.le_of_ble_eq_true rfl⟩) (gPreS (eT_bl) w0_P (fun _ _ _ => trivial)) rfl rfl hl.1 rfl (lv_room (Nat.le_of_ble_eq_true rfl)) dX7_bar_49 ⟨Nat.zero_le _, Nat.zero_le _⟩) hP hS (fun r_ H locs hw hP hS => ?_)
            rcases hw with ⟨rfl, b_9⟩ | ⟨rfl, b_9⟩
            · skip
              have b_9 : inR (y) (FP.dconst0) (4621819117588971520) := b_9
              refine lv_if_eq (tgt := 67) hx hb dX7_bar_52 (by decide) (fun c_52_10 => absurd c_52_10 (by decide)) (fun _ => ?_)
              refine lv_dload hx hb dX7_bar_55 (lv_at hl 5 rfl) ?_
              refine lv_dconst0 hx hb dX7_bar_57 ?_
              refine lv_ldc2d hx hb hown c_112 dX7_bar_58 ?_
              refine g0i (va_runS (As := [.double (z), .double (FP.dconst0), .double (4696837146684686336)]) (rest := []) ⟨hx, hb, hml, hown, hts⟩ (kX7_isIn l D H.size z FP.dconst0 4696837146684686336) (va_cwS 3 hts gX7_bar_X7_isIn rfl rfl rfl (by decide +kernel) ⟨Nat.le_of_ble_eq_true rfl, Nat.le_of_ble_eq_true rfl⟩) (gPreS (eT_bl) w0_P (fun _ _ _ => trivial)) rfl rfl hl.1 rfl (lv_room (Nat.le_of_ble_eq_true rfl)) dX7_bar_61 ⟨Nat.zero_le _, Nat.zero_le _⟩) hP hS (fun r_ H locs hw hP hS => ?_)
              rcases hw with ⟨rfl, b_11⟩ | ⟨rfl, b_11⟩
              · skip
                have b_11 : inR (z) (FP.dconst0) (4696837146684686336) := b_11
                refine lv_if_ne (tgt := 69) hx hb dX7_bar_64 (by decide) (fun _ => ?_) (fun c_64_12 => absurd c_64_12 (by decide))
                refine lv_aload_n hx hb dX7_bar_69 rfl (lv_at hl 0 rfl) ?_
                refine va_get (D := D) (ci := 7) (v := .ref (ad 10)) (C := RX7) (T := TX7) (N := 31) hx hb hts iX7_bar_X7 hown hK hP 0 rfl rfl 11 (by decide) f_38 (fun _ h9 => h9) rfl dX7_bar_70 ?_
                refine lv_aload_n hx hb dX7_bar_73 rfl (lv_at hl 0 rfl) ?_
                refine va_get (D := D) (ci := 7) (v := .int (nI nB)) (C := RX7) (T := TX7) (N := 31) hx hb hts iX7_bar_X7 hown hK hP 0 rfl rfl 10 (by decide) f_105 (fun _ h9 => h9) rfl dX7_bar_74 ?_
                refine lv_iload_n hx hb dX7_bar_77 rfl (lv_at hl 1 rfl) ?_
                refine xis hx hb hK hD hP hS 10 1 (((nN, px, py, pz, fx, fy, fz, lf, ld, fi), (nB, (upd fr nB a), tt, ln, wi, sg, pu), (nR, rd, rx, ry, wv, fo), (re, dg), (nP, tp, bt, dp)), (nQ, fu)) rfl rfl (j := nB) (by decide) (by omega) rfl dX7_bar_78 (fun H locs hP hS => ?_)
                refine lv_aload_n hx hb dX7_bar_79 rfl (lv_at hl 0 rfl) ?_
                refine va_get (D := D) (ci := 7) (v := .ref (ad 11)) (C := RX7) (T := TX7) (N := 31) hx hb hts iX7_bar_X7 hown hK hP 0 rfl rfl 12 (by decide) f_42 (fun _ h9 => h9) rfl dX7_bar_80 ?_
                refine lv_aload_n hx hb dX7_bar_83 rfl (lv_at hl 0 rfl) ?_
                refine va_get (D := D) (ci := 7) (v := .int (nI nB)) (C := RX7) (T := TX7) (N := 31) hx hb hts iX7_bar_X7 hown hK hP 0 rfl rfl 10 (by decide) f_105 (fun _ h9 => h9) rfl dX7_bar_84 ?_
                refine lv_iload_n hx hb dX7_bar_87 rfl (lv_at hl 2 rfl) ?_
                refine xis hx hb hK hD hP hS 11 1 (((nN, px, py, pz, fx, fy, fz, lf, ld, fi), (nB, (upd fr nB a), (upd tt nB b), ln, wi, sg, pu), (nR, rd, rx, ry, wv, fo), (re, dg), (nP, tp, bt, dp)), (nQ, fu)) rfl rfl (j := nB) (by decide) (by omega) rfl dX7_bar_88 (fun H locs hP hS => ?_)
                refine lv_aload_n hx hb dX7_bar_89 rfl (lv_at hl 0 rfl) ?_
                refine va_get (D := D) (ci := 7) (v := .ref (ad 12)) (C := RX7) (T := TX7) (N := 31) hx hb hts iX7_bar_X7 hown hK hP 0 rfl rfl 13 (by decide) f_45 (fun _ h9 => h9) rfl dX7_bar_90 ?_
                refine lv_aload_n hx hb dX7_bar_93 rfl (lv_at hl 0 rfl) ?_
                refine va_get (D := D) (ci := 7) (v := .int (nI nB)) (C := RX7) (T := TX7) (N := 31) hx hb hts iX7_bar_X7 hown hK hP 0 rfl rfl 10 (by decide) f_105 (fun _ h9 => h9) rfl dX7_bar_94 ?_
                refine lv_dload_n hx hb dX7_bar_97 rfl (lv_at hl 3 rfl) ?_
                refine xds hx hb hK hD hP hS 12 0 (((nN, px, py, pz, fx, fy, fz, lf, ld, fi), (nB, (upd fr nB a), (upd tt nB b), (vf_upd ln nB x), wi, sg, pu), (nR, rd, rx, ry, wv, fo), (re, dg), (nP, tp, bt, dp)), (nQ, fu)) rfl rfl (j := nB) (by decide) (by omega) rfl dX7_bar_98 (fun H locs hP hS => ?_)
                refine lv_aload_n hx hb dX7_bar_99 rfl (lv_at hl 0 rfl) ?_
                refine va_get (D := D) (ci := 7) (v := .ref (ad 13)) (C := RX7) (T := TX7) (N := 31) hx hb hts iX7_bar_X7 hown hK hP 0 rfl rfl 14 (by decide) f_48 (fun _ h9 => h9) rfl dX7_bar_100 ?_
                refine lv_aload_n hx hb dX7_bar_103 rfl (lv_at hl 0 rfl) ?_
                refine va_get (D := D) (ci := 7) (v := .int (nI nB)) (C := RX7) (T := TX7) (N := 31) hx hb hts iX7_bar_X7 hown hK hP 0 rfl rfl 10 (by decide) f_105 (fun _ h9 => h9) rfl dX7_bar_104 ?_
                refine lv_dload hx hb dX7_bar_107 (lv_at hl 4 rfl) ?_
                refine xds hx hb hK hD hP hS 13 0 (((nN, px, py, pz, fx, fy, fz, lf, ld, fi), (nB, (upd fr nB a), (upd tt nB b), (vf_upd ln nB x), (vf_upd wi nB y), sg, pu), (nR, rd, rx, ry, wv, fo), (re, dg), (nP, tp, bt, dp)), (nQ, fu)) rfl rfl (j := nB) (by decide) (by omega) rfl dX7_bar_109 (fun H locs hP hS => ?_)
                refine lv_aload_n hx hb dX7_bar_110 rfl (lv_at hl 0 rfl) ?_
                refine va_get (D := D) (ci := 7) (v := .ref (ad 14)) (C := RX7) (T := TX7) (N := 31) hx hb hts iX7_bar_X7 hown hK hP 0 rfl rfl 15 (by decide) f_51 (fun _ h9 => h9) rfl dX7_bar_111 ?_
                refine lv_aload_n hx hb dX7_bar_114 rfl (lv_at hl 0 rfl) ?_
                refine va_get (D := D) (ci := 7) (v := .int (nI nB)) (C := RX7) (T := TX7) (N := 31) hx hb hts iX7_bar_X7 hown hK hP 0 rfl rfl 10 (by decide) f_105 (fun _ h9 => h9) rfl dX7_bar_115 ?_
                refine lv_dload hx hb dX7_bar_118 (lv_at hl 5 rfl) ?_
                refine xds hx hb hK hD hP hS 14 0 (((nN, px, py, pz, fx, fy, fz, lf, ld, fi), (nB, (upd fr nB a), (upd tt nB b), (vf_upd ln nB x), (vf_upd wi nB y), (vf_upd sg nB z), pu), (nR, rd, rx, ry, wv, fo), (re, dg), (nP, tp, bt, dp)), (nQ, fu)) rfl rfl (j := nB) (by decide) (by omega) rfl dX7_bar_120 (fun H locs hP hS => ?_)
                refine lv_aload_n hx hb dX7_bar_121 rfl (lv_at hl 0 rfl) ?_
                refine va_get (D := D) (ci := 7) (v := .ref (ad 15)) (C := RX7) (T := TX7) (N := 31) hx hb hts iX7_bar_X7 hown hK hP 0 rfl rfl 16 (by decide) f_54 (fun _ h9 => h9) rfl dX7_bar_122 ?_
                refine lv_aload_n hx hb dX7_bar_125 rfl (lv_at hl 0 rfl) ?_
                refine va_get (D := D) (ci := 7) (v := .int (nI nB)) (C := RX7) (T := TX7) (N := 31) hx hb hts iX7_bar_X7 hown hK hP 0 rfl rfl 10 (by decide) f_105 (fun _ h9 => h9) rfl dX7_bar_126 ?_
                refine lv_ldc2d hx hb hown c_66 dX7_bar_129 ?_
                refine xds hx hb hK hD hP hS 15 0 (((nN, px, py, pz, fx, fy, fz, lf, ld, fi), (nB, (upd fr nB a), (upd tt nB b), (vf_upd ln nB x), (vf_upd wi nB y), (vf_upd sg nB z), (vf_upd pu nB 13830554455654793216)), (nR, rd, rx, ry, wv, fo), (re, dg), (nP, tp, bt, dp)), (nQ, fu)) rfl rfl (j := nB) (by decide) (by omega) rfl dX7_bar_132 (fun H locs hP hS => ?_)
                refine lv_aload_n hx hb dX7_bar_133 rfl (lv_at hl 0 rfl) ?_
                refine lv_dup hx hb dX7_bar_134 rfl ?_
                refine va_get (D := D) (ci := 7) (v := .int (nI nB)) (C := RX7) (T := TX7) (N := 31) hx hb hts iX7_bar_X7 hown hK hP 0 rfl rfl 10 (by decide) f_105 (fun _ h9 => h9) rfl dX7_bar_135 ?_
                refine lv_iconst (v := nI 1) hx hb dX7_bar_138 (by decide) ?_
                refine xia hx hb (nB + 1) dX7_bar_139 rfl ?_
                refine xput (D := D) (ci := 7) (v := .int (nI (nB + 1))) (ty := .int) (C := RX7) (T := TX7) (N := 31) hx hb hts iX7_bar_X7 tyX7 tyX7_ok nmX7 hown hK hD hP hS 0 (((nN, px, py, pz, fx, fy, fz, lf, ld, fi), ((nB + 1), (upd fr nB a), (upd tt nB b), (vf_upd ln nB x), (vf_upd wi nB y), (vf_upd sg nB z), (vf_upd pu nB 13830554455654793216)), (nR, rd, rx, ry, wv, fo), (re, dg), (nP, tp, bt, dp)), (nQ, fu)) rfl rfl 10 (by decide) f_105 (fun _ h9 => h9) rfl (by decide +kernel) rfl rfl (Nat.le_of_ble_eq_true rfl) rfl dX7_bar_140 (fun H locs hP hS => ?_)
                refine lv_aload_n hx hb dX7_bar_143 rfl (lv_at hl 0 rfl) ?_
                refine va_get (D := D) (ci := 7) (v := .int (nI ((nB + 1)))) (C := RX7) (T := TX7) (N := 31) hx hb hts iX7_bar_X7 hown hK hP 0 rfl rfl 10 (by decide) f_105 (fun _ h9 => h9) rfl dX7_bar_144 ?_
                refine lv_iconst (v := nI 1) hx hb dX7_bar_147 (by decide) ?_
                refine xib hx hb (nB) dX7_bar_148 (rfl) ?_
                exact hret hS hP dX7_bar_149 (⟨Or.inl ⟨⟨b_1, b_3, c_27_6, (show nB < 60 by omega), b_7, b_9, b_11⟩, rfl, rfl⟩, rfl⟩)
              · skip
                have b_11 : ¬ (inR (z) (FP.dconst0) (4696837146684686336)) := b_11
                refine lv_if_ne (tgt := 69) hx hb dX7_bar_64 (by decide) (fun c_64_13 => absurd c_64_13 (by decide)) (fun _ => ?_)
                refine lv_iconst (v := (-1 : Int32)) hx hb dX7_bar_67 (by decide) ?_
                exact hret hS hP dX7_bar_68 (⟨Or.inr ⟨fun q => absurd q.2.2.2.2.2.2 b_11, rfl, rfl⟩, rfl⟩)
            · skip
              have b_9 : ¬ (inR (y) (FP.dconst0) (4621819117588971520)) := b_9
              refine lv_if_eq (tgt := 67) hx hb dX7_bar_52 (by decide) (fun _ => ?_) (fun c_52_14 => absurd c_52_14 (by decide))
              refine lv_iconst (v := (-1 : Int32)) hx hb dX7_bar_67 (by decide) ?_
              exact hret hS hP dX7_bar_68 (⟨Or.inr ⟨fun q => absurd q.2.2.2.2.2.1 b_9, rfl, rfl⟩, rfl⟩)
          · skip
            have b_7 : ¬ (inR (x) (4593671619917905920) (4652007308841189376)) := b_7
            refine lv_if_eq (tgt := 67) hx hb dX7_bar_40 (by decide) (fun _ => ?_) (fun c_40_15 => absurd c_40_15 (by decide))
            refine lv_iconst (v := (-1 : Int32)) hx hb dX7_bar_67 (by decide) ?_
            exact hret hS hP dX7_bar_68 (⟨Or.inr ⟨fun q => absurd q.2.2.2.2.1 b_7, rfl, rfl⟩, rfl⟩)
    · skip
      have b_3 : ¬ (inN (nN) (b)) := b_3
      refine lv_if_eq (tgt := 67) hx hb dX7_bar_13 (by decide) (fun _ => ?_) (fun c_13_16 => absurd c_13_16 (by decide))
      refine lv_iconst (v := (-1 : Int32)) hx hb dX7_bar_67 (by decide) ?_
      exact hret hS hP dX7_bar_68 (⟨Or.inr ⟨fun q => absurd q.2.1 b_3, rfl, rfl⟩, rfl⟩)
  · skip
    have b_1 : ¬ (inN (nN) (a)) := b_1
    refine lv_if_eq (tgt := 67) hx hb dX7_bar_5 (by decide) (fun _ => ?_) (fun c_5_17 => absurd c_5_17 (by decide))
    refine lv_iconst (v := (-1 : Int32)) hx hb dX7_bar_67 (by decide) ?_
    exact hret hS hP dX7_bar_68 (⟨Or.inr ⟨fun q => absurd q.1 b_1, rfl, rfl⟩, rfl⟩)
theorem iX6_fix_X3 : ∀ w ∈ u_ws RX3 TX3 6, w ∈ wsX6_fix := by decide +kernel
theorem iX6_fix_X6 : ∀ w ∈ u_ws RX6 TX6 6, w ∈ wsX6_fix := by decide +kernel
set_option maxHeartbeats 4000000 in
set_option maxRecDepth 100000 in
theorem kX6_fix (l : Launch) (D : va_G) (cs : Nat → ClassId) (ad : Nat → Nat) (hd : distX ad) (sz : Nat) (S : XS) (hnN : S.1.1.1 ≤ 30) (k : Int32) : Met l yX6_fix wsX6_fix ({ frames := 1, cells := 0, slots := 0, locals := 21 } : Room) (gP D (WX cs ad) (EX D cs) S sz ([.ref (ad 0), .int (k)] : List Value)) (va_Qi (fun r u => q_fix S.1 k r u.1 ∧ u.2 = S.2) (gB D (WX cs ad)) (gA (AX ad) sz)) 0 0 (gA (AX ad) sz) := by
  obtain ⟨⟨⟨nN, px, py, pz, fx, fy, fz, lf, ld, fi⟩, ⟨nB, fr, tt, ln, wi, sg, pu⟩, ⟨nR, rd, rx, ry, wv, fo⟩, ⟨re, dg⟩, ⟨nP, tp, bt, dp⟩⟩, ⟨sp, ac, kp, kc, kn, aw, dw, su, ss, sd⟩⟩ := S
  have hnN : nN ≤ 30 := hnN
  refine gMz (cc := cX6_fix) (maxL := 2) (plainFor_of_name (by decide)) rfl (Nat.le_of_ble_eq_true rfl) ?_
  intro p e s m below meth c Q hx hb hts hown hml hsz hE hret H locs hP hS ls hl
  subst hsz
  have hown : s.vm.findClass RX6 = some m.cls := hown
  have hK : va_K D vwCl (tysX cs) s := hE.1
  have hD : ∀ u, va_D (gA (AX ad) s.heap.size) (WX cs ad u) := fun u => WX_D hd u
  have hl : lv_has ls 2 [(0, .ref (ad 0)), (1, .int (k))] := hl
  have f_10 := hts (.fieldLink RX6 10 "NetShapes" "nodes" "LNetShapes$Nodes;") (by decide +kernel)
  have f_85 := hts (.fieldLink RX6 85 "NetShapes$Nodes" "fixed" "[Z") (by decide +kernel)
  refine lv_aload_n hx hb dX6_fix_0 rfl (lv_at hl 0 rfl) ?_
  refine va_get (D := D) (ci := 6) (v := .ref (ad 1)) (C := RX6) (T := TX6) (N := 6) hx hb hts iX6_fix_X6 hown hK hP 0 rfl rfl 0 (by decide) f_10 (fun _ h9 => h9) rfl dX6_fix_1 ?_
  refine lv_iload_n hx hb dX6_fix_4 rfl (lv_at hl 1 rfl) ?_
  refine gci (va_runV (As := [.int (k)]) (rest := []) ⟨hx, hb, hml, hown, hts⟩ (kX3_has l D cs ad hd H.size (((nN, px, py, pz, fx, fy, fz, lf, ld, fi), (nB, fr, tt, ln, wi, sg, pu), (nR, rd, rx, ry, wv, fo), (re, dg), (nP, tp, bt, dp)), (sp, ac, kp, kc, kn, aw, dw, su, ss, sd)) hnN k) (cwV 1 hts gX6_fix_X3_has rfl rfl rfl (by decide +kernel) ⟨Nat.le_of_ble_eq_true rfl, Nat.le_of_ble_eq_true rfl⟩) (gPreV (EX_bl) (va_recv hK hP (ci := 3) (q0 := 1) rfl rfl) hP (fun U _ hW => EX_warm hW hE)) rfl rfl hl.1 rfl (lv_room (Nat.le_of_ble_eq_true rfl)) dX6_fix_5 ⟨Nat.zero_le _, Nat.zero_le _⟩) hS (fun r_ u_ H locs hw hP hS => ?_)
  obtain ⟨rfl, hw⟩ := hw
  rcases hw with ⟨rfl, b_1⟩ | ⟨rfl, b_1⟩
  · skip
    have b_1 : inN (nN) (k) := b_1
    obtain ⟨j, hj, rfl⟩ := b_1
    refine lv_if_ne (tgt := 13) hx hb dX6_fix_8 (by decide) (fun _ => ?_) (fun c_8_2 => absurd c_8_2 (by decide))
    refine lv_aload_n hx hb dX6_fix_13 rfl (lv_at hl 0 rfl) ?_
    refine va_get (D := D) (ci := 6) (v := .ref (ad 1)) (C := RX6) (T := TX6) (N := 6) hx hb hts iX6_fix_X6 hown hK hP 0 rfl rfl 0 (by decide) f_10 (fun _ h9 => h9) rfl dX6_fix_14 ?_
    refine va_get (D := D) (ci := 3) (v := .ref (ad 11)) (C := RX3) (T := TX3) (N := 6) hx hb hts iX6_fix_X3 hown hK hP 1 rfl rfl 4 (by decide) f_85 (fun _ h9 => h9) rfl dX6_fix_17 ?_
    refine lv_iload_n hx hb dX6_fix_20 rfl (lv_at hl 1 rfl) ?_
    refine lv_iconst (v := nI 1) hx hb dX6_fix_21 (by decide) ?_
    refine xzs hx hb hK hD hP hS 11 2 (((nN, px, py, pz, fx, fy, fz, lf, ld, (upd fi j (nI 1))), (nB, fr, tt, ln, wi, sg, pu), (nR, rd, rx, ry, wv, fo), (re, dg), (nP, tp, bt, dp)), (sp, ac, kp, kc, kn, aw, dw, su, ss, sd)) rfl rfl (j := j) (by decide) (by omega) rfl dX6_fix_22 (fun H locs hP hS => ?_)
    refine lv_iconst (v := nI 1) hx hb dX6_fix_23 (by decide) ?_
    exact hret hS hP dX6_fix_24 (Or.inr rfl) (⟨Or.inl ⟨j, hj, rfl, trivial, rfl, rfl⟩, rfl⟩)
  · skip
    have b_1 : ¬ (inN (nN) (k)) := b_1
    refine lv_if_ne (tgt := 13) hx hb dX6_fix_8 (by decide) (fun c_8_3 => absurd c_8_3 (by decide)) (fun _ => ?_)
    refine lv_iconst (v := nI 0) hx hb dX6_fix_11 (by decide) ?_
    exact hret hS hP dX6_fix_12 (Or.inl rfl) (⟨Or.inr ⟨fun q => absurd q.1 b_1, rfl, rfl⟩, rfl⟩)
theorem iX6_floats_X3 : ∀ w ∈ u_ws RX3 TX3 6, w ∈ wsX6_floats := by decide +kernel
theorem iX6_floats_X6 : ∀ w ∈ u_ws RX6 TX6 6, w ∈ wsX6_floats := by decide +kernel
set_option maxHeartbeats 4000000 in
set_option maxRecDepth 100000 in
theorem kX6_floats (l : Launch) (D : va_G) (cs : Nat → ClassId) (ad : Nat → Nat) (hd : distX ad) (sz : Nat) (S : XS) (hnN : S.1.1.1 ≤ 30) (k : Int32) (v : UInt64) : Met l yX6_floats wsX6_floats ({ frames := 1, cells := 0, slots := 0, locals := 25 } : Room) (gP D (WX cs ad) (EX D cs) S sz ([.ref (ad 0), .int (k), .double (v)] : List Value)) (va_Qi (fun r u => q_floats S.1 k v r u.1 ∧ u.2 = S.2) (gB D (WX cs ad)) (gA (AX ad) sz)) 0 0 (gA (AX ad) sz) := by
  obtain ⟨⟨⟨nN, px, py, pz, fx, fy, fz, lf, ld, fi⟩, ⟨nB, fr, tt, ln, wi, sg, pu⟩, ⟨nR, rd, rx, ry, wv, fo⟩, ⟨re, dg⟩, ⟨nP, tp, bt, dp⟩⟩, ⟨sp, ac, kp, kc, kn, aw, dw, su, ss, sd⟩⟩ := S
  have hnN : nN ≤ 30 := hnN
  refine gMz (cc := cX6_floats) (maxL := 4) (plainFor_of_name (by decide)) rfl (Nat.le_of_ble_eq_true rfl) ?_
  intro p e s m below meth c Q hx hb hts hown hml hsz hE hret H locs hP hS ls hl
  subst hsz
  have hown : s.vm.findClass RX6 = some m.cls := hown
  have hK : va_K D vwCl (tysX cs) s := hE.1
  have hD : ∀ u, va_D (gA (AX ad) s.heap.size) (WX cs ad u) := fun u => WX_D hd u
  have hl : lv_has ls 4 [(0, .ref (ad 0)), (1, .int (k)), (2, .double (v))] := hl
  have c_89 := hts (.constantDouble RX6 89 13904980397738950656) (by decide +kernel)
  have c_91 := hts (.constantDouble RX6 91 4681608360884174848) (by decide +kernel)
  have f_10 := hts (.fieldLink RX6 10 "NetShapes" "nodes" "LNetShapes$Nodes;") (by decide +kernel)
  have f_93 := hts (.fieldLink RX6 93 "NetShapes$Nodes" "lift" "[D") (by decide +kernel)
  refine lv_aload_n hx hb dX6_floats_0 rfl (lv_at hl 0 rfl) ?_
  refine va_get (D := D) (ci := 6) (v := .ref (ad 1)) (C := RX6) (T := TX6) (N := 6) hx hb hts iX6_floats_X6 hown hK hP 0 rfl rfl 0 (by decide) f_10 (fun _ h9 => h9) rfl dX6_floats_1 ?_
  refine lv_iload_n hx hb dX6_floats_4 rfl (lv_at hl 1 rfl) ?_
  refine gci (va_runV (As := [.int (k)]) (rest := []) ⟨hx, hb, hml, hown, hts⟩ (kX3_has l D cs ad hd H.size (((nN, px, py, pz, fx, fy, fz, lf, ld, fi), (nB, fr, tt, ln, wi, sg, pu), (nR, rd, rx, ry, wv, fo), (re, dg), (nP, tp, bt, dp)), (sp, ac, kp, kc, kn, aw, dw, su, ss, sd)) hnN k) (cwV 1 hts gX6_floats_X3_has rfl rfl rfl (by decide +kernel) ⟨Nat.le_of_ble_eq_true rfl, Nat.le_of_ble_eq_true rfl⟩) (gPreV (EX_bl) (va_recv hK hP (ci := 3) (q0 := 1) rfl rfl) hP (fun U _ hW => EX_warm hW hE)) rfl rfl hl.1 rfl (lv_room (Nat.le_of_ble_eq_true rfl)) dX6_floats_5 ⟨Nat.zero_le _, Nat.zero_le _⟩) hS (fun r_ u_ H locs hw hP hS => ?_)
  obtain ⟨rfl, hw⟩ := hw
  rcases hw with ⟨rfl, b_1⟩ | ⟨rfl, b_1⟩
  · skip
    have b_1 : inN (nN) (k) := b_1
    refine lv_if_eq (tgt := 24) hx hb dX6_floats_8 (by decide) (fun c_8_2 => absurd c_8_2 (by decide)) (fun _ => ?_)
    refine lv_dload_n hx hb dX6_floats_11 rfl (lv_at hl 2 rfl) ?_
    refine lv_ldc2d hx hb hown c_89 dX6_floats_12 ?_
    refine lv_ldc2d hx hb hown c_91 dX6_floats_15 ?_
    refine g0i (va_runS (As := [.double (v), .double (13904980397738950656), .double (4681608360884174848)]) (rest := []) ⟨hx, hb, hml, hown, hts⟩ (kX6_within l D H.size v 13904980397738950656 4681608360884174848) (va_cwS 3 hts gX6_floats_X6_within rfl rfl rfl (by decide +kernel) ⟨Nat.le_of_ble_eq_true rfl, Nat.le_of_ble_eq_true rfl⟩) (gPreS (eT_bl) w0_P (fun _ _ _ => trivial)) rfl rfl hl.1 rfl (lv_room (Nat.le_of_ble_eq_true rfl)) dX6_floats_18 ⟨Nat.zero_le _, Nat.zero_le _⟩) hP hS (fun r_ H locs hw hP hS => ?_)
    rcases hw with ⟨rfl, b_3⟩ | ⟨rfl, b_3⟩
    · skip
      have b_3 : inR (v) (13904980397738950656) (4681608360884174848) := b_3
      obtain ⟨j, hj, rfl⟩ := b_1
      refine lv_if_ne (tgt := 26) hx hb dX6_floats_21 (by decide) (fun _ => ?_) (fun c_21_4 => absurd c_21_4 (by decide))
      refine lv_aload_n hx hb dX6_floats_26 rfl (lv_at hl 0 rfl) ?_
      refine va_get (D := D) (ci := 6) (v := .ref (ad 1)) (C := RX6) (T := TX6) (N := 6) hx hb hts iX6_floats_X6 hown hK hP 0 rfl rfl 0 (by decide) f_10 (fun _ h9 => h9) rfl dX6_floats_27 ?_
      refine va_get (D := D) (ci := 3) (v := .ref (ad 9)) (C := RX3) (T := TX3) (N := 6) hx hb hts iX6_floats_X3 hown hK hP 1 rfl rfl 2 (by decide) f_93 (fun _ h9 => h9) rfl dX6_floats_30 ?_
      refine lv_iload_n hx hb dX6_floats_33 rfl (lv_at hl 1 rfl) ?_
      refine lv_dload_n hx hb dX6_floats_34 rfl (lv_at hl 2 rfl) ?_
      refine xds hx hb hK hD hP hS 9 0 (((nN, px, py, pz, fx, fy, fz, (vf_upd lf j v), ld, fi), (nB, fr, tt, ln, wi, sg, pu), (nR, rd, rx, ry, wv, fo), (re, dg), (nP, tp, bt, dp)), (sp, ac, kp, kc, kn, aw, dw, su, ss, sd)) rfl rfl (j := j) (by decide) (by omega) rfl dX6_floats_35 (fun H locs hP hS => ?_)
      refine lv_iconst (v := nI 1) hx hb dX6_floats_36 (by decide) ?_
      exact hret hS hP dX6_floats_37 (Or.inr rfl) (⟨Or.inl ⟨j, hj, rfl, b_3, rfl, rfl⟩, rfl⟩)
    · skip
      have b_3 : ¬ (inR (v) (13904980397738950656) (4681608360884174848)) := b_3
      refine lv_if_ne (tgt := 26) hx hb dX6_floats_21 (by decide) (fun c_21_5 => absurd c_21_5 (by decide)) (fun _ => ?_)
      refine lv_iconst (v := nI 0) hx hb dX6_floats_24 (by decide) ?_
      exact hret hS hP dX6_floats_25 (Or.inl rfl) (⟨Or.inr ⟨fun q => absurd q.2 b_3, rfl, rfl⟩, rfl⟩)
  · skip
    have b_1 : ¬ (inN (nN) (k)) := b_1
    refine lv_if_eq (tgt := 24) hx hb dX6_floats_8 (by decide) (fun _ => ?_) (fun c_8_6 => absurd c_8_6 (by decide))
    refine lv_iconst (v := nI 0) hx hb dX6_floats_24 (by decide) ?_
    exact hret hS hP dX6_floats_25 (Or.inl rfl) (⟨Or.inr ⟨fun q => absurd q.1 b_1, rfl, rfl⟩, rfl⟩)
theorem iX6_catchAt_X3 : ∀ w ∈ u_ws RX3 TX3 6, w ∈ wsX6_catchAt := by decide +kernel
theorem iX6_catchAt_X6 : ∀ w ∈ u_ws RX6 TX6 6, w ∈ wsX6_catchAt := by decide +kernel
set_option maxHeartbeats 4000000 in
set_option maxRecDepth 100000 in
theorem kX6_catchAt (l : Launch) (D : va_G) (cs : Nat → ClassId) (ad : Nat → Nat) (hd : distX ad) (sz : Nat) (S : XS) (hnN : S.1.1.1 ≤ 30) (k : Int32) (v : UInt64) : Met l yX6_catchAt wsX6_catchAt ({ frames := 1, cells := 0, slots := 0, locals := 25 } : Room) (gP D (WX cs ad) (EX D cs) S sz ([.ref (ad 0), .int (k), .double (v)] : List Value)) (va_Qi (fun r u => q_catchAt S.1 k v r u.1 ∧ u.2 = S.2) (gB D (WX cs ad)) (gA (AX ad) sz)) 0 0 (gA (AX ad) sz) := by
  obtain ⟨⟨⟨nN, px, py, pz, fx, fy, fz, lf, ld, fi⟩, ⟨nB, fr, tt, ln, wi, sg, pu⟩, ⟨nR, rd, rx, ry, wv, fo⟩, ⟨re, dg⟩, ⟨nP, tp, bt, dp⟩⟩, ⟨sp, ac, kp, kc, kn, aw, dw, su, ss, sd⟩⟩ := S
  have hnN : nN ≤ 30 := hnN
  refine gMz (cc := cX6_catchAt) (maxL := 4) (plainFor_of_name (by decide)) rfl (Nat.le_of_ble_eq_true rfl) ?_
  intro p e s m below meth c Q hx hb hts hown hml hsz hE hret H locs hP hS ls hl
  subst hsz
  have hown : s.vm.findClass RX6 = some m.cls := hown
  have hK : va_K D vwCl (tysX cs) s := hE.1
  have hD : ∀ u, va_D (gA (AX ad) s.heap.size) (WX cs ad u) := fun u => WX_D hd u
  have hl : lv_has ls 4 [(0, .ref (ad 0)), (1, .int (k)), (2, .double (v))] := hl
  have c_91 := hts (.constantDouble RX6 91 4681608360884174848) (by decide +kernel)
  have f_10 := hts (.fieldLink RX6 10 "NetShapes" "nodes" "LNetShapes$Nodes;") (by decide +kernel)
  have f_147 := hts (.fieldLink RX6 147 "NetShapes$Nodes" "load" "[D") (by decide +kernel)
  refine lv_aload_n hx hb dX6_catchAt_0 rfl (lv_at hl 0 rfl) ?_
  refine va_get (D := D) (ci := 6) (v := .ref (ad 1)) (C := RX6) (T := TX6) (N := 6) hx hb hts iX6_catchAt_X6 hown hK hP 0 rfl rfl 0 (by decide) f_10 (fun _ h9 => h9) rfl dX6_catchAt_1 ?_
  refine lv_iload_n hx hb dX6_catchAt_4 rfl (lv_at hl 1 rfl) ?_
  refine gci (va_runV (As := [.int (k)]) (rest := []) ⟨hx, hb, hml, hown, hts⟩ (kX3_has l D cs ad hd H.size (((nN, px, py, pz, fx, fy, fz, lf, ld, fi), (nB, fr, tt, ln, wi, sg, pu), (nR, rd, rx, ry, wv, fo), (re, dg), (nP, tp, bt, dp)), (sp, ac, kp, kc, kn, aw, dw, su, ss, sd)) hnN k) (cwV 1 hts gX6_catchAt_X3_has rfl rfl rfl (by decide +kernel) ⟨Nat.le_of_ble_eq_true rfl, Nat.le_of_ble_eq_true rfl⟩) (gPreV (EX_bl) (va_recv hK hP (ci := 3) (q0 := 1) rfl rfl) hP (fun U _ hW => EX_warm hW hE)) rfl rfl hl.1 rfl (lv_room (Nat.le_of_ble_eq_true rfl)) dX6_catchAt_5 ⟨Nat.zero_le _, Nat.zero_le _⟩) hS (fun r_ u_ H locs hw hP hS => ?_)
  obtain ⟨rfl, hw⟩ := hw
  rcases hw with ⟨rfl, b_1⟩ | ⟨rfl, b_1⟩
  · skip
    have b_1 : inN (nN) (k) := b_1
    refine lv_if_eq (tgt := 22) hx hb dX6_catchAt_8 (by decide) (fun c_8_2 => absurd c_8_2 (by decide)) (fun _ => ?_)
    refine lv_dload_n hx hb dX6_catchAt_11 rfl (lv_at hl 2 rfl) ?_
    refine lv_dconst0 hx hb dX6_catchAt_12 ?_
    refine lv_ldc2d hx hb hown c_91 dX6_catchAt_13 ?_
    refine g0i (va_runS (As := [.double (v), .double (FP.dconst0), .double (4681608360884174848)]) (rest := []) ⟨hx, hb, hml, hown, hts⟩ (kX6_within l D H.size v FP.dconst0 4681608360884174848) (va_cwS 3 hts gX6_catchAt_X6_within rfl rfl rfl (by decide +kernel) ⟨Nat.le_of_ble_eq_true rfl, Nat.le_of_ble_eq_true rfl⟩) (gPreS (eT_bl) w0_P (fun _ _ _ => trivial)) rfl rfl hl.1 rfl (lv_room (Nat.le_of_ble_eq_true rfl)) dX6_catchAt_16 ⟨Nat.zero_le _, Nat.zero_le _⟩) hP hS (fun r_ H locs hw hP hS => ?_)
    rcases hw with ⟨rfl, b_3⟩ | ⟨rfl, b_3⟩
    · skip
      have b_3 : inR (v) (FP.dconst0) (4681608360884174848) := b_3
      obtain ⟨j, hj, rfl⟩ := b_1
      refine lv_if_ne (tgt := 24) hx hb dX6_catchAt_19 (by decide) (fun _ => ?_) (fun c_19_4 => absurd c_19_4 (by decide))
      refine lv_aload_n hx hb dX6_catchAt_24 rfl (lv_at hl 0 rfl) ?_
      refine va_get (D := D) (ci := 6) (v := .ref (ad 1)) (C := RX6) (T := TX6) (N := 6) hx hb hts iX6_catchAt_X6 hown hK hP 0 rfl rfl 0 (by decide) f_10 (fun _ h9 => h9) rfl dX6_catchAt_25 ?_
      refine va_get (D := D) (ci := 3) (v := .ref (ad 10)) (C := RX3) (T := TX3) (N := 6) hx hb hts iX6_catchAt_X3 hown hK hP 1 rfl rfl 3 (by decide) f_147 (fun _ h9 => h9) rfl dX6_catchAt_28 ?_
      refine lv_iload_n hx hb dX6_catchAt_31 rfl (lv_at hl 1 rfl) ?_
      refine lv_dload_n hx hb dX6_catchAt_32 rfl (lv_at hl 2 rfl) ?_
      refine xds hx hb hK hD hP hS 10 0 (((nN, px, py, pz, fx, fy, fz, lf, (vf_upd ld j v), fi), (nB, fr, tt, ln, wi, sg, pu), (nR, rd, rx, ry, wv, fo), (re, dg), (nP, tp, bt, dp)), (sp, ac, kp, kc, kn, aw, dw, su, ss, sd)) rfl rfl (j := j) (by decide) (by omega) rfl dX6_catchAt_33 (fun H locs hP hS => ?_)
      refine lv_iconst (v := nI 1) hx hb dX6_catchAt_34 (by decide) ?_
      exact hret hS hP dX6_catchAt_35 (Or.inr rfl) (⟨Or.inl ⟨j, hj, rfl, b_3, rfl, rfl⟩, rfl⟩)
    · skip
      have b_3 : ¬ (inR (v) (FP.dconst0) (4681608360884174848)) := b_3
      refine lv_if_ne (tgt := 24) hx hb dX6_catchAt_19 (by decide) (fun c_19_5 => absurd c_19_5 (by decide)) (fun _ => ?_)
      refine lv_iconst (v := nI 0) hx hb dX6_catchAt_22 (by decide) ?_
      exact hret hS hP dX6_catchAt_23 (Or.inl rfl) (⟨Or.inr ⟨fun q => absurd q.2 b_3, rfl, rfl⟩, rfl⟩)
  · skip
    have b_1 : ¬ (inN (nN) (k)) := b_1
    refine lv_if_eq (tgt := 22) hx hb dX6_catchAt_8 (by decide) (fun _ => ?_) (fun c_8_6 => absurd c_8_6 (by decide))
    refine lv_iconst (v := nI 0) hx hb dX6_catchAt_22 (by decide) ?_
    exact hret hS hP dX6_catchAt_23 (Or.inl rfl) (⟨Or.inr ⟨fun q => absurd q.1 b_1, rfl, rfl⟩, rfl⟩)
theorem iX6_foul_X5 : ∀ w ∈ u_ws RX5 TX5 6, w ∈ wsX6_foul := by decide +kernel
theorem iX6_foul_X6 : ∀ w ∈ u_ws RX6 TX6 6, w ∈ wsX6_foul := by decide +kernel
set_option maxHeartbeats 4000000 in
set_option maxRecDepth 100000 in
theorem kX6_foul (l : Launch) (D : va_G) (cs : Nat → ClassId) (ad : Nat → Nat) (hd : distX ad) (sz : Nat) (S : XS) (v : UInt64) : Met l yX6_foul wsX6_foul ({ frames := 1, cells := 0, slots := 0, locals := 25 } : Room) (gP D (WX cs ad) (EX D cs) S sz ([.ref (ad 0), .double (v)] : List Value)) (va_Qi (fun r u => q_foul S.1 v r u.1 ∧ u.2 = S.2) (gB D (WX cs ad)) (gA (AX ad) sz)) 0 0 (gA (AX ad) sz) := by
  obtain ⟨⟨⟨nN, px, py, pz, fx, fy, fz, lf, ld, fi⟩, ⟨nB, fr, tt, ln, wi, sg, pu⟩, ⟨nR, rd, rx, ry, wv, fo⟩, ⟨re, dg⟩, ⟨nP, tp, bt, dp⟩⟩, ⟨sp, ac, kp, kc, kn, aw, dw, su, ss, sd⟩⟩ := S
  refine gMz (cc := cX6_foul) (maxL := 3) (plainFor_of_name (by decide)) rfl (Nat.le_of_ble_eq_true rfl) ?_
  intro p e s m below meth c Q hx hb hts hown hml hsz hE hret H locs hP hS ls hl
  subst hsz
  have hown : s.vm.findClass RX6 = some m.cls := hown
  have hK : va_K D vwCl (tysX cs) s := hE.1
  have hD : ∀ u, va_D (gA (AX ad) s.heap.size) (WX cs ad u) := fun u => WX_D hd u
  have hl : lv_has ls 3 [(0, .ref (ad 0)), (1, .double (v))] := hl
  have c_177 := hts (.constantDouble RX6 177 4617315517961601024) (by decide +kernel)
  have f_26 := hts (.fieldLink RX6 26 "NetShapes" "water" "LNetShapes$Water;") (by decide +kernel)
  have f_179 := hts (.fieldLink RX6 179 "NetShapes$Water" "foulShare" "D") (by decide +kernel)
  refine lv_dload_n hx hb dX6_foul_0 rfl (lv_at hl 1 rfl) ?_
  refine lv_dconst0 hx hb dX6_foul_1 ?_
  refine lv_ldc2d hx hb hown c_177 dX6_foul_2 ?_
  refine g0i (va_runS (As := [.double (v), .double (FP.dconst0), .double (4617315517961601024)]) (rest := []) ⟨hx, hb, hml, hown, hts⟩ (kX6_within l D H.size v FP.dconst0 4617315517961601024) (va_cwS 3 hts gX6_foul_X6_within rfl rfl rfl (by decide +kernel) ⟨Nat.le_of_ble_eq_true rfl, Nat.le_of_ble_eq_true rfl⟩) (gPreS (eT_bl) w0_P (fun _ _ _ => trivial)) rfl rfl hl.1 rfl (lv_room (Nat.le_of_ble_eq_true rfl)) dX6_foul_5 ⟨Nat.zero_le _, Nat.zero_le _⟩) hP hS (fun r_ H locs hw hP hS => ?_)
  rcases hw with ⟨rfl, b_1⟩ | ⟨rfl, b_1⟩
  · skip
    have b_1 : inR (v) (FP.dconst0) (4617315517961601024) := b_1
    refine lv_if_ne (tgt := 13) hx hb dX6_foul_8 (by decide) (fun _ => ?_) (fun c_8_2 => absurd c_8_2 (by decide))
    refine lv_aload_n hx hb dX6_foul_13 rfl (lv_at hl 0 rfl) ?_
    refine va_get (D := D) (ci := 6) (v := .ref (ad 3)) (C := RX6) (T := TX6) (N := 6) hx hb hts iX6_foul_X6 hown hK hP 0 rfl rfl 2 (by decide) f_26 (fun _ h9 => h9) rfl dX6_foul_14 ?_
    refine lv_dload_n hx hb dX6_foul_17 rfl (lv_at hl 1 rfl) ?_
    refine xput (D := D) (ci := 5) (v := .double (v)) (ty := .double) (C := RX5) (T := TX5) (N := 6) hx hb hts iX6_foul_X5 tyX5 tyX5_ok nmX5 hown hK hD hP hS 3 (((nN, px, py, pz, fx, fy, fz, lf, ld, fi), (nB, fr, tt, ln, wi, sg, pu), (nR, rd, rx, ry, wv, v), (re, dg), (nP, tp, bt, dp)), (sp, ac, kp, kc, kn, aw, dw, su, ss, sd)) rfl rfl 5 (by decide) f_179 (fun _ h9 => h9) rfl (by decide +kernel) rfl rfl (Nat.le_of_ble_eq_true rfl) rfl dX6_foul_18 (fun H locs hP hS => ?_)
    refine lv_iconst (v := nI 1) hx hb dX6_foul_21 (by decide) ?_
    exact hret hS hP dX6_foul_22 (Or.inr rfl) (⟨Or.inl ⟨b_1, rfl, rfl⟩, rfl⟩)
  · skip
    have b_1 : ¬ (inR (v) (FP.dconst0) (4617315517961601024)) := b_1
    refine lv_if_ne (tgt := 13) hx hb dX6_foul_8 (by decide) (fun c_8_3 => absurd c_8_3 (by decide)) (fun _ => ?_)
    refine lv_iconst (v := nI 0) hx hb dX6_foul_11 (by decide) ?_
    exact hret hS hP dX6_foul_12 (Or.inl rfl) (⟨Or.inr ⟨fun q => absurd q b_1, rfl, rfl⟩, rfl⟩)
theorem iX6_wave_X5 : ∀ w ∈ u_ws RX5 TX5 6, w ∈ wsX6_wave := by decide +kernel
theorem iX6_wave_X6 : ∀ w ∈ u_ws RX6 TX6 6, w ∈ wsX6_wave := by decide +kernel
set_option maxHeartbeats 4000000 in
set_option maxRecDepth 100000 in
theorem kX6_wave (l : Launch) (D : va_G) (cs : Nat → ClassId) (ad : Nat → Nat) (hd : distX ad) (sz : Nat) (S : XS) (h pe : UInt64) (n : Int32) : Met l yX6_wave wsX6_wave ({ frames := 1, cells := 0, slots := 0, locals := 25 } : Room) (gP D (WX cs ad) (EX D cs) S sz ([.ref (ad 0), .double (h), .double (pe), .int (n)] : List Value)) (va_Qi (fun r u => q_wave S.1 h pe n r u.1 ∧ u.2 = S.2) (gB D (WX cs ad)) (gA (AX ad) sz)) 0 0 (gA (AX ad) sz) := by
  obtain ⟨⟨⟨nN, px, py, pz, fx, fy, fz, lf, ld, fi⟩, ⟨nB, fr, tt, ln, wi, sg, pu⟩, ⟨nR, rd, rx, ry, wv, fo⟩, ⟨re, dg⟩, ⟨nP, tp, bt, dp⟩⟩, ⟨sp, ac, kp, kc, kn, aw, dw, su, ss, sd⟩⟩ := S
  refine gMi (cc := cX6_wave) (maxL := 6) (plainFor_of_name (by decide)) rfl (Nat.le_of_ble_eq_true rfl) ?_
  intro p e s m below meth c Q hx hb hts hown hml hsz hE hret H locs hP hS ls hl
  subst hsz
  have hown : s.vm.findClass RX6 = some m.cls := hown
  have hK : va_K D vwCl (tysX cs) s := hE.1
  have hD : ∀ u, va_D (gA (AX ad) s.heap.size) (WX cs ad u) := fun u => WX_D hd u
  have hl : lv_has ls 6 [(0, .ref (ad 0)), (1, .double (h)), (3, .double (pe)), (5, .int (n))] := hl
  have c_182 := hts (.constantDouble RX6 182 4629137466983448576) (by decide +kernel)
  have c_184 := hts (.constantDouble RX6 184 4633641066610819072) (by decide +kernel)
  have c_186 := hts (.constantDouble RX6 186 4636737291354636288) (by decide +kernel)
  have f_26 := hts (.fieldLink RX6 26 "NetShapes" "water" "LNetShapes$Water;") (by decide +kernel)
  have f_188 := hts (.fieldLink RX6 188 "NetShapes$Water" "waveShare" "D") (by decide +kernel)
  have f_191 := hts (.fieldLink RX6 191 "NetShapes$Water" "count" "I") (by decide +kernel)
  refine lv_dload_n hx hb dX6_wave_0 rfl (lv_at hl 1 rfl) ?_
  refine lv_dconst0 hx hb dX6_wave_1 ?_
  refine lv_ldc2d hx hb hown c_182 dX6_wave_2 ?_
  refine g0i (va_runS (As := [.double (h), .double (FP.dconst0), .double (4629137466983448576)]) (rest := []) ⟨hx, hb, hml, hown, hts⟩ (kX6_within l D H.size h FP.dconst0 4629137466983448576) (va_cwS 3 hts gX6_wave_X6_within rfl rfl rfl (by decide +kernel) ⟨Nat.le_of_ble_eq_true rfl, Nat.le_of_ble_eq_true rfl⟩) (gPreS (eT_bl) w0_P (fun _ _ _ => trivial)) rfl rfl hl.1 rfl (lv_room (Nat.le_of_ble_eq_true rfl)) dX6_wave_5 ⟨Nat.zero_le _, Nat.zero_le _⟩) hP hS (fun r_ H locs hw hP hS => ?_)
  rcases hw with ⟨rfl, b_1⟩ | ⟨rfl, b_1⟩
  · skip
    have b_1 : inR (h) (FP.dconst0) (4629137466983448576) := b_1
    refine lv_if_eq (tgt := 34) hx hb dX6_wave_8 (by decide) (fun c_8_2 => absurd c_8_2 (by decide)) (fun _ => ?_)
    refine lv_dload_n hx hb dX6_wave_11 rfl (lv_at hl 2 rfl) ?_
    refine lv_dconst1 hx hb dX6_wave_12 ?_
    refine lv_ldc2d hx hb hown c_184 dX6_wave_13 ?_
    refine g0i (va_runS (As := [.double (pe), .double (FP.dconst1), .double (4633641066610819072)]) (rest := []) ⟨hx, hb, hml, hown, hts⟩ (kX6_within l D H.size pe FP.dconst1 4633641066610819072) (va_cwS 3 hts gX6_wave_X6_within rfl rfl rfl (by decide +kernel) ⟨Nat.le_of_ble_eq_true rfl, Nat.le_of_ble_eq_true rfl⟩) (gPreS (eT_bl) w0_P (fun _ _ _ => trivial)) rfl rfl hl.1 rfl (lv_room (Nat.le_of_ble_eq_true rfl)) dX6_wave_16 ⟨Nat.zero_le _, Nat.zero_le _⟩) hP hS (fun r_ H locs hw hP hS => ?_)
    rcases hw with ⟨rfl, b_3⟩ | ⟨rfl, b_3⟩
    · skip
      have b_3 : inR (pe) (FP.dconst1) (4633641066610819072) := b_3
      refine lv_if_eq (tgt := 34) hx hb dX6_wave_19 (by decide) (fun c_19_4 => absurd c_19_4 (by decide)) (fun _ => ?_)
      refine lv_iload hx hb dX6_wave_22 (lv_at hl 3 rfl) ?_
      refine lv_if_lt (tgt := 34) hx hb dX6_wave_24 (by decide) (fun c_24_5 => ?_) (fun c_24_5 => ?_)
      · skip
        refine lv_iconst (v := (-1 : Int32)) hx hb dX6_wave_34 (by decide) ?_
        exact hret hS hP dX6_wave_35 (⟨Or.inr ⟨fun q => q.2.2.1 c_24_5, rfl, rfl⟩, rfl⟩)
      · skip
        refine lv_iload hx hb dX6_wave_27 (lv_at hl 3 rfl) ?_
        refine lv_bipush (v := nI 100) hx hb dX6_wave_29 (by decide) ?_
        refine lv_icmp_le (tgt := 36) hx hb dX6_wave_31 (by decide) (fun c_31_6 => ?_) (fun c_31_6 => ?_)
        · skip
          have wh := inR_fB (K := 1028) b_1 (fB_mono fB_c0 (by decide)) (fB_lit (by decide +kernel))
          have wp := inR_fB (K := 1029) b_3 (fB_mono fB_c1 (by decide)) (fB_lit (by decide +kernel))
          have wq := inR_fL (L := 1023) b_3 (by decide +kernel) (fL_lit (by decide +kernel)) (by decide)
          refine lv_aload_n hx hb dX6_wave_36 rfl (lv_at hl 0 rfl) ?_
          refine va_get (D := D) (ci := 6) (v := .ref (ad 3)) (C := RX6) (T := TX6) (N := 6) hx hb hts iX6_wave_X6 hown hK hP 0 rfl rfl 2 (by decide) f_26 (fun _ h9 => h9) rfl dX6_wave_37 ?_
          refine lv_dload_n hx hb dX6_wave_40 rfl (lv_at hl 1 rfl) ?_
          refine lv_dload_n hx hb dX6_wave_41 rfl (lv_at hl 2 rfl) ?_
          refine lv_dconst1 hx hb dX6_wave_42 ?_
          have h_8 : fB (1031) (FP.dadd (pe) (FP.dconst1)) := fB_add (M := 1029) wp fB_c1 (by omega) (by omega) (by omega)
          refine lv_dadd hx hb dX6_wave_43 (fB_ne h_8 (by omega)) ?_
          have wl := (fL_addl (L := 1023) (by decide) (by decide) (fB_fin wp (by decide)) (fB_fin fB_c1 (by decide)) wq.1 wq.2 (b := FP.dconst1) (by unfold fP; decide +kernel) (fB_nn h_8 (by decide))).2
          have h_10 : fB (1029) (FP.ddiv (h) (FP.dadd (pe) (FP.dconst1))) := fB_div wh wl (fB_mono h_8 (by omega)) (by omega) (by omega) (by omega)
          refine lv_ddiv hx hb dX6_wave_44 (fB_ne h_10 (by omega)) ?_
          refine lv_iload hx hb dX6_wave_45 (lv_at hl 3 rfl) ?_
          refine lv_i2d hx hb dX6_wave_47 ?_
          have h_12 : fB (1063) (FP.dmul (FP.ddiv (h) (FP.dadd (pe) (FP.dconst1))) (FP.i2d (n))) := fB_mul h_10 (fB_i2d (n)) (by omega) (by omega) (by omega)
          refine lv_dmul hx hb dX6_wave_48 (fB_ne h_12 (by omega)) ?_
          refine lv_ldc2d hx hb hown c_186 dX6_wave_49 ?_
          have h_14 : fB (1058) (FP.ddiv (FP.dmul (FP.ddiv (h) (FP.dadd (pe) (FP.dconst1))) (FP.i2d (n))) (4636737291354636288)) := fB_div h_12 (fL_lit (K := 1029) (a := 4636737291354636288) (by decide +kernel)) (fB_mono (fB_lit (K := 1030) (a := 4636737291354636288) (by decide +kernel)) (by omega)) (by omega) (by omega) (by omega)
          refine lv_ddiv hx hb dX6_wave_52 (fB_ne h_14 (by omega)) ?_
          refine xput (D := D) (ci := 5) (v := .double (FP.ddiv (FP.dmul (FP.ddiv (h) (FP.dadd (pe) (FP.dconst1))) (FP.i2d (n))) (4636737291354636288))) (ty := .double) (C := RX5) (T := TX5) (N := 6) hx hb hts iX6_wave_X5 tyX5 tyX5_ok nmX5 hown hK hD hP hS 3 (((nN, px, py, pz, fx, fy, fz, lf, ld, fi), (nB, fr, tt, ln, wi, sg, pu), (nR, rd, rx, ry, (FP.ddiv (FP.dmul (FP.ddiv (h) (FP.dadd (pe) (FP.dconst1))) (FP.i2d (n))) (4636737291354636288)), fo), (re, dg), (nP, tp, bt, dp)), (sp, ac, kp, kc, kn, aw, dw, su, ss, sd)) rfl rfl 4 (by decide) f_188 (fun _ h9 => h9) rfl (by decide +kernel) rfl rfl (Nat.le_of_ble_eq_true rfl) rfl dX6_wave_53 (fun H locs hP hS => ?_)
          refine lv_aload_n hx hb dX6_wave_56 rfl (lv_at hl 0 rfl) ?_
          refine va_get (D := D) (ci := 6) (v := .ref (ad 3)) (C := RX6) (T := TX6) (N := 6) hx hb hts iX6_wave_X6 hown hK hP 0 rfl rfl 2 (by decide) f_26 (fun _ h9 => h9) rfl dX6_wave_57 ?_
          refine va_get (D := D) (ci := 5) (v := .int (nI nR)) (C := RX5) (T := TX5) (N := 6) hx hb hts iX6_wave_X5 hown hK hP 3 rfl rfl 3 (by decide) f_191 (fun _ h9 => h9) rfl dX6_wave_60 ?_
          exact hret hS hP dX6_wave_63 (⟨Or.inl ⟨⟨b_1, b_3, c_24_5, c_31_6⟩, rfl, rfl⟩, rfl⟩)
        · skip
          refine lv_iconst (v := (-1 : Int32)) hx hb dX6_wave_34 (by decide) ?_
          exact hret hS hP dX6_wave_35 (⟨Or.inr ⟨fun q => absurd q.2.2.2 c_31_6, rfl, rfl⟩, rfl⟩)
    · skip
      have b_3 : ¬ (inR (pe) (FP.dconst1) (4633641066610819072)) := b_3
      refine lv_if_eq (tgt := 34) hx hb dX6_wave_19 (by decide) (fun _ => ?_) (fun c_19_15 => absurd c_19_15 (by decide))
      refine lv_iconst (v := (-1 : Int32)) hx hb dX6_wave_34 (by decide) ?_
      exact hret hS hP dX6_wave_35 (⟨Or.inr ⟨fun q => absurd q.2.1 b_3, rfl, rfl⟩, rfl⟩)
  · skip
    have b_1 : ¬ (inR (h) (FP.dconst0) (4629137466983448576)) := b_1
    refine lv_if_eq (tgt := 34) hx hb dX6_wave_8 (by decide) (fun _ => ?_) (fun c_8_16 => absurd c_8_16 (by decide))
    refine lv_iconst (v := (-1 : Int32)) hx hb dX6_wave_34 (by decide) ?_
    exact hret hS hP dX6_wave_35 (⟨Or.inr ⟨fun q => absurd q.1 b_1, rfl, rfl⟩, rfl⟩)
theorem iX7_fix_X7 : ∀ w ∈ u_ws RX7 TX7 31, w ∈ wsX7_fix := by decide +kernel
set_option maxHeartbeats 4000000 in
set_option maxRecDepth 100000 in
theorem kX7_fix (l : Launch) (D : va_G) (cs : Nat → ClassId) (ad : Nat → Nat) (hd : distM ad) (sz : Nat) (S : MS) (hnN : S.1.1.1 ≤ 30) (k : Int32) : Met l yX7_fix wsX7_fix ({ frames := 1, cells := 0, slots := 0, locals := 21 } : Room) (gP D (WM cs ad) (EM D cs) S sz ([.ref (ad 0), .int (k)] : List Value)) (va_Qi (fun r u => q_fix S.1 k r u.1 ∧ u.2 = S.2) (gB D (WM cs ad)) (gA (AM ad) sz)) 0 0 (gA (AM ad) sz) := by
  obtain ⟨⟨⟨nN, px, py, pz, fx, fy, fz, lf, ld, fi⟩, ⟨nB, fr, tt, ln, wi, sg, pu⟩, ⟨nR, rd, rx, ry, wv, fo⟩, ⟨re, dg⟩, ⟨nP, tp, bt, dp⟩⟩, ⟨nQ, fu⟩⟩ := S
  have hnN : nN ≤ 30 := hnN
  refine gMz (cc := cX7_fix) (maxL := 2) (plainFor_of_name (by decide)) rfl (Nat.le_of_ble_eq_true rfl) ?_
  intro p e s m below meth c Q hx hb hts hown hml hsz hE hret H locs hP hS ls hl
  subst hsz
  have hown : s.vm.findClass RX7 = some m.cls := hown
  have hK : va_K D vwCl (tysX cs) s := hE.1
  have hD : ∀ u, va_D (gA (AM ad) s.heap.size) (WM cs ad u) := fun u => WM_D hd u
  have hl : lv_has ls 2 [(0, .ref (ad 0)), (1, .int (k))] := hl
  have f_25 := hts (.fieldLink RX7 25 "NetShapesModel" "fixed" "[Z") (by decide +kernel)
  refine lv_aload_n hx hb dX7_fix_0 rfl (lv_at hl 0 rfl) ?_
  refine lv_iload_n hx hb dX7_fix_1 rfl (lv_at hl 1 rfl) ?_
  refine gci (va_runV (As := [.int (k)]) (rest := []) ⟨hx, hb, hml, hown, hts⟩ (kX7_isNode l D cs ad hd H.size (((nN, px, py, pz, fx, fy, fz, lf, ld, fi), (nB, fr, tt, ln, wi, sg, pu), (nR, rd, rx, ry, wv, fo), (re, dg), (nP, tp, bt, dp)), (nQ, fu)) hnN k) (cwV 1 hts gX7_fix_X7_isNode rfl rfl rfl (by decide +kernel) ⟨Nat.le_of_ble_eq_true rfl, Nat.le_of_ble_eq_true rfl⟩) (gPreV (EM_bl) (va_recv hK hP (ci := 7) (q0 := 0) rfl rfl) hP (fun U _ hW => EM_warm hW hE)) rfl rfl hl.1 rfl (lv_room (Nat.le_of_ble_eq_true rfl)) dX7_fix_2 ⟨Nat.zero_le _, Nat.zero_le _⟩) hS (fun r_ u_ H locs hw hP hS => ?_)
  obtain ⟨rfl, hw⟩ := hw
  rcases hw with ⟨rfl, b_1⟩ | ⟨rfl, b_1⟩
  · skip
    have b_1 : inN (nN) (k) := b_1
    obtain ⟨j, hj, rfl⟩ := b_1
    refine lv_if_ne (tgt := 10) hx hb dX7_fix_5 (by decide) (fun _ => ?_) (fun c_5_2 => absurd c_5_2 (by decide))
    refine lv_aload_n hx hb dX7_fix_10 rfl (lv_at hl 0 rfl) ?_
    refine va_get (D := D) (ci := 7) (v := .ref (ad 6)) (C := RX7) (T := TX7) (N := 31) hx hb hts iX7_fix_X7 hown hK hP 0 rfl rfl 6 (by decide) f_25 (fun _ h9 => h9) rfl dX7_fix_11 ?_
    refine lv_iload_n hx hb dX7_fix_14 rfl (lv_at hl 1 rfl) ?_
    refine lv_iconst (v := nI 1) hx hb dX7_fix_15 (by decide) ?_
    refine xzs hx hb hK hD hP hS 6 2 (((nN, px, py, pz, fx, fy, fz, lf, ld, (upd fi j (nI 1))), (nB, fr, tt, ln, wi, sg, pu), (nR, rd, rx, ry, wv, fo), (re, dg), (nP, tp, bt, dp)), (nQ, fu)) rfl rfl (j := j) (by decide) (by omega) rfl dX7_fix_16 (fun H locs hP hS => ?_)
    refine lv_iconst (v := nI 1) hx hb dX7_fix_17 (by decide) ?_
    exact hret hS hP dX7_fix_18 (Or.inr rfl) (⟨Or.inl ⟨j, hj, rfl, trivial, rfl, rfl⟩, rfl⟩)
  · skip
    have b_1 : ¬ (inN (nN) (k)) := b_1
    refine lv_if_ne (tgt := 10) hx hb dX7_fix_5 (by decide) (fun c_5_3 => absurd c_5_3 (by decide)) (fun _ => ?_)
    refine lv_iconst (v := nI 0) hx hb dX7_fix_8 (by decide) ?_
    exact hret hS hP dX7_fix_9 (Or.inl rfl) (⟨Or.inr ⟨fun q => absurd q.1 b_1, rfl, rfl⟩, rfl⟩)
theorem iX7_floats_X7 : ∀ w ∈ u_ws RX7 TX7 31, w ∈ wsX7_floats := by decide +kernel
set_option maxHeartbeats 4000000 in
set_option maxRecDepth 100000 in
theorem kX7_floats (l : Launch) (D : va_G) (cs : Nat → ClassId) (ad : Nat → Nat) (hd : distM ad) (sz : Nat) (S : MS) (hnN : S.1.1.1 ≤ 30) (k : Int32) (v : UInt64) : Met l yX7_floats wsX7_floats ({ frames := 1, cells := 0, slots := 0, locals := 25 } : Room) (gP D (WM cs ad) (EM D cs) S sz ([.ref (ad 0), .int (k), .double (v)] : List Value)) (va_Qi (fun r u => q_floats S.1 k v r u.1 ∧ u.2 = S.2) (gB D (WM cs ad)) (gA (AM ad) sz)) 0 0 (gA (AM ad) sz) := by
  obtain ⟨⟨⟨nN, px, py, pz, fx, fy, fz, lf, ld, fi⟩, ⟨nB, fr, tt, ln, wi, sg, pu⟩, ⟨nR, rd, rx, ry, wv, fo⟩, ⟨re, dg⟩, ⟨nP, tp, bt, dp⟩⟩, ⟨nQ, fu⟩⟩ := S
  have hnN : nN ≤ 30 := hnN
  refine gMz (cc := cX7_floats) (maxL := 4) (plainFor_of_name (by decide)) rfl (Nat.le_of_ble_eq_true rfl) ?_
  intro p e s m below meth c Q hx hb hts hown hml hsz hE hret H locs hP hS ls hl
  subst hsz
  have hown : s.vm.findClass RX7 = some m.cls := hown
  have hK : va_K D vwCl (tysX cs) s := hE.1
  have hD : ∀ u, va_D (gA (AM ad) s.heap.size) (WM cs ad u) := fun u => WM_D hd u
  have hl : lv_has ls 4 [(0, .ref (ad 0)), (1, .int (k)), (2, .double (v))] := hl
  have c_114 := hts (.constantDouble RX7 114 13904980397738950656) (by decide +kernel)
  have c_116 := hts (.constantDouble RX7 116 4681608360884174848) (by decide +kernel)
  have f_19 := hts (.fieldLink RX7 19 "NetShapesModel" "lift" "[D") (by decide +kernel)
  refine lv_aload_n hx hb dX7_floats_0 rfl (lv_at hl 0 rfl) ?_
  refine lv_iload_n hx hb dX7_floats_1 rfl (lv_at hl 1 rfl) ?_
  refine gci (va_runV (As := [.int (k)]) (rest := []) ⟨hx, hb, hml, hown, hts⟩ (kX7_isNode l D cs ad hd H.size (((nN, px, py, pz, fx, fy, fz, lf, ld, fi), (nB, fr, tt, ln, wi, sg, pu), (nR, rd, rx, ry, wv, fo), (re, dg), (nP, tp, bt, dp)), (nQ, fu)) hnN k) (cwV 1 hts gX7_floats_X7_isNode rfl rfl rfl (by decide +kernel) ⟨Nat.le_of_ble_eq_true rfl, Nat.le_of_ble_eq_true rfl⟩) (gPreV (EM_bl) (va_recv hK hP (ci := 7) (q0 := 0) rfl rfl) hP (fun U _ hW => EM_warm hW hE)) rfl rfl hl.1 rfl (lv_room (Nat.le_of_ble_eq_true rfl)) dX7_floats_2 ⟨Nat.zero_le _, Nat.zero_le _⟩) hS (fun r_ u_ H locs hw hP hS => ?_)
  obtain ⟨rfl, hw⟩ := hw
  rcases hw with ⟨rfl, b_1⟩ | ⟨rfl, b_1⟩
  · skip
    have b_1 : inN (nN) (k) := b_1
    refine lv_if_eq (tgt := 21) hx hb dX7_floats_5 (by decide) (fun c_5_2 => absurd c_5_2 (by decide)) (fun _ => ?_)
    refine lv_dload_n hx hb dX7_floats_8 rfl (lv_at hl 2 rfl) ?_
    refine lv_ldc2d hx hb hown c_114 dX7_floats_9 ?_
    refine lv_ldc2d hx hb hown c_116 dX7_floats_12 ?_
    refine g0i (va_runS (As := [.double (v), .double (13904980397738950656), .double (4681608360884174848)]) (rest := []) ⟨hx, hb, hml, hown, hts⟩ (kX7_isIn l D H.size v 13904980397738950656 4681608360884174848) (va_cwS 3 hts gX7_floats_X7_isIn rfl rfl rfl (by decide +kernel) ⟨Nat.le_of_ble_eq_true rfl, Nat.le_of_ble_eq_true rfl⟩) (gPreS (eT_bl) w0_P (fun _ _ _ => trivial)) rfl rfl hl.1 rfl (lv_room (Nat.le_of_ble_eq_true rfl)) dX7_floats_15 ⟨Nat.zero_le _, Nat.zero_le _⟩) hP hS (fun r_ H locs hw hP hS => ?_)
    rcases hw with ⟨rfl, b_3⟩ | ⟨rfl, b_3⟩
    · skip
      have b_3 : inR (v) (13904980397738950656) (4681608360884174848) := b_3
      obtain ⟨j, hj, rfl⟩ := b_1
      refine lv_if_ne (tgt := 23) hx hb dX7_floats_18 (by decide) (fun _ => ?_) (fun c_18_4 => absurd c_18_4 (by decide))
      refine lv_aload_n hx hb dX7_floats_23 rfl (lv_at hl 0 rfl) ?_
      refine va_get (D := D) (ci := 7) (v := .ref (ad 4)) (C := RX7) (T := TX7) (N := 31) hx hb hts iX7_floats_X7 hown hK hP 0 rfl rfl 4 (by decide) f_19 (fun _ h9 => h9) rfl dX7_floats_24 ?_
      refine lv_iload_n hx hb dX7_floats_27 rfl (lv_at hl 1 rfl) ?_
      refine lv_dload_n hx hb dX7_floats_28 rfl (lv_at hl 2 rfl) ?_
      refine xds hx hb hK hD hP hS 4 0 (((nN, px, py, pz, fx, fy, fz, (vf_upd lf j v), ld, fi), (nB, fr, tt, ln, wi, sg, pu), (nR, rd, rx, ry, wv, fo), (re, dg), (nP, tp, bt, dp)), (nQ, fu)) rfl rfl (j := j) (by decide) (by omega) rfl dX7_floats_29 (fun H locs hP hS => ?_)
      refine lv_iconst (v := nI 1) hx hb dX7_floats_30 (by decide) ?_
      exact hret hS hP dX7_floats_31 (Or.inr rfl) (⟨Or.inl ⟨j, hj, rfl, b_3, rfl, rfl⟩, rfl⟩)
    · skip
      have b_3 : ¬ (inR (v) (13904980397738950656) (4681608360884174848)) := b_3
      refine lv_if_ne (tgt := 23) hx hb dX7_floats_18 (by decide) (fun c_18_5 => absurd c_18_5 (by decide)) (fun _ => ?_)
      refine lv_iconst (v := nI 0) hx hb dX7_floats_21 (by decide) ?_
      exact hret hS hP dX7_floats_22 (Or.inl rfl) (⟨Or.inr ⟨fun q => absurd q.2 b_3, rfl, rfl⟩, rfl⟩)
  · skip
    have b_1 : ¬ (inN (nN) (k)) := b_1
    refine lv_if_eq (tgt := 21) hx hb dX7_floats_5 (by decide) (fun _ => ?_) (fun c_5_6 => absurd c_5_6 (by decide))
    refine lv_iconst (v := nI 0) hx hb dX7_floats_21 (by decide) ?_
    exact hret hS hP dX7_floats_22 (Or.inl rfl) (⟨Or.inr ⟨fun q => absurd q.1 b_1, rfl, rfl⟩, rfl⟩)
theorem iX7_catchAt_X7 : ∀ w ∈ u_ws RX7 TX7 31, w ∈ wsX7_catchAt := by decide +kernel
set_option maxHeartbeats 4000000 in
set_option maxRecDepth 100000 in
theorem kX7_catchAt (l : Launch) (D : va_G) (cs : Nat → ClassId) (ad : Nat → Nat) (hd : distM ad) (sz : Nat) (S : MS) (hnN : S.1.1.1 ≤ 30) (k : Int32) (v : UInt64) : Met l yX7_catchAt wsX7_catchAt ({ frames := 1, cells := 0, slots := 0, locals := 25 } : Room) (gP D (WM cs ad) (EM D cs) S sz ([.ref (ad 0), .int (k), .double (v)] : List Value)) (va_Qi (fun r u => q_catchAt S.1 k v r u.1 ∧ u.2 = S.2) (gB D (WM cs ad)) (gA (AM ad) sz)) 0 0 (gA (AM ad) sz) := by
  obtain ⟨⟨⟨nN, px, py, pz, fx, fy, fz, lf, ld, fi⟩, ⟨nB, fr, tt, ln, wi, sg, pu⟩, ⟨nR, rd, rx, ry, wv, fo⟩, ⟨re, dg⟩, ⟨nP, tp, bt, dp⟩⟩, ⟨nQ, fu⟩⟩ := S
  have hnN : nN ≤ 30 := hnN
  refine gMz (cc := cX7_catchAt) (maxL := 4) (plainFor_of_name (by decide)) rfl (Nat.le_of_ble_eq_true rfl) ?_
  intro p e s m below meth c Q hx hb hts hown hml hsz hE hret H locs hP hS ls hl
  subst hsz
  have hown : s.vm.findClass RX7 = some m.cls := hown
  have hK : va_K D vwCl (tysX cs) s := hE.1
  have hD : ∀ u, va_D (gA (AM ad) s.heap.size) (WM cs ad u) := fun u => WM_D hd u
  have hl : lv_has ls 4 [(0, .ref (ad 0)), (1, .int (k)), (2, .double (v))] := hl
  have c_116 := hts (.constantDouble RX7 116 4681608360884174848) (by decide +kernel)
  have f_22 := hts (.fieldLink RX7 22 "NetShapesModel" "caught" "[D") (by decide +kernel)
  refine lv_aload_n hx hb dX7_catchAt_0 rfl (lv_at hl 0 rfl) ?_
  refine lv_iload_n hx hb dX7_catchAt_1 rfl (lv_at hl 1 rfl) ?_
  refine gci (va_runV (As := [.int (k)]) (rest := []) ⟨hx, hb, hml, hown, hts⟩ (kX7_isNode l D cs ad hd H.size (((nN, px, py, pz, fx, fy, fz, lf, ld, fi), (nB, fr, tt, ln, wi, sg, pu), (nR, rd, rx, ry, wv, fo), (re, dg), (nP, tp, bt, dp)), (nQ, fu)) hnN k) (cwV 1 hts gX7_catchAt_X7_isNode rfl rfl rfl (by decide +kernel) ⟨Nat.le_of_ble_eq_true rfl, Nat.le_of_ble_eq_true rfl⟩) (gPreV (EM_bl) (va_recv hK hP (ci := 7) (q0 := 0) rfl rfl) hP (fun U _ hW => EM_warm hW hE)) rfl rfl hl.1 rfl (lv_room (Nat.le_of_ble_eq_true rfl)) dX7_catchAt_2 ⟨Nat.zero_le _, Nat.zero_le _⟩) hS (fun r_ u_ H locs hw hP hS => ?_)
  obtain ⟨rfl, hw⟩ := hw
  rcases hw with ⟨rfl, b_1⟩ | ⟨rfl, b_1⟩
  · skip
    have b_1 : inN (nN) (k) := b_1
    refine lv_if_eq (tgt := 19) hx hb dX7_catchAt_5 (by decide) (fun c_5_2 => absurd c_5_2 (by decide)) (fun _ => ?_)
    refine lv_dload_n hx hb dX7_catchAt_8 rfl (lv_at hl 2 rfl) ?_
    refine lv_dconst0 hx hb dX7_catchAt_9 ?_
    refine lv_ldc2d hx hb hown c_116 dX7_catchAt_10 ?_
    refine g0i (va_runS (As := [.double (v), .double (FP.dconst0), .double (4681608360884174848)]) (rest := []) ⟨hx, hb, hml, hown, hts⟩ (kX7_isIn l D H.size v FP.dconst0 4681608360884174848) (va_cwS 3 hts gX7_catchAt_X7_isIn rfl rfl rfl (by decide +kernel) ⟨Nat.le_of_ble_eq_true rfl, Nat.le_of_ble_eq_true rfl⟩) (gPreS (eT_bl) w0_P (fun _ _ _ => trivial)) rfl rfl hl.1 rfl (lv_room (Nat.le_of_ble_eq_true rfl)) dX7_catchAt_13 ⟨Nat.zero_le _, Nat.zero_le _⟩) hP hS (fun r_ H locs hw hP hS => ?_)
    rcases hw with ⟨rfl, b_3⟩ | ⟨rfl, b_3⟩
    · skip
      have b_3 : inR (v) (FP.dconst0) (4681608360884174848) := b_3
      obtain ⟨j, hj, rfl⟩ := b_1
      refine lv_if_ne (tgt := 21) hx hb dX7_catchAt_16 (by decide) (fun _ => ?_) (fun c_16_4 => absurd c_16_4 (by decide))
      refine lv_aload_n hx hb dX7_catchAt_21 rfl (lv_at hl 0 rfl) ?_
      refine va_get (D := D) (ci := 7) (v := .ref (ad 5)) (C := RX7) (T := TX7) (N := 31) hx hb hts iX7_catchAt_X7 hown hK hP 0 rfl rfl 5 (by decide) f_22 (fun _ h9 => h9) rfl dX7_catchAt_22 ?_
      refine lv_iload_n hx hb dX7_catchAt_25 rfl (lv_at hl 1 rfl) ?_
      refine lv_dload_n hx hb dX7_catchAt_26 rfl (lv_at hl 2 rfl) ?_
      refine xds hx hb hK hD hP hS 5 0 (((nN, px, py, pz, fx, fy, fz, lf, (vf_upd ld j v), fi), (nB, fr, tt, ln, wi, sg, pu), (nR, rd, rx, ry, wv, fo), (re, dg), (nP, tp, bt, dp)), (nQ, fu)) rfl rfl (j := j) (by decide) (by omega) rfl dX7_catchAt_27 (fun H locs hP hS => ?_)
      refine lv_iconst (v := nI 1) hx hb dX7_catchAt_28 (by decide) ?_
      exact hret hS hP dX7_catchAt_29 (Or.inr rfl) (⟨Or.inl ⟨j, hj, rfl, b_3, rfl, rfl⟩, rfl⟩)
    · skip
      have b_3 : ¬ (inR (v) (FP.dconst0) (4681608360884174848)) := b_3
      refine lv_if_ne (tgt := 21) hx hb dX7_catchAt_16 (by decide) (fun c_16_5 => absurd c_16_5 (by decide)) (fun _ => ?_)
      refine lv_iconst (v := nI 0) hx hb dX7_catchAt_19 (by decide) ?_
      exact hret hS hP dX7_catchAt_20 (Or.inl rfl) (⟨Or.inr ⟨fun q => absurd q.2 b_3, rfl, rfl⟩, rfl⟩)
  · skip
    have b_1 : ¬ (inN (nN) (k)) := b_1
    refine lv_if_eq (tgt := 19) hx hb dX7_catchAt_5 (by decide) (fun _ => ?_) (fun c_5_6 => absurd c_5_6 (by decide))
    refine lv_iconst (v := nI 0) hx hb dX7_catchAt_19 (by decide) ?_
    exact hret hS hP dX7_catchAt_20 (Or.inl rfl) (⟨Or.inr ⟨fun q => absurd q.1 b_1, rfl, rfl⟩, rfl⟩)
theorem iX7_foul_X7 : ∀ w ∈ u_ws RX7 TX7 31, w ∈ wsX7_foul := by decide +kernel
set_option maxHeartbeats 4000000 in
set_option maxRecDepth 100000 in
theorem kX7_foul (l : Launch) (D : va_G) (cs : Nat → ClassId) (ad : Nat → Nat) (hd : distM ad) (sz : Nat) (S : MS) (v : UInt64) : Met l yX7_foul wsX7_foul ({ frames := 1, cells := 0, slots := 0, locals := 25 } : Room) (gP D (WM cs ad) (EM D cs) S sz ([.ref (ad 0), .double (v)] : List Value)) (va_Qi (fun r u => q_foul S.1 v r u.1 ∧ u.2 = S.2) (gB D (WM cs ad)) (gA (AM ad) sz)) 0 0 (gA (AM ad) sz) := by
  obtain ⟨⟨⟨nN, px, py, pz, fx, fy, fz, lf, ld, fi⟩, ⟨nB, fr, tt, ln, wi, sg, pu⟩, ⟨nR, rd, rx, ry, wv, fo⟩, ⟨re, dg⟩, ⟨nP, tp, bt, dp⟩⟩, ⟨nQ, fu⟩⟩ := S
  refine gMz (cc := cX7_foul) (maxL := 3) (plainFor_of_name (by decide)) rfl (Nat.le_of_ble_eq_true rfl) ?_
  intro p e s m below meth c Q hx hb hts hown hml hsz hE hret H locs hP hS ls hl
  subst hsz
  have hown : s.vm.findClass RX7 = some m.cls := hown
  have hK : va_K D vwCl (tysX cs) s := hE.1
  have hD : ∀ u, va_D (gA (AM ad) s.heap.size) (WM cs ad u) := fun u => WM_D hd u
  have hl : lv_has ls 3 [(0, .ref (ad 0)), (1, .double (v))] := hl
  have c_118 := hts (.constantDouble RX7 118 4617315517961601024) (by decide +kernel)
  have f_120 := hts (.fieldLink RX7 120 "NetShapesModel" "fouled" "D") (by decide +kernel)
  refine lv_dload_n hx hb dX7_foul_0 rfl (lv_at hl 1 rfl) ?_
  refine lv_dconst0 hx hb dX7_foul_1 ?_
  refine lv_ldc2d hx hb hown c_118 dX7_foul_2 ?_
  refine g0i (va_runS (As := [.double (v), .double (FP.dconst0), .double (4617315517961601024)]) (rest := []) ⟨hx, hb, hml, hown, hts⟩ (kX7_isIn l D H.size v FP.dconst0 4617315517961601024) (va_cwS 3 hts gX7_foul_X7_isIn rfl rfl rfl (by decide +kernel) ⟨Nat.le_of_ble_eq_true rfl, Nat.le_of_ble_eq_true rfl⟩) (gPreS (eT_bl) w0_P (fun _ _ _ => trivial)) rfl rfl hl.1 rfl (lv_room (Nat.le_of_ble_eq_true rfl)) dX7_foul_5 ⟨Nat.zero_le _, Nat.zero_le _⟩) hP hS (fun r_ H locs hw hP hS => ?_)
  rcases hw with ⟨rfl, b_1⟩ | ⟨rfl, b_1⟩
  · skip
    have b_1 : inR (v) (FP.dconst0) (4617315517961601024) := b_1
    refine lv_if_ne (tgt := 13) hx hb dX7_foul_8 (by decide) (fun _ => ?_) (fun c_8_2 => absurd c_8_2 (by decide))
    refine lv_aload_n hx hb dX7_foul_13 rfl (lv_at hl 0 rfl) ?_
    refine lv_dload_n hx hb dX7_foul_14 rfl (lv_at hl 1 rfl) ?_
    refine xput (D := D) (ci := 7) (v := .double (v)) (ty := .double) (C := RX7) (T := TX7) (N := 31) hx hb hts iX7_foul_X7 tyX7 tyX7_ok nmX7 hown hK hD hP hS 0 (((nN, px, py, pz, fx, fy, fz, lf, ld, fi), (nB, fr, tt, ln, wi, sg, pu), (nR, rd, rx, ry, wv, v), (re, dg), (nP, tp, bt, dp)), (nQ, fu)) rfl rfl 22 (by decide) f_120 (fun _ h9 => h9) rfl (by decide +kernel) rfl rfl (Nat.le_of_ble_eq_true rfl) rfl dX7_foul_15 (fun H locs hP hS => ?_)
    refine lv_iconst (v := nI 1) hx hb dX7_foul_18 (by decide) ?_
    exact hret hS hP dX7_foul_19 (Or.inr rfl) (⟨Or.inl ⟨b_1, rfl, rfl⟩, rfl⟩)
  · skip
    have b_1 : ¬ (inR (v) (FP.dconst0) (4617315517961601024)) := b_1
    refine lv_if_ne (tgt := 13) hx hb dX7_foul_8 (by decide) (fun c_8_3 => absurd c_8_3 (by decide)) (fun _ => ?_)
    refine lv_iconst (v := nI 0) hx hb dX7_foul_11 (by decide) ?_
    exact hret hS hP dX7_foul_12 (Or.inl rfl) (⟨Or.inr ⟨fun q => absurd q b_1, rfl, rfl⟩, rfl⟩)
theorem iX7_wave_X7 : ∀ w ∈ u_ws RX7 TX7 31, w ∈ wsX7_wave := by decide +kernel
set_option maxHeartbeats 4000000 in
set_option maxRecDepth 100000 in
theorem kX7_wave (l : Launch) (D : va_G) (cs : Nat → ClassId) (ad : Nat → Nat) (hd : distM ad) (sz : Nat) (S : MS) (h pe : UInt64) (n : Int32) : Met l yX7_wave wsX7_wave ({ frames := 1, cells := 0, slots := 0, locals := 25 } : Room) (gP D (WM cs ad) (EM D cs) S sz ([.ref (ad 0), .double (h), .double (pe), .int (n)] : List Value)) (va_Qi (fun r u => q_wave S.1 h pe n r u.1 ∧ u.2 = S.2) (gB D (WM cs ad)) (gA (AM ad) sz)) 0 0 (gA (AM ad) sz) := by
  obtain ⟨⟨⟨nN, px, py, pz, fx, fy, fz, lf, ld, fi⟩, ⟨nB, fr, tt, ln, wi, sg, pu⟩, ⟨nR, rd, rx, ry, wv, fo⟩, ⟨re, dg⟩, ⟨nP, tp, bt, dp⟩⟩, ⟨nQ, fu⟩⟩ := S
  refine gMi (cc := cX7_wave) (maxL := 6) (plainFor_of_name (by decide)) rfl (Nat.le_of_ble_eq_true rfl) ?_
  intro p e s m below meth c Q hx hb hts hown hml hsz hE hret H locs hP hS ls hl
  subst hsz
  have hown : s.vm.findClass RX7 = some m.cls := hown
  have hK : va_K D vwCl (tysX cs) s := hE.1
  have hD : ∀ u, va_D (gA (AM ad) s.heap.size) (WM cs ad u) := fun u => WM_D hd u
  have hl : lv_has ls 6 [(0, .ref (ad 0)), (1, .double (h)), (3, .double (pe)), (5, .int (n))] := hl
  have c_123 := hts (.constantDouble RX7 123 4629137466983448576) (by decide +kernel)
  have c_125 := hts (.constantDouble RX7 125 4633641066610819072) (by decide +kernel)
  have c_127 := hts (.constantDouble RX7 127 4636737291354636288) (by decide +kernel)
  have f_129 := hts (.fieldLink RX7 129 "NetShapesModel" "waves" "D") (by decide +kernel)
  have f_132 := hts (.fieldLink RX7 132 "NetShapesModel" "rows" "I") (by decide +kernel)
  refine lv_dload_n hx hb dX7_wave_0 rfl (lv_at hl 1 rfl) ?_
  refine lv_dconst0 hx hb dX7_wave_1 ?_
  refine lv_ldc2d hx hb hown c_123 dX7_wave_2 ?_
  refine g0i (va_runS (As := [.double (h), .double (FP.dconst0), .double (4629137466983448576)]) (rest := []) ⟨hx, hb, hml, hown, hts⟩ (kX7_isIn l D H.size h FP.dconst0 4629137466983448576) (va_cwS 3 hts gX7_wave_X7_isIn rfl rfl rfl (by decide +kernel) ⟨Nat.le_of_ble_eq_true rfl, Nat.le_of_ble_eq_true rfl⟩) (gPreS (eT_bl) w0_P (fun _ _ _ => trivial)) rfl rfl hl.1 rfl (lv_room (Nat.le_of_ble_eq_true rfl)) dX7_wave_5 ⟨Nat.zero_le _, Nat.zero_le _⟩) hP hS (fun r_ H locs hw hP hS => ?_)
  rcases hw with ⟨rfl, b_1⟩ | ⟨rfl, b_1⟩
  · skip
    have b_1 : inR (h) (FP.dconst0) (4629137466983448576) := b_1
    refine lv_if_eq (tgt := 34) hx hb dX7_wave_8 (by decide) (fun c_8_2 => absurd c_8_2 (by decide)) (fun _ => ?_)
    refine lv_dload_n hx hb dX7_wave_11 rfl (lv_at hl 2 rfl) ?_
    refine lv_dconst1 hx hb dX7_wave_12 ?_
    refine lv_ldc2d hx hb hown c_125 dX7_wave_13 ?_
    refine g0i (va_runS (As := [.double (pe), .double (FP.dconst1), .double (4633641066610819072)]) (rest := []) ⟨hx, hb, hml, hown, hts⟩ (kX7_isIn l D H.size pe FP.dconst1 4633641066610819072) (va_cwS 3 hts gX7_wave_X7_isIn rfl rfl rfl (by decide +kernel) ⟨Nat.le_of_ble_eq_true rfl, Nat.le_of_ble_eq_true rfl⟩) (gPreS (eT_bl) w0_P (fun _ _ _ => trivial)) rfl rfl hl.1 rfl (lv_room (Nat.le_of_ble_eq_true rfl)) dX7_wave_16 ⟨Nat.zero_le _, Nat.zero_le _⟩) hP hS (fun r_ H locs hw hP hS => ?_)
    rcases hw with ⟨rfl, b_3⟩ | ⟨rfl, b_3⟩
    · skip
      have b_3 : inR (pe) (FP.dconst1) (4633641066610819072) := b_3
      refine lv_if_eq (tgt := 34) hx hb dX7_wave_19 (by decide) (fun c_19_4 => absurd c_19_4 (by decide)) (fun _ => ?_)
      refine lv_iload hx hb dX7_wave_22 (lv_at hl 3 rfl) ?_
      refine lv_if_lt (tgt := 34) hx hb dX7_wave_24 (by decide) (fun c_24_5 => ?_) (fun c_24_5 => ?_)
      · skip
        refine lv_iconst (v := (-1 : Int32)) hx hb dX7_wave_34 (by decide) ?_
        exact hret hS hP dX7_wave_35 (⟨Or.inr ⟨fun q => q.2.2.1 c_24_5, rfl, rfl⟩, rfl⟩)
      · skip
        refine lv_iload hx hb dX7_wave_27 (lv_at hl 3 rfl) ?_
        refine lv_bipush (v := nI 100) hx hb dX7_wave_29 (by decide) ?_
        refine lv_icmp_le (tgt := 36) hx hb dX7_wave_31 (by decide) (fun c_31_6 => ?_) (fun c_31_6 => ?_)
        · skip
          have wh := inR_fB (K := 1028) b_1 (fB_mono fB_c0 (by decide)) (fB_lit (by decide +kernel))
          have wp := inR_fB (K := 1029) b_3 (fB_mono fB_c1 (by decide)) (fB_lit (by decide +kernel))
          have wq := inR_fL (L := 1023) b_3 (by decide +kernel) (fL_lit (by decide +kernel)) (by decide)
          refine lv_aload_n hx hb dX7_wave_36 rfl (lv_at hl 0 rfl) ?_
          refine lv_dload_n hx hb dX7_wave_37 rfl (lv_at hl 1 rfl) ?_
          refine lv_dload_n hx hb dX7_wave_38 rfl (lv_at hl 2 rfl) ?_
          refine lv_dconst1 hx hb dX7_wave_39 ?_
          have h_8 : fB (1031) (FP.dadd (pe) (FP.dconst1)) := fB_add (M := 1029) wp fB_c1 (by omega) (by omega) (by omega)
          refine lv_dadd hx hb dX7_wave_40 (fB_ne h_8 (by omega)) ?_
          have wl := (fL_addl (L := 1023) (by decide) (by decide) (fB_fin wp (by decide)) (fB_fin fB_c1 (by decide)) wq.1 wq.2 (b := FP.dconst1) (by unfold fP; decide +kernel) (fB_nn h_8 (by decide))).2
          have h_10 : fB (1029) (FP.ddiv (h) (FP.dadd (pe) (FP.dconst1))) := fB_div wh wl (fB_mono h_8 (by omega)) (by omega) (by omega) (by omega)
          refine lv_ddiv hx hb dX7_wave_41 (fB_ne h_10 (by omega)) ?_
          refine lv_iload hx hb dX7_wave_42 (lv_at hl 3 rfl) ?_
          refine lv_i2d hx hb dX7_wave_44 ?_
          have h_12 : fB (1063) (FP.dmul (FP.ddiv (h) (FP.dadd (pe) (FP.dconst1))) (FP.i2d (n))) := fB_mul h_10 (fB_i2d (n)) (by omega) (by omega) (by omega)
          refine lv_dmul hx hb dX7_wave_45 (fB_ne h_12 (by omega)) ?_
          refine lv_ldc2d hx hb hown c_127 dX7_wave_46 ?_
          have h_14 : fB (1058) (FP.ddiv (FP.dmul (FP.ddiv (h) (FP.dadd (pe) (FP.dconst1))) (FP.i2d (n))) (4636737291354636288)) := fB_div h_12 (fL_lit (K := 1029) (a := 4636737291354636288) (by decide +kernel)) (fB_mono (fB_lit (K := 1030) (a := 4636737291354636288) (by decide +kernel)) (by omega)) (by omega) (by omega) (by omega)
          refine lv_ddiv hx hb dX7_wave_49 (fB_ne h_14 (by omega)) ?_
          refine xput (D := D) (ci := 7) (v := .double (FP.ddiv (FP.dmul (FP.ddiv (h) (FP.dadd (pe) (FP.dconst1))) (FP.i2d (n))) (4636737291354636288))) (ty := .double) (C := RX7) (T := TX7) (N := 31) hx hb hts iX7_wave_X7 tyX7 tyX7_ok nmX7 hown hK hD hP hS 0 (((nN, px, py, pz, fx, fy, fz, lf, ld, fi), (nB, fr, tt, ln, wi, sg, pu), (nR, rd, rx, ry, (FP.ddiv (FP.dmul (FP.ddiv (h) (FP.dadd (pe) (FP.dconst1))) (FP.i2d (n))) (4636737291354636288)), fo), (re, dg), (nP, tp, bt, dp)), (nQ, fu)) rfl rfl 21 (by decide) f_129 (fun _ h9 => h9) rfl (by decide +kernel) rfl rfl (Nat.le_of_ble_eq_true rfl) rfl dX7_wave_50 (fun H locs hP hS => ?_)
          refine lv_aload_n hx hb dX7_wave_53 rfl (lv_at hl 0 rfl) ?_
          refine va_get (D := D) (ci := 7) (v := .int (nI nR)) (C := RX7) (T := TX7) (N := 31) hx hb hts iX7_wave_X7 hown hK hP 0 rfl rfl 17 (by decide) f_132 (fun _ h9 => h9) rfl dX7_wave_54 ?_
          exact hret hS hP dX7_wave_57 (⟨Or.inl ⟨⟨b_1, b_3, c_24_5, c_31_6⟩, rfl, rfl⟩, rfl⟩)
        · skip
          refine lv_iconst (v := (-1 : Int32)) hx hb dX7_wave_34 (by decide) ?_
          exact hret hS hP dX7_wave_35 (⟨Or.inr ⟨fun q => absurd q.2.2.2 c_31_6, rfl, rfl⟩, rfl⟩)
    · skip
      have b_3 : ¬ (inR (pe) (FP.dconst1) (4633641066610819072)) := b_3
      refine lv_if_eq (tgt := 34) hx hb dX7_wave_19 (by decide) (fun _ => ?_) (fun c_19_15 => absurd c_19_15 (by decide))
      refine lv_iconst (v := (-1 : Int32)) hx hb dX7_wave_34 (by decide) ?_
      exact hret hS hP dX7_wave_35 (⟨Or.inr ⟨fun q => absurd q.2.1 b_3, rfl, rfl⟩, rfl⟩)
  · skip
    have b_1 : ¬ (inR (h) (FP.dconst0) (4629137466983448576)) := b_1
    refine lv_if_eq (tgt := 34) hx hb dX7_wave_8 (by decide) (fun _ => ?_) (fun c_8_16 => absurd c_8_16 (by decide))
    refine lv_iconst (v := (-1 : Int32)) hx hb dX7_wave_34 (by decide) ?_
    exact hret hS hP dX7_wave_35 (⟨Or.inr ⟨fun q => absurd q.1 b_1, rfl, rfl⟩, rfl⟩)
theorem iX6_at_X3 : ∀ w ∈ u_ws RX3 TX3 6, w ∈ wsX6_at := by decide +kernel
theorem iX6_at_X6 : ∀ w ∈ u_ws RX6 TX6 6, w ∈ wsX6_at := by decide +kernel
set_option maxHeartbeats 4000000 in
set_option maxRecDepth 100000 in
theorem kX6_at (l : Launch) (D : va_G) (cs : Nat → ClassId) (ad : Nat → Nat) (hd : distX ad) (sz : Nat) (S : XS) (hnN : S.1.1.1 ≤ 30) (k x : Int32) : Met l yX6_at wsX6_at ({ frames := 1, cells := 0, slots := 0, locals := 21 } : Room) (gP D (WX cs ad) (EX D cs) S sz ([.ref (ad 0), .int (k), .int (x)] : List Value)) (va_Qd (fun r u => q_at S.1 k x r ∧ u = S) (gB D (WX cs ad)) (gA (AX ad) sz)) 0 0 (gA (AX ad) sz) := by
  obtain ⟨⟨⟨nN, px, py, pz, fx, fy, fz, lf, ld, fi⟩, ⟨nB, fr, tt, ln, wi, sg, pu⟩, ⟨nR, rd, rx, ry, wv, fo⟩, ⟨re, dg⟩, ⟨nP, tp, bt, dp⟩⟩, ⟨sp, ac, kp, kc, kn, aw, dw, su, ss, sd⟩⟩ := S
  have hnN : nN ≤ 30 := hnN
  refine gMd (cc := cX6_at) (maxL := 3) (plainFor_of_name (by decide)) rfl (Nat.le_of_ble_eq_true rfl) ?_
  intro p e s m below meth c Q hx hb hts hown hml hsz hE hret H locs hP hS ls hl
  subst hsz
  have hown : s.vm.findClass RX6 = some m.cls := hown
  have hK : va_K D vwCl (tysX cs) s := hE.1
  have hD : ∀ u, va_D (gA (AX ad) s.heap.size) (WX cs ad u) := fun u => WX_D hd u
  have hl : lv_has ls 3 [(0, .ref (ad 0)), (1, .int (k)), (2, .int (x))] := hl
  have f_10 := hts (.fieldLink RX6 10 "NetShapes" "nodes" "LNetShapes$Nodes;") (by decide +kernel)
  have f_129 := hts (.fieldLink RX6 129 "NetShapes$Nodes" "places" "[[D") (by decide +kernel)
  refine lv_aload_n hx hb dX6_at_0 rfl (lv_at hl 0 rfl) ?_
  refine va_get (D := D) (ci := 6) (v := .ref (ad 1)) (C := RX6) (T := TX6) (N := 6) hx hb hts iX6_at_X6 hown hK hP 0 rfl rfl 0 (by decide) f_10 (fun _ h9 => h9) rfl dX6_at_1 ?_
  refine lv_iload_n hx hb dX6_at_4 rfl (lv_at hl 1 rfl) ?_
  refine gci (va_runV (As := [.int (k)]) (rest := []) ⟨hx, hb, hml, hown, hts⟩ (kX3_has l D cs ad hd H.size (((nN, px, py, pz, fx, fy, fz, lf, ld, fi), (nB, fr, tt, ln, wi, sg, pu), (nR, rd, rx, ry, wv, fo), (re, dg), (nP, tp, bt, dp)), (sp, ac, kp, kc, kn, aw, dw, su, ss, sd)) hnN k) (cwV 1 hts gX6_at_X3_has rfl rfl rfl (by decide +kernel) ⟨Nat.le_of_ble_eq_true rfl, Nat.le_of_ble_eq_true rfl⟩) (gPreV (EX_bl) (va_recv hK hP (ci := 3) (q0 := 1) rfl rfl) hP (fun U _ hW => EX_warm hW hE)) rfl rfl hl.1 rfl (lv_room (Nat.le_of_ble_eq_true rfl)) dX6_at_5 ⟨Nat.zero_le _, Nat.zero_le _⟩) hS (fun r_ u_ H locs hw hP hS => ?_)
  obtain ⟨rfl, hw⟩ := hw
  rcases hw with ⟨rfl, b_1⟩ | ⟨rfl, b_1⟩
  · skip
    have b_1 : inN (nN) (k) := b_1
    refine lv_if_eq (tgt := 18) hx hb dX6_at_8 (by decide) (fun c_8_2 => absurd c_8_2 (by decide)) (fun _ => ?_)
    refine lv_iload_n hx hb dX6_at_11 rfl (lv_at hl 2 rfl) ?_
    refine g0i (va_runS (As := [.int (x)]) (rest := []) ⟨hx, hb, hml, hown, hts⟩ (kX6_isAxis l D H.size x) (va_cwS 1 hts gX6_at_X6_isAxis rfl rfl rfl (by decide +kernel) ⟨Nat.le_of_ble_eq_true rfl, Nat.le_of_ble_eq_true rfl⟩) (gPreS (eT_bl) w0_P (fun _ _ _ => trivial)) rfl rfl hl.1 rfl (lv_room (Nat.le_of_ble_eq_true rfl)) dX6_at_12 ⟨Nat.zero_le _, Nat.zero_le _⟩) hP hS (fun r_ H locs hw hP hS => ?_)
    rcases hw with ⟨rfl, b_3⟩ | ⟨rfl, b_3⟩
    · skip
      have b_3 : inN 3 (x) := b_3
      obtain ⟨j, hj, rfl⟩ := b_1
      obtain ⟨i, hi, rfl⟩ := b_3
      refine lv_if_ne (tgt := 20) hx hb dX6_at_15 (by decide) (fun _ => ?_) (fun c_15_4 => absurd c_15_4 (by decide))
      rcases (show i = 0 ∨ i = 1 ∨ i = 2 by omega) with rfl | rfl | rfl
      · skip
        refine lv_aload_n hx hb dX6_at_20 rfl (lv_at hl 0 rfl) ?_
        refine va_get (D := D) (ci := 6) (v := .ref (ad 1)) (C := RX6) (T := TX6) (N := 6) hx hb hts iX6_at_X6 hown hK hP 0 rfl rfl 0 (by decide) f_10 (fun _ h9 => h9) rfl dX6_at_21 ?_
        refine va_get (D := D) (ci := 3) (v := .ref (ad 7)) (C := RX3) (T := TX3) (N := 6) hx hb hts iX6_at_X3 hown hK hP 1 rfl rfl 0 (by decide) f_129 (fun _ h9 => h9) rfl dX6_at_24 ?_
        refine lv_iload_n hx hb dX6_at_27 rfl (lv_at hl 2 rfl) ?_
        refine xal hx hb hK hP 7 3 rfl rfl (j := 0) (v := ad 30) (by decide) (by decide) rfl dX6_at_28 ?_
        refine lv_iload_n hx hb dX6_at_29 rfl (lv_at hl 1 rfl) ?_
        refine xdl hx hb hK hP 30 0 rfl rfl (j := j) (by decide) (by omega) dX6_at_30 ?_
        exact hret hS hP dX6_at_31 (⟨Or.inl ⟨j, hj, rfl, Or.inl ⟨rfl, rfl⟩⟩, rfl⟩)
      · skip
        refine lv_aload_n hx hb dX6_at_20 rfl (lv_at hl 0 rfl) ?_
        refine va_get (D := D) (ci := 6) (v := .ref (ad 1)) (C := RX6) (T := TX6) (N := 6) hx hb hts iX6_at_X6 hown hK hP 0 rfl rfl 0 (by decide) f_10 (fun _ h9 => h9) rfl dX6_at_21 ?_
        refine va_get (D := D) (ci := 3) (v := .ref (ad 7)) (C := RX3) (T := TX3) (N := 6) hx hb hts iX6_at_X3 hown hK hP 1 rfl rfl 0 (by decide) f_129 (fun _ h9 => h9) rfl dX6_at_24 ?_
        refine lv_iload_n hx hb dX6_at_27 rfl (lv_at hl 2 rfl) ?_
        refine xal hx hb hK hP 7 3 rfl rfl (j := 1) (v := ad 31) (by decide) (by decide) rfl dX6_at_28 ?_
        refine lv_iload_n hx hb dX6_at_29 rfl (lv_at hl 1 rfl) ?_
        refine xdl hx hb hK hP 31 0 rfl rfl (j := j) (by decide) (by omega) dX6_at_30 ?_
        exact hret hS hP dX6_at_31 (⟨Or.inl ⟨j, hj, rfl, Or.inr (Or.inl ⟨rfl, rfl⟩)⟩, rfl⟩)
      · skip
        refine lv_aload_n hx hb dX6_at_20 rfl (lv_at hl 0 rfl) ?_
        refine va_get (D := D) (ci := 6) (v := .ref (ad 1)) (C := RX6) (T := TX6) (N := 6) hx hb hts iX6_at_X6 hown hK hP 0 rfl rfl 0 (by decide) f_10 (fun _ h9 => h9) rfl dX6_at_21 ?_
        refine va_get (D := D) (ci := 3) (v := .ref (ad 7)) (C := RX3) (T := TX3) (N := 6) hx hb hts iX6_at_X3 hown hK hP 1 rfl rfl 0 (by decide) f_129 (fun _ h9 => h9) rfl dX6_at_24 ?_
        refine lv_iload_n hx hb dX6_at_27 rfl (lv_at hl 2 rfl) ?_
        refine xal hx hb hK hP 7 3 rfl rfl (j := 2) (v := ad 32) (by decide) (by decide) rfl dX6_at_28 ?_
        refine lv_iload_n hx hb dX6_at_29 rfl (lv_at hl 1 rfl) ?_
        refine xdl hx hb hK hP 32 0 rfl rfl (j := j) (by decide) (by omega) dX6_at_30 ?_
        exact hret hS hP dX6_at_31 (⟨Or.inl ⟨j, hj, rfl, Or.inr (Or.inr ⟨rfl, rfl⟩)⟩, rfl⟩)
    · skip
      have b_3 : ¬ (inN 3 (x)) := b_3
      refine lv_if_ne (tgt := 20) hx hb dX6_at_15 (by decide) (fun c_15_5 => absurd c_15_5 (by decide)) (fun _ => ?_)
      refine lv_dconst0 hx hb dX6_at_18 ?_
      exact hret hS hP dX6_at_19 (⟨Or.inr ⟨fun q => absurd q.2 b_3, rfl⟩, rfl⟩)
  · skip
    have b_1 : ¬ (inN (nN) (k)) := b_1
    refine lv_if_eq (tgt := 18) hx hb dX6_at_8 (by decide) (fun _ => ?_) (fun c_8_6 => absurd c_8_6 (by decide))
    refine lv_dconst0 hx hb dX6_at_18 ?_
    exact hret hS hP dX6_at_19 (⟨Or.inr ⟨fun q => absurd q.1 b_1, rfl⟩, rfl⟩)
theorem iX7_at_X7 : ∀ w ∈ u_ws RX7 TX7 31, w ∈ wsX7_at := by decide +kernel
set_option maxHeartbeats 4000000 in
set_option maxRecDepth 100000 in
theorem kX7_at (l : Launch) (D : va_G) (cs : Nat → ClassId) (ad : Nat → Nat) (hd : distM ad) (sz : Nat) (S : MS) (hnN : S.1.1.1 ≤ 30) (k x : Int32) : Met l yX7_at wsX7_at ({ frames := 1, cells := 0, slots := 0, locals := 21 } : Room) (gP D (WM cs ad) (EM D cs) S sz ([.ref (ad 0), .int (k), .int (x)] : List Value)) (va_Qd (fun r u => q_at S.1 k x r ∧ u = S) (gB D (WM cs ad)) (gA (AM ad) sz)) 0 0 (gA (AM ad) sz) := by
  obtain ⟨⟨⟨nN, px, py, pz, fx, fy, fz, lf, ld, fi⟩, ⟨nB, fr, tt, ln, wi, sg, pu⟩, ⟨nR, rd, rx, ry, wv, fo⟩, ⟨re, dg⟩, ⟨nP, tp, bt, dp⟩⟩, ⟨nQ, fu⟩⟩ := S
  have hnN : nN ≤ 30 := hnN
  refine gMd (cc := cX7_at) (maxL := 3) (plainFor_of_name (by decide)) rfl (Nat.le_of_ble_eq_true rfl) ?_
  intro p e s m below meth c Q hx hb hts hown hml hsz hE hret H locs hP hS ls hl
  subst hsz
  have hown : s.vm.findClass RX7 = some m.cls := hown
  have hK : va_K D vwCl (tysX cs) s := hE.1
  have hD : ∀ u, va_D (gA (AM ad) s.heap.size) (WM cs ad u) := fun u => WM_D hd u
  have hl : lv_has ls 3 [(0, .ref (ad 0)), (1, .int (k)), (2, .int (x))] := hl
  have f_7 := hts (.fieldLink RX7 7 "NetShapesModel" "x" "[D") (by decide +kernel)
  have f_13 := hts (.fieldLink RX7 13 "NetShapesModel" "y" "[D") (by decide +kernel)
  have f_16 := hts (.fieldLink RX7 16 "NetShapesModel" "z" "[D") (by decide +kernel)
  refine lv_aload_n hx hb dX7_at_0 rfl (lv_at hl 0 rfl) ?_
  refine lv_iload_n hx hb dX7_at_1 rfl (lv_at hl 1 rfl) ?_
  refine gci (va_runV (As := [.int (k)]) (rest := []) ⟨hx, hb, hml, hown, hts⟩ (kX7_isNode l D cs ad hd H.size (((nN, px, py, pz, fx, fy, fz, lf, ld, fi), (nB, fr, tt, ln, wi, sg, pu), (nR, rd, rx, ry, wv, fo), (re, dg), (nP, tp, bt, dp)), (nQ, fu)) hnN k) (cwV 1 hts gX7_at_X7_isNode rfl rfl rfl (by decide +kernel) ⟨Nat.le_of_ble_eq_true rfl, Nat.le_of_ble_eq_true rfl⟩) (gPreV (EM_bl) (va_recv hK hP (ci := 7) (q0 := 0) rfl rfl) hP (fun U _ hW => EM_warm hW hE)) rfl rfl hl.1 rfl (lv_room (Nat.le_of_ble_eq_true rfl)) dX7_at_2 ⟨Nat.zero_le _, Nat.zero_le _⟩) hS (fun r_ u_ H locs hw hP hS => ?_)
  obtain ⟨rfl, hw⟩ := hw
  rcases hw with ⟨rfl, b_1⟩ | ⟨rfl, b_1⟩
  · skip
    have b_1 : inN (nN) (k) := b_1
    obtain ⟨j, hj, rfl⟩ := b_1
    refine lv_if_ne (tgt := 12) hx hb dX7_at_5 (by decide) (fun _ => ?_) (fun c_5_2 => absurd c_5_2 (by decide))
    refine lv_iload_n hx hb dX7_at_12 rfl (lv_at hl 2 rfl) ?_
    refine lv_if_ne (tgt := 25) hx hb dX7_at_13 (by decide) (fun c_13_3 => ?_) (fun c_13_3 => ?_)
    · skip
      refine lv_iload_n hx hb dX7_at_25 rfl (lv_at hl 2 rfl) ?_
      refine lv_iconst (v := nI 1) hx hb dX7_at_26 (by decide) ?_
      refine lv_icmp_ne (tgt := 39) hx hb dX7_at_27 (by decide) (fun c_27_4 => ?_) (fun c_27_4 => ?_)
      · skip
        refine lv_iload_n hx hb dX7_at_39 rfl (lv_at hl 2 rfl) ?_
        refine lv_iconst (v := nI 2) hx hb dX7_at_40 (by decide) ?_
        refine lv_icmp_ne (tgt := 53) hx hb dX7_at_41 (by decide) (fun c_41_5 => ?_) (fun c_41_5 => ?_)
        · skip
          refine lv_dconst0 hx hb dX7_at_53 ?_
          exact hret hS hP dX7_at_54 (⟨Or.inr ⟨fun q => ax_no c_13_3 c_27_4 c_41_5 q.2, rfl⟩, rfl⟩)
        · skip
          refine lv_aload_n hx hb dX7_at_44 rfl (lv_at hl 0 rfl) ?_
          refine va_get (D := D) (ci := 7) (v := .ref (ad 3)) (C := RX7) (T := TX7) (N := 31) hx hb hts iX7_at_X7 hown hK hP 0 rfl rfl 3 (by decide) f_16 (fun _ h9 => h9) rfl dX7_at_45 ?_
          refine lv_iload_n hx hb dX7_at_48 rfl (lv_at hl 1 rfl) ?_
          refine xdl hx hb hK hP 3 0 rfl rfl (j := j) (by decide) (by omega) dX7_at_49 ?_
          refine lv_goto (tgt := 54) hx hb dX7_at_50 (by decide) ?_
          exact hret hS hP dX7_at_54 (⟨Or.inl ⟨j, hj, rfl, Or.inr (Or.inr ⟨c_41_5, rfl⟩)⟩, rfl⟩)
      · skip
        refine lv_aload_n hx hb dX7_at_30 rfl (lv_at hl 0 rfl) ?_
        refine va_get (D := D) (ci := 7) (v := .ref (ad 2)) (C := RX7) (T := TX7) (N := 31) hx hb hts iX7_at_X7 hown hK hP 0 rfl rfl 2 (by decide) f_13 (fun _ h9 => h9) rfl dX7_at_31 ?_
        refine lv_iload_n hx hb dX7_at_34 rfl (lv_at hl 1 rfl) ?_
        refine xdl hx hb hK hP 2 0 rfl rfl (j := j) (by decide) (by omega) dX7_at_35 ?_
        refine lv_goto (tgt := 54) hx hb dX7_at_36 (by decide) ?_
        exact hret hS hP dX7_at_54 (⟨Or.inl ⟨j, hj, rfl, Or.inr (Or.inl ⟨c_27_4, rfl⟩)⟩, rfl⟩)
    · skip
      refine lv_aload_n hx hb dX7_at_16 rfl (lv_at hl 0 rfl) ?_
      refine va_get (D := D) (ci := 7) (v := .ref (ad 1)) (C := RX7) (T := TX7) (N := 31) hx hb hts iX7_at_X7 hown hK hP 0 rfl rfl 1 (by decide) f_7 (fun _ h9 => h9) rfl dX7_at_17 ?_
      refine lv_iload_n hx hb dX7_at_20 rfl (lv_at hl 1 rfl) ?_
      refine xdl hx hb hK hP 1 0 rfl rfl (j := j) (by decide) (by omega) dX7_at_21 ?_
      refine lv_goto (tgt := 54) hx hb dX7_at_22 (by decide) ?_
      exact hret hS hP dX7_at_54 (⟨Or.inl ⟨j, hj, rfl, Or.inl ⟨c_13_3, rfl⟩⟩, rfl⟩)
  · skip
    have b_1 : ¬ (inN (nN) (k)) := b_1
    refine lv_if_ne (tgt := 12) hx hb dX7_at_5 (by decide) (fun c_5_6 => absurd c_5_6 (by decide)) (fun _ => ?_)
    refine lv_dconst0 hx hb dX7_at_8 ?_
    refine lv_goto (tgt := 54) hx hb dX7_at_9 (by decide) ?_
    exact hret hS hP dX7_at_54 (⟨Or.inr ⟨fun q => absurd q.1 b_1, rfl⟩, rfl⟩)
theorem iX6_pull_X1 : ∀ w ∈ u_ws RX1 TX1 7, w ∈ wsX6_pull := by decide +kernel
theorem iX6_pull_X6 : ∀ w ∈ u_ws RX6 TX6 6, w ∈ wsX6_pull := by decide +kernel
set_option maxHeartbeats 4000000 in
set_option maxRecDepth 100000 in
theorem kX6_pull (l : Launch) (D : va_G) (cs : Nat → ClassId) (ad : Nat → Nat) (hd : distX ad) (sz : Nat) (S : XS) (hnB : S.1.2.1.1 ≤ 60) (k : Int32) : Met l yX6_pull wsX6_pull ({ frames := 1, cells := 0, slots := 0, locals := 21 } : Room) (gP D (WX cs ad) (EX D cs) S sz ([.ref (ad 0), .int (k)] : List Value)) (va_Qd (fun r u => q_pull S.1 k r ∧ u = S) (gB D (WX cs ad)) (gA (AX ad) sz)) 0 0 (gA (AX ad) sz) := by
  obtain ⟨⟨⟨nN, px, py, pz, fx, fy, fz, lf, ld, fi⟩, ⟨nB, fr, tt, ln, wi, sg, pu⟩, ⟨nR, rd, rx, ry, wv, fo⟩, ⟨re, dg⟩, ⟨nP, tp, bt, dp⟩⟩, ⟨sp, ac, kp, kc, kn, aw, dw, su, ss, sd⟩⟩ := S
  have hnB : nB ≤ 60 := hnB
  refine gMd (cc := cX6_pull) (maxL := 2) (plainFor_of_name (by decide)) rfl (Nat.le_of_ble_eq_true rfl) ?_
  intro p e s m below meth c Q hx hb hts hown hml hsz hE hret H locs hP hS ls hl
  subst hsz
  have hown : s.vm.findClass RX6 = some m.cls := hown
  have hK : va_K D vwCl (tysX cs) s := hE.1
  have hD : ∀ u, va_D (gA (AX ad) s.heap.size) (WX cs ad u) := fun u => WX_D hd u
  have hl : lv_has ls 2 [(0, .ref (ad 0)), (1, .int (k))] := hl
  have c_137 := hts (.constantDouble RX6 137 13830554455654793216) (by decide +kernel)
  have f_19 := hts (.fieldLink RX6 19 "NetShapes" "bars" "LNetShapes$Bars;") (by decide +kernel)
  have f_134 := hts (.fieldLink RX6 134 "NetShapes$Bars" "pulls" "[D") (by decide +kernel)
  refine lv_aload_n hx hb dX6_pull_0 rfl (lv_at hl 0 rfl) ?_
  refine va_get (D := D) (ci := 6) (v := .ref (ad 2)) (C := RX6) (T := TX6) (N := 6) hx hb hts iX6_pull_X6 hown hK hP 0 rfl rfl 1 (by decide) f_19 (fun _ h9 => h9) rfl dX6_pull_1 ?_
  refine lv_iload_n hx hb dX6_pull_4 rfl (lv_at hl 1 rfl) ?_
  refine gci (va_runV (As := [.int (k)]) (rest := []) ⟨hx, hb, hml, hown, hts⟩ (kX1_has l D cs ad hd H.size (((nN, px, py, pz, fx, fy, fz, lf, ld, fi), (nB, fr, tt, ln, wi, sg, pu), (nR, rd, rx, ry, wv, fo), (re, dg), (nP, tp, bt, dp)), (sp, ac, kp, kc, kn, aw, dw, su, ss, sd)) hnB k) (cwV 1 hts gX6_pull_X1_has rfl rfl rfl (by decide +kernel) ⟨Nat.le_of_ble_eq_true rfl, Nat.le_of_ble_eq_true rfl⟩) (gPreV (EX_bl) (va_recv hK hP (ci := 1) (q0 := 2) rfl rfl) hP (fun U _ hW => EX_warm hW hE)) rfl rfl hl.1 rfl (lv_room (Nat.le_of_ble_eq_true rfl)) dX6_pull_5 ⟨Nat.zero_le _, Nat.zero_le _⟩) hS (fun r_ u_ H locs hw hP hS => ?_)
  obtain ⟨rfl, hw⟩ := hw
  rcases hw with ⟨rfl, b_1⟩ | ⟨rfl, b_1⟩
  · skip
    have b_1 : inN (nB) (k) := b_1
    obtain ⟨j, hj, rfl⟩ := b_1
    refine lv_if_eq (tgt := 23) hx hb dX6_pull_8 (by decide) (fun c_8_2 => absurd c_8_2 (by decide)) (fun _ => ?_)
    refine lv_aload_n hx hb dX6_pull_11 rfl (lv_at hl 0 rfl) ?_
    refine va_get (D := D) (ci := 6) (v := .ref (ad 2)) (C := RX6) (T := TX6) (N := 6) hx hb hts iX6_pull_X6 hown hK hP 0 rfl rfl 1 (by decide) f_19 (fun _ h9 => h9) rfl dX6_pull_12 ?_
    refine va_get (D := D) (ci := 1) (v := .ref (ad 17)) (C := RX1) (T := TX1) (N := 7) hx hb hts iX6_pull_X1 hown hK hP 2 rfl rfl 5 (by decide) f_134 (fun _ h9 => h9) rfl dX6_pull_15 ?_
    refine lv_iload_n hx hb dX6_pull_18 rfl (lv_at hl 1 rfl) ?_
    refine xdl hx hb hK hP 17 0 rfl rfl (j := j) (by decide) (by omega) dX6_pull_19 ?_
    refine lv_goto (tgt := 26) hx hb dX6_pull_20 (by decide) ?_
    exact hret hS hP dX6_pull_26 (⟨Or.inl ⟨j, hj, rfl, rfl⟩, rfl⟩)
  · skip
    have b_1 : ¬ (inN (nB) (k)) := b_1
    refine lv_if_eq (tgt := 23) hx hb dX6_pull_8 (by decide) (fun _ => ?_) (fun c_8_3 => absurd c_8_3 (by decide))
    refine lv_ldc2d hx hb hown c_137 dX6_pull_23 ?_
    exact hret hS hP dX6_pull_26 (⟨Or.inr ⟨b_1, rfl⟩, rfl⟩)
theorem iX7_pull_X7 : ∀ w ∈ u_ws RX7 TX7 31, w ∈ wsX7_pull := by decide +kernel
set_option maxHeartbeats 4000000 in
set_option maxRecDepth 100000 in
theorem kX7_pull (l : Launch) (D : va_G) (cs : Nat → ClassId) (ad : Nat → Nat) (hd : distM ad) (sz : Nat) (S : MS) (hnB : S.1.2.1.1 ≤ 60) (k : Int32) : Met l yX7_pull wsX7_pull ({ frames := 0, cells := 0, slots := 0, locals := 0 } : Room) (gP D (WM cs ad) (EM D cs) S sz ([.ref (ad 0), .int (k)] : List Value)) (va_Qd (fun r u => q_pull S.1 k r ∧ u = S) (gB D (WM cs ad)) (gA (AM ad) sz)) 0 0 (gA (AM ad) sz) := by
  obtain ⟨⟨⟨nN, px, py, pz, fx, fy, fz, lf, ld, fi⟩, ⟨nB, fr, tt, ln, wi, sg, pu⟩, ⟨nR, rd, rx, ry, wv, fo⟩, ⟨re, dg⟩, ⟨nP, tp, bt, dp⟩⟩, ⟨nQ, fu⟩⟩ := S
  have hnB : nB ≤ 60 := hnB
  refine gMd (cc := cX7_pull) (maxL := 2) (plainFor_of_name (by decide)) rfl (Nat.le_of_ble_eq_true rfl) ?_
  intro p e s m below meth c Q hx hb hts hown hml hsz hE hret H locs hP hS ls hl
  subst hsz
  have hown : s.vm.findClass RX7 = some m.cls := hown
  have hK : va_K D vwCl (tysX cs) s := hE.1
  have hD : ∀ u, va_D (gA (AM ad) s.heap.size) (WM cs ad u) := fun u => WM_D hd u
  have hl : lv_has ls 2 [(0, .ref (ad 0)), (1, .int (k))] := hl
  have c_66 := hts (.constantDouble RX7 66 13830554455654793216) (by decide +kernel)
  have f_54 := hts (.fieldLink RX7 54 "NetShapesModel" "pulls" "[D") (by decide +kernel)
  have f_105 := hts (.fieldLink RX7 105 "NetShapesModel" "bars" "I") (by decide +kernel)
  refine lv_iload_n hx hb dX7_pull_0 rfl (lv_at hl 1 rfl) ?_
  refine lv_if_lt (tgt := 12) hx hb dX7_pull_1 (by decide) (fun c_1_1 => ?_) (fun c_1_1 => ?_)
  · skip
    refine lv_ldc2d hx hb hown c_66 dX7_pull_12 ?_
    refine lv_goto (tgt := 24) hx hb dX7_pull_15 (by decide) ?_
    exact hret hS hP dX7_pull_24 (⟨Or.inr ⟨inN_neg (by omega) c_1_1, rfl⟩, rfl⟩)
  · skip
    refine lv_iload_n hx hb dX7_pull_4 rfl (lv_at hl 1 rfl) ?_
    refine lv_aload_n hx hb dX7_pull_5 rfl (lv_at hl 0 rfl) ?_
    refine va_get (D := D) (ci := 7) (v := .int (nI nB)) (C := RX7) (T := TX7) (N := 31) hx hb hts iX7_pull_X7 hown hK hP 0 rfl rfl 10 (by decide) f_105 (fun _ h9 => h9) rfl dX7_pull_6 ?_
    refine lv_icmp_lt (tgt := 18) hx hb dX7_pull_9 (by decide) (fun c_9_2 => ?_) (fun c_9_2 => ?_)
    · skip
      obtain ⟨j, hj, rfl⟩ := inN_lt (by omega) c_1_1 c_9_2
      refine lv_aload_n hx hb dX7_pull_18 rfl (lv_at hl 0 rfl) ?_
      refine va_get (D := D) (ci := 7) (v := .ref (ad 15)) (C := RX7) (T := TX7) (N := 31) hx hb hts iX7_pull_X7 hown hK hP 0 rfl rfl 16 (by decide) f_54 (fun _ h9 => h9) rfl dX7_pull_19 ?_
      refine lv_iload_n hx hb dX7_pull_22 rfl (lv_at hl 1 rfl) ?_
      refine xdl hx hb hK hP 15 0 rfl rfl (j := j) (by decide) (by omega) dX7_pull_23 ?_
      exact hret hS hP dX7_pull_24 (⟨Or.inl ⟨j, hj, rfl, rfl⟩, rfl⟩)
    · skip
      refine lv_ldc2d hx hb hown c_66 dX7_pull_12 ?_
      refine lv_goto (tgt := 24) hx hb dX7_pull_15 (by decide) ?_
      exact hret hS hP dX7_pull_24 (⟨Or.inr ⟨inN_nlt (by omega) c_9_2, rfl⟩, rfl⟩)
theorem iX6_drag_X0 : ∀ w ∈ u_ws RX0 TX0 7, w ∈ wsX6_drag := by decide +kernel
theorem iX6_drag_X6 : ∀ w ∈ u_ws RX6 TX6 6, w ∈ wsX6_drag := by decide +kernel
set_option maxHeartbeats 4000000 in
set_option maxRecDepth 100000 in
theorem kX6_drag (l : Launch) (D : va_G) (cs : Nat → ClassId) (ad : Nat → Nat) (hd : distX ad) (sz : Nat) (S : XS) (x : Int32) : Met l yX6_drag wsX6_drag ({ frames := 1, cells := 0, slots := 0, locals := 20 } : Room) (gP D (WX cs ad) (EX D cs) S sz ([.ref (ad 0), .int (x)] : List Value)) (va_Qd (fun r u => q_drag S.1 x r ∧ u = S) (gB D (WX cs ad)) (gA (AX ad) sz)) 0 0 (gA (AX ad) sz) := by
  obtain ⟨⟨⟨nN, px, py, pz, fx, fy, fz, lf, ld, fi⟩, ⟨nB, fr, tt, ln, wi, sg, pu⟩, ⟨nR, rd, rx, ry, wv, fo⟩, ⟨re, dg⟩, ⟨nP, tp, bt, dp⟩⟩, ⟨sp, ac, kp, kc, kn, aw, dw, su, ss, sd⟩⟩ := S
  refine gMd (cc := cX6_drag) (maxL := 2) (plainFor_of_name (by decide)) rfl (Nat.le_of_ble_eq_true rfl) ?_
  intro p e s m below meth c Q hx hb hts hown hml hsz hE hret H locs hP hS ls hl
  subst hsz
  have hown : s.vm.findClass RX6 = some m.cls := hown
  have hK : va_K D vwCl (tysX cs) s := hE.1
  have hD : ∀ u, va_D (gA (AX ad) s.heap.size) (WX cs ad u) := fun u => WX_D hd u
  have hl : lv_has ls 2 [(0, .ref (ad 0)), (1, .int (x))] := hl
  have f_35 := hts (.fieldLink RX6 35 "NetShapes" "balance" "LNetShapes$Balance;") (by decide +kernel)
  have f_112 := hts (.fieldLink RX6 112 "NetShapes$Balance" "drags" "[D") (by decide +kernel)
  refine lv_iload_n hx hb dX6_drag_0 rfl (lv_at hl 1 rfl) ?_
  refine g0i (va_runS (As := [.int (x)]) (rest := []) ⟨hx, hb, hml, hown, hts⟩ (kX6_isAxis l D H.size x) (va_cwS 1 hts gX6_drag_X6_isAxis rfl rfl rfl (by decide +kernel) ⟨Nat.le_of_ble_eq_true rfl, Nat.le_of_ble_eq_true rfl⟩) (gPreS (eT_bl) w0_P (fun _ _ _ => trivial)) rfl rfl hl.1 rfl (lv_room (Nat.le_of_ble_eq_true rfl)) dX6_drag_1 ⟨Nat.zero_le _, Nat.zero_le _⟩) hP hS (fun r_ H locs hw hP hS => ?_)
  rcases hw with ⟨rfl, b_1⟩ | ⟨rfl, b_1⟩
  · skip
    have b_1 : inN 3 (x) := b_1
    obtain ⟨j, hj, rfl⟩ := b_1
    refine lv_if_eq (tgt := 19) hx hb dX6_drag_4 (by decide) (fun c_4_2 => absurd c_4_2 (by decide)) (fun _ => ?_)
    refine lv_aload_n hx hb dX6_drag_7 rfl (lv_at hl 0 rfl) ?_
    refine va_get (D := D) (ci := 6) (v := .ref (ad 4)) (C := RX6) (T := TX6) (N := 6) hx hb hts iX6_drag_X6 hown hK hP 0 rfl rfl 3 (by decide) f_35 (fun _ h9 => h9) rfl dX6_drag_8 ?_
    refine va_get (D := D) (ci := 0) (v := .ref (ad 21)) (C := RX0) (T := TX0) (N := 7) hx hb hts iX6_drag_X0 hown hK hP 4 rfl rfl 3 (by decide) f_112 (fun _ h9 => h9) rfl dX6_drag_11 ?_
    refine lv_iload_n hx hb dX6_drag_14 rfl (lv_at hl 1 rfl) ?_
    refine xdl hx hb hK hP 21 0 rfl rfl (j := j) (by decide) (by omega) dX6_drag_15 ?_
    refine lv_goto (tgt := 20) hx hb dX6_drag_16 (by decide) ?_
    exact hret hS hP dX6_drag_20 (⟨Or.inl ⟨j, hj, rfl, rfl⟩, rfl⟩)
  · skip
    have b_1 : ¬ (inN 3 (x)) := b_1
    refine lv_if_eq (tgt := 19) hx hb dX6_drag_4 (by decide) (fun _ => ?_) (fun c_4_3 => absurd c_4_3 (by decide))
    refine lv_dconst0 hx hb dX6_drag_19 ?_
    exact hret hS hP dX6_drag_20 (⟨Or.inr ⟨b_1, rfl⟩, rfl⟩)
theorem iX7_drag_X7 : ∀ w ∈ u_ws RX7 TX7 31, w ∈ wsX7_drag := by decide +kernel
set_option maxHeartbeats 4000000 in
set_option maxRecDepth 100000 in
theorem kX7_drag (l : Launch) (D : va_G) (cs : Nat → ClassId) (ad : Nat → Nat) (hd : distM ad) (sz : Nat) (S : MS) (x : Int32) : Met l yX7_drag wsX7_drag ({ frames := 0, cells := 0, slots := 0, locals := 0 } : Room) (gP D (WM cs ad) (EM D cs) S sz ([.ref (ad 0), .int (x)] : List Value)) (va_Qd (fun r u => q_drag S.1 x r ∧ u = S) (gB D (WM cs ad)) (gA (AM ad) sz)) 0 0 (gA (AM ad) sz) := by
  obtain ⟨⟨⟨nN, px, py, pz, fx, fy, fz, lf, ld, fi⟩, ⟨nB, fr, tt, ln, wi, sg, pu⟩, ⟨nR, rd, rx, ry, wv, fo⟩, ⟨re, dg⟩, ⟨nP, tp, bt, dp⟩⟩, ⟨nQ, fu⟩⟩ := S
  refine gMd (cc := cX7_drag) (maxL := 2) (plainFor_of_name (by decide)) rfl (Nat.le_of_ble_eq_true rfl) ?_
  intro p e s m below meth c Q hx hb hts hown hml hsz hE hret H locs hP hS ls hl
  subst hsz
  have hown : s.vm.findClass RX7 = some m.cls := hown
  have hK : va_K D vwCl (tysX cs) s := hE.1
  have hD : ∀ u, va_D (gA (AM ad) s.heap.size) (WM cs ad u) := fun u => WM_D hd u
  have hl : lv_has ls 2 [(0, .ref (ad 0)), (1, .int (x))] := hl
  have f_72 := hts (.fieldLink RX7 72 "NetShapesModel" "drags" "[D") (by decide +kernel)
  refine lv_iload_n hx hb dX7_drag_0 rfl (lv_at hl 1 rfl) ?_
  refine lv_if_lt (tgt := 9) hx hb dX7_drag_1 (by decide) (fun c_1_1 => ?_) (fun c_1_1 => ?_)
  · skip
    refine lv_dconst0 hx hb dX7_drag_9 ?_
    refine lv_goto (tgt := 19) hx hb dX7_drag_10 (by decide) ?_
    exact hret hS hP dX7_drag_19 (⟨Or.inr ⟨inN_neg (by decide) c_1_1, rfl⟩, rfl⟩)
  · skip
    refine lv_iload_n hx hb dX7_drag_4 rfl (lv_at hl 1 rfl) ?_
    refine lv_iconst (v := nI 2) hx hb dX7_drag_5 (by decide) ?_
    refine lv_icmp_le (tgt := 13) hx hb dX7_drag_6 (by decide) (fun c_6_2 => ?_) (fun c_6_2 => ?_)
    · skip
      obtain ⟨j, hj, rfl⟩ := inN_le (n := 2) (by decide) c_1_1 c_6_2
      refine lv_aload_n hx hb dX7_drag_13 rfl (lv_at hl 0 rfl) ?_
      refine va_get (D := D) (ci := 7) (v := .ref (ad 19)) (C := RX7) (T := TX7) (N := 31) hx hb hts iX7_drag_X7 hown hK hP 0 rfl rfl 24 (by decide) f_72 (fun _ h9 => h9) rfl dX7_drag_14 ?_
      refine lv_iload_n hx hb dX7_drag_17 rfl (lv_at hl 1 rfl) ?_
      refine xdl hx hb hK hP 19 0 rfl rfl (j := j) (by decide) (by omega) dX7_drag_18 ?_
      exact hret hS hP dX7_drag_19 (⟨Or.inl ⟨j, hj, rfl, rfl⟩, rfl⟩)
    · skip
      refine lv_dconst0 hx hb dX7_drag_9 ?_
      refine lv_goto (tgt := 19) hx hb dX7_drag_10 (by decide) ?_
      exact hret hS hP dX7_drag_19 (⟨Or.inr ⟨inN_nle (by decide) c_6_2, rfl⟩, rfl⟩)
theorem iX6_residual_X0 : ∀ w ∈ u_ws RX0 TX0 7, w ∈ wsX6_residual := by decide +kernel
theorem iX6_residual_X6 : ∀ w ∈ u_ws RX6 TX6 6, w ∈ wsX6_residual := by decide +kernel
set_option maxHeartbeats 4000000 in
set_option maxRecDepth 100000 in
theorem kX6_residual (l : Launch) (D : va_G) (cs : Nat → ClassId) (ad : Nat → Nat) (hd : distX ad) (sz : Nat) (S : XS)  : Met l yX6_residual wsX6_residual ({ frames := 0, cells := 0, slots := 0, locals := 0 } : Room) (gP D (WX cs ad) (EX D cs) S sz ([.ref (ad 0)] : List Value)) (va_Qd (fun r u => r = S.1.2.2.2.1.1 ∧ u = S) (gB D (WX cs ad)) (gA (AX ad) sz)) 0 0 (gA (AX ad) sz) := by
  obtain ⟨⟨⟨nN, px, py, pz, fx, fy, fz, lf, ld, fi⟩, ⟨nB, fr, tt, ln, wi, sg, pu⟩, ⟨nR, rd, rx, ry, wv, fo⟩, ⟨re, dg⟩, ⟨nP, tp, bt, dp⟩⟩, ⟨sp, ac, kp, kc, kn, aw, dw, su, ss, sd⟩⟩ := S
  refine gMd (cc := cX6_residual) (maxL := 1) (plainFor_of_name (by decide)) rfl (Nat.le_of_ble_eq_true rfl) ?_
  intro p e s m below meth c Q hx hb hts hown hml hsz hE hret H locs hP hS ls hl
  subst hsz
  have hown : s.vm.findClass RX6 = some m.cls := hown
  have hK : va_K D vwCl (tysX cs) s := hE.1
  have hD : ∀ u, va_D (gA (AX ad) s.heap.size) (WX cs ad u) := fun u => WX_D hd u
  have hl : lv_has ls 1 [(0, .ref (ad 0))] := hl
  have f_35 := hts (.fieldLink RX6 35 "NetShapes" "balance" "LNetShapes$Balance;") (by decide +kernel)
  have f_139 := hts (.fieldLink RX6 139 "NetShapes$Balance" "greatestForce" "D") (by decide +kernel)
  refine lv_aload_n hx hb dX6_residual_0 rfl (lv_at hl 0 rfl) ?_
  refine va_get (D := D) (ci := 6) (v := .ref (ad 4)) (C := RX6) (T := TX6) (N := 6) hx hb hts iX6_residual_X6 hown hK hP 0 rfl rfl 3 (by decide) f_35 (fun _ h9 => h9) rfl dX6_residual_1 ?_
  refine va_get (D := D) (ci := 0) (v := .double (re)) (C := RX0) (T := TX0) (N := 7) hx hb hts iX6_residual_X0 hown hK hP 4 rfl rfl 4 (by decide) f_139 (fun _ h9 => h9) rfl dX6_residual_4 ?_
  exact hret hS hP dX6_residual_7 (⟨rfl, rfl⟩)
theorem iX7_residual_X7 : ∀ w ∈ u_ws RX7 TX7 31, w ∈ wsX7_residual := by decide +kernel
set_option maxHeartbeats 4000000 in
set_option maxRecDepth 100000 in
theorem kX7_residual (l : Launch) (D : va_G) (cs : Nat → ClassId) (ad : Nat → Nat) (hd : distM ad) (sz : Nat) (S : MS)  : Met l yX7_residual wsX7_residual ({ frames := 0, cells := 0, slots := 0, locals := 0 } : Room) (gP D (WM cs ad) (EM D cs) S sz ([.ref (ad 0)] : List Value)) (va_Qd (fun r u => r = S.1.2.2.2.1.1 ∧ u = S) (gB D (WM cs ad)) (gA (AM ad) sz)) 0 0 (gA (AM ad) sz) := by
  obtain ⟨⟨⟨nN, px, py, pz, fx, fy, fz, lf, ld, fi⟩, ⟨nB, fr, tt, ln, wi, sg, pu⟩, ⟨nR, rd, rx, ry, wv, fo⟩, ⟨re, dg⟩, ⟨nP, tp, bt, dp⟩⟩, ⟨nQ, fu⟩⟩ := S
  refine gMd (cc := cX7_residual) (maxL := 1) (plainFor_of_name (by decide)) rfl (Nat.le_of_ble_eq_true rfl) ?_
  intro p e s m below meth c Q hx hb hts hown hml hsz hE hret H locs hP hS ls hl
  subst hsz
  have hown : s.vm.findClass RX7 = some m.cls := hown
  have hK : va_K D vwCl (tysX cs) s := hE.1
  have hD : ∀ u, va_D (gA (AM ad) s.heap.size) (WM cs ad u) := fun u => WM_D hd u
  have hl : lv_has ls 1 [(0, .ref (ad 0))] := hl
  have f_68 := hts (.fieldLink RX7 68 "NetShapesModel" "residual" "D") (by decide +kernel)
  refine lv_aload_n hx hb dX7_residual_0 rfl (lv_at hl 0 rfl) ?_
  refine va_get (D := D) (ci := 7) (v := .double (re)) (C := RX7) (T := TX7) (N := 31) hx hb hts iX7_residual_X7 hown hK hP 0 rfl rfl 23 (by decide) f_68 (fun _ h9 => h9) rfl dX7_residual_1 ?_
  exact hret hS hP dX7_residual_4 (⟨rfl, rfl⟩)
end
section
/-! panels and the sheet -/
section XSW
variable {p : Program} {l : Launch} {e : Env} {R : Room} {s : State} {m : MethodId} {args : Array Value} {below : List Frame} {meth : Method} {c : Code} {H : Heap} {locs : List Loc} {cells slots : Nat} {Q : State → Prop}
variable {cc : ByteArray} {pc : Nat} {ls : Array Slot} {rest : List Value}
-- a switch over 0 and 1
theorem xsw (hexec : p.tables.exec = Jvm.exec) (hb : c.code = cc) {x : Int32} {dflt o0 o1 : Int} {len t0 t1 td : Nat} (hdg : decode cc pc = .ok (.lookupswitch dflt #[(0, o0), (1, o1)], len)) (h0 : (pc : Int) + o0 = (t0 : Int)) (h1 : (pc : Int) + o1 = (t1 : Int)) (hd : (pc : Int) + dflt = (td : Int))
    (k0 : x = nI 0 → W p l e R s m args below meth c H locs cells slots Q (F0 m t0 ls rest)) (k1 : x = nI 1 → W p l e R s m args below meth c H locs cells slots Q (F0 m t1 ls rest)) (kd : ¬ x = nI 0 → ¬ x = nI 1 → W p l e R s m args below meth c H locs cells slots Q (F0 m td ls rest)) : W p l e R s m args below meth c H locs cells slots Q (F0 m pc ls (.int x :: rest)) := by
  by_cases e0 : x = nI 0
  · subst e0
    exact lv_lookup hexec hb hdg rfl (off := o0) rfl h0 (k0 rfl)
  · by_cases e1 : x = nI 1
    · subst e1
      exact lv_lookup hexec hb hdg rfl (off := o1) rfl h1 (k1 rfl)
    · refine lv_lookup hexec hb hdg rfl (off := dflt) ?_ hd (kd e0 e1)
      have n0 : ¬ (x.toInt = 0) := fun q => e0 (Int32.toInt.inj (by rw [q]; rfl))
      have n1 : ¬ (x.toInt = 1) := fun q => e1 (Int32.toInt.inj (by rw [q]; rfl))
      simp [Op.lookupswitch.offset, n0, n1, Ne.symm n0, Ne.symm n1]
      try omega
end XSW

def mesh (tp bt dp : IF) (j : Nat) (k : Int32) : Int32 := tp j + (bt j - tp j) * k / dp j
def wideF (tp bt : IF) (j : Nat) : Int32 := if tp j < bt j then bt j else tp j
def shStep (w d : Int32) (t : Int32 × Int32 × Int32) : Int32 × Int32 × Int32 := if t.1 + w ≤ nI 400 then (t.1 + w, t.2.1, if t.2.2 < d then d else t.2.2) else (nI 0 + w, t.2.1 + t.2.2, if nI 0 < d then d else nI 0)
def shB (w : Int32) (t : Int32 × Int32 × Int32) : Int32 × Int32 := if t.1 + w ≤ nI 400 then (t.1, t.2.1) else (nI 0, t.2.1 + t.2.2)
theorem shStep_p {w d a b c : Int32} (h : a + w ≤ nI 400) : shStep w d (a, b, c) = (a + w, b, if c < d then d else c) := if_pos h
theorem shStep_n {w d a b c : Int32} (h : ¬ a + w ≤ nI 400) : shStep w d (a, b, c) = (nI 0 + w, b + c, if nI 0 < d then d else nI 0) := if_neg h
theorem shB_p {w a b c : Int32} (h : a + w ≤ nI 400) : shB w (a, b, c) = (a, b) := if_pos h
theorem shB_n {w a b c : Int32} (h : ¬ a + w ≤ nI 400) : shB w (a, b, c) = (nI 0, b + c) := if_neg h
/-- what the shelf is before panel k -/
def shA (tp bt dp : IF) : Nat → Int32 × Int32 × Int32
  | 0 => (nI 0, nI 0, nI 0)
  | k + 1 => shStep (wideF tp bt k) (dp k) (shA tp bt dp k)
theorem shA_congr {tp bt dp tp2 bt2 dp2 : IF} : ∀ k : Nat, (∀ j, j < k → tp j = tp2 j ∧ bt j = bt2 j ∧ dp j = dp2 j) → shA tp bt dp k = shA tp2 bt2 dp2 k
  | 0, _ => rfl
  | k + 1, h => by
    obtain ⟨h1, h2, h3⟩ := h k (Nat.lt_succ_self k)
    show shStep _ _ _ = shStep _ _ _
    rw [shA_congr k (fun j hj => h j (Nat.lt_succ_of_lt hj)), h3]
    unfold wideF
    rw [h1, h2]
/-- the sheet's own numbers of the class are those of its panels -/
def RP (P : PS) (C : CS) : Prop := match P, C with
  | (nP, tp, bt, dp), (sp, ac, kp, kc, kn, aw, dw, su, ss, sd) => shA tp bt dp nP = (su, ss, sd) ∧ ∀ j, j < nP → shB (wideF tp bt j) (shA tp bt dp j) = (aw j, dw j)
theorem inW_nle {n : Nat} {x : Int32} (hn : n < 2 ^ 31) (h : ¬ x ≤ nI n) : ¬ inW n x := by
  rintro ⟨j, h1, h2, rfl⟩
  exact h ((nI_leI (by omega) hn).mpr h2)
theorem inW_le {n : Nat} {x : Int32} (hn : n < 2 ^ 31) (h0 : ¬ x < nI 1) (h1 : x ≤ nI n) : inW n x := inW_of hn h0 (fun q => by
  rw [Int32.lt_iff_toInt_lt] at q
  rw [Int32.le_iff_toInt_le] at h1
  omega)
theorem ge_lt_no {x y : Int32} (h : y ≤ x) (h2 : x < y) : False := by
  rw [Int32.lt_iff_toInt_lt] at h2
  rw [Int32.le_iff_toInt_le] at h
  omega
theorem lt_of_nge {x y : Int32} (h : ¬ y ≤ x) : x < y := by
  rw [Int32.lt_iff_toInt_lt]
  rw [Int32.le_iff_toInt_le] at h
  omega
theorem w_neg {x : Int32} (h : x < 0) (q : x = nI 0 ∨ x = nI 1) : False := by
  rcases q with rfl | rfl <;> exact absurd h (by decide)
theorem w_big {x : Int32} (h : ¬ x ≤ nI 1) (q : x = nI 0 ∨ x = nI 1) : False := by
  rcases q with rfl | rfl <;> exact absurd (by decide) h
theorem w_one {x : Int32} (h0 : ¬ x < 0) (h1 : x ≤ nI 1) (h2 : ¬ x = 0) : x = nI 1 := by
  obtain ⟨j, hj, rfl⟩ := nI_of h0
  have h3 := (nI_leI hj (by decide)).mp h1
  rcases (show j = 0 ∨ j = 1 by omega) with rfl | rfl
  · exact absurd rfl h2
  · rfl
def q_panel (G : GS) (a : Int32) (b : Int32) (d : Int32) (r : Int32) (G2 : GS) : Prop := match G with
  | ((nN, px, py, pz, fx, fy, fz, lf, ld, fi), (nB, fr, tt, ln, wi, sg, pu), (nR, rd, rx, ry, wv, fo), (re, dg), (nP, tp, bt, dp)) => ((nP < 30 ∧ inW 400 a ∧ inW 400 b ∧ inW 200 d) ∧ r = nI nP ∧ G2 = ((nN, px, py, pz, fx, fy, fz, lf, ld, fi), (nB, fr, tt, ln, wi, sg, pu), (nR, rd, rx, ry, wv, fo), (re, dg), (nP + 1, upd tp nP a, upd bt nP b, upd dp nP d))) ∨ (¬ (nP < 30 ∧ inW 400 a ∧ inW 400 b ∧ inW 200 d) ∧ r = (-1 : Int32) ∧ G2 = ((nN, px, py, pz, fx, fy, fz, lf, ld, fi), (nB, fr, tt, ln, wi, sg, pu), (nR, rd, rx, ry, wv, fo), (re, dg), (nP, tp, bt, dp)))
theorem q_panel_det {G : GS} {a : Int32} {b : Int32} {d : Int32} {r1 r2 : Int32} {G1 G2 : GS} (h1 : q_panel G a b d r1 G1) (h2 : q_panel G a b d r2 G2) : r1 = r2 ∧ G1 = G2 := by
  obtain ⟨⟨nN, px, py, pz, fx, fy, fz, lf, ld, fi⟩, ⟨nB, fr, tt, ln, wi, sg, pu⟩, ⟨nR, rd, rx, ry, wv, fo⟩, ⟨re, dg⟩, ⟨nP, tp, bt, dp⟩⟩ := G
  rcases h1 with ⟨c1, rfl, rfl⟩ | ⟨c1, rfl, rfl⟩ <;> rcases h2 with ⟨c2, rfl, rfl⟩ | ⟨c2, rfl, rfl⟩ <;> first | exact ⟨rfl, rfl⟩ | exact absurd c1 c2 | exact absurd c2 c1
def q_cut (G : GS) (x : Int32) (k : Int32) (w : Int32) (r : Int32) : Prop := match G with
  | ((nN, px, py, pz, fx, fy, fz, lf, ld, fi), (nB, fr, tt, ln, wi, sg, pu), (nR, rd, rx, ry, wv, fo), (re, dg), (nP, tp, bt, dp)) => (∃ j, j < nP ∧ x = nI j ∧ ¬ k < 0 ∧ k < dp j ∧ ((w = nI 0 ∧ r = mesh tp bt dp j (k + nI 1)) ∨ (w = nI 1 ∧ r = mesh tp bt dp j (k + nI 1) - mesh tp bt dp j k))) ∨ (¬ (∃ j, j < nP ∧ x = nI j ∧ ¬ k < 0 ∧ k < dp j ∧ (w = nI 0 ∨ w = nI 1)) ∧ r = (-1 : Int32))
def q_whole (G : GS) (x : Int32) (r : Int32) : Prop := match G with
  | ((nN, px, py, pz, fx, fy, fz, lf, ld, fi), (nB, fr, tt, ln, wi, sg, pu), (nR, rd, rx, ry, wv, fo), (re, dg), (nP, tp, bt, dp)) => (∃ j, j < nP ∧ x = nI j ∧ (((bt j - tp j) - (bt j - tp j) / nI 2 * nI 2 = 0 ∧ r = nI 1) ∨ (¬ (bt j - tp j) - (bt j - tp j) / nI 2 * nI 2 = 0 ∧ r = nI 0))) ∨ (¬ inN nP x ∧ r = nI 0)
def q_edge (G : GS) (x : Int32) (y : Int32) (r : Int32) : Prop := match G with
  | ((nN, px, py, pz, fx, fy, fz, lf, ld, fi), (nB, fr, tt, ln, wi, sg, pu), (nR, rd, rx, ry, wv, fo), (re, dg), (nP, tp, bt, dp)) => (∃ i j, i < nP ∧ j < nP ∧ x = nI i ∧ y = nI j ∧ r = if tp j < bt i then tp j else bt i) ∨ (¬ (inN nP x ∧ inN nP y) ∧ r = (-1 : Int32))
def q_sheet (G : GS) (x : Int32) (w : Int32) (r : Int32) : Prop := match G with
  | ((nN, px, py, pz, fx, fy, fz, lf, ld, fi), (nB, fr, tt, ln, wi, sg, pu), (nR, rd, rx, ry, wv, fo), (re, dg), (nP, tp, bt, dp)) => (∃ j, j < nP ∧ x = nI j ∧ ((w = nI 0 ∧ r = (shB (wideF tp bt j) (shA tp bt dp j)).1) ∨ (w = nI 1 ∧ r = (shB (wideF tp bt j) (shA tp bt dp j)).2))) ∨ (¬ (inN nP x ∧ (w = nI 0 ∨ w = nI 1)) ∧ r = (-1 : Int32))
def qX_panel (S : XS) (a b d : Int32) (r : Int32) (u : XS) : Prop := match S with
  | (((nN, px, py, pz, fx, fy, fz, lf, ld, fi), (nB, fr, tt, ln, wi, sg, pu), (nR, rd, rx, ry, wv, fo), (re, dg), (nP, tp, bt, dp)), (sp, ac, kp, kc, kn, aw, dw, su, ss, sd)) => ((nP < 30 ∧ inW 400 a ∧ inW 400 b ∧ inW 200 d) ∧ r = nI nP ∧ u = (((nN, px, py, pz, fx, fy, fz, lf, ld, fi), (nB, fr, tt, ln, wi, sg, pu), (nR, rd, rx, ry, wv, fo), (re, dg), (nP + 1, (upd tp nP a), (upd bt nP b), (upd dp nP d))), (sp, ac, kp, kc, kn, (upd aw nP (shB (wideF (upd tp nP a) (upd bt nP b) nP) (su, ss, sd)).1), (upd dw nP (shB (wideF (upd tp nP a) (upd bt nP b) nP) (su, ss, sd)).2), (shStep (wideF (upd tp nP a) (upd bt nP b) nP) ((upd dp nP d) nP) (su, ss, sd)).1, (shStep (wideF (upd tp nP a) (upd bt nP b) nP) ((upd dp nP d) nP) (su, ss, sd)).2.1, (shStep (wideF (upd tp nP a) (upd bt nP b) nP) ((upd dp nP d) nP) (su, ss, sd)).2.2))) ∨ (¬ (nP < 30 ∧ inW 400 a ∧ inW 400 b ∧ inW 200 d) ∧ r = (-1 : Int32) ∧ u = (((nN, px, py, pz, fx, fy, fz, lf, ld, fi), (nB, fr, tt, ln, wi, sg, pu), (nR, rd, rx, ry, wv, fo), (re, dg), (nP, tp, bt, dp)), (sp, ac, kp, kc, kn, aw, dw, su, ss, sd)))
theorem iX4_lay_X4 : ∀ w ∈ u_ws RX4 TX4 9, w ∈ wsX4_lay := by decide +kernel
set_option maxHeartbeats 4000000 in
set_option maxRecDepth 100000 in
theorem kX4_lay (l : Launch) (D : va_G) (cs : Nat → ClassId) (ad : Nat → Nat) (hd : distX ad) (sz : Nat) (S : XS) (j : Nat) (hj : j < 30) : Met l yX4_lay wsX4_lay ({ frames := 1, cells := 0, slots := 0, locals := 21 } : Room) (gP D (WX cs ad) (EX D cs) S sz ([.ref (ad 6), .int (nI j)] : List Value)) (va_Qv (fun u => match S with | (((nN, px, py, pz, fx, fy, fz, lf, ld, fi), (nB, fr, tt, ln, wi, sg, pu), (nR, rd, rx, ry, wv, fo), (re, dg), (nP, tp, bt, dp)), (sp, ac, kp, kc, kn, aw, dw, su, ss, sd)) => u = (((nN, px, py, pz, fx, fy, fz, lf, ld, fi), (nB, fr, tt, ln, wi, sg, pu), (nR, rd, rx, ry, wv, fo), (re, dg), (nP, tp, bt, dp)), (sp, ac, kp, kc, kn, (upd aw j (shB (wideF tp bt j) (su, ss, sd)).1), (upd dw j (shB (wideF tp bt j) (su, ss, sd)).2), (shStep (wideF tp bt j) (dp j) (su, ss, sd)).1, (shStep (wideF tp bt j) (dp j) (su, ss, sd)).2.1, (shStep (wideF tp bt j) (dp j) (su, ss, sd)).2.2))) (gB D (WX cs ad)) (gA (AX ad) sz)) 0 0 (gA (AX ad) sz) := by
  obtain ⟨⟨⟨nN, px, py, pz, fx, fy, fz, lf, ld, fi⟩, ⟨nB, fr, tt, ln, wi, sg, pu⟩, ⟨nR, rd, rx, ry, wv, fo⟩, ⟨re, dg⟩, ⟨nP, tp, bt, dp⟩⟩, ⟨sp, ac, kp, kc, kn, aw, dw, su, ss, sd⟩⟩ := S
  refine gMv (cc := cX4_lay) (maxL := 3) (plainFor_of_name (by decide)) rfl (Nat.le_of_ble_eq_true rfl) ?_
  intro p e s m below meth c Q hx hb hts hown hml hsz hE hret H locs hP hS ls hl
  subst hsz
  have hown : s.vm.findClass RX4 = some m.cls := hown
  have hK : va_K D vwCl (tysX cs) s := hE.1
  have hD : ∀ u, va_D (gA (AX ad) s.heap.size) (WX cs ad u) := fun u => WX_D hd u
  have hl : lv_has ls 3 [(0, .ref (ad 6)), (1, .int (nI j))] := hl
  have f_9 := hts (.fieldLink RX4 9 "NetShapes$Panels" "top" "[I") (by decide +kernel)
  have f_15 := hts (.fieldLink RX4 15 "NetShapes$Panels" "bottom" "[I") (by decide +kernel)
  have f_18 := hts (.fieldLink RX4 18 "NetShapes$Panels" "deep" "[I") (by decide +kernel)
  have f_21 := hts (.fieldLink RX4 21 "NetShapes$Panels" "across" "[I") (by decide +kernel)
  have f_24 := hts (.fieldLink RX4 24 "NetShapes$Panels" "down" "[I") (by decide +kernel)
  have f_31 := hts (.fieldLink RX4 31 "NetShapes$Panels" "shelfUsed" "I") (by decide +kernel)
  have f_34 := hts (.fieldLink RX4 34 "NetShapes$Panels" "shelfStart" "I") (by decide +kernel)
  have f_37 := hts (.fieldLink RX4 37 "NetShapes$Panels" "shelfDeep" "I") (by decide +kernel)
  refine lv_aload_n hx hb dX4_lay_0 rfl (lv_at hl 0 rfl) ?_
  refine va_get (D := D) (ci := 4) (v := .ref (ad 25)) (C := RX4) (T := TX4) (N := 9) hx hb hts iX4_lay_X4 hown hK hP 6 rfl rfl 0 (by decide) f_9 (fun _ h9 => h9) rfl dX4_lay_1 ?_
  refine lv_iload_n hx hb dX4_lay_4 rfl (lv_at hl 1 rfl) ?_
  refine xil hx hb hK hP 25 1 rfl rfl (j := j) (by decide) (by omega) dX4_lay_5 ?_
  refine lv_aload_n hx hb dX4_lay_6 rfl (lv_at hl 0 rfl) ?_
  refine va_get (D := D) (ci := 4) (v := .ref (ad 26)) (C := RX4) (T := TX4) (N := 9) hx hb hts iX4_lay_X4 hown hK hP 6 rfl rfl 1 (by decide) f_15 (fun _ h9 => h9) rfl dX4_lay_7 ?_
  refine lv_iload_n hx hb dX4_lay_10 rfl (lv_at hl 1 rfl) ?_
  refine xil hx hb hK hP 26 1 rfl rfl (j := j) (by decide) (by omega) dX4_lay_11 ?_
  refine va_mmax hx hb (hml.trans hl.1.symm) hown (hts (.methodLink RX4 44 Lib.Math.max.name) (by decide +kernel)) (hts (.static Lib.Math.max.name) (by decide +kernel)) (hts (.initialized "java/lang/Math") (by decide +kernel)) (hts _ (List.mem_of_getElem? (i := 6) rfl)) (by decide) (Nat.le_of_ble_eq_true rfl) (Nat.zero_le _) (Nat.zero_le _) dX4_lay_12 ?_
  refine lv_istore_n (lv' := [(2, .int (if (tp j) < (bt j) then (bt j) else (tp j))), (0, .ref (ad 6)), (1, .int (nI j))]) hx hb dX4_lay_15 rfl hl (by decide) rfl (fun ls hl => ?_)
  refine lv_aload_n hx hb dX4_lay_16 rfl (lv_at hl 1 rfl) ?_
  refine va_get (D := D) (ci := 4) (v := .int (su)) (C := RX4) (T := TX4) (N := 9) hx hb hts iX4_lay_X4 hown hK hP 6 rfl rfl 6 (by decide) f_31 (fun _ h9 => h9) rfl dX4_lay_17 ?_
  refine lv_iload_n hx hb dX4_lay_20 rfl (lv_at hl 0 rfl) ?_
  refine lv_iadd hx hb dX4_lay_21 ?_
  refine lv_sipush (v := nI 400) hx hb dX4_lay_22 (by decide) ?_
  refine lv_icmp_le (tgt := 51) hx hb dX4_lay_25 (by decide) (fun c_25_1 => ?_) (fun c_25_1 => ?_)
  · skip
    refine lv_aload_n hx hb dX4_lay_51 rfl (lv_at hl 1 rfl) ?_
    refine va_get (D := D) (ci := 4) (v := .ref (ad 28)) (C := RX4) (T := TX4) (N := 9) hx hb hts iX4_lay_X4 hown hK hP 6 rfl rfl 3 (by decide) f_21 (fun _ h9 => h9) rfl dX4_lay_52 ?_
    refine lv_iload_n hx hb dX4_lay_55 rfl (lv_at hl 2 rfl) ?_
    refine lv_aload_n hx hb dX4_lay_56 rfl (lv_at hl 1 rfl) ?_
    refine va_get (D := D) (ci := 4) (v := .int (su)) (C := RX4) (T := TX4) (N := 9) hx hb hts iX4_lay_X4 hown hK hP 6 rfl rfl 6 (by decide) f_31 (fun _ h9 => h9) rfl dX4_lay_57 ?_
    refine xis hx hb hK hD hP hS 28 1 (((nN, px, py, pz, fx, fy, fz, lf, ld, fi), (nB, fr, tt, ln, wi, sg, pu), (nR, rd, rx, ry, wv, fo), (re, dg), (nP, tp, bt, dp)), (sp, ac, kp, kc, kn, (upd aw j su), dw, su, ss, sd)) rfl rfl (j := j) (by decide) (by omega) rfl dX4_lay_60 (fun H locs hP hS => ?_)
    refine lv_aload_n hx hb dX4_lay_61 rfl (lv_at hl 1 rfl) ?_
    refine va_get (D := D) (ci := 4) (v := .ref (ad 29)) (C := RX4) (T := TX4) (N := 9) hx hb hts iX4_lay_X4 hown hK hP 6 rfl rfl 4 (by decide) f_24 (fun _ h9 => h9) rfl dX4_lay_62 ?_
    refine lv_iload_n hx hb dX4_lay_65 rfl (lv_at hl 2 rfl) ?_
    refine lv_aload_n hx hb dX4_lay_66 rfl (lv_at hl 1 rfl) ?_
    refine va_get (D := D) (ci := 4) (v := .int (ss)) (C := RX4) (T := TX4) (N := 9) hx hb hts iX4_lay_X4 hown hK hP 6 rfl rfl 7 (by decide) f_34 (fun _ h9 => h9) rfl dX4_lay_67 ?_
    refine xis hx hb hK hD hP hS 29 1 (((nN, px, py, pz, fx, fy, fz, lf, ld, fi), (nB, fr, tt, ln, wi, sg, pu), (nR, rd, rx, ry, wv, fo), (re, dg), (nP, tp, bt, dp)), (sp, ac, kp, kc, kn, (upd aw j su), (upd dw j ss), su, ss, sd)) rfl rfl (j := j) (by decide) (by omega) rfl dX4_lay_70 (fun H locs hP hS => ?_)
    refine lv_aload_n hx hb dX4_lay_71 rfl (lv_at hl 1 rfl) ?_
    refine lv_dup hx hb dX4_lay_72 rfl ?_
    refine va_get (D := D) (ci := 4) (v := .int (su)) (C := RX4) (T := TX4) (N := 9) hx hb hts iX4_lay_X4 hown hK hP 6 rfl rfl 6 (by decide) f_31 (fun _ h9 => h9) rfl dX4_lay_73 ?_
    refine lv_iload_n hx hb dX4_lay_76 rfl (lv_at hl 0 rfl) ?_
    refine lv_iadd hx hb dX4_lay_77 ?_
    refine xput (D := D) (ci := 4) (v := .int (su + (if (tp j) < (bt j) then (bt j) else (tp j)))) (ty := .int) (C := RX4) (T := TX4) (N := 9) hx hb hts iX4_lay_X4 tyX4 tyX4_ok nmX4 hown hK hD hP hS 6 (((nN, px, py, pz, fx, fy, fz, lf, ld, fi), (nB, fr, tt, ln, wi, sg, pu), (nR, rd, rx, ry, wv, fo), (re, dg), (nP, tp, bt, dp)), (sp, ac, kp, kc, kn, (upd aw j su), (upd dw j ss), (su + (if (tp j) < (bt j) then (bt j) else (tp j))), ss, sd)) rfl rfl 6 (by decide) f_31 (fun _ h9 => h9) rfl (by decide +kernel) rfl rfl (Nat.le_of_ble_eq_true rfl) rfl dX4_lay_78 (fun H locs hP hS => ?_)
    refine lv_aload_n hx hb dX4_lay_81 rfl (lv_at hl 1 rfl) ?_
    refine lv_aload_n hx hb dX4_lay_82 rfl (lv_at hl 1 rfl) ?_
    refine va_get (D := D) (ci := 4) (v := .int (sd)) (C := RX4) (T := TX4) (N := 9) hx hb hts iX4_lay_X4 hown hK hP 6 rfl rfl 8 (by decide) f_37 (fun _ h9 => h9) rfl dX4_lay_83 ?_
    refine lv_aload_n hx hb dX4_lay_86 rfl (lv_at hl 1 rfl) ?_
    refine va_get (D := D) (ci := 4) (v := .ref (ad 27)) (C := RX4) (T := TX4) (N := 9) hx hb hts iX4_lay_X4 hown hK hP 6 rfl rfl 2 (by decide) f_18 (fun _ h9 => h9) rfl dX4_lay_87 ?_
    refine lv_iload_n hx hb dX4_lay_90 rfl (lv_at hl 2 rfl) ?_
    refine xil hx hb hK hP 27 1 rfl rfl (j := j) (by decide) (by omega) dX4_lay_91 ?_
    refine va_mmax hx hb (hml.trans hl.1.symm) hown (hts (.methodLink RX4 44 Lib.Math.max.name) (by decide +kernel)) (hts (.static Lib.Math.max.name) (by decide +kernel)) (hts (.initialized "java/lang/Math") (by decide +kernel)) (hts _ (List.mem_of_getElem? (i := 6) rfl)) (by decide) (Nat.le_of_ble_eq_true rfl) (Nat.zero_le _) (Nat.zero_le _) dX4_lay_92 ?_
    refine xput (D := D) (ci := 4) (v := .int (if sd < (dp j) then (dp j) else sd)) (ty := .int) (C := RX4) (T := TX4) (N := 9) hx hb hts iX4_lay_X4 tyX4 tyX4_ok nmX4 hown hK hD hP hS 6 (((nN, px, py, pz, fx, fy, fz, lf, ld, fi), (nB, fr, tt, ln, wi, sg, pu), (nR, rd, rx, ry, wv, fo), (re, dg), (nP, tp, bt, dp)), (sp, ac, kp, kc, kn, (upd aw j su), (upd dw j ss), (su + (if (tp j) < (bt j) then (bt j) else (tp j))), ss, (if sd < (dp j) then (dp j) else sd))) rfl rfl 8 (by decide) f_37 (fun _ h9 => h9) rfl (by decide +kernel) rfl rfl (Nat.le_of_ble_eq_true rfl) rfl dX4_lay_95 (fun H locs hP hS => ?_)
    exact hret hS hP dX4_lay_98 ((by show (((nN, px, py, pz, fx, fy, fz, lf, ld, fi), (nB, fr, tt, ln, wi, sg, pu), (nR, rd, rx, ry, wv, fo), (re, dg), (nP, tp, bt, dp)), (sp, ac, kp, kc, kn, (upd aw j su), (upd dw j ss), (su + (if (tp j) < (bt j) then (bt j) else (tp j))), ss, (if sd < (dp j) then (dp j) else sd))) = (((nN, px, py, pz, fx, fy, fz, lf, ld, fi), (nB, fr, tt, ln, wi, sg, pu), (nR, rd, rx, ry, wv, fo), (re, dg), (nP, tp, bt, dp)), (sp, ac, kp, kc, kn, (upd aw j (shB (wideF tp bt j) (su, ss, sd)).1), (upd dw j (shB (wideF tp bt j) (su, ss, sd)).2), (shStep (wideF tp bt j) (dp j) (su, ss, sd)).1, (shStep (wideF tp bt j) (dp j) (su, ss, sd)).2.1, (shStep (wideF tp bt j) (dp j) (su, ss, sd)).2.2)); rw [shStep_p (w := wideF tp bt j) c_25_1, shB_p (w := wideF tp bt j) c_25_1]; rfl))
  · skip
    refine lv_aload_n hx hb dX4_lay_28 rfl (lv_at hl 1 rfl) ?_
    refine lv_dup hx hb dX4_lay_29 rfl ?_
    refine va_get (D := D) (ci := 4) (v := .int (ss)) (C := RX4) (T := TX4) (N := 9) hx hb hts iX4_lay_X4 hown hK hP 6 rfl rfl 7 (by decide) f_34 (fun _ h9 => h9) rfl dX4_lay_30 ?_
    refine lv_aload_n hx hb dX4_lay_33 rfl (lv_at hl 1 rfl) ?_
    refine va_get (D := D) (ci := 4) (v := .int (sd)) (C := RX4) (T := TX4) (N := 9) hx hb hts iX4_lay_X4 hown hK hP 6 rfl rfl 8 (by decide) f_37 (fun _ h9 => h9) rfl dX4_lay_34 ?_
    refine lv_iadd hx hb dX4_lay_37 ?_
    refine xput (D := D) (ci := 4) (v := .int (ss + sd)) (ty := .int) (C := RX4) (T := TX4) (N := 9) hx hb hts iX4_lay_X4 tyX4 tyX4_ok nmX4 hown hK hD hP hS 6 (((nN, px, py, pz, fx, fy, fz, lf, ld, fi), (nB, fr, tt, ln, wi, sg, pu), (nR, rd, rx, ry, wv, fo), (re, dg), (nP, tp, bt, dp)), (sp, ac, kp, kc, kn, aw, dw, su, (ss + sd), sd)) rfl rfl 7 (by decide) f_34 (fun _ h9 => h9) rfl (by decide +kernel) rfl rfl (Nat.le_of_ble_eq_true rfl) rfl dX4_lay_38 (fun H locs hP hS => ?_)
    refine lv_aload_n hx hb dX4_lay_41 rfl (lv_at hl 1 rfl) ?_
    refine lv_iconst (v := nI 0) hx hb dX4_lay_42 (by decide) ?_
    refine xput (D := D) (ci := 4) (v := .int (nI 0)) (ty := .int) (C := RX4) (T := TX4) (N := 9) hx hb hts iX4_lay_X4 tyX4 tyX4_ok nmX4 hown hK hD hP hS 6 (((nN, px, py, pz, fx, fy, fz, lf, ld, fi), (nB, fr, tt, ln, wi, sg, pu), (nR, rd, rx, ry, wv, fo), (re, dg), (nP, tp, bt, dp)), (sp, ac, kp, kc, kn, aw, dw, (nI 0), (ss + sd), sd)) rfl rfl 6 (by decide) f_31 (fun _ h9 => h9) rfl (by decide +kernel) rfl rfl (Nat.le_of_ble_eq_true rfl) rfl dX4_lay_43 (fun H locs hP hS => ?_)
    refine lv_aload_n hx hb dX4_lay_46 rfl (lv_at hl 1 rfl) ?_
    refine lv_iconst (v := nI 0) hx hb dX4_lay_47 (by decide) ?_
    refine xput (D := D) (ci := 4) (v := .int (nI 0)) (ty := .int) (C := RX4) (T := TX4) (N := 9) hx hb hts iX4_lay_X4 tyX4 tyX4_ok nmX4 hown hK hD hP hS 6 (((nN, px, py, pz, fx, fy, fz, lf, ld, fi), (nB, fr, tt, ln, wi, sg, pu), (nR, rd, rx, ry, wv, fo), (re, dg), (nP, tp, bt, dp)), (sp, ac, kp, kc, kn, aw, dw, (nI 0), (ss + sd), (nI 0))) rfl rfl 8 (by decide) f_37 (fun _ h9 => h9) rfl (by decide +kernel) rfl rfl (Nat.le_of_ble_eq_true rfl) rfl dX4_lay_48 (fun H locs hP hS => ?_)
    refine lv_aload_n hx hb dX4_lay_51 rfl (lv_at hl 1 rfl) ?_
    refine va_get (D := D) (ci := 4) (v := .ref (ad 28)) (C := RX4) (T := TX4) (N := 9) hx hb hts iX4_lay_X4 hown hK hP 6 rfl rfl 3 (by decide) f_21 (fun _ h9 => h9) rfl dX4_lay_52 ?_
    refine lv_iload_n hx hb dX4_lay_55 rfl (lv_at hl 2 rfl) ?_
    refine lv_aload_n hx hb dX4_lay_56 rfl (lv_at hl 1 rfl) ?_
    refine va_get (D := D) (ci := 4) (v := .int ((nI 0))) (C := RX4) (T := TX4) (N := 9) hx hb hts iX4_lay_X4 hown hK hP 6 rfl rfl 6 (by decide) f_31 (fun _ h9 => h9) rfl dX4_lay_57 ?_
    refine xis hx hb hK hD hP hS 28 1 (((nN, px, py, pz, fx, fy, fz, lf, ld, fi), (nB, fr, tt, ln, wi, sg, pu), (nR, rd, rx, ry, wv, fo), (re, dg), (nP, tp, bt, dp)), (sp, ac, kp, kc, kn, (upd aw j ((nI 0))), dw, (nI 0), (ss + sd), (nI 0))) rfl rfl (j := j) (by decide) (by omega) rfl dX4_lay_60 (fun H locs hP hS => ?_)
    refine lv_aload_n hx hb dX4_lay_61 rfl (lv_at hl 1 rfl) ?_
    refine va_get (D := D) (ci := 4) (v := .ref (ad 29)) (C := RX4) (T := TX4) (N := 9) hx hb hts iX4_lay_X4 hown hK hP 6 rfl rfl 4 (by decide) f_24 (fun _ h9 => h9) rfl dX4_lay_62 ?_
    refine lv_iload_n hx hb dX4_lay_65 rfl (lv_at hl 2 rfl) ?_
    refine lv_aload_n hx hb dX4_lay_66 rfl (lv_at hl 1 rfl) ?_
    refine va_get (D := D) (ci := 4) (v := .int ((ss + sd))) (C := RX4) (T := TX4) (N := 9) hx hb hts iX4_lay_X4 hown hK hP 6 rfl rfl 7 (by decide) f_34 (fun _ h9 => h9) rfl dX4_lay_67 ?_
    refine xis hx hb hK hD hP hS 29 1 (((nN, px, py, pz, fx, fy, fz, lf, ld, fi), (nB, fr, tt, ln, wi, sg, pu), (nR, rd, rx, ry, wv, fo), (re, dg), (nP, tp, bt, dp)), (sp, ac, kp, kc, kn, (upd aw j ((nI 0))), (upd dw j ((ss + sd))), (nI 0), (ss + sd), (nI 0))) rfl rfl (j := j) (by decide) (by omega) rfl dX4_lay_70 (fun H locs hP hS => ?_)
    refine lv_aload_n hx hb dX4_lay_71 rfl (lv_at hl 1 rfl) ?_
    refine lv_dup hx hb dX4_lay_72 rfl ?_
    refine va_get (D := D) (ci := 4) (v := .int ((nI 0))) (C := RX4) (T := TX4) (N := 9) hx hb hts iX4_lay_X4 hown hK hP 6 rfl rfl 6 (by decide) f_31 (fun _ h9 => h9) rfl dX4_lay_73 ?_
    refine lv_iload_n hx hb dX4_lay_76 rfl (lv_at hl 0 rfl) ?_
    refine lv_iadd hx hb dX4_lay_77 ?_
    refine xput (D := D) (ci := 4) (v := .int (((nI 0)) + (if (tp j) < (bt j) then (bt j) else (tp j)))) (ty := .int) (C := RX4) (T := TX4) (N := 9) hx hb hts iX4_lay_X4 tyX4 tyX4_ok nmX4 hown hK hD hP hS 6 (((nN, px, py, pz, fx, fy, fz, lf, ld, fi), (nB, fr, tt, ln, wi, sg, pu), (nR, rd, rx, ry, wv, fo), (re, dg), (nP, tp, bt, dp)), (sp, ac, kp, kc, kn, (upd aw j ((nI 0))), (upd dw j ((ss + sd))), (((nI 0)) + (if (tp j) < (bt j) then (bt j) else (tp j))), (ss + sd), (nI 0))) rfl rfl 6 (by decide) f_31 (fun _ h9 => h9) rfl (by decide +kernel) rfl rfl (Nat.le_of_ble_eq_true rfl) rfl dX4_lay_78 (fun H locs hP hS => ?_)
    refine lv_aload_n hx hb dX4_lay_81 rfl (lv_at hl 1 rfl) ?_
    refine lv_aload_n hx hb dX4_lay_82 rfl (lv_at hl 1 rfl) ?_
    refine va_get (D := D) (ci := 4) (v := .int ((nI 0))) (C := RX4) (T := TX4) (N := 9) hx hb hts iX4_lay_X4 hown hK hP 6 rfl rfl 8 (by decide) f_37 (fun _ h9 => h9) rfl dX4_lay_83 ?_
    refine lv_aload_n hx hb dX4_lay_86 rfl (lv_at hl 1 rfl) ?_
    refine va_get (D := D) (ci := 4) (v := .ref (ad 27)) (C := RX4) (T := TX4) (N := 9) hx hb hts iX4_lay_X4 hown hK hP 6 rfl rfl 2 (by decide) f_18 (fun _ h9 => h9) rfl dX4_lay_87 ?_
    refine lv_iload_n hx hb dX4_lay_90 rfl (lv_at hl 2 rfl) ?_
    refine xil hx hb hK hP 27 1 rfl rfl (j := j) (by decide) (by omega) dX4_lay_91 ?_
    refine va_mmax hx hb (hml.trans hl.1.symm) hown (hts (.methodLink RX4 44 Lib.Math.max.name) (by decide +kernel)) (hts (.static Lib.Math.max.name) (by decide +kernel)) (hts (.initialized "java/lang/Math") (by decide +kernel)) (hts _ (List.mem_of_getElem? (i := 6) rfl)) (by decide) (Nat.le_of_ble_eq_true rfl) (Nat.zero_le _) (Nat.zero_le _) dX4_lay_92 ?_
    refine xput (D := D) (ci := 4) (v := .int (if ((nI 0)) < (dp j) then (dp j) else ((nI 0)))) (ty := .int) (C := RX4) (T := TX4) (N := 9) hx hb hts iX4_lay_X4 tyX4 tyX4_ok nmX4 hown hK hD hP hS 6 (((nN, px, py, pz, fx, fy, fz, lf, ld, fi), (nB, fr, tt, ln, wi, sg, pu), (nR, rd, rx, ry, wv, fo), (re, dg), (nP, tp, bt, dp)), (sp, ac, kp, kc, kn, (upd aw j ((nI 0))), (upd dw j ((ss + sd))), (((nI 0)) + (if (tp j) < (bt j) then (bt j) else (tp j))), (ss + sd), (if ((nI 0)) < (dp j) then (dp j) else ((nI 0))))) rfl rfl 8 (by decide) f_37 (fun _ h9 => h9) rfl (by decide +kernel) rfl rfl (Nat.le_of_ble_eq_true rfl) rfl dX4_lay_95 (fun H locs hP hS => ?_)
    exact hret hS hP dX4_lay_98 ((by show (((nN, px, py, pz, fx, fy, fz, lf, ld, fi), (nB, fr, tt, ln, wi, sg, pu), (nR, rd, rx, ry, wv, fo), (re, dg), (nP, tp, bt, dp)), (sp, ac, kp, kc, kn, (upd aw j ((nI 0))), (upd dw j ((ss + sd))), (((nI 0)) + (if (tp j) < (bt j) then (bt j) else (tp j))), (ss + sd), (if ((nI 0)) < (dp j) then (dp j) else ((nI 0))))) = (((nN, px, py, pz, fx, fy, fz, lf, ld, fi), (nB, fr, tt, ln, wi, sg, pu), (nR, rd, rx, ry, wv, fo), (re, dg), (nP, tp, bt, dp)), (sp, ac, kp, kc, kn, (upd aw j (shB (wideF tp bt j) (su, ss, sd)).1), (upd dw j (shB (wideF tp bt j) (su, ss, sd)).2), (shStep (wideF tp bt j) (dp j) (su, ss, sd)).1, (shStep (wideF tp bt j) (dp j) (su, ss, sd)).2.1, (shStep (wideF tp bt j) (dp j) (su, ss, sd)).2.2)); rw [shStep_n (w := wideF tp bt j) c_25_1, shB_n (w := wideF tp bt j) c_25_1]; rfl))
theorem iX4_add_X4 : ∀ w ∈ u_ws RX4 TX4 9, w ∈ wsX4_add := by decide +kernel
set_option maxHeartbeats 4000000 in
set_option maxRecDepth 100000 in
theorem kX4_add (l : Launch) (D : va_G) (cs : Nat → ClassId) (ad : Nat → Nat) (hd : distX ad) (sz : Nat) (S : XS) (hP0 : S.1.2.2.2.2.1 < 30) (a b d : Int32) : Met l yX4_add wsX4_add ({ frames := 2, cells := 0, slots := 0, locals := 43 } : Room) (gP D (WX cs ad) (EX D cs) S sz ([.ref (ad 6), .int (a), .int (b), .int (d)] : List Value)) (va_Qi (fun r u => match S with | (((nN, px, py, pz, fx, fy, fz, lf, ld, fi), (nB, fr, tt, ln, wi, sg, pu), (nR, rd, rx, ry, wv, fo), (re, dg), (nP, tp, bt, dp)), (sp, ac, kp, kc, kn, aw, dw, su, ss, sd)) => r = nI nP ∧ u = (((nN, px, py, pz, fx, fy, fz, lf, ld, fi), (nB, fr, tt, ln, wi, sg, pu), (nR, rd, rx, ry, wv, fo), (re, dg), (nP + 1, (upd tp nP a), (upd bt nP b), (upd dp nP d))), (sp, ac, kp, kc, kn, (upd aw nP (shB (wideF (upd tp nP a) (upd bt nP b) nP) (su, ss, sd)).1), (upd dw nP (shB (wideF (upd tp nP a) (upd bt nP b) nP) (su, ss, sd)).2), (shStep (wideF (upd tp nP a) (upd bt nP b) nP) ((upd dp nP d) nP) (su, ss, sd)).1, (shStep (wideF (upd tp nP a) (upd bt nP b) nP) ((upd dp nP d) nP) (su, ss, sd)).2.1, (shStep (wideF (upd tp nP a) (upd bt nP b) nP) ((upd dp nP d) nP) (su, ss, sd)).2.2))) (gB D (WX cs ad)) (gA (AX ad) sz)) 0 0 (gA (AX ad) sz) := by
  obtain ⟨⟨⟨nN, px, py, pz, fx, fy, fz, lf, ld, fi⟩, ⟨nB, fr, tt, ln, wi, sg, pu⟩, ⟨nR, rd, rx, ry, wv, fo⟩, ⟨re, dg⟩, ⟨nP, tp, bt, dp⟩⟩, ⟨sp, ac, kp, kc, kn, aw, dw, su, ss, sd⟩⟩ := S
  have hP0 : nP < 30 := hP0
  refine gMi (cc := cX4_add) (maxL := 5) (plainFor_of_name (by decide)) rfl (Nat.le_of_ble_eq_true rfl) ?_
  intro p e s m below meth c Q hx hb hts hown hml hsz hE hret H locs hP hS ls hl
  subst hsz
  have hown : s.vm.findClass RX4 = some m.cls := hown
  have hK : va_K D vwCl (tysX cs) s := hE.1
  have hD : ∀ u, va_D (gA (AX ad) s.heap.size) (WX cs ad u) := fun u => WX_D hd u
  have hl : lv_has ls 5 [(0, .ref (ad 6)), (1, .int (a)), (2, .int (b)), (3, .int (d))] := hl
  have f_9 := hts (.fieldLink RX4 9 "NetShapes$Panels" "top" "[I") (by decide +kernel)
  have f_15 := hts (.fieldLink RX4 15 "NetShapes$Panels" "bottom" "[I") (by decide +kernel)
  have f_18 := hts (.fieldLink RX4 18 "NetShapes$Panels" "deep" "[I") (by decide +kernel)
  have f_27 := hts (.fieldLink RX4 27 "NetShapes$Panels" "count" "I") (by decide +kernel)
  refine lv_aload_n hx hb dX4_add_0 rfl (lv_at hl 0 rfl) ?_
  refine va_get (D := D) (ci := 4) (v := .int (nI nP)) (C := RX4) (T := TX4) (N := 9) hx hb hts iX4_add_X4 hown hK hP 6 rfl rfl 5 (by decide) f_27 (fun _ h9 => h9) rfl dX4_add_1 ?_
  refine lv_istore (lv' := [(4, .int (nI nP)), (0, .ref (ad 6)), (1, .int (a)), (2, .int (b)), (3, .int (d))]) hx hb dX4_add_4 hl (by decide) rfl (fun ls hl => ?_)
  refine lv_aload_n hx hb dX4_add_6 rfl (lv_at hl 1 rfl) ?_
  refine va_get (D := D) (ci := 4) (v := .ref (ad 25)) (C := RX4) (T := TX4) (N := 9) hx hb hts iX4_add_X4 hown hK hP 6 rfl rfl 0 (by decide) f_9 (fun _ h9 => h9) rfl dX4_add_7 ?_
  refine lv_iload hx hb dX4_add_10 (lv_at hl 0 rfl) ?_
  refine lv_iload_n hx hb dX4_add_12 rfl (lv_at hl 2 rfl) ?_
  refine xis hx hb hK hD hP hS 25 1 (((nN, px, py, pz, fx, fy, fz, lf, ld, fi), (nB, fr, tt, ln, wi, sg, pu), (nR, rd, rx, ry, wv, fo), (re, dg), (nP, (upd tp nP a), bt, dp)), (sp, ac, kp, kc, kn, aw, dw, su, ss, sd)) rfl rfl (j := nP) (by decide) (by omega) rfl dX4_add_13 (fun H locs hP hS => ?_)
  refine lv_aload_n hx hb dX4_add_14 rfl (lv_at hl 1 rfl) ?_
  refine va_get (D := D) (ci := 4) (v := .ref (ad 26)) (C := RX4) (T := TX4) (N := 9) hx hb hts iX4_add_X4 hown hK hP 6 rfl rfl 1 (by decide) f_15 (fun _ h9 => h9) rfl dX4_add_15 ?_
  refine lv_iload hx hb dX4_add_18 (lv_at hl 0 rfl) ?_
  refine lv_iload_n hx hb dX4_add_20 rfl (lv_at hl 3 rfl) ?_
  refine xis hx hb hK hD hP hS 26 1 (((nN, px, py, pz, fx, fy, fz, lf, ld, fi), (nB, fr, tt, ln, wi, sg, pu), (nR, rd, rx, ry, wv, fo), (re, dg), (nP, (upd tp nP a), (upd bt nP b), dp)), (sp, ac, kp, kc, kn, aw, dw, su, ss, sd)) rfl rfl (j := nP) (by decide) (by omega) rfl dX4_add_21 (fun H locs hP hS => ?_)
  refine lv_aload_n hx hb dX4_add_22 rfl (lv_at hl 1 rfl) ?_
  refine va_get (D := D) (ci := 4) (v := .ref (ad 27)) (C := RX4) (T := TX4) (N := 9) hx hb hts iX4_add_X4 hown hK hP 6 rfl rfl 2 (by decide) f_18 (fun _ h9 => h9) rfl dX4_add_23 ?_
  refine lv_iload hx hb dX4_add_26 (lv_at hl 0 rfl) ?_
  refine lv_iload_n hx hb dX4_add_28 rfl (lv_at hl 4 rfl) ?_
  refine xis hx hb hK hD hP hS 27 1 (((nN, px, py, pz, fx, fy, fz, lf, ld, fi), (nB, fr, tt, ln, wi, sg, pu), (nR, rd, rx, ry, wv, fo), (re, dg), (nP, (upd tp nP a), (upd bt nP b), (upd dp nP d))), (sp, ac, kp, kc, kn, aw, dw, su, ss, sd)) rfl rfl (j := nP) (by decide) (by omega) rfl dX4_add_29 (fun H locs hP hS => ?_)
  refine lv_aload_n hx hb dX4_add_30 rfl (lv_at hl 1 rfl) ?_
  refine lv_iload hx hb dX4_add_31 (lv_at hl 0 rfl) ?_
  refine gcv (va_runV (As := [.int (nI nP)]) (rest := []) ⟨hx, hb, hml, hown, hts⟩ (kX4_lay l D cs ad hd H.size (((nN, px, py, pz, fx, fy, fz, lf, ld, fi), (nB, fr, tt, ln, wi, sg, pu), (nR, rd, rx, ry, wv, fo), (re, dg), (nP, (upd tp nP a), (upd bt nP b), (upd dp nP d))), (sp, ac, kp, kc, kn, aw, dw, su, ss, sd)) nP (by omega)) (cwV 1 hts gX4_add_X4_lay rfl rfl rfl (by decide +kernel) ⟨Nat.le_of_ble_eq_true rfl, Nat.le_of_ble_eq_true rfl⟩) (gPreV (EX_bl) (va_recv hK hP (ci := 4) (q0 := 6) rfl rfl) hP (fun U _ hW => EX_warm hW hE)) rfl rfl hl.1 rfl (lv_room (Nat.le_of_ble_eq_true rfl)) dX4_add_33 ⟨Nat.zero_le _, Nat.zero_le _⟩) hS (fun u_ H locs hw hP hS => ?_)
  obtain rfl := hw
  have hP : va_P D vwCl (WX cs ad (((nN, px, py, pz, fx, fy, fz, lf, ld, fi), (nB, fr, tt, ln, wi, sg, pu), (nR, rd, rx, ry, wv, fo), (re, dg), (nP, (upd tp nP a), (upd bt nP b), (upd dp nP d))), (sp, ac, kp, kc, kn, ((upd aw nP (shB (wideF (upd tp nP a) (upd bt nP b) nP) (su, ss, sd)).1)), ((upd dw nP (shB (wideF (upd tp nP a) (upd bt nP b) nP) (su, ss, sd)).2)), ((shStep (wideF (upd tp nP a) (upd bt nP b) nP) ((upd dp nP d) nP) (su, ss, sd)).1), ((shStep (wideF (upd tp nP a) (upd bt nP b) nP) ((upd dp nP d) nP) (su, ss, sd)).2.1), ((shStep (wideF (upd tp nP a) (upd bt nP b) nP) ((upd dp nP d) nP) (su, ss, sd)).2.2)))) H := hP
  refine lv_aload_n hx hb dX4_add_36 rfl (lv_at hl 1 rfl) ?_
  refine lv_dup hx hb dX4_add_37 rfl ?_
  refine va_get (D := D) (ci := 4) (v := .int (nI nP)) (C := RX4) (T := TX4) (N := 9) hx hb hts iX4_add_X4 hown hK hP 6 rfl rfl 5 (by decide) f_27 (fun _ h9 => h9) rfl dX4_add_38 ?_
  refine lv_iconst (v := nI 1) hx hb dX4_add_41 (by decide) ?_
  refine xia hx hb (nP + 1) dX4_add_42 rfl ?_
  refine xput (D := D) (ci := 4) (v := .int (nI (nP + 1))) (ty := .int) (C := RX4) (T := TX4) (N := 9) hx hb hts iX4_add_X4 tyX4 tyX4_ok nmX4 hown hK hD hP hS 6 (((nN, px, py, pz, fx, fy, fz, lf, ld, fi), (nB, fr, tt, ln, wi, sg, pu), (nR, rd, rx, ry, wv, fo), (re, dg), ((nP + 1), (upd tp nP a), (upd bt nP b), (upd dp nP d))), (sp, ac, kp, kc, kn, ((upd aw nP (shB (wideF (upd tp nP a) (upd bt nP b) nP) (su, ss, sd)).1)), ((upd dw nP (shB (wideF (upd tp nP a) (upd bt nP b) nP) (su, ss, sd)).2)), ((shStep (wideF (upd tp nP a) (upd bt nP b) nP) ((upd dp nP d) nP) (su, ss, sd)).1), ((shStep (wideF (upd tp nP a) (upd bt nP b) nP) ((upd dp nP d) nP) (su, ss, sd)).2.1), ((shStep (wideF (upd tp nP a) (upd bt nP b) nP) ((upd dp nP d) nP) (su, ss, sd)).2.2))) rfl rfl 5 (by decide) f_27 (fun _ h9 => h9) rfl (by decide +kernel) rfl rfl (Nat.le_of_ble_eq_true rfl) rfl dX4_add_43 (fun H locs hP hS => ?_)
  refine lv_iload hx hb dX4_add_46 (lv_at hl 0 rfl) ?_
  exact hret hS hP dX4_add_48 (⟨rfl, rfl⟩)
theorem iX6_panel_X4 : ∀ w ∈ u_ws RX4 TX4 9, w ∈ wsX6_panel := by decide +kernel
theorem iX6_panel_X6 : ∀ w ∈ u_ws RX6 TX6 6, w ∈ wsX6_panel := by decide +kernel
set_option maxHeartbeats 4000000 in
set_option maxRecDepth 100000 in
theorem kX6_panel (l : Launch) (D : va_G) (cs : Nat → ClassId) (ad : Nat → Nat) (hd : distX ad) (sz : Nat) (S : XS) (hnP : S.1.2.2.2.2.1 ≤ 30) (a b d : Int32) : Met l yX6_panel wsX6_panel ({ frames := 3, cells := 0, slots := 0, locals := 67 } : Room) (gP D (WX cs ad) (EX D cs) S sz ([.ref (ad 0), .int (a), .int (b), .int (d)] : List Value)) (va_Qi (qX_panel S a b d) (gB D (WX cs ad)) (gA (AX ad) sz)) 0 0 (gA (AX ad) sz) := by
  obtain ⟨⟨⟨nN, px, py, pz, fx, fy, fz, lf, ld, fi⟩, ⟨nB, fr, tt, ln, wi, sg, pu⟩, ⟨nR, rd, rx, ry, wv, fo⟩, ⟨re, dg⟩, ⟨nP, tp, bt, dp⟩⟩, ⟨sp, ac, kp, kc, kn, aw, dw, su, ss, sd⟩⟩ := S
  have hnP : nP ≤ 30 := hnP
  refine gMi (cc := cX6_panel) (maxL := 4) (plainFor_of_name (by decide)) rfl (Nat.le_of_ble_eq_true rfl) ?_
  intro p e s m below meth c Q hx hb hts hown hml hsz hE hret H locs hP hS ls hl
  subst hsz
  have hown : s.vm.findClass RX6 = some m.cls := hown
  have hK : va_K D vwCl (tysX cs) s := hE.1
  have hD : ∀ u, va_D (gA (AX ad) s.heap.size) (WX cs ad u) := fun u => WX_D hd u
  have hl : lv_has ls 4 [(0, .ref (ad 0)), (1, .int (a)), (2, .int (b)), (3, .int (d))] := hl
  have f_49 := hts (.fieldLink RX6 49 "NetShapes" "panels" "LNetShapes$Panels;") (by decide +kernel)
  have f_150 := hts (.fieldLink RX6 150 "NetShapes$Panels" "count" "I") (by decide +kernel)
  refine lv_aload_n hx hb dX6_panel_0 rfl (lv_at hl 0 rfl) ?_
  refine va_get (D := D) (ci := 6) (v := .ref (ad 6)) (C := RX6) (T := TX6) (N := 6) hx hb hts iX6_panel_X6 hown hK hP 0 rfl rfl 5 (by decide) f_49 (fun _ h9 => h9) rfl dX6_panel_1 ?_
  refine va_get (D := D) (ci := 4) (v := .int (nI nP)) (C := RX4) (T := TX4) (N := 9) hx hb hts iX6_panel_X4 hown hK hP 6 rfl rfl 5 (by decide) f_150 (fun _ h9 => h9) rfl dX6_panel_4 ?_
  refine lv_bipush (v := nI 30) hx hb dX6_panel_7 (by decide) ?_
  refine lv_icmp_ge (tgt := 38) hx hb dX6_panel_9 (by decide) (fun c_9_1 => ?_) (fun c_9_1 => ?_)
  · skip
    have c_9_1 : 30 ≤ nP := (nI_leI (a := 30) (b := nP) (by omega) (by omega)).mp c_9_1
    refine lv_iconst (v := (-1 : Int32)) hx hb dX6_panel_38 (by decide) ?_
    exact hret hS hP dX6_panel_39 (Or.inr ⟨fun q => absurd q.1 (by omega), rfl, rfl⟩)
  · skip
    have c_9_1 : ¬ (30 ≤ nP) := fun q => c_9_1 ((nI_leI (a := 30) (b := nP) (by omega) (by omega)).mpr q)
    refine lv_iload_n hx hb dX6_panel_12 rfl (lv_at hl 1 rfl) ?_
    refine g0i (va_runS (As := [.int (a)]) (rest := []) ⟨hx, hb, hml, hown, hts⟩ (kX6_isPanelWidth l D H.size a) (va_cwS 1 hts gX6_panel_X6_isPanelWidth rfl rfl rfl (by decide +kernel) ⟨Nat.le_of_ble_eq_true rfl, Nat.le_of_ble_eq_true rfl⟩) (gPreS (eT_bl) w0_P (fun _ _ _ => trivial)) rfl rfl hl.1 rfl (lv_room (Nat.le_of_ble_eq_true rfl)) dX6_panel_13 ⟨Nat.zero_le _, Nat.zero_le _⟩) hP hS (fun r_ H locs hw hP hS => ?_)
    rcases hw with ⟨rfl, b_2⟩ | ⟨rfl, b_2⟩
    · skip
      have b_2 : inW 400 (a) := b_2
      refine lv_if_eq (tgt := 38) hx hb dX6_panel_16 (by decide) (fun c_16_3 => absurd c_16_3 (by decide)) (fun _ => ?_)
      refine lv_iload_n hx hb dX6_panel_19 rfl (lv_at hl 2 rfl) ?_
      refine g0i (va_runS (As := [.int (b)]) (rest := []) ⟨hx, hb, hml, hown, hts⟩ (kX6_isPanelWidth l D H.size b) (va_cwS 1 hts gX6_panel_X6_isPanelWidth rfl rfl rfl (by decide +kernel) ⟨Nat.le_of_ble_eq_true rfl, Nat.le_of_ble_eq_true rfl⟩) (gPreS (eT_bl) w0_P (fun _ _ _ => trivial)) rfl rfl hl.1 rfl (lv_room (Nat.le_of_ble_eq_true rfl)) dX6_panel_20 ⟨Nat.zero_le _, Nat.zero_le _⟩) hP hS (fun r_ H locs hw hP hS => ?_)
      rcases hw with ⟨rfl, b_4⟩ | ⟨rfl, b_4⟩
      · skip
        have b_4 : inW 400 (b) := b_4
        refine lv_if_eq (tgt := 38) hx hb dX6_panel_23 (by decide) (fun c_23_5 => absurd c_23_5 (by decide)) (fun _ => ?_)
        refine lv_iload_n hx hb dX6_panel_26 rfl (lv_at hl 3 rfl) ?_
        refine lv_iconst (v := nI 1) hx hb dX6_panel_27 (by decide) ?_
        refine lv_icmp_lt (tgt := 38) hx hb dX6_panel_28 (by decide) (fun c_28_6 => ?_) (fun c_28_6 => ?_)
        · skip
          refine lv_iconst (v := (-1 : Int32)) hx hb dX6_panel_38 (by decide) ?_
          exact hret hS hP dX6_panel_39 (Or.inr ⟨fun q => inW_lo (by decide) c_28_6 q.2.2.2, rfl, rfl⟩)
        · skip
          refine lv_iload_n hx hb dX6_panel_31 rfl (lv_at hl 3 rfl) ?_
          refine lv_sipush (v := nI 200) hx hb dX6_panel_32 (by decide) ?_
          refine lv_icmp_le (tgt := 40) hx hb dX6_panel_35 (by decide) (fun c_35_7 => ?_) (fun c_35_7 => ?_)
          · skip
            refine lv_aload_n hx hb dX6_panel_40 rfl (lv_at hl 0 rfl) ?_
            refine va_get (D := D) (ci := 6) (v := .ref (ad 6)) (C := RX6) (T := TX6) (N := 6) hx hb hts iX6_panel_X6 hown hK hP 0 rfl rfl 5 (by decide) f_49 (fun _ h9 => h9) rfl dX6_panel_41 ?_
            refine lv_iload_n hx hb dX6_panel_44 rfl (lv_at hl 1 rfl) ?_
            refine lv_iload_n hx hb dX6_panel_45 rfl (lv_at hl 2 rfl) ?_
            refine lv_iload_n hx hb dX6_panel_46 rfl (lv_at hl 3 rfl) ?_
            refine gci (va_runV (As := [.int (a), .int (b), .int (d)]) (rest := []) ⟨hx, hb, hml, hown, hts⟩ (kX4_add l D cs ad hd H.size (((nN, px, py, pz, fx, fy, fz, lf, ld, fi), (nB, fr, tt, ln, wi, sg, pu), (nR, rd, rx, ry, wv, fo), (re, dg), (nP, tp, bt, dp)), (sp, ac, kp, kc, kn, aw, dw, su, ss, sd)) (show nP < 30 by omega) a b d) (cwV 3 hts gX6_panel_X4_add rfl rfl rfl (by decide +kernel) ⟨Nat.le_of_ble_eq_true rfl, Nat.le_of_ble_eq_true rfl⟩) (gPreV (EX_bl) (va_recv hK hP (ci := 4) (q0 := 6) rfl rfl) hP (fun U _ hW => EX_warm hW hE)) rfl rfl hl.1 rfl (lv_room (Nat.le_of_ble_eq_true rfl)) dX6_panel_47 ⟨Nat.zero_le _, Nat.zero_le _⟩) hS (fun r_ u_ H locs hw hP hS => ?_)
            obtain ⟨rfl, rfl⟩ := hw
            have hP : va_P D vwCl (WX cs ad (((nN, px, py, pz, fx, fy, fz, lf, ld, fi), (nB, fr, tt, ln, wi, sg, pu), (nR, rd, rx, ry, wv, fo), (re, dg), ((nP + 1), (upd tp nP a), (upd bt nP b), (upd dp nP d))), (sp, ac, kp, kc, kn, ((upd aw nP (shB (wideF (upd tp nP a) (upd bt nP b) nP) (su, ss, sd)).1)), ((upd dw nP (shB (wideF (upd tp nP a) (upd bt nP b) nP) (su, ss, sd)).2)), ((shStep (wideF (upd tp nP a) (upd bt nP b) nP) ((upd dp nP d) nP) (su, ss, sd)).1), ((shStep (wideF (upd tp nP a) (upd bt nP b) nP) ((upd dp nP d) nP) (su, ss, sd)).2.1), ((shStep (wideF (upd tp nP a) (upd bt nP b) nP) ((upd dp nP d) nP) (su, ss, sd)).2.2)))) H := hP
            exact hret hS hP dX6_panel_50 (Or.inl ⟨⟨by omega, b_2, b_4, inW_le (by decide) c_28_6 c_35_7⟩, rfl, rfl⟩)
          · skip
            refine lv_iconst (v := (-1 : Int32)) hx hb dX6_panel_38 (by decide) ?_
            exact hret hS hP dX6_panel_39 (Or.inr ⟨fun q => inW_nle (by decide) c_35_7 q.2.2.2, rfl, rfl⟩)
      · skip
        have b_4 : ¬ (inW 400 (b)) := b_4
        refine lv_if_eq (tgt := 38) hx hb dX6_panel_23 (by decide) (fun _ => ?_) (fun c_23_8 => absurd c_23_8 (by decide))
        refine lv_iconst (v := (-1 : Int32)) hx hb dX6_panel_38 (by decide) ?_
        exact hret hS hP dX6_panel_39 (Or.inr ⟨fun q => absurd q.2.2.1 b_4, rfl, rfl⟩)
    · skip
      have b_2 : ¬ (inW 400 (a)) := b_2
      refine lv_if_eq (tgt := 38) hx hb dX6_panel_16 (by decide) (fun _ => ?_) (fun c_16_9 => absurd c_16_9 (by decide))
      refine lv_iconst (v := (-1 : Int32)) hx hb dX6_panel_38 (by decide) ?_
      exact hret hS hP dX6_panel_39 (Or.inr ⟨fun q => absurd q.2.1 b_2, rfl, rfl⟩)
theorem iX7_panel_X7 : ∀ w ∈ u_ws RX7 TX7 31, w ∈ wsX7_panel := by decide +kernel
set_option maxHeartbeats 4000000 in
set_option maxRecDepth 100000 in
theorem kX7_panel (l : Launch) (D : va_G) (cs : Nat → ClassId) (ad : Nat → Nat) (hd : distM ad) (sz : Nat) (S : MS) (hnP : S.1.2.2.2.2.1 ≤ 30) (a b d : Int32) : Met l yX7_panel wsX7_panel ({ frames := 0, cells := 0, slots := 0, locals := 0 } : Room) (gP D (WM cs ad) (EM D cs) S sz ([.ref (ad 0), .int (a), .int (b), .int (d)] : List Value)) (va_Qi (fun r u => q_panel S.1 a b d r u.1 ∧ u.2 = S.2) (gB D (WM cs ad)) (gA (AM ad) sz)) 0 0 (gA (AM ad) sz) := by
  obtain ⟨⟨⟨nN, px, py, pz, fx, fy, fz, lf, ld, fi⟩, ⟨nB, fr, tt, ln, wi, sg, pu⟩, ⟨nR, rd, rx, ry, wv, fo⟩, ⟨re, dg⟩, ⟨nP, tp, bt, dp⟩⟩, ⟨nQ, fu⟩⟩ := S
  have hnP : nP ≤ 30 := hnP
  refine gMi (cc := cX7_panel) (maxL := 4) (plainFor_of_name (by decide)) rfl (Nat.le_of_ble_eq_true rfl) ?_
  intro p e s m below meth c Q hx hb hts hown hml hsz hE hret H locs hP hS ls hl
  subst hsz
  have hown : s.vm.findClass RX7 = some m.cls := hown
  have hK : va_K D vwCl (tysX cs) s := hE.1
  have hD : ∀ u, va_D (gA (AM ad) s.heap.size) (WM cs ad u) := fun u => WM_D hd u
  have hl : lv_has ls 4 [(0, .ref (ad 0)), (1, .int (a)), (2, .int (b)), (3, .int (d))] := hl
  have f_78 := hts (.fieldLink RX7 78 "NetShapesModel" "tops" "[I") (by decide +kernel)
  have f_81 := hts (.fieldLink RX7 81 "NetShapesModel" "bottoms" "[I") (by decide +kernel)
  have f_84 := hts (.fieldLink RX7 84 "NetShapesModel" "deeps" "[I") (by decide +kernel)
  have f_190 := hts (.fieldLink RX7 190 "NetShapesModel" "panels" "I") (by decide +kernel)
  refine lv_aload_n hx hb dX7_panel_0 rfl (lv_at hl 0 rfl) ?_
  refine va_get (D := D) (ci := 7) (v := .int (nI nP)) (C := RX7) (T := TX7) (N := 31) hx hb hts iX7_panel_X7 hown hK hP 0 rfl rfl 27 (by decide) f_190 (fun _ h9 => h9) rfl dX7_panel_1 ?_
  refine lv_bipush (v := nI 30) hx hb dX7_panel_4 (by decide) ?_
  refine lv_icmp_eq (tgt := 45) hx hb dX7_panel_6 (by decide) (fun c_6_1 => ?_) (fun c_6_1 => ?_)
  · skip
    have c_6_1 : nP = 30 := (nI_eq (a := nP) (b := 30) (by omega) (by omega)).mp c_6_1
    refine lv_iconst (v := (-1 : Int32)) hx hb dX7_panel_45 (by decide) ?_
    exact hret hS hP dX7_panel_46 (⟨Or.inr ⟨fun q => absurd q.1 (by omega), rfl, rfl⟩, rfl⟩)
  · skip
    have c_6_1 : ¬ (nP = 30) := fun q => c_6_1 ((nI_eq (a := nP) (b := 30) (by omega) (by omega)).mpr q)
    refine lv_iload_n hx hb dX7_panel_9 rfl (lv_at hl 1 rfl) ?_
    refine lv_iconst (v := nI 1) hx hb dX7_panel_10 (by decide) ?_
    refine lv_icmp_lt (tgt := 45) hx hb dX7_panel_11 (by decide) (fun c_11_2 => ?_) (fun c_11_2 => ?_)
    · skip
      refine lv_iconst (v := (-1 : Int32)) hx hb dX7_panel_45 (by decide) ?_
      exact hret hS hP dX7_panel_46 (⟨Or.inr ⟨fun q => inW_lo (by decide) c_11_2 q.2.1, rfl, rfl⟩, rfl⟩)
    · skip
      refine lv_iload_n hx hb dX7_panel_14 rfl (lv_at hl 1 rfl) ?_
      refine lv_sipush (v := nI 400) hx hb dX7_panel_15 (by decide) ?_
      refine lv_icmp_gt (tgt := 45) hx hb dX7_panel_18 (by decide) (fun c_18_3 => ?_) (fun c_18_3 => ?_)
      · skip
        refine lv_iconst (v := (-1 : Int32)) hx hb dX7_panel_45 (by decide) ?_
        exact hret hS hP dX7_panel_46 (⟨Or.inr ⟨fun q => inW_hi (by decide) c_18_3 q.2.1, rfl, rfl⟩, rfl⟩)
      · skip
        refine lv_iload_n hx hb dX7_panel_21 rfl (lv_at hl 2 rfl) ?_
        refine lv_iconst (v := nI 1) hx hb dX7_panel_22 (by decide) ?_
        refine lv_icmp_lt (tgt := 45) hx hb dX7_panel_23 (by decide) (fun c_23_4 => ?_) (fun c_23_4 => ?_)
        · skip
          refine lv_iconst (v := (-1 : Int32)) hx hb dX7_panel_45 (by decide) ?_
          exact hret hS hP dX7_panel_46 (⟨Or.inr ⟨fun q => inW_lo (by decide) c_23_4 q.2.2.1, rfl, rfl⟩, rfl⟩)
        · skip
          refine lv_iload_n hx hb dX7_panel_26 rfl (lv_at hl 2 rfl) ?_
          refine lv_sipush (v := nI 400) hx hb dX7_panel_27 (by decide) ?_
          refine lv_icmp_gt (tgt := 45) hx hb dX7_panel_30 (by decide) (fun c_30_5 => ?_) (fun c_30_5 => ?_)
          · skip
            refine lv_iconst (v := (-1 : Int32)) hx hb dX7_panel_45 (by decide) ?_
            exact hret hS hP dX7_panel_46 (⟨Or.inr ⟨fun q => inW_hi (by decide) c_30_5 q.2.2.1, rfl, rfl⟩, rfl⟩)
          · skip
            refine lv_iload_n hx hb dX7_panel_33 rfl (lv_at hl 3 rfl) ?_
            refine lv_iconst (v := nI 1) hx hb dX7_panel_34 (by decide) ?_
            refine lv_icmp_lt (tgt := 45) hx hb dX7_panel_35 (by decide) (fun c_35_6 => ?_) (fun c_35_6 => ?_)
            · skip
              refine lv_iconst (v := (-1 : Int32)) hx hb dX7_panel_45 (by decide) ?_
              exact hret hS hP dX7_panel_46 (⟨Or.inr ⟨fun q => inW_lo (by decide) c_35_6 q.2.2.2, rfl, rfl⟩, rfl⟩)
            · skip
              refine lv_iload_n hx hb dX7_panel_38 rfl (lv_at hl 3 rfl) ?_
              refine lv_sipush (v := nI 200) hx hb dX7_panel_39 (by decide) ?_
              refine lv_icmp_le (tgt := 47) hx hb dX7_panel_42 (by decide) (fun c_42_7 => ?_) (fun c_42_7 => ?_)
              · skip
                refine lv_aload_n hx hb dX7_panel_47 rfl (lv_at hl 0 rfl) ?_
                refine va_get (D := D) (ci := 7) (v := .ref (ad 21)) (C := RX7) (T := TX7) (N := 31) hx hb hts iX7_panel_X7 hown hK hP 0 rfl rfl 28 (by decide) f_78 (fun _ h9 => h9) rfl dX7_panel_48 ?_
                refine lv_aload_n hx hb dX7_panel_51 rfl (lv_at hl 0 rfl) ?_
                refine va_get (D := D) (ci := 7) (v := .int (nI nP)) (C := RX7) (T := TX7) (N := 31) hx hb hts iX7_panel_X7 hown hK hP 0 rfl rfl 27 (by decide) f_190 (fun _ h9 => h9) rfl dX7_panel_52 ?_
                refine lv_iload_n hx hb dX7_panel_55 rfl (lv_at hl 1 rfl) ?_
                refine xis hx hb hK hD hP hS 21 1 (((nN, px, py, pz, fx, fy, fz, lf, ld, fi), (nB, fr, tt, ln, wi, sg, pu), (nR, rd, rx, ry, wv, fo), (re, dg), (nP, (upd tp nP a), bt, dp)), (nQ, fu)) rfl rfl (j := nP) (by decide) (by omega) rfl dX7_panel_56 (fun H locs hP hS => ?_)
                refine lv_aload_n hx hb dX7_panel_57 rfl (lv_at hl 0 rfl) ?_
                refine va_get (D := D) (ci := 7) (v := .ref (ad 22)) (C := RX7) (T := TX7) (N := 31) hx hb hts iX7_panel_X7 hown hK hP 0 rfl rfl 29 (by decide) f_81 (fun _ h9 => h9) rfl dX7_panel_58 ?_
                refine lv_aload_n hx hb dX7_panel_61 rfl (lv_at hl 0 rfl) ?_
                refine va_get (D := D) (ci := 7) (v := .int (nI nP)) (C := RX7) (T := TX7) (N := 31) hx hb hts iX7_panel_X7 hown hK hP 0 rfl rfl 27 (by decide) f_190 (fun _ h9 => h9) rfl dX7_panel_62 ?_
                refine lv_iload_n hx hb dX7_panel_65 rfl (lv_at hl 2 rfl) ?_
                refine xis hx hb hK hD hP hS 22 1 (((nN, px, py, pz, fx, fy, fz, lf, ld, fi), (nB, fr, tt, ln, wi, sg, pu), (nR, rd, rx, ry, wv, fo), (re, dg), (nP, (upd tp nP a), (upd bt nP b), dp)), (nQ, fu)) rfl rfl (j := nP) (by decide) (by omega) rfl dX7_panel_66 (fun H locs hP hS => ?_)
                refine lv_aload_n hx hb dX7_panel_67 rfl (lv_at hl 0 rfl) ?_
                refine va_get (D := D) (ci := 7) (v := .ref (ad 23)) (C := RX7) (T := TX7) (N := 31) hx hb hts iX7_panel_X7 hown hK hP 0 rfl rfl 30 (by decide) f_84 (fun _ h9 => h9) rfl dX7_panel_68 ?_
                refine lv_aload_n hx hb dX7_panel_71 rfl (lv_at hl 0 rfl) ?_
                refine va_get (D := D) (ci := 7) (v := .int (nI nP)) (C := RX7) (T := TX7) (N := 31) hx hb hts iX7_panel_X7 hown hK hP 0 rfl rfl 27 (by decide) f_190 (fun _ h9 => h9) rfl dX7_panel_72 ?_
                refine lv_iload_n hx hb dX7_panel_75 rfl (lv_at hl 3 rfl) ?_
                refine xis hx hb hK hD hP hS 23 1 (((nN, px, py, pz, fx, fy, fz, lf, ld, fi), (nB, fr, tt, ln, wi, sg, pu), (nR, rd, rx, ry, wv, fo), (re, dg), (nP, (upd tp nP a), (upd bt nP b), (upd dp nP d))), (nQ, fu)) rfl rfl (j := nP) (by decide) (by omega) rfl dX7_panel_76 (fun H locs hP hS => ?_)
                refine lv_aload_n hx hb dX7_panel_77 rfl (lv_at hl 0 rfl) ?_
                refine lv_dup hx hb dX7_panel_78 rfl ?_
                refine va_get (D := D) (ci := 7) (v := .int (nI nP)) (C := RX7) (T := TX7) (N := 31) hx hb hts iX7_panel_X7 hown hK hP 0 rfl rfl 27 (by decide) f_190 (fun _ h9 => h9) rfl dX7_panel_79 ?_
                refine lv_iconst (v := nI 1) hx hb dX7_panel_82 (by decide) ?_
                refine xia hx hb (nP + 1) dX7_panel_83 rfl ?_
                refine xput (D := D) (ci := 7) (v := .int (nI (nP + 1))) (ty := .int) (C := RX7) (T := TX7) (N := 31) hx hb hts iX7_panel_X7 tyX7 tyX7_ok nmX7 hown hK hD hP hS 0 (((nN, px, py, pz, fx, fy, fz, lf, ld, fi), (nB, fr, tt, ln, wi, sg, pu), (nR, rd, rx, ry, wv, fo), (re, dg), ((nP + 1), (upd tp nP a), (upd bt nP b), (upd dp nP d))), (nQ, fu)) rfl rfl 27 (by decide) f_190 (fun _ h9 => h9) rfl (by decide +kernel) rfl rfl (Nat.le_of_ble_eq_true rfl) rfl dX7_panel_84 (fun H locs hP hS => ?_)
                refine lv_aload_n hx hb dX7_panel_87 rfl (lv_at hl 0 rfl) ?_
                refine va_get (D := D) (ci := 7) (v := .int (nI ((nP + 1)))) (C := RX7) (T := TX7) (N := 31) hx hb hts iX7_panel_X7 hown hK hP 0 rfl rfl 27 (by decide) f_190 (fun _ h9 => h9) rfl dX7_panel_88 ?_
                refine lv_iconst (v := nI 1) hx hb dX7_panel_91 (by decide) ?_
                refine xib hx hb (nP) dX7_panel_92 (rfl) ?_
                exact hret hS hP dX7_panel_93 (⟨Or.inl ⟨⟨by omega, inW_of (by decide) c_11_2 c_18_3, inW_of (by decide) c_23_4 c_30_5, inW_le (by decide) c_35_6 c_42_7⟩, rfl, rfl⟩, rfl⟩)
              · skip
                refine lv_iconst (v := (-1 : Int32)) hx hb dX7_panel_45 (by decide) ?_
                exact hret hS hP dX7_panel_46 (⟨Or.inr ⟨fun q => inW_nle (by decide) c_42_7 q.2.2.2, rfl, rfl⟩, rfl⟩)
theorem iX4_meshesAfter_X4 : ∀ w ∈ u_ws RX4 TX4 9, w ∈ wsX4_meshesAfter := by decide +kernel
set_option maxHeartbeats 4000000 in
set_option maxRecDepth 100000 in
theorem kX4_meshesAfter (l : Launch) (D : va_G) (cs : Nat → ClassId) (ad : Nat → Nat) (hd : distX ad) (sz : Nat) (S : XS) (j : Nat) (hj : j < 30) (k : Int32) (hz : ¬ S.1.2.2.2.2.2.2.2 j = 0) : Met l yX4_meshesAfter wsX4_meshesAfter ({ frames := 0, cells := 0, slots := 0, locals := 0 } : Room) (gP D (WX cs ad) (EX D cs) S sz ([.ref (ad 6), .int (nI j), .int (k)] : List Value)) (va_Qi (fun r u => match S with | (((nN, px, py, pz, fx, fy, fz, lf, ld, fi), (nB, fr, tt, ln, wi, sg, pu), (nR, rd, rx, ry, wv, fo), (re, dg), (nP, tp, bt, dp)), (sp, ac, kp, kc, kn, aw, dw, su, ss, sd)) => u = (((nN, px, py, pz, fx, fy, fz, lf, ld, fi), (nB, fr, tt, ln, wi, sg, pu), (nR, rd, rx, ry, wv, fo), (re, dg), (nP, tp, bt, dp)), (sp, ac, kp, kc, kn, aw, dw, su, ss, sd)) ∧ r = mesh tp bt dp j k) (gB D (WX cs ad)) (gA (AX ad) sz)) 0 0 (gA (AX ad) sz) := by
  obtain ⟨⟨⟨nN, px, py, pz, fx, fy, fz, lf, ld, fi⟩, ⟨nB, fr, tt, ln, wi, sg, pu⟩, ⟨nR, rd, rx, ry, wv, fo⟩, ⟨re, dg⟩, ⟨nP, tp, bt, dp⟩⟩, ⟨sp, ac, kp, kc, kn, aw, dw, su, ss, sd⟩⟩ := S
  have hz : ¬ dp j = 0 := hz
  refine gMi (cc := cX4_meshesAfter) (maxL := 4) (plainFor_of_name (by decide)) rfl (Nat.le_of_ble_eq_true rfl) ?_
  intro p e s m below meth c Q hx hb hts hown hml hsz hE hret H locs hP hS ls hl
  subst hsz
  have hown : s.vm.findClass RX4 = some m.cls := hown
  have hK : va_K D vwCl (tysX cs) s := hE.1
  have hD : ∀ u, va_D (gA (AX ad) s.heap.size) (WX cs ad u) := fun u => WX_D hd u
  have hl : lv_has ls 4 [(0, .ref (ad 6)), (1, .int (nI j)), (2, .int (k))] := hl
  have f_9 := hts (.fieldLink RX4 9 "NetShapes$Panels" "top" "[I") (by decide +kernel)
  have f_15 := hts (.fieldLink RX4 15 "NetShapes$Panels" "bottom" "[I") (by decide +kernel)
  have f_18 := hts (.fieldLink RX4 18 "NetShapes$Panels" "deep" "[I") (by decide +kernel)
  refine lv_aload_n hx hb dX4_meshesAfter_0 rfl (lv_at hl 0 rfl) ?_
  refine va_get (D := D) (ci := 4) (v := .ref (ad 26)) (C := RX4) (T := TX4) (N := 9) hx hb hts iX4_meshesAfter_X4 hown hK hP 6 rfl rfl 1 (by decide) f_15 (fun _ h9 => h9) rfl dX4_meshesAfter_1 ?_
  refine lv_iload_n hx hb dX4_meshesAfter_4 rfl (lv_at hl 1 rfl) ?_
  refine xil hx hb hK hP 26 1 rfl rfl (j := j) (by decide) (by omega) dX4_meshesAfter_5 ?_
  refine lv_aload_n hx hb dX4_meshesAfter_6 rfl (lv_at hl 0 rfl) ?_
  refine va_get (D := D) (ci := 4) (v := .ref (ad 25)) (C := RX4) (T := TX4) (N := 9) hx hb hts iX4_meshesAfter_X4 hown hK hP 6 rfl rfl 0 (by decide) f_9 (fun _ h9 => h9) rfl dX4_meshesAfter_7 ?_
  refine lv_iload_n hx hb dX4_meshesAfter_10 rfl (lv_at hl 1 rfl) ?_
  refine xil hx hb hK hP 25 1 rfl rfl (j := j) (by decide) (by omega) dX4_meshesAfter_11 ?_
  refine lv_isub hx hb dX4_meshesAfter_12 ?_
  refine lv_istore_n (lv' := [(3, .int ((bt j) - (tp j))), (0, .ref (ad 6)), (1, .int (nI j)), (2, .int (k))]) hx hb dX4_meshesAfter_13 rfl hl (by decide) rfl (fun ls hl => ?_)
  refine lv_aload_n hx hb dX4_meshesAfter_14 rfl (lv_at hl 1 rfl) ?_
  refine va_get (D := D) (ci := 4) (v := .ref (ad 25)) (C := RX4) (T := TX4) (N := 9) hx hb hts iX4_meshesAfter_X4 hown hK hP 6 rfl rfl 0 (by decide) f_9 (fun _ h9 => h9) rfl dX4_meshesAfter_15 ?_
  refine lv_iload_n hx hb dX4_meshesAfter_18 rfl (lv_at hl 2 rfl) ?_
  refine xil hx hb hK hP 25 1 rfl rfl (j := j) (by decide) (by omega) dX4_meshesAfter_19 ?_
  refine lv_iload_n hx hb dX4_meshesAfter_20 rfl (lv_at hl 0 rfl) ?_
  refine lv_iload_n hx hb dX4_meshesAfter_21 rfl (lv_at hl 3 rfl) ?_
  refine lv_imul hx hb dX4_meshesAfter_22 ?_
  refine lv_aload_n hx hb dX4_meshesAfter_23 rfl (lv_at hl 1 rfl) ?_
  refine va_get (D := D) (ci := 4) (v := .ref (ad 27)) (C := RX4) (T := TX4) (N := 9) hx hb hts iX4_meshesAfter_X4 hown hK hP 6 rfl rfl 2 (by decide) f_18 (fun _ h9 => h9) rfl dX4_meshesAfter_24 ?_
  refine lv_iload_n hx hb dX4_meshesAfter_27 rfl (lv_at hl 2 rfl) ?_
  refine xil hx hb hK hP 27 1 rfl rfl (j := j) (by decide) (by omega) dX4_meshesAfter_28 ?_
  refine lv_idiv hx hb dX4_meshesAfter_29 hz ?_
  refine lv_iadd hx hb dX4_meshesAfter_30 ?_
  exact hret hS hP dX4_meshesAfter_31 (⟨rfl, rfl⟩)
theorem iX7_meshes_X7 : ∀ w ∈ u_ws RX7 TX7 31, w ∈ wsX7_meshes := by decide +kernel
set_option maxHeartbeats 4000000 in
set_option maxRecDepth 100000 in
theorem kX7_meshes (l : Launch) (D : va_G) (cs : Nat → ClassId) (ad : Nat → Nat) (hd : distM ad) (sz : Nat) (S : MS) (j : Nat) (hj : j < 30) (k : Int32) (hz : ¬ S.1.2.2.2.2.2.2.2 j = 0) : Met l yX7_meshes wsX7_meshes ({ frames := 0, cells := 0, slots := 0, locals := 0 } : Room) (gP D (WM cs ad) (EM D cs) S sz ([.ref (ad 0), .int (nI j), .int (k)] : List Value)) (va_Qi (fun r u => match S with | (((nN, px, py, pz, fx, fy, fz, lf, ld, fi), (nB, fr, tt, ln, wi, sg, pu), (nR, rd, rx, ry, wv, fo), (re, dg), (nP, tp, bt, dp)), (nQ, fu)) => u = (((nN, px, py, pz, fx, fy, fz, lf, ld, fi), (nB, fr, tt, ln, wi, sg, pu), (nR, rd, rx, ry, wv, fo), (re, dg), (nP, tp, bt, dp)), (nQ, fu)) ∧ r = mesh tp bt dp j (k + nI 1)) (gB D (WM cs ad)) (gA (AM ad) sz)) 0 0 (gA (AM ad) sz) := by
  obtain ⟨⟨⟨nN, px, py, pz, fx, fy, fz, lf, ld, fi⟩, ⟨nB, fr, tt, ln, wi, sg, pu⟩, ⟨nR, rd, rx, ry, wv, fo⟩, ⟨re, dg⟩, ⟨nP, tp, bt, dp⟩⟩, ⟨nQ, fu⟩⟩ := S
  have hz : ¬ dp j = 0 := hz
  refine gMi (cc := cX7_meshes) (maxL := 3) (plainFor_of_name (by decide)) rfl (Nat.le_of_ble_eq_true rfl) ?_
  intro p e s m below meth c Q hx hb hts hown hml hsz hE hret H locs hP hS ls hl
  subst hsz
  have hown : s.vm.findClass RX7 = some m.cls := hown
  have hK : va_K D vwCl (tysX cs) s := hE.1
  have hD : ∀ u, va_D (gA (AM ad) s.heap.size) (WM cs ad u) := fun u => WM_D hd u
  have hl : lv_has ls 3 [(0, .ref (ad 0)), (1, .int (nI j)), (2, .int (k))] := hl
  have f_78 := hts (.fieldLink RX7 78 "NetShapesModel" "tops" "[I") (by decide +kernel)
  have f_81 := hts (.fieldLink RX7 81 "NetShapesModel" "bottoms" "[I") (by decide +kernel)
  have f_84 := hts (.fieldLink RX7 84 "NetShapesModel" "deeps" "[I") (by decide +kernel)
  refine lv_aload_n hx hb dX7_meshes_0 rfl (lv_at hl 0 rfl) ?_
  refine va_get (D := D) (ci := 7) (v := .ref (ad 21)) (C := RX7) (T := TX7) (N := 31) hx hb hts iX7_meshes_X7 hown hK hP 0 rfl rfl 28 (by decide) f_78 (fun _ h9 => h9) rfl dX7_meshes_1 ?_
  refine lv_iload_n hx hb dX7_meshes_4 rfl (lv_at hl 1 rfl) ?_
  refine xil hx hb hK hP 21 1 rfl rfl (j := j) (by decide) (by omega) dX7_meshes_5 ?_
  refine lv_aload_n hx hb dX7_meshes_6 rfl (lv_at hl 0 rfl) ?_
  refine va_get (D := D) (ci := 7) (v := .ref (ad 22)) (C := RX7) (T := TX7) (N := 31) hx hb hts iX7_meshes_X7 hown hK hP 0 rfl rfl 29 (by decide) f_81 (fun _ h9 => h9) rfl dX7_meshes_7 ?_
  refine lv_iload_n hx hb dX7_meshes_10 rfl (lv_at hl 1 rfl) ?_
  refine xil hx hb hK hP 22 1 rfl rfl (j := j) (by decide) (by omega) dX7_meshes_11 ?_
  refine lv_aload_n hx hb dX7_meshes_12 rfl (lv_at hl 0 rfl) ?_
  refine va_get (D := D) (ci := 7) (v := .ref (ad 21)) (C := RX7) (T := TX7) (N := 31) hx hb hts iX7_meshes_X7 hown hK hP 0 rfl rfl 28 (by decide) f_78 (fun _ h9 => h9) rfl dX7_meshes_13 ?_
  refine lv_iload_n hx hb dX7_meshes_16 rfl (lv_at hl 1 rfl) ?_
  refine xil hx hb hK hP 21 1 rfl rfl (j := j) (by decide) (by omega) dX7_meshes_17 ?_
  refine lv_isub hx hb dX7_meshes_18 ?_
  refine lv_iload_n hx hb dX7_meshes_19 rfl (lv_at hl 2 rfl) ?_
  refine lv_iconst (v := nI 1) hx hb dX7_meshes_20 (by decide) ?_
  refine lv_iadd hx hb dX7_meshes_21 ?_
  refine lv_imul hx hb dX7_meshes_22 ?_
  refine lv_aload_n hx hb dX7_meshes_23 rfl (lv_at hl 0 rfl) ?_
  refine va_get (D := D) (ci := 7) (v := .ref (ad 23)) (C := RX7) (T := TX7) (N := 31) hx hb hts iX7_meshes_X7 hown hK hP 0 rfl rfl 30 (by decide) f_84 (fun _ h9 => h9) rfl dX7_meshes_24 ?_
  refine lv_iload_n hx hb dX7_meshes_27 rfl (lv_at hl 1 rfl) ?_
  refine xil hx hb hK hP 23 1 rfl rfl (j := j) (by decide) (by omega) dX7_meshes_28 ?_
  refine lv_idiv hx hb dX7_meshes_29 hz ?_
  refine lv_iadd hx hb dX7_meshes_30 ?_
  exact hret hS hP dX7_meshes_31 (⟨rfl, rfl⟩)
theorem iX6_cut_X4 : ∀ w ∈ u_ws RX4 TX4 9, w ∈ wsX6_cut := by decide +kernel
theorem iX6_cut_X6 : ∀ w ∈ u_ws RX6 TX6 6, w ∈ wsX6_cut := by decide +kernel
set_option maxHeartbeats 4000000 in
set_option maxRecDepth 100000 in
theorem kX6_cut (l : Launch) (D : va_G) (cs : Nat → ClassId) (ad : Nat → Nat) (hd : distX ad) (sz : Nat) (S : XS) (hnP : S.1.2.2.2.2.1 ≤ 30)(hdp : ∀ j, j < S.1.2.2.2.2.1 → ¬ S.1.2.2.2.2.2.2.2 j = 0) (x k w : Int32) : Met l yX6_cut wsX6_cut ({ frames := 1, cells := 0, slots := 0, locals := 23 } : Room) (gP D (WX cs ad) (EX D cs) S sz ([.ref (ad 0), .int (x), .int (k), .int (w)] : List Value)) (va_Qi (fun r u => q_cut S.1 x k w r ∧ u = S) (gB D (WX cs ad)) (gA (AX ad) sz)) 0 0 (gA (AX ad) sz) := by
  obtain ⟨⟨⟨nN, px, py, pz, fx, fy, fz, lf, ld, fi⟩, ⟨nB, fr, tt, ln, wi, sg, pu⟩, ⟨nR, rd, rx, ry, wv, fo⟩, ⟨re, dg⟩, ⟨nP, tp, bt, dp⟩⟩, ⟨sp, ac, kp, kc, kn, aw, dw, su, ss, sd⟩⟩ := S
  have hnP : nP ≤ 30 := hnP
  have hdp : ∀ j, j < nP → ¬ dp j = 0 := hdp
  refine gMi (cc := cX6_cut) (maxL := 4) (plainFor_of_name (by decide)) rfl (Nat.le_of_ble_eq_true rfl) ?_
  intro p e s m below meth c Q hx hb hts hown hml hsz hE hret H locs hP hS ls hl
  subst hsz
  have hown : s.vm.findClass RX6 = some m.cls := hown
  have hK : va_K D vwCl (tysX cs) s := hE.1
  have hD : ∀ u, va_D (gA (AX ad) s.heap.size) (WX cs ad u) := fun u => WX_D hd u
  have hl : lv_has ls 4 [(0, .ref (ad 0)), (1, .int (x)), (2, .int (k)), (3, .int (w))] := hl
  have f_49 := hts (.fieldLink RX6 49 "NetShapes" "panels" "LNetShapes$Panels;") (by decide +kernel)
  have f_158 := hts (.fieldLink RX6 158 "NetShapes$Panels" "deep" "[I") (by decide +kernel)
  refine lv_aload_n hx hb dX6_cut_0 rfl (lv_at hl 0 rfl) ?_
  refine va_get (D := D) (ci := 6) (v := .ref (ad 6)) (C := RX6) (T := TX6) (N := 6) hx hb hts iX6_cut_X6 hown hK hP 0 rfl rfl 5 (by decide) f_49 (fun _ h9 => h9) rfl dX6_cut_1 ?_
  refine lv_iload_n hx hb dX6_cut_4 rfl (lv_at hl 1 rfl) ?_
  refine gci (va_runV (As := [.int (x)]) (rest := []) ⟨hx, hb, hml, hown, hts⟩ (kX4_has l D cs ad hd H.size (((nN, px, py, pz, fx, fy, fz, lf, ld, fi), (nB, fr, tt, ln, wi, sg, pu), (nR, rd, rx, ry, wv, fo), (re, dg), (nP, tp, bt, dp)), (sp, ac, kp, kc, kn, aw, dw, su, ss, sd)) hnP x) (cwV 1 hts gX6_cut_X4_has rfl rfl rfl (by decide +kernel) ⟨Nat.le_of_ble_eq_true rfl, Nat.le_of_ble_eq_true rfl⟩) (gPreV (EX_bl) (va_recv hK hP (ci := 4) (q0 := 6) rfl rfl) hP (fun U _ hW => EX_warm hW hE)) rfl rfl hl.1 rfl (lv_room (Nat.le_of_ble_eq_true rfl)) dX6_cut_5 ⟨Nat.zero_le _, Nat.zero_le _⟩) hS (fun r_ u_ H locs hw hP hS => ?_)
  obtain ⟨rfl, hw⟩ := hw
  rcases hw with ⟨rfl, b_1⟩ | ⟨rfl, b_1⟩
  · skip
    have b_1 : inN (nP) (x) := b_1
    obtain ⟨j, hj, rfl⟩ := b_1
    refine lv_if_eq (tgt := 28) hx hb dX6_cut_8 (by decide) (fun c_8_2 => absurd c_8_2 (by decide)) (fun _ => ?_)
    refine lv_iload_n hx hb dX6_cut_11 rfl (lv_at hl 2 rfl) ?_
    refine lv_if_lt (tgt := 28) hx hb dX6_cut_12 (by decide) (fun c_12_3 => ?_) (fun c_12_3 => ?_)
    · skip
      refine lv_iconst (v := (-1 : Int32)) hx hb dX6_cut_28 (by decide) ?_
      exact hret hS hP dX6_cut_29 (⟨Or.inr ⟨fun ⟨i, hi, ei, q1, q2, q3⟩ => q1 c_12_3, rfl⟩, rfl⟩)
    · skip
      refine lv_iload_n hx hb dX6_cut_15 rfl (lv_at hl 2 rfl) ?_
      refine lv_aload_n hx hb dX6_cut_16 rfl (lv_at hl 0 rfl) ?_
      refine va_get (D := D) (ci := 6) (v := .ref (ad 6)) (C := RX6) (T := TX6) (N := 6) hx hb hts iX6_cut_X6 hown hK hP 0 rfl rfl 5 (by decide) f_49 (fun _ h9 => h9) rfl dX6_cut_17 ?_
      refine va_get (D := D) (ci := 4) (v := .ref (ad 27)) (C := RX4) (T := TX4) (N := 9) hx hb hts iX6_cut_X4 hown hK hP 6 rfl rfl 2 (by decide) f_158 (fun _ h9 => h9) rfl dX6_cut_20 ?_
      refine lv_iload_n hx hb dX6_cut_23 rfl (lv_at hl 1 rfl) ?_
      refine xil hx hb hK hP 27 1 rfl rfl (j := j) (by decide) (by omega) dX6_cut_24 ?_
      refine lv_icmp_lt (tgt := 30) hx hb dX6_cut_25 (by decide) (fun c_25_4 => ?_) (fun c_25_4 => ?_)
      · skip
        refine lv_iload_n hx hb dX6_cut_30 rfl (lv_at hl 3 rfl) ?_
        refine xsw (t0 := 56) (t1 := 68) (td := 90) hx hb dX6_cut_31 (by decide) (by decide) (by decide) (fun w0 => ?_) (fun w1 => ?_) (fun n0 n1 => ?_)
        · skip
          refine lv_aload_n hx hb dX6_cut_56 rfl (lv_at hl 0 rfl) ?_
          refine va_get (D := D) (ci := 6) (v := .ref (ad 6)) (C := RX6) (T := TX6) (N := 6) hx hb hts iX6_cut_X6 hown hK hP 0 rfl rfl 5 (by decide) f_49 (fun _ h9 => h9) rfl dX6_cut_57 ?_
          refine lv_iload_n hx hb dX6_cut_60 rfl (lv_at hl 1 rfl) ?_
          refine lv_iload_n hx hb dX6_cut_61 rfl (lv_at hl 2 rfl) ?_
          refine lv_iconst (v := nI 1) hx hb dX6_cut_62 (by decide) ?_
          refine lv_iadd hx hb dX6_cut_63 ?_
          refine gci (va_runV (As := [.int (nI j), .int (k + (nI 1))]) (rest := []) ⟨hx, hb, hml, hown, hts⟩ (kX4_meshesAfter l D cs ad hd H.size (((nN, px, py, pz, fx, fy, fz, lf, ld, fi), (nB, fr, tt, ln, wi, sg, pu), (nR, rd, rx, ry, wv, fo), (re, dg), (nP, tp, bt, dp)), (sp, ac, kp, kc, kn, aw, dw, su, ss, sd)) j (by omega) (k + (nI 1)) (hdp j hj)) (cwV 2 hts gX6_cut_X4_meshesAfter rfl rfl rfl (by decide +kernel) ⟨Nat.le_of_ble_eq_true rfl, Nat.le_of_ble_eq_true rfl⟩) (gPreV (EX_bl) (va_recv hK hP (ci := 4) (q0 := 6) rfl rfl) hP (fun U _ hW => EX_warm hW hE)) rfl rfl hl.1 rfl (lv_room (Nat.le_of_ble_eq_true rfl)) dX6_cut_64 ⟨Nat.zero_le _, Nat.zero_le _⟩) hS (fun r_ u_ H locs hw hP hS => ?_)
          obtain ⟨rfl, hw⟩ := hw
          obtain ⟨v_5, ev_5⟩ : ∃ z, z = r_ := ⟨r_, rfl⟩
          rw [← ev_5] at hw ⊢
          clear ev_5
          have ev_5 : v_5 = mesh tp bt dp j (k + (nI 1)) := hw
          exact hret hS hP dX6_cut_67 (⟨Or.inl ⟨j, hj, rfl, c_12_3, c_25_4, Or.inl ⟨w0, ev_5⟩⟩, rfl⟩)
        · skip
          refine lv_aload_n hx hb dX6_cut_68 rfl (lv_at hl 0 rfl) ?_
          refine va_get (D := D) (ci := 6) (v := .ref (ad 6)) (C := RX6) (T := TX6) (N := 6) hx hb hts iX6_cut_X6 hown hK hP 0 rfl rfl 5 (by decide) f_49 (fun _ h9 => h9) rfl dX6_cut_69 ?_
          refine lv_iload_n hx hb dX6_cut_72 rfl (lv_at hl 1 rfl) ?_
          refine lv_iload_n hx hb dX6_cut_73 rfl (lv_at hl 2 rfl) ?_
          refine lv_iconst (v := nI 1) hx hb dX6_cut_74 (by decide) ?_
          refine lv_iadd hx hb dX6_cut_75 ?_
          refine gci (va_runV (As := [.int (nI j), .int (k + (nI 1))]) (rest := []) ⟨hx, hb, hml, hown, hts⟩ (kX4_meshesAfter l D cs ad hd H.size (((nN, px, py, pz, fx, fy, fz, lf, ld, fi), (nB, fr, tt, ln, wi, sg, pu), (nR, rd, rx, ry, wv, fo), (re, dg), (nP, tp, bt, dp)), (sp, ac, kp, kc, kn, aw, dw, su, ss, sd)) j (by omega) (k + (nI 1)) (hdp j hj)) (cwV 2 hts gX6_cut_X4_meshesAfter rfl rfl rfl (by decide +kernel) ⟨Nat.le_of_ble_eq_true rfl, Nat.le_of_ble_eq_true rfl⟩) (gPreV (EX_bl) (va_recv hK hP (ci := 4) (q0 := 6) rfl rfl) hP (fun U _ hW => EX_warm hW hE)) rfl rfl hl.1 rfl (lv_room (Nat.le_of_ble_eq_true rfl)) dX6_cut_76 ⟨Nat.zero_le _, Nat.zero_le _⟩) hS (fun r_ u_ H locs hw hP hS => ?_)
          obtain ⟨rfl, hw⟩ := hw
          obtain ⟨v_6, ev_6⟩ : ∃ z, z = r_ := ⟨r_, rfl⟩
          rw [← ev_6] at hw ⊢
          clear ev_6
          have ev_6 : v_6 = mesh tp bt dp j (k + (nI 1)) := hw
          refine lv_aload_n hx hb dX6_cut_79 rfl (lv_at hl 0 rfl) ?_
          refine va_get (D := D) (ci := 6) (v := .ref (ad 6)) (C := RX6) (T := TX6) (N := 6) hx hb hts iX6_cut_X6 hown hK hP 0 rfl rfl 5 (by decide) f_49 (fun _ h9 => h9) rfl dX6_cut_80 ?_
          refine lv_iload_n hx hb dX6_cut_83 rfl (lv_at hl 1 rfl) ?_
          refine lv_iload_n hx hb dX6_cut_84 rfl (lv_at hl 2 rfl) ?_
          refine gci (va_runV (As := [.int (nI j), .int (k)]) (rest := [.int (v_6)]) ⟨hx, hb, hml, hown, hts⟩ (kX4_meshesAfter l D cs ad hd H.size (((nN, px, py, pz, fx, fy, fz, lf, ld, fi), (nB, fr, tt, ln, wi, sg, pu), (nR, rd, rx, ry, wv, fo), (re, dg), (nP, tp, bt, dp)), (sp, ac, kp, kc, kn, aw, dw, su, ss, sd)) j (by omega) k (hdp j hj)) (cwV 2 hts gX6_cut_X4_meshesAfter rfl rfl rfl (by decide +kernel) ⟨Nat.le_of_ble_eq_true rfl, Nat.le_of_ble_eq_true rfl⟩) (gPreV (EX_bl) (va_recv hK hP (ci := 4) (q0 := 6) rfl rfl) hP (fun U _ hW => EX_warm hW hE)) rfl rfl hl.1 rfl (lv_room (Nat.le_of_ble_eq_true rfl)) dX6_cut_85 ⟨Nat.zero_le _, Nat.zero_le _⟩) hS (fun r_ u_ H locs hw hP hS => ?_)
          obtain ⟨rfl, hw⟩ := hw
          obtain ⟨v_7, ev_7⟩ : ∃ z, z = r_ := ⟨r_, rfl⟩
          rw [← ev_7] at hw ⊢
          clear ev_7
          have ev_7 : v_7 = mesh tp bt dp j k := hw
          refine lv_isub hx hb dX6_cut_88 ?_
          exact hret hS hP dX6_cut_89 (⟨Or.inl ⟨j, hj, rfl, c_12_3, c_25_4, Or.inr ⟨w1, by rw [ev_6, ev_7]⟩⟩, rfl⟩)
        · skip
          refine lv_iconst (v := (-1 : Int32)) hx hb dX6_cut_90 (by decide) ?_
          exact hret hS hP dX6_cut_91 (⟨Or.inr ⟨fun ⟨i, hi, ei, q1, q2, q3⟩ => q3.elim n0 n1, rfl⟩, rfl⟩)
      · skip
        refine lv_iconst (v := (-1 : Int32)) hx hb dX6_cut_28 (by decide) ?_
        exact hret hS hP dX6_cut_29 (⟨Or.inr ⟨fun ⟨i, hi, ei, q1, q2, q3⟩ => (by have e := (nI_eq (by omega) (by omega)).mp ei; subst e; exact c_25_4 q2), rfl⟩, rfl⟩)
  · skip
    have b_1 : ¬ (inN (nP) (x)) := b_1
    refine lv_if_eq (tgt := 28) hx hb dX6_cut_8 (by decide) (fun _ => ?_) (fun c_8_8 => absurd c_8_8 (by decide))
    refine lv_iconst (v := (-1 : Int32)) hx hb dX6_cut_28 (by decide) ?_
    exact hret hS hP dX6_cut_29 (⟨Or.inr ⟨fun ⟨i, hi, ei, q1, q2, q3⟩ => b_1 ⟨i, hi, ei⟩, rfl⟩, rfl⟩)
theorem iX7_cut_X7 : ∀ w ∈ u_ws RX7 TX7 31, w ∈ wsX7_cut := by decide +kernel
set_option maxHeartbeats 4000000 in
set_option maxRecDepth 100000 in
theorem kX7_cut (l : Launch) (D : va_G) (cs : Nat → ClassId) (ad : Nat → Nat) (hd : distM ad) (sz : Nat) (S : MS) (hnP : S.1.2.2.2.2.1 ≤ 30)(hdp : ∀ j, j < S.1.2.2.2.2.1 → ¬ S.1.2.2.2.2.2.2.2 j = 0) (x k w : Int32) : Met l yX7_cut wsX7_cut ({ frames := 1, cells := 0, slots := 0, locals := 22 } : Room) (gP D (WM cs ad) (EM D cs) S sz ([.ref (ad 0), .int (x), .int (k), .int (w)] : List Value)) (va_Qi (fun r u => q_cut S.1 x k w r ∧ u = S) (gB D (WM cs ad)) (gA (AM ad) sz)) 0 0 (gA (AM ad) sz) := by
  obtain ⟨⟨⟨nN, px, py, pz, fx, fy, fz, lf, ld, fi⟩, ⟨nB, fr, tt, ln, wi, sg, pu⟩, ⟨nR, rd, rx, ry, wv, fo⟩, ⟨re, dg⟩, ⟨nP, tp, bt, dp⟩⟩, ⟨nQ, fu⟩⟩ := S
  have hnP : nP ≤ 30 := hnP
  have hdp : ∀ j, j < nP → ¬ dp j = 0 := hdp
  refine gMi (cc := cX7_cut) (maxL := 4) (plainFor_of_name (by decide)) rfl (Nat.le_of_ble_eq_true rfl) ?_
  intro p e s m below meth c Q hx hb hts hown hml hsz hE hret H locs hP hS ls hl
  subst hsz
  have hown : s.vm.findClass RX7 = some m.cls := hown
  have hK : va_K D vwCl (tysX cs) s := hE.1
  have hD : ∀ u, va_D (gA (AM ad) s.heap.size) (WM cs ad u) := fun u => WM_D hd u
  have hl : lv_has ls 4 [(0, .ref (ad 0)), (1, .int (x)), (2, .int (k)), (3, .int (w))] := hl
  have f_84 := hts (.fieldLink RX7 84 "NetShapesModel" "deeps" "[I") (by decide +kernel)
  refine lv_aload_n hx hb dX7_cut_0 rfl (lv_at hl 0 rfl) ?_
  refine lv_iload_n hx hb dX7_cut_1 rfl (lv_at hl 1 rfl) ?_
  refine gci (va_runV (As := [.int (x)]) (rest := []) ⟨hx, hb, hml, hown, hts⟩ (kX7_isPanel l D cs ad hd H.size (((nN, px, py, pz, fx, fy, fz, lf, ld, fi), (nB, fr, tt, ln, wi, sg, pu), (nR, rd, rx, ry, wv, fo), (re, dg), (nP, tp, bt, dp)), (nQ, fu)) hnP x) (cwV 1 hts gX7_cut_X7_isPanel rfl rfl rfl (by decide +kernel) ⟨Nat.le_of_ble_eq_true rfl, Nat.le_of_ble_eq_true rfl⟩) (gPreV (EM_bl) (va_recv hK hP (ci := 7) (q0 := 0) rfl rfl) hP (fun U _ hW => EM_warm hW hE)) rfl rfl hl.1 rfl (lv_room (Nat.le_of_ble_eq_true rfl)) dX7_cut_2 ⟨Nat.zero_le _, Nat.zero_le _⟩) hS (fun r_ u_ H locs hw hP hS => ?_)
  obtain ⟨rfl, hw⟩ := hw
  rcases hw with ⟨rfl, b_1⟩ | ⟨rfl, b_1⟩
  · skip
    have b_1 : inN (nP) (x) := b_1
    obtain ⟨j, hj, rfl⟩ := b_1
    refine lv_if_eq (tgt := 31) hx hb dX7_cut_5 (by decide) (fun c_5_2 => absurd c_5_2 (by decide)) (fun _ => ?_)
    refine lv_iload_n hx hb dX7_cut_8 rfl (lv_at hl 2 rfl) ?_
    refine lv_if_lt (tgt := 31) hx hb dX7_cut_9 (by decide) (fun c_9_3 => ?_) (fun c_9_3 => ?_)
    · skip
      refine lv_iconst (v := (-1 : Int32)) hx hb dX7_cut_31 (by decide) ?_
      exact hret hS hP dX7_cut_32 (⟨Or.inr ⟨fun ⟨i, hi, ei, q1, q2, q3⟩ => q1 c_9_3, rfl⟩, rfl⟩)
    · skip
      refine lv_iload_n hx hb dX7_cut_12 rfl (lv_at hl 2 rfl) ?_
      refine lv_aload_n hx hb dX7_cut_13 rfl (lv_at hl 0 rfl) ?_
      refine va_get (D := D) (ci := 7) (v := .ref (ad 23)) (C := RX7) (T := TX7) (N := 31) hx hb hts iX7_cut_X7 hown hK hP 0 rfl rfl 30 (by decide) f_84 (fun _ h9 => h9) rfl dX7_cut_14 ?_
      refine lv_iload_n hx hb dX7_cut_17 rfl (lv_at hl 1 rfl) ?_
      refine xil hx hb hK hP 23 1 rfl rfl (j := j) (by decide) (by omega) dX7_cut_18 ?_
      refine lv_icmp_ge (tgt := 31) hx hb dX7_cut_19 (by decide) (fun c_19_4 => ?_) (fun c_19_4 => ?_)
      · skip
        refine lv_iconst (v := (-1 : Int32)) hx hb dX7_cut_31 (by decide) ?_
        exact hret hS hP dX7_cut_32 (⟨Or.inr ⟨fun ⟨i, hi, ei, q1, q2, q3⟩ => (by have e := (nI_eq (by omega) (by omega)).mp ei; subst e; exact ge_lt_no c_19_4 q2), rfl⟩, rfl⟩)
      · skip
        refine lv_iload_n hx hb dX7_cut_22 rfl (lv_at hl 3 rfl) ?_
        refine lv_if_lt (tgt := 31) hx hb dX7_cut_23 (by decide) (fun c_23_5 => ?_) (fun c_23_5 => ?_)
        · skip
          refine lv_iconst (v := (-1 : Int32)) hx hb dX7_cut_31 (by decide) ?_
          exact hret hS hP dX7_cut_32 (⟨Or.inr ⟨fun ⟨i, hi, ei, q1, q2, q3⟩ => w_neg c_23_5 q3, rfl⟩, rfl⟩)
        · skip
          refine lv_iload_n hx hb dX7_cut_26 rfl (lv_at hl 3 rfl) ?_
          refine lv_iconst (v := nI 1) hx hb dX7_cut_27 (by decide) ?_
          refine lv_icmp_le (tgt := 33) hx hb dX7_cut_28 (by decide) (fun c_28_6 => ?_) (fun c_28_6 => ?_)
          · skip
            refine lv_iload_n hx hb dX7_cut_33 rfl (lv_at hl 3 rfl) ?_
            refine lv_if_ne (tgt := 46) hx hb dX7_cut_34 (by decide) (fun c_34_7 => ?_) (fun c_34_7 => ?_)
            · skip
              refine lv_aload_n hx hb dX7_cut_46 rfl (lv_at hl 0 rfl) ?_
              refine lv_iload_n hx hb dX7_cut_47 rfl (lv_at hl 1 rfl) ?_
              refine lv_iload_n hx hb dX7_cut_48 rfl (lv_at hl 2 rfl) ?_
              refine gci (va_runV (As := [.int (nI j), .int (k)]) (rest := []) ⟨hx, hb, hml, hown, hts⟩ (kX7_meshes l D cs ad hd H.size (((nN, px, py, pz, fx, fy, fz, lf, ld, fi), (nB, fr, tt, ln, wi, sg, pu), (nR, rd, rx, ry, wv, fo), (re, dg), (nP, tp, bt, dp)), (nQ, fu)) j (by omega) k (hdp j hj)) (cwV 2 hts gX7_cut_X7_meshes rfl rfl rfl (by decide +kernel) ⟨Nat.le_of_ble_eq_true rfl, Nat.le_of_ble_eq_true rfl⟩) (gPreV (EM_bl) (va_recv hK hP (ci := 7) (q0 := 0) rfl rfl) hP (fun U _ hW => EM_warm hW hE)) rfl rfl hl.1 rfl (lv_room (Nat.le_of_ble_eq_true rfl)) dX7_cut_49 ⟨Nat.zero_le _, Nat.zero_le _⟩) hS (fun r_ u_ H locs hw hP hS => ?_)
              obtain ⟨rfl, hw⟩ := hw
              obtain ⟨v_8, ev_8⟩ : ∃ z, z = r_ := ⟨r_, rfl⟩
              rw [← ev_8] at hw ⊢
              clear ev_8
              have ev_8 : v_8 = mesh tp bt dp j (k + nI 1) := hw
              refine lv_aload_n hx hb dX7_cut_52 rfl (lv_at hl 0 rfl) ?_
              refine lv_iload_n hx hb dX7_cut_53 rfl (lv_at hl 1 rfl) ?_
              refine lv_iload_n hx hb dX7_cut_54 rfl (lv_at hl 2 rfl) ?_
              refine lv_iconst (v := nI 1) hx hb dX7_cut_55 (by decide) ?_
              refine lv_isub hx hb dX7_cut_56 ?_
              refine gci (va_runV (As := [.int (nI j), .int (k - (nI 1))]) (rest := [.int (v_8)]) ⟨hx, hb, hml, hown, hts⟩ (kX7_meshes l D cs ad hd H.size (((nN, px, py, pz, fx, fy, fz, lf, ld, fi), (nB, fr, tt, ln, wi, sg, pu), (nR, rd, rx, ry, wv, fo), (re, dg), (nP, tp, bt, dp)), (nQ, fu)) j (by omega) (k - (nI 1)) (hdp j hj)) (cwV 2 hts gX7_cut_X7_meshes rfl rfl rfl (by decide +kernel) ⟨Nat.le_of_ble_eq_true rfl, Nat.le_of_ble_eq_true rfl⟩) (gPreV (EM_bl) (va_recv hK hP (ci := 7) (q0 := 0) rfl rfl) hP (fun U _ hW => EM_warm hW hE)) rfl rfl hl.1 rfl (lv_room (Nat.le_of_ble_eq_true rfl)) dX7_cut_57 ⟨Nat.zero_le _, Nat.zero_le _⟩) hS (fun r_ u_ H locs hw hP hS => ?_)
              obtain ⟨rfl, hw⟩ := hw
              obtain ⟨v_9, ev_9⟩ : ∃ z, z = r_ := ⟨r_, rfl⟩
              rw [← ev_9] at hw ⊢
              clear ev_9
              have ev_9 : v_9 = mesh tp bt dp j ((k - (nI 1)) + nI 1) := hw
              refine lv_isub hx hb dX7_cut_60 ?_
              exact hret hS hP dX7_cut_61 (⟨Or.inl ⟨j, hj, rfl, c_9_3, lt_of_nge c_19_4, Or.inr ⟨w_one c_23_5 c_28_6 c_34_7, by rw [ev_8, ev_9, Int32.sub_add_cancel]⟩⟩, rfl⟩)
            · skip
              refine lv_aload_n hx hb dX7_cut_37 rfl (lv_at hl 0 rfl) ?_
              refine lv_iload_n hx hb dX7_cut_38 rfl (lv_at hl 1 rfl) ?_
              refine lv_iload_n hx hb dX7_cut_39 rfl (lv_at hl 2 rfl) ?_
              refine gci (va_runV (As := [.int (nI j), .int (k)]) (rest := []) ⟨hx, hb, hml, hown, hts⟩ (kX7_meshes l D cs ad hd H.size (((nN, px, py, pz, fx, fy, fz, lf, ld, fi), (nB, fr, tt, ln, wi, sg, pu), (nR, rd, rx, ry, wv, fo), (re, dg), (nP, tp, bt, dp)), (nQ, fu)) j (by omega) k (hdp j hj)) (cwV 2 hts gX7_cut_X7_meshes rfl rfl rfl (by decide +kernel) ⟨Nat.le_of_ble_eq_true rfl, Nat.le_of_ble_eq_true rfl⟩) (gPreV (EM_bl) (va_recv hK hP (ci := 7) (q0 := 0) rfl rfl) hP (fun U _ hW => EM_warm hW hE)) rfl rfl hl.1 rfl (lv_room (Nat.le_of_ble_eq_true rfl)) dX7_cut_40 ⟨Nat.zero_le _, Nat.zero_le _⟩) hS (fun r_ u_ H locs hw hP hS => ?_)
              obtain ⟨rfl, hw⟩ := hw
              obtain ⟨v_10, ev_10⟩ : ∃ z, z = r_ := ⟨r_, rfl⟩
              rw [← ev_10] at hw ⊢
              clear ev_10
              have ev_10 : v_10 = mesh tp bt dp j (k + nI 1) := hw
              refine lv_goto (tgt := 61) hx hb dX7_cut_43 (by decide) ?_
              exact hret hS hP dX7_cut_61 (⟨Or.inl ⟨j, hj, rfl, c_9_3, lt_of_nge c_19_4, Or.inl ⟨c_34_7, ev_10⟩⟩, rfl⟩)
          · skip
            refine lv_iconst (v := (-1 : Int32)) hx hb dX7_cut_31 (by decide) ?_
            exact hret hS hP dX7_cut_32 (⟨Or.inr ⟨fun ⟨i, hi, ei, q1, q2, q3⟩ => w_big c_28_6 q3, rfl⟩, rfl⟩)
  · skip
    have b_1 : ¬ (inN (nP) (x)) := b_1
    refine lv_if_eq (tgt := 31) hx hb dX7_cut_5 (by decide) (fun _ => ?_) (fun c_5_11 => absurd c_5_11 (by decide))
    refine lv_iconst (v := (-1 : Int32)) hx hb dX7_cut_31 (by decide) ?_
    exact hret hS hP dX7_cut_32 (⟨Or.inr ⟨fun ⟨i, hi, ei, q1, q2, q3⟩ => b_1 ⟨i, hi, ei⟩, rfl⟩, rfl⟩)
theorem iX6_whole_X4 : ∀ w ∈ u_ws RX4 TX4 9, w ∈ wsX6_whole := by decide +kernel
theorem iX6_whole_X6 : ∀ w ∈ u_ws RX6 TX6 6, w ∈ wsX6_whole := by decide +kernel
set_option maxHeartbeats 4000000 in
set_option maxRecDepth 100000 in
theorem kX6_whole (l : Launch) (D : va_G) (cs : Nat → ClassId) (ad : Nat → Nat) (hd : distX ad) (sz : Nat) (S : XS) (hnP : S.1.2.2.2.2.1 ≤ 30) (x : Int32) : Met l yX6_whole wsX6_whole ({ frames := 1, cells := 0, slots := 0, locals := 21 } : Room) (gP D (WX cs ad) (EX D cs) S sz ([.ref (ad 0), .int (x)] : List Value)) (va_Qi (fun r u => q_whole S.1 x r ∧ u = S) (gB D (WX cs ad)) (gA (AX ad) sz)) 0 0 (gA (AX ad) sz) := by
  obtain ⟨⟨⟨nN, px, py, pz, fx, fy, fz, lf, ld, fi⟩, ⟨nB, fr, tt, ln, wi, sg, pu⟩, ⟨nR, rd, rx, ry, wv, fo⟩, ⟨re, dg⟩, ⟨nP, tp, bt, dp⟩⟩, ⟨sp, ac, kp, kc, kn, aw, dw, su, ss, sd⟩⟩ := S
  have hnP : nP ≤ 30 := hnP
  refine gMz (cc := cX6_whole) (maxL := 2) (plainFor_of_name (by decide)) rfl (Nat.le_of_ble_eq_true rfl) ?_
  intro p e s m below meth c Q hx hb hts hown hml hsz hE hret H locs hP hS ls hl
  subst hsz
  have hown : s.vm.findClass RX6 = some m.cls := hown
  have hK : va_K D vwCl (tysX cs) s := hE.1
  have hD : ∀ u, va_D (gA (AX ad) s.heap.size) (WX cs ad u) := fun u => WX_D hd u
  have hl : lv_has ls 2 [(0, .ref (ad 0)), (1, .int (x))] := hl
  have f_49 := hts (.fieldLink RX6 49 "NetShapes" "panels" "LNetShapes$Panels;") (by decide +kernel)
  have f_166 := hts (.fieldLink RX6 166 "NetShapes$Panels" "bottom" "[I") (by decide +kernel)
  have f_169 := hts (.fieldLink RX6 169 "NetShapes$Panels" "top" "[I") (by decide +kernel)
  refine lv_aload_n hx hb dX6_whole_0 rfl (lv_at hl 0 rfl) ?_
  refine va_get (D := D) (ci := 6) (v := .ref (ad 6)) (C := RX6) (T := TX6) (N := 6) hx hb hts iX6_whole_X6 hown hK hP 0 rfl rfl 5 (by decide) f_49 (fun _ h9 => h9) rfl dX6_whole_1 ?_
  refine lv_iload_n hx hb dX6_whole_4 rfl (lv_at hl 1 rfl) ?_
  refine gci (va_runV (As := [.int (x)]) (rest := []) ⟨hx, hb, hml, hown, hts⟩ (kX4_has l D cs ad hd H.size (((nN, px, py, pz, fx, fy, fz, lf, ld, fi), (nB, fr, tt, ln, wi, sg, pu), (nR, rd, rx, ry, wv, fo), (re, dg), (nP, tp, bt, dp)), (sp, ac, kp, kc, kn, aw, dw, su, ss, sd)) hnP x) (cwV 1 hts gX6_whole_X4_has rfl rfl rfl (by decide +kernel) ⟨Nat.le_of_ble_eq_true rfl, Nat.le_of_ble_eq_true rfl⟩) (gPreV (EX_bl) (va_recv hK hP (ci := 4) (q0 := 6) rfl rfl) hP (fun U _ hW => EX_warm hW hE)) rfl rfl hl.1 rfl (lv_room (Nat.le_of_ble_eq_true rfl)) dX6_whole_5 ⟨Nat.zero_le _, Nat.zero_le _⟩) hS (fun r_ u_ H locs hw hP hS => ?_)
  obtain ⟨rfl, hw⟩ := hw
  rcases hw with ⟨rfl, b_1⟩ | ⟨rfl, b_1⟩
  · skip
    have b_1 : inN (nP) (x) := b_1
    obtain ⟨j, hj, rfl⟩ := b_1
    refine lv_if_eq (tgt := 39) hx hb dX6_whole_8 (by decide) (fun c_8_2 => absurd c_8_2 (by decide)) (fun _ => ?_)
    refine lv_aload_n hx hb dX6_whole_11 rfl (lv_at hl 0 rfl) ?_
    refine va_get (D := D) (ci := 6) (v := .ref (ad 6)) (C := RX6) (T := TX6) (N := 6) hx hb hts iX6_whole_X6 hown hK hP 0 rfl rfl 5 (by decide) f_49 (fun _ h9 => h9) rfl dX6_whole_12 ?_
    refine va_get (D := D) (ci := 4) (v := .ref (ad 26)) (C := RX4) (T := TX4) (N := 9) hx hb hts iX6_whole_X4 hown hK hP 6 rfl rfl 1 (by decide) f_166 (fun _ h9 => h9) rfl dX6_whole_15 ?_
    refine lv_iload_n hx hb dX6_whole_18 rfl (lv_at hl 1 rfl) ?_
    refine xil hx hb hK hP 26 1 rfl rfl (j := j) (by decide) (by omega) dX6_whole_19 ?_
    refine lv_aload_n hx hb dX6_whole_20 rfl (lv_at hl 0 rfl) ?_
    refine va_get (D := D) (ci := 6) (v := .ref (ad 6)) (C := RX6) (T := TX6) (N := 6) hx hb hts iX6_whole_X6 hown hK hP 0 rfl rfl 5 (by decide) f_49 (fun _ h9 => h9) rfl dX6_whole_21 ?_
    refine va_get (D := D) (ci := 4) (v := .ref (ad 25)) (C := RX4) (T := TX4) (N := 9) hx hb hts iX6_whole_X4 hown hK hP 6 rfl rfl 0 (by decide) f_169 (fun _ h9 => h9) rfl dX6_whole_24 ?_
    refine lv_iload_n hx hb dX6_whole_27 rfl (lv_at hl 1 rfl) ?_
    refine xil hx hb hK hP 25 1 rfl rfl (j := j) (by decide) (by omega) dX6_whole_28 ?_
    refine lv_isub hx hb dX6_whole_29 ?_
    refine lv_iconst (v := nI 2) hx hb dX6_whole_30 (by decide) ?_
    refine lv_irem hx hb dX6_whole_31 (by decide) ?_
    refine lv_if_ne (tgt := 39) hx hb dX6_whole_32 (by decide) (fun c_32_3 => ?_) (fun c_32_3 => ?_)
    · skip
      refine lv_iconst (v := nI 0) hx hb dX6_whole_39 (by decide) ?_
      exact hret hS hP dX6_whole_40 (Or.inl rfl) (⟨Or.inl ⟨j, hj, rfl, Or.inr ⟨c_32_3, rfl⟩⟩, rfl⟩)
    · skip
      refine lv_iconst (v := nI 1) hx hb dX6_whole_35 (by decide) ?_
      refine lv_goto (tgt := 40) hx hb dX6_whole_36 (by decide) ?_
      exact hret hS hP dX6_whole_40 (Or.inr rfl) (⟨Or.inl ⟨j, hj, rfl, Or.inl ⟨c_32_3, rfl⟩⟩, rfl⟩)
  · skip
    have b_1 : ¬ (inN (nP) (x)) := b_1
    refine lv_if_eq (tgt := 39) hx hb dX6_whole_8 (by decide) (fun _ => ?_) (fun c_8_4 => absurd c_8_4 (by decide))
    refine lv_iconst (v := nI 0) hx hb dX6_whole_39 (by decide) ?_
    exact hret hS hP dX6_whole_40 (Or.inl rfl) (⟨Or.inr ⟨b_1, rfl⟩, rfl⟩)
theorem iX7_whole_X7 : ∀ w ∈ u_ws RX7 TX7 31, w ∈ wsX7_whole := by decide +kernel
set_option maxHeartbeats 4000000 in
set_option maxRecDepth 100000 in
theorem kX7_whole (l : Launch) (D : va_G) (cs : Nat → ClassId) (ad : Nat → Nat) (hd : distM ad) (sz : Nat) (S : MS) (hnP : S.1.2.2.2.2.1 ≤ 30) (x : Int32) : Met l yX7_whole wsX7_whole ({ frames := 1, cells := 0, slots := 0, locals := 21 } : Room) (gP D (WM cs ad) (EM D cs) S sz ([.ref (ad 0), .int (x)] : List Value)) (va_Qi (fun r u => q_whole S.1 x r ∧ u = S) (gB D (WM cs ad)) (gA (AM ad) sz)) 0 0 (gA (AM ad) sz) := by
  obtain ⟨⟨⟨nN, px, py, pz, fx, fy, fz, lf, ld, fi⟩, ⟨nB, fr, tt, ln, wi, sg, pu⟩, ⟨nR, rd, rx, ry, wv, fo⟩, ⟨re, dg⟩, ⟨nP, tp, bt, dp⟩⟩, ⟨nQ, fu⟩⟩ := S
  have hnP : nP ≤ 30 := hnP
  refine gMz (cc := cX7_whole) (maxL := 2) (plainFor_of_name (by decide)) rfl (Nat.le_of_ble_eq_true rfl) ?_
  intro p e s m below meth c Q hx hb hts hown hml hsz hE hret H locs hP hS ls hl
  subst hsz
  have hown : s.vm.findClass RX7 = some m.cls := hown
  have hK : va_K D vwCl (tysX cs) s := hE.1
  have hD : ∀ u, va_D (gA (AM ad) s.heap.size) (WM cs ad u) := fun u => WM_D hd u
  have hl : lv_has ls 2 [(0, .ref (ad 0)), (1, .int (x))] := hl
  have f_78 := hts (.fieldLink RX7 78 "NetShapesModel" "tops" "[I") (by decide +kernel)
  have f_81 := hts (.fieldLink RX7 81 "NetShapesModel" "bottoms" "[I") (by decide +kernel)
  refine lv_aload_n hx hb dX7_whole_0 rfl (lv_at hl 0 rfl) ?_
  refine lv_iload_n hx hb dX7_whole_1 rfl (lv_at hl 1 rfl) ?_
  refine gci (va_runV (As := [.int (x)]) (rest := []) ⟨hx, hb, hml, hown, hts⟩ (kX7_isPanel l D cs ad hd H.size (((nN, px, py, pz, fx, fy, fz, lf, ld, fi), (nB, fr, tt, ln, wi, sg, pu), (nR, rd, rx, ry, wv, fo), (re, dg), (nP, tp, bt, dp)), (nQ, fu)) hnP x) (cwV 1 hts gX7_whole_X7_isPanel rfl rfl rfl (by decide +kernel) ⟨Nat.le_of_ble_eq_true rfl, Nat.le_of_ble_eq_true rfl⟩) (gPreV (EM_bl) (va_recv hK hP (ci := 7) (q0 := 0) rfl rfl) hP (fun U _ hW => EM_warm hW hE)) rfl rfl hl.1 rfl (lv_room (Nat.le_of_ble_eq_true rfl)) dX7_whole_2 ⟨Nat.zero_le _, Nat.zero_le _⟩) hS (fun r_ u_ H locs hw hP hS => ?_)
  obtain ⟨rfl, hw⟩ := hw
  rcases hw with ⟨rfl, b_1⟩ | ⟨rfl, b_1⟩
  · skip
    have b_1 : inN (nP) (x) := b_1
    obtain ⟨j, hj, rfl⟩ := b_1
    refine lv_if_eq (tgt := 30) hx hb dX7_whole_5 (by decide) (fun c_5_2 => absurd c_5_2 (by decide)) (fun _ => ?_)
    refine lv_aload_n hx hb dX7_whole_8 rfl (lv_at hl 0 rfl) ?_
    refine va_get (D := D) (ci := 7) (v := .ref (ad 22)) (C := RX7) (T := TX7) (N := 31) hx hb hts iX7_whole_X7 hown hK hP 0 rfl rfl 29 (by decide) f_81 (fun _ h9 => h9) rfl dX7_whole_9 ?_
    refine lv_iload_n hx hb dX7_whole_12 rfl (lv_at hl 1 rfl) ?_
    refine xil hx hb hK hP 22 1 rfl rfl (j := j) (by decide) (by omega) dX7_whole_13 ?_
    refine lv_aload_n hx hb dX7_whole_14 rfl (lv_at hl 0 rfl) ?_
    refine va_get (D := D) (ci := 7) (v := .ref (ad 21)) (C := RX7) (T := TX7) (N := 31) hx hb hts iX7_whole_X7 hown hK hP 0 rfl rfl 28 (by decide) f_78 (fun _ h9 => h9) rfl dX7_whole_15 ?_
    refine lv_iload_n hx hb dX7_whole_18 rfl (lv_at hl 1 rfl) ?_
    refine xil hx hb hK hP 21 1 rfl rfl (j := j) (by decide) (by omega) dX7_whole_19 ?_
    refine lv_isub hx hb dX7_whole_20 ?_
    refine lv_iconst (v := nI 2) hx hb dX7_whole_21 (by decide) ?_
    refine lv_irem hx hb dX7_whole_22 (by decide) ?_
    refine lv_if_ne (tgt := 30) hx hb dX7_whole_23 (by decide) (fun c_23_3 => ?_) (fun c_23_3 => ?_)
    · skip
      refine lv_iconst (v := nI 0) hx hb dX7_whole_30 (by decide) ?_
      exact hret hS hP dX7_whole_31 (Or.inl rfl) (⟨Or.inl ⟨j, hj, rfl, Or.inr ⟨c_23_3, rfl⟩⟩, rfl⟩)
    · skip
      refine lv_iconst (v := nI 1) hx hb dX7_whole_26 (by decide) ?_
      refine lv_goto (tgt := 31) hx hb dX7_whole_27 (by decide) ?_
      exact hret hS hP dX7_whole_31 (Or.inr rfl) (⟨Or.inl ⟨j, hj, rfl, Or.inl ⟨c_23_3, rfl⟩⟩, rfl⟩)
  · skip
    have b_1 : ¬ (inN (nP) (x)) := b_1
    refine lv_if_eq (tgt := 30) hx hb dX7_whole_5 (by decide) (fun _ => ?_) (fun c_5_4 => absurd c_5_4 (by decide))
    refine lv_iconst (v := nI 0) hx hb dX7_whole_30 (by decide) ?_
    exact hret hS hP dX7_whole_31 (Or.inl rfl) (⟨Or.inr ⟨b_1, rfl⟩, rfl⟩)
theorem iX6_edge_X4 : ∀ w ∈ u_ws RX4 TX4 9, w ∈ wsX6_edge := by decide +kernel
theorem iX6_edge_X6 : ∀ w ∈ u_ws RX6 TX6 6, w ∈ wsX6_edge := by decide +kernel
set_option maxHeartbeats 4000000 in
set_option maxRecDepth 100000 in
theorem kX6_edge (l : Launch) (D : va_G) (cs : Nat → ClassId) (ad : Nat → Nat) (hd : distX ad) (sz : Nat) (S : XS) (hnP : S.1.2.2.2.2.1 ≤ 30) (x y : Int32) : Met l yX6_edge wsX6_edge ({ frames := 1, cells := 0, slots := 0, locals := 21 } : Room) (gP D (WX cs ad) (EX D cs) S sz ([.ref (ad 0), .int (x), .int (y)] : List Value)) (va_Qi (fun r u => q_edge S.1 x y r ∧ u = S) (gB D (WX cs ad)) (gA (AX ad) sz)) 0 0 (gA (AX ad) sz) := by
  obtain ⟨⟨⟨nN, px, py, pz, fx, fy, fz, lf, ld, fi⟩, ⟨nB, fr, tt, ln, wi, sg, pu⟩, ⟨nR, rd, rx, ry, wv, fo⟩, ⟨re, dg⟩, ⟨nP, tp, bt, dp⟩⟩, ⟨sp, ac, kp, kc, kn, aw, dw, su, ss, sd⟩⟩ := S
  have hnP : nP ≤ 30 := hnP
  refine gMi (cc := cX6_edge) (maxL := 3) (plainFor_of_name (by decide)) rfl (Nat.le_of_ble_eq_true rfl) ?_
  intro p e s m below meth c Q hx hb hts hown hml hsz hE hret H locs hP hS ls hl
  subst hsz
  have hown : s.vm.findClass RX6 = some m.cls := hown
  have hK : va_K D vwCl (tysX cs) s := hE.1
  have hD : ∀ u, va_D (gA (AX ad) s.heap.size) (WX cs ad u) := fun u => WX_D hd u
  have hl : lv_has ls 3 [(0, .ref (ad 0)), (1, .int (x)), (2, .int (y))] := hl
  have f_49 := hts (.fieldLink RX6 49 "NetShapes" "panels" "LNetShapes$Panels;") (by decide +kernel)
  have f_166 := hts (.fieldLink RX6 166 "NetShapes$Panels" "bottom" "[I") (by decide +kernel)
  have f_169 := hts (.fieldLink RX6 169 "NetShapes$Panels" "top" "[I") (by decide +kernel)
  refine lv_aload_n hx hb dX6_edge_0 rfl (lv_at hl 0 rfl) ?_
  refine va_get (D := D) (ci := 6) (v := .ref (ad 6)) (C := RX6) (T := TX6) (N := 6) hx hb hts iX6_edge_X6 hown hK hP 0 rfl rfl 5 (by decide) f_49 (fun _ h9 => h9) rfl dX6_edge_1 ?_
  refine lv_iload_n hx hb dX6_edge_4 rfl (lv_at hl 1 rfl) ?_
  refine gci (va_runV (As := [.int (x)]) (rest := []) ⟨hx, hb, hml, hown, hts⟩ (kX4_has l D cs ad hd H.size (((nN, px, py, pz, fx, fy, fz, lf, ld, fi), (nB, fr, tt, ln, wi, sg, pu), (nR, rd, rx, ry, wv, fo), (re, dg), (nP, tp, bt, dp)), (sp, ac, kp, kc, kn, aw, dw, su, ss, sd)) hnP x) (cwV 1 hts gX6_edge_X4_has rfl rfl rfl (by decide +kernel) ⟨Nat.le_of_ble_eq_true rfl, Nat.le_of_ble_eq_true rfl⟩) (gPreV (EX_bl) (va_recv hK hP (ci := 4) (q0 := 6) rfl rfl) hP (fun U _ hW => EX_warm hW hE)) rfl rfl hl.1 rfl (lv_room (Nat.le_of_ble_eq_true rfl)) dX6_edge_5 ⟨Nat.zero_le _, Nat.zero_le _⟩) hS (fun r_ u_ H locs hw hP hS => ?_)
  obtain ⟨rfl, hw⟩ := hw
  rcases hw with ⟨rfl, b_1⟩ | ⟨rfl, b_1⟩
  · skip
    have b_1 : inN (nP) (x) := b_1
    refine lv_if_eq (tgt := 22) hx hb dX6_edge_8 (by decide) (fun c_8_2 => absurd c_8_2 (by decide)) (fun _ => ?_)
    refine lv_aload_n hx hb dX6_edge_11 rfl (lv_at hl 0 rfl) ?_
    refine va_get (D := D) (ci := 6) (v := .ref (ad 6)) (C := RX6) (T := TX6) (N := 6) hx hb hts iX6_edge_X6 hown hK hP 0 rfl rfl 5 (by decide) f_49 (fun _ h9 => h9) rfl dX6_edge_12 ?_
    refine lv_iload_n hx hb dX6_edge_15 rfl (lv_at hl 2 rfl) ?_
    refine gci (va_runV (As := [.int (y)]) (rest := []) ⟨hx, hb, hml, hown, hts⟩ (kX4_has l D cs ad hd H.size (((nN, px, py, pz, fx, fy, fz, lf, ld, fi), (nB, fr, tt, ln, wi, sg, pu), (nR, rd, rx, ry, wv, fo), (re, dg), (nP, tp, bt, dp)), (sp, ac, kp, kc, kn, aw, dw, su, ss, sd)) hnP y) (cwV 1 hts gX6_edge_X4_has rfl rfl rfl (by decide +kernel) ⟨Nat.le_of_ble_eq_true rfl, Nat.le_of_ble_eq_true rfl⟩) (gPreV (EX_bl) (va_recv hK hP (ci := 4) (q0 := 6) rfl rfl) hP (fun U _ hW => EX_warm hW hE)) rfl rfl hl.1 rfl (lv_room (Nat.le_of_ble_eq_true rfl)) dX6_edge_16 ⟨Nat.zero_le _, Nat.zero_le _⟩) hS (fun r_ u_ H locs hw hP hS => ?_)
    obtain ⟨rfl, hw⟩ := hw
    rcases hw with ⟨rfl, b_3⟩ | ⟨rfl, b_3⟩
    · skip
      have b_3 : inN (nP) (y) := b_3
      obtain ⟨i, hi, rfl⟩ := b_1
      obtain ⟨j, hj, rfl⟩ := b_3
      refine lv_if_ne (tgt := 24) hx hb dX6_edge_19 (by decide) (fun _ => ?_) (fun c_19_4 => absurd c_19_4 (by decide))
      refine lv_aload_n hx hb dX6_edge_24 rfl (lv_at hl 0 rfl) ?_
      refine va_get (D := D) (ci := 6) (v := .ref (ad 6)) (C := RX6) (T := TX6) (N := 6) hx hb hts iX6_edge_X6 hown hK hP 0 rfl rfl 5 (by decide) f_49 (fun _ h9 => h9) rfl dX6_edge_25 ?_
      refine va_get (D := D) (ci := 4) (v := .ref (ad 26)) (C := RX4) (T := TX4) (N := 9) hx hb hts iX6_edge_X4 hown hK hP 6 rfl rfl 1 (by decide) f_166 (fun _ h9 => h9) rfl dX6_edge_28 ?_
      refine lv_iload_n hx hb dX6_edge_31 rfl (lv_at hl 1 rfl) ?_
      refine xil hx hb hK hP 26 1 rfl rfl (j := i) (by decide) (by omega) dX6_edge_32 ?_
      refine lv_aload_n hx hb dX6_edge_33 rfl (lv_at hl 0 rfl) ?_
      refine va_get (D := D) (ci := 6) (v := .ref (ad 6)) (C := RX6) (T := TX6) (N := 6) hx hb hts iX6_edge_X6 hown hK hP 0 rfl rfl 5 (by decide) f_49 (fun _ h9 => h9) rfl dX6_edge_34 ?_
      refine va_get (D := D) (ci := 4) (v := .ref (ad 25)) (C := RX4) (T := TX4) (N := 9) hx hb hts iX6_edge_X4 hown hK hP 6 rfl rfl 0 (by decide) f_169 (fun _ h9 => h9) rfl dX6_edge_37 ?_
      refine lv_iload_n hx hb dX6_edge_40 rfl (lv_at hl 2 rfl) ?_
      refine xil hx hb hK hP 25 1 rfl rfl (j := j) (by decide) (by omega) dX6_edge_41 ?_
      refine va_mmin hx hb (hml.trans hl.1.symm) hown (hts (.methodLink RX6 172 Lib.Math.min.name) (by decide +kernel)) (hts (.static Lib.Math.min.name) (by decide +kernel)) (hts (.initialized "java/lang/Math") (by decide +kernel)) (hts _ (List.mem_of_getElem? (i := 7) rfl)) (by decide) (Nat.le_of_ble_eq_true rfl) (Nat.zero_le _) (Nat.zero_le _) dX6_edge_42 ?_
      exact hret hS hP dX6_edge_45 (⟨Or.inl ⟨i, j, hi, hj, rfl, rfl, rfl⟩, rfl⟩)
    · skip
      have b_3 : ¬ (inN (nP) (y)) := b_3
      refine lv_if_ne (tgt := 24) hx hb dX6_edge_19 (by decide) (fun c_19_5 => absurd c_19_5 (by decide)) (fun _ => ?_)
      refine lv_iconst (v := (-1 : Int32)) hx hb dX6_edge_22 (by decide) ?_
      exact hret hS hP dX6_edge_23 (⟨Or.inr ⟨fun q => absurd q.2 b_3, rfl⟩, rfl⟩)
  · skip
    have b_1 : ¬ (inN (nP) (x)) := b_1
    refine lv_if_eq (tgt := 22) hx hb dX6_edge_8 (by decide) (fun _ => ?_) (fun c_8_6 => absurd c_8_6 (by decide))
    refine lv_iconst (v := (-1 : Int32)) hx hb dX6_edge_22 (by decide) ?_
    exact hret hS hP dX6_edge_23 (⟨Or.inr ⟨fun q => absurd q.1 b_1, rfl⟩, rfl⟩)
theorem iX7_edge_X7 : ∀ w ∈ u_ws RX7 TX7 31, w ∈ wsX7_edge := by decide +kernel
set_option maxHeartbeats 4000000 in
set_option maxRecDepth 100000 in
theorem kX7_edge (l : Launch) (D : va_G) (cs : Nat → ClassId) (ad : Nat → Nat) (hd : distM ad) (sz : Nat) (S : MS) (hnP : S.1.2.2.2.2.1 ≤ 30) (x y : Int32) : Met l yX7_edge wsX7_edge ({ frames := 1, cells := 0, slots := 0, locals := 21 } : Room) (gP D (WM cs ad) (EM D cs) S sz ([.ref (ad 0), .int (x), .int (y)] : List Value)) (va_Qi (fun r u => q_edge S.1 x y r ∧ u = S) (gB D (WM cs ad)) (gA (AM ad) sz)) 0 0 (gA (AM ad) sz) := by
  obtain ⟨⟨⟨nN, px, py, pz, fx, fy, fz, lf, ld, fi⟩, ⟨nB, fr, tt, ln, wi, sg, pu⟩, ⟨nR, rd, rx, ry, wv, fo⟩, ⟨re, dg⟩, ⟨nP, tp, bt, dp⟩⟩, ⟨nQ, fu⟩⟩ := S
  have hnP : nP ≤ 30 := hnP
  refine gMi (cc := cX7_edge) (maxL := 3) (plainFor_of_name (by decide)) rfl (Nat.le_of_ble_eq_true rfl) ?_
  intro p e s m below meth c Q hx hb hts hown hml hsz hE hret H locs hP hS ls hl
  subst hsz
  have hown : s.vm.findClass RX7 = some m.cls := hown
  have hK : va_K D vwCl (tysX cs) s := hE.1
  have hD : ∀ u, va_D (gA (AM ad) s.heap.size) (WM cs ad u) := fun u => WM_D hd u
  have hl : lv_has ls 3 [(0, .ref (ad 0)), (1, .int (x)), (2, .int (y))] := hl
  have f_78 := hts (.fieldLink RX7 78 "NetShapesModel" "tops" "[I") (by decide +kernel)
  have f_81 := hts (.fieldLink RX7 81 "NetShapesModel" "bottoms" "[I") (by decide +kernel)
  refine lv_aload_n hx hb dX7_edge_0 rfl (lv_at hl 0 rfl) ?_
  refine lv_iload_n hx hb dX7_edge_1 rfl (lv_at hl 1 rfl) ?_
  refine gci (va_runV (As := [.int (x)]) (rest := []) ⟨hx, hb, hml, hown, hts⟩ (kX7_isPanel l D cs ad hd H.size (((nN, px, py, pz, fx, fy, fz, lf, ld, fi), (nB, fr, tt, ln, wi, sg, pu), (nR, rd, rx, ry, wv, fo), (re, dg), (nP, tp, bt, dp)), (nQ, fu)) hnP x) (cwV 1 hts gX7_edge_X7_isPanel rfl rfl rfl (by decide +kernel) ⟨Nat.le_of_ble_eq_true rfl, Nat.le_of_ble_eq_true rfl⟩) (gPreV (EM_bl) (va_recv hK hP (ci := 7) (q0 := 0) rfl rfl) hP (fun U _ hW => EM_warm hW hE)) rfl rfl hl.1 rfl (lv_room (Nat.le_of_ble_eq_true rfl)) dX7_edge_2 ⟨Nat.zero_le _, Nat.zero_le _⟩) hS (fun r_ u_ H locs hw hP hS => ?_)
  obtain ⟨rfl, hw⟩ := hw
  rcases hw with ⟨rfl, b_1⟩ | ⟨rfl, b_1⟩
  · skip
    have b_1 : inN (nP) (x) := b_1
    refine lv_if_eq (tgt := 16) hx hb dX7_edge_5 (by decide) (fun c_5_2 => absurd c_5_2 (by decide)) (fun _ => ?_)
    refine lv_aload_n hx hb dX7_edge_8 rfl (lv_at hl 0 rfl) ?_
    refine lv_iload_n hx hb dX7_edge_9 rfl (lv_at hl 2 rfl) ?_
    refine gci (va_runV (As := [.int (y)]) (rest := []) ⟨hx, hb, hml, hown, hts⟩ (kX7_isPanel l D cs ad hd H.size (((nN, px, py, pz, fx, fy, fz, lf, ld, fi), (nB, fr, tt, ln, wi, sg, pu), (nR, rd, rx, ry, wv, fo), (re, dg), (nP, tp, bt, dp)), (nQ, fu)) hnP y) (cwV 1 hts gX7_edge_X7_isPanel rfl rfl rfl (by decide +kernel) ⟨Nat.le_of_ble_eq_true rfl, Nat.le_of_ble_eq_true rfl⟩) (gPreV (EM_bl) (va_recv hK hP (ci := 7) (q0 := 0) rfl rfl) hP (fun U _ hW => EM_warm hW hE)) rfl rfl hl.1 rfl (lv_room (Nat.le_of_ble_eq_true rfl)) dX7_edge_10 ⟨Nat.zero_le _, Nat.zero_le _⟩) hS (fun r_ u_ H locs hw hP hS => ?_)
    obtain ⟨rfl, hw⟩ := hw
    rcases hw with ⟨rfl, b_3⟩ | ⟨rfl, b_3⟩
    · skip
      have b_3 : inN (nP) (y) := b_3
      obtain ⟨i, hi, rfl⟩ := b_1
      obtain ⟨j, hj, rfl⟩ := b_3
      refine lv_if_ne (tgt := 20) hx hb dX7_edge_13 (by decide) (fun _ => ?_) (fun c_13_4 => absurd c_13_4 (by decide))
      refine lv_aload_n hx hb dX7_edge_20 rfl (lv_at hl 0 rfl) ?_
      refine va_get (D := D) (ci := 7) (v := .ref (ad 22)) (C := RX7) (T := TX7) (N := 31) hx hb hts iX7_edge_X7 hown hK hP 0 rfl rfl 29 (by decide) f_81 (fun _ h9 => h9) rfl dX7_edge_21 ?_
      refine lv_iload_n hx hb dX7_edge_24 rfl (lv_at hl 1 rfl) ?_
      refine xil hx hb hK hP 22 1 rfl rfl (j := i) (by decide) (by omega) dX7_edge_25 ?_
      refine lv_aload_n hx hb dX7_edge_26 rfl (lv_at hl 0 rfl) ?_
      refine va_get (D := D) (ci := 7) (v := .ref (ad 21)) (C := RX7) (T := TX7) (N := 31) hx hb hts iX7_edge_X7 hown hK hP 0 rfl rfl 28 (by decide) f_78 (fun _ h9 => h9) rfl dX7_edge_27 ?_
      refine lv_iload_n hx hb dX7_edge_30 rfl (lv_at hl 2 rfl) ?_
      refine xil hx hb hK hP 21 1 rfl rfl (j := j) (by decide) (by omega) dX7_edge_31 ?_
      refine va_mmin hx hb (hml.trans hl.1.symm) hown (hts (.methodLink RX7 200 Lib.Math.min.name) (by decide +kernel)) (hts (.static Lib.Math.min.name) (by decide +kernel)) (hts (.initialized "java/lang/Math") (by decide +kernel)) (hts _ (List.mem_of_getElem? (i := 6) rfl)) (by decide) (Nat.le_of_ble_eq_true rfl) (Nat.zero_le _) (Nat.zero_le _) dX7_edge_32 ?_
      exact hret hS hP dX7_edge_35 (⟨Or.inl ⟨i, j, hi, hj, rfl, rfl, rfl⟩, rfl⟩)
    · skip
      have b_3 : ¬ (inN (nP) (y)) := b_3
      refine lv_if_ne (tgt := 20) hx hb dX7_edge_13 (by decide) (fun c_13_5 => absurd c_13_5 (by decide)) (fun _ => ?_)
      refine lv_iconst (v := (-1 : Int32)) hx hb dX7_edge_16 (by decide) ?_
      refine lv_goto (tgt := 35) hx hb dX7_edge_17 (by decide) ?_
      exact hret hS hP dX7_edge_35 (⟨Or.inr ⟨fun q => absurd q.2 b_3, rfl⟩, rfl⟩)
  · skip
    have b_1 : ¬ (inN (nP) (x)) := b_1
    refine lv_if_eq (tgt := 16) hx hb dX7_edge_5 (by decide) (fun _ => ?_) (fun c_5_6 => absurd c_5_6 (by decide))
    refine lv_iconst (v := (-1 : Int32)) hx hb dX7_edge_16 (by decide) ?_
    refine lv_goto (tgt := 35) hx hb dX7_edge_17 (by decide) ?_
    exact hret hS hP dX7_edge_35 (⟨Or.inr ⟨fun q => absurd q.1 b_1, rfl⟩, rfl⟩)
theorem iX6_sheet_X4 : ∀ w ∈ u_ws RX4 TX4 9, w ∈ wsX6_sheet := by decide +kernel
theorem iX6_sheet_X6 : ∀ w ∈ u_ws RX6 TX6 6, w ∈ wsX6_sheet := by decide +kernel
set_option maxHeartbeats 4000000 in
set_option maxRecDepth 100000 in
theorem kX6_sheet (l : Launch) (D : va_G) (cs : Nat → ClassId) (ad : Nat → Nat) (hd : distX ad) (sz : Nat) (S : XS) (hnP : S.1.2.2.2.2.1 ≤ 30) (hrp : RP S.1.2.2.2.2 S.2) (x w : Int32) : Met l yX6_sheet wsX6_sheet ({ frames := 1, cells := 0, slots := 0, locals := 21 } : Room) (gP D (WX cs ad) (EX D cs) S sz ([.ref (ad 0), .int (x), .int (w)] : List Value)) (va_Qi (fun r u => q_sheet S.1 x w r ∧ u = S) (gB D (WX cs ad)) (gA (AX ad) sz)) 0 0 (gA (AX ad) sz) := by
  obtain ⟨⟨⟨nN, px, py, pz, fx, fy, fz, lf, ld, fi⟩, ⟨nB, fr, tt, ln, wi, sg, pu⟩, ⟨nR, rd, rx, ry, wv, fo⟩, ⟨re, dg⟩, ⟨nP, tp, bt, dp⟩⟩, ⟨sp, ac, kp, kc, kn, aw, dw, su, ss, sd⟩⟩ := S
  have hnP : nP ≤ 30 := hnP
  have hrp : shA tp bt dp nP = (su, ss, sd) ∧ ∀ j, j < nP → shB (wideF tp bt j) (shA tp bt dp j) = (aw j, dw j) := hrp
  refine gMi (cc := cX6_sheet) (maxL := 3) (plainFor_of_name (by decide)) rfl (Nat.le_of_ble_eq_true rfl) ?_
  intro p e s m below meth c Q hx hb hts hown hml hsz hE hret H locs hP hS ls hl
  subst hsz
  have hown : s.vm.findClass RX6 = some m.cls := hown
  have hK : va_K D vwCl (tysX cs) s := hE.1
  have hD : ∀ u, va_D (gA (AX ad) s.heap.size) (WX cs ad u) := fun u => WX_D hd u
  have hl : lv_has ls 3 [(0, .ref (ad 0)), (1, .int (x)), (2, .int (w))] := hl
  have f_49 := hts (.fieldLink RX6 49 "NetShapes" "panels" "LNetShapes$Panels;") (by decide +kernel)
  have f_198 := hts (.fieldLink RX6 198 "NetShapes$Panels" "across" "[I") (by decide +kernel)
  have f_201 := hts (.fieldLink RX6 201 "NetShapes$Panels" "down" "[I") (by decide +kernel)
  refine lv_aload_n hx hb dX6_sheet_0 rfl (lv_at hl 0 rfl) ?_
  refine va_get (D := D) (ci := 6) (v := .ref (ad 6)) (C := RX6) (T := TX6) (N := 6) hx hb hts iX6_sheet_X6 hown hK hP 0 rfl rfl 5 (by decide) f_49 (fun _ h9 => h9) rfl dX6_sheet_1 ?_
  refine lv_iload_n hx hb dX6_sheet_4 rfl (lv_at hl 1 rfl) ?_
  refine gci (va_runV (As := [.int (x)]) (rest := []) ⟨hx, hb, hml, hown, hts⟩ (kX4_has l D cs ad hd H.size (((nN, px, py, pz, fx, fy, fz, lf, ld, fi), (nB, fr, tt, ln, wi, sg, pu), (nR, rd, rx, ry, wv, fo), (re, dg), (nP, tp, bt, dp)), (sp, ac, kp, kc, kn, aw, dw, su, ss, sd)) hnP x) (cwV 1 hts gX6_sheet_X4_has rfl rfl rfl (by decide +kernel) ⟨Nat.le_of_ble_eq_true rfl, Nat.le_of_ble_eq_true rfl⟩) (gPreV (EX_bl) (va_recv hK hP (ci := 4) (q0 := 6) rfl rfl) hP (fun U _ hW => EX_warm hW hE)) rfl rfl hl.1 rfl (lv_room (Nat.le_of_ble_eq_true rfl)) dX6_sheet_5 ⟨Nat.zero_le _, Nat.zero_le _⟩) hS (fun r_ u_ H locs hw hP hS => ?_)
  obtain ⟨rfl, hw⟩ := hw
  rcases hw with ⟨rfl, b_1⟩ | ⟨rfl, b_1⟩
  · skip
    have b_1 : inN (nP) (x) := b_1
    obtain ⟨j, hj, rfl⟩ := b_1
    refine lv_if_ne (tgt := 13) hx hb dX6_sheet_8 (by decide) (fun _ => ?_) (fun c_8_2 => absurd c_8_2 (by decide))
    refine lv_iload_n hx hb dX6_sheet_13 rfl (lv_at hl 2 rfl) ?_
    refine xsw (t0 := 40) (t1 := 50) (td := 60) hx hb dX6_sheet_14 (by decide) (by decide) (by decide) (fun w0 => ?_) (fun w1 => ?_) (fun n0 n1 => ?_)
    · skip
      refine lv_aload_n hx hb dX6_sheet_40 rfl (lv_at hl 0 rfl) ?_
      refine va_get (D := D) (ci := 6) (v := .ref (ad 6)) (C := RX6) (T := TX6) (N := 6) hx hb hts iX6_sheet_X6 hown hK hP 0 rfl rfl 5 (by decide) f_49 (fun _ h9 => h9) rfl dX6_sheet_41 ?_
      refine va_get (D := D) (ci := 4) (v := .ref (ad 28)) (C := RX4) (T := TX4) (N := 9) hx hb hts iX6_sheet_X4 hown hK hP 6 rfl rfl 3 (by decide) f_198 (fun _ h9 => h9) rfl dX6_sheet_44 ?_
      refine lv_iload_n hx hb dX6_sheet_47 rfl (lv_at hl 1 rfl) ?_
      refine xil hx hb hK hP 28 1 rfl rfl (j := j) (by decide) (by omega) dX6_sheet_48 ?_
      exact hret hS hP dX6_sheet_49 (⟨Or.inl ⟨j, hj, rfl, Or.inl ⟨w0, by rw [hrp.2 j hj]⟩⟩, rfl⟩)
    · skip
      refine lv_aload_n hx hb dX6_sheet_50 rfl (lv_at hl 0 rfl) ?_
      refine va_get (D := D) (ci := 6) (v := .ref (ad 6)) (C := RX6) (T := TX6) (N := 6) hx hb hts iX6_sheet_X6 hown hK hP 0 rfl rfl 5 (by decide) f_49 (fun _ h9 => h9) rfl dX6_sheet_51 ?_
      refine va_get (D := D) (ci := 4) (v := .ref (ad 29)) (C := RX4) (T := TX4) (N := 9) hx hb hts iX6_sheet_X4 hown hK hP 6 rfl rfl 4 (by decide) f_201 (fun _ h9 => h9) rfl dX6_sheet_54 ?_
      refine lv_iload_n hx hb dX6_sheet_57 rfl (lv_at hl 1 rfl) ?_
      refine xil hx hb hK hP 29 1 rfl rfl (j := j) (by decide) (by omega) dX6_sheet_58 ?_
      exact hret hS hP dX6_sheet_59 (⟨Or.inl ⟨j, hj, rfl, Or.inr ⟨w1, by rw [hrp.2 j hj]⟩⟩, rfl⟩)
    · skip
      refine lv_iconst (v := (-1 : Int32)) hx hb dX6_sheet_60 (by decide) ?_
      exact hret hS hP dX6_sheet_61 (⟨Or.inr ⟨fun q => q.2.elim n0 n1, rfl⟩, rfl⟩)
  · skip
    have b_1 : ¬ (inN (nP) (x)) := b_1
    refine lv_if_ne (tgt := 13) hx hb dX6_sheet_8 (by decide) (fun c_8_3 => absurd c_8_3 (by decide)) (fun _ => ?_)
    refine lv_iconst (v := (-1 : Int32)) hx hb dX6_sheet_11 (by decide) ?_
    exact hret hS hP dX6_sheet_12 (⟨Or.inr ⟨fun q => absurd q.1 b_1, rfl⟩, rfl⟩)
theorem iX7_sheet_X7 : ∀ w ∈ u_ws RX7 TX7 31, w ∈ wsX7_sheet := by decide +kernel
set_option maxHeartbeats 4000000 in
set_option maxRecDepth 100000 in
theorem kX7_sheet (l : Launch) (D : va_G) (cs : Nat → ClassId) (ad : Nat → Nat) (hd : distM ad) (sz : Nat) (S : MS) (hnP : S.1.2.2.2.2.1 ≤ 30) (x w : Int32) : Met l yX7_sheet wsX7_sheet ({ frames := 1, cells := 0, slots := 0, locals := 21 } : Room) (gP D (WM cs ad) (EM D cs) S sz ([.ref (ad 0), .int (x), .int (w)] : List Value)) (va_Qi (fun r u => q_sheet S.1 x w r ∧ u = S) (gB D (WM cs ad)) (gA (AM ad) sz)) 0 0 (gA (AM ad) sz) := by
  obtain ⟨⟨⟨nN, px, py, pz, fx, fy, fz, lf, ld, fi⟩, ⟨nB, fr, tt, ln, wi, sg, pu⟩, ⟨nR, rd, rx, ry, wv, fo⟩, ⟨re, dg⟩, ⟨nP, tp, bt, dp⟩⟩, ⟨nQ, fu⟩⟩ := S
  have hnP : nP ≤ 30 := hnP
  refine gMi (cc := cX7_sheet) (maxL := 8) (plainFor_of_name (by decide)) rfl (Nat.le_of_ble_eq_true rfl) ?_
  intro p e s m below meth c Q hx hb hts hown hml hsz hE hret H locs hP hS ls hl
  subst hsz
  have hown : s.vm.findClass RX7 = some m.cls := hown
  have hK : va_K D vwCl (tysX cs) s := hE.1
  have hD : ∀ u, va_D (gA (AM ad) s.heap.size) (WM cs ad u) := fun u => WM_D hd u
  have hl : lv_has ls 8 [(0, .ref (ad 0)), (1, .int (x)), (2, .int (w))] := hl
  have f_78 := hts (.fieldLink RX7 78 "NetShapesModel" "tops" "[I") (by decide +kernel)
  have f_81 := hts (.fieldLink RX7 81 "NetShapesModel" "bottoms" "[I") (by decide +kernel)
  have f_84 := hts (.fieldLink RX7 84 "NetShapesModel" "deeps" "[I") (by decide +kernel)
  refine lv_aload_n hx hb dX7_sheet_0 rfl (lv_at hl 0 rfl) ?_
  refine lv_iload_n hx hb dX7_sheet_1 rfl (lv_at hl 1 rfl) ?_
  refine gci (va_runV (As := [.int (x)]) (rest := []) ⟨hx, hb, hml, hown, hts⟩ (kX7_isPanel l D cs ad hd H.size (((nN, px, py, pz, fx, fy, fz, lf, ld, fi), (nB, fr, tt, ln, wi, sg, pu), (nR, rd, rx, ry, wv, fo), (re, dg), (nP, tp, bt, dp)), (nQ, fu)) hnP x) (cwV 1 hts gX7_sheet_X7_isPanel rfl rfl rfl (by decide +kernel) ⟨Nat.le_of_ble_eq_true rfl, Nat.le_of_ble_eq_true rfl⟩) (gPreV (EM_bl) (va_recv hK hP (ci := 7) (q0 := 0) rfl rfl) hP (fun U _ hW => EM_warm hW hE)) rfl rfl hl.1 rfl (lv_room (Nat.le_of_ble_eq_true rfl)) dX7_sheet_2 ⟨Nat.zero_le _, Nat.zero_le _⟩) hS (fun r_ u_ H locs hw hP hS => ?_)
  obtain ⟨rfl, hw⟩ := hw
  rcases hw with ⟨rfl, b_1⟩ | ⟨rfl, b_1⟩
  · skip
    have b_1 : inN (nP) (x) := b_1
    obtain ⟨j, hj, rfl⟩ := b_1
    refine lv_if_eq (tgt := 17) hx hb dX7_sheet_5 (by decide) (fun c_5_2 => absurd c_5_2 (by decide)) (fun _ => ?_)
    refine lv_iload_n hx hb dX7_sheet_8 rfl (lv_at hl 2 rfl) ?_
    refine lv_if_lt (tgt := 17) hx hb dX7_sheet_9 (by decide) (fun c_9_3 => ?_) (fun c_9_3 => ?_)
    · skip
      refine lv_iconst (v := (-1 : Int32)) hx hb dX7_sheet_17 (by decide) ?_
      exact hret hS hP dX7_sheet_18 (⟨Or.inr ⟨fun q => w_neg c_9_3 q.2, rfl⟩, rfl⟩)
    · skip
      refine lv_iload_n hx hb dX7_sheet_12 rfl (lv_at hl 2 rfl) ?_
      refine lv_iconst (v := nI 1) hx hb dX7_sheet_13 (by decide) ?_
      refine lv_icmp_le (tgt := 19) hx hb dX7_sheet_14 (by decide) (fun c_14_4 => ?_) (fun c_14_4 => ?_)
      · skip
        refine lv_iconst (v := nI 0) hx hb dX7_sheet_19 (by decide) ?_
        refine lv_istore_n (lv' := [(3, .int (nI 0)), (0, .ref (ad 0)), (1, .int (nI j)), (2, .int (w))]) hx hb dX7_sheet_20 rfl hl (by decide) rfl (fun ls hl => ?_)
        refine lv_iconst (v := nI 0) hx hb dX7_sheet_21 (by decide) ?_
        refine lv_istore (lv' := [(4, .int (nI 0)), (3, .int (nI 0)), (0, .ref (ad 0)), (1, .int (nI j)), (2, .int (w))]) hx hb dX7_sheet_22 hl (by decide) rfl (fun ls hl => ?_)
        refine lv_iconst (v := nI 0) hx hb dX7_sheet_24 (by decide) ?_
        refine lv_istore (lv' := [(5, .int (nI 0)), (4, .int (nI 0)), (3, .int (nI 0)), (0, .ref (ad 0)), (1, .int (nI j)), (2, .int (w))]) hx hb dX7_sheet_25 hl (by decide) rfl (fun ls hl => ?_)
        refine lv_iconst (v := nI 0) hx hb dX7_sheet_27 (by decide) ?_
        refine lv_istore (lv' := [(6, .int (nI 0)), (5, .int (nI 0)), (4, .int (nI 0)), (3, .int (nI 0)), (0, .ref (ad 0)), (1, .int (nI j)), (2, .int (w))]) hx hb dX7_sheet_28 hl (by decide) rfl (fun ls hl => ?_)
        have L_30_5 : ∀ (n_30 i : Nat) (a3 : Int32) (a4 : Int32) (a5 : Int32), (j + 1 ≤ i + n_30) → (i ≤ j) → ((a3, a4, a5) = shA tp bt dp i) → ∀ (H : Heap) (locs : List Loc), va_P D vwCl (WM cs ad (((nN, px, py, pz, fx, fy, fz, lf, ld, fi), (nB, fr, tt, ln, wi, sg, pu), (nR, rd, rx, ry, wv, fo), (re, dg), (nP, tp, bt, dp)), (nQ, fu))) H → va_S (gA (AM ad) s.heap.size) s.heap H locs → ∀ (ls : Array Slot), lv_has ls 8 [(6, .int (nI i)), (5, .int (a5)), (4, .int (a4)), (3, .int (a3)), (0, .ref (ad 0)), (1, .int (nI j)), (2, .int (w))] → W p l e ({ frames := 1, cells := 0, slots := 0, locals := 21 } : Room) s m ([.ref (ad 0), .int (nI j), .int (w)] : List Value).toArray below meth c H locs 0 0 Q (F0 m 30 ls []) := by
          intro n_30; induction n_30 with
          | zero => intro i a3 a4 a5 hf_30 hi hs H locs hP hS ls hl; exact absurd hf_30 (by omega)
          | succ n_30 ih_30 =>
            intro i a3 a4 a5 hf_30 hi hs H locs hP hS ls hl
            refine lv_iload hx hb dX7_sheet_30 (lv_at hl 0 rfl) ?_
            refine lv_iload_n hx hb dX7_sheet_32 rfl (lv_at hl 5 rfl) ?_
            refine lv_icmp_gt (tgt := 119) hx hb dX7_sheet_33 (by decide) (fun c_33_6 => ?_) (fun c_33_6 => ?_)
            · skip
              have c_33_6 : j < i := (nI_ltI (a := j) (b := i) (by omega) (by omega)).mp c_33_6
              refine lv_iconst (v := (-1 : Int32)) hx hb dX7_sheet_119 (by decide) ?_
              exact hret hS hP dX7_sheet_120 ((absurd hi (by omega)))
            · skip
              have c_33_6 : ¬ (j < i) := fun q => c_33_6 ((nI_ltI (a := j) (b := i) (by omega) (by omega)).mpr q)
              refine lv_aload_n hx hb dX7_sheet_36 rfl (lv_at hl 4 rfl) ?_
              refine va_get (D := D) (ci := 7) (v := .ref (ad 21)) (C := RX7) (T := TX7) (N := 31) hx hb hts iX7_sheet_X7 hown hK hP 0 rfl rfl 28 (by decide) f_78 (fun _ h9 => h9) rfl dX7_sheet_37 ?_
              refine lv_iload hx hb dX7_sheet_40 (lv_at hl 0 rfl) ?_
              refine xil hx hb hK hP 21 1 rfl rfl (j := i) (by decide) (by omega) dX7_sheet_42 ?_
              refine lv_aload_n hx hb dX7_sheet_43 rfl (lv_at hl 4 rfl) ?_
              refine va_get (D := D) (ci := 7) (v := .ref (ad 22)) (C := RX7) (T := TX7) (N := 31) hx hb hts iX7_sheet_X7 hown hK hP 0 rfl rfl 29 (by decide) f_81 (fun _ h9 => h9) rfl dX7_sheet_44 ?_
              refine lv_iload hx hb dX7_sheet_47 (lv_at hl 0 rfl) ?_
              refine xil hx hb hK hP 22 1 rfl rfl (j := i) (by decide) (by omega) dX7_sheet_49 ?_
              refine va_mmax hx hb (hml.trans hl.1.symm) hown (hts (.methodLink RX7 202 Lib.Math.max.name) (by decide +kernel)) (hts (.static Lib.Math.max.name) (by decide +kernel)) (hts (.initialized "java/lang/Math") (by decide +kernel)) (hts _ (List.mem_of_getElem? (i := 6) rfl)) (by decide) (Nat.le_of_ble_eq_true rfl) (Nat.zero_le _) (Nat.zero_le _) dX7_sheet_50 ?_
              refine lv_istore (lv' := [(7, .int (if (tp i) < (bt i) then (bt i) else (tp i))), (6, .int (nI i)), (5, .int (a5)), (4, .int (a4)), (3, .int (a3)), (0, .ref (ad 0)), (1, .int (nI j)), (2, .int (w))]) hx hb dX7_sheet_53 hl (by decide) rfl (fun ls hl => ?_)
              refine lv_iload_n hx hb dX7_sheet_55 rfl (lv_at hl 4 rfl) ?_
              refine lv_iload hx hb dX7_sheet_56 (lv_at hl 0 rfl) ?_
              refine lv_iadd hx hb dX7_sheet_58 ?_
              refine lv_sipush (v := nI 400) hx hb dX7_sheet_59 (by decide) ?_
              refine lv_icmp_le (tgt := 77) hx hb dX7_sheet_62 (by decide) (fun c_62_7 => ?_) (fun c_62_7 => ?_)
              · skip
                refine lv_iload hx hb dX7_sheet_77 (lv_at hl 1 rfl) ?_
                refine lv_iload_n hx hb dX7_sheet_79 rfl (lv_at hl 6 rfl) ?_
                refine lv_icmp_ne (tgt := 94) hx hb dX7_sheet_80 (by decide) (fun c_80_8 => ?_) (fun c_80_8 => ?_)
                · skip
                  have c_80_8 : ¬ (i = j) := fun q => c_80_8 ((nI_eq (a := i) (b := j) (by omega) (by omega)).mpr q)
                  refine lv_iload_n hx hb dX7_sheet_94 rfl (lv_at hl 4 rfl) ?_
                  refine lv_iload hx hb dX7_sheet_95 (lv_at hl 0 rfl) ?_
                  refine lv_iadd hx hb dX7_sheet_97 ?_
                  refine lv_istore_n (lv' := [(3, .int (a3 + (if (tp i) < (bt i) then (bt i) else (tp i)))), (7, .int (if (tp i) < (bt i) then (bt i) else (tp i))), (6, .int (nI i)), (5, .int (a5)), (4, .int (a4)), (0, .ref (ad 0)), (1, .int (nI j)), (2, .int (w))]) hx hb dX7_sheet_98 rfl hl (by decide) rfl (fun ls hl => ?_)
                  refine lv_iload hx hb dX7_sheet_99 (lv_at hl 3 rfl) ?_
                  refine lv_aload_n hx hb dX7_sheet_101 rfl (lv_at hl 5 rfl) ?_
                  refine va_get (D := D) (ci := 7) (v := .ref (ad 23)) (C := RX7) (T := TX7) (N := 31) hx hb hts iX7_sheet_X7 hown hK hP 0 rfl rfl 30 (by decide) f_84 (fun _ h9 => h9) rfl dX7_sheet_102 ?_
                  refine lv_iload hx hb dX7_sheet_105 (lv_at hl 2 rfl) ?_
                  refine xil hx hb hK hP 23 1 rfl rfl (j := i) (by decide) (by omega) dX7_sheet_107 ?_
                  refine va_mmax hx hb (hml.trans hl.1.symm) hown (hts (.methodLink RX7 202 Lib.Math.max.name) (by decide +kernel)) (hts (.static Lib.Math.max.name) (by decide +kernel)) (hts (.initialized "java/lang/Math") (by decide +kernel)) (hts _ (List.mem_of_getElem? (i := 6) rfl)) (by decide) (Nat.le_of_ble_eq_true rfl) (Nat.zero_le _) (Nat.zero_le _) dX7_sheet_108 ?_
                  refine lv_istore (lv' := [(5, .int (if a5 < (dp i) then (dp i) else a5)), (3, .int (a3 + (if (tp i) < (bt i) then (bt i) else (tp i)))), (7, .int (if (tp i) < (bt i) then (bt i) else (tp i))), (6, .int (nI i)), (4, .int (a4)), (0, .ref (ad 0)), (1, .int (nI j)), (2, .int (w))]) hx hb dX7_sheet_111 hl (by decide) rfl (fun ls hl => ?_)
                  refine lv_iinc (v := nI (i + 1)) (lv' := [(6, .int (nI (i + 1))), (5, .int (if a5 < (dp i) then (dp i) else a5)), (3, .int (a3 + (if (tp i) < (bt i) then (bt i) else (tp i)))), (7, .int (if (tp i) < (bt i) then (bt i) else (tp i))), (4, .int (a4)), (0, .ref (ad 0)), (1, .int (nI j)), (2, .int (w))]) hx hb dX7_sheet_113 hl (k := 3) rfl (nI_add _ _) (by decide) rfl (fun ls hl => ?_)
                  refine lv_goto (tgt := 30) hx hb dX7_sheet_116 (by decide) ?_
                  exact ih_30 (i + 1) (a3 + (if (tp i) < (bt i) then (bt i) else (tp i))) (a4) (if a5 < (dp i) then (dp i) else a5) (by omega) (by omega) (by show _ = shStep _ _ _; rw [← hs, shStep_p (w := wideF tp bt i) c_62_7]; rfl) _ _ hP hS ls (lv_sub hl [0, 1, 4, 2, 5, 6, 7] rfl)
                · skip
                  have c_80_8 : i = j := (nI_eq (a := i) (b := j) (by omega) (by omega)).mp c_80_8
                  refine lv_iload_n hx hb dX7_sheet_83 rfl (lv_at hl 7 rfl) ?_
                  refine lv_if_ne (tgt := 91) hx hb dX7_sheet_84 (by decide) (fun c_84_9 => ?_) (fun c_84_9 => ?_)
                  · skip
                    refine lv_iload hx hb dX7_sheet_91 (lv_at hl 3 rfl) ?_
                    exact hret hS hP dX7_sheet_93 (⟨Or.inl ⟨i, by omega, by rw [show i = j by omega], Or.inr ⟨w_one c_9_3 c_14_4 c_84_9, by rw [← hs, shB_p (w := wideF tp bt i) c_62_7]⟩⟩, rfl⟩)
                  · skip
                    refine lv_iload_n hx hb dX7_sheet_87 rfl (lv_at hl 4 rfl) ?_
                    refine lv_goto (tgt := 93) hx hb dX7_sheet_88 (by decide) ?_
                    exact hret hS hP dX7_sheet_93 (⟨Or.inl ⟨i, by omega, by rw [show i = j by omega], Or.inl ⟨c_84_9, by rw [← hs, shB_p (w := wideF tp bt i) c_62_7]⟩⟩, rfl⟩)
              · skip
                refine lv_iload hx hb dX7_sheet_65 (lv_at hl 3 rfl) ?_
                refine lv_iload hx hb dX7_sheet_67 (lv_at hl 2 rfl) ?_
                refine lv_iadd hx hb dX7_sheet_69 ?_
                refine lv_istore (lv' := [(4, .int (a4 + a5)), (7, .int (if (tp i) < (bt i) then (bt i) else (tp i))), (6, .int (nI i)), (5, .int (a5)), (3, .int (a3)), (0, .ref (ad 0)), (1, .int (nI j)), (2, .int (w))]) hx hb dX7_sheet_70 hl (by decide) rfl (fun ls hl => ?_)
                refine lv_iconst (v := nI 0) hx hb dX7_sheet_72 (by decide) ?_
                refine lv_istore_n (lv' := [(3, .int (nI 0)), (4, .int (a4 + a5)), (7, .int (if (tp i) < (bt i) then (bt i) else (tp i))), (6, .int (nI i)), (5, .int (a5)), (0, .ref (ad 0)), (1, .int (nI j)), (2, .int (w))]) hx hb dX7_sheet_73 rfl hl (by decide) rfl (fun ls hl => ?_)
                refine lv_iconst (v := nI 0) hx hb dX7_sheet_74 (by decide) ?_
                refine lv_istore (lv' := [(5, .int (nI 0)), (3, .int (nI 0)), (4, .int (a4 + a5)), (7, .int (if (tp i) < (bt i) then (bt i) else (tp i))), (6, .int (nI i)), (0, .ref (ad 0)), (1, .int (nI j)), (2, .int (w))]) hx hb dX7_sheet_75 hl (by decide) rfl (fun ls hl => ?_)
                refine lv_iload hx hb dX7_sheet_77 (lv_at hl 4 rfl) ?_
                refine lv_iload_n hx hb dX7_sheet_79 rfl (lv_at hl 6 rfl) ?_
                refine lv_icmp_ne (tgt := 94) hx hb dX7_sheet_80 (by decide) (fun c_80_10 => ?_) (fun c_80_10 => ?_)
                · skip
                  have c_80_10 : ¬ (i = j) := fun q => c_80_10 ((nI_eq (a := i) (b := j) (by omega) (by omega)).mpr q)
                  refine lv_iload_n hx hb dX7_sheet_94 rfl (lv_at hl 1 rfl) ?_
                  refine lv_iload hx hb dX7_sheet_95 (lv_at hl 3 rfl) ?_
                  refine lv_iadd hx hb dX7_sheet_97 ?_
                  refine lv_istore_n (lv' := [(3, .int ((nI 0) + (if (tp i) < (bt i) then (bt i) else (tp i)))), (5, .int (nI 0)), (4, .int (a4 + a5)), (7, .int (if (tp i) < (bt i) then (bt i) else (tp i))), (6, .int (nI i)), (0, .ref (ad 0)), (1, .int (nI j)), (2, .int (w))]) hx hb dX7_sheet_98 rfl hl (by decide) rfl (fun ls hl => ?_)
                  refine lv_iload hx hb dX7_sheet_99 (lv_at hl 1 rfl) ?_
                  refine lv_aload_n hx hb dX7_sheet_101 rfl (lv_at hl 5 rfl) ?_
                  refine va_get (D := D) (ci := 7) (v := .ref (ad 23)) (C := RX7) (T := TX7) (N := 31) hx hb hts iX7_sheet_X7 hown hK hP 0 rfl rfl 30 (by decide) f_84 (fun _ h9 => h9) rfl dX7_sheet_102 ?_
                  refine lv_iload hx hb dX7_sheet_105 (lv_at hl 4 rfl) ?_
                  refine xil hx hb hK hP 23 1 rfl rfl (j := i) (by decide) (by omega) dX7_sheet_107 ?_
                  refine va_mmax hx hb (hml.trans hl.1.symm) hown (hts (.methodLink RX7 202 Lib.Math.max.name) (by decide +kernel)) (hts (.static Lib.Math.max.name) (by decide +kernel)) (hts (.initialized "java/lang/Math") (by decide +kernel)) (hts _ (List.mem_of_getElem? (i := 6) rfl)) (by decide) (Nat.le_of_ble_eq_true rfl) (Nat.zero_le _) (Nat.zero_le _) dX7_sheet_108 ?_
                  refine lv_istore (lv' := [(5, .int (if (nI 0) < (dp i) then (dp i) else (nI 0))), (3, .int ((nI 0) + (if (tp i) < (bt i) then (bt i) else (tp i)))), (4, .int (a4 + a5)), (7, .int (if (tp i) < (bt i) then (bt i) else (tp i))), (6, .int (nI i)), (0, .ref (ad 0)), (1, .int (nI j)), (2, .int (w))]) hx hb dX7_sheet_111 hl (by decide) rfl (fun ls hl => ?_)
                  refine lv_iinc (v := nI (i + 1)) (lv' := [(6, .int (nI (i + 1))), (5, .int (if (nI 0) < (dp i) then (dp i) else (nI 0))), (3, .int ((nI 0) + (if (tp i) < (bt i) then (bt i) else (tp i)))), (4, .int (a4 + a5)), (7, .int (if (tp i) < (bt i) then (bt i) else (tp i))), (0, .ref (ad 0)), (1, .int (nI j)), (2, .int (w))]) hx hb dX7_sheet_113 hl (k := 4) rfl (nI_add _ _) (by decide) rfl (fun ls hl => ?_)
                  refine lv_goto (tgt := 30) hx hb dX7_sheet_116 (by decide) ?_
                  exact ih_30 (i + 1) ((nI 0) + (if (tp i) < (bt i) then (bt i) else (tp i))) (a4 + a5) (if (nI 0) < (dp i) then (dp i) else (nI 0)) (by omega) (by omega) (by show _ = shStep _ _ _; rw [← hs, shStep_n (w := wideF tp bt i) c_62_7]; rfl) _ _ hP hS ls (lv_sub hl [0, 1, 3, 2, 5, 6, 7] rfl)
                · skip
                  have c_80_10 : i = j := (nI_eq (a := i) (b := j) (by omega) (by omega)).mp c_80_10
                  refine lv_iload_n hx hb dX7_sheet_83 rfl (lv_at hl 7 rfl) ?_
                  refine lv_if_ne (tgt := 91) hx hb dX7_sheet_84 (by decide) (fun c_84_11 => ?_) (fun c_84_11 => ?_)
                  · skip
                    refine lv_iload hx hb dX7_sheet_91 (lv_at hl 2 rfl) ?_
                    exact hret hS hP dX7_sheet_93 (⟨Or.inl ⟨i, by omega, by rw [show i = j by omega], Or.inr ⟨w_one c_9_3 c_14_4 c_84_11, by rw [← hs, shB_n (w := wideF tp bt i) c_62_7]⟩⟩, rfl⟩)
                  · skip
                    refine lv_iload_n hx hb dX7_sheet_87 rfl (lv_at hl 1 rfl) ?_
                    refine lv_goto (tgt := 93) hx hb dX7_sheet_88 (by decide) ?_
                    exact hret hS hP dX7_sheet_93 (⟨Or.inl ⟨i, by omega, by rw [show i = j by omega], Or.inl ⟨c_84_11, by rw [← hs, shB_n (w := wideF tp bt i) c_62_7]⟩⟩, rfl⟩)
        exact L_30_5 (j + 1) (0) (nI 0) (nI 0) (nI 0) (by omega) (by omega) rfl _ _ hP hS ls (lv_sub hl [0, 1, 2, 3, 4, 5, 6] rfl)
      · skip
        refine lv_iconst (v := (-1 : Int32)) hx hb dX7_sheet_17 (by decide) ?_
        exact hret hS hP dX7_sheet_18 (⟨Or.inr ⟨fun q => w_big c_14_4 q.2, rfl⟩, rfl⟩)
  · skip
    have b_1 : ¬ (inN (nP) (x)) := b_1
    refine lv_if_eq (tgt := 17) hx hb dX7_sheet_5 (by decide) (fun _ => ?_) (fun c_5_12 => absurd c_5_12 (by decide))
    refine lv_iconst (v := (-1 : Int32)) hx hb dX7_sheet_17 (by decide) ?_
    exact hret hS hP dX7_sheet_18 (⟨Or.inr ⟨fun q => absurd q.1 b_1, rfl⟩, rfl⟩)
end
