/-! constructors -/
def EC (D : va_G) (cs : Nat → ClassId) (U : State) : Prop := va_K D vwCl (tysX cs) U ∧ va_AOA .double U ∧ va_Nw (.methodLinkNest RX6 9 yX3_init RX6) U ∧ va_Nw (.methodLinkNest RX6 18 yX1_init RX6) U ∧ va_Nw (.methodLinkNest RX6 25 yX5_init RX6) U ∧ va_Nw (.methodLinkNest RX6 41 yX2_init RX6) U ∧ va_Nw (.methodLinkNest RX6 48 yX4_init RX6) U
theorem nw_over {ty : FieldType} {s U : State} (hW : s.WarmedH U.vm) (h : va_AOA ty s) : va_AOA ty U := (show (Cond.arrayOver (.array ty)).before #[] (s.setVm U.vm) = true by rw [Cond.arrayOver_setVmC hW.alike]; exact h)
theorem EC_warm {D : va_G} {cs : Nat → ClassId} {s U : State} (hW : s.WarmedH U.vm) (h : EC D cs s) : EC D cs U := ⟨va_K.moved hW.alike h.1, nw_over hW h.2.1, va_Nw.warmM hW h.2.2.1, va_Nw.warmM hW h.2.2.2.1, va_Nw.warmM hW h.2.2.2.2.1, va_Nw.warmM hW h.2.2.2.2.2.1, va_Nw.warmM hW h.2.2.2.2.2.2⟩
theorem EC_bl {D : va_G} {cs : Nat → ClassId} : gE (EC D cs) := fun U g mk a h => ⟨va_K.moved (u := U) (U := U.calling g mk a) (Vm.Alike.refl U.vm) h.1, h.2.1, va_Nw.same rfl (u := U) (U := U.calling g mk a) rfl h.2.2.1, va_Nw.same rfl (u := U) (U := U.calling g mk a) rfl h.2.2.2.1, va_Nw.same rfl (u := U) (U := U.calling g mk a) rfl h.2.2.2.2.1, va_Nw.same rfl (u := U) (U := U.calling g mk a) rfl h.2.2.2.2.2.1, va_Nw.same rfl (u := U) (U := U.calling g mk a) rfl h.2.2.2.2.2.2⟩
def cB (D : va_G) (A : Nat → Prop) (w : (Nat → Nat) → va_W) : (Nat → Nat) → State → Prop := fun r t => va_P D vwCl (w r) t.heap ∧ va_D A (w r)
theorem D_one {a sz : Nat} {e : va_E} : va_D (va_A [(a, e)] sz) [(a, e)] := ⟨fun i j p q hi hj _ => by
  have h1 := (List.getElem?_eq_some_iff.mp hi).1
  have h2 := (List.getElem?_eq_some_iff.mp hj).1
  simp at h1 h2
  omega, fun k q h => va_A.in h⟩
def lk (l : List Nat) : Nat → Nat := fun k => l.getD k 0
section MK
variable {p : Program} {l : Launch} {e : Env} {R : Room} {s : State} {m : MethodId} {args : Array Value} {below : List Frame} {meth : Method} {c : Code} {H : Heap} {locs : List Loc} {cells slots : Nat} {Q : State → Prop}
variable {cc : ByteArray} {pc : Nat} {ls : Array Slot} {rest : List Value} {D : va_G} {cl : List vw_C} {A : Nat → Prop} {a : Nat} {tys : List (ClassId × FieldType)} {ws : va_W} {H0 : Heap}
theorem xnew (hexec : p.tables.exec = Jvm.exec) (hb : c.code = cc) {atype : ArrayType} (harr : (Cond.arrayClass (newarray.typeOf atype)).before args s = true) {ty : FieldType} (hty : newarray.typeOf atype = ty) (hK : va_K D cl tys s) (hP : va_P D cl ws H) (hD : va_D A ws) (hS : va_S A H0 H locs) (hA : ∀ q, H0.size ≤ q → A q) (t0 : Nat) {cX : ClassId} (ht : tys[t0]? = some (cX, ty)) (hra : ∀ cA, va_RA s cA ty → s.vm.findClass ("[" ++ ty.toString) = some cA)
    {n N' : Nat} {a0 : vp_A} (ha : ∀ cA : ClassId, vp_cell cA a0 = arrV cA N' (fun _ => defaultValue ty)) (hn : n < 2 ^ 31) (hN : n = N') (hbytes : N' * componentBytes ty ≤ 536870912) (hcells : cells + 1 ≤ R.cells) (hslots : slots + N' ≤ R.slots) (hdg : decode cc pc = .ok (.newarray atype, 2))
    (kk : ∀ (q : Nat) (H1 : Heap), va_P D cl (ws ++ [(q, .inl (cX, a0))]) H1 → va_D A (ws ++ [(q, .inl (cX, a0))]) → va_S A H0 H1 locs →
      W p l e R s m args below meth c H1 locs (cells + 1) (slots + N') Q (F0 m (pc + 2) ls (.ref q :: rest))) : W p l e R s m args below meth c H locs cells slots Q (F0 m pc ls (.int (nI n) :: rest)) := by
  refine va_newa hexec hb harr hty hK hP hD hS hA ha (nI_pos hn) (by rw [nI_clamp hn]; exact hN) hbytes hcells hslots hdg (fun q cA H1 hK1 hP1 hD1 hS1 => ?_)
  have h1 := hra cA (hK1.2 tys.length (cA, ty) (by simp)).2
  have h2 := hra cX (hK.2 t0 (cX, ty) ht).2
  have e : cA = cX := Option.some.inj (h1.symm.trans h2)
  subst e
  exact kk q H1 hP1 hD1 hS1
theorem D_above {A : Nat → Prop} {ws : va_W} {a : Nat} {e : va_E} (hD : va_D A ws) (hlt : ∀ (k : Nat) (q : Nat × va_E), ws[k]? = some q → q.1 < a) (hA : A a) : va_D A (ws ++ [(a, e)]) ∧ ∀ (k : Nat) (q : Nat × va_E), (ws ++ [(a, e)])[k]? = some q → q.1 < a + 1 := by
  have key : ∀ (k : Nat) (q : Nat × va_E), (ws ++ [(a, e)])[k]? = some q → ws[k]? = some q ∨ (k = ws.length ∧ q = (a, e)) := by
    intro k q h
    rcases Nat.lt_or_ge k ws.length with hk | hk
    · rw [List.getElem?_append_left hk] at h
      exact Or.inl h
    · rw [List.getElem?_append_right hk] at h
      have h1 : k - ws.length < 1 := (List.getElem?_eq_some_iff.mp h).1
      rw [show k - ws.length = 0 by omega] at h
      exact Or.inr ⟨by omega, (Option.some.inj h).symm⟩
  refine ⟨⟨fun i j x y hi hj hxy => ?_, fun k q h => ?_⟩, fun k q h => ?_⟩
  · rcases key i x hi with h1 | ⟨h1, rfl⟩ <;> rcases key j y hj with h2 | ⟨h2, rfl⟩
    · exact hD.1 i j x y h1 h2 hxy
    · exact absurd hxy (Nat.ne_of_lt (hlt i x h1))
    · exact absurd hxy.symm (Nat.ne_of_lt (hlt j y h2))
    · exact h1.trans h2.symm
  · rcases key k q h with h1 | ⟨-, rfl⟩
    · exact hD.2 k q h1
    · exact hA
  · rcases key k q h with h1 | ⟨-, rfl⟩
    · exact Nat.lt_succ_of_lt (hlt k q h1)
    · exact Nat.lt_succ_self a
theorem row_3 (r : Nat → Nat) : (fun i => if i < 3 then some (r i) else none) = row3 (r 0) (r 1) (r 2) := by
  funext i
  match i with
  | 0 => rfl
  | 1 => rfl
  | 2 => rfl
  | k + 3 => exact if_neg (by omega)
theorem xmna (hexec : p.tables.exec = Jvm.exec) (hb : c.code = cc) {own : String} {index : Nat} (hown : s.vm.findClass own = some m.cls) (hclink : (Cond.classLink own index "[[D").before args s = true) (hover : va_AOA .double s) (harr : (Cond.arrayClass .double).before args s = true) {cs : Nat → ClassId}
    (hK : va_K D cl (tysX cs) s) (hP : va_P D cl ws H) (hD : va_D A ws) (hS : va_S A H0 H locs) (hA : ∀ q, H0.size ≤ q → A q) (hcells : cells + 4 ≤ R.cells) (hslots : slots + 93 ≤ R.slots) (hdg : decode cc pc = .ok (.multianewarray index 2, 4))
    (kk : ∀ (q r0 r1 r2 : Nat) (H1 : Heap), va_P D cl (ws ++ [(q, .inl (cs 3, 3, .inr (.inr (.inr (.inr (row3 r0 r1 r2)))))), (r0, .inl (cs 0, 30, .inr (.inr (.inr (.inl (fun _ => 0)))))), (r1, .inl (cs 0, 30, .inr (.inr (.inr (.inl (fun _ => 0)))))), (r2, .inl (cs 0, 30, .inr (.inr (.inr (.inl (fun _ => 0))))))]) H1 → va_D A (ws ++ [(q, .inl (cs 3, 3, .inr (.inr (.inr (.inr (row3 r0 r1 r2)))))), (r0, .inl (cs 0, 30, .inr (.inr (.inr (.inl (fun _ => 0)))))), (r1, .inl (cs 0, 30, .inr (.inr (.inr (.inl (fun _ => 0)))))), (r2, .inl (cs 0, 30, .inr (.inr (.inr (.inl (fun _ => 0))))))]) → va_S A H0 H1 locs →
      W p l e R s m args below meth c H1 locs (cells + 4) (slots + 93) Q (F0 m (pc + 4) ls (.ref q :: rest))) : W p l e R s m args below meth c H locs cells slots Q (F0 m pc ls (.int (nI 30) :: .int (nI 3) :: rest)) := by
  have hd : s.vm.findClass "[D" = some (cs 0) := (hK.2 0 (cs 0, .double) rfl).2
  have hr : s.vm.findClass "[[D" = some (cs 3) := (hK.2 3 (cs 3, .array .double) rfl).2
  refine ow_mna hexec hb hown hclink hover harr hcells hslots (k := nI 30) (n := nI 3) rfl rfl hdg (fun H1 cA cI qA qI hz ho hm hw => ?_)
  have e1 : cI = cs 0 := Option.some.inj (qI.symm.trans hd)
  have e2 : cA = cs 3 := Option.some.inj (qA.symm.trans hr)
  subst e1
  subst e2
  have hlt : ∀ (k : Nat) (q : Nat × va_E), ws[k]? = some q → q.1 < H.size := fun k q h => (hP k q h).lt
  have c0 := hw 0 (by decide)
  have c1 := hw 1 (by decide)
  have c2 := hw 2 (by decide)
  have hq : arrV (cs 3) 3 (mz_f H.size 3) = vp_cell (cs 3) (3, .inr (.inr (.inr (.inr (row3 (H.size + 1 + 0) (H.size + 1 + 1) (H.size + 1 + 2)))))) := by
    rw [vp_cell_q, ← row_3 (fun j => H.size + 1 + j)]
    rfl
  rw [hq] at hm
  have hs := hS.1
  obtain ⟨d1, l1⟩ := D_above (e := .inl (cs 3, 3, .inr (.inr (.inr (.inr (row3 (H.size + 1 + 0) (H.size + 1 + 1) (H.size + 1 + 2))))))) hD hlt (hA _ hs)
  obtain ⟨d2, l2⟩ := D_above (e := .inl (cs 0, 30, .inr (.inr (.inr (.inl (fun _ => 0)))))) d1 l1 (hA (H.size + 1) (by omega))
  obtain ⟨d3, l3⟩ := D_above (e := .inl (cs 0, 30, .inr (.inr (.inr (.inl (fun _ => 0)))))) d2 l2 (hA (H.size + 1 + 1) (by omega))
  obtain ⟨d4, -⟩ := D_above (e := .inl (cs 0, 30, .inr (.inr (.inr (.inl (fun _ => 0)))))) d3 l3 (hA (H.size + 1 + 1 + 1) (by omega))
  simp only [List.append_assoc, List.cons_append, List.nil_append] at d4
  refine kk H.size (H.size + 1 + 0) (H.size + 1 + 1) (H.size + 1 + 2) H1 ((hP.kept (fun k q h => ho q.1 (hlt k q h))).app (fun k q h => ?_)) d4 ⟨Nat.le_trans hs (by omega), fun x h1 h2 => (ho x (Nat.lt_of_lt_of_le h1 hs)).trans (hS.2.1 x h1 h2), hS.2.2⟩
  match k, h with
  | 0, h => cases h; exact hm
  | 1, h => cases h; exact c0
  | 2, h => cases h; exact c1
  | 3, h => cases h; exact c2
  | k + 4, h => cases h
end MK
def wX1_init (cs : Nat → ClassId) (a : Nat) (r : Nat → Nat) : va_W := [(a, .inr (1, [.ref (r 0), .ref (r 1), .ref (r 2), .ref (r 3), .ref (r 4), .ref (r 5), .int (nI 0)])), ((r 0), .inl (cs 1, 60, .inl (fun _ => 0))), ((r 1), .inl (cs 1, 60, .inl (fun _ => 0))), ((r 2), .inl (cs 0, 60, .inr (.inr (.inr (.inl (fun _ => 0)))))), ((r 3), .inl (cs 0, 60, .inr (.inr (.inr (.inl (fun _ => 0)))))), ((r 4), .inl (cs 0, 60, .inr (.inr (.inr (.inl (fun _ => 0)))))), ((r 5), .inl (cs 0, 60, .inr (.inr (.inr (.inl (fun _ => 0))))))]
theorem iX1_init : ∀ w ∈ u_ws RX1 TX1 7, w ∈ wsX1_init := by decide +kernel
set_option maxHeartbeats 400000 in
set_option maxRecDepth 100000 in
theorem kX1_init (l : Launch) (D : va_G) (cs : Nat → ClassId) (a sz : Nat) : Met l yX1_init wsX1_init ({ frames := 1, cells := 6, slots := 360, locals := 12 } : Room) (gP D (fun _ : Unit => [(a, .inr (1, [.null, .null, .null, .null, .null, .null, .int 0]))]) (EC D cs) () sz ([.ref a] : List Value)) (va_Qv (fun _ : Nat → Nat => True) (cB D (va_A [(a, .inr (1, [.null, .null, .null, .null, .null, .null, .int 0]))] sz) (wX1_init cs a)) (va_A [(a, .inr (1, [.null, .null, .null, .null, .null, .null, .int 0]))] sz)) 6 360 (va_A [(a, .inr (1, [.null, .null, .null, .null, .null, .null, .int 0]))] sz) := by
  refine gMet (cc := cX1_init) (maxL := 1) (plainFor_of_name (by decide)) rfl (Nat.le_of_ble_eq_true rfl) ?_
  intro p e s m below meth c hx hb hr hts hown hlocks hml hin hsz hP hE ls hl
  subst hsz
  have hown : s.vm.findClass RX1 = some m.cls := hown
  have hin : meth.name = "<init>" := hin
  have hK : va_K D vwCl (tysX cs) s := hE.1
  have hD : va_D (va_A [(a, .inr (1, [.null, .null, .null, .null, .null, .null, .int 0]))] s.heap.size) [(a, .inr (1, [.null, .null, .null, .null, .null, .null, .int 0]))] := D_one
  generalize hAe : va_A [(a, .inr (1, [.null, .null, .null, .null, .null, .null, .int 0]))] s.heap.size = A at hD ⊢
  have hA : ∀ q : Nat, s.heap.size ≤ q → A q := fun q h => by rw [← hAe]; exact Or.inr h
  have hS : va_S A s.heap s.heap [] := va_S.rf
  have hP : va_P D vwCl [(a, .inr (1, [.null, .null, .null, .null, .null, .null, .int 0]))] s.heap := hP
  have hl : lv_has ls 1 [(0, .ref a)] := hl
  refine lv_aload_n hx hb dX1_init_0 rfl (lv_at hl 0 rfl) ?_
  refine W.objInit hx hb hown (hts (.methodLink RX1 3 objectInit) (by decide +kernel)) (hts (.instanceMethod objectInit) (by decide +kernel)) (hts _ (List.mem_of_getElem? (i := 3) rfl)) rfl (by rw [hml]; exact hl.1) rfl dX1_init_1 (Nat.le_of_ble_eq_true rfl) (Nat.le_of_ble_eq_true rfl) ?_
  refine W.eq (g2 := F0 m 4 ls []) rfl ?_
  refine lv_aload_n hx hb dX1_init_4 rfl (lv_at hl 0 rfl) ?_
  refine lv_bipush (v := nI 60) hx hb dX1_init_5 (by decide) ?_
  refine xnew (atype := .int) (ty := .int) (N' := 60) (a0 := (60, .inl (fun _ => 0))) hx hb (hts (.arrayClass .int) (by decide +kernel)) rfl hK hP hD hS hA 1 rfl (fun _ h9 => h9) (fun _ => vp_cell_i _ _ _) (by decide) rfl (by decide +kernel) (Nat.le_of_ble_eq_true rfl) (Nat.le_of_ble_eq_true rfl) dX1_init_7 (fun q7 H hP hD hS => ?_)
  have hP : va_P D vwCl [(a, .inr (1, [.null, .null, .null, .null, .null, .null, .int 0])), (q7, .inl (cs 1, 60, .inl (fun _ => 0)))] H := hP
  have hD : va_D A [(a, .inr (1, [.null, .null, .null, .null, .null, .null, .int 0])), (q7, .inl (cs 1, 60, .inl (fun _ => 0)))] := hD
  refine W.widen (k := 1) (n := 60) (by omega) (by omega) ?_
  refine va_putF (D := D) (ci := 1) (v := .ref q7) (ty := .array .int) (C := RX1) (T := TX1) (N := 7) hx hb hts iX1_init tyX1 tyX1_ok nmX1 hown hK hP hD hS 0 rfl rfl 0 (by decide) (hts (.fieldLink RX1 9 "NetShapes$Bars" "from" "[I") (by decide +kernel)) (fun _ h9 => h9) rfl hin rfl (by decide +kernel) rfl rfl (Nat.le_of_ble_eq_true rfl) dX1_init_9 (fun H locs hP hD hS => ?_)
  have hP : va_P D vwCl [(a, .inr (1, [.ref q7, .null, .null, .null, .null, .null, .int 0])), (q7, .inl (cs 1, 60, .inl (fun _ => 0)))] H := hP
  have hD : va_D A [(a, .inr (1, [.ref q7, .null, .null, .null, .null, .null, .int 0])), (q7, .inl (cs 1, 60, .inl (fun _ => 0)))] := hD
  refine lv_aload_n hx hb dX1_init_12 rfl (lv_at hl 0 rfl) ?_
  refine lv_bipush (v := nI 60) hx hb dX1_init_13 (by decide) ?_
  refine xnew (atype := .int) (ty := .int) (N' := 60) (a0 := (60, .inl (fun _ => 0))) hx hb (hts (.arrayClass .int) (by decide +kernel)) rfl hK hP hD hS hA 1 rfl (fun _ h9 => h9) (fun _ => vp_cell_i _ _ _) (by decide) rfl (by decide +kernel) (Nat.le_of_ble_eq_true rfl) (Nat.le_of_ble_eq_true rfl) dX1_init_15 (fun q15 H hP hD hS => ?_)
  have hP : va_P D vwCl [(a, .inr (1, [.ref q7, .null, .null, .null, .null, .null, .int 0])), (q7, .inl (cs 1, 60, .inl (fun _ => 0))), (q15, .inl (cs 1, 60, .inl (fun _ => 0)))] H := hP
  have hD : va_D A [(a, .inr (1, [.ref q7, .null, .null, .null, .null, .null, .int 0])), (q7, .inl (cs 1, 60, .inl (fun _ => 0))), (q15, .inl (cs 1, 60, .inl (fun _ => 0)))] := hD
  refine W.widen (k := 2) (n := 120) (by omega) (by omega) ?_
  refine va_putF (D := D) (ci := 1) (v := .ref q15) (ty := .array .int) (C := RX1) (T := TX1) (N := 7) hx hb hts iX1_init tyX1 tyX1_ok nmX1 hown hK hP hD hS 0 rfl rfl 1 (by decide) (hts (.fieldLink RX1 15 "NetShapes$Bars" "to" "[I") (by decide +kernel)) (fun _ h9 => h9) rfl hin rfl (by decide +kernel) rfl rfl (Nat.le_of_ble_eq_true rfl) dX1_init_17 (fun H locs hP hD hS => ?_)
  have hP : va_P D vwCl [(a, .inr (1, [.ref q7, .ref q15, .null, .null, .null, .null, .int 0])), (q7, .inl (cs 1, 60, .inl (fun _ => 0))), (q15, .inl (cs 1, 60, .inl (fun _ => 0)))] H := hP
  have hD : va_D A [(a, .inr (1, [.ref q7, .ref q15, .null, .null, .null, .null, .int 0])), (q7, .inl (cs 1, 60, .inl (fun _ => 0))), (q15, .inl (cs 1, 60, .inl (fun _ => 0)))] := hD
  refine lv_aload_n hx hb dX1_init_20 rfl (lv_at hl 0 rfl) ?_
  refine lv_bipush (v := nI 60) hx hb dX1_init_21 (by decide) ?_
  refine xnew (atype := .double) (ty := .double) (N' := 60) (a0 := (60, .inr (.inr (.inr (.inl (fun _ => 0)))))) hx hb (hts (.arrayClass .double) (by decide +kernel)) rfl hK hP hD hS hA 0 rfl (fun _ h9 => h9) (fun _ => vp_cell_d _ _ _) (by decide) rfl (by decide +kernel) (Nat.le_of_ble_eq_true rfl) (Nat.le_of_ble_eq_true rfl) dX1_init_23 (fun q23 H hP hD hS => ?_)
  have hP : va_P D vwCl [(a, .inr (1, [.ref q7, .ref q15, .null, .null, .null, .null, .int 0])), (q7, .inl (cs 1, 60, .inl (fun _ => 0))), (q15, .inl (cs 1, 60, .inl (fun _ => 0))), (q23, .inl (cs 0, 60, .inr (.inr (.inr (.inl (fun _ => 0))))))] H := hP
  have hD : va_D A [(a, .inr (1, [.ref q7, .ref q15, .null, .null, .null, .null, .int 0])), (q7, .inl (cs 1, 60, .inl (fun _ => 0))), (q15, .inl (cs 1, 60, .inl (fun _ => 0))), (q23, .inl (cs 0, 60, .inr (.inr (.inr (.inl (fun _ => 0))))))] := hD
  refine W.widen (k := 3) (n := 180) (by omega) (by omega) ?_
  refine va_putF (D := D) (ci := 1) (v := .ref q23) (ty := .array .double) (C := RX1) (T := TX1) (N := 7) hx hb hts iX1_init tyX1 tyX1_ok nmX1 hown hK hP hD hS 0 rfl rfl 2 (by decide) (hts (.fieldLink RX1 18 "NetShapes$Bars" "length" "[D") (by decide +kernel)) (fun _ h9 => h9) rfl hin rfl (by decide +kernel) rfl rfl (Nat.le_of_ble_eq_true rfl) dX1_init_25 (fun H locs hP hD hS => ?_)
  have hP : va_P D vwCl [(a, .inr (1, [.ref q7, .ref q15, .ref q23, .null, .null, .null, .int 0])), (q7, .inl (cs 1, 60, .inl (fun _ => 0))), (q15, .inl (cs 1, 60, .inl (fun _ => 0))), (q23, .inl (cs 0, 60, .inr (.inr (.inr (.inl (fun _ => 0))))))] H := hP
  have hD : va_D A [(a, .inr (1, [.ref q7, .ref q15, .ref q23, .null, .null, .null, .int 0])), (q7, .inl (cs 1, 60, .inl (fun _ => 0))), (q15, .inl (cs 1, 60, .inl (fun _ => 0))), (q23, .inl (cs 0, 60, .inr (.inr (.inr (.inl (fun _ => 0))))))] := hD
  refine lv_aload_n hx hb dX1_init_28 rfl (lv_at hl 0 rfl) ?_
  refine lv_bipush (v := nI 60) hx hb dX1_init_29 (by decide) ?_
  refine xnew (atype := .double) (ty := .double) (N' := 60) (a0 := (60, .inr (.inr (.inr (.inl (fun _ => 0)))))) hx hb (hts (.arrayClass .double) (by decide +kernel)) rfl hK hP hD hS hA 0 rfl (fun _ h9 => h9) (fun _ => vp_cell_d _ _ _) (by decide) rfl (by decide +kernel) (Nat.le_of_ble_eq_true rfl) (Nat.le_of_ble_eq_true rfl) dX1_init_31 (fun q31 H hP hD hS => ?_)
  have hP : va_P D vwCl [(a, .inr (1, [.ref q7, .ref q15, .ref q23, .null, .null, .null, .int 0])), (q7, .inl (cs 1, 60, .inl (fun _ => 0))), (q15, .inl (cs 1, 60, .inl (fun _ => 0))), (q23, .inl (cs 0, 60, .inr (.inr (.inr (.inl (fun _ => 0)))))), (q31, .inl (cs 0, 60, .inr (.inr (.inr (.inl (fun _ => 0))))))] H := hP
  have hD : va_D A [(a, .inr (1, [.ref q7, .ref q15, .ref q23, .null, .null, .null, .int 0])), (q7, .inl (cs 1, 60, .inl (fun _ => 0))), (q15, .inl (cs 1, 60, .inl (fun _ => 0))), (q23, .inl (cs 0, 60, .inr (.inr (.inr (.inl (fun _ => 0)))))), (q31, .inl (cs 0, 60, .inr (.inr (.inr (.inl (fun _ => 0))))))] := hD
  refine W.widen (k := 4) (n := 240) (by omega) (by omega) ?_
  refine va_putF (D := D) (ci := 1) (v := .ref q31) (ty := .array .double) (C := RX1) (T := TX1) (N := 7) hx hb hts iX1_init tyX1 tyX1_ok nmX1 hown hK hP hD hS 0 rfl rfl 3 (by decide) (hts (.fieldLink RX1 22 "NetShapes$Bars" "width" "[D") (by decide +kernel)) (fun _ h9 => h9) rfl hin rfl (by decide +kernel) rfl rfl (Nat.le_of_ble_eq_true rfl) dX1_init_33 (fun H locs hP hD hS => ?_)
  have hP : va_P D vwCl [(a, .inr (1, [.ref q7, .ref q15, .ref q23, .ref q31, .null, .null, .int 0])), (q7, .inl (cs 1, 60, .inl (fun _ => 0))), (q15, .inl (cs 1, 60, .inl (fun _ => 0))), (q23, .inl (cs 0, 60, .inr (.inr (.inr (.inl (fun _ => 0)))))), (q31, .inl (cs 0, 60, .inr (.inr (.inr (.inl (fun _ => 0))))))] H := hP
  have hD : va_D A [(a, .inr (1, [.ref q7, .ref q15, .ref q23, .ref q31, .null, .null, .int 0])), (q7, .inl (cs 1, 60, .inl (fun _ => 0))), (q15, .inl (cs 1, 60, .inl (fun _ => 0))), (q23, .inl (cs 0, 60, .inr (.inr (.inr (.inl (fun _ => 0)))))), (q31, .inl (cs 0, 60, .inr (.inr (.inr (.inl (fun _ => 0))))))] := hD
  refine lv_aload_n hx hb dX1_init_36 rfl (lv_at hl 0 rfl) ?_
  refine lv_bipush (v := nI 60) hx hb dX1_init_37 (by decide) ?_
  refine xnew (atype := .double) (ty := .double) (N' := 60) (a0 := (60, .inr (.inr (.inr (.inl (fun _ => 0)))))) hx hb (hts (.arrayClass .double) (by decide +kernel)) rfl hK hP hD hS hA 0 rfl (fun _ h9 => h9) (fun _ => vp_cell_d _ _ _) (by decide) rfl (by decide +kernel) (Nat.le_of_ble_eq_true rfl) (Nat.le_of_ble_eq_true rfl) dX1_init_39 (fun q39 H hP hD hS => ?_)
  have hP : va_P D vwCl [(a, .inr (1, [.ref q7, .ref q15, .ref q23, .ref q31, .null, .null, .int 0])), (q7, .inl (cs 1, 60, .inl (fun _ => 0))), (q15, .inl (cs 1, 60, .inl (fun _ => 0))), (q23, .inl (cs 0, 60, .inr (.inr (.inr (.inl (fun _ => 0)))))), (q31, .inl (cs 0, 60, .inr (.inr (.inr (.inl (fun _ => 0)))))), (q39, .inl (cs 0, 60, .inr (.inr (.inr (.inl (fun _ => 0))))))] H := hP
  have hD : va_D A [(a, .inr (1, [.ref q7, .ref q15, .ref q23, .ref q31, .null, .null, .int 0])), (q7, .inl (cs 1, 60, .inl (fun _ => 0))), (q15, .inl (cs 1, 60, .inl (fun _ => 0))), (q23, .inl (cs 0, 60, .inr (.inr (.inr (.inl (fun _ => 0)))))), (q31, .inl (cs 0, 60, .inr (.inr (.inr (.inl (fun _ => 0)))))), (q39, .inl (cs 0, 60, .inr (.inr (.inr (.inl (fun _ => 0))))))] := hD
  refine W.widen (k := 5) (n := 300) (by omega) (by omega) ?_
  refine va_putF (D := D) (ci := 1) (v := .ref q39) (ty := .array .double) (C := RX1) (T := TX1) (N := 7) hx hb hts iX1_init tyX1 tyX1_ok nmX1 hown hK hP hD hS 0 rfl rfl 4 (by decide) (hts (.fieldLink RX1 25 "NetShapes$Bars" "strength" "[D") (by decide +kernel)) (fun _ h9 => h9) rfl hin rfl (by decide +kernel) rfl rfl (Nat.le_of_ble_eq_true rfl) dX1_init_41 (fun H locs hP hD hS => ?_)
  have hP : va_P D vwCl [(a, .inr (1, [.ref q7, .ref q15, .ref q23, .ref q31, .ref q39, .null, .int 0])), (q7, .inl (cs 1, 60, .inl (fun _ => 0))), (q15, .inl (cs 1, 60, .inl (fun _ => 0))), (q23, .inl (cs 0, 60, .inr (.inr (.inr (.inl (fun _ => 0)))))), (q31, .inl (cs 0, 60, .inr (.inr (.inr (.inl (fun _ => 0)))))), (q39, .inl (cs 0, 60, .inr (.inr (.inr (.inl (fun _ => 0))))))] H := hP
  have hD : va_D A [(a, .inr (1, [.ref q7, .ref q15, .ref q23, .ref q31, .ref q39, .null, .int 0])), (q7, .inl (cs 1, 60, .inl (fun _ => 0))), (q15, .inl (cs 1, 60, .inl (fun _ => 0))), (q23, .inl (cs 0, 60, .inr (.inr (.inr (.inl (fun _ => 0)))))), (q31, .inl (cs 0, 60, .inr (.inr (.inr (.inl (fun _ => 0)))))), (q39, .inl (cs 0, 60, .inr (.inr (.inr (.inl (fun _ => 0))))))] := hD
  refine lv_aload_n hx hb dX1_init_44 rfl (lv_at hl 0 rfl) ?_
  refine lv_bipush (v := nI 60) hx hb dX1_init_45 (by decide) ?_
  refine xnew (atype := .double) (ty := .double) (N' := 60) (a0 := (60, .inr (.inr (.inr (.inl (fun _ => 0)))))) hx hb (hts (.arrayClass .double) (by decide +kernel)) rfl hK hP hD hS hA 0 rfl (fun _ h9 => h9) (fun _ => vp_cell_d _ _ _) (by decide) rfl (by decide +kernel) (Nat.le_of_ble_eq_true rfl) (Nat.le_of_ble_eq_true rfl) dX1_init_47 (fun q47 H hP hD hS => ?_)
  have hP : va_P D vwCl [(a, .inr (1, [.ref q7, .ref q15, .ref q23, .ref q31, .ref q39, .null, .int 0])), (q7, .inl (cs 1, 60, .inl (fun _ => 0))), (q15, .inl (cs 1, 60, .inl (fun _ => 0))), (q23, .inl (cs 0, 60, .inr (.inr (.inr (.inl (fun _ => 0)))))), (q31, .inl (cs 0, 60, .inr (.inr (.inr (.inl (fun _ => 0)))))), (q39, .inl (cs 0, 60, .inr (.inr (.inr (.inl (fun _ => 0)))))), (q47, .inl (cs 0, 60, .inr (.inr (.inr (.inl (fun _ => 0))))))] H := hP
  have hD : va_D A [(a, .inr (1, [.ref q7, .ref q15, .ref q23, .ref q31, .ref q39, .null, .int 0])), (q7, .inl (cs 1, 60, .inl (fun _ => 0))), (q15, .inl (cs 1, 60, .inl (fun _ => 0))), (q23, .inl (cs 0, 60, .inr (.inr (.inr (.inl (fun _ => 0)))))), (q31, .inl (cs 0, 60, .inr (.inr (.inr (.inl (fun _ => 0)))))), (q39, .inl (cs 0, 60, .inr (.inr (.inr (.inl (fun _ => 0)))))), (q47, .inl (cs 0, 60, .inr (.inr (.inr (.inl (fun _ => 0))))))] := hD
  refine W.widen (k := 6) (n := 360) (by omega) (by omega) ?_
  refine va_putF (D := D) (ci := 1) (v := .ref q47) (ty := .array .double) (C := RX1) (T := TX1) (N := 7) hx hb hts iX1_init tyX1 tyX1_ok nmX1 hown hK hP hD hS 0 rfl rfl 5 (by decide) (hts (.fieldLink RX1 28 "NetShapes$Bars" "pulls" "[D") (by decide +kernel)) (fun _ h9 => h9) rfl hin rfl (by decide +kernel) rfl rfl (Nat.le_of_ble_eq_true rfl) dX1_init_49 (fun H locs hP hD hS => ?_)
  have hP : va_P D vwCl [(a, .inr (1, [.ref q7, .ref q15, .ref q23, .ref q31, .ref q39, .ref q47, .int 0])), (q7, .inl (cs 1, 60, .inl (fun _ => 0))), (q15, .inl (cs 1, 60, .inl (fun _ => 0))), (q23, .inl (cs 0, 60, .inr (.inr (.inr (.inl (fun _ => 0)))))), (q31, .inl (cs 0, 60, .inr (.inr (.inr (.inl (fun _ => 0)))))), (q39, .inl (cs 0, 60, .inr (.inr (.inr (.inl (fun _ => 0)))))), (q47, .inl (cs 0, 60, .inr (.inr (.inr (.inl (fun _ => 0))))))] H := hP
  have hD : va_D A [(a, .inr (1, [.ref q7, .ref q15, .ref q23, .ref q31, .ref q39, .ref q47, .int 0])), (q7, .inl (cs 1, 60, .inl (fun _ => 0))), (q15, .inl (cs 1, 60, .inl (fun _ => 0))), (q23, .inl (cs 0, 60, .inr (.inr (.inr (.inl (fun _ => 0)))))), (q31, .inl (cs 0, 60, .inr (.inr (.inr (.inl (fun _ => 0)))))), (q39, .inl (cs 0, 60, .inr (.inr (.inr (.inl (fun _ => 0)))))), (q47, .inl (cs 0, 60, .inr (.inr (.inr (.inl (fun _ => 0))))))] := hD
  refine lv_aload_n hx hb dX1_init_52 rfl (lv_at hl 0 rfl) ?_
  refine lv_iconst (v := nI 0) hx hb dX1_init_53 (by decide) ?_
  refine va_put (D := D) (ci := 1) (v := .int (nI 0)) (ty := .int) (C := RX1) (T := TX1) (N := 7) hx hb hts iX1_init tyX1 tyX1_ok nmX1 hown hK hP hD hS 0 rfl rfl 6 (by decide) (hts (.fieldLink RX1 31 "NetShapes$Bars" "count" "I") (by decide +kernel)) (fun _ h9 => h9) rfl (by decide +kernel) rfl rfl (Nat.le_of_ble_eq_true rfl) dX1_init_54 (fun H locs hP hD hS => ?_)
  have hP : va_P D vwCl [(a, .inr (1, [.ref q7, .ref q15, .ref q23, .ref q31, .ref q39, .ref q47, .int (nI 0)])), (q7, .inl (cs 1, 60, .inl (fun _ => 0))), (q15, .inl (cs 1, 60, .inl (fun _ => 0))), (q23, .inl (cs 0, 60, .inr (.inr (.inr (.inl (fun _ => 0)))))), (q31, .inl (cs 0, 60, .inr (.inr (.inr (.inl (fun _ => 0)))))), (q39, .inl (cs 0, 60, .inr (.inr (.inr (.inl (fun _ => 0)))))), (q47, .inl (cs 0, 60, .inr (.inr (.inr (.inl (fun _ => 0))))))] H := hP
  have hD : va_D A [(a, .inr (1, [.ref q7, .ref q15, .ref q23, .ref q31, .ref q39, .ref q47, .int (nI 0)])), (q7, .inl (cs 1, 60, .inl (fun _ => 0))), (q15, .inl (cs 1, 60, .inl (fun _ => 0))), (q23, .inl (cs 0, 60, .inr (.inr (.inr (.inl (fun _ => 0)))))), (q31, .inl (cs 0, 60, .inr (.inr (.inr (.inl (fun _ => 0)))))), (q39, .inl (cs 0, 60, .inr (.inr (.inr (.inl (fun _ => 0)))))), (q47, .inl (cs 0, 60, .inr (.inr (.inr (.inl (fun _ => 0))))))] := hD
  exact W.vret hx hb hr (fun t ht _ => ⟨⟨(lk [q7, q15, q23, q31, q39, q47]), rfl, trivial, by rw [ht]; exact hP, hD⟩, hS.F ht⟩) hS.2.2 dX1_init_57 hlocks
def wX2_init (cs : Nat → ClassId) (a : Nat) (r : Nat → Nat) : va_W := [(a, .inr (2, [.ref (r 0), .int (nI 0), .int (nI 0)])), ((r 0), .inl (cs 0, 20, .inr (.inr (.inr (.inl (fun _ => 0))))))]
theorem iX2_init : ∀ w ∈ u_ws RX2 TX2 3, w ∈ wsX2_init := by decide +kernel
set_option maxHeartbeats 400000 in
set_option maxRecDepth 100000 in
theorem kX2_init (l : Launch) (D : va_G) (cs : Nat → ClassId) (a sz : Nat) : Met l yX2_init wsX2_init ({ frames := 1, cells := 1, slots := 20, locals := 12 } : Room) (gP D (fun _ : Unit => [(a, .inr (2, [.null, .int 0, .int 0]))]) (EC D cs) () sz ([.ref a] : List Value)) (va_Qv (fun _ : Nat → Nat => True) (cB D (va_A [(a, .inr (2, [.null, .int 0, .int 0]))] sz) (wX2_init cs a)) (va_A [(a, .inr (2, [.null, .int 0, .int 0]))] sz)) 1 20 (va_A [(a, .inr (2, [.null, .int 0, .int 0]))] sz) := by
  refine gMet (cc := cX2_init) (maxL := 1) (plainFor_of_name (by decide)) rfl (Nat.le_of_ble_eq_true rfl) ?_
  intro p e s m below meth c hx hb hr hts hown hlocks hml hin hsz hP hE ls hl
  subst hsz
  have hown : s.vm.findClass RX2 = some m.cls := hown
  have hin : meth.name = "<init>" := hin
  have hK : va_K D vwCl (tysX cs) s := hE.1
  have hD : va_D (va_A [(a, .inr (2, [.null, .int 0, .int 0]))] s.heap.size) [(a, .inr (2, [.null, .int 0, .int 0]))] := D_one
  generalize hAe : va_A [(a, .inr (2, [.null, .int 0, .int 0]))] s.heap.size = A at hD ⊢
  have hA : ∀ q : Nat, s.heap.size ≤ q → A q := fun q h => by rw [← hAe]; exact Or.inr h
  have hS : va_S A s.heap s.heap [] := va_S.rf
  have hP : va_P D vwCl [(a, .inr (2, [.null, .int 0, .int 0]))] s.heap := hP
  have hl : lv_has ls 1 [(0, .ref a)] := hl
  refine lv_aload_n hx hb dX2_init_0 rfl (lv_at hl 0 rfl) ?_
  refine W.objInit hx hb hown (hts (.methodLink RX2 3 objectInit) (by decide +kernel)) (hts (.instanceMethod objectInit) (by decide +kernel)) (hts _ (List.mem_of_getElem? (i := 3) rfl)) rfl (by rw [hml]; exact hl.1) rfl dX2_init_1 (Nat.le_of_ble_eq_true rfl) (Nat.le_of_ble_eq_true rfl) ?_
  refine W.eq (g2 := F0 m 4 ls []) rfl ?_
  refine lv_aload_n hx hb dX2_init_4 rfl (lv_at hl 0 rfl) ?_
  refine lv_bipush (v := nI 20) hx hb dX2_init_5 (by decide) ?_
  refine xnew (atype := .double) (ty := .double) (N' := 20) (a0 := (20, .inr (.inr (.inr (.inl (fun _ => 0)))))) hx hb (hts (.arrayClass .double) (by decide +kernel)) rfl hK hP hD hS hA 0 rfl (fun _ h9 => h9) (fun _ => vp_cell_d _ _ _) (by decide) rfl (by decide +kernel) (Nat.le_of_ble_eq_true rfl) (Nat.le_of_ble_eq_true rfl) dX2_init_7 (fun q7 H hP hD hS => ?_)
  have hP : va_P D vwCl [(a, .inr (2, [.null, .int 0, .int 0])), (q7, .inl (cs 0, 20, .inr (.inr (.inr (.inl (fun _ => 0))))))] H := hP
  have hD : va_D A [(a, .inr (2, [.null, .int 0, .int 0])), (q7, .inl (cs 0, 20, .inr (.inr (.inr (.inl (fun _ => 0))))))] := hD
  refine W.widen (k := 1) (n := 20) (by omega) (by omega) ?_
  refine va_putF (D := D) (ci := 2) (v := .ref q7) (ty := .array .double) (C := RX2) (T := TX2) (N := 3) hx hb hts iX2_init tyX2 tyX2_ok nmX2 hown hK hP hD hS 0 rfl rfl 0 (by decide) (hts (.fieldLink RX2 9 "NetShapes$Fuels" "kept" "[D") (by decide +kernel)) (fun _ h9 => h9) rfl hin rfl (by decide +kernel) rfl rfl (Nat.le_of_ble_eq_true rfl) dX2_init_9 (fun H locs hP hD hS => ?_)
  have hP : va_P D vwCl [(a, .inr (2, [.ref q7, .int 0, .int 0])), (q7, .inl (cs 0, 20, .inr (.inr (.inr (.inl (fun _ => 0))))))] H := hP
  have hD : va_D A [(a, .inr (2, [.ref q7, .int 0, .int 0])), (q7, .inl (cs 0, 20, .inr (.inr (.inr (.inl (fun _ => 0))))))] := hD
  refine lv_aload_n hx hb dX2_init_12 rfl (lv_at hl 0 rfl) ?_
  refine lv_iconst (v := nI 0) hx hb dX2_init_13 (by decide) ?_
  refine va_put (D := D) (ci := 2) (v := .int (nI 0)) (ty := .int) (C := RX2) (T := TX2) (N := 3) hx hb hts iX2_init tyX2 tyX2_ok nmX2 hown hK hP hD hS 0 rfl rfl 1 (by decide) (hts (.fieldLink RX2 15 "NetShapes$Fuels" "count" "I") (by decide +kernel)) (fun _ h9 => h9) rfl (by decide +kernel) rfl rfl (Nat.le_of_ble_eq_true rfl) dX2_init_14 (fun H locs hP hD hS => ?_)
  have hP : va_P D vwCl [(a, .inr (2, [.ref q7, .int (nI 0), .int 0])), (q7, .inl (cs 0, 20, .inr (.inr (.inr (.inl (fun _ => 0))))))] H := hP
  have hD : va_D A [(a, .inr (2, [.ref q7, .int (nI 0), .int 0])), (q7, .inl (cs 0, 20, .inr (.inr (.inr (.inl (fun _ => 0))))))] := hD
  refine lv_aload_n hx hb dX2_init_17 rfl (lv_at hl 0 rfl) ?_
  refine lv_iconst (v := nI 0) hx hb dX2_init_18 (by decide) ?_
  refine va_put (D := D) (ci := 2) (v := .int (nI 0)) (ty := .int) (C := RX2) (T := TX2) (N := 3) hx hb hts iX2_init tyX2 tyX2_ok nmX2 hown hK hP hD hS 0 rfl rfl 2 (by decide) (hts (.fieldLink RX2 19 "NetShapes$Fuels" "next" "I") (by decide +kernel)) (fun _ h9 => h9) rfl (by decide +kernel) rfl rfl (Nat.le_of_ble_eq_true rfl) dX2_init_19 (fun H locs hP hD hS => ?_)
  have hP : va_P D vwCl [(a, .inr (2, [.ref q7, .int (nI 0), .int (nI 0)])), (q7, .inl (cs 0, 20, .inr (.inr (.inr (.inl (fun _ => 0))))))] H := hP
  have hD : va_D A [(a, .inr (2, [.ref q7, .int (nI 0), .int (nI 0)])), (q7, .inl (cs 0, 20, .inr (.inr (.inr (.inl (fun _ => 0))))))] := hD
  exact W.vret hx hb hr (fun t ht _ => ⟨⟨(lk [q7]), rfl, trivial, by rw [ht]; exact hP, hD⟩, hS.F ht⟩) hS.2.2 dX2_init_22 hlocks
def wX3_init (cs : Nat → ClassId) (a : Nat) (r : Nat → Nat) : va_W := [(a, .inr (3, [.ref (r 0), .ref (r 4), .ref (r 8), .ref (r 9), .ref (r 10), .int (nI 0)])), ((r 0), .inl (cs 3, 3, .inr (.inr (.inr (.inr (row3 (r 1) (r 2) (r 3))))))), ((r 1), .inl (cs 0, 30, .inr (.inr (.inr (.inl (fun _ => 0)))))), ((r 2), .inl (cs 0, 30, .inr (.inr (.inr (.inl (fun _ => 0)))))), ((r 3), .inl (cs 0, 30, .inr (.inr (.inr (.inl (fun _ => 0)))))), ((r 4), .inl (cs 3, 3, .inr (.inr (.inr (.inr (row3 (r 5) (r 6) (r 7))))))), ((r 5), .inl (cs 0, 30, .inr (.inr (.inr (.inl (fun _ => 0)))))), ((r 6), .inl (cs 0, 30, .inr (.inr (.inr (.inl (fun _ => 0)))))), ((r 7), .inl (cs 0, 30, .inr (.inr (.inr (.inl (fun _ => 0)))))), ((r 8), .inl (cs 0, 30, .inr (.inr (.inr (.inl (fun _ => 0)))))), ((r 9), .inl (cs 0, 30, .inr (.inr (.inr (.inl (fun _ => 0)))))), ((r 10), .inl (cs 2, 30, .inl (fun _ => 0)))]
theorem iX3_init : ∀ w ∈ u_ws RX3 TX3 6, w ∈ wsX3_init := by decide +kernel
set_option maxHeartbeats 400000 in
set_option maxRecDepth 100000 in
theorem kX3_init (l : Launch) (D : va_G) (cs : Nat → ClassId) (a sz : Nat) : Met l yX3_init wsX3_init ({ frames := 1, cells := 11, slots := 276, locals := 12 } : Room) (gP D (fun _ : Unit => [(a, .inr (3, [.null, .null, .null, .null, .null, .int 0]))]) (EC D cs) () sz ([.ref a] : List Value)) (va_Qv (fun _ : Nat → Nat => True) (cB D (va_A [(a, .inr (3, [.null, .null, .null, .null, .null, .int 0]))] sz) (wX3_init cs a)) (va_A [(a, .inr (3, [.null, .null, .null, .null, .null, .int 0]))] sz)) 11 276 (va_A [(a, .inr (3, [.null, .null, .null, .null, .null, .int 0]))] sz) := by
  refine gMet (cc := cX3_init) (maxL := 1) (plainFor_of_name (by decide)) rfl (Nat.le_of_ble_eq_true rfl) ?_
  intro p e s m below meth c hx hb hr hts hown hlocks hml hin hsz hP hE ls hl
  subst hsz
  have hown : s.vm.findClass RX3 = some m.cls := hown
  have hin : meth.name = "<init>" := hin
  have hK : va_K D vwCl (tysX cs) s := hE.1
  have hD : va_D (va_A [(a, .inr (3, [.null, .null, .null, .null, .null, .int 0]))] s.heap.size) [(a, .inr (3, [.null, .null, .null, .null, .null, .int 0]))] := D_one
  generalize hAe : va_A [(a, .inr (3, [.null, .null, .null, .null, .null, .int 0]))] s.heap.size = A at hD ⊢
  have hA : ∀ q : Nat, s.heap.size ≤ q → A q := fun q h => by rw [← hAe]; exact Or.inr h
  have hS : va_S A s.heap s.heap [] := va_S.rf
  have hP : va_P D vwCl [(a, .inr (3, [.null, .null, .null, .null, .null, .int 0]))] s.heap := hP
  have hl : lv_has ls 1 [(0, .ref a)] := hl
  refine lv_aload_n hx hb dX3_init_0 rfl (lv_at hl 0 rfl) ?_
  refine W.objInit hx hb hown (hts (.methodLink RX3 3 objectInit) (by decide +kernel)) (hts (.instanceMethod objectInit) (by decide +kernel)) (hts _ (List.mem_of_getElem? (i := 3) rfl)) rfl (by rw [hml]; exact hl.1) rfl dX3_init_1 (Nat.le_of_ble_eq_true rfl) (Nat.le_of_ble_eq_true rfl) ?_
  refine W.eq (g2 := F0 m 4 ls []) rfl ?_
  refine lv_aload_n hx hb dX3_init_4 rfl (lv_at hl 0 rfl) ?_
  refine lv_iconst (v := nI 3) hx hb dX3_init_5 (by decide) ?_
  refine lv_bipush (v := nI 30) hx hb dX3_init_6 (by decide) ?_
  refine xmna hx hb hown (hts (.classLink RX3 9 "[[D") (by decide +kernel)) hE.2.1 (hts (.arrayClass .double) (by decide +kernel)) hK hP hD hS hA (Nat.le_of_ble_eq_true rfl) (Nat.le_of_ble_eq_true rfl) dX3_init_8 (fun q8 r8_0 r8_1 r8_2 H hP hD hS => ?_)
  have hP : va_P D vwCl [(a, .inr (3, [.null, .null, .null, .null, .null, .int 0])), (q8, .inl (cs 3, 3, .inr (.inr (.inr (.inr (row3 r8_0 r8_1 r8_2)))))), (r8_0, .inl (cs 0, 30, .inr (.inr (.inr (.inl (fun _ => 0)))))), (r8_1, .inl (cs 0, 30, .inr (.inr (.inr (.inl (fun _ => 0)))))), (r8_2, .inl (cs 0, 30, .inr (.inr (.inr (.inl (fun _ => 0))))))] H := hP
  have hD : va_D A [(a, .inr (3, [.null, .null, .null, .null, .null, .int 0])), (q8, .inl (cs 3, 3, .inr (.inr (.inr (.inr (row3 r8_0 r8_1 r8_2)))))), (r8_0, .inl (cs 0, 30, .inr (.inr (.inr (.inl (fun _ => 0)))))), (r8_1, .inl (cs 0, 30, .inr (.inr (.inr (.inl (fun _ => 0)))))), (r8_2, .inl (cs 0, 30, .inr (.inr (.inr (.inl (fun _ => 0))))))] := hD
  refine W.widen (k := 4) (n := 93) (by omega) (by omega) ?_
  refine va_putF (D := D) (ci := 3) (v := .ref q8) (ty := .array (.array .double)) (C := RX3) (T := TX3) (N := 6) hx hb hts iX3_init tyX3 tyX3_ok nmX3 hown hK hP hD hS 0 rfl rfl 0 (by decide) (hts (.fieldLink RX3 11 "NetShapes$Nodes" "places" "[[D") (by decide +kernel)) (fun _ h9 => h9) rfl hin rfl (by decide +kernel) rfl rfl (Nat.le_of_ble_eq_true rfl) dX3_init_12 (fun H locs hP hD hS => ?_)
  have hP : va_P D vwCl [(a, .inr (3, [.ref q8, .null, .null, .null, .null, .int 0])), (q8, .inl (cs 3, 3, .inr (.inr (.inr (.inr (row3 r8_0 r8_1 r8_2)))))), (r8_0, .inl (cs 0, 30, .inr (.inr (.inr (.inl (fun _ => 0)))))), (r8_1, .inl (cs 0, 30, .inr (.inr (.inr (.inl (fun _ => 0)))))), (r8_2, .inl (cs 0, 30, .inr (.inr (.inr (.inl (fun _ => 0))))))] H := hP
  have hD : va_D A [(a, .inr (3, [.ref q8, .null, .null, .null, .null, .int 0])), (q8, .inl (cs 3, 3, .inr (.inr (.inr (.inr (row3 r8_0 r8_1 r8_2)))))), (r8_0, .inl (cs 0, 30, .inr (.inr (.inr (.inl (fun _ => 0)))))), (r8_1, .inl (cs 0, 30, .inr (.inr (.inr (.inl (fun _ => 0)))))), (r8_2, .inl (cs 0, 30, .inr (.inr (.inr (.inl (fun _ => 0))))))] := hD
  refine lv_aload_n hx hb dX3_init_15 rfl (lv_at hl 0 rfl) ?_
  refine lv_iconst (v := nI 3) hx hb dX3_init_16 (by decide) ?_
  refine lv_bipush (v := nI 30) hx hb dX3_init_17 (by decide) ?_
  refine xmna hx hb hown (hts (.classLink RX3 9 "[[D") (by decide +kernel)) hE.2.1 (hts (.arrayClass .double) (by decide +kernel)) hK hP hD hS hA (Nat.le_of_ble_eq_true rfl) (Nat.le_of_ble_eq_true rfl) dX3_init_19 (fun q19 r19_0 r19_1 r19_2 H hP hD hS => ?_)
  have hP : va_P D vwCl [(a, .inr (3, [.ref q8, .null, .null, .null, .null, .int 0])), (q8, .inl (cs 3, 3, .inr (.inr (.inr (.inr (row3 r8_0 r8_1 r8_2)))))), (r8_0, .inl (cs 0, 30, .inr (.inr (.inr (.inl (fun _ => 0)))))), (r8_1, .inl (cs 0, 30, .inr (.inr (.inr (.inl (fun _ => 0)))))), (r8_2, .inl (cs 0, 30, .inr (.inr (.inr (.inl (fun _ => 0)))))), (q19, .inl (cs 3, 3, .inr (.inr (.inr (.inr (row3 r19_0 r19_1 r19_2)))))), (r19_0, .inl (cs 0, 30, .inr (.inr (.inr (.inl (fun _ => 0)))))), (r19_1, .inl (cs 0, 30, .inr (.inr (.inr (.inl (fun _ => 0)))))), (r19_2, .inl (cs 0, 30, .inr (.inr (.inr (.inl (fun _ => 0))))))] H := hP
  have hD : va_D A [(a, .inr (3, [.ref q8, .null, .null, .null, .null, .int 0])), (q8, .inl (cs 3, 3, .inr (.inr (.inr (.inr (row3 r8_0 r8_1 r8_2)))))), (r8_0, .inl (cs 0, 30, .inr (.inr (.inr (.inl (fun _ => 0)))))), (r8_1, .inl (cs 0, 30, .inr (.inr (.inr (.inl (fun _ => 0)))))), (r8_2, .inl (cs 0, 30, .inr (.inr (.inr (.inl (fun _ => 0)))))), (q19, .inl (cs 3, 3, .inr (.inr (.inr (.inr (row3 r19_0 r19_1 r19_2)))))), (r19_0, .inl (cs 0, 30, .inr (.inr (.inr (.inl (fun _ => 0)))))), (r19_1, .inl (cs 0, 30, .inr (.inr (.inr (.inl (fun _ => 0)))))), (r19_2, .inl (cs 0, 30, .inr (.inr (.inr (.inl (fun _ => 0))))))] := hD
  refine W.widen (k := 8) (n := 186) (by omega) (by omega) ?_
  refine va_putF (D := D) (ci := 3) (v := .ref q19) (ty := .array (.array .double)) (C := RX3) (T := TX3) (N := 6) hx hb hts iX3_init tyX3 tyX3_ok nmX3 hown hK hP hD hS 0 rfl rfl 1 (by decide) (hts (.fieldLink RX3 16 "NetShapes$Nodes" "forces" "[[D") (by decide +kernel)) (fun _ h9 => h9) rfl hin rfl (by decide +kernel) rfl rfl (Nat.le_of_ble_eq_true rfl) dX3_init_23 (fun H locs hP hD hS => ?_)
  have hP : va_P D vwCl [(a, .inr (3, [.ref q8, .ref q19, .null, .null, .null, .int 0])), (q8, .inl (cs 3, 3, .inr (.inr (.inr (.inr (row3 r8_0 r8_1 r8_2)))))), (r8_0, .inl (cs 0, 30, .inr (.inr (.inr (.inl (fun _ => 0)))))), (r8_1, .inl (cs 0, 30, .inr (.inr (.inr (.inl (fun _ => 0)))))), (r8_2, .inl (cs 0, 30, .inr (.inr (.inr (.inl (fun _ => 0)))))), (q19, .inl (cs 3, 3, .inr (.inr (.inr (.inr (row3 r19_0 r19_1 r19_2)))))), (r19_0, .inl (cs 0, 30, .inr (.inr (.inr (.inl (fun _ => 0)))))), (r19_1, .inl (cs 0, 30, .inr (.inr (.inr (.inl (fun _ => 0)))))), (r19_2, .inl (cs 0, 30, .inr (.inr (.inr (.inl (fun _ => 0))))))] H := hP
  have hD : va_D A [(a, .inr (3, [.ref q8, .ref q19, .null, .null, .null, .int 0])), (q8, .inl (cs 3, 3, .inr (.inr (.inr (.inr (row3 r8_0 r8_1 r8_2)))))), (r8_0, .inl (cs 0, 30, .inr (.inr (.inr (.inl (fun _ => 0)))))), (r8_1, .inl (cs 0, 30, .inr (.inr (.inr (.inl (fun _ => 0)))))), (r8_2, .inl (cs 0, 30, .inr (.inr (.inr (.inl (fun _ => 0)))))), (q19, .inl (cs 3, 3, .inr (.inr (.inr (.inr (row3 r19_0 r19_1 r19_2)))))), (r19_0, .inl (cs 0, 30, .inr (.inr (.inr (.inl (fun _ => 0)))))), (r19_1, .inl (cs 0, 30, .inr (.inr (.inr (.inl (fun _ => 0)))))), (r19_2, .inl (cs 0, 30, .inr (.inr (.inr (.inl (fun _ => 0))))))] := hD
  refine lv_aload_n hx hb dX3_init_26 rfl (lv_at hl 0 rfl) ?_
  refine lv_bipush (v := nI 30) hx hb dX3_init_27 (by decide) ?_
  refine xnew (atype := .double) (ty := .double) (N' := 30) (a0 := (30, .inr (.inr (.inr (.inl (fun _ => 0)))))) hx hb (hts (.arrayClass .double) (by decide +kernel)) rfl hK hP hD hS hA 0 rfl (fun _ h9 => h9) (fun _ => vp_cell_d _ _ _) (by decide) rfl (by decide +kernel) (Nat.le_of_ble_eq_true rfl) (Nat.le_of_ble_eq_true rfl) dX3_init_29 (fun q29 H hP hD hS => ?_)
  have hP : va_P D vwCl [(a, .inr (3, [.ref q8, .ref q19, .null, .null, .null, .int 0])), (q8, .inl (cs 3, 3, .inr (.inr (.inr (.inr (row3 r8_0 r8_1 r8_2)))))), (r8_0, .inl (cs 0, 30, .inr (.inr (.inr (.inl (fun _ => 0)))))), (r8_1, .inl (cs 0, 30, .inr (.inr (.inr (.inl (fun _ => 0)))))), (r8_2, .inl (cs 0, 30, .inr (.inr (.inr (.inl (fun _ => 0)))))), (q19, .inl (cs 3, 3, .inr (.inr (.inr (.inr (row3 r19_0 r19_1 r19_2)))))), (r19_0, .inl (cs 0, 30, .inr (.inr (.inr (.inl (fun _ => 0)))))), (r19_1, .inl (cs 0, 30, .inr (.inr (.inr (.inl (fun _ => 0)))))), (r19_2, .inl (cs 0, 30, .inr (.inr (.inr (.inl (fun _ => 0)))))), (q29, .inl (cs 0, 30, .inr (.inr (.inr (.inl (fun _ => 0))))))] H := hP
  have hD : va_D A [(a, .inr (3, [.ref q8, .ref q19, .null, .null, .null, .int 0])), (q8, .inl (cs 3, 3, .inr (.inr (.inr (.inr (row3 r8_0 r8_1 r8_2)))))), (r8_0, .inl (cs 0, 30, .inr (.inr (.inr (.inl (fun _ => 0)))))), (r8_1, .inl (cs 0, 30, .inr (.inr (.inr (.inl (fun _ => 0)))))), (r8_2, .inl (cs 0, 30, .inr (.inr (.inr (.inl (fun _ => 0)))))), (q19, .inl (cs 3, 3, .inr (.inr (.inr (.inr (row3 r19_0 r19_1 r19_2)))))), (r19_0, .inl (cs 0, 30, .inr (.inr (.inr (.inl (fun _ => 0)))))), (r19_1, .inl (cs 0, 30, .inr (.inr (.inr (.inl (fun _ => 0)))))), (r19_2, .inl (cs 0, 30, .inr (.inr (.inr (.inl (fun _ => 0)))))), (q29, .inl (cs 0, 30, .inr (.inr (.inr (.inl (fun _ => 0))))))] := hD
  refine W.widen (k := 9) (n := 216) (by omega) (by omega) ?_
  refine va_putF (D := D) (ci := 3) (v := .ref q29) (ty := .array .double) (C := RX3) (T := TX3) (N := 6) hx hb hts iX3_init tyX3 tyX3_ok nmX3 hown hK hP hD hS 0 rfl rfl 2 (by decide) (hts (.fieldLink RX3 19 "NetShapes$Nodes" "lift" "[D") (by decide +kernel)) (fun _ h9 => h9) rfl hin rfl (by decide +kernel) rfl rfl (Nat.le_of_ble_eq_true rfl) dX3_init_31 (fun H locs hP hD hS => ?_)
  have hP : va_P D vwCl [(a, .inr (3, [.ref q8, .ref q19, .ref q29, .null, .null, .int 0])), (q8, .inl (cs 3, 3, .inr (.inr (.inr (.inr (row3 r8_0 r8_1 r8_2)))))), (r8_0, .inl (cs 0, 30, .inr (.inr (.inr (.inl (fun _ => 0)))))), (r8_1, .inl (cs 0, 30, .inr (.inr (.inr (.inl (fun _ => 0)))))), (r8_2, .inl (cs 0, 30, .inr (.inr (.inr (.inl (fun _ => 0)))))), (q19, .inl (cs 3, 3, .inr (.inr (.inr (.inr (row3 r19_0 r19_1 r19_2)))))), (r19_0, .inl (cs 0, 30, .inr (.inr (.inr (.inl (fun _ => 0)))))), (r19_1, .inl (cs 0, 30, .inr (.inr (.inr (.inl (fun _ => 0)))))), (r19_2, .inl (cs 0, 30, .inr (.inr (.inr (.inl (fun _ => 0)))))), (q29, .inl (cs 0, 30, .inr (.inr (.inr (.inl (fun _ => 0))))))] H := hP
  have hD : va_D A [(a, .inr (3, [.ref q8, .ref q19, .ref q29, .null, .null, .int 0])), (q8, .inl (cs 3, 3, .inr (.inr (.inr (.inr (row3 r8_0 r8_1 r8_2)))))), (r8_0, .inl (cs 0, 30, .inr (.inr (.inr (.inl (fun _ => 0)))))), (r8_1, .inl (cs 0, 30, .inr (.inr (.inr (.inl (fun _ => 0)))))), (r8_2, .inl (cs 0, 30, .inr (.inr (.inr (.inl (fun _ => 0)))))), (q19, .inl (cs 3, 3, .inr (.inr (.inr (.inr (row3 r19_0 r19_1 r19_2)))))), (r19_0, .inl (cs 0, 30, .inr (.inr (.inr (.inl (fun _ => 0)))))), (r19_1, .inl (cs 0, 30, .inr (.inr (.inr (.inl (fun _ => 0)))))), (r19_2, .inl (cs 0, 30, .inr (.inr (.inr (.inl (fun _ => 0)))))), (q29, .inl (cs 0, 30, .inr (.inr (.inr (.inl (fun _ => 0))))))] := hD
  refine lv_aload_n hx hb dX3_init_34 rfl (lv_at hl 0 rfl) ?_
  refine lv_bipush (v := nI 30) hx hb dX3_init_35 (by decide) ?_
  refine xnew (atype := .double) (ty := .double) (N' := 30) (a0 := (30, .inr (.inr (.inr (.inl (fun _ => 0)))))) hx hb (hts (.arrayClass .double) (by decide +kernel)) rfl hK hP hD hS hA 0 rfl (fun _ h9 => h9) (fun _ => vp_cell_d _ _ _) (by decide) rfl (by decide +kernel) (Nat.le_of_ble_eq_true rfl) (Nat.le_of_ble_eq_true rfl) dX3_init_37 (fun q37 H hP hD hS => ?_)
  have hP : va_P D vwCl [(a, .inr (3, [.ref q8, .ref q19, .ref q29, .null, .null, .int 0])), (q8, .inl (cs 3, 3, .inr (.inr (.inr (.inr (row3 r8_0 r8_1 r8_2)))))), (r8_0, .inl (cs 0, 30, .inr (.inr (.inr (.inl (fun _ => 0)))))), (r8_1, .inl (cs 0, 30, .inr (.inr (.inr (.inl (fun _ => 0)))))), (r8_2, .inl (cs 0, 30, .inr (.inr (.inr (.inl (fun _ => 0)))))), (q19, .inl (cs 3, 3, .inr (.inr (.inr (.inr (row3 r19_0 r19_1 r19_2)))))), (r19_0, .inl (cs 0, 30, .inr (.inr (.inr (.inl (fun _ => 0)))))), (r19_1, .inl (cs 0, 30, .inr (.inr (.inr (.inl (fun _ => 0)))))), (r19_2, .inl (cs 0, 30, .inr (.inr (.inr (.inl (fun _ => 0)))))), (q29, .inl (cs 0, 30, .inr (.inr (.inr (.inl (fun _ => 0)))))), (q37, .inl (cs 0, 30, .inr (.inr (.inr (.inl (fun _ => 0))))))] H := hP
  have hD : va_D A [(a, .inr (3, [.ref q8, .ref q19, .ref q29, .null, .null, .int 0])), (q8, .inl (cs 3, 3, .inr (.inr (.inr (.inr (row3 r8_0 r8_1 r8_2)))))), (r8_0, .inl (cs 0, 30, .inr (.inr (.inr (.inl (fun _ => 0)))))), (r8_1, .inl (cs 0, 30, .inr (.inr (.inr (.inl (fun _ => 0)))))), (r8_2, .inl (cs 0, 30, .inr (.inr (.inr (.inl (fun _ => 0)))))), (q19, .inl (cs 3, 3, .inr (.inr (.inr (.inr (row3 r19_0 r19_1 r19_2)))))), (r19_0, .inl (cs 0, 30, .inr (.inr (.inr (.inl (fun _ => 0)))))), (r19_1, .inl (cs 0, 30, .inr (.inr (.inr (.inl (fun _ => 0)))))), (r19_2, .inl (cs 0, 30, .inr (.inr (.inr (.inl (fun _ => 0)))))), (q29, .inl (cs 0, 30, .inr (.inr (.inr (.inl (fun _ => 0)))))), (q37, .inl (cs 0, 30, .inr (.inr (.inr (.inl (fun _ => 0))))))] := hD
  refine W.widen (k := 10) (n := 246) (by omega) (by omega) ?_
  refine va_putF (D := D) (ci := 3) (v := .ref q37) (ty := .array .double) (C := RX3) (T := TX3) (N := 6) hx hb hts iX3_init tyX3 tyX3_ok nmX3 hown hK hP hD hS 0 rfl rfl 3 (by decide) (hts (.fieldLink RX3 23 "NetShapes$Nodes" "load" "[D") (by decide +kernel)) (fun _ h9 => h9) rfl hin rfl (by decide +kernel) rfl rfl (Nat.le_of_ble_eq_true rfl) dX3_init_39 (fun H locs hP hD hS => ?_)
  have hP : va_P D vwCl [(a, .inr (3, [.ref q8, .ref q19, .ref q29, .ref q37, .null, .int 0])), (q8, .inl (cs 3, 3, .inr (.inr (.inr (.inr (row3 r8_0 r8_1 r8_2)))))), (r8_0, .inl (cs 0, 30, .inr (.inr (.inr (.inl (fun _ => 0)))))), (r8_1, .inl (cs 0, 30, .inr (.inr (.inr (.inl (fun _ => 0)))))), (r8_2, .inl (cs 0, 30, .inr (.inr (.inr (.inl (fun _ => 0)))))), (q19, .inl (cs 3, 3, .inr (.inr (.inr (.inr (row3 r19_0 r19_1 r19_2)))))), (r19_0, .inl (cs 0, 30, .inr (.inr (.inr (.inl (fun _ => 0)))))), (r19_1, .inl (cs 0, 30, .inr (.inr (.inr (.inl (fun _ => 0)))))), (r19_2, .inl (cs 0, 30, .inr (.inr (.inr (.inl (fun _ => 0)))))), (q29, .inl (cs 0, 30, .inr (.inr (.inr (.inl (fun _ => 0)))))), (q37, .inl (cs 0, 30, .inr (.inr (.inr (.inl (fun _ => 0))))))] H := hP
  have hD : va_D A [(a, .inr (3, [.ref q8, .ref q19, .ref q29, .ref q37, .null, .int 0])), (q8, .inl (cs 3, 3, .inr (.inr (.inr (.inr (row3 r8_0 r8_1 r8_2)))))), (r8_0, .inl (cs 0, 30, .inr (.inr (.inr (.inl (fun _ => 0)))))), (r8_1, .inl (cs 0, 30, .inr (.inr (.inr (.inl (fun _ => 0)))))), (r8_2, .inl (cs 0, 30, .inr (.inr (.inr (.inl (fun _ => 0)))))), (q19, .inl (cs 3, 3, .inr (.inr (.inr (.inr (row3 r19_0 r19_1 r19_2)))))), (r19_0, .inl (cs 0, 30, .inr (.inr (.inr (.inl (fun _ => 0)))))), (r19_1, .inl (cs 0, 30, .inr (.inr (.inr (.inl (fun _ => 0)))))), (r19_2, .inl (cs 0, 30, .inr (.inr (.inr (.inl (fun _ => 0)))))), (q29, .inl (cs 0, 30, .inr (.inr (.inr (.inl (fun _ => 0)))))), (q37, .inl (cs 0, 30, .inr (.inr (.inr (.inl (fun _ => 0))))))] := hD
  refine lv_aload_n hx hb dX3_init_42 rfl (lv_at hl 0 rfl) ?_
  refine lv_bipush (v := nI 30) hx hb dX3_init_43 (by decide) ?_
  refine xnew (atype := .boolean) (ty := .boolean) (N' := 30) (a0 := (30, .inl (fun _ => 0))) hx hb (hts (.arrayClass .boolean) (by decide +kernel)) rfl hK hP hD hS hA 2 rfl (fun _ h9 => h9) (fun _ => vp_cell_i _ _ _) (by decide) rfl (by decide +kernel) (Nat.le_of_ble_eq_true rfl) (Nat.le_of_ble_eq_true rfl) dX3_init_45 (fun q45 H hP hD hS => ?_)
  have hP : va_P D vwCl [(a, .inr (3, [.ref q8, .ref q19, .ref q29, .ref q37, .null, .int 0])), (q8, .inl (cs 3, 3, .inr (.inr (.inr (.inr (row3 r8_0 r8_1 r8_2)))))), (r8_0, .inl (cs 0, 30, .inr (.inr (.inr (.inl (fun _ => 0)))))), (r8_1, .inl (cs 0, 30, .inr (.inr (.inr (.inl (fun _ => 0)))))), (r8_2, .inl (cs 0, 30, .inr (.inr (.inr (.inl (fun _ => 0)))))), (q19, .inl (cs 3, 3, .inr (.inr (.inr (.inr (row3 r19_0 r19_1 r19_2)))))), (r19_0, .inl (cs 0, 30, .inr (.inr (.inr (.inl (fun _ => 0)))))), (r19_1, .inl (cs 0, 30, .inr (.inr (.inr (.inl (fun _ => 0)))))), (r19_2, .inl (cs 0, 30, .inr (.inr (.inr (.inl (fun _ => 0)))))), (q29, .inl (cs 0, 30, .inr (.inr (.inr (.inl (fun _ => 0)))))), (q37, .inl (cs 0, 30, .inr (.inr (.inr (.inl (fun _ => 0)))))), (q45, .inl (cs 2, 30, .inl (fun _ => 0)))] H := hP
  have hD : va_D A [(a, .inr (3, [.ref q8, .ref q19, .ref q29, .ref q37, .null, .int 0])), (q8, .inl (cs 3, 3, .inr (.inr (.inr (.inr (row3 r8_0 r8_1 r8_2)))))), (r8_0, .inl (cs 0, 30, .inr (.inr (.inr (.inl (fun _ => 0)))))), (r8_1, .inl (cs 0, 30, .inr (.inr (.inr (.inl (fun _ => 0)))))), (r8_2, .inl (cs 0, 30, .inr (.inr (.inr (.inl (fun _ => 0)))))), (q19, .inl (cs 3, 3, .inr (.inr (.inr (.inr (row3 r19_0 r19_1 r19_2)))))), (r19_0, .inl (cs 0, 30, .inr (.inr (.inr (.inl (fun _ => 0)))))), (r19_1, .inl (cs 0, 30, .inr (.inr (.inr (.inl (fun _ => 0)))))), (r19_2, .inl (cs 0, 30, .inr (.inr (.inr (.inl (fun _ => 0)))))), (q29, .inl (cs 0, 30, .inr (.inr (.inr (.inl (fun _ => 0)))))), (q37, .inl (cs 0, 30, .inr (.inr (.inr (.inl (fun _ => 0)))))), (q45, .inl (cs 2, 30, .inl (fun _ => 0)))] := hD
  refine W.widen (k := 11) (n := 276) (by omega) (by omega) ?_
  refine va_putF (D := D) (ci := 3) (v := .ref q45) (ty := .array .boolean) (C := RX3) (T := TX3) (N := 6) hx hb hts iX3_init tyX3 tyX3_ok nmX3 hown hK hP hD hS 0 rfl rfl 4 (by decide) (hts (.fieldLink RX3 26 "NetShapes$Nodes" "fixed" "[Z") (by decide +kernel)) (fun _ h9 => h9) rfl hin rfl (by decide +kernel) rfl rfl (Nat.le_of_ble_eq_true rfl) dX3_init_47 (fun H locs hP hD hS => ?_)
  have hP : va_P D vwCl [(a, .inr (3, [.ref q8, .ref q19, .ref q29, .ref q37, .ref q45, .int 0])), (q8, .inl (cs 3, 3, .inr (.inr (.inr (.inr (row3 r8_0 r8_1 r8_2)))))), (r8_0, .inl (cs 0, 30, .inr (.inr (.inr (.inl (fun _ => 0)))))), (r8_1, .inl (cs 0, 30, .inr (.inr (.inr (.inl (fun _ => 0)))))), (r8_2, .inl (cs 0, 30, .inr (.inr (.inr (.inl (fun _ => 0)))))), (q19, .inl (cs 3, 3, .inr (.inr (.inr (.inr (row3 r19_0 r19_1 r19_2)))))), (r19_0, .inl (cs 0, 30, .inr (.inr (.inr (.inl (fun _ => 0)))))), (r19_1, .inl (cs 0, 30, .inr (.inr (.inr (.inl (fun _ => 0)))))), (r19_2, .inl (cs 0, 30, .inr (.inr (.inr (.inl (fun _ => 0)))))), (q29, .inl (cs 0, 30, .inr (.inr (.inr (.inl (fun _ => 0)))))), (q37, .inl (cs 0, 30, .inr (.inr (.inr (.inl (fun _ => 0)))))), (q45, .inl (cs 2, 30, .inl (fun _ => 0)))] H := hP
  have hD : va_D A [(a, .inr (3, [.ref q8, .ref q19, .ref q29, .ref q37, .ref q45, .int 0])), (q8, .inl (cs 3, 3, .inr (.inr (.inr (.inr (row3 r8_0 r8_1 r8_2)))))), (r8_0, .inl (cs 0, 30, .inr (.inr (.inr (.inl (fun _ => 0)))))), (r8_1, .inl (cs 0, 30, .inr (.inr (.inr (.inl (fun _ => 0)))))), (r8_2, .inl (cs 0, 30, .inr (.inr (.inr (.inl (fun _ => 0)))))), (q19, .inl (cs 3, 3, .inr (.inr (.inr (.inr (row3 r19_0 r19_1 r19_2)))))), (r19_0, .inl (cs 0, 30, .inr (.inr (.inr (.inl (fun _ => 0)))))), (r19_1, .inl (cs 0, 30, .inr (.inr (.inr (.inl (fun _ => 0)))))), (r19_2, .inl (cs 0, 30, .inr (.inr (.inr (.inl (fun _ => 0)))))), (q29, .inl (cs 0, 30, .inr (.inr (.inr (.inl (fun _ => 0)))))), (q37, .inl (cs 0, 30, .inr (.inr (.inr (.inl (fun _ => 0)))))), (q45, .inl (cs 2, 30, .inl (fun _ => 0)))] := hD
  refine lv_aload_n hx hb dX3_init_50 rfl (lv_at hl 0 rfl) ?_
  refine lv_iconst (v := nI 0) hx hb dX3_init_51 (by decide) ?_
  refine va_put (D := D) (ci := 3) (v := .int (nI 0)) (ty := .int) (C := RX3) (T := TX3) (N := 6) hx hb hts iX3_init tyX3 tyX3_ok nmX3 hown hK hP hD hS 0 rfl rfl 5 (by decide) (hts (.fieldLink RX3 30 "NetShapes$Nodes" "count" "I") (by decide +kernel)) (fun _ h9 => h9) rfl (by decide +kernel) rfl rfl (Nat.le_of_ble_eq_true rfl) dX3_init_52 (fun H locs hP hD hS => ?_)
  have hP : va_P D vwCl [(a, .inr (3, [.ref q8, .ref q19, .ref q29, .ref q37, .ref q45, .int (nI 0)])), (q8, .inl (cs 3, 3, .inr (.inr (.inr (.inr (row3 r8_0 r8_1 r8_2)))))), (r8_0, .inl (cs 0, 30, .inr (.inr (.inr (.inl (fun _ => 0)))))), (r8_1, .inl (cs 0, 30, .inr (.inr (.inr (.inl (fun _ => 0)))))), (r8_2, .inl (cs 0, 30, .inr (.inr (.inr (.inl (fun _ => 0)))))), (q19, .inl (cs 3, 3, .inr (.inr (.inr (.inr (row3 r19_0 r19_1 r19_2)))))), (r19_0, .inl (cs 0, 30, .inr (.inr (.inr (.inl (fun _ => 0)))))), (r19_1, .inl (cs 0, 30, .inr (.inr (.inr (.inl (fun _ => 0)))))), (r19_2, .inl (cs 0, 30, .inr (.inr (.inr (.inl (fun _ => 0)))))), (q29, .inl (cs 0, 30, .inr (.inr (.inr (.inl (fun _ => 0)))))), (q37, .inl (cs 0, 30, .inr (.inr (.inr (.inl (fun _ => 0)))))), (q45, .inl (cs 2, 30, .inl (fun _ => 0)))] H := hP
  have hD : va_D A [(a, .inr (3, [.ref q8, .ref q19, .ref q29, .ref q37, .ref q45, .int (nI 0)])), (q8, .inl (cs 3, 3, .inr (.inr (.inr (.inr (row3 r8_0 r8_1 r8_2)))))), (r8_0, .inl (cs 0, 30, .inr (.inr (.inr (.inl (fun _ => 0)))))), (r8_1, .inl (cs 0, 30, .inr (.inr (.inr (.inl (fun _ => 0)))))), (r8_2, .inl (cs 0, 30, .inr (.inr (.inr (.inl (fun _ => 0)))))), (q19, .inl (cs 3, 3, .inr (.inr (.inr (.inr (row3 r19_0 r19_1 r19_2)))))), (r19_0, .inl (cs 0, 30, .inr (.inr (.inr (.inl (fun _ => 0)))))), (r19_1, .inl (cs 0, 30, .inr (.inr (.inr (.inl (fun _ => 0)))))), (r19_2, .inl (cs 0, 30, .inr (.inr (.inr (.inl (fun _ => 0)))))), (q29, .inl (cs 0, 30, .inr (.inr (.inr (.inl (fun _ => 0)))))), (q37, .inl (cs 0, 30, .inr (.inr (.inr (.inl (fun _ => 0)))))), (q45, .inl (cs 2, 30, .inl (fun _ => 0)))] := hD
  exact W.vret hx hb hr (fun t ht _ => ⟨⟨(lk [q8, r8_0, r8_1, r8_2, q19, r19_0, r19_1, r19_2, q29, q37, q45]), rfl, trivial, by rw [ht]; exact hP, hD⟩, hS.F ht⟩) hS.2.2 dX3_init_55 hlocks
def wX4_init (cs : Nat → ClassId) (a : Nat) (r : Nat → Nat) : va_W := [(a, .inr (4, [.ref (r 0), .ref (r 1), .ref (r 2), .ref (r 3), .ref (r 4), .int (nI 0), .int (nI 0), .int (nI 0), .int (nI 0)])), ((r 0), .inl (cs 1, 30, .inl (fun _ => 0))), ((r 1), .inl (cs 1, 30, .inl (fun _ => 0))), ((r 2), .inl (cs 1, 30, .inl (fun _ => 0))), ((r 3), .inl (cs 1, 30, .inl (fun _ => 0))), ((r 4), .inl (cs 1, 30, .inl (fun _ => 0)))]
theorem iX4_init : ∀ w ∈ u_ws RX4 TX4 9, w ∈ wsX4_init := by decide +kernel
set_option maxHeartbeats 400000 in
set_option maxRecDepth 100000 in
theorem kX4_init (l : Launch) (D : va_G) (cs : Nat → ClassId) (a sz : Nat) : Met l yX4_init wsX4_init ({ frames := 1, cells := 5, slots := 150, locals := 12 } : Room) (gP D (fun _ : Unit => [(a, .inr (4, [.null, .null, .null, .null, .null, .int 0, .int 0, .int 0, .int 0]))]) (EC D cs) () sz ([.ref a] : List Value)) (va_Qv (fun _ : Nat → Nat => True) (cB D (va_A [(a, .inr (4, [.null, .null, .null, .null, .null, .int 0, .int 0, .int 0, .int 0]))] sz) (wX4_init cs a)) (va_A [(a, .inr (4, [.null, .null, .null, .null, .null, .int 0, .int 0, .int 0, .int 0]))] sz)) 5 150 (va_A [(a, .inr (4, [.null, .null, .null, .null, .null, .int 0, .int 0, .int 0, .int 0]))] sz) := by
  refine gMet (cc := cX4_init) (maxL := 1) (plainFor_of_name (by decide)) rfl (Nat.le_of_ble_eq_true rfl) ?_
  intro p e s m below meth c hx hb hr hts hown hlocks hml hin hsz hP hE ls hl
  subst hsz
  have hown : s.vm.findClass RX4 = some m.cls := hown
  have hin : meth.name = "<init>" := hin
  have hK : va_K D vwCl (tysX cs) s := hE.1
  have hD : va_D (va_A [(a, .inr (4, [.null, .null, .null, .null, .null, .int 0, .int 0, .int 0, .int 0]))] s.heap.size) [(a, .inr (4, [.null, .null, .null, .null, .null, .int 0, .int 0, .int 0, .int 0]))] := D_one
  generalize hAe : va_A [(a, .inr (4, [.null, .null, .null, .null, .null, .int 0, .int 0, .int 0, .int 0]))] s.heap.size = A at hD ⊢
  have hA : ∀ q : Nat, s.heap.size ≤ q → A q := fun q h => by rw [← hAe]; exact Or.inr h
  have hS : va_S A s.heap s.heap [] := va_S.rf
  have hP : va_P D vwCl [(a, .inr (4, [.null, .null, .null, .null, .null, .int 0, .int 0, .int 0, .int 0]))] s.heap := hP
  have hl : lv_has ls 1 [(0, .ref a)] := hl
  refine lv_aload_n hx hb dX4_init_0 rfl (lv_at hl 0 rfl) ?_
  refine W.objInit hx hb hown (hts (.methodLink RX4 3 objectInit) (by decide +kernel)) (hts (.instanceMethod objectInit) (by decide +kernel)) (hts _ (List.mem_of_getElem? (i := 3) rfl)) rfl (by rw [hml]; exact hl.1) rfl dX4_init_1 (Nat.le_of_ble_eq_true rfl) (Nat.le_of_ble_eq_true rfl) ?_
  refine W.eq (g2 := F0 m 4 ls []) rfl ?_
  refine lv_aload_n hx hb dX4_init_4 rfl (lv_at hl 0 rfl) ?_
  refine lv_bipush (v := nI 30) hx hb dX4_init_5 (by decide) ?_
  refine xnew (atype := .int) (ty := .int) (N' := 30) (a0 := (30, .inl (fun _ => 0))) hx hb (hts (.arrayClass .int) (by decide +kernel)) rfl hK hP hD hS hA 1 rfl (fun _ h9 => h9) (fun _ => vp_cell_i _ _ _) (by decide) rfl (by decide +kernel) (Nat.le_of_ble_eq_true rfl) (Nat.le_of_ble_eq_true rfl) dX4_init_7 (fun q7 H hP hD hS => ?_)
  have hP : va_P D vwCl [(a, .inr (4, [.null, .null, .null, .null, .null, .int 0, .int 0, .int 0, .int 0])), (q7, .inl (cs 1, 30, .inl (fun _ => 0)))] H := hP
  have hD : va_D A [(a, .inr (4, [.null, .null, .null, .null, .null, .int 0, .int 0, .int 0, .int 0])), (q7, .inl (cs 1, 30, .inl (fun _ => 0)))] := hD
  refine W.widen (k := 1) (n := 30) (by omega) (by omega) ?_
  refine va_putF (D := D) (ci := 4) (v := .ref q7) (ty := .array .int) (C := RX4) (T := TX4) (N := 9) hx hb hts iX4_init tyX4 tyX4_ok nmX4 hown hK hP hD hS 0 rfl rfl 0 (by decide) (hts (.fieldLink RX4 9 "NetShapes$Panels" "top" "[I") (by decide +kernel)) (fun _ h9 => h9) rfl hin rfl (by decide +kernel) rfl rfl (Nat.le_of_ble_eq_true rfl) dX4_init_9 (fun H locs hP hD hS => ?_)
  have hP : va_P D vwCl [(a, .inr (4, [.ref q7, .null, .null, .null, .null, .int 0, .int 0, .int 0, .int 0])), (q7, .inl (cs 1, 30, .inl (fun _ => 0)))] H := hP
  have hD : va_D A [(a, .inr (4, [.ref q7, .null, .null, .null, .null, .int 0, .int 0, .int 0, .int 0])), (q7, .inl (cs 1, 30, .inl (fun _ => 0)))] := hD
  refine lv_aload_n hx hb dX4_init_12 rfl (lv_at hl 0 rfl) ?_
  refine lv_bipush (v := nI 30) hx hb dX4_init_13 (by decide) ?_
  refine xnew (atype := .int) (ty := .int) (N' := 30) (a0 := (30, .inl (fun _ => 0))) hx hb (hts (.arrayClass .int) (by decide +kernel)) rfl hK hP hD hS hA 1 rfl (fun _ h9 => h9) (fun _ => vp_cell_i _ _ _) (by decide) rfl (by decide +kernel) (Nat.le_of_ble_eq_true rfl) (Nat.le_of_ble_eq_true rfl) dX4_init_15 (fun q15 H hP hD hS => ?_)
  have hP : va_P D vwCl [(a, .inr (4, [.ref q7, .null, .null, .null, .null, .int 0, .int 0, .int 0, .int 0])), (q7, .inl (cs 1, 30, .inl (fun _ => 0))), (q15, .inl (cs 1, 30, .inl (fun _ => 0)))] H := hP
  have hD : va_D A [(a, .inr (4, [.ref q7, .null, .null, .null, .null, .int 0, .int 0, .int 0, .int 0])), (q7, .inl (cs 1, 30, .inl (fun _ => 0))), (q15, .inl (cs 1, 30, .inl (fun _ => 0)))] := hD
  refine W.widen (k := 2) (n := 60) (by omega) (by omega) ?_
  refine va_putF (D := D) (ci := 4) (v := .ref q15) (ty := .array .int) (C := RX4) (T := TX4) (N := 9) hx hb hts iX4_init tyX4 tyX4_ok nmX4 hown hK hP hD hS 0 rfl rfl 1 (by decide) (hts (.fieldLink RX4 15 "NetShapes$Panels" "bottom" "[I") (by decide +kernel)) (fun _ h9 => h9) rfl hin rfl (by decide +kernel) rfl rfl (Nat.le_of_ble_eq_true rfl) dX4_init_17 (fun H locs hP hD hS => ?_)
  have hP : va_P D vwCl [(a, .inr (4, [.ref q7, .ref q15, .null, .null, .null, .int 0, .int 0, .int 0, .int 0])), (q7, .inl (cs 1, 30, .inl (fun _ => 0))), (q15, .inl (cs 1, 30, .inl (fun _ => 0)))] H := hP
  have hD : va_D A [(a, .inr (4, [.ref q7, .ref q15, .null, .null, .null, .int 0, .int 0, .int 0, .int 0])), (q7, .inl (cs 1, 30, .inl (fun _ => 0))), (q15, .inl (cs 1, 30, .inl (fun _ => 0)))] := hD
  refine lv_aload_n hx hb dX4_init_20 rfl (lv_at hl 0 rfl) ?_
  refine lv_bipush (v := nI 30) hx hb dX4_init_21 (by decide) ?_
  refine xnew (atype := .int) (ty := .int) (N' := 30) (a0 := (30, .inl (fun _ => 0))) hx hb (hts (.arrayClass .int) (by decide +kernel)) rfl hK hP hD hS hA 1 rfl (fun _ h9 => h9) (fun _ => vp_cell_i _ _ _) (by decide) rfl (by decide +kernel) (Nat.le_of_ble_eq_true rfl) (Nat.le_of_ble_eq_true rfl) dX4_init_23 (fun q23 H hP hD hS => ?_)
  have hP : va_P D vwCl [(a, .inr (4, [.ref q7, .ref q15, .null, .null, .null, .int 0, .int 0, .int 0, .int 0])), (q7, .inl (cs 1, 30, .inl (fun _ => 0))), (q15, .inl (cs 1, 30, .inl (fun _ => 0))), (q23, .inl (cs 1, 30, .inl (fun _ => 0)))] H := hP
  have hD : va_D A [(a, .inr (4, [.ref q7, .ref q15, .null, .null, .null, .int 0, .int 0, .int 0, .int 0])), (q7, .inl (cs 1, 30, .inl (fun _ => 0))), (q15, .inl (cs 1, 30, .inl (fun _ => 0))), (q23, .inl (cs 1, 30, .inl (fun _ => 0)))] := hD
  refine W.widen (k := 3) (n := 90) (by omega) (by omega) ?_
  refine va_putF (D := D) (ci := 4) (v := .ref q23) (ty := .array .int) (C := RX4) (T := TX4) (N := 9) hx hb hts iX4_init tyX4 tyX4_ok nmX4 hown hK hP hD hS 0 rfl rfl 2 (by decide) (hts (.fieldLink RX4 18 "NetShapes$Panels" "deep" "[I") (by decide +kernel)) (fun _ h9 => h9) rfl hin rfl (by decide +kernel) rfl rfl (Nat.le_of_ble_eq_true rfl) dX4_init_25 (fun H locs hP hD hS => ?_)
  have hP : va_P D vwCl [(a, .inr (4, [.ref q7, .ref q15, .ref q23, .null, .null, .int 0, .int 0, .int 0, .int 0])), (q7, .inl (cs 1, 30, .inl (fun _ => 0))), (q15, .inl (cs 1, 30, .inl (fun _ => 0))), (q23, .inl (cs 1, 30, .inl (fun _ => 0)))] H := hP
  have hD : va_D A [(a, .inr (4, [.ref q7, .ref q15, .ref q23, .null, .null, .int 0, .int 0, .int 0, .int 0])), (q7, .inl (cs 1, 30, .inl (fun _ => 0))), (q15, .inl (cs 1, 30, .inl (fun _ => 0))), (q23, .inl (cs 1, 30, .inl (fun _ => 0)))] := hD
  refine lv_aload_n hx hb dX4_init_28 rfl (lv_at hl 0 rfl) ?_
  refine lv_bipush (v := nI 30) hx hb dX4_init_29 (by decide) ?_
  refine xnew (atype := .int) (ty := .int) (N' := 30) (a0 := (30, .inl (fun _ => 0))) hx hb (hts (.arrayClass .int) (by decide +kernel)) rfl hK hP hD hS hA 1 rfl (fun _ h9 => h9) (fun _ => vp_cell_i _ _ _) (by decide) rfl (by decide +kernel) (Nat.le_of_ble_eq_true rfl) (Nat.le_of_ble_eq_true rfl) dX4_init_31 (fun q31 H hP hD hS => ?_)
  have hP : va_P D vwCl [(a, .inr (4, [.ref q7, .ref q15, .ref q23, .null, .null, .int 0, .int 0, .int 0, .int 0])), (q7, .inl (cs 1, 30, .inl (fun _ => 0))), (q15, .inl (cs 1, 30, .inl (fun _ => 0))), (q23, .inl (cs 1, 30, .inl (fun _ => 0))), (q31, .inl (cs 1, 30, .inl (fun _ => 0)))] H := hP
  have hD : va_D A [(a, .inr (4, [.ref q7, .ref q15, .ref q23, .null, .null, .int 0, .int 0, .int 0, .int 0])), (q7, .inl (cs 1, 30, .inl (fun _ => 0))), (q15, .inl (cs 1, 30, .inl (fun _ => 0))), (q23, .inl (cs 1, 30, .inl (fun _ => 0))), (q31, .inl (cs 1, 30, .inl (fun _ => 0)))] := hD
  refine W.widen (k := 4) (n := 120) (by omega) (by omega) ?_
  refine va_putF (D := D) (ci := 4) (v := .ref q31) (ty := .array .int) (C := RX4) (T := TX4) (N := 9) hx hb hts iX4_init tyX4 tyX4_ok nmX4 hown hK hP hD hS 0 rfl rfl 3 (by decide) (hts (.fieldLink RX4 21 "NetShapes$Panels" "across" "[I") (by decide +kernel)) (fun _ h9 => h9) rfl hin rfl (by decide +kernel) rfl rfl (Nat.le_of_ble_eq_true rfl) dX4_init_33 (fun H locs hP hD hS => ?_)
  have hP : va_P D vwCl [(a, .inr (4, [.ref q7, .ref q15, .ref q23, .ref q31, .null, .int 0, .int 0, .int 0, .int 0])), (q7, .inl (cs 1, 30, .inl (fun _ => 0))), (q15, .inl (cs 1, 30, .inl (fun _ => 0))), (q23, .inl (cs 1, 30, .inl (fun _ => 0))), (q31, .inl (cs 1, 30, .inl (fun _ => 0)))] H := hP
  have hD : va_D A [(a, .inr (4, [.ref q7, .ref q15, .ref q23, .ref q31, .null, .int 0, .int 0, .int 0, .int 0])), (q7, .inl (cs 1, 30, .inl (fun _ => 0))), (q15, .inl (cs 1, 30, .inl (fun _ => 0))), (q23, .inl (cs 1, 30, .inl (fun _ => 0))), (q31, .inl (cs 1, 30, .inl (fun _ => 0)))] := hD
  refine lv_aload_n hx hb dX4_init_36 rfl (lv_at hl 0 rfl) ?_
  refine lv_bipush (v := nI 30) hx hb dX4_init_37 (by decide) ?_
  refine xnew (atype := .int) (ty := .int) (N' := 30) (a0 := (30, .inl (fun _ => 0))) hx hb (hts (.arrayClass .int) (by decide +kernel)) rfl hK hP hD hS hA 1 rfl (fun _ h9 => h9) (fun _ => vp_cell_i _ _ _) (by decide) rfl (by decide +kernel) (Nat.le_of_ble_eq_true rfl) (Nat.le_of_ble_eq_true rfl) dX4_init_39 (fun q39 H hP hD hS => ?_)
  have hP : va_P D vwCl [(a, .inr (4, [.ref q7, .ref q15, .ref q23, .ref q31, .null, .int 0, .int 0, .int 0, .int 0])), (q7, .inl (cs 1, 30, .inl (fun _ => 0))), (q15, .inl (cs 1, 30, .inl (fun _ => 0))), (q23, .inl (cs 1, 30, .inl (fun _ => 0))), (q31, .inl (cs 1, 30, .inl (fun _ => 0))), (q39, .inl (cs 1, 30, .inl (fun _ => 0)))] H := hP
  have hD : va_D A [(a, .inr (4, [.ref q7, .ref q15, .ref q23, .ref q31, .null, .int 0, .int 0, .int 0, .int 0])), (q7, .inl (cs 1, 30, .inl (fun _ => 0))), (q15, .inl (cs 1, 30, .inl (fun _ => 0))), (q23, .inl (cs 1, 30, .inl (fun _ => 0))), (q31, .inl (cs 1, 30, .inl (fun _ => 0))), (q39, .inl (cs 1, 30, .inl (fun _ => 0)))] := hD
  refine W.widen (k := 5) (n := 150) (by omega) (by omega) ?_
  refine va_putF (D := D) (ci := 4) (v := .ref q39) (ty := .array .int) (C := RX4) (T := TX4) (N := 9) hx hb hts iX4_init tyX4 tyX4_ok nmX4 hown hK hP hD hS 0 rfl rfl 4 (by decide) (hts (.fieldLink RX4 24 "NetShapes$Panels" "down" "[I") (by decide +kernel)) (fun _ h9 => h9) rfl hin rfl (by decide +kernel) rfl rfl (Nat.le_of_ble_eq_true rfl) dX4_init_41 (fun H locs hP hD hS => ?_)
  have hP : va_P D vwCl [(a, .inr (4, [.ref q7, .ref q15, .ref q23, .ref q31, .ref q39, .int 0, .int 0, .int 0, .int 0])), (q7, .inl (cs 1, 30, .inl (fun _ => 0))), (q15, .inl (cs 1, 30, .inl (fun _ => 0))), (q23, .inl (cs 1, 30, .inl (fun _ => 0))), (q31, .inl (cs 1, 30, .inl (fun _ => 0))), (q39, .inl (cs 1, 30, .inl (fun _ => 0)))] H := hP
  have hD : va_D A [(a, .inr (4, [.ref q7, .ref q15, .ref q23, .ref q31, .ref q39, .int 0, .int 0, .int 0, .int 0])), (q7, .inl (cs 1, 30, .inl (fun _ => 0))), (q15, .inl (cs 1, 30, .inl (fun _ => 0))), (q23, .inl (cs 1, 30, .inl (fun _ => 0))), (q31, .inl (cs 1, 30, .inl (fun _ => 0))), (q39, .inl (cs 1, 30, .inl (fun _ => 0)))] := hD
  refine lv_aload_n hx hb dX4_init_44 rfl (lv_at hl 0 rfl) ?_
  refine lv_iconst (v := nI 0) hx hb dX4_init_45 (by decide) ?_
  refine va_put (D := D) (ci := 4) (v := .int (nI 0)) (ty := .int) (C := RX4) (T := TX4) (N := 9) hx hb hts iX4_init tyX4 tyX4_ok nmX4 hown hK hP hD hS 0 rfl rfl 5 (by decide) (hts (.fieldLink RX4 27 "NetShapes$Panels" "count" "I") (by decide +kernel)) (fun _ h9 => h9) rfl (by decide +kernel) rfl rfl (Nat.le_of_ble_eq_true rfl) dX4_init_46 (fun H locs hP hD hS => ?_)
  have hP : va_P D vwCl [(a, .inr (4, [.ref q7, .ref q15, .ref q23, .ref q31, .ref q39, .int (nI 0), .int 0, .int 0, .int 0])), (q7, .inl (cs 1, 30, .inl (fun _ => 0))), (q15, .inl (cs 1, 30, .inl (fun _ => 0))), (q23, .inl (cs 1, 30, .inl (fun _ => 0))), (q31, .inl (cs 1, 30, .inl (fun _ => 0))), (q39, .inl (cs 1, 30, .inl (fun _ => 0)))] H := hP
  have hD : va_D A [(a, .inr (4, [.ref q7, .ref q15, .ref q23, .ref q31, .ref q39, .int (nI 0), .int 0, .int 0, .int 0])), (q7, .inl (cs 1, 30, .inl (fun _ => 0))), (q15, .inl (cs 1, 30, .inl (fun _ => 0))), (q23, .inl (cs 1, 30, .inl (fun _ => 0))), (q31, .inl (cs 1, 30, .inl (fun _ => 0))), (q39, .inl (cs 1, 30, .inl (fun _ => 0)))] := hD
  refine lv_aload_n hx hb dX4_init_49 rfl (lv_at hl 0 rfl) ?_
  refine lv_iconst (v := nI 0) hx hb dX4_init_50 (by decide) ?_
  refine va_put (D := D) (ci := 4) (v := .int (nI 0)) (ty := .int) (C := RX4) (T := TX4) (N := 9) hx hb hts iX4_init tyX4 tyX4_ok nmX4 hown hK hP hD hS 0 rfl rfl 6 (by decide) (hts (.fieldLink RX4 31 "NetShapes$Panels" "shelfUsed" "I") (by decide +kernel)) (fun _ h9 => h9) rfl (by decide +kernel) rfl rfl (Nat.le_of_ble_eq_true rfl) dX4_init_51 (fun H locs hP hD hS => ?_)
  have hP : va_P D vwCl [(a, .inr (4, [.ref q7, .ref q15, .ref q23, .ref q31, .ref q39, .int (nI 0), .int (nI 0), .int 0, .int 0])), (q7, .inl (cs 1, 30, .inl (fun _ => 0))), (q15, .inl (cs 1, 30, .inl (fun _ => 0))), (q23, .inl (cs 1, 30, .inl (fun _ => 0))), (q31, .inl (cs 1, 30, .inl (fun _ => 0))), (q39, .inl (cs 1, 30, .inl (fun _ => 0)))] H := hP
  have hD : va_D A [(a, .inr (4, [.ref q7, .ref q15, .ref q23, .ref q31, .ref q39, .int (nI 0), .int (nI 0), .int 0, .int 0])), (q7, .inl (cs 1, 30, .inl (fun _ => 0))), (q15, .inl (cs 1, 30, .inl (fun _ => 0))), (q23, .inl (cs 1, 30, .inl (fun _ => 0))), (q31, .inl (cs 1, 30, .inl (fun _ => 0))), (q39, .inl (cs 1, 30, .inl (fun _ => 0)))] := hD
  refine lv_aload_n hx hb dX4_init_54 rfl (lv_at hl 0 rfl) ?_
  refine lv_iconst (v := nI 0) hx hb dX4_init_55 (by decide) ?_
  refine va_put (D := D) (ci := 4) (v := .int (nI 0)) (ty := .int) (C := RX4) (T := TX4) (N := 9) hx hb hts iX4_init tyX4 tyX4_ok nmX4 hown hK hP hD hS 0 rfl rfl 7 (by decide) (hts (.fieldLink RX4 34 "NetShapes$Panels" "shelfStart" "I") (by decide +kernel)) (fun _ h9 => h9) rfl (by decide +kernel) rfl rfl (Nat.le_of_ble_eq_true rfl) dX4_init_56 (fun H locs hP hD hS => ?_)
  have hP : va_P D vwCl [(a, .inr (4, [.ref q7, .ref q15, .ref q23, .ref q31, .ref q39, .int (nI 0), .int (nI 0), .int (nI 0), .int 0])), (q7, .inl (cs 1, 30, .inl (fun _ => 0))), (q15, .inl (cs 1, 30, .inl (fun _ => 0))), (q23, .inl (cs 1, 30, .inl (fun _ => 0))), (q31, .inl (cs 1, 30, .inl (fun _ => 0))), (q39, .inl (cs 1, 30, .inl (fun _ => 0)))] H := hP
  have hD : va_D A [(a, .inr (4, [.ref q7, .ref q15, .ref q23, .ref q31, .ref q39, .int (nI 0), .int (nI 0), .int (nI 0), .int 0])), (q7, .inl (cs 1, 30, .inl (fun _ => 0))), (q15, .inl (cs 1, 30, .inl (fun _ => 0))), (q23, .inl (cs 1, 30, .inl (fun _ => 0))), (q31, .inl (cs 1, 30, .inl (fun _ => 0))), (q39, .inl (cs 1, 30, .inl (fun _ => 0)))] := hD
  refine lv_aload_n hx hb dX4_init_59 rfl (lv_at hl 0 rfl) ?_
  refine lv_iconst (v := nI 0) hx hb dX4_init_60 (by decide) ?_
  refine va_put (D := D) (ci := 4) (v := .int (nI 0)) (ty := .int) (C := RX4) (T := TX4) (N := 9) hx hb hts iX4_init tyX4 tyX4_ok nmX4 hown hK hP hD hS 0 rfl rfl 8 (by decide) (hts (.fieldLink RX4 37 "NetShapes$Panels" "shelfDeep" "I") (by decide +kernel)) (fun _ h9 => h9) rfl (by decide +kernel) rfl rfl (Nat.le_of_ble_eq_true rfl) dX4_init_61 (fun H locs hP hD hS => ?_)
  have hP : va_P D vwCl [(a, .inr (4, [.ref q7, .ref q15, .ref q23, .ref q31, .ref q39, .int (nI 0), .int (nI 0), .int (nI 0), .int (nI 0)])), (q7, .inl (cs 1, 30, .inl (fun _ => 0))), (q15, .inl (cs 1, 30, .inl (fun _ => 0))), (q23, .inl (cs 1, 30, .inl (fun _ => 0))), (q31, .inl (cs 1, 30, .inl (fun _ => 0))), (q39, .inl (cs 1, 30, .inl (fun _ => 0)))] H := hP
  have hD : va_D A [(a, .inr (4, [.ref q7, .ref q15, .ref q23, .ref q31, .ref q39, .int (nI 0), .int (nI 0), .int (nI 0), .int (nI 0)])), (q7, .inl (cs 1, 30, .inl (fun _ => 0))), (q15, .inl (cs 1, 30, .inl (fun _ => 0))), (q23, .inl (cs 1, 30, .inl (fun _ => 0))), (q31, .inl (cs 1, 30, .inl (fun _ => 0))), (q39, .inl (cs 1, 30, .inl (fun _ => 0)))] := hD
  exact W.vret hx hb hr (fun t ht _ => ⟨⟨(lk [q7, q15, q23, q31, q39]), rfl, trivial, by rw [ht]; exact hP, hD⟩, hS.F ht⟩) hS.2.2 dX4_init_64 hlocks
def wX5_init (cs : Nat → ClassId) (a : Nat) (r : Nat → Nat) : va_W := [(a, .inr (5, [.ref (r 0), .ref (r 1), .ref (r 2), .int (nI 0), .double FP.dconst0, .double FP.dconst0])), ((r 0), .inl (cs 0, 10, .inr (.inr (.inr (.inl (fun _ => 0)))))), ((r 1), .inl (cs 0, 10, .inr (.inr (.inr (.inl (fun _ => 0)))))), ((r 2), .inl (cs 0, 10, .inr (.inr (.inr (.inl (fun _ => 0))))))]
theorem iX5_init : ∀ w ∈ u_ws RX5 TX5 6, w ∈ wsX5_init := by decide +kernel
set_option maxHeartbeats 400000 in
set_option maxRecDepth 100000 in
theorem kX5_init (l : Launch) (D : va_G) (cs : Nat → ClassId) (a sz : Nat) : Met l yX5_init wsX5_init ({ frames := 1, cells := 3, slots := 30, locals := 12 } : Room) (gP D (fun _ : Unit => [(a, .inr (5, [.null, .null, .null, .int 0, .double 0, .double 0]))]) (EC D cs) () sz ([.ref a] : List Value)) (va_Qv (fun _ : Nat → Nat => True) (cB D (va_A [(a, .inr (5, [.null, .null, .null, .int 0, .double 0, .double 0]))] sz) (wX5_init cs a)) (va_A [(a, .inr (5, [.null, .null, .null, .int 0, .double 0, .double 0]))] sz)) 3 30 (va_A [(a, .inr (5, [.null, .null, .null, .int 0, .double 0, .double 0]))] sz) := by
  refine gMet (cc := cX5_init) (maxL := 1) (plainFor_of_name (by decide)) rfl (Nat.le_of_ble_eq_true rfl) ?_
  intro p e s m below meth c hx hb hr hts hown hlocks hml hin hsz hP hE ls hl
  subst hsz
  have hown : s.vm.findClass RX5 = some m.cls := hown
  have hin : meth.name = "<init>" := hin
  have hK : va_K D vwCl (tysX cs) s := hE.1
  have hD : va_D (va_A [(a, .inr (5, [.null, .null, .null, .int 0, .double 0, .double 0]))] s.heap.size) [(a, .inr (5, [.null, .null, .null, .int 0, .double 0, .double 0]))] := D_one
  generalize hAe : va_A [(a, .inr (5, [.null, .null, .null, .int 0, .double 0, .double 0]))] s.heap.size = A at hD ⊢
  have hA : ∀ q : Nat, s.heap.size ≤ q → A q := fun q h => by rw [← hAe]; exact Or.inr h
  have hS : va_S A s.heap s.heap [] := va_S.rf
  have hP : va_P D vwCl [(a, .inr (5, [.null, .null, .null, .int 0, .double 0, .double 0]))] s.heap := hP
  have hl : lv_has ls 1 [(0, .ref a)] := hl
  refine lv_aload_n hx hb dX5_init_0 rfl (lv_at hl 0 rfl) ?_
  refine W.objInit hx hb hown (hts (.methodLink RX5 3 objectInit) (by decide +kernel)) (hts (.instanceMethod objectInit) (by decide +kernel)) (hts _ (List.mem_of_getElem? (i := 3) rfl)) rfl (by rw [hml]; exact hl.1) rfl dX5_init_1 (Nat.le_of_ble_eq_true rfl) (Nat.le_of_ble_eq_true rfl) ?_
  refine W.eq (g2 := F0 m 4 ls []) rfl ?_
  refine lv_aload_n hx hb dX5_init_4 rfl (lv_at hl 0 rfl) ?_
  refine lv_bipush (v := nI 10) hx hb dX5_init_5 (by decide) ?_
  refine xnew (atype := .double) (ty := .double) (N' := 10) (a0 := (10, .inr (.inr (.inr (.inl (fun _ => 0)))))) hx hb (hts (.arrayClass .double) (by decide +kernel)) rfl hK hP hD hS hA 0 rfl (fun _ h9 => h9) (fun _ => vp_cell_d _ _ _) (by decide) rfl (by decide +kernel) (Nat.le_of_ble_eq_true rfl) (Nat.le_of_ble_eq_true rfl) dX5_init_7 (fun q7 H hP hD hS => ?_)
  have hP : va_P D vwCl [(a, .inr (5, [.null, .null, .null, .int 0, .double 0, .double 0])), (q7, .inl (cs 0, 10, .inr (.inr (.inr (.inl (fun _ => 0))))))] H := hP
  have hD : va_D A [(a, .inr (5, [.null, .null, .null, .int 0, .double 0, .double 0])), (q7, .inl (cs 0, 10, .inr (.inr (.inr (.inl (fun _ => 0))))))] := hD
  refine W.widen (k := 1) (n := 10) (by omega) (by omega) ?_
  refine va_putF (D := D) (ci := 5) (v := .ref q7) (ty := .array .double) (C := RX5) (T := TX5) (N := 6) hx hb hts iX5_init tyX5 tyX5_ok nmX5 hown hK hP hD hS 0 rfl rfl 0 (by decide) (hts (.fieldLink RX5 9 "NetShapes$Water" "depths" "[D") (by decide +kernel)) (fun _ h9 => h9) rfl hin rfl (by decide +kernel) rfl rfl (Nat.le_of_ble_eq_true rfl) dX5_init_9 (fun H locs hP hD hS => ?_)
  have hP : va_P D vwCl [(a, .inr (5, [.ref q7, .null, .null, .int 0, .double 0, .double 0])), (q7, .inl (cs 0, 10, .inr (.inr (.inr (.inl (fun _ => 0))))))] H := hP
  have hD : va_D A [(a, .inr (5, [.ref q7, .null, .null, .int 0, .double 0, .double 0])), (q7, .inl (cs 0, 10, .inr (.inr (.inr (.inl (fun _ => 0))))))] := hD
  refine lv_aload_n hx hb dX5_init_12 rfl (lv_at hl 0 rfl) ?_
  refine lv_bipush (v := nI 10) hx hb dX5_init_13 (by decide) ?_
  refine xnew (atype := .double) (ty := .double) (N' := 10) (a0 := (10, .inr (.inr (.inr (.inl (fun _ => 0)))))) hx hb (hts (.arrayClass .double) (by decide +kernel)) rfl hK hP hD hS hA 0 rfl (fun _ h9 => h9) (fun _ => vp_cell_d _ _ _) (by decide) rfl (by decide +kernel) (Nat.le_of_ble_eq_true rfl) (Nat.le_of_ble_eq_true rfl) dX5_init_15 (fun q15 H hP hD hS => ?_)
  have hP : va_P D vwCl [(a, .inr (5, [.ref q7, .null, .null, .int 0, .double 0, .double 0])), (q7, .inl (cs 0, 10, .inr (.inr (.inr (.inl (fun _ => 0)))))), (q15, .inl (cs 0, 10, .inr (.inr (.inr (.inl (fun _ => 0))))))] H := hP
  have hD : va_D A [(a, .inr (5, [.ref q7, .null, .null, .int 0, .double 0, .double 0])), (q7, .inl (cs 0, 10, .inr (.inr (.inr (.inl (fun _ => 0)))))), (q15, .inl (cs 0, 10, .inr (.inr (.inr (.inl (fun _ => 0))))))] := hD
  refine W.widen (k := 2) (n := 20) (by omega) (by omega) ?_
  refine va_putF (D := D) (ci := 5) (v := .ref q15) (ty := .array .double) (C := RX5) (T := TX5) (N := 6) hx hb hts iX5_init tyX5 tyX5_ok nmX5 hown hK hP hD hS 0 rfl rfl 1 (by decide) (hts (.fieldLink RX5 15 "NetShapes$Water" "towardsX" "[D") (by decide +kernel)) (fun _ h9 => h9) rfl hin rfl (by decide +kernel) rfl rfl (Nat.le_of_ble_eq_true rfl) dX5_init_17 (fun H locs hP hD hS => ?_)
  have hP : va_P D vwCl [(a, .inr (5, [.ref q7, .ref q15, .null, .int 0, .double 0, .double 0])), (q7, .inl (cs 0, 10, .inr (.inr (.inr (.inl (fun _ => 0)))))), (q15, .inl (cs 0, 10, .inr (.inr (.inr (.inl (fun _ => 0))))))] H := hP
  have hD : va_D A [(a, .inr (5, [.ref q7, .ref q15, .null, .int 0, .double 0, .double 0])), (q7, .inl (cs 0, 10, .inr (.inr (.inr (.inl (fun _ => 0)))))), (q15, .inl (cs 0, 10, .inr (.inr (.inr (.inl (fun _ => 0))))))] := hD
  refine lv_aload_n hx hb dX5_init_20 rfl (lv_at hl 0 rfl) ?_
  refine lv_bipush (v := nI 10) hx hb dX5_init_21 (by decide) ?_
  refine xnew (atype := .double) (ty := .double) (N' := 10) (a0 := (10, .inr (.inr (.inr (.inl (fun _ => 0)))))) hx hb (hts (.arrayClass .double) (by decide +kernel)) rfl hK hP hD hS hA 0 rfl (fun _ h9 => h9) (fun _ => vp_cell_d _ _ _) (by decide) rfl (by decide +kernel) (Nat.le_of_ble_eq_true rfl) (Nat.le_of_ble_eq_true rfl) dX5_init_23 (fun q23 H hP hD hS => ?_)
  have hP : va_P D vwCl [(a, .inr (5, [.ref q7, .ref q15, .null, .int 0, .double 0, .double 0])), (q7, .inl (cs 0, 10, .inr (.inr (.inr (.inl (fun _ => 0)))))), (q15, .inl (cs 0, 10, .inr (.inr (.inr (.inl (fun _ => 0)))))), (q23, .inl (cs 0, 10, .inr (.inr (.inr (.inl (fun _ => 0))))))] H := hP
  have hD : va_D A [(a, .inr (5, [.ref q7, .ref q15, .null, .int 0, .double 0, .double 0])), (q7, .inl (cs 0, 10, .inr (.inr (.inr (.inl (fun _ => 0)))))), (q15, .inl (cs 0, 10, .inr (.inr (.inr (.inl (fun _ => 0)))))), (q23, .inl (cs 0, 10, .inr (.inr (.inr (.inl (fun _ => 0))))))] := hD
  refine W.widen (k := 3) (n := 30) (by omega) (by omega) ?_
  refine va_putF (D := D) (ci := 5) (v := .ref q23) (ty := .array .double) (C := RX5) (T := TX5) (N := 6) hx hb hts iX5_init tyX5 tyX5_ok nmX5 hown hK hP hD hS 0 rfl rfl 2 (by decide) (hts (.fieldLink RX5 18 "NetShapes$Water" "towardsY" "[D") (by decide +kernel)) (fun _ h9 => h9) rfl hin rfl (by decide +kernel) rfl rfl (Nat.le_of_ble_eq_true rfl) dX5_init_25 (fun H locs hP hD hS => ?_)
  have hP : va_P D vwCl [(a, .inr (5, [.ref q7, .ref q15, .ref q23, .int 0, .double 0, .double 0])), (q7, .inl (cs 0, 10, .inr (.inr (.inr (.inl (fun _ => 0)))))), (q15, .inl (cs 0, 10, .inr (.inr (.inr (.inl (fun _ => 0)))))), (q23, .inl (cs 0, 10, .inr (.inr (.inr (.inl (fun _ => 0))))))] H := hP
  have hD : va_D A [(a, .inr (5, [.ref q7, .ref q15, .ref q23, .int 0, .double 0, .double 0])), (q7, .inl (cs 0, 10, .inr (.inr (.inr (.inl (fun _ => 0)))))), (q15, .inl (cs 0, 10, .inr (.inr (.inr (.inl (fun _ => 0)))))), (q23, .inl (cs 0, 10, .inr (.inr (.inr (.inl (fun _ => 0))))))] := hD
  refine lv_aload_n hx hb dX5_init_28 rfl (lv_at hl 0 rfl) ?_
  refine lv_iconst (v := nI 0) hx hb dX5_init_29 (by decide) ?_
  refine va_put (D := D) (ci := 5) (v := .int (nI 0)) (ty := .int) (C := RX5) (T := TX5) (N := 6) hx hb hts iX5_init tyX5 tyX5_ok nmX5 hown hK hP hD hS 0 rfl rfl 3 (by decide) (hts (.fieldLink RX5 21 "NetShapes$Water" "count" "I") (by decide +kernel)) (fun _ h9 => h9) rfl (by decide +kernel) rfl rfl (Nat.le_of_ble_eq_true rfl) dX5_init_30 (fun H locs hP hD hS => ?_)
  have hP : va_P D vwCl [(a, .inr (5, [.ref q7, .ref q15, .ref q23, .int (nI 0), .double 0, .double 0])), (q7, .inl (cs 0, 10, .inr (.inr (.inr (.inl (fun _ => 0)))))), (q15, .inl (cs 0, 10, .inr (.inr (.inr (.inl (fun _ => 0)))))), (q23, .inl (cs 0, 10, .inr (.inr (.inr (.inl (fun _ => 0))))))] H := hP
  have hD : va_D A [(a, .inr (5, [.ref q7, .ref q15, .ref q23, .int (nI 0), .double 0, .double 0])), (q7, .inl (cs 0, 10, .inr (.inr (.inr (.inl (fun _ => 0)))))), (q15, .inl (cs 0, 10, .inr (.inr (.inr (.inl (fun _ => 0)))))), (q23, .inl (cs 0, 10, .inr (.inr (.inr (.inl (fun _ => 0))))))] := hD
  refine lv_aload_n hx hb dX5_init_33 rfl (lv_at hl 0 rfl) ?_
  refine lv_dconst0 hx hb dX5_init_34 ?_
  refine va_put (D := D) (ci := 5) (v := .double FP.dconst0) (ty := .double) (C := RX5) (T := TX5) (N := 6) hx hb hts iX5_init tyX5 tyX5_ok nmX5 hown hK hP hD hS 0 rfl rfl 4 (by decide) (hts (.fieldLink RX5 25 "NetShapes$Water" "waveShare" "D") (by decide +kernel)) (fun _ h9 => h9) rfl (by decide +kernel) rfl rfl (Nat.le_of_ble_eq_true rfl) dX5_init_35 (fun H locs hP hD hS => ?_)
  have hP : va_P D vwCl [(a, .inr (5, [.ref q7, .ref q15, .ref q23, .int (nI 0), .double FP.dconst0, .double 0])), (q7, .inl (cs 0, 10, .inr (.inr (.inr (.inl (fun _ => 0)))))), (q15, .inl (cs 0, 10, .inr (.inr (.inr (.inl (fun _ => 0)))))), (q23, .inl (cs 0, 10, .inr (.inr (.inr (.inl (fun _ => 0))))))] H := hP
  have hD : va_D A [(a, .inr (5, [.ref q7, .ref q15, .ref q23, .int (nI 0), .double FP.dconst0, .double 0])), (q7, .inl (cs 0, 10, .inr (.inr (.inr (.inl (fun _ => 0)))))), (q15, .inl (cs 0, 10, .inr (.inr (.inr (.inl (fun _ => 0)))))), (q23, .inl (cs 0, 10, .inr (.inr (.inr (.inl (fun _ => 0))))))] := hD
  refine lv_aload_n hx hb dX5_init_38 rfl (lv_at hl 0 rfl) ?_
  refine lv_dconst0 hx hb dX5_init_39 ?_
  refine va_put (D := D) (ci := 5) (v := .double FP.dconst0) (ty := .double) (C := RX5) (T := TX5) (N := 6) hx hb hts iX5_init tyX5 tyX5_ok nmX5 hown hK hP hD hS 0 rfl rfl 5 (by decide) (hts (.fieldLink RX5 29 "NetShapes$Water" "foulShare" "D") (by decide +kernel)) (fun _ h9 => h9) rfl (by decide +kernel) rfl rfl (Nat.le_of_ble_eq_true rfl) dX5_init_40 (fun H locs hP hD hS => ?_)
  have hP : va_P D vwCl [(a, .inr (5, [.ref q7, .ref q15, .ref q23, .int (nI 0), .double FP.dconst0, .double FP.dconst0])), (q7, .inl (cs 0, 10, .inr (.inr (.inr (.inl (fun _ => 0)))))), (q15, .inl (cs 0, 10, .inr (.inr (.inr (.inl (fun _ => 0)))))), (q23, .inl (cs 0, 10, .inr (.inr (.inr (.inl (fun _ => 0))))))] H := hP
  have hD : va_D A [(a, .inr (5, [.ref q7, .ref q15, .ref q23, .int (nI 0), .double FP.dconst0, .double FP.dconst0])), (q7, .inl (cs 0, 10, .inr (.inr (.inr (.inl (fun _ => 0)))))), (q15, .inl (cs 0, 10, .inr (.inr (.inr (.inl (fun _ => 0)))))), (q23, .inl (cs 0, 10, .inr (.inr (.inr (.inl (fun _ => 0))))))] := hD
  exact W.vret hx hb hr (fun t ht _ => ⟨⟨(lk [q7, q15, q23]), rfl, trivial, by rw [ht]; exact hP, hD⟩, hS.F ht⟩) hS.2.2 dX5_init_43 hlocks
def wX0_init (cs : Nat → ClassId) (a : Nat) (n b w : Nat) (r : Nat → Nat) : va_W := [(a, .inr (0, [.ref n, .ref b, .ref w, .ref (r 0), .double 13830554455654793216, .ref (r 1), .ref (r 2)])), ((r 0), .inl (cs 0, 3, .inr (.inr (.inr (.inl (fun _ => 0)))))), ((r 1), .inl (cs 0, 3, .inr (.inr (.inr (.inl (fun _ => 0)))))), ((r 2), .inl (cs 0, 3, .inr (.inr (.inr (.inl (fun _ => 0))))))]
theorem iX0_init : ∀ w ∈ u_ws RX0 TX0 7, w ∈ wsX0_init := by decide +kernel
set_option maxHeartbeats 400000 in
set_option maxRecDepth 100000 in
theorem kX0_init (l : Launch) (D : va_G) (cs : Nat → ClassId) (a n b w sz : Nat) : Met l yX0_init wsX0_init ({ frames := 1, cells := 3, slots := 9, locals := 12 } : Room) (gP D (fun _ : Unit => [(a, .inr (0, [.null, .null, .null, .null, .double 0, .null, .null]))]) (EC D cs) () sz ([.ref a, .ref n, .ref b, .ref w] : List Value)) (va_Qv (fun _ : Nat → Nat => True) (cB D (va_A [(a, .inr (0, [.null, .null, .null, .null, .double 0, .null, .null]))] sz) (wX0_init cs a n b w)) (va_A [(a, .inr (0, [.null, .null, .null, .null, .double 0, .null, .null]))] sz)) 3 9 (va_A [(a, .inr (0, [.null, .null, .null, .null, .double 0, .null, .null]))] sz) := by
  refine gMet (cc := cX0_init) (maxL := 4) (plainFor_of_name (by decide)) rfl (Nat.le_of_ble_eq_true rfl) ?_
  intro p e s m below meth c hx hb hr hts hown hlocks hml hin hsz hP hE ls hl
  subst hsz
  have hown : s.vm.findClass RX0 = some m.cls := hown
  have hin : meth.name = "<init>" := hin
  have hK : va_K D vwCl (tysX cs) s := hE.1
  have hD : va_D (va_A [(a, .inr (0, [.null, .null, .null, .null, .double 0, .null, .null]))] s.heap.size) [(a, .inr (0, [.null, .null, .null, .null, .double 0, .null, .null]))] := D_one
  generalize hAe : va_A [(a, .inr (0, [.null, .null, .null, .null, .double 0, .null, .null]))] s.heap.size = A at hD ⊢
  have hA : ∀ q : Nat, s.heap.size ≤ q → A q := fun q h => by rw [← hAe]; exact Or.inr h
  have hS : va_S A s.heap s.heap [] := va_S.rf
  have hP : va_P D vwCl [(a, .inr (0, [.null, .null, .null, .null, .double 0, .null, .null]))] s.heap := hP
  have hl : lv_has ls 4 [(0, .ref a), (1, .ref n), (2, .ref b), (3, .ref w)] := hl
  refine lv_aload_n hx hb dX0_init_0 rfl (lv_at hl 0 rfl) ?_
  refine W.objInit hx hb hown (hts (.methodLink RX0 3 objectInit) (by decide +kernel)) (hts (.instanceMethod objectInit) (by decide +kernel)) (hts _ (List.mem_of_getElem? (i := 3) rfl)) rfl (by rw [hml]; exact hl.1) rfl dX0_init_1 (Nat.le_of_ble_eq_true rfl) (Nat.le_of_ble_eq_true rfl) ?_
  refine W.eq (g2 := F0 m 4 ls []) rfl ?_
  refine lv_aload_n hx hb dX0_init_4 rfl (lv_at hl 0 rfl) ?_
  refine lv_iconst (v := nI 3) hx hb dX0_init_5 (by decide) ?_
  refine xnew (atype := .double) (ty := .double) (N' := 3) (a0 := (3, .inr (.inr (.inr (.inl (fun _ => 0)))))) hx hb (hts (.arrayClass .double) (by decide +kernel)) rfl hK hP hD hS hA 0 rfl (fun _ h9 => h9) (fun _ => vp_cell_d _ _ _) (by decide) rfl (by decide +kernel) (Nat.le_of_ble_eq_true rfl) (Nat.le_of_ble_eq_true rfl) dX0_init_6 (fun q6 H hP hD hS => ?_)
  have hP : va_P D vwCl [(a, .inr (0, [.null, .null, .null, .null, .double 0, .null, .null])), (q6, .inl (cs 0, 3, .inr (.inr (.inr (.inl (fun _ => 0))))))] H := hP
  have hD : va_D A [(a, .inr (0, [.null, .null, .null, .null, .double 0, .null, .null])), (q6, .inl (cs 0, 3, .inr (.inr (.inr (.inl (fun _ => 0))))))] := hD
  refine W.widen (k := 1) (n := 3) (by omega) (by omega) ?_
  refine va_putF (D := D) (ci := 0) (v := .ref q6) (ty := .array .double) (C := RX0) (T := TX0) (N := 7) hx hb hts iX0_init tyX0 tyX0_ok nmX0 hown hK hP hD hS 0 rfl rfl 3 (by decide) (hts (.fieldLink RX0 9 "NetShapes$Balance" "drags" "[D") (by decide +kernel)) (fun _ h9 => h9) rfl hin rfl (by decide +kernel) rfl rfl (Nat.le_of_ble_eq_true rfl) dX0_init_8 (fun H locs hP hD hS => ?_)
  have hP : va_P D vwCl [(a, .inr (0, [.null, .null, .null, .ref q6, .double 0, .null, .null])), (q6, .inl (cs 0, 3, .inr (.inr (.inr (.inl (fun _ => 0))))))] H := hP
  have hD : va_D A [(a, .inr (0, [.null, .null, .null, .ref q6, .double 0, .null, .null])), (q6, .inl (cs 0, 3, .inr (.inr (.inr (.inl (fun _ => 0))))))] := hD
  refine lv_aload_n hx hb dX0_init_11 rfl (lv_at hl 0 rfl) ?_
  refine lv_ldc2d hx hb hown (hts (.constantDouble RX0 15 13830554455654793216) (by decide +kernel)) dX0_init_12 ?_
  refine va_put (D := D) (ci := 0) (v := .double 13830554455654793216) (ty := .double) (C := RX0) (T := TX0) (N := 7) hx hb hts iX0_init tyX0 tyX0_ok nmX0 hown hK hP hD hS 0 rfl rfl 4 (by decide) (hts (.fieldLink RX0 17 "NetShapes$Balance" "greatestForce" "D") (by decide +kernel)) (fun _ h9 => h9) rfl (by decide +kernel) rfl rfl (Nat.le_of_ble_eq_true rfl) dX0_init_15 (fun H locs hP hD hS => ?_)
  have hP : va_P D vwCl [(a, .inr (0, [.null, .null, .null, .ref q6, .double 13830554455654793216, .null, .null])), (q6, .inl (cs 0, 3, .inr (.inr (.inr (.inl (fun _ => 0))))))] H := hP
  have hD : va_D A [(a, .inr (0, [.null, .null, .null, .ref q6, .double 13830554455654793216, .null, .null])), (q6, .inl (cs 0, 3, .inr (.inr (.inr (.inl (fun _ => 0))))))] := hD
  refine lv_aload_n hx hb dX0_init_18 rfl (lv_at hl 0 rfl) ?_
  refine lv_iconst (v := nI 3) hx hb dX0_init_19 (by decide) ?_
  refine xnew (atype := .double) (ty := .double) (N' := 3) (a0 := (3, .inr (.inr (.inr (.inl (fun _ => 0)))))) hx hb (hts (.arrayClass .double) (by decide +kernel)) rfl hK hP hD hS hA 0 rfl (fun _ h9 => h9) (fun _ => vp_cell_d _ _ _) (by decide) rfl (by decide +kernel) (Nat.le_of_ble_eq_true rfl) (Nat.le_of_ble_eq_true rfl) dX0_init_20 (fun q20 H hP hD hS => ?_)
  have hP : va_P D vwCl [(a, .inr (0, [.null, .null, .null, .ref q6, .double 13830554455654793216, .null, .null])), (q6, .inl (cs 0, 3, .inr (.inr (.inr (.inl (fun _ => 0)))))), (q20, .inl (cs 0, 3, .inr (.inr (.inr (.inl (fun _ => 0))))))] H := hP
  have hD : va_D A [(a, .inr (0, [.null, .null, .null, .ref q6, .double 13830554455654793216, .null, .null])), (q6, .inl (cs 0, 3, .inr (.inr (.inr (.inl (fun _ => 0)))))), (q20, .inl (cs 0, 3, .inr (.inr (.inr (.inl (fun _ => 0))))))] := hD
  refine W.widen (k := 2) (n := 6) (by omega) (by omega) ?_
  refine va_putF (D := D) (ci := 0) (v := .ref q20) (ty := .array .double) (C := RX0) (T := TX0) (N := 7) hx hb hts iX0_init tyX0 tyX0_ok nmX0 hown hK hP hD hS 0 rfl rfl 5 (by decide) (hts (.fieldLink RX0 21 "NetShapes$Balance" "span" "[D") (by decide +kernel)) (fun _ h9 => h9) rfl hin rfl (by decide +kernel) rfl rfl (Nat.le_of_ble_eq_true rfl) dX0_init_22 (fun H locs hP hD hS => ?_)
  have hP : va_P D vwCl [(a, .inr (0, [.null, .null, .null, .ref q6, .double 13830554455654793216, .ref q20, .null])), (q6, .inl (cs 0, 3, .inr (.inr (.inr (.inl (fun _ => 0)))))), (q20, .inl (cs 0, 3, .inr (.inr (.inr (.inl (fun _ => 0))))))] H := hP
  have hD : va_D A [(a, .inr (0, [.null, .null, .null, .ref q6, .double 13830554455654793216, .ref q20, .null])), (q6, .inl (cs 0, 3, .inr (.inr (.inr (.inl (fun _ => 0)))))), (q20, .inl (cs 0, 3, .inr (.inr (.inr (.inl (fun _ => 0))))))] := hD
  refine lv_aload_n hx hb dX0_init_25 rfl (lv_at hl 0 rfl) ?_
  refine lv_iconst (v := nI 3) hx hb dX0_init_26 (by decide) ?_
  refine xnew (atype := .double) (ty := .double) (N' := 3) (a0 := (3, .inr (.inr (.inr (.inl (fun _ => 0)))))) hx hb (hts (.arrayClass .double) (by decide +kernel)) rfl hK hP hD hS hA 0 rfl (fun _ h9 => h9) (fun _ => vp_cell_d _ _ _) (by decide) rfl (by decide +kernel) (Nat.le_of_ble_eq_true rfl) (Nat.le_of_ble_eq_true rfl) dX0_init_27 (fun q27 H hP hD hS => ?_)
  have hP : va_P D vwCl [(a, .inr (0, [.null, .null, .null, .ref q6, .double 13830554455654793216, .ref q20, .null])), (q6, .inl (cs 0, 3, .inr (.inr (.inr (.inl (fun _ => 0)))))), (q20, .inl (cs 0, 3, .inr (.inr (.inr (.inl (fun _ => 0)))))), (q27, .inl (cs 0, 3, .inr (.inr (.inr (.inl (fun _ => 0))))))] H := hP
  have hD : va_D A [(a, .inr (0, [.null, .null, .null, .ref q6, .double 13830554455654793216, .ref q20, .null])), (q6, .inl (cs 0, 3, .inr (.inr (.inr (.inl (fun _ => 0)))))), (q20, .inl (cs 0, 3, .inr (.inr (.inr (.inl (fun _ => 0)))))), (q27, .inl (cs 0, 3, .inr (.inr (.inr (.inl (fun _ => 0))))))] := hD
  refine W.widen (k := 3) (n := 9) (by omega) (by omega) ?_
  refine va_putF (D := D) (ci := 0) (v := .ref q27) (ty := .array .double) (C := RX0) (T := TX0) (N := 7) hx hb hts iX0_init tyX0 tyX0_ok nmX0 hown hK hP hD hS 0 rfl rfl 6 (by decide) (hts (.fieldLink RX0 24 "NetShapes$Balance" "acrossFlow" "[D") (by decide +kernel)) (fun _ h9 => h9) rfl hin rfl (by decide +kernel) rfl rfl (Nat.le_of_ble_eq_true rfl) dX0_init_29 (fun H locs hP hD hS => ?_)
  have hP : va_P D vwCl [(a, .inr (0, [.null, .null, .null, .ref q6, .double 13830554455654793216, .ref q20, .ref q27])), (q6, .inl (cs 0, 3, .inr (.inr (.inr (.inl (fun _ => 0)))))), (q20, .inl (cs 0, 3, .inr (.inr (.inr (.inl (fun _ => 0)))))), (q27, .inl (cs 0, 3, .inr (.inr (.inr (.inl (fun _ => 0))))))] H := hP
  have hD : va_D A [(a, .inr (0, [.null, .null, .null, .ref q6, .double 13830554455654793216, .ref q20, .ref q27])), (q6, .inl (cs 0, 3, .inr (.inr (.inr (.inl (fun _ => 0)))))), (q20, .inl (cs 0, 3, .inr (.inr (.inr (.inl (fun _ => 0)))))), (q27, .inl (cs 0, 3, .inr (.inr (.inr (.inl (fun _ => 0))))))] := hD
  refine lv_aload_n hx hb dX0_init_32 rfl (lv_at hl 0 rfl) ?_
  refine lv_aload_n hx hb dX0_init_33 rfl (lv_at hl 1 rfl) ?_
  refine va_putF (D := D) (ci := 0) (v := .ref n) (ty := .object "NetShapes$Nodes") (C := RX0) (T := TX0) (N := 7) hx hb hts iX0_init tyX0 tyX0_ok nmX0 hown hK hP hD hS 0 rfl rfl 0 (by decide) (hts (.fieldLink RX0 27 "NetShapes$Balance" "nodes" "LNetShapes$Nodes;") (by decide +kernel)) (fun _ h9 => h9) rfl hin rfl (by decide +kernel) rfl rfl (Nat.le_of_ble_eq_true rfl) dX0_init_34 (fun H locs hP hD hS => ?_)
  have hP : va_P D vwCl [(a, .inr (0, [.ref n, .null, .null, .ref q6, .double 13830554455654793216, .ref q20, .ref q27])), (q6, .inl (cs 0, 3, .inr (.inr (.inr (.inl (fun _ => 0)))))), (q20, .inl (cs 0, 3, .inr (.inr (.inr (.inl (fun _ => 0)))))), (q27, .inl (cs 0, 3, .inr (.inr (.inr (.inl (fun _ => 0))))))] H := hP
  have hD : va_D A [(a, .inr (0, [.ref n, .null, .null, .ref q6, .double 13830554455654793216, .ref q20, .ref q27])), (q6, .inl (cs 0, 3, .inr (.inr (.inr (.inl (fun _ => 0)))))), (q20, .inl (cs 0, 3, .inr (.inr (.inr (.inl (fun _ => 0)))))), (q27, .inl (cs 0, 3, .inr (.inr (.inr (.inl (fun _ => 0))))))] := hD
  refine lv_aload_n hx hb dX0_init_37 rfl (lv_at hl 0 rfl) ?_
  refine lv_aload_n hx hb dX0_init_38 rfl (lv_at hl 2 rfl) ?_
  refine va_putF (D := D) (ci := 0) (v := .ref b) (ty := .object "NetShapes$Bars") (C := RX0) (T := TX0) (N := 7) hx hb hts iX0_init tyX0 tyX0_ok nmX0 hown hK hP hD hS 0 rfl rfl 1 (by decide) (hts (.fieldLink RX0 31 "NetShapes$Balance" "bars" "LNetShapes$Bars;") (by decide +kernel)) (fun _ h9 => h9) rfl hin rfl (by decide +kernel) rfl rfl (Nat.le_of_ble_eq_true rfl) dX0_init_39 (fun H locs hP hD hS => ?_)
  have hP : va_P D vwCl [(a, .inr (0, [.ref n, .ref b, .null, .ref q6, .double 13830554455654793216, .ref q20, .ref q27])), (q6, .inl (cs 0, 3, .inr (.inr (.inr (.inl (fun _ => 0)))))), (q20, .inl (cs 0, 3, .inr (.inr (.inr (.inl (fun _ => 0)))))), (q27, .inl (cs 0, 3, .inr (.inr (.inr (.inl (fun _ => 0))))))] H := hP
  have hD : va_D A [(a, .inr (0, [.ref n, .ref b, .null, .ref q6, .double 13830554455654793216, .ref q20, .ref q27])), (q6, .inl (cs 0, 3, .inr (.inr (.inr (.inl (fun _ => 0)))))), (q20, .inl (cs 0, 3, .inr (.inr (.inr (.inl (fun _ => 0)))))), (q27, .inl (cs 0, 3, .inr (.inr (.inr (.inl (fun _ => 0))))))] := hD
  refine lv_aload_n hx hb dX0_init_42 rfl (lv_at hl 0 rfl) ?_
  refine lv_aload_n hx hb dX0_init_43 rfl (lv_at hl 3 rfl) ?_
  refine va_putF (D := D) (ci := 0) (v := .ref w) (ty := .object "NetShapes$Water") (C := RX0) (T := TX0) (N := 7) hx hb hts iX0_init tyX0 tyX0_ok nmX0 hown hK hP hD hS 0 rfl rfl 2 (by decide) (hts (.fieldLink RX0 35 "NetShapes$Balance" "water" "LNetShapes$Water;") (by decide +kernel)) (fun _ h9 => h9) rfl hin rfl (by decide +kernel) rfl rfl (Nat.le_of_ble_eq_true rfl) dX0_init_44 (fun H locs hP hD hS => ?_)
  have hP : va_P D vwCl [(a, .inr (0, [.ref n, .ref b, .ref w, .ref q6, .double 13830554455654793216, .ref q20, .ref q27])), (q6, .inl (cs 0, 3, .inr (.inr (.inr (.inl (fun _ => 0)))))), (q20, .inl (cs 0, 3, .inr (.inr (.inr (.inl (fun _ => 0)))))), (q27, .inl (cs 0, 3, .inr (.inr (.inr (.inl (fun _ => 0))))))] H := hP
  have hD : va_D A [(a, .inr (0, [.ref n, .ref b, .ref w, .ref q6, .double 13830554455654793216, .ref q20, .ref q27])), (q6, .inl (cs 0, 3, .inr (.inr (.inr (.inl (fun _ => 0)))))), (q20, .inl (cs 0, 3, .inr (.inr (.inr (.inl (fun _ => 0)))))), (q27, .inl (cs 0, 3, .inr (.inr (.inr (.inl (fun _ => 0))))))] := hD
  exact W.vret hx hb hr (fun t ht _ => ⟨⟨(lk [q6, q20, q27]), rfl, trivial, by rw [ht]; exact hP, hD⟩, hS.F ht⟩) hS.2.2 dX0_init_47 hlocks
