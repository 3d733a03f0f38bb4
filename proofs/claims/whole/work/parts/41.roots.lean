/-! ROOT, the size, a step, floorMod, Math.max and Math.min of doubles -/
theorem root_early {v : UInt64} {K : Nat} (hv : fB K v) (h0 : 1024 ≤ K) (hK : K ≤ 1900) (pv : fP v) (hg : dgt v FP.dconst0) {i : Nat} (hi : i < 30) (h : deq (rI v (i + 1)) (rI v i)) : rI v i = rootF v := by
  have e := deq_bits (rI_ok hv h0 hK pv (i + 1) (by omega)).1 (rI_ok hv h0 hK pv i (by omega)).1 h
  have e2 := rI_stop e (30 - i)
  rw [show i + (30 - i) = 30 by omega] at e2
  unfold rootF
  rw [if_pos hg, e2]
theorem root_end {v : UInt64} (hg : dgt v FP.dconst0) {i : Nat} (h1 : 30 ≤ i) (h2 : i ≤ 30) : rI v i = rootF v := by
  unfold rootF
  rw [if_pos hg, show i = 30 by omega]
def sizeF (v : UInt64) : UInt64 := if dlt v FP.dconst0 then FP.dneg v else v
theorem sub0 {v : UInt64} {K : Nat} (hv : fB K v) (hK : K ≤ 2047) (h : dlt v FP.dconst0) : FP.dsub FP.dconst0 v = FP.dneg v := by
  have hn := fB_nn hv hK
  have hnn : FP.dIsNaN v = false := (FP.Core.notNaN_iff v).mpr hn
  rw [FP.dneg_core hnn, show FP.dsub FP.dconst0 v = FP.Core.dsub FP.Core.dconst0 v from rfl, FP.Core.dsub_eq, FP.Core.dadd_comm]
  refine FP.Core.dadd_zero (by rw [FP.Core.val64_dneg]; exact FP.Core.negate_ne_nan hn) ?_
  intro e
  have z1 := zneg v
  rw [e] at z1
  have z0 : zv FP.Core.dzeroNeg = 0 := by decide +kernel
  have z2 := (FP.Core.dcmp_lt.mp h).2.2
  have z3 : zv FP.dconst0 = 0 := by decide +kernel
  have z4 : zv v < zv FP.dconst0 := z2
  omega
def stepF (f : UInt64) : UInt64 := if dgt (FP.dmul 4557750909289998844 f) 4598175219545276416 then 4598175219545276416 else if dlt (FP.dmul 4557750909289998844 f) 13821547256400052224 then 13821547256400052224 else FP.dmul 4557750909289998844 f
theorem neg_quarter : FP.dneg 4598175219545276416 = 13821547256400052224 := by decide +kernel
def fmodF (x y : Int32) : Int32 := if 0 ≤ x ^^^ y then x - x / y * y else if x - x / y * y = 0 then x - x / y * y else (x - x / y * y) + y
theorem fmod20 : ∀ n, n < 20 → ∀ b, b < 20 → fmodF ((nI n - nI 1) - nI b) (nI 20) = nI ((n + 19 - b) % 20) := by decide +kernel
def maxF (a b : UInt64) : UInt64 := if dge a b then a else b
def minF (a b : UInt64) : UInt64 := if dle a b then a else b
theorem deq_eq {a b : UInt64} (ha : a ≠ 9223372036854775808) (hb : b ≠ 9223372036854775808) (h : deq a b) : a = b := by
  obtain ⟨h1, h2, h3⟩ := FP.Core.dcmp_eq.mp h
  have k1 := (zle_key h1 h2).mp (by unfold zv; omega)
  have k2 := (zle_key h2 h1).mp (by unfold zv; omega)
  have a1 : a.toNat ≠ 9223372036854775808 := fun q => ha (UInt64.toNat.inj (q.trans (by decide)))
  have b1 : b.toNat ≠ 9223372036854775808 := fun q => hb (UInt64.toNat.inj (q.trans (by decide)))
  have a2 := a.toNat_lt
  have b2 := b.toNat_lt
  unfold FP.Core.dkey at k1 k2
  refine UInt64.toNat.inj ?_
  by_cases ca : 2 ^ 63 ≤ a.toNat <;> by_cases cb : 2 ^ 63 ≤ b.toNat
  · rw [if_pos ca, if_pos cb] at k1 k2; omega
  · rw [if_pos ca, if_neg cb] at k1; rw [if_neg cb, if_pos ca] at k2; omega
  · rw [if_neg ca, if_pos cb] at k1; rw [if_pos cb, if_neg ca] at k2; omega
  · rw [if_neg ca, if_neg cb] at k1 k2; omega
theorem dcmp_3 {a b : UInt64} (na : nn a) (nb : nn b) : FP.dcmp a b = some .lt ∨ FP.dcmp a b = some .eq ∨ FP.dcmp a b = some .gt := by
  rcases hq : FP.dcmp a b with _ | (_ | _ | _)
  · exact absurd ((FP.Core.dcmp_none a b).mp hq) (fun q => q.elim na nb)
  · exact Or.inl rfl
  · exact Or.inr (Or.inl rfl)
  · exact Or.inr (Or.inr rfl)
theorem pick_max {a b : UInt64} (ha : a ≠ 9223372036854775808) (hb : b ≠ 9223372036854775808) (na : nn a) (nb : nn b) : Native.java_lang_Math.nans.pick64 true a b = maxF a b := by
  rcases dcmp_3 na nb with q | q | q
  · simp [Native.java_lang_Math.nans.pick64, maxF, dge, q]
  · have e := deq_eq ha hb q
    subst e
    simp [Native.java_lang_Math.nans.pick64, maxF, dge, q]
  · simp [Native.java_lang_Math.nans.pick64, maxF, dge, q]
theorem pick_min {a b : UInt64} (ha : a ≠ 9223372036854775808) (hb : b ≠ 9223372036854775808) (na : nn a) (nb : nn b) : Native.java_lang_Math.nans.pick64 false a b = minF a b := by
  rcases dcmp_3 na nb with q | q | q
  · simp [Native.java_lang_Math.nans.pick64, minF, dle, q]
  · have e := deq_eq ha hb q
    subst e
    simp [Native.java_lang_Math.nans.pick64, minF, dle, q]
  · simp [Native.java_lang_Math.nans.pick64, minF, dle, q]
section MXD
variable {p : Program} {l : Launch} {e : Env} {R : Room} {s : State} {m : MethodId} {args : Array Value} {below : List Frame} {meth : Method} {c : Code} {H : Heap} {locs : List Loc} {cells slots : Nat} {Q : State → Prop}
variable {cc : ByteArray} {pc : Nat} {ls : Array Slot} {rest : List Value}
theorem xdmax (hexec : p.tables.exec = Jvm.exec) (hb : c.code = cc) (hml : c.maxLocals = ls.size) {own : String} {index : Nat} (hown : s.vm.findClass own = some m.cls) (hlink : (Cond.methodLink own index yJ9_max_eb370).before args s = true) (hstat : (Cond.static yJ9_max_eb370).before args s = true) (hini : (Cond.initialized RJ9).before args s = true) (hcode : (Cond.code yJ9_max_eb370 cJ9_max_eb370 4 (some .double)).before args s = true)
    (hfr : 1 ≤ R.frames) (hlo : 8 + 15 ≤ R.locals) (hW : (rest.map fun v => v.category).sum ≤ 8) (hc : cells ≤ R.cells) (hs : slots ≤ R.slots) {x y : UInt64} (nx : nn x) (ny : nn y) (zx : x ≠ 9223372036854775808) (zy : y ≠ 9223372036854775808) (hdg : decode cc pc = .ok (.invokestatic index, 3))
    (kk : W p l e R s m args below meth c H locs cells slots Q (F0 m (pc + 3) ls (.double (maxF x y) :: rest))) : W p l e R s m args below meth c H locs cells slots Q (F0 m pc ls (.double y :: .double x :: rest)) := by
  intro T hT X
  have qx : FP.dIsNaN x = false := (FP.Core.notNaN_iff x).mpr nx
  have qy : FP.dIsNaN y = false := (FP.Core.notNaN_iff y).mpr ny
  obtain ⟨row, hrow⟩ : ∃ row, (Native.java_lang_Math.nans.extremum "max" true "nat.java_lang_Math.max" "nat.java_lang_Math.max/float").head? = some row := ⟨_, rfl⟩
  obtain ⟨v, vm₁, B, hW1, X', ⟨hv, hB⟩, st⟩ := callS X hexec hown hlink hstat hini hcode ⟨by decide, by decide⟩ (ow_back (av := [.double x, .double y]) (len := 3) (W := 8) hcode (by decide +kernel) ((ow_max p).trans hrow) (ow_two x y) ow_dd (ow_pick hrow qx qy) hfr hlo) (g := F0 m pc ls (.double y :: .double x :: rest)) rfl (by rw [hml]) (argsL := [.double x, .double y]) (rest := rest)
    (fun sig h => (ow_dd sig h).symm) rfl (by show 2 * 0 + _ ≤ 8; omega) (by rw [hb]; exact hdg) (fun vm₁ _ => rfl)
  subst hv
  subst hB
  rw [pick_max zx zy nx ny] at st
  obtain ⟨t, a1, b1⟩ := kk (T.setVm vm₁) hT X'
  exact ⟨t, st t a1, b1⟩
theorem xdmin (hexec : p.tables.exec = Jvm.exec) (hb : c.code = cc) (hml : c.maxLocals = ls.size) {own : String} {index : Nat} (hown : s.vm.findClass own = some m.cls) (hlink : (Cond.methodLink own index yJ9_min_eb370).before args s = true) (hstat : (Cond.static yJ9_min_eb370).before args s = true) (hini : (Cond.initialized RJ9).before args s = true) (hcode : (Cond.code yJ9_min_eb370 cJ9_min_eb370 4 (some .double)).before args s = true)
    (hfr : 1 ≤ R.frames) (hlo : 8 + 15 ≤ R.locals) (hW : (rest.map fun v => v.category).sum ≤ 8) (hc : cells ≤ R.cells) (hs : slots ≤ R.slots) {x y : UInt64} (nx : nn x) (ny : nn y) (zx : x ≠ 9223372036854775808) (zy : y ≠ 9223372036854775808) (hdg : decode cc pc = .ok (.invokestatic index, 3))
    (kk : W p l e R s m args below meth c H locs cells slots Q (F0 m (pc + 3) ls (.double (minF x y) :: rest))) : W p l e R s m args below meth c H locs cells slots Q (F0 m pc ls (.double y :: .double x :: rest)) := by
  intro T hT X
  have qx : FP.dIsNaN x = false := (FP.Core.notNaN_iff x).mpr nx
  have qy : FP.dIsNaN y = false := (FP.Core.notNaN_iff y).mpr ny
  obtain ⟨row, hrow⟩ : ∃ row, (Native.java_lang_Math.nans.extremum "min" false "nat.java_lang_Math.min" "nat.java_lang_Math.min/float").head? = some row := ⟨_, rfl⟩
  obtain ⟨v, vm₁, B, hW1, X', ⟨hv, hB⟩, st⟩ := callS X hexec hown hlink hstat hini hcode ⟨by decide, by decide⟩ (ow_back (av := [.double x, .double y]) (len := 3) (W := 8) hcode (by decide +kernel) ((ow_min p).trans hrow) (ow_two x y) ow_dd (ow_pick hrow qx qy) hfr hlo) (g := F0 m pc ls (.double y :: .double x :: rest)) rfl (by rw [hml]) (argsL := [.double x, .double y]) (rest := rest)
    (fun sig h => (ow_dd sig h).symm) rfl (by show 2 * 0 + _ ≤ 8; omega) (by rw [hb]; exact hdg) (fun vm₁ _ => rfl)
  subst hv
  subst hB
  rw [pick_min zx zy nx ny] at st
  obtain ⟨t, a1, b1⟩ := kk (T.setVm vm₁) hT X'
  exact ⟨t, st t a1, b1⟩
end MXD
set_option maxHeartbeats 4000000 in
set_option maxRecDepth 100000 in
theorem kX6_root (l : Launch) (D : va_G) (sz : Nat) (v : UInt64) (K : Nat) (hv : fB K v) (h0 : 1024 ≤ K) (hK : K ≤ 1900) (pv : fP v) : Met l yX6_root wsX6_root ({ frames := 0, cells := 0, slots := 0, locals := 0 } : Room) (gP D (w0) (eT) () sz ([.double (v)] : List Value)) (va_Qd (fun r _ => r = rootF v) (gB D (w0)) (gA (gF) sz)) 0 0 (gA (gF) sz) := by
  refine gMd (cc := cX6_root) (maxL := 7) (plainFor_of_name (by decide)) rfl (Nat.le_of_ble_eq_true rfl) ?_
  intro p e s m below meth c Q hx hb hts hown hml hsz hE hret H locs hP hS ls hl
  subst hsz
  have hown : s.vm.findClass RX6 = some m.cls := hown
  have hl : lv_has ls 7 [(0, .double (v))] := hl
  have c_208 := hts (.constantDouble RX6 208 4602678819172646912) (by decide +kernel)
  refine lv_dload_n hx hb dX6_root_0 rfl (lv_at hl 0 rfl) ?_
  refine lv_dconst0 hx hb dX6_root_1 ?_
  refine xc_lgp (tgt := 8) hx hb dX6_root_2 dX6_root_3 (by decide) (fun c_2_1 => ?_) (fun c_2_1 => ?_)
  · skip
    refine lv_ldc2d hx hb hown c_208 dX6_root_8 ?_
    refine lv_dload_n hx hb dX6_root_11 rfl (lv_at hl 0 rfl) ?_
    refine lv_dconst1 hx hb dX6_root_12 ?_
    refine lv_dadd hx hb dX6_root_13 (fB_ne (rI_0 hv h0 hK pv).1 (by omega)) ?_
    refine lv_dmul hx hb dX6_root_14 (fB_ne (rI_0 hv h0 hK pv).2.2.2 (by omega)) ?_
    refine lv_dstore_n (lv' := [(2, .double (FP.dmul (4602678819172646912) (FP.dadd (v) (FP.dconst1)))), (0, .double (v))]) hx hb dX6_root_15 rfl hl (by decide) rfl (fun ls hl => ?_)
    refine lv_iconst (v := nI 0) hx hb dX6_root_16 (by decide) ?_
    refine lv_istore (lv' := [(4, .int (nI 0)), (2, .double (FP.dmul (4602678819172646912) (FP.dadd (v) (FP.dconst1)))), (0, .double (v))]) hx hb dX6_root_17 hl (by decide) rfl (fun ls hl => ?_)
    have L_19_6 : ∀ (n_19 i : Nat) , (30 + 1 ≤ i + n_19) → (i ≤ 30) → ∀ (H : Heap) (locs : List Loc), va_P D vwCl (w0 ()) H → va_S (gA (gF) s.heap.size) s.heap H locs → ∀ (ls : Array Slot), lv_has ls 7 [(4, .int (nI i)), (2, .double (rI v i)), (0, .double (v))] → W p l e ({ frames := 0, cells := 0, slots := 0, locals := 0 } : Room) s m ([.double (v)] : List Value).toArray below meth c H locs 0 0 Q (F0 m 19 ls []) := by
      intro n_19; induction n_19 with
      | zero => intro i hf_19 hi H locs hP hS ls hl; exact absurd hf_19 (by omega)
      | succ n_19 ih_19 =>
        intro i hf_19 hi H locs hP hS ls hl
        refine lv_iload hx hb dX6_root_19 (lv_at hl 0 rfl) ?_
        refine lv_bipush (v := nI 30) hx hb dX6_root_21 (by decide) ?_
        refine lv_icmp_ge (tgt := 55) hx hb dX6_root_23 (by decide) (fun c_23_7 => ?_) (fun c_23_7 => ?_)
        · skip
          have c_23_7 : 30 ≤ i := (nI_leI (a := 30) (b := i) (by omega) (by omega)).mp c_23_7
          refine lv_dload_n hx hb dX6_root_55 rfl (lv_at hl 1 rfl) ?_
          exact hret hS hP dX6_root_56 (root_end c_2_1 (by omega) (by omega))
        · skip
          have c_23_7 : ¬ (30 ≤ i) := fun q => c_23_7 ((nI_leI (a := 30) (b := i) (by omega) (by omega)).mpr q)
          refine lv_ldc2d hx hb hown c_208 dX6_root_26 ?_
          refine lv_dload_n hx hb dX6_root_29 rfl (lv_at hl 1 rfl) ?_
          refine lv_dload_n hx hb dX6_root_30 rfl (lv_at hl 2 rfl) ?_
          refine lv_dload_n hx hb dX6_root_31 rfl (lv_at hl 1 rfl) ?_
          refine lv_ddiv hx hb dX6_root_32 ((rI_n hv h0 hK pv (k := i) (by omega)).1) ?_
          refine lv_dadd hx hb dX6_root_33 ((rI_n hv h0 hK pv (k := i) (by omega)).2.1) ?_
          refine lv_dmul hx hb dX6_root_34 ((rI_n hv h0 hK pv (k := i) (by omega)).2.2) ?_
          refine lv_dstore (lv' := [(5, .double (FP.dmul (4602678819172646912) (FP.dadd (rI v i) (FP.ddiv (v) (rI v i))))), (4, .int (nI i)), (2, .double (rI v i)), (0, .double (v))]) hx hb dX6_root_35 hl (by decide) rfl (fun ls hl => ?_)
          refine lv_dload hx hb dX6_root_37 (lv_at hl 0 rfl) ?_
          refine lv_dload_n hx hb dX6_root_39 rfl (lv_at hl 2 rfl) ?_
          refine xc_leq (tgt := 46) hx hb dX6_root_40 dX6_root_41 (by decide) (fun c_40_14 => ?_) (fun c_40_14 => ?_)
          · skip
            refine lv_dload hx hb dX6_root_46 (lv_at hl 0 rfl) ?_
            refine lv_dstore_n (lv' := [(2, .double (FP.dmul (4602678819172646912) (FP.dadd (rI v i) (FP.ddiv (v) (rI v i))))), (5, .double (FP.dmul (4602678819172646912) (FP.dadd (rI v i) (FP.ddiv (v) (rI v i))))), (4, .int (nI i)), (0, .double (v))]) hx hb dX6_root_48 rfl hl (by decide) rfl (fun ls hl => ?_)
            refine lv_iinc (v := nI (i + 1)) (lv' := [(4, .int (nI (i + 1))), (2, .double (FP.dmul (4602678819172646912) (FP.dadd (rI v i) (FP.ddiv (v) (rI v i))))), (5, .double (FP.dmul (4602678819172646912) (FP.dadd (rI v i) (FP.ddiv (v) (rI v i))))), (0, .double (v))]) hx hb dX6_root_49 hl (k := 2) rfl (nI_add _ _) (by decide) rfl (fun ls hl => ?_)
            refine lv_goto (tgt := 19) hx hb dX6_root_52 (by decide) ?_
            exact ih_19 (i + 1)  (by omega) (by omega) _ _ hP hS ls (lv_sub hl [0, 1, 3] rfl)
          · skip
            refine lv_dload_n hx hb dX6_root_44 rfl (lv_at hl 2 rfl) ?_
            exact hret hS hP dX6_root_45 (root_early hv h0 hK pv c_2_1 (by omega) c_40_14)
    exact L_19_6 (30 + 1) (0)  (by omega) (by omega) _ _ hP hS ls (lv_sub hl [0, 1, 2] rfl)
  · skip
    refine lv_dconst0 hx hb dX6_root_6 ?_
    exact hret hS hP dX6_root_7 ((if_neg c_2_1).symm)
set_option maxHeartbeats 4000000 in
set_option maxRecDepth 100000 in
theorem kX7_root (l : Launch) (D : va_G) (sz : Nat) (v : UInt64) (K : Nat) (hv : fB K v) (h0 : 1024 ≤ K) (hK : K ≤ 1900) (pv : fP v) : Met l yX7_root wsX7_root ({ frames := 0, cells := 0, slots := 0, locals := 0 } : Room) (gP D (w0) (eT) () sz ([.double (v)] : List Value)) (va_Qd (fun r _ => r = rootF v) (gB D (w0)) (gA (gF) sz)) 0 0 (gA (gF) sz) := by
  refine gMd (cc := cX7_root) (maxL := 5) (plainFor_of_name (by decide)) rfl (Nat.le_of_ble_eq_true rfl) ?_
  intro p e s m below meth c Q hx hb hts hown hml hsz hE hret H locs hP hS ls hl
  subst hsz
  have hown : s.vm.findClass RX7 = some m.cls := hown
  have hl : lv_has ls 5 [(0, .double (v))] := hl
  have c_87 := hts (.constantDouble RX7 87 4602678819172646912) (by decide +kernel)
  refine lv_dload_n hx hb dX7_root_0 rfl (lv_at hl 0 rfl) ?_
  refine lv_dconst0 hx hb dX7_root_1 ?_
  refine xc_lgp (tgt := 8) hx hb dX7_root_2 dX7_root_3 (by decide) (fun c_2_1 => ?_) (fun c_2_1 => ?_)
  · skip
    refine lv_ldc2d hx hb hown c_87 dX7_root_8 ?_
    refine lv_dload_n hx hb dX7_root_11 rfl (lv_at hl 0 rfl) ?_
    refine lv_dconst1 hx hb dX7_root_12 ?_
    refine lv_dadd hx hb dX7_root_13 (fB_ne (rI_0 hv h0 hK pv).1 (by omega)) ?_
    refine lv_dmul hx hb dX7_root_14 (fB_ne (rI_0 hv h0 hK pv).2.2.2 (by omega)) ?_
    refine lv_dstore_n (lv' := [(2, .double (FP.dmul (4602678819172646912) (FP.dadd (v) (FP.dconst1)))), (0, .double (v))]) hx hb dX7_root_15 rfl hl (by decide) rfl (fun ls hl => ?_)
    refine lv_iconst (v := nI 0) hx hb dX7_root_16 (by decide) ?_
    refine lv_istore (lv' := [(4, .int (nI 0)), (2, .double (FP.dmul (4602678819172646912) (FP.dadd (v) (FP.dconst1)))), (0, .double (v))]) hx hb dX7_root_17 hl (by decide) rfl (fun ls hl => ?_)
    have L_19_6 : ∀ (n_19 i : Nat) , (30 + 1 ≤ i + n_19) → (i ≤ 30) → ∀ (H : Heap) (locs : List Loc), va_P D vwCl (w0 ()) H → va_S (gA (gF) s.heap.size) s.heap H locs → ∀ (ls : Array Slot), lv_has ls 5 [(4, .int (nI i)), (2, .double (rI v i)), (0, .double (v))] → W p l e ({ frames := 0, cells := 0, slots := 0, locals := 0 } : Room) s m ([.double (v)] : List Value).toArray below meth c H locs 0 0 Q (F0 m 19 ls []) := by
      intro n_19; induction n_19 with
      | zero => intro i hf_19 hi H locs hP hS ls hl; exact absurd hf_19 (by omega)
      | succ n_19 ih_19 =>
        intro i hf_19 hi H locs hP hS ls hl
        refine lv_iload hx hb dX7_root_19 (lv_at hl 0 rfl) ?_
        refine lv_bipush (v := nI 30) hx hb dX7_root_21 (by decide) ?_
        refine lv_icmp_ge (tgt := 42) hx hb dX7_root_23 (by decide) (fun c_23_7 => ?_) (fun c_23_7 => ?_)
        · skip
          have c_23_7 : 30 ≤ i := (nI_leI (a := 30) (b := i) (by omega) (by omega)).mp c_23_7
          refine lv_dload_n hx hb dX7_root_42 rfl (lv_at hl 1 rfl) ?_
          exact hret hS hP dX7_root_43 (root_end c_2_1 (by omega) (by omega))
        · skip
          have c_23_7 : ¬ (30 ≤ i) := fun q => c_23_7 ((nI_leI (a := 30) (b := i) (by omega) (by omega)).mpr q)
          refine lv_ldc2d hx hb hown c_87 dX7_root_26 ?_
          refine lv_dload_n hx hb dX7_root_29 rfl (lv_at hl 1 rfl) ?_
          refine lv_dload_n hx hb dX7_root_30 rfl (lv_at hl 2 rfl) ?_
          refine lv_dload_n hx hb dX7_root_31 rfl (lv_at hl 1 rfl) ?_
          refine lv_ddiv hx hb dX7_root_32 ((rI_n hv h0 hK pv (k := i) (by omega)).1) ?_
          refine lv_dadd hx hb dX7_root_33 ((rI_n hv h0 hK pv (k := i) (by omega)).2.1) ?_
          refine lv_dmul hx hb dX7_root_34 ((rI_n hv h0 hK pv (k := i) (by omega)).2.2) ?_
          refine lv_dstore_n (lv' := [(2, .double (FP.dmul (4602678819172646912) (FP.dadd (rI v i) (FP.ddiv (v) (rI v i))))), (4, .int (nI i)), (0, .double (v))]) hx hb dX7_root_35 rfl hl (by decide) rfl (fun ls hl => ?_)
          refine lv_iinc (v := nI (i + 1)) (lv' := [(4, .int (nI (i + 1))), (2, .double (FP.dmul (4602678819172646912) (FP.dadd (rI v i) (FP.ddiv (v) (rI v i))))), (0, .double (v))]) hx hb dX7_root_36 hl (k := 1) rfl (nI_add _ _) (by decide) rfl (fun ls hl => ?_)
          refine lv_goto (tgt := 19) hx hb dX7_root_39 (by decide) ?_
          exact ih_19 (i + 1)  (by omega) (by omega) _ _ hP hS ls (lv_sub hl [0, 1, 2] rfl)
    exact L_19_6 (30 + 1) (0)  (by omega) (by omega) _ _ hP hS ls (lv_sub hl [0, 1, 2] rfl)
  · skip
    refine lv_dconst0 hx hb dX7_root_6 ?_
    exact hret hS hP dX7_root_7 ((if_neg c_2_1).symm)
set_option maxHeartbeats 4000000 in
set_option maxRecDepth 100000 in
theorem kX6_size (l : Launch) (D : va_G) (sz : Nat) (v : UInt64) : Met l yX6_size wsX6_size ({ frames := 0, cells := 0, slots := 0, locals := 0 } : Room) (gP D (w0) (eT) () sz ([.double (v)] : List Value)) (va_Qd (fun r _ => r = sizeF v) (gB D (w0)) (gA (gF) sz)) 0 0 (gA (gF) sz) := by
  refine gMd (cc := cX6_size) (maxL := 2) (plainFor_of_name (by decide)) rfl (Nat.le_of_ble_eq_true rfl) ?_
  intro p e s m below meth c Q hx hb hts hown hml hsz hE hret H locs hP hS ls hl
  subst hsz
  have hown : s.vm.findClass RX6 = some m.cls := hown
  have hl : lv_has ls 2 [(0, .double (v))] := hl
  refine lv_dload_n hx hb dX6_size_0 rfl (lv_at hl 0 rfl) ?_
  refine lv_dconst0 hx hb dX6_size_1 ?_
  refine xc_glt (tgt := 11) hx hb dX6_size_2 dX6_size_3 (by decide) (fun c_2_1 => ?_) (fun c_2_1 => ?_)
  · skip
    refine lv_dload_n hx hb dX6_size_11 rfl (lv_at hl 0 rfl) ?_
    exact hret hS hP dX6_size_12 ((if_neg c_2_1).symm)
  · skip
    refine lv_dload_n hx hb dX6_size_6 rfl (lv_at hl 0 rfl) ?_
    refine lv_dneg hx hb dX6_size_7 ?_
    refine lv_goto (tgt := 12) hx hb dX6_size_8 (by decide) ?_
    exact hret hS hP dX6_size_12 ((if_pos c_2_1).symm)
set_option maxHeartbeats 4000000 in
set_option maxRecDepth 100000 in
theorem kX7_size (l : Launch) (D : va_G) (sz : Nat) (v : UInt64) (K : Nat) (hv : fB K v) (hK : K ≤ 2045) : Met l yX7_size wsX7_size ({ frames := 0, cells := 0, slots := 0, locals := 0 } : Room) (gP D (w0) (eT) () sz ([.double (v)] : List Value)) (va_Qd (fun r _ => r = sizeF v) (gB D (w0)) (gA (gF) sz)) 0 0 (gA (gF) sz) := by
  refine gMd (cc := cX7_size) (maxL := 2) (plainFor_of_name (by decide)) rfl (Nat.le_of_ble_eq_true rfl) ?_
  intro p e s m below meth c Q hx hb hts hown hml hsz hE hret H locs hP hS ls hl
  subst hsz
  have hown : s.vm.findClass RX7 = some m.cls := hown
  have hl : lv_has ls 2 [(0, .double (v))] := hl
  refine lv_dload_n hx hb dX7_size_0 rfl (lv_at hl 0 rfl) ?_
  refine lv_dconst0 hx hb dX7_size_1 ?_
  refine xc_glt (tgt := 12) hx hb dX7_size_2 dX7_size_3 (by decide) (fun c_2_1 => ?_) (fun c_2_1 => ?_)
  · skip
    refine lv_dload_n hx hb dX7_size_12 rfl (lv_at hl 0 rfl) ?_
    exact hret hS hP dX7_size_13 ((if_neg c_2_1).symm)
  · skip
    refine lv_dconst0 hx hb dX7_size_6 ?_
    refine lv_dload_n hx hb dX7_size_7 rfl (lv_at hl 0 rfl) ?_
    refine lv_dsub hx hb dX7_size_8 (fB_ne (fB_sub (M := 2045) fB_c0 hv (by omega) (by omega) (by omega)) (by omega)) ?_
    refine lv_goto (tgt := 13) hx hb dX7_size_9 (by decide) ?_
    exact hret hS hP dX7_size_13 ((by unfold sizeF; rw [if_pos c_2_1]; exact sub0 hv (by omega) c_2_1))
set_option maxHeartbeats 4000000 in
set_option maxRecDepth 100000 in
theorem kX3_stepFor (l : Launch) (D : va_G) (sz : Nat) (f : UInt64) (K : Nat) (hf : fB K f) (hK : K ≤ 2040) : Met l yX3_stepFor wsX3_stepFor ({ frames := 0, cells := 0, slots := 0, locals := 0 } : Room) (gP D (w0) (eT) () sz ([.double (f)] : List Value)) (va_Qd (fun r _ => r = stepF f) (gB D (w0)) (gA (gF) sz)) 0 0 (gA (gF) sz) := by
  refine gMd (cc := cX3_stepFor) (maxL := 6) (plainFor_of_name (by decide)) rfl (Nat.le_of_ble_eq_true rfl) ?_
  intro p e s m below meth c Q hx hb hts hown hml hsz hE hret H locs hP hS ls hl
  subst hsz
  have hown : s.vm.findClass RX3 = some m.cls := hown
  have hl : lv_has ls 6 [(0, .double (f))] := hl
  have c_41 := hts (.constantDouble RX3 41 4598175219545276416) (by decide +kernel)
  have c_43 := hts (.constantDouble RX3 43 4557750909289998844) (by decide +kernel)
  refine lv_ldc2d hx hb hown c_41 dX3_stepFor_0 ?_
  refine lv_dstore_n (lv' := [(2, .double (4598175219545276416)), (0, .double (f))]) hx hb dX3_stepFor_3 rfl hl (by decide) rfl (fun ls hl => ?_)
  refine lv_ldc2d hx hb hown c_43 dX3_stepFor_4 ?_
  refine lv_dload_n hx hb dX3_stepFor_7 rfl (lv_at hl 1 rfl) ?_
  refine lv_dmul hx hb dX3_stepFor_8 (fB_ne (fB_mul (M := 2047) (fB_lit (K := 1013) (a := 4557750909289998844) (by decide +kernel)) hf (by omega) (by omega) (by omega)) (by omega)) ?_
  refine lv_dstore (lv' := [(4, .double (FP.dmul (4557750909289998844) (f))), (2, .double (4598175219545276416)), (0, .double (f))]) hx hb dX3_stepFor_9 hl (by decide) rfl (fun ls hl => ?_)
  refine lv_dload hx hb dX3_stepFor_11 (lv_at hl 0 rfl) ?_
  refine lv_dload_n hx hb dX3_stepFor_13 rfl (lv_at hl 1 rfl) ?_
  refine xc_lgt (tgt := 20) hx hb dX3_stepFor_14 dX3_stepFor_15 (by decide) (fun c_14_3 => ?_) (fun c_14_3 => ?_)
  · skip
    refine lv_dload hx hb dX3_stepFor_20 (lv_at hl 0 rfl) ?_
    refine lv_dload_n hx hb dX3_stepFor_22 rfl (lv_at hl 1 rfl) ?_
    refine lv_dneg hx hb dX3_stepFor_23 ?_
    refine xc_glt (tgt := 33) hx hb dX3_stepFor_24 dX3_stepFor_25 (by decide) (fun c_24_4 => ?_) (fun c_24_4 => ?_)
    · skip
      refine lv_dload hx hb dX3_stepFor_33 (lv_at hl 0 rfl) ?_
      exact hret hS hP dX3_stepFor_35 ((by unfold stepF; rw [if_neg c_14_3, if_neg (by rw [← neg_quarter]; exact c_24_4)]))
    · skip
      refine lv_dload_n hx hb dX3_stepFor_28 rfl (lv_at hl 1 rfl) ?_
      refine lv_dneg hx hb dX3_stepFor_29 ?_
      refine lv_goto (tgt := 35) hx hb dX3_stepFor_30 (by decide) ?_
      exact hret hS hP dX3_stepFor_35 ((by unfold stepF; rw [if_neg c_14_3, if_pos (by rw [← neg_quarter]; exact c_24_4)]; exact neg_quarter))
  · skip
    refine lv_dload_n hx hb dX3_stepFor_18 rfl (lv_at hl 1 rfl) ?_
    exact hret hS hP dX3_stepFor_19 ((if_pos c_14_3).symm)
set_option maxHeartbeats 4000000 in
set_option maxRecDepth 100000 in
theorem kX7_moved (l : Launch) (D : va_G) (sz : Nat) (f : UInt64) (K : Nat) (hf : fB K f) (hK : K ≤ 2040) : Met l yX7_moved wsX7_moved ({ frames := 0, cells := 0, slots := 0, locals := 0 } : Room) (gP D (w0) (eT) () sz ([.double (f)] : List Value)) (va_Qd (fun r _ => r = stepF f) (gB D (w0)) (gA (gF) sz)) 0 0 (gA (gF) sz) := by
  refine gMd (cc := cX7_moved) (maxL := 4) (plainFor_of_name (by decide)) rfl (Nat.le_of_ble_eq_true rfl) ?_
  intro p e s m below meth c Q hx hb hts hown hml hsz hE hret H locs hP hS ls hl
  subst hsz
  have hown : s.vm.findClass RX7 = some m.cls := hown
  have hl : lv_has ls 4 [(0, .double (f))] := hl
  have c_164 := hts (.constantDouble RX7 164 4557750909289998844) (by decide +kernel)
  have c_166 := hts (.constantDouble RX7 166 4598175219545276416) (by decide +kernel)
  have c_168 := hts (.constantDouble RX7 168 13821547256400052224) (by decide +kernel)
  refine lv_ldc2d hx hb hown c_164 dX7_moved_0 ?_
  refine lv_dload_n hx hb dX7_moved_3 rfl (lv_at hl 0 rfl) ?_
  refine lv_dmul hx hb dX7_moved_4 (fB_ne (fB_mul (M := 2047) (fB_lit (K := 1013) (a := 4557750909289998844) (by decide +kernel)) hf (by omega) (by omega) (by omega)) (by omega)) ?_
  refine lv_dstore_n (lv' := [(2, .double (FP.dmul (4557750909289998844) (f))), (0, .double (f))]) hx hb dX7_moved_5 rfl hl (by decide) rfl (fun ls hl => ?_)
  refine lv_dload_n hx hb dX7_moved_6 rfl (lv_at hl 0 rfl) ?_
  refine lv_ldc2d hx hb hown c_166 dX7_moved_7 ?_
  refine xc_lgt (tgt := 20) hx hb dX7_moved_10 dX7_moved_11 (by decide) (fun c_10_3 => ?_) (fun c_10_3 => ?_)
  · skip
    refine lv_dload_n hx hb dX7_moved_20 rfl (lv_at hl 0 rfl) ?_
    refine lv_ldc2d hx hb hown c_168 dX7_moved_21 ?_
    refine xc_glt (tgt := 34) hx hb dX7_moved_24 dX7_moved_25 (by decide) (fun c_24_4 => ?_) (fun c_24_4 => ?_)
    · skip
      refine lv_dload_n hx hb dX7_moved_34 rfl (lv_at hl 0 rfl) ?_
      exact hret hS hP dX7_moved_35 ((by unfold stepF; rw [if_neg c_10_3, if_neg c_24_4]))
    · skip
      refine lv_ldc2d hx hb hown c_168 dX7_moved_28 ?_
      refine lv_goto (tgt := 35) hx hb dX7_moved_31 (by decide) ?_
      exact hret hS hP dX7_moved_35 ((by unfold stepF; rw [if_neg c_10_3, if_pos c_24_4]))
  · skip
    refine lv_ldc2d hx hb hown c_166 dX7_moved_14 ?_
    refine lv_goto (tgt := 35) hx hb dX7_moved_17 (by decide) ?_
    exact hret hS hP dX7_moved_35 ((if_pos c_10_3).symm)
set_option maxHeartbeats 4000000 in
set_option maxRecDepth 100000 in
theorem kJ9_floorMod_7cf53 (l : Launch) (D : va_G) (sz : Nat) (x y : Int32) (hy : ¬ y = 0) : Met l yJ9_floorMod_7cf53 wsJ9_floorMod_7cf53 ({ frames := 0, cells := 0, slots := 0, locals := 0 } : Room) (gP D (w0) (eT) () sz ([.int (x), .int (y)] : List Value)) (va_Qi (fun r _ => r = fmodF x y) (gB D (w0)) (gA (gF) sz)) 0 0 (gA (gF) sz) := by
  refine gMi (cc := cJ9_floorMod_7cf53) (maxL := 3) (by decide +kernel) rfl (Nat.le_of_ble_eq_true rfl) ?_
  intro p e s m below meth c Q hx hb hts hown hml hsz hE hret H locs hP hS ls hl
  subst hsz
  have hown : s.vm.findClass RJ9 = some m.cls := hown
  have hl : lv_has ls 3 [(0, .int (x)), (1, .int (y))] := hl
  refine lv_iload_n hx hb dJ9_floorMod_7cf53_0 rfl (lv_at hl 0 rfl) ?_
  refine lv_iload_n hx hb dJ9_floorMod_7cf53_1 rfl (lv_at hl 1 rfl) ?_
  refine lv_irem hx hb dJ9_floorMod_7cf53_2 hy ?_
  refine lv_istore_n (lv' := [(2, .int (x - x / y * y)), (0, .int (x)), (1, .int (y))]) hx hb dJ9_floorMod_7cf53_3 rfl hl (by decide) rfl (fun ls hl => ?_)
  refine lv_iload_n hx hb dJ9_floorMod_7cf53_4 rfl (lv_at hl 1 rfl) ?_
  refine lv_iload_n hx hb dJ9_floorMod_7cf53_5 rfl (lv_at hl 2 rfl) ?_
  refine lv_ixor hx hb dJ9_floorMod_7cf53_6 ?_
  refine lv_if_ge (tgt := 18) hx hb dJ9_floorMod_7cf53_7 (by decide) (fun c_7_1 => ?_) (fun c_7_1 => ?_)
  · skip
    refine lv_iload_n hx hb dJ9_floorMod_7cf53_18 rfl (lv_at hl 0 rfl) ?_
    exact hret hS hP dJ9_floorMod_7cf53_19 ((if_pos c_7_1).symm)
  · skip
    refine lv_iload_n hx hb dJ9_floorMod_7cf53_10 rfl (lv_at hl 0 rfl) ?_
    refine lv_if_eq (tgt := 18) hx hb dJ9_floorMod_7cf53_11 (by decide) (fun c_11_2 => ?_) (fun c_11_2 => ?_)
    · skip
      refine lv_iload_n hx hb dJ9_floorMod_7cf53_18 rfl (lv_at hl 0 rfl) ?_
      exact hret hS hP dJ9_floorMod_7cf53_19 ((by unfold fmodF; rw [if_neg c_7_1, if_pos c_11_2]))
    · skip
      refine lv_iload_n hx hb dJ9_floorMod_7cf53_14 rfl (lv_at hl 0 rfl) ?_
      refine lv_iload_n hx hb dJ9_floorMod_7cf53_15 rfl (lv_at hl 2 rfl) ?_
      refine lv_iadd hx hb dJ9_floorMod_7cf53_16 ?_
      exact hret hS hP dJ9_floorMod_7cf53_17 ((by unfold fmodF; rw [if_neg c_7_1, if_neg c_11_2]))
