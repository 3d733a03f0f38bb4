/-! rounds, by the class -/
theorem mn_le {f : DF} {n : Nat} (h : ∀ j, j < n → pOK (f j)) : ∀ k, k < n → zv (mnF f k) ≤ zv (f 0)
  | 0, _ => Int.le_refl _
  | k + 1, hk => by
    have q := mn_le h k (by omega)
    by_cases c : dlt (f (k + 1)) (mnF f k)
    · rw [mn_p c]
      have := (FP.Core.dcmp_lt.mp c).2.2
      have h2 : zv (f (k + 1)) < zv (mnF f k) := this
      omega
    · rw [mn_n c]; exact q
theorem mx_ge {f : DF} {n : Nat} (h : ∀ j, j < n → pOK (f j)) : ∀ k, k < n → zv (f 0) ≤ zv (mxF f k)
  | 0, _ => Int.le_refl _
  | k + 1, hk => by
    have q := mx_ge h k (by omega)
    by_cases c : dgt (f (k + 1)) (mxF f k)
    · rw [mx_p c]
      have := (FP.Core.dcmp_gt.mp c).2.2
      have h2 : zv (mxF f k) < zv (f (k + 1)) := this
      omega
    · rw [mx_n c]; exact q
theorem sp_nonneg {f : DF} {n : Nat} (h : ∀ j, j < n → pOK (f j)) (hn : ¬ n = 0) : 0 ≤ zv (spF f n) := by
  have h1 := mn_le h (n - 1) (by omega)
  have h2 := mx_ge h (n - 1) (by omega)
  have e : zv FP.dconst0 = 0 := by decide +kernel
  have q := zsub_ge (V := FP.dconst0) (fB_fin (mx_ok h (n - 1) (by omega)).1 (by decide)) (fB_fin (mn_ok h (n - 1) (by omega)).1 (by decide)) (by decide +kernel) (by rw [e]; omega)
  rw [e] at q
  exact q
theorem wide_ok {f : DF} {n : Nat} (h : ∀ j, j < n → pOK (f j)) (hn : ¬ n = 0) : fB 1043 (FP.dadd FP.dconst1 (spF f n)) ∧ fL 1023 (FP.dadd FP.dconst1 (spF f n)) := by
  have b := sp_n h (k := n - 1) (by omega)
  have b2 : fB 1043 (FP.dadd FP.dconst1 (spF f n)) := fB_add (M := 1041) fB_c1 b (by decide) (by decide) (by decide)
  refine ⟨b2, ((fL_iff (L := 1023) (by decide) (by decide) (fB_nn b2 (by decide))).mpr ?_).2⟩
  have e : zv (vL 1023) = zv FP.dconst1 := by decide +kernel
  have hs := sp_nonneg h hn
  exact zadd_ge (fB_fin fB_c1 (by decide)) (fB_fin b (by decide)) (vL_nn (by decide)) (by rw [e]; omega)
def q_run (G : GS) (n r : Int32) (G2 : GS) (o : Option UInt64) : Prop := (∃ j, 1 ≤ j ∧ j ≤ 300 ∧ n = nI j ∧ ¬ G.1.1 = 0 ∧ ((∃ i, i < j ∧ (∀ k, k < i → ¬ inBal (rndI G k)) ∧ inBal (rndI G i) ∧ r = nI i ∧ G2 = forcesG (rndI G i) ∧ o = some (fuF (forcesG (rndI G i)))) ∨ ((∀ k, k < j → ¬ inBal (rndI G k)) ∧ r = (-1 : Int32) ∧ G2 = rndI G j ∧ o = none))) ∨ (¬ (inW 300 n ∧ ¬ G.1.1 = 0) ∧ r = (-1 : Int32) ∧ G2 = G ∧ o = none)
theorem q_run_det {G : GS} {n r1 r2 : Int32} {G1 G2 : GS} {o1 o2 : Option UInt64} (h1 : q_run G n r1 G1 o1) (h2 : q_run G n r2 G2 o2) : r1 = r2 ∧ G1 = G2 ∧ o1 = o2 := by
  rcases h1 with ⟨j, j1, j2, rfl, hn, h1⟩ | ⟨c1, rfl, rfl, rfl⟩ <;> rcases h2 with ⟨i, i1, i2, e, hn2, h2⟩ | ⟨c2, rfl, rfl, rfl⟩
  · have e := (nI_eq (by omega) (by omega)).mp e
    subst e
    rcases h1 with ⟨a, ha, na, ya, rfl, rfl, rfl⟩ | ⟨na, rfl, rfl, rfl⟩ <;> rcases h2 with ⟨b, hb, nb, yb, rfl, rfl, rfl⟩ | ⟨nb, rfl, rfl, rfl⟩
    · have e : a = b := by
        rcases Nat.lt_trichotomy a b with q | q | q
        · exact absurd ya (nb a q)
        · exact q
        · exact absurd yb (na b q)
      subst e
      exact ⟨rfl, rfl, rfl⟩
    · exact absurd ya (nb a ha)
    · exact absurd yb (na b hb)
    · exact ⟨rfl, rfl, rfl⟩
  · exact absurd ⟨⟨j, j1, j2, rfl⟩, hn⟩ c2
  · exact absurd ⟨⟨i, i1, i2, e⟩, hn2⟩ c1
  · exact ⟨rfl, rfl, rfl⟩
abbrev KS : Type := DF × Nat × Nat × IF × IF × Int32 × Int32 × Int32
def kpO (o : Option UInt64) (k : KS) : KS := match o, k with
  | none, k => k
  | some f, (kp, kc, kn, r) => (vf_upd kp kn f, min (kc + 1) 20, (kn + 1) % 20, r)
theorem iX3_startForces_X3 : ∀ w ∈ u_ws RX3 TX3 6, w ∈ wsX3_startForces := by decide +kernel
set_option maxHeartbeats 4000000 in
set_option maxRecDepth 100000 in
theorem kX3_startForces (l : Launch) (D : va_G) (cs : Nat → ClassId) (ad : Nat → Nat) (hd : distX ad) (sz : Nat) (S : XS) (hE0 : envOK S.1) : Met l yX3_startForces wsX3_startForces ({ frames := 0, cells := 0, slots := 0, locals := 0 } : Room) (gP D (WX cs ad) (EX D cs) S sz ([.ref (ad 1)] : List Value)) (va_Qv (fun u => match S with | (((nN, px, py, pz, fx, fy, fz, lf, ld, fi), (nB, fr, tt, ln, wi, sg, pu), (nR, rd, rx, ry, wv, fo), (re, dg), (nP, tp, bt, dp)), (sp, ac, kp, kc, kn, aw, dw, su, ss, sd)) => u = (((nN, px, py, pz, (st0 fx nN), (st0 fy nN), (stz fz ld lf nN), lf, ld, fi), (nB, fr, tt, ln, wi, sg, pu), (nR, rd, rx, ry, wv, fo), (re, dg), (nP, tp, bt, dp)), (sp, ac, kp, kc, kn, aw, dw, su, ss, sd))) (gB D (WX cs ad)) (gA (AX ad) sz)) 0 0 (gA (AX ad) sz) := by
  obtain ⟨⟨⟨nN, px, py, pz, fx, fy, fz, lf, ld, fi⟩, ⟨nB, fr, tt, ln, wi, sg, pu⟩, ⟨nR, rd, rx, ry, wv, fo⟩, ⟨re, dg⟩, ⟨nP, tp, bt, dp⟩⟩, ⟨sp, ac, kp, kc, kn, aw, dw, su, ss, sd⟩⟩ := S
  have hE00 := hE0
  obtain ⟨hnN, hnB, hnR, hbar, hlw, hr, hwv, hfo, hll⟩ := hE0
  refine gMv (cc := cX3_startForces) (maxL := 2) (plainFor_of_name (by decide)) rfl (Nat.le_of_ble_eq_true rfl) ?_
  intro p e s m below meth c Q hx hb hts hown hml hsz hE hret H locs hP hS ls hl
  subst hsz
  have hown : s.vm.findClass RX3 = some m.cls := hown
  have hK : va_K D vwCl (tysX cs) s := hE.1
  have hD : ∀ u, va_D (gA (AX ad) s.heap.size) (WX cs ad u) := fun u => WX_D hd u
  have hl : lv_has ls 2 [(0, .ref (ad 1))] := hl
  have f_16 := hts (.fieldLink RX3 16 "NetShapes$Nodes" "forces" "[[D") (by decide +kernel)
  have f_19 := hts (.fieldLink RX3 19 "NetShapes$Nodes" "lift" "[D") (by decide +kernel)
  have f_23 := hts (.fieldLink RX3 23 "NetShapes$Nodes" "load" "[D") (by decide +kernel)
  have f_30 := hts (.fieldLink RX3 30 "NetShapes$Nodes" "count" "I") (by decide +kernel)
  refine lv_iconst (v := nI 0) hx hb dX3_startForces_0 (by decide) ?_
  refine lv_istore_n (lv' := [(1, .int (nI 0)), (0, .ref (ad 1))]) hx hb dX3_startForces_1 rfl hl (by decide) rfl (fun ls hl => ?_)
  have L_2_1 : ∀ (n_2 k : Nat) , (nN + 1 ≤ k + n_2) → (k ≤ nN) → ∀ (H : Heap) (locs : List Loc), va_P D vwCl (WX cs ad (((nN, px, py, pz, (st0 fx k), (st0 fy k), (stz fz ld lf k), lf, ld, fi), (nB, fr, tt, ln, wi, sg, pu), (nR, rd, rx, ry, wv, fo), (re, dg), (nP, tp, bt, dp)), (sp, ac, kp, kc, kn, aw, dw, su, ss, sd))) H → va_S (gA (AX ad) s.heap.size) s.heap H locs → ∀ (ls : Array Slot), lv_has ls 2 [(1, .int (nI k)), (0, .ref (ad 1))] → W p l e ({ frames := 0, cells := 0, slots := 0, locals := 0 } : Room) s m ([.ref (ad 1)] : List Value).toArray below meth c H locs 0 0 Q (F0 m 2 ls []) := by
    intro n_2; induction n_2 with
    | zero => intro k hf_2 hk H locs hP hS ls hl; exact absurd hf_2 (by omega)
    | succ n_2 ih_2 =>
      intro k hf_2 hk H locs hP hS ls hl
      refine lv_iload_n hx hb dX3_startForces_2 rfl (lv_at hl 0 rfl) ?_
      refine lv_aload_n hx hb dX3_startForces_3 rfl (lv_at hl 1 rfl) ?_
      refine va_get (D := D) (ci := 3) (v := .int (nI nN)) (C := RX3) (T := TX3) (N := 6) hx hb hts iX3_startForces_X3 hown hK hP 1 rfl rfl 5 (by decide) f_30 (fun _ h9 => h9) rfl dX3_startForces_4 ?_
      refine lv_icmp_ge (tgt := 57) hx hb dX3_startForces_7 (by decide) (fun c_7_2 => ?_) (fun c_7_2 => ?_)
      · skip
        have c_7_2 : nN ≤ k := (nI_leI (a := nN) (b := k) (by omega) (by omega)).mp c_7_2
        have ek : k = nN := by omega
        rw [ek] at hP
        exact hret hS hP dX3_startForces_57 (rfl)
      · skip
        have c_7_2 : ¬ (nN ≤ k) := fun q => c_7_2 ((nI_leI (a := nN) (b := k) (by omega) (by omega)).mpr q)
        refine lv_aload_n hx hb dX3_startForces_10 rfl (lv_at hl 1 rfl) ?_
        refine va_get (D := D) (ci := 3) (v := .ref (ad 8)) (C := RX3) (T := TX3) (N := 6) hx hb hts iX3_startForces_X3 hown hK hP 1 rfl rfl 1 (by decide) f_16 (fun _ h9 => h9) rfl dX3_startForces_11 ?_
        refine lv_iconst (v := nI 0) hx hb dX3_startForces_14 (by decide) ?_
        refine xal hx hb hK hP 8 3 rfl rfl (j := 0) (v := ad 33) (by decide) (by decide) rfl dX3_startForces_15 ?_
        refine lv_iload_n hx hb dX3_startForces_16 rfl (lv_at hl 0 rfl) ?_
        refine lv_dconst0 hx hb dX3_startForces_17 ?_
        refine xds hx hb hK hD hP hS 33 0 (((nN, px, py, pz, (vf_upd (st0 fx k) k FP.dconst0), (st0 fy k), (stz fz ld lf k), lf, ld, fi), (nB, fr, tt, ln, wi, sg, pu), (nR, rd, rx, ry, wv, fo), (re, dg), (nP, tp, bt, dp)), (sp, ac, kp, kc, kn, aw, dw, su, ss, sd)) rfl rfl (j := k) (by decide) (by omega) rfl dX3_startForces_18 (fun H locs hP hS => ?_)
        refine lv_aload_n hx hb dX3_startForces_19 rfl (lv_at hl 1 rfl) ?_
        refine va_get (D := D) (ci := 3) (v := .ref (ad 8)) (C := RX3) (T := TX3) (N := 6) hx hb hts iX3_startForces_X3 hown hK hP 1 rfl rfl 1 (by decide) f_16 (fun _ h9 => h9) rfl dX3_startForces_20 ?_
        refine lv_iconst (v := nI 1) hx hb dX3_startForces_23 (by decide) ?_
        refine xal hx hb hK hP 8 3 rfl rfl (j := 1) (v := ad 34) (by decide) (by decide) rfl dX3_startForces_24 ?_
        refine lv_iload_n hx hb dX3_startForces_25 rfl (lv_at hl 0 rfl) ?_
        refine lv_dconst0 hx hb dX3_startForces_26 ?_
        refine xds hx hb hK hD hP hS 34 0 (((nN, px, py, pz, (vf_upd (st0 fx k) k FP.dconst0), (vf_upd (st0 fy k) k FP.dconst0), (stz fz ld lf k), lf, ld, fi), (nB, fr, tt, ln, wi, sg, pu), (nR, rd, rx, ry, wv, fo), (re, dg), (nP, tp, bt, dp)), (sp, ac, kp, kc, kn, aw, dw, su, ss, sd)) rfl rfl (j := k) (by decide) (by omega) rfl dX3_startForces_27 (fun H locs hP hS => ?_)
        refine lv_aload_n hx hb dX3_startForces_28 rfl (lv_at hl 1 rfl) ?_
        refine va_get (D := D) (ci := 3) (v := .ref (ad 8)) (C := RX3) (T := TX3) (N := 6) hx hb hts iX3_startForces_X3 hown hK hP 1 rfl rfl 1 (by decide) f_16 (fun _ h9 => h9) rfl dX3_startForces_29 ?_
        refine lv_iconst (v := nI 2) hx hb dX3_startForces_32 (by decide) ?_
        refine xal hx hb hK hP 8 3 rfl rfl (j := 2) (v := ad 35) (by decide) (by decide) rfl dX3_startForces_33 ?_
        refine lv_iload_n hx hb dX3_startForces_34 rfl (lv_at hl 0 rfl) ?_
        refine lv_dconst0 hx hb dX3_startForces_35 ?_
        refine lv_aload_n hx hb dX3_startForces_36 rfl (lv_at hl 1 rfl) ?_
        refine va_get (D := D) (ci := 3) (v := .ref (ad 10)) (C := RX3) (T := TX3) (N := 6) hx hb hts iX3_startForces_X3 hown hK hP 1 rfl rfl 3 (by decide) f_23 (fun _ h9 => h9) rfl dX3_startForces_37 ?_
        refine lv_iload_n hx hb dX3_startForces_40 rfl (lv_at hl 0 rfl) ?_
        refine xdl hx hb hK hP 10 0 rfl rfl (j := k) (by decide) (by omega) dX3_startForces_41 ?_
        refine lv_aload_n hx hb dX3_startForces_42 rfl (lv_at hl 1 rfl) ?_
        refine va_get (D := D) (ci := 3) (v := .ref (ad 9)) (C := RX3) (T := TX3) (N := 6) hx hb hts iX3_startForces_X3 hown hK hP 1 rfl rfl 2 (by decide) f_19 (fun _ h9 => h9) rfl dX3_startForces_43 ?_
        refine lv_iload_n hx hb dX3_startForces_46 rfl (lv_at hl 0 rfl) ?_
        refine xdl hx hb hK hP 9 0 rfl rfl (j := k) (by decide) (by omega) dX3_startForces_47 ?_
        have h_4 : fB (1042) (FP.dsub (ld k) (lf k)) := fB_sub (M := 1040) (hll _ (by omega)).2 (hll _ (by omega)).1 (by omega) (by omega) (by omega)
        refine lv_dsub hx hb dX3_startForces_48 (fB_ne h_4 (by omega)) ?_
        have h_6 : fB (1044) (FP.dadd (FP.dconst0) (FP.dsub (ld k) (lf k))) := fB_add (M := 1042) fB_c0 h_4 (by omega) (by omega) (by omega)
        refine lv_dadd hx hb dX3_startForces_49 (fB_ne h_6 (by omega)) ?_
        refine xds hx hb hK hD hP hS 35 0 (((nN, px, py, pz, (vf_upd (st0 fx k) k FP.dconst0), (vf_upd (st0 fy k) k FP.dconst0), (vf_upd (stz fz ld lf k) k (FP.dadd (FP.dconst0) (FP.dsub (ld k) (lf k)))), lf, ld, fi), (nB, fr, tt, ln, wi, sg, pu), (nR, rd, rx, ry, wv, fo), (re, dg), (nP, tp, bt, dp)), (sp, ac, kp, kc, kn, aw, dw, su, ss, sd)) rfl rfl (j := k) (by decide) (by omega) rfl dX3_startForces_50 (fun H locs hP hS => ?_)
        refine lv_iinc (v := nI (k + 1)) (lv' := [(1, .int (nI (k + 1))), (0, .ref (ad 1))]) hx hb dX3_startForces_51 hl (k := 0) rfl (nI_add _ _) (by decide) rfl (fun ls hl => ?_)
        refine lv_goto (tgt := 2) hx hb dX3_startForces_54 (by decide) ?_
        exact ih_2 (k + 1)  (by omega) (by omega) _ _ hP hS ls (lv_sub hl [0, 1] rfl)
  exact L_2_1 (nN + 1) (0)  (by omega) (by omega) _ _ hP hS ls (lv_sub hl [0, 1] rfl)
theorem iX3_greatestForce_X3 : ∀ w ∈ u_ws RX3 TX3 6, w ∈ wsX3_greatestForce := by decide +kernel
set_option maxHeartbeats 4000000 in
set_option maxRecDepth 100000 in
theorem kX3_greatestForce (l : Launch) (D : va_G) (cs : Nat → ClassId) (ad : Nat → Nat) (hd : distX ad) (sz : Nat) (S : XS) (hnN : S.1.1.1 ≤ 30) : Met l yX3_greatestForce wsX3_greatestForce ({ frames := 1, cells := 0, slots := 0, locals := 21 } : Room) (gP D (WX cs ad) (EX D cs) S sz ([.ref (ad 1)] : List Value)) (va_Qd (fun r u => u = S ∧ r = grF (S.1.1.2.2.2.2.2.2.2.2.2) (S.1.1.2.2.2.2.1) (S.1.1.2.2.2.2.2.1) (S.1.1.2.2.2.2.2.2.1) (S.1.1.1)) (gB D (WX cs ad)) (gA (AX ad) sz)) 0 0 (gA (AX ad) sz) := by
  obtain ⟨⟨⟨nN, px, py, pz, fx, fy, fz, lf, ld, fi⟩, ⟨nB, fr, tt, ln, wi, sg, pu⟩, ⟨nR, rd, rx, ry, wv, fo⟩, ⟨re, dg⟩, ⟨nP, tp, bt, dp⟩⟩, ⟨sp, ac, kp, kc, kn, aw, dw, su, ss, sd⟩⟩ := S
  have hnN : nN ≤ 30 := hnN
  refine gMd (cc := cX3_greatestForce) (maxL := 7) (plainFor_of_name (by decide)) rfl (Nat.le_of_ble_eq_true rfl) ?_
  intro p e s m below meth c Q hx hb hts hown hml hsz hE hret H locs hP hS ls hl
  subst hsz
  have hown : s.vm.findClass RX3 = some m.cls := hown
  have hK : va_K D vwCl (tysX cs) s := hE.1
  have hD : ∀ u, va_D (gA (AX ad) s.heap.size) (WX cs ad u) := fun u => WX_D hd u
  have hl : lv_has ls 7 [(0, .ref (ad 1))] := hl
  have f_16 := hts (.fieldLink RX3 16 "NetShapes$Nodes" "forces" "[[D") (by decide +kernel)
  have f_26 := hts (.fieldLink RX3 26 "NetShapes$Nodes" "fixed" "[Z") (by decide +kernel)
  have f_30 := hts (.fieldLink RX3 30 "NetShapes$Nodes" "count" "I") (by decide +kernel)
  refine lv_dconst0 hx hb dX3_greatestForce_0 ?_
  refine lv_dstore_n (lv' := [(1, .double (FP.dconst0)), (0, .ref (ad 1))]) hx hb dX3_greatestForce_1 rfl hl (by decide) rfl (fun ls hl => ?_)
  refine lv_iconst (v := nI 0) hx hb dX3_greatestForce_2 (by decide) ?_
  refine lv_istore_n (lv' := [(3, .int (nI 0)), (1, .double (FP.dconst0)), (0, .ref (ad 1))]) hx hb dX3_greatestForce_3 rfl hl (by decide) rfl (fun ls hl => ?_)
  have L_4_1 : ∀ (n_4 k : Nat) (g : UInt64), (nN + 1 ≤ k + n_4) → (k ≤ nN) → (g = grF fi fx fy fz k) → ∀ (H : Heap) (locs : List Loc), va_P D vwCl (WX cs ad (((nN, px, py, pz, fx, fy, fz, lf, ld, fi), (nB, fr, tt, ln, wi, sg, pu), (nR, rd, rx, ry, wv, fo), (re, dg), (nP, tp, bt, dp)), (sp, ac, kp, kc, kn, aw, dw, su, ss, sd))) H → va_S (gA (AX ad) s.heap.size) s.heap H locs → ∀ (ls : Array Slot), lv_has ls 7 [(3, .int (nI k)), (1, .double (g)), (0, .ref (ad 1))] → W p l e ({ frames := 1, cells := 0, slots := 0, locals := 21 } : Room) s m ([.ref (ad 1)] : List Value).toArray below meth c H locs 0 0 Q (F0 m 4 ls []) := by
    intro n_4; induction n_4 with
    | zero => intro k g hf_4 hk hg H locs hP hS ls hl; exact absurd hf_4 (by omega)
    | succ n_4 ih_4 =>
      intro k g hf_4 hk hg H locs hP hS ls hl
      refine lv_iload_n hx hb dX3_greatestForce_4 rfl (lv_at hl 0 rfl) ?_
      refine lv_aload_n hx hb dX3_greatestForce_5 rfl (lv_at hl 2 rfl) ?_
      refine va_get (D := D) (ci := 3) (v := .int (nI nN)) (C := RX3) (T := TX3) (N := 6) hx hb hts iX3_greatestForce_X3 hown hK hP 1 rfl rfl 5 (by decide) f_30 (fun _ h9 => h9) rfl dX3_greatestForce_6 ?_
      refine lv_icmp_ge (tgt := 73) hx hb dX3_greatestForce_9 (by decide) (fun c_9_2 => ?_) (fun c_9_2 => ?_)
      · skip
        have c_9_2 : nN ≤ k := (nI_leI (a := nN) (b := k) (by omega) (by omega)).mp c_9_2
        refine lv_dload_n hx hb dX3_greatestForce_73 rfl (lv_at hl 1 rfl) ?_
        exact hret hS hP dX3_greatestForce_74 (⟨rfl, by rw [hg, show k = nN by omega]⟩)
      · skip
        have c_9_2 : ¬ (nN ≤ k) := fun q => c_9_2 ((nI_leI (a := nN) (b := k) (by omega) (by omega)).mpr q)
        refine lv_aload_n hx hb dX3_greatestForce_12 rfl (lv_at hl 2 rfl) ?_
        refine va_get (D := D) (ci := 3) (v := .ref (ad 11)) (C := RX3) (T := TX3) (N := 6) hx hb hts iX3_greatestForce_X3 hown hK hP 1 rfl rfl 4 (by decide) f_26 (fun _ h9 => h9) rfl dX3_greatestForce_13 ?_
        refine lv_iload_n hx hb dX3_greatestForce_16 rfl (lv_at hl 0 rfl) ?_
        refine xzl hx hb hK hP 11 2 rfl rfl (j := k) (by decide) (by omega) dX3_greatestForce_17 ?_
        refine lv_if_eq (tgt := 24) hx hb dX3_greatestForce_18 (by decide) (fun c_18_3 => ?_) (fun c_18_3 => ?_)
        · skip
          refine lv_iconst (v := nI 0) hx hb dX3_greatestForce_24 (by decide) ?_
          refine lv_istore (lv' := [(4, .int (nI 0)), (3, .int (nI k)), (1, .double (g)), (0, .ref (ad 1))]) hx hb dX3_greatestForce_25 hl (by decide) rfl (fun ls hl => ?_)
          refine lv_iload hx hb dX3_greatestForce_27 (lv_at hl 0 rfl) ?_
          refine lv_iconst (v := nI 3) hx hb dX3_greatestForce_29 (by decide) ?_
          refine lv_icmp_ge (tgt := 67) hx hb dX3_greatestForce_30 (by decide) (fun c_30_4 => absurd c_30_4 (by decide)) (fun _ => ?_)
          refine lv_aload_n hx hb dX3_greatestForce_33 rfl (lv_at hl 3 rfl) ?_
          refine va_get (D := D) (ci := 3) (v := .ref (ad 8)) (C := RX3) (T := TX3) (N := 6) hx hb hts iX3_greatestForce_X3 hown hK hP 1 rfl rfl 1 (by decide) f_16 (fun _ h9 => h9) rfl dX3_greatestForce_34 ?_
          refine lv_iload hx hb dX3_greatestForce_37 (lv_at hl 0 rfl) ?_
          refine xal hx hb hK hP 8 3 rfl rfl (j := 0) (v := ad 33) (by decide) (by decide) rfl dX3_greatestForce_39 ?_
          refine lv_iload_n hx hb dX3_greatestForce_40 rfl (lv_at hl 1 rfl) ?_
          refine xdl hx hb hK hP 33 0 rfl rfl (j := k) (by decide) (by omega) dX3_greatestForce_41 ?_
          refine g0d (va_runSN (As := [.double (fx k)]) (rest := []) ⟨hx, hb, hml, hown, hts⟩ (kX6_size l D H.size (fx k)) ⟨va_cnB 1 hts gX3_greatestForce_X6_size_n34 rfl rfl rfl hE.2.2 (hts (.initialized RX6) (by decide +kernel)) (by decide +kernel) ⟨Nat.le_of_ble_eq_true rfl, Nat.le_of_ble_eq_true rfl⟩, hts (.static yX6_size) (by decide +kernel), trivial⟩ (gPreS (eT_bl) w0_P (fun _ _ _ => trivial)) rfl rfl hl.1 rfl (lv_room (Nat.le_of_ble_eq_true rfl)) dX3_greatestForce_42 ⟨Nat.zero_le _, Nat.zero_le _⟩) hP hS (fun r_ H locs hw hP hS => ?_)
          have hw : r_ = sizeF (fx k) := hw
          subst hw
          refine lv_dstore (lv' := [(5, .double (sizeF (fx k))), (4, .int (nI 0)), (3, .int (nI k)), (1, .double (g)), (0, .ref (ad 1))]) hx hb dX3_greatestForce_45 hl (by decide) rfl (fun ls hl => ?_)
          refine lv_dload hx hb dX3_greatestForce_47 (lv_at hl 0 rfl) ?_
          refine lv_dload_n hx hb dX3_greatestForce_49 rfl (lv_at hl 3 rfl) ?_
          have J_60_5 : ∀ (j_5 : UInt64), j_5 = (up (g) (fx k)) → W p l e ({ frames := 1, cells := 0, slots := 0, locals := 21 } : Room) s m ([.ref (ad 1)] : List Value).toArray below meth c H locs 0 0 Q (F0 m 60 ls [.double (j_5)]) := by
            intro j_5 ej_5
            subst ej_5
            refine lv_dstore_n (lv' := [(1, .double (up (g) (fx k))), (5, .double (sizeF (fx k))), (4, .int (nI 0)), (3, .int (nI k)), (0, .ref (ad 1))]) hx hb dX3_greatestForce_60 rfl hl (by decide) rfl (fun ls hl => ?_)
            refine lv_iinc (v := nI 1) (lv' := [(4, .int (nI 1)), (1, .double (up (g) (fx k))), (5, .double (sizeF (fx k))), (3, .int (nI k)), (0, .ref (ad 1))]) hx hb dX3_greatestForce_61 hl (k := 2) rfl (nI_add _ _) (by decide) rfl (fun ls hl => ?_)
            refine lv_goto (tgt := 27) hx hb dX3_greatestForce_64 (by decide) ?_
            refine lv_iload hx hb dX3_greatestForce_27 (lv_at hl 0 rfl) ?_
            refine lv_iconst (v := nI 3) hx hb dX3_greatestForce_29 (by decide) ?_
            refine lv_icmp_ge (tgt := 67) hx hb dX3_greatestForce_30 (by decide) (fun c_30_6 => absurd c_30_6 (by decide)) (fun _ => ?_)
            refine lv_aload_n hx hb dX3_greatestForce_33 rfl (lv_at hl 4 rfl) ?_
            refine va_get (D := D) (ci := 3) (v := .ref (ad 8)) (C := RX3) (T := TX3) (N := 6) hx hb hts iX3_greatestForce_X3 hown hK hP 1 rfl rfl 1 (by decide) f_16 (fun _ h9 => h9) rfl dX3_greatestForce_34 ?_
            refine lv_iload hx hb dX3_greatestForce_37 (lv_at hl 0 rfl) ?_
            refine xal hx hb hK hP 8 3 rfl rfl (j := 1) (v := ad 34) (by decide) (by decide) rfl dX3_greatestForce_39 ?_
            refine lv_iload_n hx hb dX3_greatestForce_40 rfl (lv_at hl 3 rfl) ?_
            refine xdl hx hb hK hP 34 0 rfl rfl (j := k) (by decide) (by omega) dX3_greatestForce_41 ?_
            refine g0d (va_runSN (As := [.double (fy k)]) (rest := []) ⟨hx, hb, hml, hown, hts⟩ (kX6_size l D H.size (fy k)) ⟨va_cnB 1 hts gX3_greatestForce_X6_size_n34 rfl rfl rfl hE.2.2 (hts (.initialized RX6) (by decide +kernel)) (by decide +kernel) ⟨Nat.le_of_ble_eq_true rfl, Nat.le_of_ble_eq_true rfl⟩, hts (.static yX6_size) (by decide +kernel), trivial⟩ (gPreS (eT_bl) w0_P (fun _ _ _ => trivial)) rfl rfl hl.1 rfl (lv_room (Nat.le_of_ble_eq_true rfl)) dX3_greatestForce_42 ⟨Nat.zero_le _, Nat.zero_le _⟩) hP hS (fun r_ H locs hw hP hS => ?_)
            have hw : r_ = sizeF (fy k) := hw
            subst hw
            refine lv_dstore (lv' := [(5, .double (sizeF (fy k))), (4, .int (nI 1)), (1, .double (up (g) (fx k))), (3, .int (nI k)), (0, .ref (ad 1))]) hx hb dX3_greatestForce_45 hl (by decide) rfl (fun ls hl => ?_)
            refine lv_dload hx hb dX3_greatestForce_47 (lv_at hl 0 rfl) ?_
            refine lv_dload_n hx hb dX3_greatestForce_49 rfl (lv_at hl 2 rfl) ?_
            have J_60_7 : ∀ (j_7 : UInt64), j_7 = (up (up (g) (fx k)) (fy k)) → W p l e ({ frames := 1, cells := 0, slots := 0, locals := 21 } : Room) s m ([.ref (ad 1)] : List Value).toArray below meth c H locs 0 0 Q (F0 m 60 ls [.double (j_7)]) := by
              intro j_7 ej_7
              subst ej_7
              refine lv_dstore_n (lv' := [(1, .double (up (up (g) (fx k)) (fy k))), (5, .double (sizeF (fy k))), (4, .int (nI 1)), (3, .int (nI k)), (0, .ref (ad 1))]) hx hb dX3_greatestForce_60 rfl hl (by decide) rfl (fun ls hl => ?_)
              refine lv_iinc (v := nI 2) (lv' := [(4, .int (nI 2)), (1, .double (up (up (g) (fx k)) (fy k))), (5, .double (sizeF (fy k))), (3, .int (nI k)), (0, .ref (ad 1))]) hx hb dX3_greatestForce_61 hl (k := 2) rfl (nI_add _ _) (by decide) rfl (fun ls hl => ?_)
              refine lv_goto (tgt := 27) hx hb dX3_greatestForce_64 (by decide) ?_
              refine lv_iload hx hb dX3_greatestForce_27 (lv_at hl 0 rfl) ?_
              refine lv_iconst (v := nI 3) hx hb dX3_greatestForce_29 (by decide) ?_
              refine lv_icmp_ge (tgt := 67) hx hb dX3_greatestForce_30 (by decide) (fun c_30_8 => absurd c_30_8 (by decide)) (fun _ => ?_)
              refine lv_aload_n hx hb dX3_greatestForce_33 rfl (lv_at hl 4 rfl) ?_
              refine va_get (D := D) (ci := 3) (v := .ref (ad 8)) (C := RX3) (T := TX3) (N := 6) hx hb hts iX3_greatestForce_X3 hown hK hP 1 rfl rfl 1 (by decide) f_16 (fun _ h9 => h9) rfl dX3_greatestForce_34 ?_
              refine lv_iload hx hb dX3_greatestForce_37 (lv_at hl 0 rfl) ?_
              refine xal hx hb hK hP 8 3 rfl rfl (j := 2) (v := ad 35) (by decide) (by decide) rfl dX3_greatestForce_39 ?_
              refine lv_iload_n hx hb dX3_greatestForce_40 rfl (lv_at hl 3 rfl) ?_
              refine xdl hx hb hK hP 35 0 rfl rfl (j := k) (by decide) (by omega) dX3_greatestForce_41 ?_
              refine g0d (va_runSN (As := [.double (fz k)]) (rest := []) ⟨hx, hb, hml, hown, hts⟩ (kX6_size l D H.size (fz k)) ⟨va_cnB 1 hts gX3_greatestForce_X6_size_n34 rfl rfl rfl hE.2.2 (hts (.initialized RX6) (by decide +kernel)) (by decide +kernel) ⟨Nat.le_of_ble_eq_true rfl, Nat.le_of_ble_eq_true rfl⟩, hts (.static yX6_size) (by decide +kernel), trivial⟩ (gPreS (eT_bl) w0_P (fun _ _ _ => trivial)) rfl rfl hl.1 rfl (lv_room (Nat.le_of_ble_eq_true rfl)) dX3_greatestForce_42 ⟨Nat.zero_le _, Nat.zero_le _⟩) hP hS (fun r_ H locs hw hP hS => ?_)
              have hw : r_ = sizeF (fz k) := hw
              subst hw
              refine lv_dstore (lv' := [(5, .double (sizeF (fz k))), (4, .int (nI 2)), (1, .double (up (up (g) (fx k)) (fy k))), (3, .int (nI k)), (0, .ref (ad 1))]) hx hb dX3_greatestForce_45 hl (by decide) rfl (fun ls hl => ?_)
              refine lv_dload hx hb dX3_greatestForce_47 (lv_at hl 0 rfl) ?_
              refine lv_dload_n hx hb dX3_greatestForce_49 rfl (lv_at hl 2 rfl) ?_
              have J_60_9 : ∀ (j_9 : UInt64), j_9 = (up (up (up (g) (fx k)) (fy k)) (fz k)) → W p l e ({ frames := 1, cells := 0, slots := 0, locals := 21 } : Room) s m ([.ref (ad 1)] : List Value).toArray below meth c H locs 0 0 Q (F0 m 60 ls [.double (j_9)]) := by
                intro j_9 ej_9
                subst ej_9
                refine lv_dstore_n (lv' := [(1, .double (up (up (up (g) (fx k)) (fy k)) (fz k))), (5, .double (sizeF (fz k))), (4, .int (nI 2)), (3, .int (nI k)), (0, .ref (ad 1))]) hx hb dX3_greatestForce_60 rfl hl (by decide) rfl (fun ls hl => ?_)
                refine lv_iinc (v := nI 3) (lv' := [(4, .int (nI 3)), (1, .double (up (up (up (g) (fx k)) (fy k)) (fz k))), (5, .double (sizeF (fz k))), (3, .int (nI k)), (0, .ref (ad 1))]) hx hb dX3_greatestForce_61 hl (k := 2) rfl (nI_add _ _) (by decide) rfl (fun ls hl => ?_)
                refine lv_goto (tgt := 27) hx hb dX3_greatestForce_64 (by decide) ?_
                refine lv_iload hx hb dX3_greatestForce_27 (lv_at hl 0 rfl) ?_
                refine lv_iconst (v := nI 3) hx hb dX3_greatestForce_29 (by decide) ?_
                refine lv_icmp_ge (tgt := 67) hx hb dX3_greatestForce_30 (by decide) (fun _ => ?_) (fun c_30_10 => absurd c_30_10 (by decide))
                refine lv_iinc (v := nI (k + 1)) (lv' := [(3, .int (nI (k + 1))), (4, .int (nI 3)), (1, .double (up (up (up (g) (fx k)) (fy k)) (fz k))), (5, .double (sizeF (fz k))), (0, .ref (ad 1))]) hx hb dX3_greatestForce_67 hl (k := 3) rfl (nI_add _ _) (by decide) rfl (fun ls hl => ?_)
                refine lv_goto (tgt := 4) hx hb dX3_greatestForce_70 (by decide) ?_
                exact ih_4 (k + 1) (up (up (up (g) (fx k)) (fy k)) (fz k)) (by omega) (by omega) (by rw [gr_p c_18_3, ← hg]) _ _ hP hS ls (lv_sub hl [0, 2, 4] rfl)
              refine xc_lgt (tgt := 59) hx hb dX3_greatestForce_50 dX3_greatestForce_51 (by decide) (fun c_50_11 => ?_) (fun c_50_11 => ?_)
              · skip
                refine lv_dload_n hx hb dX3_greatestForce_59 rfl (lv_at hl 2 rfl) ?_
                exact J_60_9 (up (up (g) (fx k)) (fy k)) ((up_n c_50_11).symm)
              · skip
                refine lv_dload hx hb dX3_greatestForce_54 (lv_at hl 0 rfl) ?_
                refine lv_goto (tgt := 60) hx hb dX3_greatestForce_56 (by decide) ?_
                exact J_60_9 (sizeF (fz k)) ((up_p c_50_11).symm)
            refine xc_lgt (tgt := 59) hx hb dX3_greatestForce_50 dX3_greatestForce_51 (by decide) (fun c_50_12 => ?_) (fun c_50_12 => ?_)
            · skip
              refine lv_dload_n hx hb dX3_greatestForce_59 rfl (lv_at hl 2 rfl) ?_
              exact J_60_7 (up (g) (fx k)) ((up_n c_50_12).symm)
            · skip
              refine lv_dload hx hb dX3_greatestForce_54 (lv_at hl 0 rfl) ?_
              refine lv_goto (tgt := 60) hx hb dX3_greatestForce_56 (by decide) ?_
              exact J_60_7 (sizeF (fy k)) ((up_p c_50_12).symm)
          refine xc_lgt (tgt := 59) hx hb dX3_greatestForce_50 dX3_greatestForce_51 (by decide) (fun c_50_13 => ?_) (fun c_50_13 => ?_)
          · skip
            refine lv_dload_n hx hb dX3_greatestForce_59 rfl (lv_at hl 3 rfl) ?_
            exact J_60_5 (g) ((up_n c_50_13).symm)
          · skip
            refine lv_dload hx hb dX3_greatestForce_54 (lv_at hl 0 rfl) ?_
            refine lv_goto (tgt := 60) hx hb dX3_greatestForce_56 (by decide) ?_
            exact J_60_5 (sizeF (fx k)) ((up_p c_50_13).symm)
        · skip
          refine lv_goto (tgt := 67) hx hb dX3_greatestForce_21 (by decide) ?_
          refine lv_iinc (v := nI (k + 1)) (lv' := [(3, .int (nI (k + 1))), (1, .double (g)), (0, .ref (ad 1))]) hx hb dX3_greatestForce_67 hl (k := 0) rfl (nI_add _ _) (by decide) rfl (fun ls hl => ?_)
          refine lv_goto (tgt := 4) hx hb dX3_greatestForce_70 (by decide) ?_
          exact ih_4 (k + 1) (g) (by omega) (by omega) (by rw [gr_n c_18_3, ← hg]) _ _ hP hS ls (lv_sub hl [0, 1, 2] rfl)
  exact L_4_1 (nN + 1) (0) (FP.dconst0) (by omega) (by omega) rfl _ _ hP hS ls (lv_sub hl [0, 1, 2] rfl)
theorem iX3_giveWay_X3 : ∀ w ∈ u_ws RX3 TX3 6, w ∈ wsX3_giveWay := by decide +kernel
set_option maxHeartbeats 4000000 in
set_option maxRecDepth 100000 in
theorem kX3_giveWay (l : Launch) (D : va_G) (cs : Nat → ClassId) (ad : Nat → Nat) (hd : distX ad) (sz : Nat) (S : XS) (hnN : S.1.1.1 ≤ 30) (M_ : Nat) (hM : M_ < 262143) (hpl : plOK M_ S.1) (K : Nat) (hK_ : K ≤ 2040) (hfx : ∀ j, j < S.1.1.1 → fB K (S.1.1.2.2.2.2.1 j)) (hfy : ∀ j, j < S.1.1.1 → fB K (S.1.1.2.2.2.2.2.1 j)) (hfz : ∀ j, j < S.1.1.1 → fB K (S.1.1.2.2.2.2.2.2.1 j)) : Met l yX3_giveWay wsX3_giveWay ({ frames := 1, cells := 0, slots := 0, locals := 25 } : Room) (gP D (WX cs ad) (EX D cs) S sz ([.ref (ad 1)] : List Value)) (va_Qv (fun u => match S with | (((nN, px, py, pz, fx, fy, fz, lf, ld, fi), (nB, fr, tt, ln, wi, sg, pu), (nR, rd, rx, ry, wv, fo), (re, dg), (nP, tp, bt, dp)), (sp, ac, kp, kc, kn, aw, dw, su, ss, sd)) => u = (((nN, (gwF px fx fi nN), (gwF py fy fi nN), (gwF pz fz fi nN), fx, fy, fz, lf, ld, fi), (nB, fr, tt, ln, wi, sg, pu), (nR, rd, rx, ry, wv, fo), (re, dg), (nP, tp, bt, dp)), (sp, ac, kp, kc, kn, aw, dw, su, ss, sd))) (gB D (WX cs ad)) (gA (AX ad) sz)) 0 0 (gA (AX ad) sz) := by
  obtain ⟨⟨⟨nN, px, py, pz, fx, fy, fz, lf, ld, fi⟩, ⟨nB, fr, tt, ln, wi, sg, pu⟩, ⟨nR, rd, rx, ry, wv, fo⟩, ⟨re, dg⟩, ⟨nP, tp, bt, dp⟩⟩, ⟨sp, ac, kp, kc, kn, aw, dw, su, ss, sd⟩⟩ := S
  have hnN : nN ≤ 30 := hnN
  have hpl : ∀ j, j < nN → pP M_ (px j) ∧ pP M_ (py j) ∧ pP M_ (pz j) := hpl
  have hfx : ∀ j, j < nN → fB K (fx j) := hfx
  have hfy : ∀ j, j < nN → fB K (fy j) := hfy
  have hfz : ∀ j, j < nN → fB K (fz j) := hfz
  refine gMv (cc := cX3_giveWay) (maxL := 3) (plainFor_of_name (by decide)) rfl (Nat.le_of_ble_eq_true rfl) ?_
  intro p e s m below meth c Q hx hb hts hown hml hsz hE hret H locs hP hS ls hl
  subst hsz
  have hown : s.vm.findClass RX3 = some m.cls := hown
  have hK : va_K D vwCl (tysX cs) s := hE.1
  have hD : ∀ u, va_D (gA (AX ad) s.heap.size) (WX cs ad u) := fun u => WX_D hd u
  have hl : lv_has ls 3 [(0, .ref (ad 1))] := hl
  have f_11 := hts (.fieldLink RX3 11 "NetShapes$Nodes" "places" "[[D") (by decide +kernel)
  have f_16 := hts (.fieldLink RX3 16 "NetShapes$Nodes" "forces" "[[D") (by decide +kernel)
  have f_26 := hts (.fieldLink RX3 26 "NetShapes$Nodes" "fixed" "[Z") (by decide +kernel)
  have f_30 := hts (.fieldLink RX3 30 "NetShapes$Nodes" "count" "I") (by decide +kernel)
  refine lv_iconst (v := nI 0) hx hb dX3_giveWay_0 (by decide) ?_
  refine lv_istore_n (lv' := [(1, .int (nI 0)), (0, .ref (ad 1))]) hx hb dX3_giveWay_1 rfl hl (by decide) rfl (fun ls hl => ?_)
  have L_2_1 : ∀ (n_2 k : Nat) (px_ : DF) (py_ : DF) (pz_ : DF), (nN + 1 ≤ k + n_2) → (k ≤ nN) → (px_ = gwF px fx fi k) → (py_ = gwF py fy fi k) → (pz_ = gwF pz fz fi k) → ∀ (H : Heap) (locs : List Loc), va_P D vwCl (WX cs ad (((nN, px_, py_, pz_, fx, fy, fz, lf, ld, fi), (nB, fr, tt, ln, wi, sg, pu), (nR, rd, rx, ry, wv, fo), (re, dg), (nP, tp, bt, dp)), (sp, ac, kp, kc, kn, aw, dw, su, ss, sd))) H → va_S (gA (AX ad) s.heap.size) s.heap H locs → ∀ (ls : Array Slot), lv_has ls 3 [(1, .int (nI k)), (0, .ref (ad 1))] → W p l e ({ frames := 1, cells := 0, slots := 0, locals := 25 } : Room) s m ([.ref (ad 1)] : List Value).toArray below meth c H locs 0 0 Q (F0 m 2 ls []) := by
    intro n_2; induction n_2 with
    | zero => intro k px_ py_ pz_ hf_2 hk hpx hpy hpz H locs hP hS ls hl; exact absurd hf_2 (by omega)
    | succ n_2 ih_2 =>
      intro k px_ py_ pz_ hf_2 hk hpx hpy hpz H locs hP hS ls hl
      refine lv_iload_n hx hb dX3_giveWay_2 rfl (lv_at hl 0 rfl) ?_
      refine lv_aload_n hx hb dX3_giveWay_3 rfl (lv_at hl 1 rfl) ?_
      refine va_get (D := D) (ci := 3) (v := .int (nI nN)) (C := RX3) (T := TX3) (N := 6) hx hb hts iX3_giveWay_X3 hown hK hP 1 rfl rfl 5 (by decide) f_30 (fun _ h9 => h9) rfl dX3_giveWay_4 ?_
      refine lv_icmp_ge (tgt := 63) hx hb dX3_giveWay_7 (by decide) (fun c_7_2 => ?_) (fun c_7_2 => ?_)
      · skip
        have c_7_2 : nN ≤ k := (nI_leI (a := nN) (b := k) (by omega) (by omega)).mp c_7_2
        exact hret hS hP dX3_giveWay_63 ((by show (((nN, px_, py_, pz_, fx, fy, fz, lf, ld, fi), (nB, fr, tt, ln, wi, sg, pu), (nR, rd, rx, ry, wv, fo), (re, dg), (nP, tp, bt, dp)), (sp, ac, kp, kc, kn, aw, dw, su, ss, sd)) = (((nN, (gwF px fx fi nN), (gwF py fy fi nN), (gwF pz fz fi nN), fx, fy, fz, lf, ld, fi), (nB, fr, tt, ln, wi, sg, pu), (nR, rd, rx, ry, wv, fo), (re, dg), (nP, tp, bt, dp)), (sp, ac, kp, kc, kn, aw, dw, su, ss, sd)); rw [hpx, hpy, hpz, show k = nN by omega]))
      · skip
        have c_7_2 : ¬ (nN ≤ k) := fun q => c_7_2 ((nI_leI (a := nN) (b := k) (by omega) (by omega)).mpr q)
        refine lv_aload_n hx hb dX3_giveWay_10 rfl (lv_at hl 1 rfl) ?_
        refine va_get (D := D) (ci := 3) (v := .ref (ad 11)) (C := RX3) (T := TX3) (N := 6) hx hb hts iX3_giveWay_X3 hown hK hP 1 rfl rfl 4 (by decide) f_26 (fun _ h9 => h9) rfl dX3_giveWay_11 ?_
        refine lv_iload_n hx hb dX3_giveWay_14 rfl (lv_at hl 0 rfl) ?_
        refine xzl hx hb hK hP 11 2 rfl rfl (j := k) (by decide) (by omega) dX3_giveWay_15 ?_
        refine lv_if_eq (tgt := 22) hx hb dX3_giveWay_16 (by decide) (fun c_16_3 => ?_) (fun c_16_3 => ?_)
        · skip
          refine lv_iconst (v := nI 0) hx hb dX3_giveWay_22 (by decide) ?_
          refine lv_istore_n (lv' := [(2, .int (nI 0)), (1, .int (nI k)), (0, .ref (ad 1))]) hx hb dX3_giveWay_23 rfl hl (by decide) rfl (fun ls hl => ?_)
          refine lv_iload_n hx hb dX3_giveWay_24 rfl (lv_at hl 0 rfl) ?_
          refine lv_iconst (v := nI 3) hx hb dX3_giveWay_25 (by decide) ?_
          refine lv_icmp_ge (tgt := 57) hx hb dX3_giveWay_26 (by decide) (fun c_26_4 => absurd c_26_4 (by decide)) (fun _ => ?_)
          refine lv_aload_n hx hb dX3_giveWay_29 rfl (lv_at hl 2 rfl) ?_
          refine va_get (D := D) (ci := 3) (v := .ref (ad 7)) (C := RX3) (T := TX3) (N := 6) hx hb hts iX3_giveWay_X3 hown hK hP 1 rfl rfl 0 (by decide) f_11 (fun _ h9 => h9) rfl dX3_giveWay_30 ?_
          refine lv_iload_n hx hb dX3_giveWay_33 rfl (lv_at hl 0 rfl) ?_
          refine xal hx hb hK hP 7 3 rfl rfl (j := 0) (v := ad 30) (by decide) (by decide) rfl dX3_giveWay_34 ?_
          refine lv_iload_n hx hb dX3_giveWay_35 rfl (lv_at hl 1 rfl) ?_
          refine lv_dup2_11 hx hb dX3_giveWay_36 rfl rfl ?_
          refine xdl hx hb hK hP 30 0 rfl rfl (j := k) (by decide) (by omega) dX3_giveWay_37 ?_
          refine lv_aload_n hx hb dX3_giveWay_38 rfl (lv_at hl 2 rfl) ?_
          refine va_get (D := D) (ci := 3) (v := .ref (ad 8)) (C := RX3) (T := TX3) (N := 6) hx hb hts iX3_giveWay_X3 hown hK hP 1 rfl rfl 1 (by decide) f_16 (fun _ h9 => h9) rfl dX3_giveWay_39 ?_
          refine lv_iload_n hx hb dX3_giveWay_42 rfl (lv_at hl 0 rfl) ?_
          refine xal hx hb hK hP 8 3 rfl rfl (j := 0) (v := ad 33) (by decide) (by decide) rfl dX3_giveWay_43 ?_
          refine lv_iload_n hx hb dX3_giveWay_44 rfl (lv_at hl 1 rfl) ?_
          refine xdl hx hb hK hP 33 0 rfl rfl (j := k) (by decide) (by omega) dX3_giveWay_45 ?_
          refine g0d (va_runS (As := [.double (fx k)]) (rest := [.double (px_ k), .int (nI k), .ref (ad 30)]) ⟨hx, hb, hml, hown, hts⟩ (kX3_stepFor l D H.size (fx k) K (hfx _ (by omega)) hK_) (va_cwS 1 hts gX3_giveWay_X3_stepFor rfl rfl rfl (by decide +kernel) ⟨Nat.le_of_ble_eq_true rfl, Nat.le_of_ble_eq_true rfl⟩) (gPreS (eT_bl) w0_P (fun _ _ _ => trivial)) rfl rfl hl.1 rfl (lv_room (Nat.le_of_ble_eq_true rfl)) dX3_giveWay_46 ⟨Nat.zero_le _, Nat.zero_le _⟩) hP hS (fun r_ H locs hw hP hS => ?_)
          have hw : r_ = stepF (fx k) := hw
          subst hw
          refine lv_dadd hx hb dX3_giveWay_49 (by rw [hpx, gw_ge (Nat.le_refl _)]; exact fB_ne (pP_fB (pP_step (hpl _ (by omega)).1 hM (hfx _ (by omega)) hK_) (by omega)) (by decide)) ?_
          refine xds hx hb hK hD hP hS 30 0 (((nN, (vf_upd px_ k (FP.dadd (px_ k) (stepF (fx k)))), py_, pz_, fx, fy, fz, lf, ld, fi), (nB, fr, tt, ln, wi, sg, pu), (nR, rd, rx, ry, wv, fo), (re, dg), (nP, tp, bt, dp)), (sp, ac, kp, kc, kn, aw, dw, su, ss, sd)) rfl rfl (j := k) (by decide) (by omega) rfl dX3_giveWay_50 (fun H locs hP hS => ?_)
          refine lv_iinc (v := nI 1) (lv' := [(2, .int (nI 1)), (1, .int (nI k)), (0, .ref (ad 1))]) hx hb dX3_giveWay_51 hl (k := 0) rfl (nI_add _ _) (by decide) rfl (fun ls hl => ?_)
          refine lv_goto (tgt := 24) hx hb dX3_giveWay_54 (by decide) ?_
          refine lv_iload_n hx hb dX3_giveWay_24 rfl (lv_at hl 0 rfl) ?_
          refine lv_iconst (v := nI 3) hx hb dX3_giveWay_25 (by decide) ?_
          refine lv_icmp_ge (tgt := 57) hx hb dX3_giveWay_26 (by decide) (fun c_26_7 => absurd c_26_7 (by decide)) (fun _ => ?_)
          refine lv_aload_n hx hb dX3_giveWay_29 rfl (lv_at hl 2 rfl) ?_
          refine va_get (D := D) (ci := 3) (v := .ref (ad 7)) (C := RX3) (T := TX3) (N := 6) hx hb hts iX3_giveWay_X3 hown hK hP 1 rfl rfl 0 (by decide) f_11 (fun _ h9 => h9) rfl dX3_giveWay_30 ?_
          refine lv_iload_n hx hb dX3_giveWay_33 rfl (lv_at hl 0 rfl) ?_
          refine xal hx hb hK hP 7 3 rfl rfl (j := 1) (v := ad 31) (by decide) (by decide) rfl dX3_giveWay_34 ?_
          refine lv_iload_n hx hb dX3_giveWay_35 rfl (lv_at hl 1 rfl) ?_
          refine lv_dup2_11 hx hb dX3_giveWay_36 rfl rfl ?_
          refine xdl hx hb hK hP 31 0 rfl rfl (j := k) (by decide) (by omega) dX3_giveWay_37 ?_
          refine lv_aload_n hx hb dX3_giveWay_38 rfl (lv_at hl 2 rfl) ?_
          refine va_get (D := D) (ci := 3) (v := .ref (ad 8)) (C := RX3) (T := TX3) (N := 6) hx hb hts iX3_giveWay_X3 hown hK hP 1 rfl rfl 1 (by decide) f_16 (fun _ h9 => h9) rfl dX3_giveWay_39 ?_
          refine lv_iload_n hx hb dX3_giveWay_42 rfl (lv_at hl 0 rfl) ?_
          refine xal hx hb hK hP 8 3 rfl rfl (j := 1) (v := ad 34) (by decide) (by decide) rfl dX3_giveWay_43 ?_
          refine lv_iload_n hx hb dX3_giveWay_44 rfl (lv_at hl 1 rfl) ?_
          refine xdl hx hb hK hP 34 0 rfl rfl (j := k) (by decide) (by omega) dX3_giveWay_45 ?_
          refine g0d (va_runS (As := [.double (fy k)]) (rest := [.double (py_ k), .int (nI k), .ref (ad 31)]) ⟨hx, hb, hml, hown, hts⟩ (kX3_stepFor l D H.size (fy k) K (hfy _ (by omega)) hK_) (va_cwS 1 hts gX3_giveWay_X3_stepFor rfl rfl rfl (by decide +kernel) ⟨Nat.le_of_ble_eq_true rfl, Nat.le_of_ble_eq_true rfl⟩) (gPreS (eT_bl) w0_P (fun _ _ _ => trivial)) rfl rfl hl.1 rfl (lv_room (Nat.le_of_ble_eq_true rfl)) dX3_giveWay_46 ⟨Nat.zero_le _, Nat.zero_le _⟩) hP hS (fun r_ H locs hw hP hS => ?_)
          have hw : r_ = stepF (fy k) := hw
          subst hw
          refine lv_dadd hx hb dX3_giveWay_49 (by rw [hpy, gw_ge (Nat.le_refl _)]; exact fB_ne (pP_fB (pP_step (hpl _ (by omega)).2.1 hM (hfy _ (by omega)) hK_) (by omega)) (by decide)) ?_
          refine xds hx hb hK hD hP hS 31 0 (((nN, (vf_upd px_ k (FP.dadd (px_ k) (stepF (fx k)))), (vf_upd py_ k (FP.dadd (py_ k) (stepF (fy k)))), pz_, fx, fy, fz, lf, ld, fi), (nB, fr, tt, ln, wi, sg, pu), (nR, rd, rx, ry, wv, fo), (re, dg), (nP, tp, bt, dp)), (sp, ac, kp, kc, kn, aw, dw, su, ss, sd)) rfl rfl (j := k) (by decide) (by omega) rfl dX3_giveWay_50 (fun H locs hP hS => ?_)
          refine lv_iinc (v := nI 2) (lv' := [(2, .int (nI 2)), (1, .int (nI k)), (0, .ref (ad 1))]) hx hb dX3_giveWay_51 hl (k := 0) rfl (nI_add _ _) (by decide) rfl (fun ls hl => ?_)
          refine lv_goto (tgt := 24) hx hb dX3_giveWay_54 (by decide) ?_
          refine lv_iload_n hx hb dX3_giveWay_24 rfl (lv_at hl 0 rfl) ?_
          refine lv_iconst (v := nI 3) hx hb dX3_giveWay_25 (by decide) ?_
          refine lv_icmp_ge (tgt := 57) hx hb dX3_giveWay_26 (by decide) (fun c_26_10 => absurd c_26_10 (by decide)) (fun _ => ?_)
          refine lv_aload_n hx hb dX3_giveWay_29 rfl (lv_at hl 2 rfl) ?_
          refine va_get (D := D) (ci := 3) (v := .ref (ad 7)) (C := RX3) (T := TX3) (N := 6) hx hb hts iX3_giveWay_X3 hown hK hP 1 rfl rfl 0 (by decide) f_11 (fun _ h9 => h9) rfl dX3_giveWay_30 ?_
          refine lv_iload_n hx hb dX3_giveWay_33 rfl (lv_at hl 0 rfl) ?_
          refine xal hx hb hK hP 7 3 rfl rfl (j := 2) (v := ad 32) (by decide) (by decide) rfl dX3_giveWay_34 ?_
          refine lv_iload_n hx hb dX3_giveWay_35 rfl (lv_at hl 1 rfl) ?_
          refine lv_dup2_11 hx hb dX3_giveWay_36 rfl rfl ?_
          refine xdl hx hb hK hP 32 0 rfl rfl (j := k) (by decide) (by omega) dX3_giveWay_37 ?_
          refine lv_aload_n hx hb dX3_giveWay_38 rfl (lv_at hl 2 rfl) ?_
          refine va_get (D := D) (ci := 3) (v := .ref (ad 8)) (C := RX3) (T := TX3) (N := 6) hx hb hts iX3_giveWay_X3 hown hK hP 1 rfl rfl 1 (by decide) f_16 (fun _ h9 => h9) rfl dX3_giveWay_39 ?_
          refine lv_iload_n hx hb dX3_giveWay_42 rfl (lv_at hl 0 rfl) ?_
          refine xal hx hb hK hP 8 3 rfl rfl (j := 2) (v := ad 35) (by decide) (by decide) rfl dX3_giveWay_43 ?_
          refine lv_iload_n hx hb dX3_giveWay_44 rfl (lv_at hl 1 rfl) ?_
          refine xdl hx hb hK hP 35 0 rfl rfl (j := k) (by decide) (by omega) dX3_giveWay_45 ?_
          refine g0d (va_runS (As := [.double (fz k)]) (rest := [.double (pz_ k), .int (nI k), .ref (ad 32)]) ⟨hx, hb, hml, hown, hts⟩ (kX3_stepFor l D H.size (fz k) K (hfz _ (by omega)) hK_) (va_cwS 1 hts gX3_giveWay_X3_stepFor rfl rfl rfl (by decide +kernel) ⟨Nat.le_of_ble_eq_true rfl, Nat.le_of_ble_eq_true rfl⟩) (gPreS (eT_bl) w0_P (fun _ _ _ => trivial)) rfl rfl hl.1 rfl (lv_room (Nat.le_of_ble_eq_true rfl)) dX3_giveWay_46 ⟨Nat.zero_le _, Nat.zero_le _⟩) hP hS (fun r_ H locs hw hP hS => ?_)
          have hw : r_ = stepF (fz k) := hw
          subst hw
          refine lv_dadd hx hb dX3_giveWay_49 (by rw [hpz, gw_ge (Nat.le_refl _)]; exact fB_ne (pP_fB (pP_step (hpl _ (by omega)).2.2 hM (hfz _ (by omega)) hK_) (by omega)) (by decide)) ?_
          refine xds hx hb hK hD hP hS 32 0 (((nN, (vf_upd px_ k (FP.dadd (px_ k) (stepF (fx k)))), (vf_upd py_ k (FP.dadd (py_ k) (stepF (fy k)))), (vf_upd pz_ k (FP.dadd (pz_ k) (stepF (fz k)))), fx, fy, fz, lf, ld, fi), (nB, fr, tt, ln, wi, sg, pu), (nR, rd, rx, ry, wv, fo), (re, dg), (nP, tp, bt, dp)), (sp, ac, kp, kc, kn, aw, dw, su, ss, sd)) rfl rfl (j := k) (by decide) (by omega) rfl dX3_giveWay_50 (fun H locs hP hS => ?_)
          refine lv_iinc (v := nI 3) (lv' := [(2, .int (nI 3)), (1, .int (nI k)), (0, .ref (ad 1))]) hx hb dX3_giveWay_51 hl (k := 0) rfl (nI_add _ _) (by decide) rfl (fun ls hl => ?_)
          refine lv_goto (tgt := 24) hx hb dX3_giveWay_54 (by decide) ?_
          refine lv_iload_n hx hb dX3_giveWay_24 rfl (lv_at hl 0 rfl) ?_
          refine lv_iconst (v := nI 3) hx hb dX3_giveWay_25 (by decide) ?_
          refine lv_icmp_ge (tgt := 57) hx hb dX3_giveWay_26 (by decide) (fun _ => ?_) (fun c_26_13 => absurd c_26_13 (by decide))
          refine lv_iinc (v := nI (k + 1)) (lv' := [(1, .int (nI (k + 1))), (2, .int (nI 3)), (0, .ref (ad 1))]) hx hb dX3_giveWay_57 hl (k := 1) rfl (nI_add _ _) (by decide) rfl (fun ls hl => ?_)
          refine lv_goto (tgt := 2) hx hb dX3_giveWay_60 (by decide) ?_
          exact ih_2 (k + 1) ((vf_upd px_ k (FP.dadd (px_ k) (stepF (fx k))))) ((vf_upd py_ k (FP.dadd (py_ k) (stepF (fy k))))) ((vf_upd pz_ k (FP.dadd (pz_ k) (stepF (fz k))))) (by omega) (by omega) (by rw [gw_p c_16_3, ← hpx]) (by rw [gw_p c_16_3, ← hpy]) (by rw [gw_p c_16_3, ← hpz]) _ _ hP hS ls (lv_sub hl [0, 2] rfl)
        · skip
          refine lv_goto (tgt := 57) hx hb dX3_giveWay_19 (by decide) ?_
          refine lv_iinc (v := nI (k + 1)) (lv' := [(1, .int (nI (k + 1))), (0, .ref (ad 1))]) hx hb dX3_giveWay_57 hl (k := 0) rfl (nI_add _ _) (by decide) rfl (fun ls hl => ?_)
          refine lv_goto (tgt := 2) hx hb dX3_giveWay_60 (by decide) ?_
          exact ih_2 (k + 1) (px_) (py_) (pz_) (by omega) (by omega) (by rw [gw_n c_16_3, ← hpx]) (by rw [gw_n c_16_3, ← hpy]) (by rw [gw_n c_16_3, ← hpz]) _ _ hP hS ls (lv_sub hl [0, 1] rfl)
  exact L_2_1 (nN + 1) (0) (px) (py) (pz) (by omega) (by omega) rfl rfl rfl _ _ hP hS ls (lv_sub hl [0, 1] rfl)
theorem iX0_comesInRound_X0 : ∀ w ∈ u_ws RX0 TX0 7, w ∈ wsX0_comesInRound := by decide +kernel
theorem iX0_comesInRound_X1 : ∀ w ∈ u_ws RX1 TX1 7, w ∈ wsX0_comesInRound := by decide +kernel
set_option maxHeartbeats 4000000 in
set_option maxRecDepth 100000 in
theorem kX0_comesInRound (l : Launch) (D : va_G) (cs : Nat → ClassId) (ad : Nat → Nat) (hd : distX ad) (sz : Nat) (S : XS) (hE0 : envOK S.1) (M_ : Nat) (hM : M_ + 1 < 262144) (hpl : plOK M_ S.1)  : Met l yX0_comesInRound wsX0_comesInRound ({ frames := 4, cells := 0, slots := 0, locals := 109 } : Room) (gP D (WX cs ad) (EX D cs) S sz ([.ref (ad 4)] : List Value)) (va_Qi (fun r u => ((r = nI 1 ∧ inBal S.1 ∧ u.1 = forcesG S.1) ∨ (r = nI 0 ∧ ¬ inBal S.1 ∧ u.1 = moveG (forcesG S.1))) ∧ u.2.2.2 = S.2.2.2) (gB D (WX cs ad)) (gA (AX ad) sz)) 0 0 (gA (AX ad) sz) := by
  obtain ⟨⟨⟨nN, px, py, pz, fx, fy, fz, lf, ld, fi⟩, ⟨nB, fr, tt, ln, wi, sg, pu⟩, ⟨nR, rd, rx, ry, wv, fo⟩, ⟨re, dg⟩, ⟨nP, tp, bt, dp⟩⟩, ⟨sp, ac, kp, kc, kn, aw, dw, su, ss, sd⟩⟩ := S
  have hM : M_ < 262144 := by omega
  have hpl00 := hpl
  have hE00 := hE0
  obtain ⟨hnN, hnB, hnR, hbar, hlw, hr, hwv, hfo, hll⟩ := hE0
  have hbar : barOK nN nB fr tt := hbar
  have hr : rowsOK nR rd rx ry := hr
  have hpl : ∀ j, j < nN → pP M_ (px j) ∧ pP M_ (py j) ∧ pP M_ (pz j) := hpl
  have hp0 : ∀ j, j < nN → fB 1039 (px j) := fun j hj => pP_fB (hpl j hj).1 hM
  have hp1 : ∀ j, j < nN → fB 1039 (py j) := fun j hj => pP_fB (hpl j hj).2.1 hM
  have hp2 : ∀ j, j < nN → fB 1039 (pz j) := fun j hj => pP_fB (hpl j hj).2.2 hM
  refine gMz (cc := cX0_comesInRound) (maxL := 4) (plainFor_of_name (by decide)) rfl (Nat.le_of_ble_eq_true rfl) ?_
  intro p e s m below meth c Q hx hb hts hown hml hsz hE hret H locs hP hS ls hl
  subst hsz
  have hown : s.vm.findClass RX0 = some m.cls := hown
  have hK : va_K D vwCl (tysX cs) s := hE.1
  have hD : ∀ u, va_D (gA (AX ad) s.heap.size) (WX cs ad u) := fun u => WX_D hd u
  have hl : lv_has ls 4 [(0, .ref (ad 4))] := hl
  have f_9 := hts (.fieldLink RX0 9 "NetShapes$Balance" "drags" "[D") (by decide +kernel)
  have f_17 := hts (.fieldLink RX0 17 "NetShapes$Balance" "greatestForce" "D") (by decide +kernel)
  have f_27 := hts (.fieldLink RX0 27 "NetShapes$Balance" "nodes" "LNetShapes$Nodes;") (by decide +kernel)
  have f_31 := hts (.fieldLink RX0 31 "NetShapes$Balance" "bars" "LNetShapes$Bars;") (by decide +kernel)
  have f_44 := hts (.fieldLink RX0 44 "NetShapes$Bars" "count" "I") (by decide +kernel)
  refine lv_aload_n hx hb dX0_comesInRound_0 rfl (lv_at hl 0 rfl) ?_
  refine va_get (D := D) (ci := 0) (v := .ref (ad 1)) (C := RX0) (T := TX0) (N := 7) hx hb hts iX0_comesInRound_X0 hown hK hP 4 rfl rfl 0 (by decide) f_27 (fun _ h9 => h9) rfl dX0_comesInRound_1 ?_
  refine gcv (va_runV (As := []) (rest := []) ⟨hx, hb, hml, hown, hts⟩ (kX3_startForces l D cs ad hd H.size (((nN, px, py, pz, fx, fy, fz, lf, ld, fi), (nB, fr, tt, ln, wi, sg, pu), (nR, rd, rx, ry, wv, fo), (re, dg), (nP, tp, bt, dp)), (sp, ac, kp, kc, kn, aw, dw, su, ss, sd)) hE00) (cwV 0 hts gX0_comesInRound_X3_startForces rfl rfl rfl (by decide +kernel) ⟨Nat.le_of_ble_eq_true rfl, Nat.le_of_ble_eq_true rfl⟩) (gPreV (EX_bl) (va_recv hK hP (ci := 3) (q0 := 1) rfl rfl) hP (fun U _ hW => EX_warm hW hE)) rfl rfl hl.1 rfl (lv_room (Nat.le_of_ble_eq_true rfl)) dX0_comesInRound_4 ⟨Nat.zero_le _, Nat.zero_le _⟩) hS (fun u_ H locs hw hP hS => ?_)
  obtain rfl := hw
  have hP : va_P D vwCl (WX cs ad (((nN, px, py, pz, ((st0 fx nN)), ((st0 fy nN)), ((stz fz ld lf nN)), lf, ld, fi), (nB, fr, tt, ln, wi, sg, pu), (nR, rd, rx, ry, wv, fo), (re, dg), (nP, tp, bt, dp)), (sp, ac, kp, kc, kn, aw, dw, su, ss, sd))) H := hP
  refine lv_iconst (v := nI 0) hx hb dX0_comesInRound_7 (by decide) ?_
  refine lv_istore_n (lv' := [(1, .int (nI 0)), (0, .ref (ad 4))]) hx hb dX0_comesInRound_8 rfl hl (by decide) rfl (fun ls hl => ?_)
  refine lv_iload_n hx hb dX0_comesInRound_9 rfl (lv_at hl 0 rfl) ?_
  refine lv_iconst (v := nI 3) hx hb dX0_comesInRound_10 (by decide) ?_
  refine lv_icmp_ge (tgt := 27) hx hb dX0_comesInRound_11 (by decide) (fun c_11_1 => absurd c_11_1 (by decide)) (fun _ => ?_)
  refine lv_aload_n hx hb dX0_comesInRound_14 rfl (lv_at hl 1 rfl) ?_
  refine va_get (D := D) (ci := 0) (v := .ref (ad 21)) (C := RX0) (T := TX0) (N := 7) hx hb hts iX0_comesInRound_X0 hown hK hP 4 rfl rfl 3 (by decide) f_9 (fun _ h9 => h9) rfl dX0_comesInRound_15 ?_
  refine lv_iload_n hx hb dX0_comesInRound_18 rfl (lv_at hl 0 rfl) ?_
  refine lv_dconst0 hx hb dX0_comesInRound_19 ?_
  refine xds hx hb hK hD hP hS 21 0 (((nN, px, py, pz, ((st0 fx nN)), ((st0 fy nN)), ((stz fz ld lf nN)), lf, ld, fi), (nB, fr, tt, ln, wi, sg, pu), (nR, rd, rx, ry, wv, fo), (re, (vf_upd dg 0 FP.dconst0)), (nP, tp, bt, dp)), (sp, ac, kp, kc, kn, aw, dw, su, ss, sd)) rfl rfl (j := 0) (by decide) (by decide) rfl dX0_comesInRound_20 (fun H locs hP hS => ?_)
  refine lv_iinc (v := nI 1) (lv' := [(1, .int (nI 1)), (0, .ref (ad 4))]) hx hb dX0_comesInRound_21 hl (k := 0) rfl (nI_add _ _) (by decide) rfl (fun ls hl => ?_)
  refine lv_goto (tgt := 9) hx hb dX0_comesInRound_24 (by decide) ?_
  refine lv_iload_n hx hb dX0_comesInRound_9 rfl (lv_at hl 0 rfl) ?_
  refine lv_iconst (v := nI 3) hx hb dX0_comesInRound_10 (by decide) ?_
  refine lv_icmp_ge (tgt := 27) hx hb dX0_comesInRound_11 (by decide) (fun c_11_2 => absurd c_11_2 (by decide)) (fun _ => ?_)
  refine lv_aload_n hx hb dX0_comesInRound_14 rfl (lv_at hl 1 rfl) ?_
  refine va_get (D := D) (ci := 0) (v := .ref (ad 21)) (C := RX0) (T := TX0) (N := 7) hx hb hts iX0_comesInRound_X0 hown hK hP 4 rfl rfl 3 (by decide) f_9 (fun _ h9 => h9) rfl dX0_comesInRound_15 ?_
  refine lv_iload_n hx hb dX0_comesInRound_18 rfl (lv_at hl 0 rfl) ?_
  refine lv_dconst0 hx hb dX0_comesInRound_19 ?_
  refine xds hx hb hK hD hP hS 21 0 (((nN, px, py, pz, ((st0 fx nN)), ((st0 fy nN)), ((stz fz ld lf nN)), lf, ld, fi), (nB, fr, tt, ln, wi, sg, pu), (nR, rd, rx, ry, wv, fo), (re, (vf_upd (vf_upd dg 0 FP.dconst0) 1 FP.dconst0)), (nP, tp, bt, dp)), (sp, ac, kp, kc, kn, aw, dw, su, ss, sd)) rfl rfl (j := 1) (by decide) (by decide) rfl dX0_comesInRound_20 (fun H locs hP hS => ?_)
  refine lv_iinc (v := nI 2) (lv' := [(1, .int (nI 2)), (0, .ref (ad 4))]) hx hb dX0_comesInRound_21 hl (k := 0) rfl (nI_add _ _) (by decide) rfl (fun ls hl => ?_)
  refine lv_goto (tgt := 9) hx hb dX0_comesInRound_24 (by decide) ?_
  refine lv_iload_n hx hb dX0_comesInRound_9 rfl (lv_at hl 0 rfl) ?_
  refine lv_iconst (v := nI 3) hx hb dX0_comesInRound_10 (by decide) ?_
  refine lv_icmp_ge (tgt := 27) hx hb dX0_comesInRound_11 (by decide) (fun c_11_3 => absurd c_11_3 (by decide)) (fun _ => ?_)
  refine lv_aload_n hx hb dX0_comesInRound_14 rfl (lv_at hl 1 rfl) ?_
  refine va_get (D := D) (ci := 0) (v := .ref (ad 21)) (C := RX0) (T := TX0) (N := 7) hx hb hts iX0_comesInRound_X0 hown hK hP 4 rfl rfl 3 (by decide) f_9 (fun _ h9 => h9) rfl dX0_comesInRound_15 ?_
  refine lv_iload_n hx hb dX0_comesInRound_18 rfl (lv_at hl 0 rfl) ?_
  refine lv_dconst0 hx hb dX0_comesInRound_19 ?_
  refine xds hx hb hK hD hP hS 21 0 (((nN, px, py, pz, ((st0 fx nN)), ((st0 fy nN)), ((stz fz ld lf nN)), lf, ld, fi), (nB, fr, tt, ln, wi, sg, pu), (nR, rd, rx, ry, wv, fo), (re, (vf_upd (vf_upd (vf_upd dg 0 FP.dconst0) 1 FP.dconst0) 2 FP.dconst0)), (nP, tp, bt, dp)), (sp, ac, kp, kc, kn, aw, dw, su, ss, sd)) rfl rfl (j := 2) (by decide) (by decide) rfl dX0_comesInRound_20 (fun H locs hP hS => ?_)
  refine lv_iinc (v := nI 3) (lv' := [(1, .int (nI 3)), (0, .ref (ad 4))]) hx hb dX0_comesInRound_21 hl (k := 0) rfl (nI_add _ _) (by decide) rfl (fun ls hl => ?_)
  refine lv_goto (tgt := 9) hx hb dX0_comesInRound_24 (by decide) ?_
  refine lv_iload_n hx hb dX0_comesInRound_9 rfl (lv_at hl 0 rfl) ?_
  refine lv_iconst (v := nI 3) hx hb dX0_comesInRound_10 (by decide) ?_
  refine lv_icmp_ge (tgt := 27) hx hb dX0_comesInRound_11 (by decide) (fun _ => ?_) (fun c_11_4 => absurd c_11_4 (by decide))
  refine lv_iconst (v := nI 0) hx hb dX0_comesInRound_27 (by decide) ?_
  refine lv_istore_n (lv' := [(1, .int (nI 0)), (0, .ref (ad 4))]) hx hb dX0_comesInRound_28 rfl hl (by decide) rfl (fun ls hl => ?_)
  have L_29_5 : ∀ (n_29 i : Nat) (fx_ : DF) (fy_ : DF) (fz_ : DF) (pu_ : DF) (dg_ : DF) (sp_ : DF) (ac_ : DF), (nB + 1 ≤ i + n_29) → (i ≤ nB) → ((fx_, fy_, fz_, pu_, dg_) = barsI ((nN, px, py, pz, fx, fy, fz, lf, ld, fi), (nB, fr, tt, ln, wi, sg, pu), (nR, rd, rx, ry, wv, fo), (re, dg), (nP, tp, bt, dp)) i) → ∀ (H : Heap) (locs : List Loc), va_P D vwCl (WX cs ad (((nN, px, py, pz, fx_, fy_, fz_, lf, ld, fi), (nB, fr, tt, ln, wi, sg, pu_), (nR, rd, rx, ry, wv, fo), (re, dg_), (nP, tp, bt, dp)), (sp_, ac_, kp, kc, kn, aw, dw, su, ss, sd))) H → va_S (gA (AX ad) s.heap.size) s.heap H locs → ∀ (ls : Array Slot), lv_has ls 4 [(1, .int (nI i)), (0, .ref (ad 4))] → W p l e ({ frames := 4, cells := 0, slots := 0, locals := 109 } : Room) s m ([.ref (ad 4)] : List Value).toArray below meth c H locs 0 0 Q (F0 m 29 ls []) := by
    intro n_29; induction n_29 with
    | zero => intro i fx_ fy_ fz_ pu_ dg_ sp_ ac_ hf_29 hi hFS H locs hP hS ls hl; exact absurd hf_29 (by omega)
    | succ n_29 ih_29 =>
      intro i fx_ fy_ fz_ pu_ dg_ sp_ ac_ hf_29 hi hFS H locs hP hS ls hl
      have hKf : frOK (1700 + 4 * i) nN (barsI ((nN, px, py, pz, fx, fy, fz, lf, ld, fi), (nB, fr, tt, ln, wi, sg, pu), (nR, rd, rx, ry, wv, fo), (re, dg), (nP, tp, bt, dp)) i) := bars_ok (G := ((nN, px, py, pz, fx, fy, fz, lf, ld, fi), (nB, fr, tt, ln, wi, sg, pu), (nR, rd, rx, ry, wv, fo), (re, dg), (nP, tp, bt, dp))) hE00 hpl00 hM i (show i ≤ nB by omega) (by omega)
      rw [← hFS] at hKf
      refine lv_iload_n hx hb dX0_comesInRound_29 rfl (lv_at hl 0 rfl) ?_
      refine lv_aload_n hx hb dX0_comesInRound_30 rfl (lv_at hl 1 rfl) ?_
      refine va_get (D := D) (ci := 0) (v := .ref (ad 2)) (C := RX0) (T := TX0) (N := 7) hx hb hts iX0_comesInRound_X0 hown hK hP 4 rfl rfl 1 (by decide) f_31 (fun _ h9 => h9) rfl dX0_comesInRound_31 ?_
      refine va_get (D := D) (ci := 1) (v := .int (nI nB)) (C := RX1) (T := TX1) (N := 7) hx hb hts iX0_comesInRound_X1 hown hK hP 2 rfl rfl 6 (by decide) f_44 (fun _ h9 => h9) rfl dX0_comesInRound_34 ?_
      refine lv_icmp_ge (tgt := 70) hx hb dX0_comesInRound_37 (by decide) (fun c_37_6 => ?_) (fun c_37_6 => ?_)
      · skip
        have c_37_6 : nB ≤ i := (nI_leI (a := nB) (b := i) (by omega) (by omega)).mp c_37_6
        have ei : i = nB := by omega
        rw [ei] at hFS
        obtain ⟨k1, k2, k3, -⟩ := hKf
        have hG : ((nN, px, py, pz, fx_, fy_, fz_, lf, ld, fi), (nB, fr, tt, ln, wi, sg, pu_), (nR, rd, rx, ry, wv, fo), ((grF fi fx_ fy_ fz_ nN), dg_), (nP, tp, bt, dp)) = forcesG ((nN, px, py, pz, fx, fy, fz, lf, ld, fi), (nB, fr, tt, ln, wi, sg, pu), (nR, rd, rx, ry, wv, fo), (re, dg), (nP, tp, bt, dp)) := by show _ = balG ((nN, px, py, pz, fx, fy, fz, lf, ld, fi), (nB, fr, tt, ln, wi, sg, pu), (nR, rd, rx, ry, wv, fo), (re, dg), (nP, tp, bt, dp)) (barsI ((nN, px, py, pz, fx, fy, fz, lf, ld, fi), (nB, fr, tt, ln, wi, sg, pu), (nR, rd, rx, ry, wv, fo), (re, dg), (nP, tp, bt, dp)) nB); rw [← hFS]; rfl
        refine lv_aload_n hx hb dX0_comesInRound_70 rfl (lv_at hl 1 rfl) ?_
        refine lv_aload_n hx hb dX0_comesInRound_71 rfl (lv_at hl 1 rfl) ?_
        refine va_get (D := D) (ci := 0) (v := .ref (ad 1)) (C := RX0) (T := TX0) (N := 7) hx hb hts iX0_comesInRound_X0 hown hK hP 4 rfl rfl 0 (by decide) f_27 (fun _ h9 => h9) rfl dX0_comesInRound_72 ?_
        refine gcd (va_runV (As := []) (rest := [.ref (ad 4)]) ⟨hx, hb, hml, hown, hts⟩ (kX3_greatestForce l D cs ad hd H.size (((nN, px, py, pz, fx_, fy_, fz_, lf, ld, fi), (nB, fr, tt, ln, wi, sg, pu_), (nR, rd, rx, ry, wv, fo), (re, dg_), (nP, tp, bt, dp)), (sp_, ac_, kp, kc, kn, aw, dw, su, ss, sd)) hnN) (cwV 0 hts gX0_comesInRound_X3_greatestForce rfl rfl rfl (by decide +kernel) ⟨Nat.le_of_ble_eq_true rfl, Nat.le_of_ble_eq_true rfl⟩) (gPreV (EX_bl) (va_recv hK hP (ci := 3) (q0 := 1) rfl rfl) hP (fun U _ hW => EX_warm hW hE)) rfl rfl hl.1 rfl (lv_room (Nat.le_of_ble_eq_true rfl)) dX0_comesInRound_75 ⟨Nat.zero_le _, Nat.zero_le _⟩) hS (fun r_ u_ H locs hw hP hS => ?_)
        obtain ⟨rfl, hw⟩ := hw
        have hw : r_ = grF fi fx_ fy_ fz_ nN := hw
        subst hw
        refine xput (D := D) (ci := 0) (v := .double (grF fi fx_ fy_ fz_ nN)) (ty := .double) (C := RX0) (T := TX0) (N := 7) hx hb hts iX0_comesInRound_X0 tyX0 tyX0_ok nmX0 hown hK hD hP hS 4 (((nN, px, py, pz, fx_, fy_, fz_, lf, ld, fi), (nB, fr, tt, ln, wi, sg, pu_), (nR, rd, rx, ry, wv, fo), ((grF fi fx_ fy_ fz_ nN), dg_), (nP, tp, bt, dp)), (sp_, ac_, kp, kc, kn, aw, dw, su, ss, sd)) rfl rfl 4 (by decide) f_17 (fun _ h9 => h9) rfl (by decide +kernel) rfl rfl (Nat.le_of_ble_eq_true rfl) rfl dX0_comesInRound_78 (fun H locs hP hS => ?_)
        refine lv_aload_n hx hb dX0_comesInRound_81 rfl (lv_at hl 1 rfl) ?_
        refine va_get (D := D) (ci := 0) (v := .double ((grF fi fx_ fy_ fz_ nN))) (C := RX0) (T := TX0) (N := 7) hx hb hts iX0_comesInRound_X0 hown hK hP 4 rfl rfl 4 (by decide) f_17 (fun _ h9 => h9) rfl dX0_comesInRound_82 ?_
        refine lv_dconst1 hx hb dX0_comesInRound_85 ?_
        refine xc_glt (tgt := 92) hx hb dX0_comesInRound_86 dX0_comesInRound_87 (by decide) (fun c_86_7 => ?_) (fun c_86_7 => ?_)
        · skip
          refine lv_aload_n hx hb dX0_comesInRound_92 rfl (lv_at hl 1 rfl) ?_
          refine va_get (D := D) (ci := 0) (v := .ref (ad 1)) (C := RX0) (T := TX0) (N := 7) hx hb hts iX0_comesInRound_X0 hown hK hP 4 rfl rfl 0 (by decide) f_27 (fun _ h9 => h9) rfl dX0_comesInRound_93 ?_
          refine gcv (va_runV (As := []) (rest := []) ⟨hx, hb, hml, hown, hts⟩ (kX3_giveWay l D cs ad hd H.size (((nN, px, py, pz, fx_, fy_, fz_, lf, ld, fi), (nB, fr, tt, ln, wi, sg, pu_), (nR, rd, rx, ry, wv, fo), ((grF fi fx_ fy_ fz_ nN), dg_), (nP, tp, bt, dp)), (sp_, ac_, kp, kc, kn, aw, dw, su, ss, sd)) hnN M_ (by omega) hpl00 (1700 + 4 * i) (by omega) (fun j hj => (k1 j hj).1) (fun j hj => (k2 j hj).1) (fun j hj => (k3 j hj).1)) (cwV 0 hts gX0_comesInRound_X3_giveWay rfl rfl rfl (by decide +kernel) ⟨Nat.le_of_ble_eq_true rfl, Nat.le_of_ble_eq_true rfl⟩) (gPreV (EX_bl) (va_recv hK hP (ci := 3) (q0 := 1) rfl rfl) hP (fun U _ hW => EX_warm hW hE)) rfl rfl hl.1 rfl (lv_room (Nat.le_of_ble_eq_true rfl)) dX0_comesInRound_96 ⟨Nat.zero_le _, Nat.zero_le _⟩) hS (fun u_ H locs hw hP hS => ?_)
          obtain rfl := hw
          have hP : va_P D vwCl (WX cs ad (((nN, (gwF px fx_ fi nN), (gwF py fy_ fi nN), (gwF pz fz_ fi nN), fx_, fy_, fz_, lf, ld, fi), (nB, fr, tt, ln, wi, sg, pu_), (nR, rd, rx, ry, wv, fo), ((grF fi fx_ fy_ fz_ nN), dg_), (nP, tp, bt, dp)), (sp_, ac_, kp, kc, kn, aw, dw, su, ss, sd))) H := hP
          refine lv_iconst (v := nI 0) hx hb dX0_comesInRound_99 (by decide) ?_
          exact hret hS hP dX0_comesInRound_100 (Or.inl rfl) (⟨Or.inr ⟨rfl, by unfold inBal; rw [← hG]; exact c_86_7, by show _ = moveG (forcesG ((nN, px, py, pz, fx, fy, fz, lf, ld, fi), (nB, fr, tt, ln, wi, sg, pu), (nR, rd, rx, ry, wv, fo), (re, dg), (nP, tp, bt, dp))); rw [← hG]; rfl⟩, rfl⟩)
        · skip
          refine lv_iconst (v := nI 1) hx hb dX0_comesInRound_90 (by decide) ?_
          exact hret hS hP dX0_comesInRound_91 (Or.inr rfl) (⟨Or.inl ⟨rfl, by unfold inBal; rw [← hG]; exact c_86_7, hG⟩, rfl⟩)
      · skip
        have c_37_6 : ¬ (nB ≤ i) := fun q => c_37_6 ((nI_leI (a := nB) (b := i) (by omega) (by omega)).mpr q)
        obtain ⟨ea, eb, ja, jb, jab⟩ := hbar i (by omega)
        have hln : natOK (ln i) := (hlw i (by omega)).1
        have hwi : fB 1027 (wi i) := (hlw i (by omega)).2
        have dx0 := dx_ok (hp0 _ ja) (hp0 _ jb)
        have dx1 := dx_ok (hp1 _ ja) (hp1 _ jb)
        have dx2 := dx_ok (hp2 _ ja) (hp2 _ jb)
        obtain ⟨hL, lL⟩ := len3_ok dx0 dx1 dx2
        refine lv_aload_n hx hb dX0_comesInRound_40 rfl (lv_at hl 1 rfl) ?_
        refine lv_iload_n hx hb dX0_comesInRound_41 rfl (lv_at hl 0 rfl) ?_
        refine gcd (va_runV (As := [.int (nI i)]) (rest := []) ⟨hx, hb, hml, hown, hts⟩ (kX0_measure l D cs ad hd H.size (((nN, px, py, pz, fx_, fy_, fz_, lf, ld, fi), (nB, fr, tt, ln, wi, sg, pu_), (nR, rd, rx, ry, wv, fo), (re, dg_), (nP, tp, bt, dp)), (sp_, ac_, kp, kc, kn, aw, dw, su, ss, sd)) hE00 M_ hM hpl00 i (show i < nB by omega)) (cwV 1 hts gX0_comesInRound_X0_measure rfl rfl rfl (by decide +kernel) ⟨Nat.le_of_ble_eq_true rfl, Nat.le_of_ble_eq_true rfl⟩) (gPreV (EX_bl) (va_recv hK hP (ci := 0) (q0 := 4) rfl rfl) hP (fun U _ hW => EX_warm hW hE)) rfl rfl hl.1 rfl (lv_room (Nat.le_of_ble_eq_true rfl)) dX0_comesInRound_42 ⟨Nat.zero_le _, Nat.zero_le _⟩) hS (fun r_ u_ H locs hw hP hS => ?_)
        obtain ⟨rfl, rfl⟩ := hw
        have hP : va_P D vwCl (WX cs ad (((nN, px, py, pz, fx_, fy_, fz_, lf, ld, fi), (nB, fr, tt, ln, wi, sg, pu_), (nR, rd, rx, ry, wv, fo), (re, dg_), (nP, tp, bt, dp)), ((ac3 sp_ (dxF px fr tt i) (dxF py fr tt i) (dxF pz fr tt i)), ac_, kp, kc, kn, aw, dw, su, ss, sd))) H := hP
        refine lv_dstore_n (lv' := [(2, .double (lenF px py pz fr tt i)), (1, .int (nI i)), (0, .ref (ad 4))]) hx hb dX0_comesInRound_45 rfl hl (by decide) rfl (fun ls hl => ?_)
        refine lv_aload_n hx hb dX0_comesInRound_46 rfl (lv_at hl 2 rfl) ?_
        refine lv_iload_n hx hb dX0_comesInRound_47 rfl (lv_at hl 1 rfl) ?_
        refine lv_dload_n hx hb dX0_comesInRound_48 rfl (lv_at hl 0 rfl) ?_
        refine gcv (va_runV (As := [.int (nI i), .double (lenF px py pz fr tt i)]) (rest := []) ⟨hx, hb, hml, hown, hts⟩ (kX0_tighten l D cs ad hd H.size (((nN, px, py, pz, fx_, fy_, fz_, lf, ld, fi), (nB, fr, tt, ln, wi, sg, pu_), (nR, rd, rx, ry, wv, fo), (re, dg_), (nP, tp, bt, dp)), ((ac3 sp_ (dxF px fr tt i) (dxF py fr tt i) (dxF pz fr tt i)), ac_, kp, kc, kn, aw, dw, su, ss, sd)) hE00 M_ hM hpl00 i (show i < nB by omega) (lenF px py pz fr tt i) hL lL ⟨dx0, dx1, dx2⟩ (1700 + 4 * i) (by omega) (by omega) hKf) (cwV 2 hts gX0_comesInRound_X0_tighten rfl rfl rfl (by decide +kernel) ⟨Nat.le_of_ble_eq_true rfl, Nat.le_of_ble_eq_true rfl⟩) (gPreV (EX_bl) (va_recv hK hP (ci := 0) (q0 := 4) rfl rfl) hP (fun U _ hW => EX_warm hW hE)) rfl rfl hl.1 rfl (lv_room (Nat.le_of_ble_eq_true rfl)) dX0_comesInRound_49 ⟨Nat.zero_le _, Nat.zero_le _⟩) hS (fun u_ H locs hw hP hS => ?_)
        obtain rfl := hw
        have hP : va_P D vwCl (WX cs ad (((nN, px, py, pz, ((tgS (lenF px py pz fr tt i) (dxF px fr tt i) (dxF py fr tt i) (dxF pz fr tt i) (ln i) (fN fr i) (fN tt i) i (fx_, fy_, fz_, pu_, dg_)).1), ((tgS (lenF px py pz fr tt i) (dxF px fr tt i) (dxF py fr tt i) (dxF pz fr tt i) (ln i) (fN fr i) (fN tt i) i (fx_, fy_, fz_, pu_, dg_)).2.1), ((tgS (lenF px py pz fr tt i) (dxF px fr tt i) (dxF py fr tt i) (dxF pz fr tt i) (ln i) (fN fr i) (fN tt i) i (fx_, fy_, fz_, pu_, dg_)).2.2.1), lf, ld, fi), (nB, fr, tt, ln, wi, sg, ((tgS (lenF px py pz fr tt i) (dxF px fr tt i) (dxF py fr tt i) (dxF pz fr tt i) (ln i) (fN fr i) (fN tt i) i (fx_, fy_, fz_, pu_, dg_)).2.2.2.1)), (nR, rd, rx, ry, wv, fo), (re, ((tgS (lenF px py pz fr tt i) (dxF px fr tt i) (dxF py fr tt i) (dxF pz fr tt i) (ln i) (fN fr i) (fN tt i) i (fx_, fy_, fz_, pu_, dg_)).2.2.2.2)), (nP, tp, bt, dp)), ((ac3 sp_ (dxF px fr tt i) (dxF py fr tt i) (dxF pz fr tt i)), ac_, kp, kc, kn, aw, dw, su, ss, sd))) H := hP
        have hT2 : frOK (1700 + 4 * i + 2) nN (tgS (lenF px py pz fr tt i) (dxF px fr tt i) (dxF py fr tt i) (dxF pz fr tt i) (ln i) (fN fr i) (fN tt i) i (fx_, fy_, fz_, pu_, dg_)) := tgS_ok hL lL hln dx0 dx1 dx2 ja jb jab hKf (by omega) (by omega)
        obtain ⟨⟨f1, f2, f3, f4, f5⟩, hT⟩ : ∃ F : FS, F = tgS (lenF px py pz fr tt i) (dxF px fr tt i) (dxF py fr tt i) (dxF pz fr tt i) (ln i) (fN fr i) (fN tt i) i (fx_, fy_, fz_, pu_, dg_) := ⟨_, rfl⟩
        rw [← hT] at hP
        have hP : va_P D vwCl (WX cs ad (((nN, px, py, pz, f1, f2, f3, lf, ld, fi), (nB, fr, tt, ln, wi, sg, f4), (nR, rd, rx, ry, wv, fo), (re, f5), (nP, tp, bt, dp)), ((ac3 sp_ (dxF px fr tt i) (dxF py fr tt i) (dxF pz fr tt i)), ac_, kp, kc, kn, aw, dw, su, ss, sd))) H := hP
        rw [← hT] at hT2
        refine lv_dload_n hx hb dX0_comesInRound_52 rfl (lv_at hl 0 rfl) ?_
        refine lv_dconst0 hx hb dX0_comesInRound_53 ?_
        refine xc_lgt (tgt := 64) hx hb dX0_comesInRound_54 dX0_comesInRound_55 (by decide) (fun c_54_8 => ?_) (fun c_54_8 => ?_)
        · skip
          refine lv_iinc (v := nI (i + 1)) (lv' := [(1, .int (nI (i + 1))), (2, .double (lenF px py pz fr tt i)), (0, .ref (ad 4))]) hx hb dX0_comesInRound_64 hl (k := 1) rfl (nI_add _ _) (by decide) rfl (fun ls hl => ?_)
          refine lv_goto (tgt := 29) hx hb dX0_comesInRound_67 (by decide) ?_
          exact ih_29 (i + 1) (f1) (f2) (f3) (f4) (f5) ((ac3 sp_ (dxF px fr tt i) (dxF py fr tt i) (dxF pz fr tt i))) (ac_) (by omega) (by omega) (by show _ = barS ((nN, px, py, pz, fx, fy, fz, lf, ld, fi), (nB, fr, tt, ln, wi, sg, pu), (nR, rd, rx, ry, wv, fo), (re, dg), (nP, tp, bt, dp)) i (barsI ((nN, px, py, pz, fx, fy, fz, lf, ld, fi), (nB, fr, tt, ln, wi, sg, pu), (nR, rd, rx, ry, wv, fo), (re, dg), (nP, tp, bt, dp)) i); rw [← hFS, hT]; exact (wshS_n c_54_8).symm) _ _ hP hS ls (lv_sub hl [0, 2] rfl)
        · skip
          refine lv_aload_n hx hb dX0_comesInRound_58 rfl (lv_at hl 2 rfl) ?_
          refine lv_iload_n hx hb dX0_comesInRound_59 rfl (lv_at hl 1 rfl) ?_
          refine lv_dload_n hx hb dX0_comesInRound_60 rfl (lv_at hl 0 rfl) ?_
          refine gcv (va_runV (As := [.int (nI i), .double (lenF px py pz fr tt i)]) (rest := []) ⟨hx, hb, hml, hown, hts⟩ (kX0_wash l D cs ad hd H.size (((nN, px, py, pz, f1, f2, f3, lf, ld, fi), (nB, fr, tt, ln, wi, sg, f4), (nR, rd, rx, ry, wv, fo), (re, f5), (nP, tp, bt, dp)), ((ac3 sp_ (dxF px fr tt i) (dxF py fr tt i) (dxF pz fr tt i)), ac_, kp, kc, kn, aw, dw, su, ss, sd)) hE00 M_ hM hpl00 i (show i < nB by omega) (lenF px py pz fr tt i) hL (lL c_54_8) ⟨dx0, dx1, dx2⟩ (1700 + 4 * i + 2) (by omega) (by omega) hT2) (cwV 2 hts gX0_comesInRound_X0_wash rfl rfl rfl (by decide +kernel) ⟨Nat.le_of_ble_eq_true rfl, Nat.le_of_ble_eq_true rfl⟩) (gPreV (EX_bl) (va_recv hK hP (ci := 0) (q0 := 4) rfl rfl) hP (fun U _ hW => EX_warm hW hE)) rfl rfl hl.1 rfl (lv_room (Nat.le_of_ble_eq_true rfl)) dX0_comesInRound_61 ⟨Nat.zero_le _, Nat.zero_le _⟩) hS (fun u_ H locs hw hP hS => ?_)
          obtain rfl := hw
          have hP : va_P D vwCl (WX cs ad (((nN, px, py, pz, ((wsW (qF (wi i) fo (ln i) (rootF (l2 (bX px py pz fr tt nR rd rx ry wv i) (bY px py pz fr tt nR rd rx ry wv i) (bZ px py pz fr tt nR rd rx ry wv i)))) (bX px py pz fr tt nR rd rx ry wv i) (bY px py pz fr tt nR rd rx ry wv i) (bZ px py pz fr tt nR rd rx ry wv i) (fN fr i) (fN tt i) (f1, f2, f3, f4, f5)).1), ((wsW (qF (wi i) fo (ln i) (rootF (l2 (bX px py pz fr tt nR rd rx ry wv i) (bY px py pz fr tt nR rd rx ry wv i) (bZ px py pz fr tt nR rd rx ry wv i)))) (bX px py pz fr tt nR rd rx ry wv i) (bY px py pz fr tt nR rd rx ry wv i) (bZ px py pz fr tt nR rd rx ry wv i) (fN fr i) (fN tt i) (f1, f2, f3, f4, f5)).2.1), ((wsW (qF (wi i) fo (ln i) (rootF (l2 (bX px py pz fr tt nR rd rx ry wv i) (bY px py pz fr tt nR rd rx ry wv i) (bZ px py pz fr tt nR rd rx ry wv i)))) (bX px py pz fr tt nR rd rx ry wv i) (bY px py pz fr tt nR rd rx ry wv i) (bZ px py pz fr tt nR rd rx ry wv i) (fN fr i) (fN tt i) (f1, f2, f3, f4, f5)).2.2.1), lf, ld, fi), (nB, fr, tt, ln, wi, sg, ((wsW (qF (wi i) fo (ln i) (rootF (l2 (bX px py pz fr tt nR rd rx ry wv i) (bY px py pz fr tt nR rd rx ry wv i) (bZ px py pz fr tt nR rd rx ry wv i)))) (bX px py pz fr tt nR rd rx ry wv i) (bY px py pz fr tt nR rd rx ry wv i) (bZ px py pz fr tt nR rd rx ry wv i) (fN fr i) (fN tt i) (f1, f2, f3, f4, f5)).2.2.2.1)), (nR, rd, rx, ry, wv, fo), (re, ((wsW (qF (wi i) fo (ln i) (rootF (l2 (bX px py pz fr tt nR rd rx ry wv i) (bY px py pz fr tt nR rd rx ry wv i) (bZ px py pz fr tt nR rd rx ry wv i)))) (bX px py pz fr tt nR rd rx ry wv i) (bY px py pz fr tt nR rd rx ry wv i) (bZ px py pz fr tt nR rd rx ry wv i) (fN fr i) (fN tt i) (f1, f2, f3, f4, f5)).2.2.2.2)), (nP, tp, bt, dp)), ((ac3 sp_ (dxF px fr tt i) (dxF py fr tt i) (dxF pz fr tt i)), (ac3 ac_ (bX px py pz fr tt nR rd rx ry wv i) (bY px py pz fr tt nR rd rx ry wv i) (bZ px py pz fr tt nR rd rx ry wv i)), kp, kc, kn, aw, dw, su, ss, sd))) H := hP
          obtain ⟨⟨g1, g2, g3, g4, g5⟩, hW⟩ : ∃ F : FS, F = wsW (qF (wi i) fo (ln i) (rootF (l2 (bX px py pz fr tt nR rd rx ry wv i) (bY px py pz fr tt nR rd rx ry wv i) (bZ px py pz fr tt nR rd rx ry wv i)))) (bX px py pz fr tt nR rd rx ry wv i) (bY px py pz fr tt nR rd rx ry wv i) (bZ px py pz fr tt nR rd rx ry wv i) (fN fr i) (fN tt i) (f1, f2, f3, f4, f5) := ⟨_, rfl⟩
          rw [← hW] at hP
          have hP : va_P D vwCl (WX cs ad (((nN, px, py, pz, g1, g2, g3, lf, ld, fi), (nB, fr, tt, ln, wi, sg, g4), (nR, rd, rx, ry, wv, fo), (re, g5), (nP, tp, bt, dp)), ((ac3 sp_ (dxF px fr tt i) (dxF py fr tt i) (dxF pz fr tt i)), (ac3 ac_ (bX px py pz fr tt nR rd rx ry wv i) (bY px py pz fr tt nR rd rx ry wv i) (bZ px py pz fr tt nR rd rx ry wv i)), kp, kc, kn, aw, dw, su, ss, sd))) H := hP
          refine lv_iinc (v := nI (i + 1)) (lv' := [(1, .int (nI (i + 1))), (2, .double (lenF px py pz fr tt i)), (0, .ref (ad 4))]) hx hb dX0_comesInRound_64 hl (k := 1) rfl (nI_add _ _) (by decide) rfl (fun ls hl => ?_)
          refine lv_goto (tgt := 29) hx hb dX0_comesInRound_67 (by decide) ?_
          exact ih_29 (i + 1) (g1) (g2) (g3) (g4) (g5) ((ac3 sp_ (dxF px fr tt i) (dxF py fr tt i) (dxF pz fr tt i))) ((ac3 ac_ (bX px py pz fr tt nR rd rx ry wv i) (bY px py pz fr tt nR rd rx ry wv i) (bZ px py pz fr tt nR rd rx ry wv i))) (by omega) (by omega) (by show _ = barS ((nN, px, py, pz, fx, fy, fz, lf, ld, fi), (nB, fr, tt, ln, wi, sg, pu), (nR, rd, rx, ry, wv, fo), (re, dg), (nP, tp, bt, dp)) i (barsI ((nN, px, py, pz, fx, fy, fz, lf, ld, fi), (nB, fr, tt, ln, wi, sg, pu), (nR, rd, rx, ry, wv, fo), (re, dg), (nP, tp, bt, dp)) i); rw [← hFS, hW, hT]; exact (wshS_p c_54_8).symm) _ _ hP hS ls (lv_sub hl [0, 2] rfl)
  exact L_29_5 (nB + 1) (0) (((st0 fx nN))) (((st0 fy nN))) (((stz fz ld lf nN))) (pu) ((vf_upd (vf_upd (vf_upd dg 0 FP.dconst0) 1 FP.dconst0) 2 FP.dconst0)) (sp) (ac) (by omega) (by omega) rfl _ _ hP hS ls (lv_sub hl [0, 1] rfl)
