/-! a round, by the class -/
def waS (rd rx ry pz : DF) (nR : Nat) (wv w fo n : UInt64) (sp : DF) (L : UInt64) (a b : Nat) (F : FS) : FS := wsW (qF w fo n (rootF (l2 (nX rd rx ry pz nR wv (sp 0) (sp 1) L a b) (nY rd rx ry pz nR wv (sp 0) (sp 1) L a b) (nZ rd rx ry pz nR wv (sp 0) (sp 1) (sp 2) L a b)))) (nX rd rx ry pz nR wv (sp 0) (sp 1) L a b) (nY rd rx ry pz nR wv (sp 0) (sp 1) L a b) (nZ rd rx ry pz nR wv (sp 0) (sp 1) (sp 2) L a b) a b F
theorem iX5_speedOfRows_X5 : ∀ w ∈ u_ws RX5 TX5 6, w ∈ wsX5_speedOfRows := by decide +kernel
set_option maxHeartbeats 4000000 in
set_option maxRecDepth 100000 in
theorem kX5_speedOfRows_19 (l : Launch) (D : va_G) (cs : Nat → ClassId) (ad : Nat → Nat) (hd : distX ad) (sz : Nat) (S : XS) (hnR : S.1.2.2.1.1 ≤ 10) (hr : rowsOK (S.1.2.2.1.1) (S.1.2.2.1.2.1) (S.1.2.2.1.2.2.1) (S.1.2.2.1.2.2.2.1)) (d : UInt64) (hd_ : fB 1042 d) (ci : Nat) (hc : ci ≤ S.1.2.2.1.1) : Met l yX5_speedOfRows wsX5_speedOfRows ({ frames := 0, cells := 0, slots := 0, locals := 0 } : Room) (gP D (WX cs ad) (EX D cs) S sz ([.ref (ad 3), .ref (ad 19), .double (d), .int (rwF ci)] : List Value)) (va_Qd (fun r u => u = S ∧ r = spB (S.1.2.2.1.2.1) (S.1.2.2.1.2.2.1) (S.1.2.2.1.1) d ci) (gB D (WX cs ad)) (gA (AX ad) sz)) 0 0 (gA (AX ad) sz) := by
  obtain ⟨⟨⟨nN, px, py, pz, fx, fy, fz, lf, ld, fi⟩, ⟨nB, fr, tt, ln, wi, sg, pu⟩, ⟨nR, rd, rx, ry, wv, fo⟩, ⟨re, dg⟩, ⟨nP, tp, bt, dp⟩⟩, ⟨sp, ac, kp, kc, kn, aw, dw, su, ss, sd⟩⟩ := S
  have hnR : nR ≤ 10 := hnR
  have hr : rowsOK nR rd rx ry := hr
  have hc : ci ≤ nR := hc
  refine gMd (cc := cX5_speedOfRows) (maxL := 7) (plainFor_of_name (by decide)) rfl (Nat.le_of_ble_eq_true rfl) ?_
  intro p e s m below meth c Q hx hb hts hown hml hsz hE hret H locs hP hS ls hl
  subst hsz
  have hown : s.vm.findClass RX5 = some m.cls := hown
  have hK : va_K D vwCl (tysX cs) s := hE.1
  have hD : ∀ u, va_D (gA (AX ad) s.heap.size) (WX cs ad u) := fun u => WX_D hd u
  have hl : lv_has ls 7 [(0, .ref (ad 3)), (1, .ref (ad 19)), (2, .double (d)), (4, .int (rwF ci))] := hl
  have f_9 := hts (.fieldLink RX5 9 "NetShapes$Water" "depths" "[D") (by decide +kernel)
  have f_21 := hts (.fieldLink RX5 21 "NetShapes$Water" "count" "I") (by decide +kernel)
  rcases ci with _ | k
  · skip
    have hl : lv_has ls 7 [(0, .ref (ad 3)), (1, .ref (ad 19)), (2, .double (d)), (4, .int ((-1 : Int32)))] := hl
    refine lv_aload_n hx hb dX5_speedOfRows_0 rfl (lv_at hl 0 rfl) ?_
    refine va_get (D := D) (ci := 5) (v := .int (nI nR)) (C := RX5) (T := TX5) (N := 6) hx hb hts iX5_speedOfRows_X5 hown hK hP 3 rfl rfl 3 (by decide) f_21 (fun _ h9 => h9) rfl dX5_speedOfRows_1 ?_
    refine lv_if_ne (tgt := 9) hx hb dX5_speedOfRows_4 (by decide) (fun c_4_1 => ?_) (fun c_4_1 => ?_)
    · skip
      have c_4_1 : ¬ (nR = 0) := fun q => c_4_1 ((nI_eq (a := nR) (b := 0) (by omega) (by omega)).mpr q)
      refine lv_iload hx hb dX5_speedOfRows_9 (lv_at hl 3 rfl) ?_
      refine lv_if_ge (tgt := 18) hx hb dX5_speedOfRows_11 (by decide) (fun c_11_2 => absurd c_11_2 (by decide)) (fun _ => ?_)
      refine lv_aload_n hx hb dX5_speedOfRows_14 rfl (lv_at hl 1 rfl) ?_
      refine lv_iconst (v := nI 0) hx hb dX5_speedOfRows_15 (by decide) ?_
      refine xdl hx hb hK hP 19 0 rfl rfl (j := 0) (by decide) (by decide) dX5_speedOfRows_16 ?_
      exact hret hS hP dX5_speedOfRows_17 (⟨rfl, (spB_1 c_4_1).symm⟩)
    · skip
      have c_4_1 : nR = 0 := (nI_eq (a := nR) (b := 0) (by omega) (by omega)).mp c_4_1
      refine lv_dconst0 hx hb dX5_speedOfRows_7 ?_
      exact hret hS hP dX5_speedOfRows_8 (⟨rfl, (spB_0 c_4_1).symm⟩)
  · skip
    have hl : lv_has ls 7 [(0, .ref (ad 3)), (1, .ref (ad 19)), (2, .double (d)), (4, .int (nI k))] := hl
    refine lv_aload_n hx hb dX5_speedOfRows_0 rfl (lv_at hl 0 rfl) ?_
    refine va_get (D := D) (ci := 5) (v := .int (nI nR)) (C := RX5) (T := TX5) (N := 6) hx hb hts iX5_speedOfRows_X5 hown hK hP 3 rfl rfl 3 (by decide) f_21 (fun _ h9 => h9) rfl dX5_speedOfRows_1 ?_
    refine lv_if_ne (tgt := 9) hx hb dX5_speedOfRows_4 (by decide) (fun c_4_3 => ?_) (fun c_4_3 => ?_)
    · skip
      have c_4_3 : ¬ (nR = 0) := fun q => c_4_3 ((nI_eq (a := nR) (b := 0) (by omega) (by omega)).mpr q)
      refine lv_iload hx hb dX5_speedOfRows_9 (lv_at hl 3 rfl) ?_
      refine lv_if_ge (tgt := 18) hx hb dX5_speedOfRows_11 (by decide) (fun _ => ?_) (fun c9 => absurd (nI_pos' (n := k) (by omega)) c9)
      refine lv_iload hx hb dX5_speedOfRows_18 (lv_at hl 3 rfl) ?_
      refine lv_iconst (v := nI 1) hx hb dX5_speedOfRows_20 (by decide) ?_
      refine xia hx hb (k + 1) dX5_speedOfRows_21 rfl ?_
      refine lv_aload_n hx hb dX5_speedOfRows_22 rfl (lv_at hl 0 rfl) ?_
      refine va_get (D := D) (ci := 5) (v := .int (nI nR)) (C := RX5) (T := TX5) (N := 6) hx hb hts iX5_speedOfRows_X5 hown hK hP 3 rfl rfl 3 (by decide) f_21 (fun _ h9 => h9) rfl dX5_speedOfRows_23 ?_
      refine lv_icmp_lt (tgt := 38) hx hb dX5_speedOfRows_26 (by decide) (fun c_26_5 => ?_) (fun c_26_5 => ?_)
      · skip
        have c_26_5 : k + 1 < nR := (nI_ltI (a := k + 1) (b := nR) (by omega) (by omega)).mp c_26_5
        refine lv_dload_n hx hb dX5_speedOfRows_38 rfl (lv_at hl 2 rfl) ?_
        refine lv_aload_n hx hb dX5_speedOfRows_39 rfl (lv_at hl 0 rfl) ?_
        refine va_get (D := D) (ci := 5) (v := .ref (ad 18)) (C := RX5) (T := TX5) (N := 6) hx hb hts iX5_speedOfRows_X5 hown hK hP 3 rfl rfl 0 (by decide) f_9 (fun _ h9 => h9) rfl dX5_speedOfRows_40 ?_
        refine lv_iload hx hb dX5_speedOfRows_43 (lv_at hl 3 rfl) ?_
        refine xdl hx hb hK hP 18 0 rfl rfl (j := k) (by decide) (by omega) dX5_speedOfRows_45 ?_
        have h_7 : fB (1044) (FP.dsub (d) (rd k)) := fB_sub (M := 1042) hd_ (hr.2 _ (by omega)).2.1 (by omega) (by omega) (by omega)
        refine lv_dsub hx hb dX5_speedOfRows_46 (fB_ne h_7 (by omega)) ?_
        refine lv_aload_n hx hb dX5_speedOfRows_47 rfl (lv_at hl 0 rfl) ?_
        refine va_get (D := D) (ci := 5) (v := .ref (ad 18)) (C := RX5) (T := TX5) (N := 6) hx hb hts iX5_speedOfRows_X5 hown hK hP 3 rfl rfl 0 (by decide) f_9 (fun _ h9 => h9) rfl dX5_speedOfRows_48 ?_
        refine lv_iload hx hb dX5_speedOfRows_51 (lv_at hl 3 rfl) ?_
        refine lv_iconst (v := nI 1) hx hb dX5_speedOfRows_53 (by decide) ?_
        refine xia hx hb (k + 1) dX5_speedOfRows_54 rfl ?_
        refine xdl hx hb hK hP 18 0 rfl rfl (j := k + 1) (by decide) (by omega) dX5_speedOfRows_55 ?_
        refine lv_aload_n hx hb dX5_speedOfRows_56 rfl (lv_at hl 0 rfl) ?_
        refine va_get (D := D) (ci := 5) (v := .ref (ad 18)) (C := RX5) (T := TX5) (N := 6) hx hb hts iX5_speedOfRows_X5 hown hK hP 3 rfl rfl 0 (by decide) f_9 (fun _ h9 => h9) rfl dX5_speedOfRows_57 ?_
        refine lv_iload hx hb dX5_speedOfRows_60 (lv_at hl 3 rfl) ?_
        refine xdl hx hb hK hP 18 0 rfl rfl (j := k) (by decide) (by omega) dX5_speedOfRows_62 ?_
        have h_9 : fB (1035) (FP.dsub (rd (k + 1)) (rd k)) := fB_sub (M := 1033) (hr.2 _ (by omega)).2.1 (hr.2 _ (by omega)).2.1 (by omega) (by omega) (by omega)
        refine lv_dsub hx hb dX5_speedOfRows_63 (fB_ne h_9 (by omega)) ?_
        have h_11 : fB (1048) (FP.ddiv (FP.dsub (d) (rd k)) (FP.dsub (rd (k + 1)) (rd k))) := fB_div h_7 (rows_apart hr (k := k) (by omega)).2 (fB_mono h_9 (by omega)) (by omega) (by omega) (by omega)
        refine lv_ddiv hx hb dX5_speedOfRows_64 (fB_ne h_11 (by omega)) ?_
        refine lv_dstore (lv' := [(5, .double (FP.ddiv (FP.dsub (d) (rd k)) (FP.dsub (rd (k + 1)) (rd k)))), (0, .ref (ad 3)), (1, .ref (ad 19)), (2, .double (d)), (4, .int (nI k))]) hx hb dX5_speedOfRows_65 hl (by decide) rfl (fun ls hl => ?_)
        refine lv_aload_n hx hb dX5_speedOfRows_67 rfl (lv_at hl 2 rfl) ?_
        refine lv_iload hx hb dX5_speedOfRows_68 (lv_at hl 4 rfl) ?_
        refine xdl hx hb hK hP 19 0 rfl rfl (j := k) (by decide) (by omega) dX5_speedOfRows_70 ?_
        refine lv_aload_n hx hb dX5_speedOfRows_71 rfl (lv_at hl 2 rfl) ?_
        refine lv_iload hx hb dX5_speedOfRows_72 (lv_at hl 4 rfl) ?_
        refine lv_iconst (v := nI 1) hx hb dX5_speedOfRows_74 (by decide) ?_
        refine xia hx hb (k + 1) dX5_speedOfRows_75 rfl ?_
        refine xdl hx hb hK hP 19 0 rfl rfl (j := k + 1) (by decide) (by omega) dX5_speedOfRows_76 ?_
        refine lv_aload_n hx hb dX5_speedOfRows_77 rfl (lv_at hl 2 rfl) ?_
        refine lv_iload hx hb dX5_speedOfRows_78 (lv_at hl 4 rfl) ?_
        refine xdl hx hb hK hP 19 0 rfl rfl (j := k) (by decide) (by omega) dX5_speedOfRows_80 ?_
        have h_13 : fB (1032) (FP.dsub (rx (k + 1)) (rx k)) := fB_sub (M := 1030) (hr.2 _ (by omega)).2.2.1 (hr.2 _ (by omega)).2.2.1 (by omega) (by omega) (by omega)
        refine lv_dsub hx hb dX5_speedOfRows_81 (fB_ne h_13 (by omega)) ?_
        refine lv_dload hx hb dX5_speedOfRows_82 (lv_at hl 0 rfl) ?_
        have h_15 : fB (1058) (FP.dmul (FP.dsub (rx (k + 1)) (rx k)) (FP.ddiv (FP.dsub (d) (rd k)) (FP.dsub (rd (k + 1)) (rd k)))) := fB_mul h_13 h_11 (by omega) (by omega) (by omega)
        refine lv_dmul hx hb dX5_speedOfRows_84 (fB_ne h_15 (by omega)) ?_
        have h_17 : fB (1060) (FP.dadd (rx k) (FP.dmul (FP.dsub (rx (k + 1)) (rx k)) (FP.ddiv (FP.dsub (d) (rd k)) (FP.dsub (rd (k + 1)) (rd k))))) := fB_add (M := 1058) (hr.2 _ (by omega)).2.2.1 h_15 (by omega) (by omega) (by omega)
        refine lv_dadd hx hb dX5_speedOfRows_85 (fB_ne h_17 (by omega)) ?_
        exact hret hS hP dX5_speedOfRows_86 (⟨rfl, (spB_3 (k := k) (Nat.not_le.mpr c_26_5)).symm⟩)
      · skip
        have c_26_5 : ¬ (k + 1 < nR) := fun q => c_26_5 ((nI_ltI (a := k + 1) (b := nR) (by omega) (by omega)).mpr q)
        refine lv_aload_n hx hb dX5_speedOfRows_29 rfl (lv_at hl 1 rfl) ?_
        refine lv_aload_n hx hb dX5_speedOfRows_30 rfl (lv_at hl 0 rfl) ?_
        refine va_get (D := D) (ci := 5) (v := .int (nI nR)) (C := RX5) (T := TX5) (N := 6) hx hb hts iX5_speedOfRows_X5 hown hK hP 3 rfl rfl 3 (by decide) f_21 (fun _ h9 => h9) rfl dX5_speedOfRows_31 ?_
        refine lv_iconst (v := nI 1) hx hb dX5_speedOfRows_34 (by decide) ?_
        refine xib hx hb (nR - 1) dX5_speedOfRows_35 (by omega) ?_
        refine xdl hx hb hK hP 19 0 rfl rfl (j := nR - 1) (by decide) (by omega) dX5_speedOfRows_36 ?_
        exact hret hS hP dX5_speedOfRows_37 (⟨rfl, (spB_2 (k := k) c_4_3 (by omega)).symm⟩)
    · skip
      have c_4_3 : nR = 0 := (nI_eq (a := nR) (b := 0) (by omega) (by omega)).mp c_4_3
      refine lv_dconst0 hx hb dX5_speedOfRows_7 ?_
      exact hret hS hP dX5_speedOfRows_8 (⟨rfl, (spB_0 c_4_3).symm⟩)
set_option maxHeartbeats 4000000 in
set_option maxRecDepth 100000 in
theorem kX5_speedOfRows_20 (l : Launch) (D : va_G) (cs : Nat → ClassId) (ad : Nat → Nat) (hd : distX ad) (sz : Nat) (S : XS) (hnR : S.1.2.2.1.1 ≤ 10) (hr : rowsOK (S.1.2.2.1.1) (S.1.2.2.1.2.1) (S.1.2.2.1.2.2.1) (S.1.2.2.1.2.2.2.1)) (d : UInt64) (hd_ : fB 1042 d) (ci : Nat) (hc : ci ≤ S.1.2.2.1.1) : Met l yX5_speedOfRows wsX5_speedOfRows ({ frames := 0, cells := 0, slots := 0, locals := 0 } : Room) (gP D (WX cs ad) (EX D cs) S sz ([.ref (ad 3), .ref (ad 20), .double (d), .int (rwF ci)] : List Value)) (va_Qd (fun r u => u = S ∧ r = spB (S.1.2.2.1.2.1) (S.1.2.2.1.2.2.2.1) (S.1.2.2.1.1) d ci) (gB D (WX cs ad)) (gA (AX ad) sz)) 0 0 (gA (AX ad) sz) := by
  obtain ⟨⟨⟨nN, px, py, pz, fx, fy, fz, lf, ld, fi⟩, ⟨nB, fr, tt, ln, wi, sg, pu⟩, ⟨nR, rd, rx, ry, wv, fo⟩, ⟨re, dg⟩, ⟨nP, tp, bt, dp⟩⟩, ⟨sp, ac, kp, kc, kn, aw, dw, su, ss, sd⟩⟩ := S
  have hnR : nR ≤ 10 := hnR
  have hr : rowsOK nR rd rx ry := hr
  have hc : ci ≤ nR := hc
  refine gMd (cc := cX5_speedOfRows) (maxL := 7) (plainFor_of_name (by decide)) rfl (Nat.le_of_ble_eq_true rfl) ?_
  intro p e s m below meth c Q hx hb hts hown hml hsz hE hret H locs hP hS ls hl
  subst hsz
  have hown : s.vm.findClass RX5 = some m.cls := hown
  have hK : va_K D vwCl (tysX cs) s := hE.1
  have hD : ∀ u, va_D (gA (AX ad) s.heap.size) (WX cs ad u) := fun u => WX_D hd u
  have hl : lv_has ls 7 [(0, .ref (ad 3)), (1, .ref (ad 20)), (2, .double (d)), (4, .int (rwF ci))] := hl
  have f_9 := hts (.fieldLink RX5 9 "NetShapes$Water" "depths" "[D") (by decide +kernel)
  have f_21 := hts (.fieldLink RX5 21 "NetShapes$Water" "count" "I") (by decide +kernel)
  rcases ci with _ | k
  · skip
    have hl : lv_has ls 7 [(0, .ref (ad 3)), (1, .ref (ad 20)), (2, .double (d)), (4, .int ((-1 : Int32)))] := hl
    refine lv_aload_n hx hb dX5_speedOfRows_0 rfl (lv_at hl 0 rfl) ?_
    refine va_get (D := D) (ci := 5) (v := .int (nI nR)) (C := RX5) (T := TX5) (N := 6) hx hb hts iX5_speedOfRows_X5 hown hK hP 3 rfl rfl 3 (by decide) f_21 (fun _ h9 => h9) rfl dX5_speedOfRows_1 ?_
    refine lv_if_ne (tgt := 9) hx hb dX5_speedOfRows_4 (by decide) (fun c_4_1 => ?_) (fun c_4_1 => ?_)
    · skip
      have c_4_1 : ¬ (nR = 0) := fun q => c_4_1 ((nI_eq (a := nR) (b := 0) (by omega) (by omega)).mpr q)
      refine lv_iload hx hb dX5_speedOfRows_9 (lv_at hl 3 rfl) ?_
      refine lv_if_ge (tgt := 18) hx hb dX5_speedOfRows_11 (by decide) (fun c_11_2 => absurd c_11_2 (by decide)) (fun _ => ?_)
      refine lv_aload_n hx hb dX5_speedOfRows_14 rfl (lv_at hl 1 rfl) ?_
      refine lv_iconst (v := nI 0) hx hb dX5_speedOfRows_15 (by decide) ?_
      refine xdl hx hb hK hP 20 0 rfl rfl (j := 0) (by decide) (by decide) dX5_speedOfRows_16 ?_
      exact hret hS hP dX5_speedOfRows_17 (⟨rfl, (spB_1 c_4_1).symm⟩)
    · skip
      have c_4_1 : nR = 0 := (nI_eq (a := nR) (b := 0) (by omega) (by omega)).mp c_4_1
      refine lv_dconst0 hx hb dX5_speedOfRows_7 ?_
      exact hret hS hP dX5_speedOfRows_8 (⟨rfl, (spB_0 c_4_1).symm⟩)
  · skip
    have hl : lv_has ls 7 [(0, .ref (ad 3)), (1, .ref (ad 20)), (2, .double (d)), (4, .int (nI k))] := hl
    refine lv_aload_n hx hb dX5_speedOfRows_0 rfl (lv_at hl 0 rfl) ?_
    refine va_get (D := D) (ci := 5) (v := .int (nI nR)) (C := RX5) (T := TX5) (N := 6) hx hb hts iX5_speedOfRows_X5 hown hK hP 3 rfl rfl 3 (by decide) f_21 (fun _ h9 => h9) rfl dX5_speedOfRows_1 ?_
    refine lv_if_ne (tgt := 9) hx hb dX5_speedOfRows_4 (by decide) (fun c_4_3 => ?_) (fun c_4_3 => ?_)
    · skip
      have c_4_3 : ¬ (nR = 0) := fun q => c_4_3 ((nI_eq (a := nR) (b := 0) (by omega) (by omega)).mpr q)
      refine lv_iload hx hb dX5_speedOfRows_9 (lv_at hl 3 rfl) ?_
      refine lv_if_ge (tgt := 18) hx hb dX5_speedOfRows_11 (by decide) (fun _ => ?_) (fun c9 => absurd (nI_pos' (n := k) (by omega)) c9)
      refine lv_iload hx hb dX5_speedOfRows_18 (lv_at hl 3 rfl) ?_
      refine lv_iconst (v := nI 1) hx hb dX5_speedOfRows_20 (by decide) ?_
      refine xia hx hb (k + 1) dX5_speedOfRows_21 rfl ?_
      refine lv_aload_n hx hb dX5_speedOfRows_22 rfl (lv_at hl 0 rfl) ?_
      refine va_get (D := D) (ci := 5) (v := .int (nI nR)) (C := RX5) (T := TX5) (N := 6) hx hb hts iX5_speedOfRows_X5 hown hK hP 3 rfl rfl 3 (by decide) f_21 (fun _ h9 => h9) rfl dX5_speedOfRows_23 ?_
      refine lv_icmp_lt (tgt := 38) hx hb dX5_speedOfRows_26 (by decide) (fun c_26_5 => ?_) (fun c_26_5 => ?_)
      · skip
        have c_26_5 : k + 1 < nR := (nI_ltI (a := k + 1) (b := nR) (by omega) (by omega)).mp c_26_5
        refine lv_dload_n hx hb dX5_speedOfRows_38 rfl (lv_at hl 2 rfl) ?_
        refine lv_aload_n hx hb dX5_speedOfRows_39 rfl (lv_at hl 0 rfl) ?_
        refine va_get (D := D) (ci := 5) (v := .ref (ad 18)) (C := RX5) (T := TX5) (N := 6) hx hb hts iX5_speedOfRows_X5 hown hK hP 3 rfl rfl 0 (by decide) f_9 (fun _ h9 => h9) rfl dX5_speedOfRows_40 ?_
        refine lv_iload hx hb dX5_speedOfRows_43 (lv_at hl 3 rfl) ?_
        refine xdl hx hb hK hP 18 0 rfl rfl (j := k) (by decide) (by omega) dX5_speedOfRows_45 ?_
        have h_7 : fB (1044) (FP.dsub (d) (rd k)) := fB_sub (M := 1042) hd_ (hr.2 _ (by omega)).2.1 (by omega) (by omega) (by omega)
        refine lv_dsub hx hb dX5_speedOfRows_46 (fB_ne h_7 (by omega)) ?_
        refine lv_aload_n hx hb dX5_speedOfRows_47 rfl (lv_at hl 0 rfl) ?_
        refine va_get (D := D) (ci := 5) (v := .ref (ad 18)) (C := RX5) (T := TX5) (N := 6) hx hb hts iX5_speedOfRows_X5 hown hK hP 3 rfl rfl 0 (by decide) f_9 (fun _ h9 => h9) rfl dX5_speedOfRows_48 ?_
        refine lv_iload hx hb dX5_speedOfRows_51 (lv_at hl 3 rfl) ?_
        refine lv_iconst (v := nI 1) hx hb dX5_speedOfRows_53 (by decide) ?_
        refine xia hx hb (k + 1) dX5_speedOfRows_54 rfl ?_
        refine xdl hx hb hK hP 18 0 rfl rfl (j := k + 1) (by decide) (by omega) dX5_speedOfRows_55 ?_
        refine lv_aload_n hx hb dX5_speedOfRows_56 rfl (lv_at hl 0 rfl) ?_
        refine va_get (D := D) (ci := 5) (v := .ref (ad 18)) (C := RX5) (T := TX5) (N := 6) hx hb hts iX5_speedOfRows_X5 hown hK hP 3 rfl rfl 0 (by decide) f_9 (fun _ h9 => h9) rfl dX5_speedOfRows_57 ?_
        refine lv_iload hx hb dX5_speedOfRows_60 (lv_at hl 3 rfl) ?_
        refine xdl hx hb hK hP 18 0 rfl rfl (j := k) (by decide) (by omega) dX5_speedOfRows_62 ?_
        have h_9 : fB (1035) (FP.dsub (rd (k + 1)) (rd k)) := fB_sub (M := 1033) (hr.2 _ (by omega)).2.1 (hr.2 _ (by omega)).2.1 (by omega) (by omega) (by omega)
        refine lv_dsub hx hb dX5_speedOfRows_63 (fB_ne h_9 (by omega)) ?_
        have h_11 : fB (1048) (FP.ddiv (FP.dsub (d) (rd k)) (FP.dsub (rd (k + 1)) (rd k))) := fB_div h_7 (rows_apart hr (k := k) (by omega)).2 (fB_mono h_9 (by omega)) (by omega) (by omega) (by omega)
        refine lv_ddiv hx hb dX5_speedOfRows_64 (fB_ne h_11 (by omega)) ?_
        refine lv_dstore (lv' := [(5, .double (FP.ddiv (FP.dsub (d) (rd k)) (FP.dsub (rd (k + 1)) (rd k)))), (0, .ref (ad 3)), (1, .ref (ad 20)), (2, .double (d)), (4, .int (nI k))]) hx hb dX5_speedOfRows_65 hl (by decide) rfl (fun ls hl => ?_)
        refine lv_aload_n hx hb dX5_speedOfRows_67 rfl (lv_at hl 2 rfl) ?_
        refine lv_iload hx hb dX5_speedOfRows_68 (lv_at hl 4 rfl) ?_
        refine xdl hx hb hK hP 20 0 rfl rfl (j := k) (by decide) (by omega) dX5_speedOfRows_70 ?_
        refine lv_aload_n hx hb dX5_speedOfRows_71 rfl (lv_at hl 2 rfl) ?_
        refine lv_iload hx hb dX5_speedOfRows_72 (lv_at hl 4 rfl) ?_
        refine lv_iconst (v := nI 1) hx hb dX5_speedOfRows_74 (by decide) ?_
        refine xia hx hb (k + 1) dX5_speedOfRows_75 rfl ?_
        refine xdl hx hb hK hP 20 0 rfl rfl (j := k + 1) (by decide) (by omega) dX5_speedOfRows_76 ?_
        refine lv_aload_n hx hb dX5_speedOfRows_77 rfl (lv_at hl 2 rfl) ?_
        refine lv_iload hx hb dX5_speedOfRows_78 (lv_at hl 4 rfl) ?_
        refine xdl hx hb hK hP 20 0 rfl rfl (j := k) (by decide) (by omega) dX5_speedOfRows_80 ?_
        have h_13 : fB (1032) (FP.dsub (ry (k + 1)) (ry k)) := fB_sub (M := 1030) (hr.2 _ (by omega)).2.2.2 (hr.2 _ (by omega)).2.2.2 (by omega) (by omega) (by omega)
        refine lv_dsub hx hb dX5_speedOfRows_81 (fB_ne h_13 (by omega)) ?_
        refine lv_dload hx hb dX5_speedOfRows_82 (lv_at hl 0 rfl) ?_
        have h_15 : fB (1058) (FP.dmul (FP.dsub (ry (k + 1)) (ry k)) (FP.ddiv (FP.dsub (d) (rd k)) (FP.dsub (rd (k + 1)) (rd k)))) := fB_mul h_13 h_11 (by omega) (by omega) (by omega)
        refine lv_dmul hx hb dX5_speedOfRows_84 (fB_ne h_15 (by omega)) ?_
        have h_17 : fB (1060) (FP.dadd (ry k) (FP.dmul (FP.dsub (ry (k + 1)) (ry k)) (FP.ddiv (FP.dsub (d) (rd k)) (FP.dsub (rd (k + 1)) (rd k))))) := fB_add (M := 1058) (hr.2 _ (by omega)).2.2.2 h_15 (by omega) (by omega) (by omega)
        refine lv_dadd hx hb dX5_speedOfRows_85 (fB_ne h_17 (by omega)) ?_
        exact hret hS hP dX5_speedOfRows_86 (⟨rfl, (spB_3 (k := k) (Nat.not_le.mpr c_26_5)).symm⟩)
      · skip
        have c_26_5 : ¬ (k + 1 < nR) := fun q => c_26_5 ((nI_ltI (a := k + 1) (b := nR) (by omega) (by omega)).mpr q)
        refine lv_aload_n hx hb dX5_speedOfRows_29 rfl (lv_at hl 1 rfl) ?_
        refine lv_aload_n hx hb dX5_speedOfRows_30 rfl (lv_at hl 0 rfl) ?_
        refine va_get (D := D) (ci := 5) (v := .int (nI nR)) (C := RX5) (T := TX5) (N := 6) hx hb hts iX5_speedOfRows_X5 hown hK hP 3 rfl rfl 3 (by decide) f_21 (fun _ h9 => h9) rfl dX5_speedOfRows_31 ?_
        refine lv_iconst (v := nI 1) hx hb dX5_speedOfRows_34 (by decide) ?_
        refine xib hx hb (nR - 1) dX5_speedOfRows_35 (by omega) ?_
        refine xdl hx hb hK hP 20 0 rfl rfl (j := nR - 1) (by decide) (by omega) dX5_speedOfRows_36 ?_
        exact hret hS hP dX5_speedOfRows_37 (⟨rfl, (spB_2 (k := k) c_4_3 (by omega)).symm⟩)
    · skip
      have c_4_3 : nR = 0 := (nI_eq (a := nR) (b := 0) (by omega) (by omega)).mp c_4_3
      refine lv_dconst0 hx hb dX5_speedOfRows_7 ?_
      exact hret hS hP dX5_speedOfRows_8 (⟨rfl, (spB_0 c_4_3).symm⟩)
theorem iX5_speedAt_X5 : ∀ w ∈ u_ws RX5 TX5 6, w ∈ wsX5_speedAt := by decide +kernel
set_option maxHeartbeats 4000000 in
set_option maxRecDepth 100000 in
theorem kX5_speedAt_19 (l : Launch) (D : va_G) (cs : Nat → ClassId) (ad : Nat → Nat) (hd : distX ad) (sz : Nat) (S : XS) (hnR : S.1.2.2.1.1 ≤ 10) (hr : rowsOK (S.1.2.2.1.1) (S.1.2.2.1.2.1) (S.1.2.2.1.2.2.1) (S.1.2.2.1.2.2.2.1)) (hw_ : fB 1058 (S.1.2.2.1.2.2.2.2.1)) (d : UInt64) (hd_ : fB 1042 d) (ci : Nat) (hc : ci ≤ S.1.2.2.1.1) : Met l yX5_speedAt wsX5_speedAt ({ frames := 1, cells := 0, slots := 0, locals := 26 } : Room) (gP D (WX cs ad) (EX D cs) S sz ([.ref (ad 3), .ref (ad 19), .double (d), .int (rwF ci)] : List Value)) (va_Qd (fun r u => u = S ∧ r = uF (S.1.2.2.1.2.1) (S.1.2.2.1.2.2.1) (S.1.2.2.1.1) (S.1.2.2.1.2.2.2.2.1) d ci) (gB D (WX cs ad)) (gA (AX ad) sz)) 0 0 (gA (AX ad) sz) := by
  obtain ⟨⟨⟨nN, px, py, pz, fx, fy, fz, lf, ld, fi⟩, ⟨nB, fr, tt, ln, wi, sg, pu⟩, ⟨nR, rd, rx, ry, wv, fo⟩, ⟨re, dg⟩, ⟨nP, tp, bt, dp⟩⟩, ⟨sp, ac, kp, kc, kn, aw, dw, su, ss, sd⟩⟩ := S
  have hnR : nR ≤ 10 := hnR
  have hr : rowsOK nR rd rx ry := hr
  have hc : ci ≤ nR := hc
  have hw_ : fB 1058 wv := hw_
  refine gMd (cc := cX5_speedAt) (maxL := 5) (plainFor_of_name (by decide)) rfl (Nat.le_of_ble_eq_true rfl) ?_
  intro p e s m below meth c Q hx hb hts hown hml hsz hE hret H locs hP hS ls hl
  subst hsz
  have hown : s.vm.findClass RX5 = some m.cls := hown
  have hK : va_K D vwCl (tysX cs) s := hE.1
  have hD : ∀ u, va_D (gA (AX ad) s.heap.size) (WX cs ad u) := fun u => WX_D hd u
  have hl : lv_has ls 5 [(0, .ref (ad 3)), (1, .ref (ad 19)), (2, .double (d)), (4, .int (rwF ci))] := hl
  have f_25 := hts (.fieldLink RX5 25 "NetShapes$Water" "waveShare" "D") (by decide +kernel)
  refine lv_aload_n hx hb dX5_speedAt_0 rfl (lv_at hl 0 rfl) ?_
  refine lv_aload_n hx hb dX5_speedAt_1 rfl (lv_at hl 1 rfl) ?_
  refine lv_dload_n hx hb dX5_speedAt_2 rfl (lv_at hl 2 rfl) ?_
  refine lv_iload hx hb dX5_speedAt_3 (lv_at hl 3 rfl) ?_
  refine gcd (va_runV (As := [.ref (ad 19), .double (d), .int (rwF ci)]) (rest := []) ⟨hx, hb, hml, hown, hts⟩ (kX5_speedOfRows_19 l D cs ad hd H.size (((nN, px, py, pz, fx, fy, fz, lf, ld, fi), (nB, fr, tt, ln, wi, sg, pu), (nR, rd, rx, ry, wv, fo), (re, dg), (nP, tp, bt, dp)), (sp, ac, kp, kc, kn, aw, dw, su, ss, sd)) hnR hr d hd_ ci hc) (cwV 3 hts gX5_speedAt_X5_speedOfRows rfl rfl rfl (by decide +kernel) ⟨Nat.le_of_ble_eq_true rfl, Nat.le_of_ble_eq_true rfl⟩) (gPreV (EX_bl) (va_recv hK hP (ci := 5) (q0 := 3) rfl rfl) hP (fun U _ hW => EX_warm hW hE)) rfl rfl hl.1 rfl (lv_room (Nat.le_of_ble_eq_true rfl)) dX5_speedAt_5 ⟨Nat.zero_le _, Nat.zero_le _⟩) hS (fun r_ u_ H locs hw hP hS => ?_)
  obtain ⟨rfl, hw⟩ := hw
  have hw : r_ = spB rd rx nR d ci := hw
  subst hw
  refine lv_dconst1 hx hb dX5_speedAt_8 ?_
  refine lv_aload_n hx hb dX5_speedAt_9 rfl (lv_at hl 0 rfl) ?_
  refine va_get (D := D) (ci := 5) (v := .double (wv)) (C := RX5) (T := TX5) (N := 6) hx hb hts iX5_speedAt_X5 hown hK hP 3 rfl rfl 4 (by decide) f_25 (fun _ h9 => h9) rfl dX5_speedAt_10 ?_
  have h_2 : fB (1060) (FP.dadd (FP.dconst1) (wv)) := fB_add (M := 1058) fB_c1 hw_ (by omega) (by omega) (by omega)
  refine lv_dadd hx hb dX5_speedAt_13 (fB_ne h_2 (by omega)) ?_
  have h_4 : fB (1098) (FP.dmul (spB rd rx nR d ci) (FP.dadd (FP.dconst1) (wv))) := fB_mul (spB_ok (f := rx) hr (fun j hj => (hr.2 j hj).2.2.1) hd_) h_2 (by omega) (by omega) (by omega)
  refine lv_dmul hx hb dX5_speedAt_14 (fB_ne h_4 (by omega)) ?_
  exact hret hS hP dX5_speedAt_15 (⟨rfl, rfl⟩)
set_option maxHeartbeats 4000000 in
set_option maxRecDepth 100000 in
theorem kX5_speedAt_20 (l : Launch) (D : va_G) (cs : Nat → ClassId) (ad : Nat → Nat) (hd : distX ad) (sz : Nat) (S : XS) (hnR : S.1.2.2.1.1 ≤ 10) (hr : rowsOK (S.1.2.2.1.1) (S.1.2.2.1.2.1) (S.1.2.2.1.2.2.1) (S.1.2.2.1.2.2.2.1)) (hw_ : fB 1058 (S.1.2.2.1.2.2.2.2.1)) (d : UInt64) (hd_ : fB 1042 d) (ci : Nat) (hc : ci ≤ S.1.2.2.1.1) : Met l yX5_speedAt wsX5_speedAt ({ frames := 1, cells := 0, slots := 0, locals := 26 } : Room) (gP D (WX cs ad) (EX D cs) S sz ([.ref (ad 3), .ref (ad 20), .double (d), .int (rwF ci)] : List Value)) (va_Qd (fun r u => u = S ∧ r = uF (S.1.2.2.1.2.1) (S.1.2.2.1.2.2.2.1) (S.1.2.2.1.1) (S.1.2.2.1.2.2.2.2.1) d ci) (gB D (WX cs ad)) (gA (AX ad) sz)) 0 0 (gA (AX ad) sz) := by
  obtain ⟨⟨⟨nN, px, py, pz, fx, fy, fz, lf, ld, fi⟩, ⟨nB, fr, tt, ln, wi, sg, pu⟩, ⟨nR, rd, rx, ry, wv, fo⟩, ⟨re, dg⟩, ⟨nP, tp, bt, dp⟩⟩, ⟨sp, ac, kp, kc, kn, aw, dw, su, ss, sd⟩⟩ := S
  have hnR : nR ≤ 10 := hnR
  have hr : rowsOK nR rd rx ry := hr
  have hc : ci ≤ nR := hc
  have hw_ : fB 1058 wv := hw_
  refine gMd (cc := cX5_speedAt) (maxL := 5) (plainFor_of_name (by decide)) rfl (Nat.le_of_ble_eq_true rfl) ?_
  intro p e s m below meth c Q hx hb hts hown hml hsz hE hret H locs hP hS ls hl
  subst hsz
  have hown : s.vm.findClass RX5 = some m.cls := hown
  have hK : va_K D vwCl (tysX cs) s := hE.1
  have hD : ∀ u, va_D (gA (AX ad) s.heap.size) (WX cs ad u) := fun u => WX_D hd u
  have hl : lv_has ls 5 [(0, .ref (ad 3)), (1, .ref (ad 20)), (2, .double (d)), (4, .int (rwF ci))] := hl
  have f_25 := hts (.fieldLink RX5 25 "NetShapes$Water" "waveShare" "D") (by decide +kernel)
  refine lv_aload_n hx hb dX5_speedAt_0 rfl (lv_at hl 0 rfl) ?_
  refine lv_aload_n hx hb dX5_speedAt_1 rfl (lv_at hl 1 rfl) ?_
  refine lv_dload_n hx hb dX5_speedAt_2 rfl (lv_at hl 2 rfl) ?_
  refine lv_iload hx hb dX5_speedAt_3 (lv_at hl 3 rfl) ?_
  refine gcd (va_runV (As := [.ref (ad 20), .double (d), .int (rwF ci)]) (rest := []) ⟨hx, hb, hml, hown, hts⟩ (kX5_speedOfRows_20 l D cs ad hd H.size (((nN, px, py, pz, fx, fy, fz, lf, ld, fi), (nB, fr, tt, ln, wi, sg, pu), (nR, rd, rx, ry, wv, fo), (re, dg), (nP, tp, bt, dp)), (sp, ac, kp, kc, kn, aw, dw, su, ss, sd)) hnR hr d hd_ ci hc) (cwV 3 hts gX5_speedAt_X5_speedOfRows rfl rfl rfl (by decide +kernel) ⟨Nat.le_of_ble_eq_true rfl, Nat.le_of_ble_eq_true rfl⟩) (gPreV (EX_bl) (va_recv hK hP (ci := 5) (q0 := 3) rfl rfl) hP (fun U _ hW => EX_warm hW hE)) rfl rfl hl.1 rfl (lv_room (Nat.le_of_ble_eq_true rfl)) dX5_speedAt_5 ⟨Nat.zero_le _, Nat.zero_le _⟩) hS (fun r_ u_ H locs hw hP hS => ?_)
  obtain ⟨rfl, hw⟩ := hw
  have hw : r_ = spB rd ry nR d ci := hw
  subst hw
  refine lv_dconst1 hx hb dX5_speedAt_8 ?_
  refine lv_aload_n hx hb dX5_speedAt_9 rfl (lv_at hl 0 rfl) ?_
  refine va_get (D := D) (ci := 5) (v := .double (wv)) (C := RX5) (T := TX5) (N := 6) hx hb hts iX5_speedAt_X5 hown hK hP 3 rfl rfl 4 (by decide) f_25 (fun _ h9 => h9) rfl dX5_speedAt_10 ?_
  have h_2 : fB (1060) (FP.dadd (FP.dconst1) (wv)) := fB_add (M := 1058) fB_c1 hw_ (by omega) (by omega) (by omega)
  refine lv_dadd hx hb dX5_speedAt_13 (fB_ne h_2 (by omega)) ?_
  have h_4 : fB (1098) (FP.dmul (spB rd ry nR d ci) (FP.dadd (FP.dconst1) (wv))) := fB_mul (spB_ok (f := ry) hr (fun j hj => (hr.2 j hj).2.2.2) hd_) h_2 (by omega) (by omega) (by omega)
  refine lv_dmul hx hb dX5_speedAt_14 (fB_ne h_4 (by omega)) ?_
  exact hret hS hP dX5_speedAt_15 (⟨rfl, rfl⟩)
set_option maxHeartbeats 4000000 in
set_option maxRecDepth 100000 in
theorem kX0_lengthOf_22 (l : Launch) (D : va_G) (cs : Nat → ClassId) (ad : Nat → Nat) (hd : distX ad) (sz : Nat) (S : XS) (K : Nat) (h0 : 1024 ≤ K) (hK_ : K ≤ 1450) (hs : fB K (S.2.1 0) ∧ fB K (S.2.1 1) ∧ fB K (S.2.1 2)) : Met l yX0_lengthOf wsX0_lengthOf ({ frames := 1, cells := 0, slots := 0, locals := 26 } : Room) (gP D (WX cs ad) (EX D cs) S sz ([.ref (ad 22)] : List Value)) (va_Qd (fun r u => u = S ∧ r = rootF (l2 (S.2.1 0) (S.2.1 1) (S.2.1 2))) (gB D (WX cs ad)) (gA (AX ad) sz)) 0 0 (gA (AX ad) sz) := by
  obtain ⟨⟨⟨nN, px, py, pz, fx, fy, fz, lf, ld, fi⟩, ⟨nB, fr, tt, ln, wi, sg, pu⟩, ⟨nR, rd, rx, ry, wv, fo⟩, ⟨re, dg⟩, ⟨nP, tp, bt, dp⟩⟩, ⟨sp, ac, kp, kc, kn, aw, dw, su, ss, sd⟩⟩ := S
  have hs : fB K (sp 0) ∧ fB K (sp 1) ∧ fB K (sp 2) := hs
  refine gMd (cc := cX0_lengthOf) (maxL := 1) (plainFor_of_name (by decide)) rfl (Nat.le_of_ble_eq_true rfl) ?_
  intro p e s m below meth c Q hx hb hts hown hml hsz hE hret H locs hP hS ls hl
  subst hsz
  have hown : s.vm.findClass RX0 = some m.cls := hown
  have hK : va_K D vwCl (tysX cs) s := hE.1
  have hD : ∀ u, va_D (gA (AX ad) s.heap.size) (WX cs ad u) := fun u => WX_D hd u
  have hl : lv_has ls 1 [(0, .ref (ad 22))] := hl
  refine lv_aload_n hx hb dX0_lengthOf_0 rfl (lv_at hl 0 rfl) ?_
  refine lv_iconst (v := nI 0) hx hb dX0_lengthOf_1 (by decide) ?_
  refine xdl hx hb hK hP 22 0 rfl rfl (j := 0) (by decide) (by decide) dX0_lengthOf_2 ?_
  refine lv_aload_n hx hb dX0_lengthOf_3 rfl (lv_at hl 0 rfl) ?_
  refine lv_iconst (v := nI 0) hx hb dX0_lengthOf_4 (by decide) ?_
  refine xdl hx hb hK hP 22 0 rfl rfl (j := 0) (by decide) (by decide) dX0_lengthOf_5 ?_
  have h_2 : fB (K + K - 1022) (FP.dmul (sp 0) (sp 0)) := fB_mul hs.1 hs.1 (by omega) (by omega) (by omega)
  refine lv_dmul hx hb dX0_lengthOf_6 (fB_ne h_2 (by omega)) ?_
  refine lv_aload_n hx hb dX0_lengthOf_7 rfl (lv_at hl 0 rfl) ?_
  refine lv_iconst (v := nI 1) hx hb dX0_lengthOf_8 (by decide) ?_
  refine xdl hx hb hK hP 22 0 rfl rfl (j := 1) (by decide) (by decide) dX0_lengthOf_9 ?_
  refine lv_aload_n hx hb dX0_lengthOf_10 rfl (lv_at hl 0 rfl) ?_
  refine lv_iconst (v := nI 1) hx hb dX0_lengthOf_11 (by decide) ?_
  refine xdl hx hb hK hP 22 0 rfl rfl (j := 1) (by decide) (by decide) dX0_lengthOf_12 ?_
  have h_4 : fB (K + K - 1022) (FP.dmul (sp 1) (sp 1)) := fB_mul hs.2.1 hs.2.1 (by omega) (by omega) (by omega)
  refine lv_dmul hx hb dX0_lengthOf_13 (fB_ne h_4 (by omega)) ?_
  have h_6 : fB (K + K - 1022 + 2) (FP.dadd (FP.dmul (sp 0) (sp 0)) (FP.dmul (sp 1) (sp 1))) := fB_add (M := K + K - 1022) h_2 h_4 (by omega) (by omega) (by omega)
  refine lv_dadd hx hb dX0_lengthOf_14 (fB_ne h_6 (by omega)) ?_
  refine lv_aload_n hx hb dX0_lengthOf_15 rfl (lv_at hl 0 rfl) ?_
  refine lv_iconst (v := nI 2) hx hb dX0_lengthOf_16 (by decide) ?_
  refine xdl hx hb hK hP 22 0 rfl rfl (j := 2) (by decide) (by decide) dX0_lengthOf_17 ?_
  refine lv_aload_n hx hb dX0_lengthOf_18 rfl (lv_at hl 0 rfl) ?_
  refine lv_iconst (v := nI 2) hx hb dX0_lengthOf_19 (by decide) ?_
  refine xdl hx hb hK hP 22 0 rfl rfl (j := 2) (by decide) (by decide) dX0_lengthOf_20 ?_
  have h_8 : fB (K + K - 1022) (FP.dmul (sp 2) (sp 2)) := fB_mul hs.2.2 hs.2.2 (by omega) (by omega) (by omega)
  refine lv_dmul hx hb dX0_lengthOf_21 (fB_ne h_8 (by omega)) ?_
  have h_10 : fB (K + K - 1022 + 2 + 2) (FP.dadd (FP.dadd (FP.dmul (sp 0) (sp 0)) (FP.dmul (sp 1) (sp 1))) (FP.dmul (sp 2) (sp 2))) := fB_add (M := K + K - 1022 + 2) h_6 h_8 (by omega) (by omega) (by omega)
  refine lv_dadd hx hb dX0_lengthOf_22 (fB_ne h_10 (by omega)) ?_
  refine g0d (va_runSN (As := [.double (FP.dadd (FP.dadd (FP.dmul (sp 0) (sp 0)) (FP.dmul (sp 1) (sp 1))) (FP.dmul (sp 2) (sp 2)))]) (rest := []) ⟨hx, hb, hml, hown, hts⟩ (kX6_root l D H.size (l2 (sp 0) (sp 1) (sp 2)) (K + K - 1018) (l2_P hs.1 hs.2.1 hs.2.2 h0 hK_).1 (by omega) (by omega) (l2_P hs.1 hs.2.1 hs.2.2 h0 hK_).2) ⟨va_cnB 1 hts gX0_lengthOf_X6_root_n82 rfl rfl rfl hE.2.1 (hts (.initialized RX6) (by decide +kernel)) (by decide +kernel) ⟨Nat.le_of_ble_eq_true rfl, Nat.le_of_ble_eq_true rfl⟩, hts (.static yX6_root) (by decide +kernel), trivial⟩ (gPreS (eT_bl) w0_P (fun _ _ _ => trivial)) rfl rfl hl.1 rfl (lv_room (Nat.le_of_ble_eq_true rfl)) dX0_lengthOf_23 ⟨Nat.zero_le _, Nat.zero_le _⟩) hP hS (fun r_ H locs hw hP hS => ?_)
  have hw : r_ = rootF (l2 (sp 0) (sp 1) (sp 2)) := hw
  subst hw
  exact hret hS hP dX0_lengthOf_26 (⟨rfl, rfl⟩)
set_option maxHeartbeats 4000000 in
set_option maxRecDepth 100000 in
theorem kX0_lengthOf_23 (l : Launch) (D : va_G) (cs : Nat → ClassId) (ad : Nat → Nat) (hd : distX ad) (sz : Nat) (S : XS) (K : Nat) (h0 : 1024 ≤ K) (hK_ : K ≤ 1450) (hs : fB K (S.2.2.1 0) ∧ fB K (S.2.2.1 1) ∧ fB K (S.2.2.1 2)) : Met l yX0_lengthOf wsX0_lengthOf ({ frames := 1, cells := 0, slots := 0, locals := 26 } : Room) (gP D (WX cs ad) (EX D cs) S sz ([.ref (ad 23)] : List Value)) (va_Qd (fun r u => u = S ∧ r = rootF (l2 (S.2.2.1 0) (S.2.2.1 1) (S.2.2.1 2))) (gB D (WX cs ad)) (gA (AX ad) sz)) 0 0 (gA (AX ad) sz) := by
  obtain ⟨⟨⟨nN, px, py, pz, fx, fy, fz, lf, ld, fi⟩, ⟨nB, fr, tt, ln, wi, sg, pu⟩, ⟨nR, rd, rx, ry, wv, fo⟩, ⟨re, dg⟩, ⟨nP, tp, bt, dp⟩⟩, ⟨sp, ac, kp, kc, kn, aw, dw, su, ss, sd⟩⟩ := S
  have hs : fB K (ac 0) ∧ fB K (ac 1) ∧ fB K (ac 2) := hs
  refine gMd (cc := cX0_lengthOf) (maxL := 1) (plainFor_of_name (by decide)) rfl (Nat.le_of_ble_eq_true rfl) ?_
  intro p e s m below meth c Q hx hb hts hown hml hsz hE hret H locs hP hS ls hl
  subst hsz
  have hown : s.vm.findClass RX0 = some m.cls := hown
  have hK : va_K D vwCl (tysX cs) s := hE.1
  have hD : ∀ u, va_D (gA (AX ad) s.heap.size) (WX cs ad u) := fun u => WX_D hd u
  have hl : lv_has ls 1 [(0, .ref (ad 23))] := hl
  refine lv_aload_n hx hb dX0_lengthOf_0 rfl (lv_at hl 0 rfl) ?_
  refine lv_iconst (v := nI 0) hx hb dX0_lengthOf_1 (by decide) ?_
  refine xdl hx hb hK hP 23 0 rfl rfl (j := 0) (by decide) (by decide) dX0_lengthOf_2 ?_
  refine lv_aload_n hx hb dX0_lengthOf_3 rfl (lv_at hl 0 rfl) ?_
  refine lv_iconst (v := nI 0) hx hb dX0_lengthOf_4 (by decide) ?_
  refine xdl hx hb hK hP 23 0 rfl rfl (j := 0) (by decide) (by decide) dX0_lengthOf_5 ?_
  have h_2 : fB (K + K - 1022) (FP.dmul (ac 0) (ac 0)) := fB_mul hs.1 hs.1 (by omega) (by omega) (by omega)
  refine lv_dmul hx hb dX0_lengthOf_6 (fB_ne h_2 (by omega)) ?_
  refine lv_aload_n hx hb dX0_lengthOf_7 rfl (lv_at hl 0 rfl) ?_
  refine lv_iconst (v := nI 1) hx hb dX0_lengthOf_8 (by decide) ?_
  refine xdl hx hb hK hP 23 0 rfl rfl (j := 1) (by decide) (by decide) dX0_lengthOf_9 ?_
  refine lv_aload_n hx hb dX0_lengthOf_10 rfl (lv_at hl 0 rfl) ?_
  refine lv_iconst (v := nI 1) hx hb dX0_lengthOf_11 (by decide) ?_
  refine xdl hx hb hK hP 23 0 rfl rfl (j := 1) (by decide) (by decide) dX0_lengthOf_12 ?_
  have h_4 : fB (K + K - 1022) (FP.dmul (ac 1) (ac 1)) := fB_mul hs.2.1 hs.2.1 (by omega) (by omega) (by omega)
  refine lv_dmul hx hb dX0_lengthOf_13 (fB_ne h_4 (by omega)) ?_
  have h_6 : fB (K + K - 1022 + 2) (FP.dadd (FP.dmul (ac 0) (ac 0)) (FP.dmul (ac 1) (ac 1))) := fB_add (M := K + K - 1022) h_2 h_4 (by omega) (by omega) (by omega)
  refine lv_dadd hx hb dX0_lengthOf_14 (fB_ne h_6 (by omega)) ?_
  refine lv_aload_n hx hb dX0_lengthOf_15 rfl (lv_at hl 0 rfl) ?_
  refine lv_iconst (v := nI 2) hx hb dX0_lengthOf_16 (by decide) ?_
  refine xdl hx hb hK hP 23 0 rfl rfl (j := 2) (by decide) (by decide) dX0_lengthOf_17 ?_
  refine lv_aload_n hx hb dX0_lengthOf_18 rfl (lv_at hl 0 rfl) ?_
  refine lv_iconst (v := nI 2) hx hb dX0_lengthOf_19 (by decide) ?_
  refine xdl hx hb hK hP 23 0 rfl rfl (j := 2) (by decide) (by decide) dX0_lengthOf_20 ?_
  have h_8 : fB (K + K - 1022) (FP.dmul (ac 2) (ac 2)) := fB_mul hs.2.2 hs.2.2 (by omega) (by omega) (by omega)
  refine lv_dmul hx hb dX0_lengthOf_21 (fB_ne h_8 (by omega)) ?_
  have h_10 : fB (K + K - 1022 + 2 + 2) (FP.dadd (FP.dadd (FP.dmul (ac 0) (ac 0)) (FP.dmul (ac 1) (ac 1))) (FP.dmul (ac 2) (ac 2))) := fB_add (M := K + K - 1022 + 2) h_6 h_8 (by omega) (by omega) (by omega)
  refine lv_dadd hx hb dX0_lengthOf_22 (fB_ne h_10 (by omega)) ?_
  refine g0d (va_runSN (As := [.double (FP.dadd (FP.dadd (FP.dmul (ac 0) (ac 0)) (FP.dmul (ac 1) (ac 1))) (FP.dmul (ac 2) (ac 2)))]) (rest := []) ⟨hx, hb, hml, hown, hts⟩ (kX6_root l D H.size (l2 (ac 0) (ac 1) (ac 2)) (K + K - 1018) (l2_P hs.1 hs.2.1 hs.2.2 h0 hK_).1 (by omega) (by omega) (l2_P hs.1 hs.2.1 hs.2.2 h0 hK_).2) ⟨va_cnB 1 hts gX0_lengthOf_X6_root_n82 rfl rfl rfl hE.2.1 (hts (.initialized RX6) (by decide +kernel)) (by decide +kernel) ⟨Nat.le_of_ble_eq_true rfl, Nat.le_of_ble_eq_true rfl⟩, hts (.static yX6_root) (by decide +kernel), trivial⟩ (gPreS (eT_bl) w0_P (fun _ _ _ => trivial)) rfl rfl hl.1 rfl (lv_room (Nat.le_of_ble_eq_true rfl)) dX0_lengthOf_23 ⟨Nat.zero_le _, Nat.zero_le _⟩) hP hS (fun r_ H locs hw hP hS => ?_)
  have hw : r_ = rootF (l2 (ac 0) (ac 1) (ac 2)) := hw
  subst hw
  exact hret hS hP dX0_lengthOf_26 (⟨rfl, rfl⟩)
theorem iX0_measure_X0 : ∀ w ∈ u_ws RX0 TX0 7, w ∈ wsX0_measure := by decide +kernel
theorem iX0_measure_X1 : ∀ w ∈ u_ws RX1 TX1 7, w ∈ wsX0_measure := by decide +kernel
theorem iX0_measure_X3 : ∀ w ∈ u_ws RX3 TX3 6, w ∈ wsX0_measure := by decide +kernel
set_option maxHeartbeats 4000000 in
set_option maxRecDepth 100000 in
theorem kX0_measure (l : Launch) (D : va_G) (cs : Nat → ClassId) (ad : Nat → Nat) (hd : distX ad) (sz : Nat) (S : XS) (hE0 : envOK S.1) (M_ : Nat) (hM : M_ < 262144) (hpl : plOK M_ S.1) (i : Nat) (hi : i < S.1.2.1.1)  : Met l yX0_measure wsX0_measure ({ frames := 2, cells := 0, slots := 0, locals := 46 } : Room) (gP D (WX cs ad) (EX D cs) S sz ([.ref (ad 4), .int (nI i)] : List Value)) (va_Qd (fun r u => match S with | (((nN, px, py, pz, fx, fy, fz, lf, ld, fi), (nB, fr, tt, ln, wi, sg, pu), (nR, rd, rx, ry, wv, fo), (re, dg), (nP, tp, bt, dp)), (sp, ac, kp, kc, kn, aw, dw, su, ss, sd)) => r = lenF px py pz fr tt i ∧ u = (((nN, px, py, pz, fx, fy, fz, lf, ld, fi), (nB, fr, tt, ln, wi, sg, pu), (nR, rd, rx, ry, wv, fo), (re, dg), (nP, tp, bt, dp)), ((ac3 sp (dxF px fr tt i) (dxF py fr tt i) (dxF pz fr tt i)), ac, kp, kc, kn, aw, dw, su, ss, sd))) (gB D (WX cs ad)) (gA (AX ad) sz)) 0 0 (gA (AX ad) sz) := by
  obtain ⟨⟨⟨nN, px, py, pz, fx, fy, fz, lf, ld, fi⟩, ⟨nB, fr, tt, ln, wi, sg, pu⟩, ⟨nR, rd, rx, ry, wv, fo⟩, ⟨re, dg⟩, ⟨nP, tp, bt, dp⟩⟩, ⟨sp, ac, kp, kc, kn, aw, dw, su, ss, sd⟩⟩ := S
  have hE00 := hE0
  obtain ⟨hnN, hnB, hnR, hbar, hlw, hr, hwv, hfo, hll⟩ := hE0
  have hbar : barOK nN nB fr tt := hbar
  have hr : rowsOK nR rd rx ry := hr
  have hpl : ∀ j, j < nN → pP M_ (px j) ∧ pP M_ (py j) ∧ pP M_ (pz j) := hpl
  have hp0 : ∀ j, j < nN → fB 1039 (px j) := fun j hj => pP_fB (hpl j hj).1 hM
  have hp1 : ∀ j, j < nN → fB 1039 (py j) := fun j hj => pP_fB (hpl j hj).2.1 hM
  have hp2 : ∀ j, j < nN → fB 1039 (pz j) := fun j hj => pP_fB (hpl j hj).2.2 hM
  have hi : i < nB := hi
  obtain ⟨ea, eb, ja, jb, jab⟩ := hbar i hi
  have hln : natOK (ln i) := (hlw i hi).1
  have hwi : fB 1027 (wi i) := (hlw i hi).2
  have dx0 := dx_ok (hp0 _ ja) (hp0 _ jb)
  have dx1 := dx_ok (hp1 _ ja) (hp1 _ jb)
  have dx2 := dx_ok (hp2 _ ja) (hp2 _ jb)
  refine gMd (cc := cX0_measure) (maxL := 4) (plainFor_of_name (by decide)) rfl (Nat.le_of_ble_eq_true rfl) ?_
  intro p e s m below meth c Q hx hb hts hown hml hsz hE hret H locs hP hS ls hl
  subst hsz
  have hown : s.vm.findClass RX0 = some m.cls := hown
  have hK : va_K D vwCl (tysX cs) s := hE.1
  have hD : ∀ u, va_D (gA (AX ad) s.heap.size) (WX cs ad u) := fun u => WX_D hd u
  have hl : lv_has ls 4 [(0, .ref (ad 4)), (1, .int (nI i))] := hl
  have f_21 := hts (.fieldLink RX0 21 "NetShapes$Balance" "span" "[D") (by decide +kernel)
  have f_27 := hts (.fieldLink RX0 27 "NetShapes$Balance" "nodes" "LNetShapes$Nodes;") (by decide +kernel)
  have f_31 := hts (.fieldLink RX0 31 "NetShapes$Balance" "bars" "LNetShapes$Bars;") (by decide +kernel)
  have f_67 := hts (.fieldLink RX0 67 "NetShapes$Nodes" "places" "[[D") (by decide +kernel)
  have f_71 := hts (.fieldLink RX0 71 "NetShapes$Bars" "to" "[I") (by decide +kernel)
  have f_75 := hts (.fieldLink RX0 75 "NetShapes$Bars" "from" "[I") (by decide +kernel)
  refine lv_iconst (v := nI 0) hx hb dX0_measure_0 (by decide) ?_
  refine lv_istore_n (lv' := [(2, .int (nI 0)), (0, .ref (ad 4)), (1, .int (nI i))]) hx hb dX0_measure_1 rfl hl (by decide) rfl (fun ls hl => ?_)
  refine lv_iload_n hx hb dX0_measure_2 rfl (lv_at hl 0 rfl) ?_
  refine lv_iconst (v := nI 3) hx hb dX0_measure_3 (by decide) ?_
  refine lv_icmp_ge (tgt := 52) hx hb dX0_measure_4 (by decide) (fun c_4_1 => absurd c_4_1 (by decide)) (fun _ => ?_)
  refine lv_aload_n hx hb dX0_measure_7 rfl (lv_at hl 1 rfl) ?_
  refine va_get (D := D) (ci := 0) (v := .ref (ad 1)) (C := RX0) (T := TX0) (N := 7) hx hb hts iX0_measure_X0 hown hK hP 4 rfl rfl 0 (by decide) f_27 (fun _ h9 => h9) rfl dX0_measure_8 ?_
  refine va_get (D := D) (ci := 3) (v := .ref (ad 7)) (C := RX3) (T := TX3) (N := 6) hx hb hts iX0_measure_X3 hown hK hP 1 rfl rfl 0 (by decide) f_67 (fun _ h9 => h9) rfl dX0_measure_11 ?_
  refine lv_iload_n hx hb dX0_measure_14 rfl (lv_at hl 0 rfl) ?_
  refine xal hx hb hK hP 7 3 rfl rfl (j := 0) (v := ad 30) (by decide) (by decide) rfl dX0_measure_15 ?_
  refine lv_astore_n (lv' := [(3, .ref (ad 30)), (2, .int (nI 0)), (0, .ref (ad 4)), (1, .int (nI i))]) hx hb dX0_measure_16 rfl hl (by decide) rfl (fun ls hl => ?_)
  refine lv_aload_n hx hb dX0_measure_17 rfl (lv_at hl 2 rfl) ?_
  refine va_get (D := D) (ci := 0) (v := .ref (ad 22)) (C := RX0) (T := TX0) (N := 7) hx hb hts iX0_measure_X0 hown hK hP 4 rfl rfl 5 (by decide) f_21 (fun _ h9 => h9) rfl dX0_measure_18 ?_
  refine lv_iload_n hx hb dX0_measure_21 rfl (lv_at hl 1 rfl) ?_
  refine lv_aload_n hx hb dX0_measure_22 rfl (lv_at hl 0 rfl) ?_
  refine lv_aload_n hx hb dX0_measure_23 rfl (lv_at hl 2 rfl) ?_
  refine va_get (D := D) (ci := 0) (v := .ref (ad 2)) (C := RX0) (T := TX0) (N := 7) hx hb hts iX0_measure_X0 hown hK hP 4 rfl rfl 1 (by decide) f_31 (fun _ h9 => h9) rfl dX0_measure_24 ?_
  refine va_get (D := D) (ci := 1) (v := .ref (ad 13)) (C := RX1) (T := TX1) (N := 7) hx hb hts iX0_measure_X1 hown hK hP 2 rfl rfl 1 (by decide) f_71 (fun _ h9 => h9) rfl dX0_measure_27 ?_
  refine lv_iload_n hx hb dX0_measure_30 rfl (lv_at hl 3 rfl) ?_
  refine xil hx hb hK hP 13 1 rfl rfl (j := i) (by decide) (by omega) dX0_measure_31 ?_
  refine lv_topi (fun t_2 et_2 => ?_)
  have et_2 : t_2 = nI (fN tt i) := et_2.trans eb
  subst et_2
  refine xdl hx hb hK hP 30 0 rfl rfl (j := fN tt i) (by decide) (by omega) dX0_measure_32 ?_
  refine lv_aload_n hx hb dX0_measure_33 rfl (lv_at hl 0 rfl) ?_
  refine lv_aload_n hx hb dX0_measure_34 rfl (lv_at hl 2 rfl) ?_
  refine va_get (D := D) (ci := 0) (v := .ref (ad 2)) (C := RX0) (T := TX0) (N := 7) hx hb hts iX0_measure_X0 hown hK hP 4 rfl rfl 1 (by decide) f_31 (fun _ h9 => h9) rfl dX0_measure_35 ?_
  refine va_get (D := D) (ci := 1) (v := .ref (ad 12)) (C := RX1) (T := TX1) (N := 7) hx hb hts iX0_measure_X1 hown hK hP 2 rfl rfl 0 (by decide) f_75 (fun _ h9 => h9) rfl dX0_measure_38 ?_
  refine lv_iload_n hx hb dX0_measure_41 rfl (lv_at hl 3 rfl) ?_
  refine xil hx hb hK hP 12 1 rfl rfl (j := i) (by decide) (by omega) dX0_measure_42 ?_
  refine lv_topi (fun t_3 et_3 => ?_)
  have et_3 : t_3 = nI (fN fr i) := et_3.trans ea
  subst et_3
  refine xdl hx hb hK hP 30 0 rfl rfl (j := fN fr i) (by decide) (by omega) dX0_measure_43 ?_
  have h_5 : fB (1041) (FP.dsub (px (fN tt i)) (px (fN fr i))) := fB_sub (M := 1039) (hp0 _ jb) (hp0 _ ja) (by omega) (by omega) (by omega)
  refine lv_dsub hx hb dX0_measure_44 (fB_ne h_5 (by omega)) ?_
  refine xds hx hb hK hD hP hS 22 0 (((nN, px, py, pz, fx, fy, fz, lf, ld, fi), (nB, fr, tt, ln, wi, sg, pu), (nR, rd, rx, ry, wv, fo), (re, dg), (nP, tp, bt, dp)), ((vf_upd sp 0 (FP.dsub (px (fN tt i)) (px (fN fr i)))), ac, kp, kc, kn, aw, dw, su, ss, sd)) rfl rfl (j := 0) (by decide) (by decide) rfl dX0_measure_45 (fun H locs hP hS => ?_)
  refine lv_iinc (v := nI 1) (lv' := [(2, .int (nI 1)), (3, .ref (ad 30)), (0, .ref (ad 4)), (1, .int (nI i))]) hx hb dX0_measure_46 hl (k := 1) rfl (nI_add _ _) (by decide) rfl (fun ls hl => ?_)
  refine lv_goto (tgt := 2) hx hb dX0_measure_49 (by decide) ?_
  refine lv_iload_n hx hb dX0_measure_2 rfl (lv_at hl 0 rfl) ?_
  refine lv_iconst (v := nI 3) hx hb dX0_measure_3 (by decide) ?_
  refine lv_icmp_ge (tgt := 52) hx hb dX0_measure_4 (by decide) (fun c_4_6 => absurd c_4_6 (by decide)) (fun _ => ?_)
  refine lv_aload_n hx hb dX0_measure_7 rfl (lv_at hl 2 rfl) ?_
  refine va_get (D := D) (ci := 0) (v := .ref (ad 1)) (C := RX0) (T := TX0) (N := 7) hx hb hts iX0_measure_X0 hown hK hP 4 rfl rfl 0 (by decide) f_27 (fun _ h9 => h9) rfl dX0_measure_8 ?_
  refine va_get (D := D) (ci := 3) (v := .ref (ad 7)) (C := RX3) (T := TX3) (N := 6) hx hb hts iX0_measure_X3 hown hK hP 1 rfl rfl 0 (by decide) f_67 (fun _ h9 => h9) rfl dX0_measure_11 ?_
  refine lv_iload_n hx hb dX0_measure_14 rfl (lv_at hl 0 rfl) ?_
  refine xal hx hb hK hP 7 3 rfl rfl (j := 1) (v := ad 31) (by decide) (by decide) rfl dX0_measure_15 ?_
  refine lv_astore_n (lv' := [(3, .ref (ad 31)), (2, .int (nI 1)), (0, .ref (ad 4)), (1, .int (nI i))]) hx hb dX0_measure_16 rfl hl (by decide) rfl (fun ls hl => ?_)
  refine lv_aload_n hx hb dX0_measure_17 rfl (lv_at hl 2 rfl) ?_
  refine va_get (D := D) (ci := 0) (v := .ref (ad 22)) (C := RX0) (T := TX0) (N := 7) hx hb hts iX0_measure_X0 hown hK hP 4 rfl rfl 5 (by decide) f_21 (fun _ h9 => h9) rfl dX0_measure_18 ?_
  refine lv_iload_n hx hb dX0_measure_21 rfl (lv_at hl 1 rfl) ?_
  refine lv_aload_n hx hb dX0_measure_22 rfl (lv_at hl 0 rfl) ?_
  refine lv_aload_n hx hb dX0_measure_23 rfl (lv_at hl 2 rfl) ?_
  refine va_get (D := D) (ci := 0) (v := .ref (ad 2)) (C := RX0) (T := TX0) (N := 7) hx hb hts iX0_measure_X0 hown hK hP 4 rfl rfl 1 (by decide) f_31 (fun _ h9 => h9) rfl dX0_measure_24 ?_
  refine va_get (D := D) (ci := 1) (v := .ref (ad 13)) (C := RX1) (T := TX1) (N := 7) hx hb hts iX0_measure_X1 hown hK hP 2 rfl rfl 1 (by decide) f_71 (fun _ h9 => h9) rfl dX0_measure_27 ?_
  refine lv_iload_n hx hb dX0_measure_30 rfl (lv_at hl 3 rfl) ?_
  refine xil hx hb hK hP 13 1 rfl rfl (j := i) (by decide) (by omega) dX0_measure_31 ?_
  refine lv_topi (fun t_7 et_7 => ?_)
  have et_7 : t_7 = nI (fN tt i) := et_7.trans eb
  subst et_7
  refine xdl hx hb hK hP 31 0 rfl rfl (j := fN tt i) (by decide) (by omega) dX0_measure_32 ?_
  refine lv_aload_n hx hb dX0_measure_33 rfl (lv_at hl 0 rfl) ?_
  refine lv_aload_n hx hb dX0_measure_34 rfl (lv_at hl 2 rfl) ?_
  refine va_get (D := D) (ci := 0) (v := .ref (ad 2)) (C := RX0) (T := TX0) (N := 7) hx hb hts iX0_measure_X0 hown hK hP 4 rfl rfl 1 (by decide) f_31 (fun _ h9 => h9) rfl dX0_measure_35 ?_
  refine va_get (D := D) (ci := 1) (v := .ref (ad 12)) (C := RX1) (T := TX1) (N := 7) hx hb hts iX0_measure_X1 hown hK hP 2 rfl rfl 0 (by decide) f_75 (fun _ h9 => h9) rfl dX0_measure_38 ?_
  refine lv_iload_n hx hb dX0_measure_41 rfl (lv_at hl 3 rfl) ?_
  refine xil hx hb hK hP 12 1 rfl rfl (j := i) (by decide) (by omega) dX0_measure_42 ?_
  refine lv_topi (fun t_8 et_8 => ?_)
  have et_8 : t_8 = nI (fN fr i) := et_8.trans ea
  subst et_8
  refine xdl hx hb hK hP 31 0 rfl rfl (j := fN fr i) (by decide) (by omega) dX0_measure_43 ?_
  have h_10 : fB (1041) (FP.dsub (py (fN tt i)) (py (fN fr i))) := fB_sub (M := 1039) (hp1 _ jb) (hp1 _ ja) (by omega) (by omega) (by omega)
  refine lv_dsub hx hb dX0_measure_44 (fB_ne h_10 (by omega)) ?_
  refine xds hx hb hK hD hP hS 22 0 (((nN, px, py, pz, fx, fy, fz, lf, ld, fi), (nB, fr, tt, ln, wi, sg, pu), (nR, rd, rx, ry, wv, fo), (re, dg), (nP, tp, bt, dp)), ((vf_upd (vf_upd sp 0 (FP.dsub (px (fN tt i)) (px (fN fr i)))) 1 (FP.dsub (py (fN tt i)) (py (fN fr i)))), ac, kp, kc, kn, aw, dw, su, ss, sd)) rfl rfl (j := 1) (by decide) (by decide) rfl dX0_measure_45 (fun H locs hP hS => ?_)
  refine lv_iinc (v := nI 2) (lv' := [(2, .int (nI 2)), (3, .ref (ad 31)), (0, .ref (ad 4)), (1, .int (nI i))]) hx hb dX0_measure_46 hl (k := 1) rfl (nI_add _ _) (by decide) rfl (fun ls hl => ?_)
  refine lv_goto (tgt := 2) hx hb dX0_measure_49 (by decide) ?_
  refine lv_iload_n hx hb dX0_measure_2 rfl (lv_at hl 0 rfl) ?_
  refine lv_iconst (v := nI 3) hx hb dX0_measure_3 (by decide) ?_
  refine lv_icmp_ge (tgt := 52) hx hb dX0_measure_4 (by decide) (fun c_4_11 => absurd c_4_11 (by decide)) (fun _ => ?_)
  refine lv_aload_n hx hb dX0_measure_7 rfl (lv_at hl 2 rfl) ?_
  refine va_get (D := D) (ci := 0) (v := .ref (ad 1)) (C := RX0) (T := TX0) (N := 7) hx hb hts iX0_measure_X0 hown hK hP 4 rfl rfl 0 (by decide) f_27 (fun _ h9 => h9) rfl dX0_measure_8 ?_
  refine va_get (D := D) (ci := 3) (v := .ref (ad 7)) (C := RX3) (T := TX3) (N := 6) hx hb hts iX0_measure_X3 hown hK hP 1 rfl rfl 0 (by decide) f_67 (fun _ h9 => h9) rfl dX0_measure_11 ?_
  refine lv_iload_n hx hb dX0_measure_14 rfl (lv_at hl 0 rfl) ?_
  refine xal hx hb hK hP 7 3 rfl rfl (j := 2) (v := ad 32) (by decide) (by decide) rfl dX0_measure_15 ?_
  refine lv_astore_n (lv' := [(3, .ref (ad 32)), (2, .int (nI 2)), (0, .ref (ad 4)), (1, .int (nI i))]) hx hb dX0_measure_16 rfl hl (by decide) rfl (fun ls hl => ?_)
  refine lv_aload_n hx hb dX0_measure_17 rfl (lv_at hl 2 rfl) ?_
  refine va_get (D := D) (ci := 0) (v := .ref (ad 22)) (C := RX0) (T := TX0) (N := 7) hx hb hts iX0_measure_X0 hown hK hP 4 rfl rfl 5 (by decide) f_21 (fun _ h9 => h9) rfl dX0_measure_18 ?_
  refine lv_iload_n hx hb dX0_measure_21 rfl (lv_at hl 1 rfl) ?_
  refine lv_aload_n hx hb dX0_measure_22 rfl (lv_at hl 0 rfl) ?_
  refine lv_aload_n hx hb dX0_measure_23 rfl (lv_at hl 2 rfl) ?_
  refine va_get (D := D) (ci := 0) (v := .ref (ad 2)) (C := RX0) (T := TX0) (N := 7) hx hb hts iX0_measure_X0 hown hK hP 4 rfl rfl 1 (by decide) f_31 (fun _ h9 => h9) rfl dX0_measure_24 ?_
  refine va_get (D := D) (ci := 1) (v := .ref (ad 13)) (C := RX1) (T := TX1) (N := 7) hx hb hts iX0_measure_X1 hown hK hP 2 rfl rfl 1 (by decide) f_71 (fun _ h9 => h9) rfl dX0_measure_27 ?_
  refine lv_iload_n hx hb dX0_measure_30 rfl (lv_at hl 3 rfl) ?_
  refine xil hx hb hK hP 13 1 rfl rfl (j := i) (by decide) (by omega) dX0_measure_31 ?_
  refine lv_topi (fun t_12 et_12 => ?_)
  have et_12 : t_12 = nI (fN tt i) := et_12.trans eb
  subst et_12
  refine xdl hx hb hK hP 32 0 rfl rfl (j := fN tt i) (by decide) (by omega) dX0_measure_32 ?_
  refine lv_aload_n hx hb dX0_measure_33 rfl (lv_at hl 0 rfl) ?_
  refine lv_aload_n hx hb dX0_measure_34 rfl (lv_at hl 2 rfl) ?_
  refine va_get (D := D) (ci := 0) (v := .ref (ad 2)) (C := RX0) (T := TX0) (N := 7) hx hb hts iX0_measure_X0 hown hK hP 4 rfl rfl 1 (by decide) f_31 (fun _ h9 => h9) rfl dX0_measure_35 ?_
  refine va_get (D := D) (ci := 1) (v := .ref (ad 12)) (C := RX1) (T := TX1) (N := 7) hx hb hts iX0_measure_X1 hown hK hP 2 rfl rfl 0 (by decide) f_75 (fun _ h9 => h9) rfl dX0_measure_38 ?_
  refine lv_iload_n hx hb dX0_measure_41 rfl (lv_at hl 3 rfl) ?_
  refine xil hx hb hK hP 12 1 rfl rfl (j := i) (by decide) (by omega) dX0_measure_42 ?_
  refine lv_topi (fun t_13 et_13 => ?_)
  have et_13 : t_13 = nI (fN fr i) := et_13.trans ea
  subst et_13
  refine xdl hx hb hK hP 32 0 rfl rfl (j := fN fr i) (by decide) (by omega) dX0_measure_43 ?_
  have h_15 : fB (1041) (FP.dsub (pz (fN tt i)) (pz (fN fr i))) := fB_sub (M := 1039) (hp2 _ jb) (hp2 _ ja) (by omega) (by omega) (by omega)
  refine lv_dsub hx hb dX0_measure_44 (fB_ne h_15 (by omega)) ?_
  refine xds hx hb hK hD hP hS 22 0 (((nN, px, py, pz, fx, fy, fz, lf, ld, fi), (nB, fr, tt, ln, wi, sg, pu), (nR, rd, rx, ry, wv, fo), (re, dg), (nP, tp, bt, dp)), ((vf_upd (vf_upd (vf_upd sp 0 (FP.dsub (px (fN tt i)) (px (fN fr i)))) 1 (FP.dsub (py (fN tt i)) (py (fN fr i)))) 2 (FP.dsub (pz (fN tt i)) (pz (fN fr i)))), ac, kp, kc, kn, aw, dw, su, ss, sd)) rfl rfl (j := 2) (by decide) (by decide) rfl dX0_measure_45 (fun H locs hP hS => ?_)
  refine lv_iinc (v := nI 3) (lv' := [(2, .int (nI 3)), (3, .ref (ad 32)), (0, .ref (ad 4)), (1, .int (nI i))]) hx hb dX0_measure_46 hl (k := 1) rfl (nI_add _ _) (by decide) rfl (fun ls hl => ?_)
  refine lv_goto (tgt := 2) hx hb dX0_measure_49 (by decide) ?_
  refine lv_iload_n hx hb dX0_measure_2 rfl (lv_at hl 0 rfl) ?_
  refine lv_iconst (v := nI 3) hx hb dX0_measure_3 (by decide) ?_
  refine lv_icmp_ge (tgt := 52) hx hb dX0_measure_4 (by decide) (fun _ => ?_) (fun c_4_16 => absurd c_4_16 (by decide))
  have hP : va_P D vwCl (WX cs ad (((nN, px, py, pz, fx, fy, fz, lf, ld, fi), (nB, fr, tt, ln, wi, sg, pu), (nR, rd, rx, ry, wv, fo), (re, dg), (nP, tp, bt, dp)), ((ac3 sp (dxF px fr tt i) (dxF py fr tt i) (dxF pz fr tt i)), ac, kp, kc, kn, aw, dw, su, ss, sd))) H := hP
  refine lv_aload_n hx hb dX0_measure_52 rfl (lv_at hl 2 rfl) ?_
  refine va_get (D := D) (ci := 0) (v := .ref (ad 22)) (C := RX0) (T := TX0) (N := 7) hx hb hts iX0_measure_X0 hown hK hP 4 rfl rfl 5 (by decide) f_21 (fun _ h9 => h9) rfl dX0_measure_53 ?_
  refine gcd (va_runS (As := [.ref (ad 22)]) (rest := []) ⟨hx, hb, hml, hown, hts⟩ (kX0_lengthOf_22 l D cs ad hd H.size (((nN, px, py, pz, fx, fy, fz, lf, ld, fi), (nB, fr, tt, ln, wi, sg, pu), (nR, rd, rx, ry, wv, fo), (re, dg), (nP, tp, bt, dp)), ((ac3 sp (dxF px fr tt i) (dxF py fr tt i) (dxF pz fr tt i)), ac, kp, kc, kn, aw, dw, su, ss, sd)) 1041 (by decide) (by decide) ⟨dx0, dx1, dx2⟩) (va_cwS 1 hts gX0_measure_X0_lengthOf rfl rfl rfl (by decide +kernel) ⟨Nat.le_of_ble_eq_true rfl, Nat.le_of_ble_eq_true rfl⟩) (gPreS (EX_bl) hP (fun U _ hW => EX_warm hW hE)) rfl rfl hl.1 rfl (lv_room (Nat.le_of_ble_eq_true rfl)) dX0_measure_56 ⟨Nat.zero_le _, Nat.zero_le _⟩) hS (fun r_ u_ H locs hw hP hS => ?_)
  obtain ⟨rfl, hw⟩ := hw
  have hw : r_ = lenF px py pz fr tt i := hw
  subst hw
  exact hret hS hP dX0_measure_59 (⟨rfl, rfl⟩)
theorem iX0_tighten_X0 : ∀ w ∈ u_ws RX0 TX0 7, w ∈ wsX0_tighten := by decide +kernel
theorem iX0_tighten_X1 : ∀ w ∈ u_ws RX1 TX1 7, w ∈ wsX0_tighten := by decide +kernel
theorem iX0_tighten_X3 : ∀ w ∈ u_ws RX3 TX3 6, w ∈ wsX0_tighten := by decide +kernel
set_option maxHeartbeats 4000000 in
set_option maxRecDepth 100000 in
theorem kX0_tighten (l : Launch) (D : va_G) (cs : Nat → ClassId) (ad : Nat → Nat) (hd : distX ad) (sz : Nat) (S : XS) (hE0 : envOK S.1) (M_ : Nat) (hM : M_ < 262144) (hpl : plOK M_ S.1) (i : Nat) (hi : i < S.1.2.1.1) (L : UInt64) (hL : fB 1157 L) (lL : dgt L FP.dconst0 → fL 992 L) (hs : fB 1041 (S.2.1 0) ∧ fB 1041 (S.2.1 1) ∧ fB 1041 (S.2.1 2)) (K : Nat) (hK0 : 1700 ≤ K) (hK_ : K ≤ 1990) (hF : frOK K (S.1.1.1) (S.1.1.2.2.2.2.1, S.1.1.2.2.2.2.2.1, S.1.1.2.2.2.2.2.2.1, S.1.2.1.2.2.2.2.2.2, S.1.2.2.2.1.2))  : Met l yX0_tighten wsX0_tighten ({ frames := 0, cells := 0, slots := 0, locals := 0 } : Room) (gP D (WX cs ad) (EX D cs) S sz ([.ref (ad 4), .int (nI i), .double (L)] : List Value)) (va_Qv (fun u => match S with | (((nN, px, py, pz, fx, fy, fz, lf, ld, fi), (nB, fr, tt, ln, wi, sg, pu), (nR, rd, rx, ry, wv, fo), (re, dg), (nP, tp, bt, dp)), (sp, ac, kp, kc, kn, aw, dw, su, ss, sd)) => u = (((nN, px, py, pz, (tgS L (sp 0) (sp 1) (sp 2) (ln i) (fN fr i) (fN tt i) i (fx, fy, fz, pu, dg)).1, (tgS L (sp 0) (sp 1) (sp 2) (ln i) (fN fr i) (fN tt i) i (fx, fy, fz, pu, dg)).2.1, (tgS L (sp 0) (sp 1) (sp 2) (ln i) (fN fr i) (fN tt i) i (fx, fy, fz, pu, dg)).2.2.1, lf, ld, fi), (nB, fr, tt, ln, wi, sg, (tgS L (sp 0) (sp 1) (sp 2) (ln i) (fN fr i) (fN tt i) i (fx, fy, fz, pu, dg)).2.2.2.1), (nR, rd, rx, ry, wv, fo), (re, (tgS L (sp 0) (sp 1) (sp 2) (ln i) (fN fr i) (fN tt i) i (fx, fy, fz, pu, dg)).2.2.2.2), (nP, tp, bt, dp)), (sp, ac, kp, kc, kn, aw, dw, su, ss, sd))) (gB D (WX cs ad)) (gA (AX ad) sz)) 0 0 (gA (AX ad) sz) := by
  obtain ⟨⟨⟨nN, px, py, pz, fx, fy, fz, lf, ld, fi⟩, ⟨nB, fr, tt, ln, wi, sg, pu⟩, ⟨nR, rd, rx, ry, wv, fo⟩, ⟨re, dg⟩, ⟨nP, tp, bt, dp⟩⟩, ⟨sp, ac, kp, kc, kn, aw, dw, su, ss, sd⟩⟩ := S
  have hE00 := hE0
  obtain ⟨hnN, hnB, hnR, hbar, hlw, hr, hwv, hfo, hll⟩ := hE0
  have hbar : barOK nN nB fr tt := hbar
  have hr : rowsOK nR rd rx ry := hr
  have hpl : ∀ j, j < nN → pP M_ (px j) ∧ pP M_ (py j) ∧ pP M_ (pz j) := hpl
  have hp0 : ∀ j, j < nN → fB 1039 (px j) := fun j hj => pP_fB (hpl j hj).1 hM
  have hp1 : ∀ j, j < nN → fB 1039 (py j) := fun j hj => pP_fB (hpl j hj).2.1 hM
  have hp2 : ∀ j, j < nN → fB 1039 (pz j) := fun j hj => pP_fB (hpl j hj).2.2 hM
  have hi : i < nB := hi
  obtain ⟨ea, eb, ja, jb, jab⟩ := hbar i hi
  have hln : natOK (ln i) := (hlw i hi).1
  have hwi : fB 1027 (wi i) := (hlw i hi).2
  have dx0 := dx_ok (hp0 _ ja) (hp0 _ jb)
  have dx1 := dx_ok (hp1 _ ja) (hp1 _ jb)
  have dx2 := dx_ok (hp2 _ ja) (hp2 _ jb)
  have hs : fB 1041 (sp 0) ∧ fB 1041 (sp 1) ∧ fB 1041 (sp 2) := hs
  have hF : (∀ j, j < nN → fOK K (fx j)) ∧ (∀ j, j < nN → fOK K (fy j)) ∧ (∀ j, j < nN → fOK K (fz j)) ∧ fB K (dg 0) ∧ fB K (dg 1) ∧ fB K (dg 2) := hF
  refine gMv (cc := cX0_tighten) (maxL := 11) (plainFor_of_name (by decide)) rfl (Nat.le_of_ble_eq_true rfl) ?_
  intro p e s m below meth c Q hx hb hts hown hml hsz hE hret H locs hP hS ls hl
  subst hsz
  have hown : s.vm.findClass RX0 = some m.cls := hown
  have hK : va_K D vwCl (tysX cs) s := hE.1
  have hD : ∀ u, va_D (gA (AX ad) s.heap.size) (WX cs ad u) := fun u => WX_D hd u
  have hl : lv_has ls 11 [(0, .ref (ad 4)), (1, .int (nI i)), (2, .double (L))] := hl
  have c_89 := hts (.constantDouble RX0 89 4656510908468559872) (by decide +kernel)
  have f_21 := hts (.fieldLink RX0 21 "NetShapes$Balance" "span" "[D") (by decide +kernel)
  have f_27 := hts (.fieldLink RX0 27 "NetShapes$Balance" "nodes" "LNetShapes$Nodes;") (by decide +kernel)
  have f_31 := hts (.fieldLink RX0 31 "NetShapes$Balance" "bars" "LNetShapes$Bars;") (by decide +kernel)
  have f_71 := hts (.fieldLink RX0 71 "NetShapes$Bars" "to" "[I") (by decide +kernel)
  have f_75 := hts (.fieldLink RX0 75 "NetShapes$Bars" "from" "[I") (by decide +kernel)
  have f_86 := hts (.fieldLink RX0 86 "NetShapes$Bars" "length" "[D") (by decide +kernel)
  have f_91 := hts (.fieldLink RX0 91 "NetShapes$Bars" "pulls" "[D") (by decide +kernel)
  have f_94 := hts (.fieldLink RX0 94 "NetShapes$Nodes" "forces" "[[D") (by decide +kernel)
  refine lv_aload_n hx hb dX0_tighten_0 rfl (lv_at hl 0 rfl) ?_
  refine va_get (D := D) (ci := 0) (v := .ref (ad 2)) (C := RX0) (T := TX0) (N := 7) hx hb hts iX0_tighten_X0 hown hK hP 4 rfl rfl 1 (by decide) f_31 (fun _ h9 => h9) rfl dX0_tighten_1 ?_
  refine va_get (D := D) (ci := 1) (v := .ref (ad 14)) (C := RX1) (T := TX1) (N := 7) hx hb hts iX0_tighten_X1 hown hK hP 2 rfl rfl 2 (by decide) f_86 (fun _ h9 => h9) rfl dX0_tighten_4 ?_
  refine lv_iload_n hx hb dX0_tighten_7 rfl (lv_at hl 1 rfl) ?_
  refine xdl hx hb hK hP 14 0 rfl rfl (j := i) (by decide) (by omega) dX0_tighten_8 ?_
  refine lv_dstore (lv' := [(4, .double (ln i)), (0, .ref (ad 4)), (1, .int (nI i)), (2, .double (L))]) hx hb dX0_tighten_9 hl (by decide) rfl (fun ls hl => ?_)
  refine lv_dload_n hx hb dX0_tighten_11 rfl (lv_at hl 3 rfl) ?_
  refine lv_dload hx hb dX0_tighten_12 (lv_at hl 0 rfl) ?_
  have J_33_1 : ∀ (j_1 : UInt64), j_1 = (puF L (ln i)) → W p l e ({ frames := 0, cells := 0, slots := 0, locals := 0 } : Room) s m ([.ref (ad 4), .int (nI i), .double (L)] : List Value).toArray below meth c H locs 0 0 Q (F0 m 33 ls [.double (j_1)]) := by
    intro j_1 ej_1
    subst ej_1
    refine lv_dstore (lv' := [(6, .double (puF L (ln i))), (4, .double (ln i)), (0, .ref (ad 4)), (1, .int (nI i)), (2, .double (L))]) hx hb dX0_tighten_33 hl (by decide) rfl (fun ls hl => ?_)
    refine lv_aload_n hx hb dX0_tighten_35 rfl (lv_at hl 2 rfl) ?_
    refine va_get (D := D) (ci := 0) (v := .ref (ad 2)) (C := RX0) (T := TX0) (N := 7) hx hb hts iX0_tighten_X0 hown hK hP 4 rfl rfl 1 (by decide) f_31 (fun _ h9 => h9) rfl dX0_tighten_36 ?_
    refine va_get (D := D) (ci := 1) (v := .ref (ad 17)) (C := RX1) (T := TX1) (N := 7) hx hb hts iX0_tighten_X1 hown hK hP 2 rfl rfl 5 (by decide) f_91 (fun _ h9 => h9) rfl dX0_tighten_39 ?_
    refine lv_iload_n hx hb dX0_tighten_42 rfl (lv_at hl 3 rfl) ?_
    refine lv_dload hx hb dX0_tighten_43 (lv_at hl 0 rfl) ?_
    refine xds hx hb hK hD hP hS 17 0 (((nN, px, py, pz, fx, fy, fz, lf, ld, fi), (nB, fr, tt, ln, wi, sg, (vf_upd pu i (puF L (ln i)))), (nR, rd, rx, ry, wv, fo), (re, dg), (nP, tp, bt, dp)), (sp, ac, kp, kc, kn, aw, dw, su, ss, sd)) rfl rfl (j := i) (by decide) (by omega) rfl dX0_tighten_45 (fun H locs hP hS => ?_)
    refine lv_dload hx hb dX0_tighten_46 (lv_at hl 0 rfl) ?_
    refine lv_dconst0 hx hb dX0_tighten_48 ?_
    refine xc_lgt (tgt := 140) hx hb dX0_tighten_49 dX0_tighten_50 (by decide) (fun c_49_2 => ?_) (fun c_49_2 => ?_)
    · skip
      exact hret hS hP dX0_tighten_140 ((by show (((nN, px, py, pz, fx, fy, fz, lf, ld, fi), (nB, fr, tt, ln, wi, sg, (vf_upd pu i (puF L (ln i)))), (nR, rd, rx, ry, wv, fo), (re, dg), (nP, tp, bt, dp)), (sp, ac, kp, kc, kn, aw, dw, su, ss, sd)) = (((nN, px, py, pz, (tgS L (sp 0) (sp 1) (sp 2) (ln i) (fN fr i) (fN tt i) i (fx, fy, fz, pu, dg)).1, (tgS L (sp 0) (sp 1) (sp 2) (ln i) (fN fr i) (fN tt i) i (fx, fy, fz, pu, dg)).2.1, (tgS L (sp 0) (sp 1) (sp 2) (ln i) (fN fr i) (fN tt i) i (fx, fy, fz, pu, dg)).2.2.1, lf, ld, fi), (nB, fr, tt, ln, wi, sg, (tgS L (sp 0) (sp 1) (sp 2) (ln i) (fN fr i) (fN tt i) i (fx, fy, fz, pu, dg)).2.2.2.1), (nR, rd, rx, ry, wv, fo), (re, (tgS L (sp 0) (sp 1) (sp 2) (ln i) (fN fr i) (fN tt i) i (fx, fy, fz, pu, dg)).2.2.2.2), (nP, tp, bt, dp)), (sp, ac, kp, kc, kn, aw, dw, su, ss, sd)); rw [tgS_n c_49_2]; first | done | rfl))
    · skip
      have lL2 : fL 992 L := lL (gt_0 (pu_gt c_49_2) hln.2.2)
      refine lv_dload hx hb dX0_tighten_53 (lv_at hl 0 rfl) ?_
      refine lv_dload_n hx hb dX0_tighten_55 rfl (lv_at hl 4 rfl) ?_
      have h_4 : fB (1207) (FP.ddiv (puF L (ln i)) (L)) := fB_div (pu_ok hL hln) lL2 (fB_mono hL (by omega)) (by omega) (by omega) (by omega)
      refine lv_ddiv hx hb dX0_tighten_56 (fB_ne h_4 (by omega)) ?_
      refine lv_dstore (lv' := [(8, .double (FP.ddiv (puF L (ln i)) (L))), (6, .double (puF L (ln i))), (4, .double (ln i)), (0, .ref (ad 4)), (1, .int (nI i)), (2, .double (L))]) hx hb dX0_tighten_57 hl (by decide) rfl (fun ls hl => ?_)
      refine lv_iconst (v := nI 0) hx hb dX0_tighten_59 (by decide) ?_
      refine lv_istore (lv' := [(10, .int (nI 0)), (8, .double (FP.ddiv (puF L (ln i)) (L))), (6, .double (puF L (ln i))), (4, .double (ln i)), (0, .ref (ad 4)), (1, .int (nI i)), (2, .double (L))]) hx hb dX0_tighten_60 hl (by decide) rfl (fun ls hl => ?_)
      refine lv_iload hx hb dX0_tighten_62 (lv_at hl 0 rfl) ?_
      refine lv_iconst (v := nI 3) hx hb dX0_tighten_64 (by decide) ?_
      refine lv_icmp_ge (tgt := 140) hx hb dX0_tighten_65 (by decide) (fun c_65_5 => absurd c_65_5 (by decide)) (fun _ => ?_)
      refine lv_aload_n hx hb dX0_tighten_68 rfl (lv_at hl 4 rfl) ?_
      refine va_get (D := D) (ci := 0) (v := .ref (ad 1)) (C := RX0) (T := TX0) (N := 7) hx hb hts iX0_tighten_X0 hown hK hP 4 rfl rfl 0 (by decide) f_27 (fun _ h9 => h9) rfl dX0_tighten_69 ?_
      refine va_get (D := D) (ci := 3) (v := .ref (ad 8)) (C := RX3) (T := TX3) (N := 6) hx hb hts iX0_tighten_X3 hown hK hP 1 rfl rfl 1 (by decide) f_94 (fun _ h9 => h9) rfl dX0_tighten_72 ?_
      refine lv_iload hx hb dX0_tighten_75 (lv_at hl 0 rfl) ?_
      refine xal hx hb hK hP 8 3 rfl rfl (j := 0) (v := ad 33) (by decide) (by decide) rfl dX0_tighten_77 ?_
      refine lv_aload_n hx hb dX0_tighten_78 rfl (lv_at hl 4 rfl) ?_
      refine va_get (D := D) (ci := 0) (v := .ref (ad 2)) (C := RX0) (T := TX0) (N := 7) hx hb hts iX0_tighten_X0 hown hK hP 4 rfl rfl 1 (by decide) f_31 (fun _ h9 => h9) rfl dX0_tighten_79 ?_
      refine va_get (D := D) (ci := 1) (v := .ref (ad 12)) (C := RX1) (T := TX1) (N := 7) hx hb hts iX0_tighten_X1 hown hK hP 2 rfl rfl 0 (by decide) f_75 (fun _ h9 => h9) rfl dX0_tighten_82 ?_
      refine lv_iload_n hx hb dX0_tighten_85 rfl (lv_at hl 5 rfl) ?_
      refine xil hx hb hK hP 12 1 rfl rfl (j := i) (by decide) (by omega) dX0_tighten_86 ?_
      refine lv_topi (fun t_6 et_6 => ?_)
      have et_6 : t_6 = nI (fN fr i) := et_6.trans ea
      subst et_6
      refine lv_dup2_11 hx hb dX0_tighten_87 rfl rfl ?_
      refine xdl hx hb hK hP 33 0 rfl rfl (j := fN fr i) (by decide) (by omega) dX0_tighten_88 ?_
      refine lv_dload hx hb dX0_tighten_89 (lv_at hl 1 rfl) ?_
      refine lv_aload_n hx hb dX0_tighten_91 rfl (lv_at hl 4 rfl) ?_
      refine va_get (D := D) (ci := 0) (v := .ref (ad 22)) (C := RX0) (T := TX0) (N := 7) hx hb hts iX0_tighten_X0 hown hK hP 4 rfl rfl 5 (by decide) f_21 (fun _ h9 => h9) rfl dX0_tighten_92 ?_
      refine lv_iload hx hb dX0_tighten_95 (lv_at hl 0 rfl) ?_
      refine xdl hx hb hK hP 22 0 rfl rfl (j := 0) (by decide) (by decide) dX0_tighten_97 ?_
      have h_8 : fB (1226) (FP.dmul (FP.ddiv (puF L (ln i)) (L)) (sp 0)) := fB_mul h_4 hs.1 (by omega) (by omega) (by omega)
      refine lv_dmul hx hb dX0_tighten_98 (fB_ne h_8 (by omega)) ?_
      have h_10 : fB (K + 2) (FP.dadd (fx (fN fr i)) (FP.dmul (FP.ddiv (puF L (ln i)) (L)) (sp 0))) := fB_add (M := K) (hF.1 _ ja).1 h_8 (by omega) (by omega) (by omega)
      refine lv_dadd hx hb dX0_tighten_99 (fB_ne h_10 (by omega)) ?_
      refine xds hx hb hK hD hP hS 33 0 (((nN, px, py, pz, (vf_upd fx (fN fr i) (FP.dadd (fx (fN fr i)) (FP.dmul (FP.ddiv (puF L (ln i)) (L)) (sp 0)))), fy, fz, lf, ld, fi), (nB, fr, tt, ln, wi, sg, (vf_upd pu i (puF L (ln i)))), (nR, rd, rx, ry, wv, fo), (re, dg), (nP, tp, bt, dp)), (sp, ac, kp, kc, kn, aw, dw, su, ss, sd)) rfl rfl (j := fN fr i) (by decide) (by omega) rfl dX0_tighten_100 (fun H locs hP hS => ?_)
      refine lv_aload_n hx hb dX0_tighten_101 rfl (lv_at hl 4 rfl) ?_
      refine va_get (D := D) (ci := 0) (v := .ref (ad 1)) (C := RX0) (T := TX0) (N := 7) hx hb hts iX0_tighten_X0 hown hK hP 4 rfl rfl 0 (by decide) f_27 (fun _ h9 => h9) rfl dX0_tighten_102 ?_
      refine va_get (D := D) (ci := 3) (v := .ref (ad 8)) (C := RX3) (T := TX3) (N := 6) hx hb hts iX0_tighten_X3 hown hK hP 1 rfl rfl 1 (by decide) f_94 (fun _ h9 => h9) rfl dX0_tighten_105 ?_
      refine lv_iload hx hb dX0_tighten_108 (lv_at hl 0 rfl) ?_
      refine xal hx hb hK hP 8 3 rfl rfl (j := 0) (v := ad 33) (by decide) (by decide) rfl dX0_tighten_110 ?_
      refine lv_aload_n hx hb dX0_tighten_111 rfl (lv_at hl 4 rfl) ?_
      refine va_get (D := D) (ci := 0) (v := .ref (ad 2)) (C := RX0) (T := TX0) (N := 7) hx hb hts iX0_tighten_X0 hown hK hP 4 rfl rfl 1 (by decide) f_31 (fun _ h9 => h9) rfl dX0_tighten_112 ?_
      refine va_get (D := D) (ci := 1) (v := .ref (ad 13)) (C := RX1) (T := TX1) (N := 7) hx hb hts iX0_tighten_X1 hown hK hP 2 rfl rfl 1 (by decide) f_71 (fun _ h9 => h9) rfl dX0_tighten_115 ?_
      refine lv_iload_n hx hb dX0_tighten_118 rfl (lv_at hl 5 rfl) ?_
      refine xil hx hb hK hP 13 1 rfl rfl (j := i) (by decide) (by omega) dX0_tighten_119 ?_
      refine lv_topi (fun t_11 et_11 => ?_)
      have et_11 : t_11 = nI (fN tt i) := et_11.trans eb
      subst et_11
      refine lv_dup2_11 hx hb dX0_tighten_120 rfl rfl ?_
      refine xdl hx hb hK hP 33 0 rfl rfl (j := fN tt i) (by decide) (by omega) dX0_tighten_121 ?_
      refine lv_dload hx hb dX0_tighten_122 (lv_at hl 1 rfl) ?_
      refine lv_aload_n hx hb dX0_tighten_124 rfl (lv_at hl 4 rfl) ?_
      refine va_get (D := D) (ci := 0) (v := .ref (ad 22)) (C := RX0) (T := TX0) (N := 7) hx hb hts iX0_tighten_X0 hown hK hP 4 rfl rfl 5 (by decide) f_21 (fun _ h9 => h9) rfl dX0_tighten_125 ?_
      refine lv_iload hx hb dX0_tighten_128 (lv_at hl 0 rfl) ?_
      refine xdl hx hb hK hP 22 0 rfl rfl (j := 0) (by decide) (by decide) dX0_tighten_130 ?_
      have h_13 : fB (1226) (FP.dmul (FP.ddiv (puF L (ln i)) (L)) (sp 0)) := fB_mul h_4 hs.1 (by omega) (by omega) (by omega)
      refine lv_dmul hx hb dX0_tighten_131 (fB_ne h_13 (by omega)) ?_
      have h_15 : fB (K + 2) (FP.dsub ((vf_upd fx (fN fr i) (FP.dadd (fx (fN fr i)) (FP.dmul (FP.ddiv (puF L (ln i)) (L)) (sp 0)))) (fN tt i)) (FP.dmul (FP.ddiv (puF L (ln i)) (L)) (sp 0))) := fB_sub (M := K) (by rw [vf_ne jab]; exact (hF.1 _ jb).1) h_13 (by omega) (by omega) (by omega)
      refine lv_dsub hx hb dX0_tighten_132 (fB_ne h_15 (by omega)) ?_
      refine xds hx hb hK hD hP hS 33 0 (((nN, px, py, pz, (vf_upd (vf_upd fx (fN fr i) (FP.dadd (fx (fN fr i)) (FP.dmul (FP.ddiv (puF L (ln i)) (L)) (sp 0)))) (fN tt i) (FP.dsub ((vf_upd fx (fN fr i) (FP.dadd (fx (fN fr i)) (FP.dmul (FP.ddiv (puF L (ln i)) (L)) (sp 0)))) (fN tt i)) (FP.dmul (FP.ddiv (puF L (ln i)) (L)) (sp 0)))), fy, fz, lf, ld, fi), (nB, fr, tt, ln, wi, sg, (vf_upd pu i (puF L (ln i)))), (nR, rd, rx, ry, wv, fo), (re, dg), (nP, tp, bt, dp)), (sp, ac, kp, kc, kn, aw, dw, su, ss, sd)) rfl rfl (j := fN tt i) (by decide) (by omega) rfl dX0_tighten_133 (fun H locs hP hS => ?_)
      refine lv_iinc (v := nI 1) (lv' := [(10, .int (nI 1)), (8, .double (FP.ddiv (puF L (ln i)) (L))), (6, .double (puF L (ln i))), (4, .double (ln i)), (0, .ref (ad 4)), (1, .int (nI i)), (2, .double (L))]) hx hb dX0_tighten_134 hl (k := 0) rfl (nI_add _ _) (by decide) rfl (fun ls hl => ?_)
      refine lv_goto (tgt := 62) hx hb dX0_tighten_137 (by decide) ?_
      refine lv_iload hx hb dX0_tighten_62 (lv_at hl 0 rfl) ?_
      refine lv_iconst (v := nI 3) hx hb dX0_tighten_64 (by decide) ?_
      refine lv_icmp_ge (tgt := 140) hx hb dX0_tighten_65 (by decide) (fun c_65_16 => absurd c_65_16 (by decide)) (fun _ => ?_)
      refine lv_aload_n hx hb dX0_tighten_68 rfl (lv_at hl 4 rfl) ?_
      refine va_get (D := D) (ci := 0) (v := .ref (ad 1)) (C := RX0) (T := TX0) (N := 7) hx hb hts iX0_tighten_X0 hown hK hP 4 rfl rfl 0 (by decide) f_27 (fun _ h9 => h9) rfl dX0_tighten_69 ?_
      refine va_get (D := D) (ci := 3) (v := .ref (ad 8)) (C := RX3) (T := TX3) (N := 6) hx hb hts iX0_tighten_X3 hown hK hP 1 rfl rfl 1 (by decide) f_94 (fun _ h9 => h9) rfl dX0_tighten_72 ?_
      refine lv_iload hx hb dX0_tighten_75 (lv_at hl 0 rfl) ?_
      refine xal hx hb hK hP 8 3 rfl rfl (j := 1) (v := ad 34) (by decide) (by decide) rfl dX0_tighten_77 ?_
      refine lv_aload_n hx hb dX0_tighten_78 rfl (lv_at hl 4 rfl) ?_
      refine va_get (D := D) (ci := 0) (v := .ref (ad 2)) (C := RX0) (T := TX0) (N := 7) hx hb hts iX0_tighten_X0 hown hK hP 4 rfl rfl 1 (by decide) f_31 (fun _ h9 => h9) rfl dX0_tighten_79 ?_
      refine va_get (D := D) (ci := 1) (v := .ref (ad 12)) (C := RX1) (T := TX1) (N := 7) hx hb hts iX0_tighten_X1 hown hK hP 2 rfl rfl 0 (by decide) f_75 (fun _ h9 => h9) rfl dX0_tighten_82 ?_
      refine lv_iload_n hx hb dX0_tighten_85 rfl (lv_at hl 5 rfl) ?_
      refine xil hx hb hK hP 12 1 rfl rfl (j := i) (by decide) (by omega) dX0_tighten_86 ?_
      refine lv_topi (fun t_17 et_17 => ?_)
      have et_17 : t_17 = nI (fN fr i) := et_17.trans ea
      subst et_17
      refine lv_dup2_11 hx hb dX0_tighten_87 rfl rfl ?_
      refine xdl hx hb hK hP 34 0 rfl rfl (j := fN fr i) (by decide) (by omega) dX0_tighten_88 ?_
      refine lv_dload hx hb dX0_tighten_89 (lv_at hl 1 rfl) ?_
      refine lv_aload_n hx hb dX0_tighten_91 rfl (lv_at hl 4 rfl) ?_
      refine va_get (D := D) (ci := 0) (v := .ref (ad 22)) (C := RX0) (T := TX0) (N := 7) hx hb hts iX0_tighten_X0 hown hK hP 4 rfl rfl 5 (by decide) f_21 (fun _ h9 => h9) rfl dX0_tighten_92 ?_
      refine lv_iload hx hb dX0_tighten_95 (lv_at hl 0 rfl) ?_
      refine xdl hx hb hK hP 22 0 rfl rfl (j := 1) (by decide) (by decide) dX0_tighten_97 ?_
      have h_19 : fB (1226) (FP.dmul (FP.ddiv (puF L (ln i)) (L)) (sp 1)) := fB_mul h_4 hs.2.1 (by omega) (by omega) (by omega)
      refine lv_dmul hx hb dX0_tighten_98 (fB_ne h_19 (by omega)) ?_
      have h_21 : fB (K + 2) (FP.dadd (fy (fN fr i)) (FP.dmul (FP.ddiv (puF L (ln i)) (L)) (sp 1))) := fB_add (M := K) (hF.2.1 _ ja).1 h_19 (by omega) (by omega) (by omega)
      refine lv_dadd hx hb dX0_tighten_99 (fB_ne h_21 (by omega)) ?_
      refine xds hx hb hK hD hP hS 34 0 (((nN, px, py, pz, (vf_upd (vf_upd fx (fN fr i) (FP.dadd (fx (fN fr i)) (FP.dmul (FP.ddiv (puF L (ln i)) (L)) (sp 0)))) (fN tt i) (FP.dsub ((vf_upd fx (fN fr i) (FP.dadd (fx (fN fr i)) (FP.dmul (FP.ddiv (puF L (ln i)) (L)) (sp 0)))) (fN tt i)) (FP.dmul (FP.ddiv (puF L (ln i)) (L)) (sp 0)))), (vf_upd fy (fN fr i) (FP.dadd (fy (fN fr i)) (FP.dmul (FP.ddiv (puF L (ln i)) (L)) (sp 1)))), fz, lf, ld, fi), (nB, fr, tt, ln, wi, sg, (vf_upd pu i (puF L (ln i)))), (nR, rd, rx, ry, wv, fo), (re, dg), (nP, tp, bt, dp)), (sp, ac, kp, kc, kn, aw, dw, su, ss, sd)) rfl rfl (j := fN fr i) (by decide) (by omega) rfl dX0_tighten_100 (fun H locs hP hS => ?_)
      refine lv_aload_n hx hb dX0_tighten_101 rfl (lv_at hl 4 rfl) ?_
      refine va_get (D := D) (ci := 0) (v := .ref (ad 1)) (C := RX0) (T := TX0) (N := 7) hx hb hts iX0_tighten_X0 hown hK hP 4 rfl rfl 0 (by decide) f_27 (fun _ h9 => h9) rfl dX0_tighten_102 ?_
      refine va_get (D := D) (ci := 3) (v := .ref (ad 8)) (C := RX3) (T := TX3) (N := 6) hx hb hts iX0_tighten_X3 hown hK hP 1 rfl rfl 1 (by decide) f_94 (fun _ h9 => h9) rfl dX0_tighten_105 ?_
      refine lv_iload hx hb dX0_tighten_108 (lv_at hl 0 rfl) ?_
      refine xal hx hb hK hP 8 3 rfl rfl (j := 1) (v := ad 34) (by decide) (by decide) rfl dX0_tighten_110 ?_
      refine lv_aload_n hx hb dX0_tighten_111 rfl (lv_at hl 4 rfl) ?_
      refine va_get (D := D) (ci := 0) (v := .ref (ad 2)) (C := RX0) (T := TX0) (N := 7) hx hb hts iX0_tighten_X0 hown hK hP 4 rfl rfl 1 (by decide) f_31 (fun _ h9 => h9) rfl dX0_tighten_112 ?_
      refine va_get (D := D) (ci := 1) (v := .ref (ad 13)) (C := RX1) (T := TX1) (N := 7) hx hb hts iX0_tighten_X1 hown hK hP 2 rfl rfl 1 (by decide) f_71 (fun _ h9 => h9) rfl dX0_tighten_115 ?_
      refine lv_iload_n hx hb dX0_tighten_118 rfl (lv_at hl 5 rfl) ?_
      refine xil hx hb hK hP 13 1 rfl rfl (j := i) (by decide) (by omega) dX0_tighten_119 ?_
      refine lv_topi (fun t_22 et_22 => ?_)
      have et_22 : t_22 = nI (fN tt i) := et_22.trans eb
      subst et_22
      refine lv_dup2_11 hx hb dX0_tighten_120 rfl rfl ?_
      refine xdl hx hb hK hP 34 0 rfl rfl (j := fN tt i) (by decide) (by omega) dX0_tighten_121 ?_
      refine lv_dload hx hb dX0_tighten_122 (lv_at hl 1 rfl) ?_
      refine lv_aload_n hx hb dX0_tighten_124 rfl (lv_at hl 4 rfl) ?_
      refine va_get (D := D) (ci := 0) (v := .ref (ad 22)) (C := RX0) (T := TX0) (N := 7) hx hb hts iX0_tighten_X0 hown hK hP 4 rfl rfl 5 (by decide) f_21 (fun _ h9 => h9) rfl dX0_tighten_125 ?_
      refine lv_iload hx hb dX0_tighten_128 (lv_at hl 0 rfl) ?_
      refine xdl hx hb hK hP 22 0 rfl rfl (j := 1) (by decide) (by decide) dX0_tighten_130 ?_
      have h_24 : fB (1226) (FP.dmul (FP.ddiv (puF L (ln i)) (L)) (sp 1)) := fB_mul h_4 hs.2.1 (by omega) (by omega) (by omega)
      refine lv_dmul hx hb dX0_tighten_131 (fB_ne h_24 (by omega)) ?_
      have h_26 : fB (K + 2) (FP.dsub ((vf_upd fy (fN fr i) (FP.dadd (fy (fN fr i)) (FP.dmul (FP.ddiv (puF L (ln i)) (L)) (sp 1)))) (fN tt i)) (FP.dmul (FP.ddiv (puF L (ln i)) (L)) (sp 1))) := fB_sub (M := K) (by rw [vf_ne jab]; exact (hF.2.1 _ jb).1) h_24 (by omega) (by omega) (by omega)
      refine lv_dsub hx hb dX0_tighten_132 (fB_ne h_26 (by omega)) ?_
      refine xds hx hb hK hD hP hS 34 0 (((nN, px, py, pz, (vf_upd (vf_upd fx (fN fr i) (FP.dadd (fx (fN fr i)) (FP.dmul (FP.ddiv (puF L (ln i)) (L)) (sp 0)))) (fN tt i) (FP.dsub ((vf_upd fx (fN fr i) (FP.dadd (fx (fN fr i)) (FP.dmul (FP.ddiv (puF L (ln i)) (L)) (sp 0)))) (fN tt i)) (FP.dmul (FP.ddiv (puF L (ln i)) (L)) (sp 0)))), (vf_upd (vf_upd fy (fN fr i) (FP.dadd (fy (fN fr i)) (FP.dmul (FP.ddiv (puF L (ln i)) (L)) (sp 1)))) (fN tt i) (FP.dsub ((vf_upd fy (fN fr i) (FP.dadd (fy (fN fr i)) (FP.dmul (FP.ddiv (puF L (ln i)) (L)) (sp 1)))) (fN tt i)) (FP.dmul (FP.ddiv (puF L (ln i)) (L)) (sp 1)))), fz, lf, ld, fi), (nB, fr, tt, ln, wi, sg, (vf_upd pu i (puF L (ln i)))), (nR, rd, rx, ry, wv, fo), (re, dg), (nP, tp, bt, dp)), (sp, ac, kp, kc, kn, aw, dw, su, ss, sd)) rfl rfl (j := fN tt i) (by decide) (by omega) rfl dX0_tighten_133 (fun H locs hP hS => ?_)
      refine lv_iinc (v := nI 2) (lv' := [(10, .int (nI 2)), (8, .double (FP.ddiv (puF L (ln i)) (L))), (6, .double (puF L (ln i))), (4, .double (ln i)), (0, .ref (ad 4)), (1, .int (nI i)), (2, .double (L))]) hx hb dX0_tighten_134 hl (k := 0) rfl (nI_add _ _) (by decide) rfl (fun ls hl => ?_)
      refine lv_goto (tgt := 62) hx hb dX0_tighten_137 (by decide) ?_
      refine lv_iload hx hb dX0_tighten_62 (lv_at hl 0 rfl) ?_
      refine lv_iconst (v := nI 3) hx hb dX0_tighten_64 (by decide) ?_
      refine lv_icmp_ge (tgt := 140) hx hb dX0_tighten_65 (by decide) (fun c_65_27 => absurd c_65_27 (by decide)) (fun _ => ?_)
      refine lv_aload_n hx hb dX0_tighten_68 rfl (lv_at hl 4 rfl) ?_
      refine va_get (D := D) (ci := 0) (v := .ref (ad 1)) (C := RX0) (T := TX0) (N := 7) hx hb hts iX0_tighten_X0 hown hK hP 4 rfl rfl 0 (by decide) f_27 (fun _ h9 => h9) rfl dX0_tighten_69 ?_
      refine va_get (D := D) (ci := 3) (v := .ref (ad 8)) (C := RX3) (T := TX3) (N := 6) hx hb hts iX0_tighten_X3 hown hK hP 1 rfl rfl 1 (by decide) f_94 (fun _ h9 => h9) rfl dX0_tighten_72 ?_
      refine lv_iload hx hb dX0_tighten_75 (lv_at hl 0 rfl) ?_
      refine xal hx hb hK hP 8 3 rfl rfl (j := 2) (v := ad 35) (by decide) (by decide) rfl dX0_tighten_77 ?_
      refine lv_aload_n hx hb dX0_tighten_78 rfl (lv_at hl 4 rfl) ?_
      refine va_get (D := D) (ci := 0) (v := .ref (ad 2)) (C := RX0) (T := TX0) (N := 7) hx hb hts iX0_tighten_X0 hown hK hP 4 rfl rfl 1 (by decide) f_31 (fun _ h9 => h9) rfl dX0_tighten_79 ?_
      refine va_get (D := D) (ci := 1) (v := .ref (ad 12)) (C := RX1) (T := TX1) (N := 7) hx hb hts iX0_tighten_X1 hown hK hP 2 rfl rfl 0 (by decide) f_75 (fun _ h9 => h9) rfl dX0_tighten_82 ?_
      refine lv_iload_n hx hb dX0_tighten_85 rfl (lv_at hl 5 rfl) ?_
      refine xil hx hb hK hP 12 1 rfl rfl (j := i) (by decide) (by omega) dX0_tighten_86 ?_
      refine lv_topi (fun t_28 et_28 => ?_)
      have et_28 : t_28 = nI (fN fr i) := et_28.trans ea
      subst et_28
      refine lv_dup2_11 hx hb dX0_tighten_87 rfl rfl ?_
      refine xdl hx hb hK hP 35 0 rfl rfl (j := fN fr i) (by decide) (by omega) dX0_tighten_88 ?_
      refine lv_dload hx hb dX0_tighten_89 (lv_at hl 1 rfl) ?_
      refine lv_aload_n hx hb dX0_tighten_91 rfl (lv_at hl 4 rfl) ?_
      refine va_get (D := D) (ci := 0) (v := .ref (ad 22)) (C := RX0) (T := TX0) (N := 7) hx hb hts iX0_tighten_X0 hown hK hP 4 rfl rfl 5 (by decide) f_21 (fun _ h9 => h9) rfl dX0_tighten_92 ?_
      refine lv_iload hx hb dX0_tighten_95 (lv_at hl 0 rfl) ?_
      refine xdl hx hb hK hP 22 0 rfl rfl (j := 2) (by decide) (by decide) dX0_tighten_97 ?_
      have h_30 : fB (1226) (FP.dmul (FP.ddiv (puF L (ln i)) (L)) (sp 2)) := fB_mul h_4 hs.2.2 (by omega) (by omega) (by omega)
      refine lv_dmul hx hb dX0_tighten_98 (fB_ne h_30 (by omega)) ?_
      have h_32 : fB (K + 2) (FP.dadd (fz (fN fr i)) (FP.dmul (FP.ddiv (puF L (ln i)) (L)) (sp 2))) := fB_add (M := K) (hF.2.2.1 _ ja).1 h_30 (by omega) (by omega) (by omega)
      refine lv_dadd hx hb dX0_tighten_99 (fB_ne h_32 (by omega)) ?_
      refine xds hx hb hK hD hP hS 35 0 (((nN, px, py, pz, (vf_upd (vf_upd fx (fN fr i) (FP.dadd (fx (fN fr i)) (FP.dmul (FP.ddiv (puF L (ln i)) (L)) (sp 0)))) (fN tt i) (FP.dsub ((vf_upd fx (fN fr i) (FP.dadd (fx (fN fr i)) (FP.dmul (FP.ddiv (puF L (ln i)) (L)) (sp 0)))) (fN tt i)) (FP.dmul (FP.ddiv (puF L (ln i)) (L)) (sp 0)))), (vf_upd (vf_upd fy (fN fr i) (FP.dadd (fy (fN fr i)) (FP.dmul (FP.ddiv (puF L (ln i)) (L)) (sp 1)))) (fN tt i) (FP.dsub ((vf_upd fy (fN fr i) (FP.dadd (fy (fN fr i)) (FP.dmul (FP.ddiv (puF L (ln i)) (L)) (sp 1)))) (fN tt i)) (FP.dmul (FP.ddiv (puF L (ln i)) (L)) (sp 1)))), (vf_upd fz (fN fr i) (FP.dadd (fz (fN fr i)) (FP.dmul (FP.ddiv (puF L (ln i)) (L)) (sp 2)))), lf, ld, fi), (nB, fr, tt, ln, wi, sg, (vf_upd pu i (puF L (ln i)))), (nR, rd, rx, ry, wv, fo), (re, dg), (nP, tp, bt, dp)), (sp, ac, kp, kc, kn, aw, dw, su, ss, sd)) rfl rfl (j := fN fr i) (by decide) (by omega) rfl dX0_tighten_100 (fun H locs hP hS => ?_)
      refine lv_aload_n hx hb dX0_tighten_101 rfl (lv_at hl 4 rfl) ?_
      refine va_get (D := D) (ci := 0) (v := .ref (ad 1)) (C := RX0) (T := TX0) (N := 7) hx hb hts iX0_tighten_X0 hown hK hP 4 rfl rfl 0 (by decide) f_27 (fun _ h9 => h9) rfl dX0_tighten_102 ?_
      refine va_get (D := D) (ci := 3) (v := .ref (ad 8)) (C := RX3) (T := TX3) (N := 6) hx hb hts iX0_tighten_X3 hown hK hP 1 rfl rfl 1 (by decide) f_94 (fun _ h9 => h9) rfl dX0_tighten_105 ?_
      refine lv_iload hx hb dX0_tighten_108 (lv_at hl 0 rfl) ?_
      refine xal hx hb hK hP 8 3 rfl rfl (j := 2) (v := ad 35) (by decide) (by decide) rfl dX0_tighten_110 ?_
      refine lv_aload_n hx hb dX0_tighten_111 rfl (lv_at hl 4 rfl) ?_
      refine va_get (D := D) (ci := 0) (v := .ref (ad 2)) (C := RX0) (T := TX0) (N := 7) hx hb hts iX0_tighten_X0 hown hK hP 4 rfl rfl 1 (by decide) f_31 (fun _ h9 => h9) rfl dX0_tighten_112 ?_
      refine va_get (D := D) (ci := 1) (v := .ref (ad 13)) (C := RX1) (T := TX1) (N := 7) hx hb hts iX0_tighten_X1 hown hK hP 2 rfl rfl 1 (by decide) f_71 (fun _ h9 => h9) rfl dX0_tighten_115 ?_
      refine lv_iload_n hx hb dX0_tighten_118 rfl (lv_at hl 5 rfl) ?_
      refine xil hx hb hK hP 13 1 rfl rfl (j := i) (by decide) (by omega) dX0_tighten_119 ?_
      refine lv_topi (fun t_33 et_33 => ?_)
      have et_33 : t_33 = nI (fN tt i) := et_33.trans eb
      subst et_33
      refine lv_dup2_11 hx hb dX0_tighten_120 rfl rfl ?_
      refine xdl hx hb hK hP 35 0 rfl rfl (j := fN tt i) (by decide) (by omega) dX0_tighten_121 ?_
      refine lv_dload hx hb dX0_tighten_122 (lv_at hl 1 rfl) ?_
      refine lv_aload_n hx hb dX0_tighten_124 rfl (lv_at hl 4 rfl) ?_
      refine va_get (D := D) (ci := 0) (v := .ref (ad 22)) (C := RX0) (T := TX0) (N := 7) hx hb hts iX0_tighten_X0 hown hK hP 4 rfl rfl 5 (by decide) f_21 (fun _ h9 => h9) rfl dX0_tighten_125 ?_
      refine lv_iload hx hb dX0_tighten_128 (lv_at hl 0 rfl) ?_
      refine xdl hx hb hK hP 22 0 rfl rfl (j := 2) (by decide) (by decide) dX0_tighten_130 ?_
      have h_35 : fB (1226) (FP.dmul (FP.ddiv (puF L (ln i)) (L)) (sp 2)) := fB_mul h_4 hs.2.2 (by omega) (by omega) (by omega)
      refine lv_dmul hx hb dX0_tighten_131 (fB_ne h_35 (by omega)) ?_
      have h_37 : fB (K + 2) (FP.dsub ((vf_upd fz (fN fr i) (FP.dadd (fz (fN fr i)) (FP.dmul (FP.ddiv (puF L (ln i)) (L)) (sp 2)))) (fN tt i)) (FP.dmul (FP.ddiv (puF L (ln i)) (L)) (sp 2))) := fB_sub (M := K) (by rw [vf_ne jab]; exact (hF.2.2.1 _ jb).1) h_35 (by omega) (by omega) (by omega)
      refine lv_dsub hx hb dX0_tighten_132 (fB_ne h_37 (by omega)) ?_
      refine xds hx hb hK hD hP hS 35 0 (((nN, px, py, pz, (vf_upd (vf_upd fx (fN fr i) (FP.dadd (fx (fN fr i)) (FP.dmul (FP.ddiv (puF L (ln i)) (L)) (sp 0)))) (fN tt i) (FP.dsub ((vf_upd fx (fN fr i) (FP.dadd (fx (fN fr i)) (FP.dmul (FP.ddiv (puF L (ln i)) (L)) (sp 0)))) (fN tt i)) (FP.dmul (FP.ddiv (puF L (ln i)) (L)) (sp 0)))), (vf_upd (vf_upd fy (fN fr i) (FP.dadd (fy (fN fr i)) (FP.dmul (FP.ddiv (puF L (ln i)) (L)) (sp 1)))) (fN tt i) (FP.dsub ((vf_upd fy (fN fr i) (FP.dadd (fy (fN fr i)) (FP.dmul (FP.ddiv (puF L (ln i)) (L)) (sp 1)))) (fN tt i)) (FP.dmul (FP.ddiv (puF L (ln i)) (L)) (sp 1)))), (vf_upd (vf_upd fz (fN fr i) (FP.dadd (fz (fN fr i)) (FP.dmul (FP.ddiv (puF L (ln i)) (L)) (sp 2)))) (fN tt i) (FP.dsub ((vf_upd fz (fN fr i) (FP.dadd (fz (fN fr i)) (FP.dmul (FP.ddiv (puF L (ln i)) (L)) (sp 2)))) (fN tt i)) (FP.dmul (FP.ddiv (puF L (ln i)) (L)) (sp 2)))), lf, ld, fi), (nB, fr, tt, ln, wi, sg, (vf_upd pu i (puF L (ln i)))), (nR, rd, rx, ry, wv, fo), (re, dg), (nP, tp, bt, dp)), (sp, ac, kp, kc, kn, aw, dw, su, ss, sd)) rfl rfl (j := fN tt i) (by decide) (by omega) rfl dX0_tighten_133 (fun H locs hP hS => ?_)
      refine lv_iinc (v := nI 3) (lv' := [(10, .int (nI 3)), (8, .double (FP.ddiv (puF L (ln i)) (L))), (6, .double (puF L (ln i))), (4, .double (ln i)), (0, .ref (ad 4)), (1, .int (nI i)), (2, .double (L))]) hx hb dX0_tighten_134 hl (k := 0) rfl (nI_add _ _) (by decide) rfl (fun ls hl => ?_)
      refine lv_goto (tgt := 62) hx hb dX0_tighten_137 (by decide) ?_
      refine lv_iload hx hb dX0_tighten_62 (lv_at hl 0 rfl) ?_
      refine lv_iconst (v := nI 3) hx hb dX0_tighten_64 (by decide) ?_
      refine lv_icmp_ge (tgt := 140) hx hb dX0_tighten_65 (by decide) (fun _ => ?_) (fun c_65_38 => absurd c_65_38 (by decide))
      exact hret hS hP dX0_tighten_140 ((by show (((nN, px, py, pz, (vf_upd (vf_upd fx (fN fr i) (FP.dadd (fx (fN fr i)) (FP.dmul (FP.ddiv (puF L (ln i)) (L)) (sp 0)))) (fN tt i) (FP.dsub ((vf_upd fx (fN fr i) (FP.dadd (fx (fN fr i)) (FP.dmul (FP.ddiv (puF L (ln i)) (L)) (sp 0)))) (fN tt i)) (FP.dmul (FP.ddiv (puF L (ln i)) (L)) (sp 0)))), (vf_upd (vf_upd fy (fN fr i) (FP.dadd (fy (fN fr i)) (FP.dmul (FP.ddiv (puF L (ln i)) (L)) (sp 1)))) (fN tt i) (FP.dsub ((vf_upd fy (fN fr i) (FP.dadd (fy (fN fr i)) (FP.dmul (FP.ddiv (puF L (ln i)) (L)) (sp 1)))) (fN tt i)) (FP.dmul (FP.ddiv (puF L (ln i)) (L)) (sp 1)))), (vf_upd (vf_upd fz (fN fr i) (FP.dadd (fz (fN fr i)) (FP.dmul (FP.ddiv (puF L (ln i)) (L)) (sp 2)))) (fN tt i) (FP.dsub ((vf_upd fz (fN fr i) (FP.dadd (fz (fN fr i)) (FP.dmul (FP.ddiv (puF L (ln i)) (L)) (sp 2)))) (fN tt i)) (FP.dmul (FP.ddiv (puF L (ln i)) (L)) (sp 2)))), lf, ld, fi), (nB, fr, tt, ln, wi, sg, (vf_upd pu i (puF L (ln i)))), (nR, rd, rx, ry, wv, fo), (re, dg), (nP, tp, bt, dp)), (sp, ac, kp, kc, kn, aw, dw, su, ss, sd)) = (((nN, px, py, pz, (tgS L (sp 0) (sp 1) (sp 2) (ln i) (fN fr i) (fN tt i) i (fx, fy, fz, pu, dg)).1, (tgS L (sp 0) (sp 1) (sp 2) (ln i) (fN fr i) (fN tt i) i (fx, fy, fz, pu, dg)).2.1, (tgS L (sp 0) (sp 1) (sp 2) (ln i) (fN fr i) (fN tt i) i (fx, fy, fz, pu, dg)).2.2.1, lf, ld, fi), (nB, fr, tt, ln, wi, sg, (tgS L (sp 0) (sp 1) (sp 2) (ln i) (fN fr i) (fN tt i) i (fx, fy, fz, pu, dg)).2.2.2.1), (nR, rd, rx, ry, wv, fo), (re, (tgS L (sp 0) (sp 1) (sp 2) (ln i) (fN fr i) (fN tt i) i (fx, fy, fz, pu, dg)).2.2.2.2), (nP, tp, bt, dp)), (sp, ac, kp, kc, kn, aw, dw, su, ss, sd)); rw [tgS_p c_49_2]; first | done | rfl))
  refine xc_lgt (tgt := 32) hx hb dX0_tighten_14 dX0_tighten_15 (by decide) (fun c_14_39 => ?_) (fun c_14_39 => ?_)
  · skip
    refine lv_dconst0 hx hb dX0_tighten_32 ?_
    exact J_33_1 (FP.dconst0) ((if_neg c_14_39).symm)
  · skip
    refine lv_ldc2d hx hb hown c_89 dX0_tighten_18 ?_
    refine lv_dload_n hx hb dX0_tighten_21 rfl (lv_at hl 3 rfl) ?_
    refine lv_dload hx hb dX0_tighten_22 (lv_at hl 0 rfl) ?_
    have h_41 : fB (1159) (FP.dsub (L) (ln i)) := fB_sub (M := 1157) hL hln.1 (by omega) (by omega) (by omega)
    refine lv_dsub hx hb dX0_tighten_24 (fB_ne h_41 (by omega)) ?_
    have h_43 : fB (1171) (FP.dmul (4656510908468559872) (FP.dsub (L) (ln i))) := fB_mul (fB_lit (K := 1034) (a := 4656510908468559872) (by decide +kernel)) h_41 (by omega) (by omega) (by omega)
    refine lv_dmul hx hb dX0_tighten_25 (fB_ne h_43 (by omega)) ?_
    refine lv_dload hx hb dX0_tighten_26 (lv_at hl 0 rfl) ?_
    have h_45 : fB (1175) (FP.ddiv (FP.dmul (4656510908468559872) (FP.dsub (L) (ln i))) (ln i)) := fB_div h_43 hln.2.1 (fB_mono hln.1 (by omega)) (by omega) (by omega) (by omega)
    refine lv_ddiv hx hb dX0_tighten_28 (fB_ne h_45 (by omega)) ?_
    refine lv_goto (tgt := 33) hx hb dX0_tighten_29 (by decide) ?_
    exact J_33_1 (FP.ddiv (FP.dmul (4656510908468559872) (FP.dsub (L) (ln i))) (ln i)) ((if_pos c_14_39).symm)
theorem iX0_findFlowAcross_X0 : ∀ w ∈ u_ws RX0 TX0 7, w ∈ wsX0_findFlowAcross := by decide +kernel
theorem iX0_findFlowAcross_X1 : ∀ w ∈ u_ws RX1 TX1 7, w ∈ wsX0_findFlowAcross := by decide +kernel
theorem iX0_findFlowAcross_X3 : ∀ w ∈ u_ws RX3 TX3 6, w ∈ wsX0_findFlowAcross := by decide +kernel
theorem iX0_findFlowAcross_X5 : ∀ w ∈ u_ws RX5 TX5 6, w ∈ wsX0_findFlowAcross := by decide +kernel
set_option maxHeartbeats 4000000 in
set_option maxRecDepth 100000 in
theorem kX0_findFlowAcross (l : Launch) (D : va_G) (cs : Nat → ClassId) (ad : Nat → Nat) (hd : distX ad) (sz : Nat) (S : XS) (hE0 : envOK S.1) (M_ : Nat) (hM : M_ < 262144) (hpl : plOK M_ S.1) (i : Nat) (hi : i < S.1.2.1.1) (L : UInt64) (hL : fB 1157 L) (lL : fL 992 L) (hs : fB 1041 (S.2.1 0) ∧ fB 1041 (S.2.1 1) ∧ fB 1041 (S.2.1 2))  : Met l yX0_findFlowAcross wsX0_findFlowAcross ({ frames := 2, cells := 0, slots := 0, locals := 50 } : Room) (gP D (WX cs ad) (EX D cs) S sz ([.ref (ad 4), .int (nI i), .double (L)] : List Value)) (va_Qv (fun u => match S with | (((nN, px, py, pz, fx, fy, fz, lf, ld, fi), (nB, fr, tt, ln, wi, sg, pu), (nR, rd, rx, ry, wv, fo), (re, dg), (nP, tp, bt, dp)), (sp, ac, kp, kc, kn, aw, dw, su, ss, sd)) => u = (((nN, px, py, pz, fx, fy, fz, lf, ld, fi), (nB, fr, tt, ln, wi, sg, pu), (nR, rd, rx, ry, wv, fo), (re, dg), (nP, tp, bt, dp)), (sp, (ac3 ac (nX rd rx ry pz nR wv (sp 0) (sp 1) L (fN fr i) (fN tt i)) (nY rd rx ry pz nR wv (sp 0) (sp 1) L (fN fr i) (fN tt i)) (nZ rd rx ry pz nR wv (sp 0) (sp 1) (sp 2) L (fN fr i) (fN tt i))), kp, kc, kn, aw, dw, su, ss, sd))) (gB D (WX cs ad)) (gA (AX ad) sz)) 0 0 (gA (AX ad) sz) := by
  obtain ⟨⟨⟨nN, px, py, pz, fx, fy, fz, lf, ld, fi⟩, ⟨nB, fr, tt, ln, wi, sg, pu⟩, ⟨nR, rd, rx, ry, wv, fo⟩, ⟨re, dg⟩, ⟨nP, tp, bt, dp⟩⟩, ⟨sp, ac, kp, kc, kn, aw, dw, su, ss, sd⟩⟩ := S
  have hE00 := hE0
  obtain ⟨hnN, hnB, hnR, hbar, hlw, hr, hwv, hfo, hll⟩ := hE0
  have hbar : barOK nN nB fr tt := hbar
  have hr : rowsOK nR rd rx ry := hr
  have hpl : ∀ j, j < nN → pP M_ (px j) ∧ pP M_ (py j) ∧ pP M_ (pz j) := hpl
  have hp0 : ∀ j, j < nN → fB 1039 (px j) := fun j hj => pP_fB (hpl j hj).1 hM
  have hp1 : ∀ j, j < nN → fB 1039 (py j) := fun j hj => pP_fB (hpl j hj).2.1 hM
  have hp2 : ∀ j, j < nN → fB 1039 (pz j) := fun j hj => pP_fB (hpl j hj).2.2 hM
  have hi : i < nB := hi
  obtain ⟨ea, eb, ja, jb, jab⟩ := hbar i hi
  have hln : natOK (ln i) := (hlw i hi).1
  have hwi : fB 1027 (wi i) := (hlw i hi).2
  have dx0 := dx_ok (hp0 _ ja) (hp0 _ jb)
  have dx1 := dx_ok (hp1 _ ja) (hp1 _ jb)
  have dx2 := dx_ok (hp2 _ ja) (hp2 _ jb)
  have hs : fB 1041 (sp 0) ∧ fB 1041 (sp 1) ∧ fB 1041 (sp 2) := hs
  refine gMv (cc := cX0_findFlowAcross) (maxL := 14) (plainFor_of_name (by decide)) rfl (Nat.le_of_ble_eq_true rfl) ?_
  intro p e s m below meth c Q hx hb hts hown hml hsz hE hret H locs hP hS ls hl
  subst hsz
  have hown : s.vm.findClass RX0 = some m.cls := hown
  have hK : va_K D vwCl (tysX cs) s := hE.1
  have hD : ∀ u, va_D (gA (AX ad) s.heap.size) (WX cs ad u) := fun u => WX_D hd u
  have hl : lv_has ls 14 [(0, .ref (ad 4)), (1, .int (nI i)), (2, .double (L))] := hl
  have c_112 := hts (.constantDouble RX0 112 4602678819172646912) (by decide +kernel)
  have f_21 := hts (.fieldLink RX0 21 "NetShapes$Balance" "span" "[D") (by decide +kernel)
  have f_24 := hts (.fieldLink RX0 24 "NetShapes$Balance" "acrossFlow" "[D") (by decide +kernel)
  have f_27 := hts (.fieldLink RX0 27 "NetShapes$Balance" "nodes" "LNetShapes$Nodes;") (by decide +kernel)
  have f_31 := hts (.fieldLink RX0 31 "NetShapes$Balance" "bars" "LNetShapes$Bars;") (by decide +kernel)
  have f_35 := hts (.fieldLink RX0 35 "NetShapes$Balance" "water" "LNetShapes$Water;") (by decide +kernel)
  have f_67 := hts (.fieldLink RX0 67 "NetShapes$Nodes" "places" "[[D") (by decide +kernel)
  have f_71 := hts (.fieldLink RX0 71 "NetShapes$Bars" "to" "[I") (by decide +kernel)
  have f_75 := hts (.fieldLink RX0 75 "NetShapes$Bars" "from" "[I") (by decide +kernel)
  have f_118 := hts (.fieldLink RX0 118 "NetShapes$Water" "towardsX" "[D") (by decide +kernel)
  have f_125 := hts (.fieldLink RX0 125 "NetShapes$Water" "towardsY" "[D") (by decide +kernel)
  refine lv_aload_n hx hb dX0_findFlowAcross_0 rfl (lv_at hl 0 rfl) ?_
  refine va_get (D := D) (ci := 0) (v := .ref (ad 1)) (C := RX0) (T := TX0) (N := 7) hx hb hts iX0_findFlowAcross_X0 hown hK hP 4 rfl rfl 0 (by decide) f_27 (fun _ h9 => h9) rfl dX0_findFlowAcross_1 ?_
  refine va_get (D := D) (ci := 3) (v := .ref (ad 7)) (C := RX3) (T := TX3) (N := 6) hx hb hts iX0_findFlowAcross_X3 hown hK hP 1 rfl rfl 0 (by decide) f_67 (fun _ h9 => h9) rfl dX0_findFlowAcross_4 ?_
  refine lv_iconst (v := nI 2) hx hb dX0_findFlowAcross_7 (by decide) ?_
  refine xal hx hb hK hP 7 3 rfl rfl (j := 2) (v := ad 32) (by decide) (by decide) rfl dX0_findFlowAcross_8 ?_
  refine lv_astore (lv' := [(4, .ref (ad 32)), (0, .ref (ad 4)), (1, .int (nI i)), (2, .double (L))]) hx hb dX0_findFlowAcross_9 hl (by decide) rfl (fun ls hl => ?_)
  refine lv_ldc2d hx hb hown c_112 dX0_findFlowAcross_11 ?_
  refine lv_aload hx hb dX0_findFlowAcross_14 (lv_at hl 0 rfl) ?_
  refine lv_aload_n hx hb dX0_findFlowAcross_16 rfl (lv_at hl 1 rfl) ?_
  refine va_get (D := D) (ci := 0) (v := .ref (ad 2)) (C := RX0) (T := TX0) (N := 7) hx hb hts iX0_findFlowAcross_X0 hown hK hP 4 rfl rfl 1 (by decide) f_31 (fun _ h9 => h9) rfl dX0_findFlowAcross_17 ?_
  refine va_get (D := D) (ci := 1) (v := .ref (ad 12)) (C := RX1) (T := TX1) (N := 7) hx hb hts iX0_findFlowAcross_X1 hown hK hP 2 rfl rfl 0 (by decide) f_75 (fun _ h9 => h9) rfl dX0_findFlowAcross_20 ?_
  refine lv_iload_n hx hb dX0_findFlowAcross_23 rfl (lv_at hl 2 rfl) ?_
  refine xil hx hb hK hP 12 1 rfl rfl (j := i) (by decide) (by omega) dX0_findFlowAcross_24 ?_
  refine lv_topi (fun t_1 et_1 => ?_)
  have et_1 : t_1 = nI (fN fr i) := et_1.trans ea
  subst et_1
  refine xdl hx hb hK hP 32 0 rfl rfl (j := fN fr i) (by decide) (by omega) dX0_findFlowAcross_25 ?_
  refine lv_aload hx hb dX0_findFlowAcross_26 (lv_at hl 0 rfl) ?_
  refine lv_aload_n hx hb dX0_findFlowAcross_28 rfl (lv_at hl 1 rfl) ?_
  refine va_get (D := D) (ci := 0) (v := .ref (ad 2)) (C := RX0) (T := TX0) (N := 7) hx hb hts iX0_findFlowAcross_X0 hown hK hP 4 rfl rfl 1 (by decide) f_31 (fun _ h9 => h9) rfl dX0_findFlowAcross_29 ?_
  refine va_get (D := D) (ci := 1) (v := .ref (ad 13)) (C := RX1) (T := TX1) (N := 7) hx hb hts iX0_findFlowAcross_X1 hown hK hP 2 rfl rfl 1 (by decide) f_71 (fun _ h9 => h9) rfl dX0_findFlowAcross_32 ?_
  refine lv_iload_n hx hb dX0_findFlowAcross_35 rfl (lv_at hl 2 rfl) ?_
  refine xil hx hb hK hP 13 1 rfl rfl (j := i) (by decide) (by omega) dX0_findFlowAcross_36 ?_
  refine lv_topi (fun t_2 et_2 => ?_)
  have et_2 : t_2 = nI (fN tt i) := et_2.trans eb
  subst et_2
  refine xdl hx hb hK hP 32 0 rfl rfl (j := fN tt i) (by decide) (by omega) dX0_findFlowAcross_37 ?_
  have h_4 : fB (1041) (FP.dadd (pz (fN fr i)) (pz (fN tt i))) := fB_add (M := 1039) (hp2 _ ja) (hp2 _ jb) (by omega) (by omega) (by omega)
  refine lv_dadd hx hb dX0_findFlowAcross_38 (fB_ne h_4 (by omega)) ?_
  have h_6 : fB (1042) (FP.dmul (4602678819172646912) (FP.dadd (pz (fN fr i)) (pz (fN tt i)))) := fB_mul (fB_lit (K := 1023) (a := 4602678819172646912) (by decide +kernel)) h_4 (by omega) (by omega) (by omega)
  refine lv_dmul hx hb dX0_findFlowAcross_39 (fB_ne h_6 (by omega)) ?_
  refine lv_topd (fun t_7 et_7 => ?_)
  have et_7 : depF pz (fN fr i) (fN tt i) = t_7 := (et_7).symm
  subst et_7
  refine lv_dstore (lv' := [(5, .double (depF pz (fN fr i) (fN tt i))), (4, .ref (ad 32)), (0, .ref (ad 4)), (1, .int (nI i)), (2, .double (L))]) hx hb dX0_findFlowAcross_40 hl (by decide) rfl (fun ls hl => ?_)
  refine lv_aload_n hx hb dX0_findFlowAcross_42 rfl (lv_at hl 2 rfl) ?_
  refine va_get (D := D) (ci := 0) (v := .ref (ad 3)) (C := RX0) (T := TX0) (N := 7) hx hb hts iX0_findFlowAcross_X0 hown hK hP 4 rfl rfl 2 (by decide) f_35 (fun _ h9 => h9) rfl dX0_findFlowAcross_43 ?_
  refine lv_dload hx hb dX0_findFlowAcross_46 (lv_at hl 0 rfl) ?_
  refine gci (va_runV (As := [.double (depF pz (fN fr i) (fN tt i))]) (rest := []) ⟨hx, hb, hml, hown, hts⟩ (kX5_rowAtOrAbove l D cs ad hd H.size (((nN, px, py, pz, fx, fy, fz, lf, ld, fi), (nB, fr, tt, ln, wi, sg, pu), (nR, rd, rx, ry, wv, fo), (re, dg), (nP, tp, bt, dp)), (sp, ac, kp, kc, kn, aw, dw, su, ss, sd)) hnR (depF pz (fN fr i) (fN tt i))) (cwV 1 hts gX0_findFlowAcross_X5_rowAtOrAbove rfl rfl rfl (by decide +kernel) ⟨Nat.le_of_ble_eq_true rfl, Nat.le_of_ble_eq_true rfl⟩) (gPreV (EX_bl) (va_recv hK hP (ci := 5) (q0 := 3) rfl rfl) hP (fun U _ hW => EX_warm hW hE)) rfl rfl hl.1 rfl (lv_room (Nat.le_of_ble_eq_true rfl)) dX0_findFlowAcross_48 ⟨Nat.zero_le _, Nat.zero_le _⟩) hS (fun r_ u_ H locs hw hP hS => ?_)
  obtain ⟨rfl, ci, hC, hw⟩ := hw
  have hC : isC rd (depF pz (fN fr i) (fN tt i)) nR ci := hC
  have ec : ci = cF rd (depF pz (fN fr i) (fN tt i)) nR := isC_uniq hC (cF_isC _ _ _)
  have hc : cF rd (depF pz (fN fr i) (fN tt i)) nR ≤ nR := (cF_isC _ _ _).1
  subst ec
  subst hw
  refine lv_istore (lv' := [(7, .int (rwF (cF rd (depF pz (fN fr i) (fN tt i)) nR))), (5, .double (depF pz (fN fr i) (fN tt i))), (4, .ref (ad 32)), (0, .ref (ad 4)), (1, .int (nI i)), (2, .double (L))]) hx hb dX0_findFlowAcross_51 hl (by decide) rfl (fun ls hl => ?_)
  refine lv_aload_n hx hb dX0_findFlowAcross_53 rfl (lv_at hl 3 rfl) ?_
  refine va_get (D := D) (ci := 0) (v := .ref (ad 3)) (C := RX0) (T := TX0) (N := 7) hx hb hts iX0_findFlowAcross_X0 hown hK hP 4 rfl rfl 2 (by decide) f_35 (fun _ h9 => h9) rfl dX0_findFlowAcross_54 ?_
  refine lv_aload_n hx hb dX0_findFlowAcross_57 rfl (lv_at hl 3 rfl) ?_
  refine va_get (D := D) (ci := 0) (v := .ref (ad 3)) (C := RX0) (T := TX0) (N := 7) hx hb hts iX0_findFlowAcross_X0 hown hK hP 4 rfl rfl 2 (by decide) f_35 (fun _ h9 => h9) rfl dX0_findFlowAcross_58 ?_
  refine va_get (D := D) (ci := 5) (v := .ref (ad 19)) (C := RX5) (T := TX5) (N := 6) hx hb hts iX0_findFlowAcross_X5 hown hK hP 3 rfl rfl 1 (by decide) f_118 (fun _ h9 => h9) rfl dX0_findFlowAcross_61 ?_
  refine lv_dload hx hb dX0_findFlowAcross_64 (lv_at hl 1 rfl) ?_
  refine lv_iload hx hb dX0_findFlowAcross_66 (lv_at hl 0 rfl) ?_
  refine gcd (va_runV (As := [.ref (ad 19), .double (depF pz (fN fr i) (fN tt i)), .int (rwF (cF rd (depF pz (fN fr i) (fN tt i)) nR))]) (rest := []) ⟨hx, hb, hml, hown, hts⟩ (kX5_speedAt_19 l D cs ad hd H.size (((nN, px, py, pz, fx, fy, fz, lf, ld, fi), (nB, fr, tt, ln, wi, sg, pu), (nR, rd, rx, ry, wv, fo), (re, dg), (nP, tp, bt, dp)), (sp, ac, kp, kc, kn, aw, dw, su, ss, sd)) hnR hr hwv (depF pz (fN fr i) (fN tt i)) (dep_ok (hp2 _ ja) (hp2 _ jb)) (cF rd (depF pz (fN fr i) (fN tt i)) nR) hc) (cwV 3 hts gX0_findFlowAcross_X5_speedAt rfl rfl rfl (by decide +kernel) ⟨Nat.le_of_ble_eq_true rfl, Nat.le_of_ble_eq_true rfl⟩) (gPreV (EX_bl) (va_recv hK hP (ci := 5) (q0 := 3) rfl rfl) hP (fun U _ hW => EX_warm hW hE)) rfl rfl hl.1 rfl (lv_room (Nat.le_of_ble_eq_true rfl)) dX0_findFlowAcross_68 ⟨Nat.zero_le _, Nat.zero_le _⟩) hS (fun r_ u_ H locs hw hP hS => ?_)
  obtain ⟨rfl, hw⟩ := hw
  have hw : r_ = flU rd rx pz nR wv (fN fr i) (fN tt i) := hw
  subst hw
  refine lv_dstore (lv' := [(8, .double (flU rd rx pz nR wv (fN fr i) (fN tt i))), (7, .int (rwF (cF rd (depF pz (fN fr i) (fN tt i)) nR))), (5, .double (depF pz (fN fr i) (fN tt i))), (4, .ref (ad 32)), (0, .ref (ad 4)), (1, .int (nI i)), (2, .double (L))]) hx hb dX0_findFlowAcross_71 hl (by decide) rfl (fun ls hl => ?_)
  refine lv_aload_n hx hb dX0_findFlowAcross_73 rfl (lv_at hl 4 rfl) ?_
  refine va_get (D := D) (ci := 0) (v := .ref (ad 3)) (C := RX0) (T := TX0) (N := 7) hx hb hts iX0_findFlowAcross_X0 hown hK hP 4 rfl rfl 2 (by decide) f_35 (fun _ h9 => h9) rfl dX0_findFlowAcross_74 ?_
  refine lv_aload_n hx hb dX0_findFlowAcross_77 rfl (lv_at hl 4 rfl) ?_
  refine va_get (D := D) (ci := 0) (v := .ref (ad 3)) (C := RX0) (T := TX0) (N := 7) hx hb hts iX0_findFlowAcross_X0 hown hK hP 4 rfl rfl 2 (by decide) f_35 (fun _ h9 => h9) rfl dX0_findFlowAcross_78 ?_
  refine va_get (D := D) (ci := 5) (v := .ref (ad 20)) (C := RX5) (T := TX5) (N := 6) hx hb hts iX0_findFlowAcross_X5 hown hK hP 3 rfl rfl 2 (by decide) f_125 (fun _ h9 => h9) rfl dX0_findFlowAcross_81 ?_
  refine lv_dload hx hb dX0_findFlowAcross_84 (lv_at hl 2 rfl) ?_
  refine lv_iload hx hb dX0_findFlowAcross_86 (lv_at hl 1 rfl) ?_
  refine gcd (va_runV (As := [.ref (ad 20), .double (depF pz (fN fr i) (fN tt i)), .int (rwF (cF rd (depF pz (fN fr i) (fN tt i)) nR))]) (rest := []) ⟨hx, hb, hml, hown, hts⟩ (kX5_speedAt_20 l D cs ad hd H.size (((nN, px, py, pz, fx, fy, fz, lf, ld, fi), (nB, fr, tt, ln, wi, sg, pu), (nR, rd, rx, ry, wv, fo), (re, dg), (nP, tp, bt, dp)), (sp, ac, kp, kc, kn, aw, dw, su, ss, sd)) hnR hr hwv (depF pz (fN fr i) (fN tt i)) (dep_ok (hp2 _ ja) (hp2 _ jb)) (cF rd (depF pz (fN fr i) (fN tt i)) nR) hc) (cwV 3 hts gX0_findFlowAcross_X5_speedAt rfl rfl rfl (by decide +kernel) ⟨Nat.le_of_ble_eq_true rfl, Nat.le_of_ble_eq_true rfl⟩) (gPreV (EX_bl) (va_recv hK hP (ci := 5) (q0 := 3) rfl rfl) hP (fun U _ hW => EX_warm hW hE)) rfl rfl hl.1 rfl (lv_room (Nat.le_of_ble_eq_true rfl)) dX0_findFlowAcross_88 ⟨Nat.zero_le _, Nat.zero_le _⟩) hS (fun r_ u_ H locs hw hP hS => ?_)
  obtain ⟨rfl, hw⟩ := hw
  have hw : r_ = flU rd ry pz nR wv (fN fr i) (fN tt i) := hw
  subst hw
  refine lv_dstore (lv' := [(10, .double (flU rd ry pz nR wv (fN fr i) (fN tt i))), (8, .double (flU rd rx pz nR wv (fN fr i) (fN tt i))), (7, .int (rwF (cF rd (depF pz (fN fr i) (fN tt i)) nR))), (5, .double (depF pz (fN fr i) (fN tt i))), (4, .ref (ad 32)), (0, .ref (ad 4)), (1, .int (nI i)), (2, .double (L))]) hx hb dX0_findFlowAcross_91 hl (by decide) rfl (fun ls hl => ?_)
  refine lv_dload hx hb dX0_findFlowAcross_93 (lv_at hl 1 rfl) ?_
  refine lv_aload_n hx hb dX0_findFlowAcross_95 rfl (lv_at hl 5 rfl) ?_
  refine va_get (D := D) (ci := 0) (v := .ref (ad 22)) (C := RX0) (T := TX0) (N := 7) hx hb hts iX0_findFlowAcross_X0 hown hK hP 4 rfl rfl 5 (by decide) f_21 (fun _ h9 => h9) rfl dX0_findFlowAcross_96 ?_
  refine lv_iconst (v := nI 0) hx hb dX0_findFlowAcross_99 (by decide) ?_
  refine xdl hx hb hK hP 22 0 rfl rfl (j := 0) (by decide) (by decide) dX0_findFlowAcross_100 ?_
  have h_9 : fB (1117) (FP.dmul (flU rd rx pz nR wv (fN fr i) (fN tt i)) (sp 0)) := fB_mul (flU_ok (f := rx) hr (fun j hj => (hr.2 j hj).2.2.1) (hp2 _ ja) (hp2 _ jb) hwv) hs.1 (by omega) (by omega) (by omega)
  refine lv_dmul hx hb dX0_findFlowAcross_101 (fB_ne h_9 (by omega)) ?_
  refine lv_dload hx hb dX0_findFlowAcross_102 (lv_at hl 0 rfl) ?_
  refine lv_aload_n hx hb dX0_findFlowAcross_104 rfl (lv_at hl 5 rfl) ?_
  refine va_get (D := D) (ci := 0) (v := .ref (ad 22)) (C := RX0) (T := TX0) (N := 7) hx hb hts iX0_findFlowAcross_X0 hown hK hP 4 rfl rfl 5 (by decide) f_21 (fun _ h9 => h9) rfl dX0_findFlowAcross_105 ?_
  refine lv_iconst (v := nI 1) hx hb dX0_findFlowAcross_108 (by decide) ?_
  refine xdl hx hb hK hP 22 0 rfl rfl (j := 1) (by decide) (by decide) dX0_findFlowAcross_109 ?_
  have h_11 : fB (1117) (FP.dmul (flU rd ry pz nR wv (fN fr i) (fN tt i)) (sp 1)) := fB_mul (flU_ok (f := ry) hr (fun j hj => (hr.2 j hj).2.2.2) (hp2 _ ja) (hp2 _ jb) hwv) hs.2.1 (by omega) (by omega) (by omega)
  refine lv_dmul hx hb dX0_findFlowAcross_110 (fB_ne h_11 (by omega)) ?_
  have h_13 : fB (1119) (FP.dadd (FP.dmul (flU rd rx pz nR wv (fN fr i) (fN tt i)) (sp 0)) (FP.dmul (flU rd ry pz nR wv (fN fr i) (fN tt i)) (sp 1))) := fB_add (M := 1117) h_9 h_11 (by omega) (by omega) (by omega)
  refine lv_dadd hx hb dX0_findFlowAcross_111 (fB_ne h_13 (by omega)) ?_
  refine lv_dload_n hx hb dX0_findFlowAcross_112 rfl (lv_at hl 7 rfl) ?_
  have h_15 : fB (1151) (FP.ddiv (FP.dadd (FP.dmul (flU rd rx pz nR wv (fN fr i) (fN tt i)) (sp 0)) (FP.dmul (flU rd ry pz nR wv (fN fr i) (fN tt i)) (sp 1))) (L)) := fB_div h_13 lL (fB_mono hL (by omega)) (by omega) (by omega) (by omega)
  refine lv_ddiv hx hb dX0_findFlowAcross_113 (fB_ne h_15 (by omega)) ?_
  refine lv_topd (fun t_16 et_16 => ?_)
  have et_16 : nW rd rx ry pz nR wv (sp 0) (sp 1) L (fN fr i) (fN tt i) = t_16 := (et_16).symm
  subst et_16
  refine lv_dstore (lv' := [(12, .double (nW rd rx ry pz nR wv (sp 0) (sp 1) L (fN fr i) (fN tt i))), (10, .double (flU rd ry pz nR wv (fN fr i) (fN tt i))), (8, .double (flU rd rx pz nR wv (fN fr i) (fN tt i))), (7, .int (rwF (cF rd (depF pz (fN fr i) (fN tt i)) nR))), (5, .double (depF pz (fN fr i) (fN tt i))), (4, .ref (ad 32)), (0, .ref (ad 4)), (1, .int (nI i)), (2, .double (L))]) hx hb dX0_findFlowAcross_114 hl (by decide) rfl (fun ls hl => ?_)
  refine lv_aload_n hx hb dX0_findFlowAcross_116 rfl (lv_at hl 6 rfl) ?_
  refine va_get (D := D) (ci := 0) (v := .ref (ad 23)) (C := RX0) (T := TX0) (N := 7) hx hb hts iX0_findFlowAcross_X0 hown hK hP 4 rfl rfl 6 (by decide) f_24 (fun _ h9 => h9) rfl dX0_findFlowAcross_117 ?_
  refine lv_iconst (v := nI 0) hx hb dX0_findFlowAcross_120 (by decide) ?_
  refine lv_dload hx hb dX0_findFlowAcross_121 (lv_at hl 2 rfl) ?_
  refine lv_dload hx hb dX0_findFlowAcross_123 (lv_at hl 0 rfl) ?_
  refine lv_aload_n hx hb dX0_findFlowAcross_125 rfl (lv_at hl 6 rfl) ?_
  refine va_get (D := D) (ci := 0) (v := .ref (ad 22)) (C := RX0) (T := TX0) (N := 7) hx hb hts iX0_findFlowAcross_X0 hown hK hP 4 rfl rfl 5 (by decide) f_21 (fun _ h9 => h9) rfl dX0_findFlowAcross_126 ?_
  refine lv_iconst (v := nI 0) hx hb dX0_findFlowAcross_129 (by decide) ?_
  refine xdl hx hb hK hP 22 0 rfl rfl (j := 0) (by decide) (by decide) dX0_findFlowAcross_130 ?_
  have h_18 : fB (1170) (FP.dmul (nW rd rx ry pz nR wv (sp 0) (sp 1) L (fN fr i) (fN tt i)) (sp 0)) := fB_mul h_15 hs.1 (by omega) (by omega) (by omega)
  refine lv_dmul hx hb dX0_findFlowAcross_131 (fB_ne h_18 (by omega)) ?_
  refine lv_dload_n hx hb dX0_findFlowAcross_132 rfl (lv_at hl 8 rfl) ?_
  have h_20 : fB (1202) (FP.ddiv (FP.dmul (nW rd rx ry pz nR wv (sp 0) (sp 1) L (fN fr i) (fN tt i)) (sp 0)) (L)) := fB_div h_18 lL (fB_mono hL (by omega)) (by omega) (by omega) (by omega)
  refine lv_ddiv hx hb dX0_findFlowAcross_133 (fB_ne h_20 (by omega)) ?_
  have h_22 : fB (1204) (FP.dsub (flU rd rx pz nR wv (fN fr i) (fN tt i)) (FP.ddiv (FP.dmul (nW rd rx ry pz nR wv (sp 0) (sp 1) L (fN fr i) (fN tt i)) (sp 0)) (L))) := fB_sub (M := 1202) (flU_ok (f := rx) hr (fun j hj => (hr.2 j hj).2.2.1) (hp2 _ ja) (hp2 _ jb) hwv) h_20 (by omega) (by omega) (by omega)
  refine lv_dsub hx hb dX0_findFlowAcross_134 (fB_ne h_22 (by omega)) ?_
  refine lv_topd (fun t_23 et_23 => ?_)
  have et_23 : nX rd rx ry pz nR wv (sp 0) (sp 1) L (fN fr i) (fN tt i) = t_23 := (et_23).symm
  subst et_23
  refine xds hx hb hK hD hP hS 23 0 (((nN, px, py, pz, fx, fy, fz, lf, ld, fi), (nB, fr, tt, ln, wi, sg, pu), (nR, rd, rx, ry, wv, fo), (re, dg), (nP, tp, bt, dp)), (sp, (vf_upd ac 0 (nX rd rx ry pz nR wv (sp 0) (sp 1) L (fN fr i) (fN tt i))), kp, kc, kn, aw, dw, su, ss, sd)) rfl rfl (j := 0) (by decide) (by decide) rfl dX0_findFlowAcross_135 (fun H locs hP hS => ?_)
  refine lv_aload_n hx hb dX0_findFlowAcross_136 rfl (lv_at hl 6 rfl) ?_
  refine va_get (D := D) (ci := 0) (v := .ref (ad 23)) (C := RX0) (T := TX0) (N := 7) hx hb hts iX0_findFlowAcross_X0 hown hK hP 4 rfl rfl 6 (by decide) f_24 (fun _ h9 => h9) rfl dX0_findFlowAcross_137 ?_
  refine lv_iconst (v := nI 1) hx hb dX0_findFlowAcross_140 (by decide) ?_
  refine lv_dload hx hb dX0_findFlowAcross_141 (lv_at hl 1 rfl) ?_
  refine lv_dload hx hb dX0_findFlowAcross_143 (lv_at hl 0 rfl) ?_
  refine lv_aload_n hx hb dX0_findFlowAcross_145 rfl (lv_at hl 6 rfl) ?_
  refine va_get (D := D) (ci := 0) (v := .ref (ad 22)) (C := RX0) (T := TX0) (N := 7) hx hb hts iX0_findFlowAcross_X0 hown hK hP 4 rfl rfl 5 (by decide) f_21 (fun _ h9 => h9) rfl dX0_findFlowAcross_146 ?_
  refine lv_iconst (v := nI 1) hx hb dX0_findFlowAcross_149 (by decide) ?_
  refine xdl hx hb hK hP 22 0 rfl rfl (j := 1) (by decide) (by decide) dX0_findFlowAcross_150 ?_
  have h_25 : fB (1170) (FP.dmul (nW rd rx ry pz nR wv (sp 0) (sp 1) L (fN fr i) (fN tt i)) (sp 1)) := fB_mul h_15 hs.2.1 (by omega) (by omega) (by omega)
  refine lv_dmul hx hb dX0_findFlowAcross_151 (fB_ne h_25 (by omega)) ?_
  refine lv_dload_n hx hb dX0_findFlowAcross_152 rfl (lv_at hl 8 rfl) ?_
  have h_27 : fB (1202) (FP.ddiv (FP.dmul (nW rd rx ry pz nR wv (sp 0) (sp 1) L (fN fr i) (fN tt i)) (sp 1)) (L)) := fB_div h_25 lL (fB_mono hL (by omega)) (by omega) (by omega) (by omega)
  refine lv_ddiv hx hb dX0_findFlowAcross_153 (fB_ne h_27 (by omega)) ?_
  have h_29 : fB (1204) (FP.dsub (flU rd ry pz nR wv (fN fr i) (fN tt i)) (FP.ddiv (FP.dmul (nW rd rx ry pz nR wv (sp 0) (sp 1) L (fN fr i) (fN tt i)) (sp 1)) (L))) := fB_sub (M := 1202) (flU_ok (f := ry) hr (fun j hj => (hr.2 j hj).2.2.2) (hp2 _ ja) (hp2 _ jb) hwv) h_27 (by omega) (by omega) (by omega)
  refine lv_dsub hx hb dX0_findFlowAcross_154 (fB_ne h_29 (by omega)) ?_
  refine lv_topd (fun t_30 et_30 => ?_)
  have et_30 : nY rd rx ry pz nR wv (sp 0) (sp 1) L (fN fr i) (fN tt i) = t_30 := (et_30).symm
  subst et_30
  refine xds hx hb hK hD hP hS 23 0 (((nN, px, py, pz, fx, fy, fz, lf, ld, fi), (nB, fr, tt, ln, wi, sg, pu), (nR, rd, rx, ry, wv, fo), (re, dg), (nP, tp, bt, dp)), (sp, (vf_upd (vf_upd ac 0 (nX rd rx ry pz nR wv (sp 0) (sp 1) L (fN fr i) (fN tt i))) 1 (nY rd rx ry pz nR wv (sp 0) (sp 1) L (fN fr i) (fN tt i))), kp, kc, kn, aw, dw, su, ss, sd)) rfl rfl (j := 1) (by decide) (by decide) rfl dX0_findFlowAcross_155 (fun H locs hP hS => ?_)
  refine lv_aload_n hx hb dX0_findFlowAcross_156 rfl (lv_at hl 6 rfl) ?_
  refine va_get (D := D) (ci := 0) (v := .ref (ad 23)) (C := RX0) (T := TX0) (N := 7) hx hb hts iX0_findFlowAcross_X0 hown hK hP 4 rfl rfl 6 (by decide) f_24 (fun _ h9 => h9) rfl dX0_findFlowAcross_157 ?_
  refine lv_iconst (v := nI 2) hx hb dX0_findFlowAcross_160 (by decide) ?_
  refine lv_dconst0 hx hb dX0_findFlowAcross_161 ?_
  refine lv_dload hx hb dX0_findFlowAcross_162 (lv_at hl 0 rfl) ?_
  refine lv_aload_n hx hb dX0_findFlowAcross_164 rfl (lv_at hl 6 rfl) ?_
  refine va_get (D := D) (ci := 0) (v := .ref (ad 22)) (C := RX0) (T := TX0) (N := 7) hx hb hts iX0_findFlowAcross_X0 hown hK hP 4 rfl rfl 5 (by decide) f_21 (fun _ h9 => h9) rfl dX0_findFlowAcross_165 ?_
  refine lv_iconst (v := nI 2) hx hb dX0_findFlowAcross_168 (by decide) ?_
  refine xdl hx hb hK hP 22 0 rfl rfl (j := 2) (by decide) (by decide) dX0_findFlowAcross_169 ?_
  have h_32 : fB (1170) (FP.dmul (nW rd rx ry pz nR wv (sp 0) (sp 1) L (fN fr i) (fN tt i)) (sp 2)) := fB_mul h_15 hs.2.2 (by omega) (by omega) (by omega)
  refine lv_dmul hx hb dX0_findFlowAcross_170 (fB_ne h_32 (by omega)) ?_
  refine lv_dload_n hx hb dX0_findFlowAcross_171 rfl (lv_at hl 8 rfl) ?_
  have h_34 : fB (1202) (FP.ddiv (FP.dmul (nW rd rx ry pz nR wv (sp 0) (sp 1) L (fN fr i) (fN tt i)) (sp 2)) (L)) := fB_div h_32 lL (fB_mono hL (by omega)) (by omega) (by omega) (by omega)
  refine lv_ddiv hx hb dX0_findFlowAcross_172 (fB_ne h_34 (by omega)) ?_
  have h_36 : fB (1204) (FP.dsub (FP.dconst0) (FP.ddiv (FP.dmul (nW rd rx ry pz nR wv (sp 0) (sp 1) L (fN fr i) (fN tt i)) (sp 2)) (L))) := fB_sub (M := 1202) fB_c0 h_34 (by omega) (by omega) (by omega)
  refine lv_dsub hx hb dX0_findFlowAcross_173 (fB_ne h_36 (by omega)) ?_
  refine lv_topd (fun t_37 et_37 => ?_)
  have et_37 : nZ rd rx ry pz nR wv (sp 0) (sp 1) (sp 2) L (fN fr i) (fN tt i) = t_37 := (et_37).symm
  subst et_37
  refine xds hx hb hK hD hP hS 23 0 (((nN, px, py, pz, fx, fy, fz, lf, ld, fi), (nB, fr, tt, ln, wi, sg, pu), (nR, rd, rx, ry, wv, fo), (re, dg), (nP, tp, bt, dp)), (sp, (vf_upd (vf_upd (vf_upd ac 0 (nX rd rx ry pz nR wv (sp 0) (sp 1) L (fN fr i) (fN tt i))) 1 (nY rd rx ry pz nR wv (sp 0) (sp 1) L (fN fr i) (fN tt i))) 2 (nZ rd rx ry pz nR wv (sp 0) (sp 1) (sp 2) L (fN fr i) (fN tt i))), kp, kc, kn, aw, dw, su, ss, sd)) rfl rfl (j := 2) (by decide) (by decide) rfl dX0_findFlowAcross_174 (fun H locs hP hS => ?_)
  exact hret hS hP dX0_findFlowAcross_175 (rfl)
theorem iX0_wash_X0 : ∀ w ∈ u_ws RX0 TX0 7, w ∈ wsX0_wash := by decide +kernel
theorem iX0_wash_X1 : ∀ w ∈ u_ws RX1 TX1 7, w ∈ wsX0_wash := by decide +kernel
theorem iX0_wash_X3 : ∀ w ∈ u_ws RX3 TX3 6, w ∈ wsX0_wash := by decide +kernel
theorem iX0_wash_X5 : ∀ w ∈ u_ws RX5 TX5 6, w ∈ wsX0_wash := by decide +kernel
set_option maxHeartbeats 4000000 in
set_option maxRecDepth 100000 in
theorem kX0_wash (l : Launch) (D : va_G) (cs : Nat → ClassId) (ad : Nat → Nat) (hd : distX ad) (sz : Nat) (S : XS) (hE0 : envOK S.1) (M_ : Nat) (hM : M_ < 262144) (hpl : plOK M_ S.1) (i : Nat) (hi : i < S.1.2.1.1) (L : UInt64) (hL : fB 1157 L) (lL : fL 992 L) (hs : fB 1041 (S.2.1 0) ∧ fB 1041 (S.2.1 1) ∧ fB 1041 (S.2.1 2)) (K : Nat) (hK0 : 1700 ≤ K) (hK_ : K ≤ 1990) (hF : frOK K (S.1.1.1) (S.1.1.2.2.2.2.1, S.1.1.2.2.2.2.2.1, S.1.1.2.2.2.2.2.2.1, S.1.2.1.2.2.2.2.2.2, S.1.2.2.2.1.2))  : Met l yX0_wash wsX0_wash ({ frames := 3, cells := 0, slots := 0, locals := 83 } : Room) (gP D (WX cs ad) (EX D cs) S sz ([.ref (ad 4), .int (nI i), .double (L)] : List Value)) (va_Qv (fun u => match S with | (((nN, px, py, pz, fx, fy, fz, lf, ld, fi), (nB, fr, tt, ln, wi, sg, pu), (nR, rd, rx, ry, wv, fo), (re, dg), (nP, tp, bt, dp)), (sp, ac, kp, kc, kn, aw, dw, su, ss, sd)) => u = (((nN, px, py, pz, (waS rd rx ry pz nR wv (wi i) fo (ln i) sp L (fN fr i) (fN tt i) (fx, fy, fz, pu, dg)).1, (waS rd rx ry pz nR wv (wi i) fo (ln i) sp L (fN fr i) (fN tt i) (fx, fy, fz, pu, dg)).2.1, (waS rd rx ry pz nR wv (wi i) fo (ln i) sp L (fN fr i) (fN tt i) (fx, fy, fz, pu, dg)).2.2.1, lf, ld, fi), (nB, fr, tt, ln, wi, sg, (waS rd rx ry pz nR wv (wi i) fo (ln i) sp L (fN fr i) (fN tt i) (fx, fy, fz, pu, dg)).2.2.2.1), (nR, rd, rx, ry, wv, fo), (re, (waS rd rx ry pz nR wv (wi i) fo (ln i) sp L (fN fr i) (fN tt i) (fx, fy, fz, pu, dg)).2.2.2.2), (nP, tp, bt, dp)), (sp, (ac3 ac (nX rd rx ry pz nR wv (sp 0) (sp 1) L (fN fr i) (fN tt i)) (nY rd rx ry pz nR wv (sp 0) (sp 1) L (fN fr i) (fN tt i)) (nZ rd rx ry pz nR wv (sp 0) (sp 1) (sp 2) L (fN fr i) (fN tt i))), kp, kc, kn, aw, dw, su, ss, sd))) (gB D (WX cs ad)) (gA (AX ad) sz)) 0 0 (gA (AX ad) sz) := by
  obtain ⟨⟨⟨nN, px, py, pz, fx, fy, fz, lf, ld, fi⟩, ⟨nB, fr, tt, ln, wi, sg, pu⟩, ⟨nR, rd, rx, ry, wv, fo⟩, ⟨re, dg⟩, ⟨nP, tp, bt, dp⟩⟩, ⟨sp, ac, kp, kc, kn, aw, dw, su, ss, sd⟩⟩ := S
  have hE00 := hE0
  obtain ⟨hnN, hnB, hnR, hbar, hlw, hr, hwv, hfo, hll⟩ := hE0
  have hbar : barOK nN nB fr tt := hbar
  have hr : rowsOK nR rd rx ry := hr
  have hpl : ∀ j, j < nN → pP M_ (px j) ∧ pP M_ (py j) ∧ pP M_ (pz j) := hpl
  have hp0 : ∀ j, j < nN → fB 1039 (px j) := fun j hj => pP_fB (hpl j hj).1 hM
  have hp1 : ∀ j, j < nN → fB 1039 (py j) := fun j hj => pP_fB (hpl j hj).2.1 hM
  have hp2 : ∀ j, j < nN → fB 1039 (pz j) := fun j hj => pP_fB (hpl j hj).2.2 hM
  have hi : i < nB := hi
  obtain ⟨ea, eb, ja, jb, jab⟩ := hbar i hi
  have hln : natOK (ln i) := (hlw i hi).1
  have hwi : fB 1027 (wi i) := (hlw i hi).2
  have dx0 := dx_ok (hp0 _ ja) (hp0 _ jb)
  have dx1 := dx_ok (hp1 _ ja) (hp1 _ jb)
  have dx2 := dx_ok (hp2 _ ja) (hp2 _ jb)
  have hs : fB 1041 (sp 0) ∧ fB 1041 (sp 1) ∧ fB 1041 (sp 2) := hs
  have hF : (∀ j, j < nN → fOK K (fx j)) ∧ (∀ j, j < nN → fOK K (fy j)) ∧ (∀ j, j < nN → fOK K (fz j)) ∧ fB K (dg 0) ∧ fB K (dg 1) ∧ fB K (dg 2) := hF
  refine gMv (cc := cX0_wash) (maxL := 7) (plainFor_of_name (by decide)) rfl (Nat.le_of_ble_eq_true rfl) ?_
  intro p e s m below meth c Q hx hb hts hown hml hsz hE hret H locs hP hS ls hl
  subst hsz
  have hown : s.vm.findClass RX0 = some m.cls := hown
  have hK : va_K D vwCl (tysX cs) s := hE.1
  have hD : ∀ u, va_D (gA (AX ad) s.heap.size) (WX cs ad u) := fun u => WX_D hd u
  have hl : lv_has ls 7 [(0, .ref (ad 4)), (1, .int (nI i)), (2, .double (L))] := hl
  have c_100 := hts (.constantDouble RX0 100 4638707616191610880) (by decide +kernel)
  have c_110 := hts (.constantDouble RX0 110 4611686018427387904) (by decide +kernel)
  have f_9 := hts (.fieldLink RX0 9 "NetShapes$Balance" "drags" "[D") (by decide +kernel)
  have f_24 := hts (.fieldLink RX0 24 "NetShapes$Balance" "acrossFlow" "[D") (by decide +kernel)
  have f_27 := hts (.fieldLink RX0 27 "NetShapes$Balance" "nodes" "LNetShapes$Nodes;") (by decide +kernel)
  have f_31 := hts (.fieldLink RX0 31 "NetShapes$Balance" "bars" "LNetShapes$Bars;") (by decide +kernel)
  have f_35 := hts (.fieldLink RX0 35 "NetShapes$Balance" "water" "LNetShapes$Water;") (by decide +kernel)
  have f_71 := hts (.fieldLink RX0 71 "NetShapes$Bars" "to" "[I") (by decide +kernel)
  have f_75 := hts (.fieldLink RX0 75 "NetShapes$Bars" "from" "[I") (by decide +kernel)
  have f_86 := hts (.fieldLink RX0 86 "NetShapes$Bars" "length" "[D") (by decide +kernel)
  have f_94 := hts (.fieldLink RX0 94 "NetShapes$Nodes" "forces" "[[D") (by decide +kernel)
  have f_102 := hts (.fieldLink RX0 102 "NetShapes$Bars" "width" "[D") (by decide +kernel)
  have f_105 := hts (.fieldLink RX0 105 "NetShapes$Water" "foulShare" "D") (by decide +kernel)
  refine lv_aload_n hx hb dX0_wash_0 rfl (lv_at hl 0 rfl) ?_
  refine lv_iload_n hx hb dX0_wash_1 rfl (lv_at hl 1 rfl) ?_
  refine lv_dload_n hx hb dX0_wash_2 rfl (lv_at hl 2 rfl) ?_
  refine gcv (va_runV (As := [.int (nI i), .double (L)]) (rest := []) ⟨hx, hb, hml, hown, hts⟩ (kX0_findFlowAcross l D cs ad hd H.size (((nN, px, py, pz, fx, fy, fz, lf, ld, fi), (nB, fr, tt, ln, wi, sg, pu), (nR, rd, rx, ry, wv, fo), (re, dg), (nP, tp, bt, dp)), (sp, ac, kp, kc, kn, aw, dw, su, ss, sd)) hE00 M_ hM hpl i hi L hL lL hs) (cwV 2 hts gX0_wash_X0_findFlowAcross rfl rfl rfl (by decide +kernel) ⟨Nat.le_of_ble_eq_true rfl, Nat.le_of_ble_eq_true rfl⟩) (gPreV (EX_bl) (va_recv hK hP (ci := 0) (q0 := 4) rfl rfl) hP (fun U _ hW => EX_warm hW hE)) rfl rfl hl.1 rfl (lv_room (Nat.le_of_ble_eq_true rfl)) dX0_wash_3 ⟨Nat.zero_le _, Nat.zero_le _⟩) hS (fun u_ H locs hw hP hS => ?_)
  obtain rfl := hw
  have hP : va_P D vwCl (WX cs ad (((nN, px, py, pz, fx, fy, fz, lf, ld, fi), (nB, fr, tt, ln, wi, sg, pu), (nR, rd, rx, ry, wv, fo), (re, dg), (nP, tp, bt, dp)), (sp, (ac3 ac (nX rd rx ry pz nR wv (sp 0) (sp 1) L (fN fr i) (fN tt i)) (nY rd rx ry pz nR wv (sp 0) (sp 1) L (fN fr i) (fN tt i)) (nZ rd rx ry pz nR wv (sp 0) (sp 1) (sp 2) L (fN fr i) (fN tt i))), kp, kc, kn, aw, dw, su, ss, sd))) H := hP
  obtain ⟨bX, bY, bZ⟩ := across_ok (a := fN fr i) (b := fN tt i) hr (hp2 _ ja) (hp2 _ jb) hwv hs.1 hs.2.1 hs.2.2 hL lL
  obtain ⟨X_, eX⟩ : ∃ x, x = nX rd rx ry pz nR wv (sp 0) (sp 1) L (fN fr i) (fN tt i) := ⟨_, rfl⟩
  rw [← eX] at hP bX
  obtain ⟨Y_, eY⟩ : ∃ x, x = nY rd rx ry pz nR wv (sp 0) (sp 1) L (fN fr i) (fN tt i) := ⟨_, rfl⟩
  rw [← eY] at hP bY
  obtain ⟨Z_, eZ⟩ : ∃ x, x = nZ rd rx ry pz nR wv (sp 0) (sp 1) (sp 2) L (fN fr i) (fN tt i) := ⟨_, rfl⟩
  rw [← eZ] at hP bZ
  refine lv_ldc2d hx hb hown c_100 dX0_wash_6 ?_
  refine lv_aload_n hx hb dX0_wash_9 rfl (lv_at hl 0 rfl) ?_
  refine va_get (D := D) (ci := 0) (v := .ref (ad 2)) (C := RX0) (T := TX0) (N := 7) hx hb hts iX0_wash_X0 hown hK hP 4 rfl rfl 1 (by decide) f_31 (fun _ h9 => h9) rfl dX0_wash_10 ?_
  refine va_get (D := D) (ci := 1) (v := .ref (ad 15)) (C := RX1) (T := TX1) (N := 7) hx hb hts iX0_wash_X1 hown hK hP 2 rfl rfl 3 (by decide) f_102 (fun _ h9 => h9) rfl dX0_wash_13 ?_
  refine lv_iload_n hx hb dX0_wash_16 rfl (lv_at hl 1 rfl) ?_
  refine xdl hx hb hK hP 15 0 rfl rfl (j := i) (by decide) (by omega) dX0_wash_17 ?_
  have h_2 : fB (1036) (FP.dmul (4638707616191610880) (wi i)) := fB_mul (fB_lit (K := 1031) (a := 4638707616191610880) (by decide +kernel)) hwi (by omega) (by omega) (by omega)
  refine lv_dmul hx hb dX0_wash_18 (fB_ne h_2 (by omega)) ?_
  refine lv_dconst1 hx hb dX0_wash_19 ?_
  refine lv_aload_n hx hb dX0_wash_20 rfl (lv_at hl 0 rfl) ?_
  refine va_get (D := D) (ci := 0) (v := .ref (ad 3)) (C := RX0) (T := TX0) (N := 7) hx hb hts iX0_wash_X0 hown hK hP 4 rfl rfl 2 (by decide) f_35 (fun _ h9 => h9) rfl dX0_wash_21 ?_
  refine va_get (D := D) (ci := 5) (v := .double (fo)) (C := RX5) (T := TX5) (N := 6) hx hb hts iX0_wash_X5 hown hK hP 3 rfl rfl 5 (by decide) f_105 (fun _ h9 => h9) rfl dX0_wash_24 ?_
  have h_4 : fB (1028) (FP.dadd (FP.dconst1) (fo)) := fB_add (M := 1026) fB_c1 hfo (by omega) (by omega) (by omega)
  refine lv_dadd hx hb dX0_wash_27 (fB_ne h_4 (by omega)) ?_
  have h_6 : fB (1042) (FP.dmul (FP.dmul (4638707616191610880) (wi i)) (FP.dadd (FP.dconst1) (fo))) := fB_mul h_2 h_4 (by omega) (by omega) (by omega)
  refine lv_dmul hx hb dX0_wash_28 (fB_ne h_6 (by omega)) ?_
  refine lv_aload_n hx hb dX0_wash_29 rfl (lv_at hl 0 rfl) ?_
  refine va_get (D := D) (ci := 0) (v := .ref (ad 2)) (C := RX0) (T := TX0) (N := 7) hx hb hts iX0_wash_X0 hown hK hP 4 rfl rfl 1 (by decide) f_31 (fun _ h9 => h9) rfl dX0_wash_30 ?_
  refine va_get (D := D) (ci := 1) (v := .ref (ad 14)) (C := RX1) (T := TX1) (N := 7) hx hb hts iX0_wash_X1 hown hK hP 2 rfl rfl 2 (by decide) f_86 (fun _ h9 => h9) rfl dX0_wash_33 ?_
  refine lv_iload_n hx hb dX0_wash_36 rfl (lv_at hl 1 rfl) ?_
  refine xdl hx hb hK hP 14 0 rfl rfl (j := i) (by decide) (by omega) dX0_wash_37 ?_
  have h_8 : fB (1053) (FP.dmul (FP.dmul (FP.dmul (4638707616191610880) (wi i)) (FP.dadd (FP.dconst1) (fo))) (ln i)) := fB_mul h_6 hln.1 (by omega) (by omega) (by omega)
  refine lv_dmul hx hb dX0_wash_38 (fB_ne h_8 (by omega)) ?_
  refine lv_aload_n hx hb dX0_wash_39 rfl (lv_at hl 0 rfl) ?_
  refine va_get (D := D) (ci := 0) (v := .ref (ad 23)) (C := RX0) (T := TX0) (N := 7) hx hb hts iX0_wash_X0 hown hK hP 4 rfl rfl 6 (by decide) f_24 (fun _ h9 => h9) rfl dX0_wash_40 ?_
  refine gcd (va_runS (As := [.ref (ad 23)]) (rest := [.double (FP.dmul (FP.dmul (FP.dmul (4638707616191610880) (wi i)) (FP.dadd (FP.dconst1) (fo))) (ln i))]) ⟨hx, hb, hml, hown, hts⟩ (kX0_lengthOf_23 l D cs ad hd H.size (((nN, px, py, pz, fx, fy, fz, lf, ld, fi), (nB, fr, tt, ln, wi, sg, pu), (nR, rd, rx, ry, wv, fo), (re, dg), (nP, tp, bt, dp)), (sp, (ac3 ac X_ Y_ Z_), kp, kc, kn, aw, dw, su, ss, sd)) 1204 (by decide) (by decide) ⟨bX, bY, bZ⟩) (va_cwS 1 hts gX0_wash_X0_lengthOf rfl rfl rfl (by decide +kernel) ⟨Nat.le_of_ble_eq_true rfl, Nat.le_of_ble_eq_true rfl⟩) (gPreS (EX_bl) hP (fun U _ hW => EX_warm hW hE)) rfl rfl hl.1 rfl (lv_room (Nat.le_of_ble_eq_true rfl)) dX0_wash_43 ⟨Nat.zero_le _, Nat.zero_le _⟩) hS (fun r_ u_ H locs hw hP hS => ?_)
  obtain ⟨rfl, hw⟩ := hw
  have hw : r_ = rootF (l2 X_ Y_ Z_) := hw
  subst hw
  have h_10 : fB (1514) (FP.dmul (FP.dmul (FP.dmul (FP.dmul (4638707616191610880) (wi i)) (FP.dadd (FP.dconst1) (fo))) (ln i)) (rootF (l2 X_ Y_ Z_))) := fB_mul h_8 (s_ok bX bY bZ) (by omega) (by omega) (by omega)
  refine lv_dmul hx hb dX0_wash_46 (fB_ne h_10 (by omega)) ?_
  refine lv_topd (fun t_11 et_11 => ?_)
  have et_11 : qF (wi i) fo (ln i) (rootF (l2 X_ Y_ Z_)) = t_11 := (et_11).symm
  subst et_11
  refine lv_dstore (lv' := [(4, .double (qF (wi i) fo (ln i) (rootF (l2 X_ Y_ Z_)))), (0, .ref (ad 4)), (1, .int (nI i)), (2, .double (L))]) hx hb dX0_wash_47 hl (by decide) rfl (fun ls hl => ?_)
  refine lv_iconst (v := nI 0) hx hb dX0_wash_49 (by decide) ?_
  refine lv_istore (lv' := [(6, .int (nI 0)), (4, .double (qF (wi i) fo (ln i) (rootF (l2 X_ Y_ Z_)))), (0, .ref (ad 4)), (1, .int (nI i)), (2, .double (L))]) hx hb dX0_wash_50 hl (by decide) rfl (fun ls hl => ?_)
  refine lv_iload hx hb dX0_wash_52 (lv_at hl 0 rfl) ?_
  refine lv_iconst (v := nI 3) hx hb dX0_wash_54 (by decide) ?_
  refine lv_icmp_ge (tgt := 154) hx hb dX0_wash_55 (by decide) (fun c_55_12 => absurd c_55_12 (by decide)) (fun _ => ?_)
  refine lv_aload_n hx hb dX0_wash_58 rfl (lv_at hl 2 rfl) ?_
  refine va_get (D := D) (ci := 0) (v := .ref (ad 21)) (C := RX0) (T := TX0) (N := 7) hx hb hts iX0_wash_X0 hown hK hP 4 rfl rfl 3 (by decide) f_9 (fun _ h9 => h9) rfl dX0_wash_59 ?_
  refine lv_iload hx hb dX0_wash_62 (lv_at hl 0 rfl) ?_
  refine lv_dup2_11 hx hb dX0_wash_64 rfl rfl ?_
  refine xdl hx hb hK hP 21 0 rfl rfl (j := 0) (by decide) (by decide) dX0_wash_65 ?_
  refine lv_topd (fun t_13 et_13 => ?_)
  have et_13 : dg 0 = t_13 := (et_13).symm
  subst et_13
  refine lv_ldc2d hx hb hown c_110 dX0_wash_66 ?_
  refine lv_dload hx hb dX0_wash_69 (lv_at hl 1 rfl) ?_
  have h_15 : fB (1517) (FP.dmul (4611686018427387904) (qF (wi i) fo (ln i) (rootF (l2 X_ Y_ Z_)))) := fB_mul (fB_lit (K := 1025) (a := 4611686018427387904) (by decide +kernel)) (q_ok hwi hfo hln.1 (s_ok bX bY bZ)) (by omega) (by omega) (by omega)
  refine lv_dmul hx hb dX0_wash_71 (fB_ne h_15 (by omega)) ?_
  refine lv_aload_n hx hb dX0_wash_72 rfl (lv_at hl 2 rfl) ?_
  refine va_get (D := D) (ci := 0) (v := .ref (ad 23)) (C := RX0) (T := TX0) (N := 7) hx hb hts iX0_wash_X0 hown hK hP 4 rfl rfl 6 (by decide) f_24 (fun _ h9 => h9) rfl dX0_wash_73 ?_
  refine lv_iload hx hb dX0_wash_76 (lv_at hl 0 rfl) ?_
  refine xdl hx hb hK hP 23 0 rfl rfl (j := 0) (by decide) (by decide) dX0_wash_78 ?_
  refine lv_topd (fun t_16 et_16 => ?_)
  have et_16 : X_ = t_16 := (et_16).symm
  subst et_16
  have h_18 : fB (1699) (FP.dmul (FP.dmul (4611686018427387904) (qF (wi i) fo (ln i) (rootF (l2 X_ Y_ Z_)))) (X_)) := fB_mul h_15 bX (by omega) (by omega) (by omega)
  refine lv_dmul hx hb dX0_wash_79 (fB_ne h_18 (by omega)) ?_
  have h_20 : fB (K + 2) (FP.dadd (dg 0) (FP.dmul (FP.dmul (4611686018427387904) (qF (wi i) fo (ln i) (rootF (l2 X_ Y_ Z_)))) (X_))) := fB_add (M := K) hF.2.2.2.1 h_18 (by omega) (by omega) (by omega)
  refine lv_dadd hx hb dX0_wash_80 (fB_ne h_20 (by omega)) ?_
  refine xds hx hb hK hD hP hS 21 0 (((nN, px, py, pz, fx, fy, fz, lf, ld, fi), (nB, fr, tt, ln, wi, sg, pu), (nR, rd, rx, ry, wv, fo), (re, (vf_upd dg 0 (FP.dadd (dg 0) (FP.dmul (FP.dmul (4611686018427387904) (qF (wi i) fo (ln i) (rootF (l2 X_ Y_ Z_)))) (X_))))), (nP, tp, bt, dp)), (sp, (ac3 ac X_ Y_ Z_), kp, kc, kn, aw, dw, su, ss, sd)) rfl rfl (j := 0) (by decide) (by decide) rfl dX0_wash_81 (fun H locs hP hS => ?_)
  refine lv_aload_n hx hb dX0_wash_82 rfl (lv_at hl 2 rfl) ?_
  refine va_get (D := D) (ci := 0) (v := .ref (ad 1)) (C := RX0) (T := TX0) (N := 7) hx hb hts iX0_wash_X0 hown hK hP 4 rfl rfl 0 (by decide) f_27 (fun _ h9 => h9) rfl dX0_wash_83 ?_
  refine va_get (D := D) (ci := 3) (v := .ref (ad 8)) (C := RX3) (T := TX3) (N := 6) hx hb hts iX0_wash_X3 hown hK hP 1 rfl rfl 1 (by decide) f_94 (fun _ h9 => h9) rfl dX0_wash_86 ?_
  refine lv_iload hx hb dX0_wash_89 (lv_at hl 0 rfl) ?_
  refine xal hx hb hK hP 8 3 rfl rfl (j := 0) (v := ad 33) (by decide) (by decide) rfl dX0_wash_91 ?_
  refine lv_aload_n hx hb dX0_wash_92 rfl (lv_at hl 2 rfl) ?_
  refine va_get (D := D) (ci := 0) (v := .ref (ad 2)) (C := RX0) (T := TX0) (N := 7) hx hb hts iX0_wash_X0 hown hK hP 4 rfl rfl 1 (by decide) f_31 (fun _ h9 => h9) rfl dX0_wash_93 ?_
  refine va_get (D := D) (ci := 1) (v := .ref (ad 12)) (C := RX1) (T := TX1) (N := 7) hx hb hts iX0_wash_X1 hown hK hP 2 rfl rfl 0 (by decide) f_75 (fun _ h9 => h9) rfl dX0_wash_96 ?_
  refine lv_iload_n hx hb dX0_wash_99 rfl (lv_at hl 3 rfl) ?_
  refine xil hx hb hK hP 12 1 rfl rfl (j := i) (by decide) (by omega) dX0_wash_100 ?_
  refine lv_topi (fun t_21 et_21 => ?_)
  have et_21 : t_21 = nI (fN fr i) := et_21.trans ea
  subst et_21
  refine lv_dup2_11 hx hb dX0_wash_101 rfl rfl ?_
  refine xdl hx hb hK hP 33 0 rfl rfl (j := fN fr i) (by decide) (by omega) dX0_wash_102 ?_
  refine lv_dload hx hb dX0_wash_103 (lv_at hl 1 rfl) ?_
  refine lv_aload_n hx hb dX0_wash_105 rfl (lv_at hl 2 rfl) ?_
  refine va_get (D := D) (ci := 0) (v := .ref (ad 23)) (C := RX0) (T := TX0) (N := 7) hx hb hts iX0_wash_X0 hown hK hP 4 rfl rfl 6 (by decide) f_24 (fun _ h9 => h9) rfl dX0_wash_106 ?_
  refine lv_iload hx hb dX0_wash_109 (lv_at hl 0 rfl) ?_
  refine xdl hx hb hK hP 23 0 rfl rfl (j := 0) (by decide) (by decide) dX0_wash_111 ?_
  refine lv_topd (fun t_22 et_22 => ?_)
  have et_22 : X_ = t_22 := (et_22).symm
  subst et_22
  have h_24 : fB (1696) (FP.dmul (qF (wi i) fo (ln i) (rootF (l2 X_ Y_ Z_))) (X_)) := fB_mul (q_ok hwi hfo hln.1 (s_ok bX bY bZ)) bX (by omega) (by omega) (by omega)
  refine lv_dmul hx hb dX0_wash_112 (fB_ne h_24 (by omega)) ?_
  have h_26 : fB (K + 2) (FP.dadd (fx (fN fr i)) (FP.dmul (qF (wi i) fo (ln i) (rootF (l2 X_ Y_ Z_))) (X_))) := fB_add (M := K) (hF.1 _ ja).1 h_24 (by omega) (by omega) (by omega)
  refine lv_dadd hx hb dX0_wash_113 (fB_ne h_26 (by omega)) ?_
  refine xds hx hb hK hD hP hS 33 0 (((nN, px, py, pz, (vf_upd fx (fN fr i) (FP.dadd (fx (fN fr i)) (FP.dmul (qF (wi i) fo (ln i) (rootF (l2 X_ Y_ Z_))) (X_)))), fy, fz, lf, ld, fi), (nB, fr, tt, ln, wi, sg, pu), (nR, rd, rx, ry, wv, fo), (re, (vf_upd dg 0 (FP.dadd (dg 0) (FP.dmul (FP.dmul (4611686018427387904) (qF (wi i) fo (ln i) (rootF (l2 X_ Y_ Z_)))) (X_))))), (nP, tp, bt, dp)), (sp, (ac3 ac X_ Y_ Z_), kp, kc, kn, aw, dw, su, ss, sd)) rfl rfl (j := fN fr i) (by decide) (by omega) rfl dX0_wash_114 (fun H locs hP hS => ?_)
  refine lv_aload_n hx hb dX0_wash_115 rfl (lv_at hl 2 rfl) ?_
  refine va_get (D := D) (ci := 0) (v := .ref (ad 1)) (C := RX0) (T := TX0) (N := 7) hx hb hts iX0_wash_X0 hown hK hP 4 rfl rfl 0 (by decide) f_27 (fun _ h9 => h9) rfl dX0_wash_116 ?_
  refine va_get (D := D) (ci := 3) (v := .ref (ad 8)) (C := RX3) (T := TX3) (N := 6) hx hb hts iX0_wash_X3 hown hK hP 1 rfl rfl 1 (by decide) f_94 (fun _ h9 => h9) rfl dX0_wash_119 ?_
  refine lv_iload hx hb dX0_wash_122 (lv_at hl 0 rfl) ?_
  refine xal hx hb hK hP 8 3 rfl rfl (j := 0) (v := ad 33) (by decide) (by decide) rfl dX0_wash_124 ?_
  refine lv_aload_n hx hb dX0_wash_125 rfl (lv_at hl 2 rfl) ?_
  refine va_get (D := D) (ci := 0) (v := .ref (ad 2)) (C := RX0) (T := TX0) (N := 7) hx hb hts iX0_wash_X0 hown hK hP 4 rfl rfl 1 (by decide) f_31 (fun _ h9 => h9) rfl dX0_wash_126 ?_
  refine va_get (D := D) (ci := 1) (v := .ref (ad 13)) (C := RX1) (T := TX1) (N := 7) hx hb hts iX0_wash_X1 hown hK hP 2 rfl rfl 1 (by decide) f_71 (fun _ h9 => h9) rfl dX0_wash_129 ?_
  refine lv_iload_n hx hb dX0_wash_132 rfl (lv_at hl 3 rfl) ?_
  refine xil hx hb hK hP 13 1 rfl rfl (j := i) (by decide) (by omega) dX0_wash_133 ?_
  refine lv_topi (fun t_27 et_27 => ?_)
  have et_27 : t_27 = nI (fN tt i) := et_27.trans eb
  subst et_27
  refine lv_dup2_11 hx hb dX0_wash_134 rfl rfl ?_
  refine xdl hx hb hK hP 33 0 rfl rfl (j := fN tt i) (by decide) (by omega) dX0_wash_135 ?_
  refine lv_dload hx hb dX0_wash_136 (lv_at hl 1 rfl) ?_
  refine lv_aload_n hx hb dX0_wash_138 rfl (lv_at hl 2 rfl) ?_
  refine va_get (D := D) (ci := 0) (v := .ref (ad 23)) (C := RX0) (T := TX0) (N := 7) hx hb hts iX0_wash_X0 hown hK hP 4 rfl rfl 6 (by decide) f_24 (fun _ h9 => h9) rfl dX0_wash_139 ?_
  refine lv_iload hx hb dX0_wash_142 (lv_at hl 0 rfl) ?_
  refine xdl hx hb hK hP 23 0 rfl rfl (j := 0) (by decide) (by decide) dX0_wash_144 ?_
  refine lv_topd (fun t_28 et_28 => ?_)
  have et_28 : X_ = t_28 := (et_28).symm
  subst et_28
  have h_30 : fB (1696) (FP.dmul (qF (wi i) fo (ln i) (rootF (l2 X_ Y_ Z_))) (X_)) := fB_mul (q_ok hwi hfo hln.1 (s_ok bX bY bZ)) bX (by omega) (by omega) (by omega)
  refine lv_dmul hx hb dX0_wash_145 (fB_ne h_30 (by omega)) ?_
  have h_32 : fB (K + 2) (FP.dadd ((vf_upd fx (fN fr i) (FP.dadd (fx (fN fr i)) (FP.dmul (qF (wi i) fo (ln i) (rootF (l2 X_ Y_ Z_))) (X_)))) (fN tt i)) (FP.dmul (qF (wi i) fo (ln i) (rootF (l2 X_ Y_ Z_))) (X_))) := fB_add (M := K) (by rw [vf_ne jab]; exact (hF.1 _ jb).1) h_30 (by omega) (by omega) (by omega)
  refine lv_dadd hx hb dX0_wash_146 (fB_ne h_32 (by omega)) ?_
  refine xds hx hb hK hD hP hS 33 0 (((nN, px, py, pz, (vf_upd (vf_upd fx (fN fr i) (FP.dadd (fx (fN fr i)) (FP.dmul (qF (wi i) fo (ln i) (rootF (l2 X_ Y_ Z_))) (X_)))) (fN tt i) (FP.dadd ((vf_upd fx (fN fr i) (FP.dadd (fx (fN fr i)) (FP.dmul (qF (wi i) fo (ln i) (rootF (l2 X_ Y_ Z_))) (X_)))) (fN tt i)) (FP.dmul (qF (wi i) fo (ln i) (rootF (l2 X_ Y_ Z_))) (X_)))), fy, fz, lf, ld, fi), (nB, fr, tt, ln, wi, sg, pu), (nR, rd, rx, ry, wv, fo), (re, (vf_upd dg 0 (FP.dadd (dg 0) (FP.dmul (FP.dmul (4611686018427387904) (qF (wi i) fo (ln i) (rootF (l2 X_ Y_ Z_)))) (X_))))), (nP, tp, bt, dp)), (sp, (ac3 ac X_ Y_ Z_), kp, kc, kn, aw, dw, su, ss, sd)) rfl rfl (j := fN tt i) (by decide) (by omega) rfl dX0_wash_147 (fun H locs hP hS => ?_)
  refine lv_iinc (v := nI 1) (lv' := [(6, .int (nI 1)), (4, .double (qF (wi i) fo (ln i) (rootF (l2 X_ Y_ Z_)))), (0, .ref (ad 4)), (1, .int (nI i)), (2, .double (L))]) hx hb dX0_wash_148 hl (k := 0) rfl (nI_add _ _) (by decide) rfl (fun ls hl => ?_)
  refine lv_goto (tgt := 52) hx hb dX0_wash_151 (by decide) ?_
  refine lv_iload hx hb dX0_wash_52 (lv_at hl 0 rfl) ?_
  refine lv_iconst (v := nI 3) hx hb dX0_wash_54 (by decide) ?_
  refine lv_icmp_ge (tgt := 154) hx hb dX0_wash_55 (by decide) (fun c_55_33 => absurd c_55_33 (by decide)) (fun _ => ?_)
  refine lv_aload_n hx hb dX0_wash_58 rfl (lv_at hl 2 rfl) ?_
  refine va_get (D := D) (ci := 0) (v := .ref (ad 21)) (C := RX0) (T := TX0) (N := 7) hx hb hts iX0_wash_X0 hown hK hP 4 rfl rfl 3 (by decide) f_9 (fun _ h9 => h9) rfl dX0_wash_59 ?_
  refine lv_iload hx hb dX0_wash_62 (lv_at hl 0 rfl) ?_
  refine lv_dup2_11 hx hb dX0_wash_64 rfl rfl ?_
  refine xdl hx hb hK hP 21 0 rfl rfl (j := 1) (by decide) (by decide) dX0_wash_65 ?_
  refine lv_topd (fun t_34 et_34 => ?_)
  have et_34 : dg 1 = t_34 := (et_34).symm
  subst et_34
  refine lv_ldc2d hx hb hown c_110 dX0_wash_66 ?_
  refine lv_dload hx hb dX0_wash_69 (lv_at hl 1 rfl) ?_
  have h_36 : fB (1517) (FP.dmul (4611686018427387904) (qF (wi i) fo (ln i) (rootF (l2 X_ Y_ Z_)))) := fB_mul (fB_lit (K := 1025) (a := 4611686018427387904) (by decide +kernel)) (q_ok hwi hfo hln.1 (s_ok bX bY bZ)) (by omega) (by omega) (by omega)
  refine lv_dmul hx hb dX0_wash_71 (fB_ne h_36 (by omega)) ?_
  refine lv_aload_n hx hb dX0_wash_72 rfl (lv_at hl 2 rfl) ?_
  refine va_get (D := D) (ci := 0) (v := .ref (ad 23)) (C := RX0) (T := TX0) (N := 7) hx hb hts iX0_wash_X0 hown hK hP 4 rfl rfl 6 (by decide) f_24 (fun _ h9 => h9) rfl dX0_wash_73 ?_
  refine lv_iload hx hb dX0_wash_76 (lv_at hl 0 rfl) ?_
  refine xdl hx hb hK hP 23 0 rfl rfl (j := 1) (by decide) (by decide) dX0_wash_78 ?_
  refine lv_topd (fun t_37 et_37 => ?_)
  have et_37 : Y_ = t_37 := (et_37).symm
  subst et_37
  have h_39 : fB (1699) (FP.dmul (FP.dmul (4611686018427387904) (qF (wi i) fo (ln i) (rootF (l2 X_ Y_ Z_)))) (Y_)) := fB_mul h_36 bY (by omega) (by omega) (by omega)
  refine lv_dmul hx hb dX0_wash_79 (fB_ne h_39 (by omega)) ?_
  have h_41 : fB (K + 2) (FP.dadd (dg 1) (FP.dmul (FP.dmul (4611686018427387904) (qF (wi i) fo (ln i) (rootF (l2 X_ Y_ Z_)))) (Y_))) := fB_add (M := K) hF.2.2.2.2.1 h_39 (by omega) (by omega) (by omega)
  refine lv_dadd hx hb dX0_wash_80 (fB_ne h_41 (by omega)) ?_
  refine xds hx hb hK hD hP hS 21 0 (((nN, px, py, pz, (vf_upd (vf_upd fx (fN fr i) (FP.dadd (fx (fN fr i)) (FP.dmul (qF (wi i) fo (ln i) (rootF (l2 X_ Y_ Z_))) (X_)))) (fN tt i) (FP.dadd ((vf_upd fx (fN fr i) (FP.dadd (fx (fN fr i)) (FP.dmul (qF (wi i) fo (ln i) (rootF (l2 X_ Y_ Z_))) (X_)))) (fN tt i)) (FP.dmul (qF (wi i) fo (ln i) (rootF (l2 X_ Y_ Z_))) (X_)))), fy, fz, lf, ld, fi), (nB, fr, tt, ln, wi, sg, pu), (nR, rd, rx, ry, wv, fo), (re, (vf_upd (vf_upd dg 0 (FP.dadd (dg 0) (FP.dmul (FP.dmul (4611686018427387904) (qF (wi i) fo (ln i) (rootF (l2 X_ Y_ Z_)))) (X_)))) 1 (FP.dadd (dg 1) (FP.dmul (FP.dmul (4611686018427387904) (qF (wi i) fo (ln i) (rootF (l2 X_ Y_ Z_)))) (Y_))))), (nP, tp, bt, dp)), (sp, (ac3 ac X_ Y_ Z_), kp, kc, kn, aw, dw, su, ss, sd)) rfl rfl (j := 1) (by decide) (by decide) rfl dX0_wash_81 (fun H locs hP hS => ?_)
  refine lv_aload_n hx hb dX0_wash_82 rfl (lv_at hl 2 rfl) ?_
  refine va_get (D := D) (ci := 0) (v := .ref (ad 1)) (C := RX0) (T := TX0) (N := 7) hx hb hts iX0_wash_X0 hown hK hP 4 rfl rfl 0 (by decide) f_27 (fun _ h9 => h9) rfl dX0_wash_83 ?_
  refine va_get (D := D) (ci := 3) (v := .ref (ad 8)) (C := RX3) (T := TX3) (N := 6) hx hb hts iX0_wash_X3 hown hK hP 1 rfl rfl 1 (by decide) f_94 (fun _ h9 => h9) rfl dX0_wash_86 ?_
  refine lv_iload hx hb dX0_wash_89 (lv_at hl 0 rfl) ?_
  refine xal hx hb hK hP 8 3 rfl rfl (j := 1) (v := ad 34) (by decide) (by decide) rfl dX0_wash_91 ?_
  refine lv_aload_n hx hb dX0_wash_92 rfl (lv_at hl 2 rfl) ?_
  refine va_get (D := D) (ci := 0) (v := .ref (ad 2)) (C := RX0) (T := TX0) (N := 7) hx hb hts iX0_wash_X0 hown hK hP 4 rfl rfl 1 (by decide) f_31 (fun _ h9 => h9) rfl dX0_wash_93 ?_
  refine va_get (D := D) (ci := 1) (v := .ref (ad 12)) (C := RX1) (T := TX1) (N := 7) hx hb hts iX0_wash_X1 hown hK hP 2 rfl rfl 0 (by decide) f_75 (fun _ h9 => h9) rfl dX0_wash_96 ?_
  refine lv_iload_n hx hb dX0_wash_99 rfl (lv_at hl 3 rfl) ?_
  refine xil hx hb hK hP 12 1 rfl rfl (j := i) (by decide) (by omega) dX0_wash_100 ?_
  refine lv_topi (fun t_42 et_42 => ?_)
  have et_42 : t_42 = nI (fN fr i) := et_42.trans ea
  subst et_42
  refine lv_dup2_11 hx hb dX0_wash_101 rfl rfl ?_
  refine xdl hx hb hK hP 34 0 rfl rfl (j := fN fr i) (by decide) (by omega) dX0_wash_102 ?_
  refine lv_dload hx hb dX0_wash_103 (lv_at hl 1 rfl) ?_
  refine lv_aload_n hx hb dX0_wash_105 rfl (lv_at hl 2 rfl) ?_
  refine va_get (D := D) (ci := 0) (v := .ref (ad 23)) (C := RX0) (T := TX0) (N := 7) hx hb hts iX0_wash_X0 hown hK hP 4 rfl rfl 6 (by decide) f_24 (fun _ h9 => h9) rfl dX0_wash_106 ?_
  refine lv_iload hx hb dX0_wash_109 (lv_at hl 0 rfl) ?_
  refine xdl hx hb hK hP 23 0 rfl rfl (j := 1) (by decide) (by decide) dX0_wash_111 ?_
  refine lv_topd (fun t_43 et_43 => ?_)
  have et_43 : Y_ = t_43 := (et_43).symm
  subst et_43
  have h_45 : fB (1696) (FP.dmul (qF (wi i) fo (ln i) (rootF (l2 X_ Y_ Z_))) (Y_)) := fB_mul (q_ok hwi hfo hln.1 (s_ok bX bY bZ)) bY (by omega) (by omega) (by omega)
  refine lv_dmul hx hb dX0_wash_112 (fB_ne h_45 (by omega)) ?_
  have h_47 : fB (K + 2) (FP.dadd (fy (fN fr i)) (FP.dmul (qF (wi i) fo (ln i) (rootF (l2 X_ Y_ Z_))) (Y_))) := fB_add (M := K) (hF.2.1 _ ja).1 h_45 (by omega) (by omega) (by omega)
  refine lv_dadd hx hb dX0_wash_113 (fB_ne h_47 (by omega)) ?_
  refine xds hx hb hK hD hP hS 34 0 (((nN, px, py, pz, (vf_upd (vf_upd fx (fN fr i) (FP.dadd (fx (fN fr i)) (FP.dmul (qF (wi i) fo (ln i) (rootF (l2 X_ Y_ Z_))) (X_)))) (fN tt i) (FP.dadd ((vf_upd fx (fN fr i) (FP.dadd (fx (fN fr i)) (FP.dmul (qF (wi i) fo (ln i) (rootF (l2 X_ Y_ Z_))) (X_)))) (fN tt i)) (FP.dmul (qF (wi i) fo (ln i) (rootF (l2 X_ Y_ Z_))) (X_)))), (vf_upd fy (fN fr i) (FP.dadd (fy (fN fr i)) (FP.dmul (qF (wi i) fo (ln i) (rootF (l2 X_ Y_ Z_))) (Y_)))), fz, lf, ld, fi), (nB, fr, tt, ln, wi, sg, pu), (nR, rd, rx, ry, wv, fo), (re, (vf_upd (vf_upd dg 0 (FP.dadd (dg 0) (FP.dmul (FP.dmul (4611686018427387904) (qF (wi i) fo (ln i) (rootF (l2 X_ Y_ Z_)))) (X_)))) 1 (FP.dadd (dg 1) (FP.dmul (FP.dmul (4611686018427387904) (qF (wi i) fo (ln i) (rootF (l2 X_ Y_ Z_)))) (Y_))))), (nP, tp, bt, dp)), (sp, (ac3 ac X_ Y_ Z_), kp, kc, kn, aw, dw, su, ss, sd)) rfl rfl (j := fN fr i) (by decide) (by omega) rfl dX0_wash_114 (fun H locs hP hS => ?_)
  refine lv_aload_n hx hb dX0_wash_115 rfl (lv_at hl 2 rfl) ?_
  refine va_get (D := D) (ci := 0) (v := .ref (ad 1)) (C := RX0) (T := TX0) (N := 7) hx hb hts iX0_wash_X0 hown hK hP 4 rfl rfl 0 (by decide) f_27 (fun _ h9 => h9) rfl dX0_wash_116 ?_
  refine va_get (D := D) (ci := 3) (v := .ref (ad 8)) (C := RX3) (T := TX3) (N := 6) hx hb hts iX0_wash_X3 hown hK hP 1 rfl rfl 1 (by decide) f_94 (fun _ h9 => h9) rfl dX0_wash_119 ?_
  refine lv_iload hx hb dX0_wash_122 (lv_at hl 0 rfl) ?_
  refine xal hx hb hK hP 8 3 rfl rfl (j := 1) (v := ad 34) (by decide) (by decide) rfl dX0_wash_124 ?_
  refine lv_aload_n hx hb dX0_wash_125 rfl (lv_at hl 2 rfl) ?_
  refine va_get (D := D) (ci := 0) (v := .ref (ad 2)) (C := RX0) (T := TX0) (N := 7) hx hb hts iX0_wash_X0 hown hK hP 4 rfl rfl 1 (by decide) f_31 (fun _ h9 => h9) rfl dX0_wash_126 ?_
  refine va_get (D := D) (ci := 1) (v := .ref (ad 13)) (C := RX1) (T := TX1) (N := 7) hx hb hts iX0_wash_X1 hown hK hP 2 rfl rfl 1 (by decide) f_71 (fun _ h9 => h9) rfl dX0_wash_129 ?_
  refine lv_iload_n hx hb dX0_wash_132 rfl (lv_at hl 3 rfl) ?_
  refine xil hx hb hK hP 13 1 rfl rfl (j := i) (by decide) (by omega) dX0_wash_133 ?_
  refine lv_topi (fun t_48 et_48 => ?_)
  have et_48 : t_48 = nI (fN tt i) := et_48.trans eb
  subst et_48
  refine lv_dup2_11 hx hb dX0_wash_134 rfl rfl ?_
  refine xdl hx hb hK hP 34 0 rfl rfl (j := fN tt i) (by decide) (by omega) dX0_wash_135 ?_
  refine lv_dload hx hb dX0_wash_136 (lv_at hl 1 rfl) ?_
  refine lv_aload_n hx hb dX0_wash_138 rfl (lv_at hl 2 rfl) ?_
  refine va_get (D := D) (ci := 0) (v := .ref (ad 23)) (C := RX0) (T := TX0) (N := 7) hx hb hts iX0_wash_X0 hown hK hP 4 rfl rfl 6 (by decide) f_24 (fun _ h9 => h9) rfl dX0_wash_139 ?_
  refine lv_iload hx hb dX0_wash_142 (lv_at hl 0 rfl) ?_
  refine xdl hx hb hK hP 23 0 rfl rfl (j := 1) (by decide) (by decide) dX0_wash_144 ?_
  refine lv_topd (fun t_49 et_49 => ?_)
  have et_49 : Y_ = t_49 := (et_49).symm
  subst et_49
  have h_51 : fB (1696) (FP.dmul (qF (wi i) fo (ln i) (rootF (l2 X_ Y_ Z_))) (Y_)) := fB_mul (q_ok hwi hfo hln.1 (s_ok bX bY bZ)) bY (by omega) (by omega) (by omega)
  refine lv_dmul hx hb dX0_wash_145 (fB_ne h_51 (by omega)) ?_
  have h_53 : fB (K + 2) (FP.dadd ((vf_upd fy (fN fr i) (FP.dadd (fy (fN fr i)) (FP.dmul (qF (wi i) fo (ln i) (rootF (l2 X_ Y_ Z_))) (Y_)))) (fN tt i)) (FP.dmul (qF (wi i) fo (ln i) (rootF (l2 X_ Y_ Z_))) (Y_))) := fB_add (M := K) (by rw [vf_ne jab]; exact (hF.2.1 _ jb).1) h_51 (by omega) (by omega) (by omega)
  refine lv_dadd hx hb dX0_wash_146 (fB_ne h_53 (by omega)) ?_
  refine xds hx hb hK hD hP hS 34 0 (((nN, px, py, pz, (vf_upd (vf_upd fx (fN fr i) (FP.dadd (fx (fN fr i)) (FP.dmul (qF (wi i) fo (ln i) (rootF (l2 X_ Y_ Z_))) (X_)))) (fN tt i) (FP.dadd ((vf_upd fx (fN fr i) (FP.dadd (fx (fN fr i)) (FP.dmul (qF (wi i) fo (ln i) (rootF (l2 X_ Y_ Z_))) (X_)))) (fN tt i)) (FP.dmul (qF (wi i) fo (ln i) (rootF (l2 X_ Y_ Z_))) (X_)))), (vf_upd (vf_upd fy (fN fr i) (FP.dadd (fy (fN fr i)) (FP.dmul (qF (wi i) fo (ln i) (rootF (l2 X_ Y_ Z_))) (Y_)))) (fN tt i) (FP.dadd ((vf_upd fy (fN fr i) (FP.dadd (fy (fN fr i)) (FP.dmul (qF (wi i) fo (ln i) (rootF (l2 X_ Y_ Z_))) (Y_)))) (fN tt i)) (FP.dmul (qF (wi i) fo (ln i) (rootF (l2 X_ Y_ Z_))) (Y_)))), fz, lf, ld, fi), (nB, fr, tt, ln, wi, sg, pu), (nR, rd, rx, ry, wv, fo), (re, (vf_upd (vf_upd dg 0 (FP.dadd (dg 0) (FP.dmul (FP.dmul (4611686018427387904) (qF (wi i) fo (ln i) (rootF (l2 X_ Y_ Z_)))) (X_)))) 1 (FP.dadd (dg 1) (FP.dmul (FP.dmul (4611686018427387904) (qF (wi i) fo (ln i) (rootF (l2 X_ Y_ Z_)))) (Y_))))), (nP, tp, bt, dp)), (sp, (ac3 ac X_ Y_ Z_), kp, kc, kn, aw, dw, su, ss, sd)) rfl rfl (j := fN tt i) (by decide) (by omega) rfl dX0_wash_147 (fun H locs hP hS => ?_)
  refine lv_iinc (v := nI 2) (lv' := [(6, .int (nI 2)), (4, .double (qF (wi i) fo (ln i) (rootF (l2 X_ Y_ Z_)))), (0, .ref (ad 4)), (1, .int (nI i)), (2, .double (L))]) hx hb dX0_wash_148 hl (k := 0) rfl (nI_add _ _) (by decide) rfl (fun ls hl => ?_)
  refine lv_goto (tgt := 52) hx hb dX0_wash_151 (by decide) ?_
  refine lv_iload hx hb dX0_wash_52 (lv_at hl 0 rfl) ?_
  refine lv_iconst (v := nI 3) hx hb dX0_wash_54 (by decide) ?_
  refine lv_icmp_ge (tgt := 154) hx hb dX0_wash_55 (by decide) (fun c_55_54 => absurd c_55_54 (by decide)) (fun _ => ?_)
  refine lv_aload_n hx hb dX0_wash_58 rfl (lv_at hl 2 rfl) ?_
  refine va_get (D := D) (ci := 0) (v := .ref (ad 21)) (C := RX0) (T := TX0) (N := 7) hx hb hts iX0_wash_X0 hown hK hP 4 rfl rfl 3 (by decide) f_9 (fun _ h9 => h9) rfl dX0_wash_59 ?_
  refine lv_iload hx hb dX0_wash_62 (lv_at hl 0 rfl) ?_
  refine lv_dup2_11 hx hb dX0_wash_64 rfl rfl ?_
  refine xdl hx hb hK hP 21 0 rfl rfl (j := 2) (by decide) (by decide) dX0_wash_65 ?_
  refine lv_topd (fun t_55 et_55 => ?_)
  have et_55 : dg 2 = t_55 := (et_55).symm
  subst et_55
  refine lv_ldc2d hx hb hown c_110 dX0_wash_66 ?_
  refine lv_dload hx hb dX0_wash_69 (lv_at hl 1 rfl) ?_
  have h_57 : fB (1517) (FP.dmul (4611686018427387904) (qF (wi i) fo (ln i) (rootF (l2 X_ Y_ Z_)))) := fB_mul (fB_lit (K := 1025) (a := 4611686018427387904) (by decide +kernel)) (q_ok hwi hfo hln.1 (s_ok bX bY bZ)) (by omega) (by omega) (by omega)
  refine lv_dmul hx hb dX0_wash_71 (fB_ne h_57 (by omega)) ?_
  refine lv_aload_n hx hb dX0_wash_72 rfl (lv_at hl 2 rfl) ?_
  refine va_get (D := D) (ci := 0) (v := .ref (ad 23)) (C := RX0) (T := TX0) (N := 7) hx hb hts iX0_wash_X0 hown hK hP 4 rfl rfl 6 (by decide) f_24 (fun _ h9 => h9) rfl dX0_wash_73 ?_
  refine lv_iload hx hb dX0_wash_76 (lv_at hl 0 rfl) ?_
  refine xdl hx hb hK hP 23 0 rfl rfl (j := 2) (by decide) (by decide) dX0_wash_78 ?_
  refine lv_topd (fun t_58 et_58 => ?_)
  have et_58 : Z_ = t_58 := (et_58).symm
  subst et_58
  have h_60 : fB (1699) (FP.dmul (FP.dmul (4611686018427387904) (qF (wi i) fo (ln i) (rootF (l2 X_ Y_ Z_)))) (Z_)) := fB_mul h_57 bZ (by omega) (by omega) (by omega)
  refine lv_dmul hx hb dX0_wash_79 (fB_ne h_60 (by omega)) ?_
  have h_62 : fB (K + 2) (FP.dadd (dg 2) (FP.dmul (FP.dmul (4611686018427387904) (qF (wi i) fo (ln i) (rootF (l2 X_ Y_ Z_)))) (Z_))) := fB_add (M := K) hF.2.2.2.2.2 h_60 (by omega) (by omega) (by omega)
  refine lv_dadd hx hb dX0_wash_80 (fB_ne h_62 (by omega)) ?_
  refine xds hx hb hK hD hP hS 21 0 (((nN, px, py, pz, (vf_upd (vf_upd fx (fN fr i) (FP.dadd (fx (fN fr i)) (FP.dmul (qF (wi i) fo (ln i) (rootF (l2 X_ Y_ Z_))) (X_)))) (fN tt i) (FP.dadd ((vf_upd fx (fN fr i) (FP.dadd (fx (fN fr i)) (FP.dmul (qF (wi i) fo (ln i) (rootF (l2 X_ Y_ Z_))) (X_)))) (fN tt i)) (FP.dmul (qF (wi i) fo (ln i) (rootF (l2 X_ Y_ Z_))) (X_)))), (vf_upd (vf_upd fy (fN fr i) (FP.dadd (fy (fN fr i)) (FP.dmul (qF (wi i) fo (ln i) (rootF (l2 X_ Y_ Z_))) (Y_)))) (fN tt i) (FP.dadd ((vf_upd fy (fN fr i) (FP.dadd (fy (fN fr i)) (FP.dmul (qF (wi i) fo (ln i) (rootF (l2 X_ Y_ Z_))) (Y_)))) (fN tt i)) (FP.dmul (qF (wi i) fo (ln i) (rootF (l2 X_ Y_ Z_))) (Y_)))), fz, lf, ld, fi), (nB, fr, tt, ln, wi, sg, pu), (nR, rd, rx, ry, wv, fo), (re, (vf_upd (vf_upd (vf_upd dg 0 (FP.dadd (dg 0) (FP.dmul (FP.dmul (4611686018427387904) (qF (wi i) fo (ln i) (rootF (l2 X_ Y_ Z_)))) (X_)))) 1 (FP.dadd (dg 1) (FP.dmul (FP.dmul (4611686018427387904) (qF (wi i) fo (ln i) (rootF (l2 X_ Y_ Z_)))) (Y_)))) 2 (FP.dadd (dg 2) (FP.dmul (FP.dmul (4611686018427387904) (qF (wi i) fo (ln i) (rootF (l2 X_ Y_ Z_)))) (Z_))))), (nP, tp, bt, dp)), (sp, (ac3 ac X_ Y_ Z_), kp, kc, kn, aw, dw, su, ss, sd)) rfl rfl (j := 2) (by decide) (by decide) rfl dX0_wash_81 (fun H locs hP hS => ?_)
  refine lv_aload_n hx hb dX0_wash_82 rfl (lv_at hl 2 rfl) ?_
  refine va_get (D := D) (ci := 0) (v := .ref (ad 1)) (C := RX0) (T := TX0) (N := 7) hx hb hts iX0_wash_X0 hown hK hP 4 rfl rfl 0 (by decide) f_27 (fun _ h9 => h9) rfl dX0_wash_83 ?_
  refine va_get (D := D) (ci := 3) (v := .ref (ad 8)) (C := RX3) (T := TX3) (N := 6) hx hb hts iX0_wash_X3 hown hK hP 1 rfl rfl 1 (by decide) f_94 (fun _ h9 => h9) rfl dX0_wash_86 ?_
  refine lv_iload hx hb dX0_wash_89 (lv_at hl 0 rfl) ?_
  refine xal hx hb hK hP 8 3 rfl rfl (j := 2) (v := ad 35) (by decide) (by decide) rfl dX0_wash_91 ?_
  refine lv_aload_n hx hb dX0_wash_92 rfl (lv_at hl 2 rfl) ?_
  refine va_get (D := D) (ci := 0) (v := .ref (ad 2)) (C := RX0) (T := TX0) (N := 7) hx hb hts iX0_wash_X0 hown hK hP 4 rfl rfl 1 (by decide) f_31 (fun _ h9 => h9) rfl dX0_wash_93 ?_
  refine va_get (D := D) (ci := 1) (v := .ref (ad 12)) (C := RX1) (T := TX1) (N := 7) hx hb hts iX0_wash_X1 hown hK hP 2 rfl rfl 0 (by decide) f_75 (fun _ h9 => h9) rfl dX0_wash_96 ?_
  refine lv_iload_n hx hb dX0_wash_99 rfl (lv_at hl 3 rfl) ?_
  refine xil hx hb hK hP 12 1 rfl rfl (j := i) (by decide) (by omega) dX0_wash_100 ?_
  refine lv_topi (fun t_63 et_63 => ?_)
  have et_63 : t_63 = nI (fN fr i) := et_63.trans ea
  subst et_63
  refine lv_dup2_11 hx hb dX0_wash_101 rfl rfl ?_
  refine xdl hx hb hK hP 35 0 rfl rfl (j := fN fr i) (by decide) (by omega) dX0_wash_102 ?_
  refine lv_dload hx hb dX0_wash_103 (lv_at hl 1 rfl) ?_
  refine lv_aload_n hx hb dX0_wash_105 rfl (lv_at hl 2 rfl) ?_
  refine va_get (D := D) (ci := 0) (v := .ref (ad 23)) (C := RX0) (T := TX0) (N := 7) hx hb hts iX0_wash_X0 hown hK hP 4 rfl rfl 6 (by decide) f_24 (fun _ h9 => h9) rfl dX0_wash_106 ?_
  refine lv_iload hx hb dX0_wash_109 (lv_at hl 0 rfl) ?_
  refine xdl hx hb hK hP 23 0 rfl rfl (j := 2) (by decide) (by decide) dX0_wash_111 ?_
  refine lv_topd (fun t_64 et_64 => ?_)
  have et_64 : Z_ = t_64 := (et_64).symm
  subst et_64
  have h_66 : fB (1696) (FP.dmul (qF (wi i) fo (ln i) (rootF (l2 X_ Y_ Z_))) (Z_)) := fB_mul (q_ok hwi hfo hln.1 (s_ok bX bY bZ)) bZ (by omega) (by omega) (by omega)
  refine lv_dmul hx hb dX0_wash_112 (fB_ne h_66 (by omega)) ?_
  have h_68 : fB (K + 2) (FP.dadd (fz (fN fr i)) (FP.dmul (qF (wi i) fo (ln i) (rootF (l2 X_ Y_ Z_))) (Z_))) := fB_add (M := K) (hF.2.2.1 _ ja).1 h_66 (by omega) (by omega) (by omega)
  refine lv_dadd hx hb dX0_wash_113 (fB_ne h_68 (by omega)) ?_
  refine xds hx hb hK hD hP hS 35 0 (((nN, px, py, pz, (vf_upd (vf_upd fx (fN fr i) (FP.dadd (fx (fN fr i)) (FP.dmul (qF (wi i) fo (ln i) (rootF (l2 X_ Y_ Z_))) (X_)))) (fN tt i) (FP.dadd ((vf_upd fx (fN fr i) (FP.dadd (fx (fN fr i)) (FP.dmul (qF (wi i) fo (ln i) (rootF (l2 X_ Y_ Z_))) (X_)))) (fN tt i)) (FP.dmul (qF (wi i) fo (ln i) (rootF (l2 X_ Y_ Z_))) (X_)))), (vf_upd (vf_upd fy (fN fr i) (FP.dadd (fy (fN fr i)) (FP.dmul (qF (wi i) fo (ln i) (rootF (l2 X_ Y_ Z_))) (Y_)))) (fN tt i) (FP.dadd ((vf_upd fy (fN fr i) (FP.dadd (fy (fN fr i)) (FP.dmul (qF (wi i) fo (ln i) (rootF (l2 X_ Y_ Z_))) (Y_)))) (fN tt i)) (FP.dmul (qF (wi i) fo (ln i) (rootF (l2 X_ Y_ Z_))) (Y_)))), (vf_upd fz (fN fr i) (FP.dadd (fz (fN fr i)) (FP.dmul (qF (wi i) fo (ln i) (rootF (l2 X_ Y_ Z_))) (Z_)))), lf, ld, fi), (nB, fr, tt, ln, wi, sg, pu), (nR, rd, rx, ry, wv, fo), (re, (vf_upd (vf_upd (vf_upd dg 0 (FP.dadd (dg 0) (FP.dmul (FP.dmul (4611686018427387904) (qF (wi i) fo (ln i) (rootF (l2 X_ Y_ Z_)))) (X_)))) 1 (FP.dadd (dg 1) (FP.dmul (FP.dmul (4611686018427387904) (qF (wi i) fo (ln i) (rootF (l2 X_ Y_ Z_)))) (Y_)))) 2 (FP.dadd (dg 2) (FP.dmul (FP.dmul (4611686018427387904) (qF (wi i) fo (ln i) (rootF (l2 X_ Y_ Z_)))) (Z_))))), (nP, tp, bt, dp)), (sp, (ac3 ac X_ Y_ Z_), kp, kc, kn, aw, dw, su, ss, sd)) rfl rfl (j := fN fr i) (by decide) (by omega) rfl dX0_wash_114 (fun H locs hP hS => ?_)
  refine lv_aload_n hx hb dX0_wash_115 rfl (lv_at hl 2 rfl) ?_
  refine va_get (D := D) (ci := 0) (v := .ref (ad 1)) (C := RX0) (T := TX0) (N := 7) hx hb hts iX0_wash_X0 hown hK hP 4 rfl rfl 0 (by decide) f_27 (fun _ h9 => h9) rfl dX0_wash_116 ?_
  refine va_get (D := D) (ci := 3) (v := .ref (ad 8)) (C := RX3) (T := TX3) (N := 6) hx hb hts iX0_wash_X3 hown hK hP 1 rfl rfl 1 (by decide) f_94 (fun _ h9 => h9) rfl dX0_wash_119 ?_
  refine lv_iload hx hb dX0_wash_122 (lv_at hl 0 rfl) ?_
  refine xal hx hb hK hP 8 3 rfl rfl (j := 2) (v := ad 35) (by decide) (by decide) rfl dX0_wash_124 ?_
  refine lv_aload_n hx hb dX0_wash_125 rfl (lv_at hl 2 rfl) ?_
  refine va_get (D := D) (ci := 0) (v := .ref (ad 2)) (C := RX0) (T := TX0) (N := 7) hx hb hts iX0_wash_X0 hown hK hP 4 rfl rfl 1 (by decide) f_31 (fun _ h9 => h9) rfl dX0_wash_126 ?_
  refine va_get (D := D) (ci := 1) (v := .ref (ad 13)) (C := RX1) (T := TX1) (N := 7) hx hb hts iX0_wash_X1 hown hK hP 2 rfl rfl 1 (by decide) f_71 (fun _ h9 => h9) rfl dX0_wash_129 ?_
  refine lv_iload_n hx hb dX0_wash_132 rfl (lv_at hl 3 rfl) ?_
  refine xil hx hb hK hP 13 1 rfl rfl (j := i) (by decide) (by omega) dX0_wash_133 ?_
  refine lv_topi (fun t_69 et_69 => ?_)
  have et_69 : t_69 = nI (fN tt i) := et_69.trans eb
  subst et_69
  refine lv_dup2_11 hx hb dX0_wash_134 rfl rfl ?_
  refine xdl hx hb hK hP 35 0 rfl rfl (j := fN tt i) (by decide) (by omega) dX0_wash_135 ?_
  refine lv_dload hx hb dX0_wash_136 (lv_at hl 1 rfl) ?_
  refine lv_aload_n hx hb dX0_wash_138 rfl (lv_at hl 2 rfl) ?_
  refine va_get (D := D) (ci := 0) (v := .ref (ad 23)) (C := RX0) (T := TX0) (N := 7) hx hb hts iX0_wash_X0 hown hK hP 4 rfl rfl 6 (by decide) f_24 (fun _ h9 => h9) rfl dX0_wash_139 ?_
  refine lv_iload hx hb dX0_wash_142 (lv_at hl 0 rfl) ?_
  refine xdl hx hb hK hP 23 0 rfl rfl (j := 2) (by decide) (by decide) dX0_wash_144 ?_
  refine lv_topd (fun t_70 et_70 => ?_)
  have et_70 : Z_ = t_70 := (et_70).symm
  subst et_70
  have h_72 : fB (1696) (FP.dmul (qF (wi i) fo (ln i) (rootF (l2 X_ Y_ Z_))) (Z_)) := fB_mul (q_ok hwi hfo hln.1 (s_ok bX bY bZ)) bZ (by omega) (by omega) (by omega)
  refine lv_dmul hx hb dX0_wash_145 (fB_ne h_72 (by omega)) ?_
  have h_74 : fB (K + 2) (FP.dadd ((vf_upd fz (fN fr i) (FP.dadd (fz (fN fr i)) (FP.dmul (qF (wi i) fo (ln i) (rootF (l2 X_ Y_ Z_))) (Z_)))) (fN tt i)) (FP.dmul (qF (wi i) fo (ln i) (rootF (l2 X_ Y_ Z_))) (Z_))) := fB_add (M := K) (by rw [vf_ne jab]; exact (hF.2.2.1 _ jb).1) h_72 (by omega) (by omega) (by omega)
  refine lv_dadd hx hb dX0_wash_146 (fB_ne h_74 (by omega)) ?_
  refine xds hx hb hK hD hP hS 35 0 (((nN, px, py, pz, (vf_upd (vf_upd fx (fN fr i) (FP.dadd (fx (fN fr i)) (FP.dmul (qF (wi i) fo (ln i) (rootF (l2 X_ Y_ Z_))) (X_)))) (fN tt i) (FP.dadd ((vf_upd fx (fN fr i) (FP.dadd (fx (fN fr i)) (FP.dmul (qF (wi i) fo (ln i) (rootF (l2 X_ Y_ Z_))) (X_)))) (fN tt i)) (FP.dmul (qF (wi i) fo (ln i) (rootF (l2 X_ Y_ Z_))) (X_)))), (vf_upd (vf_upd fy (fN fr i) (FP.dadd (fy (fN fr i)) (FP.dmul (qF (wi i) fo (ln i) (rootF (l2 X_ Y_ Z_))) (Y_)))) (fN tt i) (FP.dadd ((vf_upd fy (fN fr i) (FP.dadd (fy (fN fr i)) (FP.dmul (qF (wi i) fo (ln i) (rootF (l2 X_ Y_ Z_))) (Y_)))) (fN tt i)) (FP.dmul (qF (wi i) fo (ln i) (rootF (l2 X_ Y_ Z_))) (Y_)))), (vf_upd (vf_upd fz (fN fr i) (FP.dadd (fz (fN fr i)) (FP.dmul (qF (wi i) fo (ln i) (rootF (l2 X_ Y_ Z_))) (Z_)))) (fN tt i) (FP.dadd ((vf_upd fz (fN fr i) (FP.dadd (fz (fN fr i)) (FP.dmul (qF (wi i) fo (ln i) (rootF (l2 X_ Y_ Z_))) (Z_)))) (fN tt i)) (FP.dmul (qF (wi i) fo (ln i) (rootF (l2 X_ Y_ Z_))) (Z_)))), lf, ld, fi), (nB, fr, tt, ln, wi, sg, pu), (nR, rd, rx, ry, wv, fo), (re, (vf_upd (vf_upd (vf_upd dg 0 (FP.dadd (dg 0) (FP.dmul (FP.dmul (4611686018427387904) (qF (wi i) fo (ln i) (rootF (l2 X_ Y_ Z_)))) (X_)))) 1 (FP.dadd (dg 1) (FP.dmul (FP.dmul (4611686018427387904) (qF (wi i) fo (ln i) (rootF (l2 X_ Y_ Z_)))) (Y_)))) 2 (FP.dadd (dg 2) (FP.dmul (FP.dmul (4611686018427387904) (qF (wi i) fo (ln i) (rootF (l2 X_ Y_ Z_)))) (Z_))))), (nP, tp, bt, dp)), (sp, (ac3 ac X_ Y_ Z_), kp, kc, kn, aw, dw, su, ss, sd)) rfl rfl (j := fN tt i) (by decide) (by omega) rfl dX0_wash_147 (fun H locs hP hS => ?_)
  refine lv_iinc (v := nI 3) (lv' := [(6, .int (nI 3)), (4, .double (qF (wi i) fo (ln i) (rootF (l2 X_ Y_ Z_)))), (0, .ref (ad 4)), (1, .int (nI i)), (2, .double (L))]) hx hb dX0_wash_148 hl (k := 0) rfl (nI_add _ _) (by decide) rfl (fun ls hl => ?_)
  refine lv_goto (tgt := 52) hx hb dX0_wash_151 (by decide) ?_
  refine lv_iload hx hb dX0_wash_52 (lv_at hl 0 rfl) ?_
  refine lv_iconst (v := nI 3) hx hb dX0_wash_54 (by decide) ?_
  refine lv_icmp_ge (tgt := 154) hx hb dX0_wash_55 (by decide) (fun _ => ?_) (fun c_55_75 => absurd c_55_75 (by decide))
  exact hret hS hP dX0_wash_154 ((by subst eX eY eZ; rfl))
