/-! rounds, by the reference -/
theorem iX7_speed_X7 : ∀ w ∈ u_ws RX7 TX7 31, w ∈ wsX7_speed := by decide +kernel
set_option maxHeartbeats 4000000 in
set_option maxRecDepth 100000 in
theorem kX7_speed_1 (l : Launch) (D : va_G) (cs : Nat → ClassId) (ad : Nat → Nat) (hd : distM ad) (sz : Nat) (S : MS) (hnR : S.1.2.2.1.1 ≤ 10) (hr : rowsOK (S.1.2.2.1.1) (S.1.2.2.1.2.1) (S.1.2.2.1.2.2.1) (S.1.2.2.1.2.2.2.1)) (hw_ : fB 1058 (S.1.2.2.1.2.2.2.2.1)) (d : UInt64) (hd_ : fB 1042 d) : Met l yX7_speed wsX7_speed ({ frames := 0, cells := 0, slots := 0, locals := 0 } : Room) (gP D (WM cs ad) (EM D cs) S sz ([.ref (ad 0), .double (d), .int (nI 1)] : List Value)) (va_Qd (fun r u => u = S ∧ r = uF (S.1.2.2.1.2.1) (S.1.2.2.1.2.2.1) (S.1.2.2.1.1) (S.1.2.2.1.2.2.2.2.1) d (cF (S.1.2.2.1.2.1) d (S.1.2.2.1.1))) (gB D (WM cs ad)) (gA (AM ad) sz)) 0 0 (gA (AM ad) sz) := by
  obtain ⟨⟨⟨nN, px, py, pz, fx, fy, fz, lf, ld, fi⟩, ⟨nB, fr, tt, ln, wi, sg, pu⟩, ⟨nR, rd, rx, ry, wv, fo⟩, ⟨re, dg⟩, ⟨nP, tp, bt, dp⟩⟩, ⟨nQ, fu⟩⟩ := S
  have hnR : nR ≤ 10 := hnR
  have hr : rowsOK nR rd rx ry := hr
  have hw_ : fB 1058 wv := hw_
  refine gMd (cc := cX7_speed) (maxL := 11) (plainFor_of_name (by decide)) rfl (Nat.le_of_ble_eq_true rfl) ?_
  intro p e s m below meth c Q hx hb hts hown hml hsz hE hret H locs hP hS ls hl
  subst hsz
  have hown : s.vm.findClass RX7 = some m.cls := hown
  have hK : va_K D vwCl (tysX cs) s := hE.1
  have hD : ∀ u, va_D (gA (AM ad) s.heap.size) (WM cs ad u) := fun u => WM_D hd u
  have hl : lv_has ls 11 [(0, .ref (ad 0)), (1, .double (d)), (3, .int (nI 1))] := hl
  have f_57 := hts (.fieldLink RX7 57 "NetShapesModel" "rowDepth" "[D") (by decide +kernel)
  have f_60 := hts (.fieldLink RX7 60 "NetShapesModel" "rowX" "[D") (by decide +kernel)
  have f_129 := hts (.fieldLink RX7 129 "NetShapesModel" "waves" "D") (by decide +kernel)
  have f_132 := hts (.fieldLink RX7 132 "NetShapesModel" "rows" "I") (by decide +kernel)
  refine lv_dconst0 hx hb dX7_speed_0 ?_
  refine lv_dstore (lv' := [(4, .double (FP.dconst0)), (0, .ref (ad 0)), (1, .double (d)), (3, .int (nI 1))]) hx hb dX7_speed_1 hl (by decide) rfl (fun ls hl => ?_)
  refine lv_aload_n hx hb dX7_speed_3 rfl (lv_at hl 1 rfl) ?_
  refine va_get (D := D) (ci := 7) (v := .int (nI nR)) (C := RX7) (T := TX7) (N := 31) hx hb hts iX7_speed_X7 hown hK hP 0 rfl rfl 17 (by decide) f_132 (fun _ h9 => h9) rfl dX7_speed_4 ?_
  refine lv_if_le (tgt := 161) hx hb dX7_speed_7 (by decide) (fun c_7_1 => ?_) (fun c_7_1 => ?_)
  · skip
    have c_7_1 : nR ≤ 0 := (nI_leI (a := nR) (b := 0) (by omega) (by omega)).mp c_7_1
    refine lv_dload hx hb dX7_speed_161 (lv_at hl 0 rfl) ?_
    refine lv_dconst1 hx hb dX7_speed_163 ?_
    refine lv_aload_n hx hb dX7_speed_164 rfl (lv_at hl 1 rfl) ?_
    refine va_get (D := D) (ci := 7) (v := .double (wv)) (C := RX7) (T := TX7) (N := 31) hx hb hts iX7_speed_X7 hown hK hP 0 rfl rfl 21 (by decide) f_129 (fun _ h9 => h9) rfl dX7_speed_165 ?_
    have h_3 : fB (1060) (FP.dadd (FP.dconst1) (wv)) := fB_add (M := 1058) fB_c1 hw_ (by omega) (by omega) (by omega)
    refine lv_dadd hx hb dX7_speed_168 (fB_ne h_3 (by omega)) ?_
    have h_5 : fB (39) (FP.dmul (FP.dconst0) (FP.dadd (FP.dconst1) (wv))) := fB_mul fB_c0 h_3 (by omega) (by omega) (by omega)
    refine lv_dmul hx hb dX7_speed_169 (fB_ne h_5 (by omega)) ?_
    exact hret hS hP dX7_speed_170 (⟨rfl, congrArg (fun v => FP.dmul v (FP.dadd FP.dconst1 wv)) (show _ = spB rd rx nR d (cF rd d nR) from (spB_0 (show nR = 0 by omega)).symm)⟩)
  · skip
    have c_7_1 : ¬ (nR ≤ 0) := fun q => c_7_1 ((nI_leI (a := nR) (b := 0) (by omega) (by omega)).mpr q)
    refine lv_iconst (v := nI 0) hx hb dX7_speed_10 (by decide) ?_
    refine lv_istore (lv' := [(6, .int (nI 0)), (4, .double (FP.dconst0)), (0, .ref (ad 0)), (1, .double (d)), (3, .int (nI 1))]) hx hb dX7_speed_11 hl (by decide) rfl (fun ls hl => ?_)
    have L_13_6 : ∀ (n_13 i : Nat) , (nR + 1 ≤ i + n_13) → (i < nR) → (∀ k, 1 ≤ k → k ≤ i → dle (rd k) d) → ∀ (H : Heap) (locs : List Loc), va_P D vwCl (WM cs ad (((nN, px, py, pz, fx, fy, fz, lf, ld, fi), (nB, fr, tt, ln, wi, sg, pu), (nR, rd, rx, ry, wv, fo), (re, dg), (nP, tp, bt, dp)), (nQ, fu))) H → va_S (gA (AM ad) s.heap.size) s.heap H locs → ∀ (ls : Array Slot), lv_has ls 11 [(6, .int (nI i)), (4, .double (FP.dconst0)), (0, .ref (ad 0)), (1, .double (d)), (3, .int (nI 1))] → W p l e ({ frames := 0, cells := 0, slots := 0, locals := 0 } : Room) s m ([.ref (ad 0), .double (d), .int (nI 1)] : List Value).toArray below meth c H locs 0 0 Q (F0 m 13 ls []) := by
      intro n_13; induction n_13 with
      | zero => intro i hf_13 hi hle H locs hP hS ls hl; exact absurd hf_13 (by omega)
      | succ n_13 ih_13 =>
        intro i hf_13 hi hle H locs hP hS ls hl
        refine lv_iload hx hb dX7_speed_13 (lv_at hl 0 rfl) ?_
        refine lv_iconst (v := nI 1) hx hb dX7_speed_15 (by decide) ?_
        refine xia hx hb (i + 1) dX7_speed_16 rfl ?_
        refine lv_aload_n hx hb dX7_speed_17 rfl (lv_at hl 2 rfl) ?_
        refine va_get (D := D) (ci := 7) (v := .int (nI nR)) (C := RX7) (T := TX7) (N := 31) hx hb hts iX7_speed_X7 hown hK hP 0 rfl rfl 17 (by decide) f_132 (fun _ h9 => h9) rfl dX7_speed_18 ?_
        refine lv_icmp_ge (tgt := 44) hx hb dX7_speed_21 (by decide) (fun c_21_7 => ?_) (fun c_21_7 => ?_)
        · skip
          have c_21_7 : nR ≤ i + 1 := (nI_leI (a := nR) (b := i + 1) (by omega) (by omega)).mp c_21_7
          refine lv_iload_n hx hb dX7_speed_44 rfl (lv_at hl 4 rfl) ?_
          refine lv_if_eq (tgt := 58) hx hb dX7_speed_45 (by decide) (fun c_45_8 => absurd c_45_8 (by decide)) (fun _ => ?_)
          refine lv_aload_n hx hb dX7_speed_48 rfl (lv_at hl 2 rfl) ?_
          refine va_get (D := D) (ci := 7) (v := .ref (ad 17)) (C := RX7) (T := TX7) (N := 31) hx hb hts iX7_speed_X7 hown hK hP 0 rfl rfl 19 (by decide) f_60 (fun _ h9 => h9) rfl dX7_speed_49 ?_
          refine lv_iload hx hb dX7_speed_52 (lv_at hl 0 rfl) ?_
          refine xdl hx hb hK hP 17 0 rfl rfl (j := i) (by decide) (by omega) dX7_speed_54 ?_
          refine lv_goto (tgt := 65) hx hb dX7_speed_55 (by decide) ?_
          refine lv_dstore (lv' := [(7, .double (rx i)), (6, .int (nI i)), (4, .double (FP.dconst0)), (0, .ref (ad 0)), (1, .double (d)), (3, .int (nI 1))]) hx hb dX7_speed_65 hl (by decide) rfl (fun ls hl => ?_)
          refine lv_dload_n hx hb dX7_speed_67 rfl (lv_at hl 4 rfl) ?_
          refine lv_aload_n hx hb dX7_speed_68 rfl (lv_at hl 3 rfl) ?_
          refine va_get (D := D) (ci := 7) (v := .ref (ad 16)) (C := RX7) (T := TX7) (N := 31) hx hb hts iX7_speed_X7 hown hK hP 0 rfl rfl 18 (by decide) f_57 (fun _ h9 => h9) rfl dX7_speed_69 ?_
          refine lv_iconst (v := nI 0) hx hb dX7_speed_72 (by decide) ?_
          refine xdl hx hb hK hP 16 0 rfl rfl (j := 0) (by decide) (by decide) dX7_speed_73 ?_
          refine xc_glp (tgt := 89) hx hb dX7_speed_74 dX7_speed_75 (by decide) (fun c_74_9 => ?_) (fun c_74_9 => ?_)
          · skip
            refine lv_dload hx hb dX7_speed_89 (lv_at hl 0 rfl) ?_
            refine lv_dstore (lv' := [(4, .double (rx i)), (7, .double (rx i)), (6, .int (nI i)), (0, .ref (ad 0)), (1, .double (d)), (3, .int (nI 1))]) hx hb dX7_speed_91 hl (by decide) rfl (fun ls hl => ?_)
            refine lv_goto (tgt := 161) hx hb dX7_speed_93 (by decide) ?_
            refine lv_dload hx hb dX7_speed_161 (lv_at hl 0 rfl) ?_
            refine lv_dconst1 hx hb dX7_speed_163 ?_
            refine lv_aload_n hx hb dX7_speed_164 rfl (lv_at hl 3 rfl) ?_
            refine va_get (D := D) (ci := 7) (v := .double (wv)) (C := RX7) (T := TX7) (N := 31) hx hb hts iX7_speed_X7 hown hK hP 0 rfl rfl 21 (by decide) f_129 (fun _ h9 => h9) rfl dX7_speed_165 ?_
            have h_11 : fB (1060) (FP.dadd (FP.dconst1) (wv)) := fB_add (M := 1058) fB_c1 hw_ (by omega) (by omega) (by omega)
            refine lv_dadd hx hb dX7_speed_168 (fB_ne h_11 (by omega)) ?_
            have h_13 : fB (1068) (FP.dmul (rx i) (FP.dadd (FP.dconst1) (wv))) := fB_mul (hr.2 _ (by omega)).2.2.1 h_11 (by omega) (by omega) (by omega)
            refine lv_dmul hx hb dX7_speed_169 (fB_ne h_13 (by omega)) ?_
            exact hret hS hP dX7_speed_170 (⟨rfl, congrArg (fun v => FP.dmul v (FP.dadd FP.dconst1 wv)) (show _ = spB rd rx nR d (cF rd d nR) from rd_lo (f := rx) hr (show i < nR by omega) hle c_74_9)⟩)
          · skip
            refine lv_iload hx hb dX7_speed_78 (lv_at hl 1 rfl) ?_
            refine lv_iconst (v := nI 1) hx hb dX7_speed_80 (by decide) ?_
            refine xia hx hb (i + 1) dX7_speed_81 rfl ?_
            refine lv_aload_n hx hb dX7_speed_82 rfl (lv_at hl 3 rfl) ?_
            refine va_get (D := D) (ci := 7) (v := .int (nI nR)) (C := RX7) (T := TX7) (N := 31) hx hb hts iX7_speed_X7 hown hK hP 0 rfl rfl 17 (by decide) f_132 (fun _ h9 => h9) rfl dX7_speed_83 ?_
            refine lv_icmp_ne (tgt := 96) hx hb dX7_speed_86 (by decide) (fun c_86_14 => ?_) (fun c_86_14 => ?_)
            · skip
              have c_86_14 : ¬ (i + 1 = nR) := fun q => c_86_14 ((nI_eq (a := i + 1) (b := nR) (by omega) (by omega)).mpr q)
              refine lv_iload_n hx hb dX7_speed_96 rfl (lv_at hl 5 rfl) ?_
              refine lv_if_eq (tgt := 112) hx hb dX7_speed_97 (by decide) (fun c_97_15 => absurd c_97_15 (by decide)) (fun _ => ?_)
              refine lv_aload_n hx hb dX7_speed_100 rfl (lv_at hl 3 rfl) ?_
              refine va_get (D := D) (ci := 7) (v := .ref (ad 17)) (C := RX7) (T := TX7) (N := 31) hx hb hts iX7_speed_X7 hown hK hP 0 rfl rfl 19 (by decide) f_60 (fun _ h9 => h9) rfl dX7_speed_101 ?_
              refine lv_iload hx hb dX7_speed_104 (lv_at hl 1 rfl) ?_
              refine lv_iconst (v := nI 1) hx hb dX7_speed_106 (by decide) ?_
              refine xia hx hb (i + 1) dX7_speed_107 rfl ?_
              refine xdl hx hb hK hP 17 0 rfl rfl (j := i + 1) (by decide) (by omega) dX7_speed_108 ?_
              refine lv_goto (tgt := 121) hx hb dX7_speed_109 (by decide) ?_
              refine lv_dstore (lv' := [(9, .double (rx (i + 1))), (7, .double (rx i)), (6, .int (nI i)), (4, .double (FP.dconst0)), (0, .ref (ad 0)), (1, .double (d)), (3, .int (nI 1))]) hx hb dX7_speed_121 hl (by decide) rfl (fun ls hl => ?_)
              refine lv_dload hx hb dX7_speed_123 (lv_at hl 1 rfl) ?_
              refine lv_dload hx hb dX7_speed_125 (lv_at hl 0 rfl) ?_
              refine lv_dload hx hb dX7_speed_127 (lv_at hl 1 rfl) ?_
              have h_17 : fB (1032) (FP.dsub (rx (i + 1)) (rx i)) := fB_sub (M := 1030) (hr.2 _ (by omega)).2.2.1 (hr.2 _ (by omega)).2.2.1 (by omega) (by omega) (by omega)
              refine lv_dsub hx hb dX7_speed_129 (fB_ne h_17 (by omega)) ?_
              refine lv_dload_n hx hb dX7_speed_130 rfl (lv_at hl 5 rfl) ?_
              refine lv_aload_n hx hb dX7_speed_131 rfl (lv_at hl 4 rfl) ?_
              refine va_get (D := D) (ci := 7) (v := .ref (ad 16)) (C := RX7) (T := TX7) (N := 31) hx hb hts iX7_speed_X7 hown hK hP 0 rfl rfl 18 (by decide) f_57 (fun _ h9 => h9) rfl dX7_speed_132 ?_
              refine lv_iload hx hb dX7_speed_135 (lv_at hl 2 rfl) ?_
              refine xdl hx hb hK hP 16 0 rfl rfl (j := i) (by decide) (by omega) dX7_speed_137 ?_
              have h_19 : fB (1044) (FP.dsub (d) (rd i)) := fB_sub (M := 1042) hd_ (hr.2 _ (by omega)).2.1 (by omega) (by omega) (by omega)
              refine lv_dsub hx hb dX7_speed_138 (fB_ne h_19 (by omega)) ?_
              refine lv_aload_n hx hb dX7_speed_139 rfl (lv_at hl 4 rfl) ?_
              refine va_get (D := D) (ci := 7) (v := .ref (ad 16)) (C := RX7) (T := TX7) (N := 31) hx hb hts iX7_speed_X7 hown hK hP 0 rfl rfl 18 (by decide) f_57 (fun _ h9 => h9) rfl dX7_speed_140 ?_
              refine lv_iload hx hb dX7_speed_143 (lv_at hl 2 rfl) ?_
              refine lv_iconst (v := nI 1) hx hb dX7_speed_145 (by decide) ?_
              refine xia hx hb (i + 1) dX7_speed_146 rfl ?_
              refine xdl hx hb hK hP 16 0 rfl rfl (j := i + 1) (by decide) (by omega) dX7_speed_147 ?_
              refine lv_aload_n hx hb dX7_speed_148 rfl (lv_at hl 4 rfl) ?_
              refine va_get (D := D) (ci := 7) (v := .ref (ad 16)) (C := RX7) (T := TX7) (N := 31) hx hb hts iX7_speed_X7 hown hK hP 0 rfl rfl 18 (by decide) f_57 (fun _ h9 => h9) rfl dX7_speed_149 ?_
              refine lv_iload hx hb dX7_speed_152 (lv_at hl 2 rfl) ?_
              refine xdl hx hb hK hP 16 0 rfl rfl (j := i) (by decide) (by omega) dX7_speed_154 ?_
              have h_21 : fB (1035) (FP.dsub (rd (i + 1)) (rd i)) := fB_sub (M := 1033) (hr.2 _ (by omega)).2.1 (hr.2 _ (by omega)).2.1 (by omega) (by omega) (by omega)
              refine lv_dsub hx hb dX7_speed_155 (fB_ne h_21 (by omega)) ?_
              have h_23 : fB (1048) (FP.ddiv (FP.dsub (d) (rd i)) (FP.dsub (rd (i + 1)) (rd i))) := fB_div h_19 (rows_apart hr (k := i) (by omega)).2 (fB_mono h_21 (by omega)) (by omega) (by omega) (by omega)
              refine lv_ddiv hx hb dX7_speed_156 (fB_ne h_23 (by omega)) ?_
              have h_25 : fB (1058) (FP.dmul (FP.dsub (rx (i + 1)) (rx i)) (FP.ddiv (FP.dsub (d) (rd i)) (FP.dsub (rd (i + 1)) (rd i)))) := fB_mul h_17 h_23 (by omega) (by omega) (by omega)
              refine lv_dmul hx hb dX7_speed_157 (fB_ne h_25 (by omega)) ?_
              have h_27 : fB (1060) (FP.dadd (rx i) (FP.dmul (FP.dsub (rx (i + 1)) (rx i)) (FP.ddiv (FP.dsub (d) (rd i)) (FP.dsub (rd (i + 1)) (rd i))))) := fB_add (M := 1058) (hr.2 _ (by omega)).2.2.1 h_25 (by omega) (by omega) (by omega)
              refine lv_dadd hx hb dX7_speed_158 (fB_ne h_27 (by omega)) ?_
              refine lv_dstore (lv' := [(4, .double (FP.dadd (rx i) (FP.dmul (FP.dsub (rx (i + 1)) (rx i)) (FP.ddiv (FP.dsub (d) (rd i)) (FP.dsub (rd (i + 1)) (rd i)))))), (9, .double (rx (i + 1))), (7, .double (rx i)), (6, .int (nI i)), (0, .ref (ad 0)), (1, .double (d)), (3, .int (nI 1))]) hx hb dX7_speed_159 hl (by decide) rfl (fun ls hl => ?_)
              refine lv_dload hx hb dX7_speed_161 (lv_at hl 0 rfl) ?_
              refine lv_dconst1 hx hb dX7_speed_163 ?_
              refine lv_aload_n hx hb dX7_speed_164 rfl (lv_at hl 4 rfl) ?_
              refine va_get (D := D) (ci := 7) (v := .double (wv)) (C := RX7) (T := TX7) (N := 31) hx hb hts iX7_speed_X7 hown hK hP 0 rfl rfl 21 (by decide) f_129 (fun _ h9 => h9) rfl dX7_speed_165 ?_
              have h_29 : fB (1060) (FP.dadd (FP.dconst1) (wv)) := fB_add (M := 1058) fB_c1 hw_ (by omega) (by omega) (by omega)
              refine lv_dadd hx hb dX7_speed_168 (fB_ne h_29 (by omega)) ?_
              have h_31 : fB (1098) (FP.dmul (FP.dadd (rx i) (FP.dmul (FP.dsub (rx (i + 1)) (rx i)) (FP.ddiv (FP.dsub (d) (rd i)) (FP.dsub (rd (i + 1)) (rd i))))) (FP.dadd (FP.dconst1) (wv))) := fB_mul h_27 h_29 (by omega) (by omega) (by omega)
              refine lv_dmul hx hb dX7_speed_169 (fB_ne h_31 (by omega)) ?_
              exact hret hS hP dX7_speed_170 (⟨rfl, congrArg (fun v => FP.dmul v (FP.dadd FP.dconst1 wv)) (show _ = spB rd rx nR d (cF rd d nR) from (by rw [rd_C hr hd_ (show i < nR by omega) hle c_74_9 (fun q => absurd q (by omega)), spB_3 (show ¬ nR ≤ i + 1 by omega)]))⟩)
            · skip
              have c_86_14 : i + 1 = nR := (nI_eq (a := i + 1) (b := nR) (by omega) (by omega)).mp c_86_14
              refine lv_dload hx hb dX7_speed_89 (lv_at hl 0 rfl) ?_
              refine lv_dstore (lv' := [(4, .double (rx i)), (7, .double (rx i)), (6, .int (nI i)), (0, .ref (ad 0)), (1, .double (d)), (3, .int (nI 1))]) hx hb dX7_speed_91 hl (by decide) rfl (fun ls hl => ?_)
              refine lv_goto (tgt := 161) hx hb dX7_speed_93 (by decide) ?_
              refine lv_dload hx hb dX7_speed_161 (lv_at hl 0 rfl) ?_
              refine lv_dconst1 hx hb dX7_speed_163 ?_
              refine lv_aload_n hx hb dX7_speed_164 rfl (lv_at hl 3 rfl) ?_
              refine va_get (D := D) (ci := 7) (v := .double (wv)) (C := RX7) (T := TX7) (N := 31) hx hb hts iX7_speed_X7 hown hK hP 0 rfl rfl 21 (by decide) f_129 (fun _ h9 => h9) rfl dX7_speed_165 ?_
              have h_33 : fB (1060) (FP.dadd (FP.dconst1) (wv)) := fB_add (M := 1058) fB_c1 hw_ (by omega) (by omega) (by omega)
              refine lv_dadd hx hb dX7_speed_168 (fB_ne h_33 (by omega)) ?_
              have h_35 : fB (1068) (FP.dmul (rx i) (FP.dadd (FP.dconst1) (wv))) := fB_mul (hr.2 _ (by omega)).2.2.1 h_33 (by omega) (by omega) (by omega)
              refine lv_dmul hx hb dX7_speed_169 (fB_ne h_35 (by omega)) ?_
              exact hret hS hP dX7_speed_170 (⟨rfl, congrArg (fun v => FP.dmul v (FP.dadd FP.dconst1 wv)) (show _ = spB rd rx nR d (cF rd d nR) from (by rw [rd_C hr hd_ (show i < nR by omega) hle c_74_9 (fun q => absurd q (by omega)), spB_2 (by omega) (by omega), show nR - 1 = i by omega]))⟩)
        · skip
          have c_21_7 : ¬ (nR ≤ i + 1) := fun q => c_21_7 ((nI_leI (a := nR) (b := i + 1) (by omega) (by omega)).mpr q)
          refine lv_aload_n hx hb dX7_speed_24 rfl (lv_at hl 2 rfl) ?_
          refine va_get (D := D) (ci := 7) (v := .ref (ad 16)) (C := RX7) (T := TX7) (N := 31) hx hb hts iX7_speed_X7 hown hK hP 0 rfl rfl 18 (by decide) f_57 (fun _ h9 => h9) rfl dX7_speed_25 ?_
          refine lv_iload hx hb dX7_speed_28 (lv_at hl 0 rfl) ?_
          refine lv_iconst (v := nI 1) hx hb dX7_speed_30 (by decide) ?_
          refine xia hx hb (i + 1) dX7_speed_31 rfl ?_
          refine xdl hx hb hK hP 16 0 rfl rfl (j := i + 1) (by decide) (by omega) dX7_speed_32 ?_
          refine lv_dload_n hx hb dX7_speed_33 rfl (lv_at hl 3 rfl) ?_
          refine xc_gle (tgt := 44) hx hb dX7_speed_34 dX7_speed_35 (by decide) (fun c_34_36 => ?_) (fun c_34_36 => ?_)
          · skip
            refine lv_iload_n hx hb dX7_speed_44 rfl (lv_at hl 4 rfl) ?_
            refine lv_if_eq (tgt := 58) hx hb dX7_speed_45 (by decide) (fun c_45_37 => absurd c_45_37 (by decide)) (fun _ => ?_)
            refine lv_aload_n hx hb dX7_speed_48 rfl (lv_at hl 2 rfl) ?_
            refine va_get (D := D) (ci := 7) (v := .ref (ad 17)) (C := RX7) (T := TX7) (N := 31) hx hb hts iX7_speed_X7 hown hK hP 0 rfl rfl 19 (by decide) f_60 (fun _ h9 => h9) rfl dX7_speed_49 ?_
            refine lv_iload hx hb dX7_speed_52 (lv_at hl 0 rfl) ?_
            refine xdl hx hb hK hP 17 0 rfl rfl (j := i) (by decide) (by omega) dX7_speed_54 ?_
            refine lv_goto (tgt := 65) hx hb dX7_speed_55 (by decide) ?_
            refine lv_dstore (lv' := [(7, .double (rx i)), (6, .int (nI i)), (4, .double (FP.dconst0)), (0, .ref (ad 0)), (1, .double (d)), (3, .int (nI 1))]) hx hb dX7_speed_65 hl (by decide) rfl (fun ls hl => ?_)
            refine lv_dload_n hx hb dX7_speed_67 rfl (lv_at hl 4 rfl) ?_
            refine lv_aload_n hx hb dX7_speed_68 rfl (lv_at hl 3 rfl) ?_
            refine va_get (D := D) (ci := 7) (v := .ref (ad 16)) (C := RX7) (T := TX7) (N := 31) hx hb hts iX7_speed_X7 hown hK hP 0 rfl rfl 18 (by decide) f_57 (fun _ h9 => h9) rfl dX7_speed_69 ?_
            refine lv_iconst (v := nI 0) hx hb dX7_speed_72 (by decide) ?_
            refine xdl hx hb hK hP 16 0 rfl rfl (j := 0) (by decide) (by decide) dX7_speed_73 ?_
            refine xc_glp (tgt := 89) hx hb dX7_speed_74 dX7_speed_75 (by decide) (fun c_74_38 => ?_) (fun c_74_38 => ?_)
            · skip
              refine lv_dload hx hb dX7_speed_89 (lv_at hl 0 rfl) ?_
              refine lv_dstore (lv' := [(4, .double (rx i)), (7, .double (rx i)), (6, .int (nI i)), (0, .ref (ad 0)), (1, .double (d)), (3, .int (nI 1))]) hx hb dX7_speed_91 hl (by decide) rfl (fun ls hl => ?_)
              refine lv_goto (tgt := 161) hx hb dX7_speed_93 (by decide) ?_
              refine lv_dload hx hb dX7_speed_161 (lv_at hl 0 rfl) ?_
              refine lv_dconst1 hx hb dX7_speed_163 ?_
              refine lv_aload_n hx hb dX7_speed_164 rfl (lv_at hl 3 rfl) ?_
              refine va_get (D := D) (ci := 7) (v := .double (wv)) (C := RX7) (T := TX7) (N := 31) hx hb hts iX7_speed_X7 hown hK hP 0 rfl rfl 21 (by decide) f_129 (fun _ h9 => h9) rfl dX7_speed_165 ?_
              have h_40 : fB (1060) (FP.dadd (FP.dconst1) (wv)) := fB_add (M := 1058) fB_c1 hw_ (by omega) (by omega) (by omega)
              refine lv_dadd hx hb dX7_speed_168 (fB_ne h_40 (by omega)) ?_
              have h_42 : fB (1068) (FP.dmul (rx i) (FP.dadd (FP.dconst1) (wv))) := fB_mul (hr.2 _ (by omega)).2.2.1 h_40 (by omega) (by omega) (by omega)
              refine lv_dmul hx hb dX7_speed_169 (fB_ne h_42 (by omega)) ?_
              exact hret hS hP dX7_speed_170 (⟨rfl, congrArg (fun v => FP.dmul v (FP.dadd FP.dconst1 wv)) (show _ = spB rd rx nR d (cF rd d nR) from rd_lo (f := rx) hr (show i < nR by omega) hle c_74_38)⟩)
            · skip
              refine lv_iload hx hb dX7_speed_78 (lv_at hl 1 rfl) ?_
              refine lv_iconst (v := nI 1) hx hb dX7_speed_80 (by decide) ?_
              refine xia hx hb (i + 1) dX7_speed_81 rfl ?_
              refine lv_aload_n hx hb dX7_speed_82 rfl (lv_at hl 3 rfl) ?_
              refine va_get (D := D) (ci := 7) (v := .int (nI nR)) (C := RX7) (T := TX7) (N := 31) hx hb hts iX7_speed_X7 hown hK hP 0 rfl rfl 17 (by decide) f_132 (fun _ h9 => h9) rfl dX7_speed_83 ?_
              refine lv_icmp_ne (tgt := 96) hx hb dX7_speed_86 (by decide) (fun c_86_43 => ?_) (fun c_86_43 => ?_)
              · skip
                have c_86_43 : ¬ (i + 1 = nR) := fun q => c_86_43 ((nI_eq (a := i + 1) (b := nR) (by omega) (by omega)).mpr q)
                refine lv_iload_n hx hb dX7_speed_96 rfl (lv_at hl 5 rfl) ?_
                refine lv_if_eq (tgt := 112) hx hb dX7_speed_97 (by decide) (fun c_97_44 => absurd c_97_44 (by decide)) (fun _ => ?_)
                refine lv_aload_n hx hb dX7_speed_100 rfl (lv_at hl 3 rfl) ?_
                refine va_get (D := D) (ci := 7) (v := .ref (ad 17)) (C := RX7) (T := TX7) (N := 31) hx hb hts iX7_speed_X7 hown hK hP 0 rfl rfl 19 (by decide) f_60 (fun _ h9 => h9) rfl dX7_speed_101 ?_
                refine lv_iload hx hb dX7_speed_104 (lv_at hl 1 rfl) ?_
                refine lv_iconst (v := nI 1) hx hb dX7_speed_106 (by decide) ?_
                refine xia hx hb (i + 1) dX7_speed_107 rfl ?_
                refine xdl hx hb hK hP 17 0 rfl rfl (j := i + 1) (by decide) (by omega) dX7_speed_108 ?_
                refine lv_goto (tgt := 121) hx hb dX7_speed_109 (by decide) ?_
                refine lv_dstore (lv' := [(9, .double (rx (i + 1))), (7, .double (rx i)), (6, .int (nI i)), (4, .double (FP.dconst0)), (0, .ref (ad 0)), (1, .double (d)), (3, .int (nI 1))]) hx hb dX7_speed_121 hl (by decide) rfl (fun ls hl => ?_)
                refine lv_dload hx hb dX7_speed_123 (lv_at hl 1 rfl) ?_
                refine lv_dload hx hb dX7_speed_125 (lv_at hl 0 rfl) ?_
                refine lv_dload hx hb dX7_speed_127 (lv_at hl 1 rfl) ?_
                have h_46 : fB (1032) (FP.dsub (rx (i + 1)) (rx i)) := fB_sub (M := 1030) (hr.2 _ (by omega)).2.2.1 (hr.2 _ (by omega)).2.2.1 (by omega) (by omega) (by omega)
                refine lv_dsub hx hb dX7_speed_129 (fB_ne h_46 (by omega)) ?_
                refine lv_dload_n hx hb dX7_speed_130 rfl (lv_at hl 5 rfl) ?_
                refine lv_aload_n hx hb dX7_speed_131 rfl (lv_at hl 4 rfl) ?_
                refine va_get (D := D) (ci := 7) (v := .ref (ad 16)) (C := RX7) (T := TX7) (N := 31) hx hb hts iX7_speed_X7 hown hK hP 0 rfl rfl 18 (by decide) f_57 (fun _ h9 => h9) rfl dX7_speed_132 ?_
                refine lv_iload hx hb dX7_speed_135 (lv_at hl 2 rfl) ?_
                refine xdl hx hb hK hP 16 0 rfl rfl (j := i) (by decide) (by omega) dX7_speed_137 ?_
                have h_48 : fB (1044) (FP.dsub (d) (rd i)) := fB_sub (M := 1042) hd_ (hr.2 _ (by omega)).2.1 (by omega) (by omega) (by omega)
                refine lv_dsub hx hb dX7_speed_138 (fB_ne h_48 (by omega)) ?_
                refine lv_aload_n hx hb dX7_speed_139 rfl (lv_at hl 4 rfl) ?_
                refine va_get (D := D) (ci := 7) (v := .ref (ad 16)) (C := RX7) (T := TX7) (N := 31) hx hb hts iX7_speed_X7 hown hK hP 0 rfl rfl 18 (by decide) f_57 (fun _ h9 => h9) rfl dX7_speed_140 ?_
                refine lv_iload hx hb dX7_speed_143 (lv_at hl 2 rfl) ?_
                refine lv_iconst (v := nI 1) hx hb dX7_speed_145 (by decide) ?_
                refine xia hx hb (i + 1) dX7_speed_146 rfl ?_
                refine xdl hx hb hK hP 16 0 rfl rfl (j := i + 1) (by decide) (by omega) dX7_speed_147 ?_
                refine lv_aload_n hx hb dX7_speed_148 rfl (lv_at hl 4 rfl) ?_
                refine va_get (D := D) (ci := 7) (v := .ref (ad 16)) (C := RX7) (T := TX7) (N := 31) hx hb hts iX7_speed_X7 hown hK hP 0 rfl rfl 18 (by decide) f_57 (fun _ h9 => h9) rfl dX7_speed_149 ?_
                refine lv_iload hx hb dX7_speed_152 (lv_at hl 2 rfl) ?_
                refine xdl hx hb hK hP 16 0 rfl rfl (j := i) (by decide) (by omega) dX7_speed_154 ?_
                have h_50 : fB (1035) (FP.dsub (rd (i + 1)) (rd i)) := fB_sub (M := 1033) (hr.2 _ (by omega)).2.1 (hr.2 _ (by omega)).2.1 (by omega) (by omega) (by omega)
                refine lv_dsub hx hb dX7_speed_155 (fB_ne h_50 (by omega)) ?_
                have h_52 : fB (1048) (FP.ddiv (FP.dsub (d) (rd i)) (FP.dsub (rd (i + 1)) (rd i))) := fB_div h_48 (rows_apart hr (k := i) (by omega)).2 (fB_mono h_50 (by omega)) (by omega) (by omega) (by omega)
                refine lv_ddiv hx hb dX7_speed_156 (fB_ne h_52 (by omega)) ?_
                have h_54 : fB (1058) (FP.dmul (FP.dsub (rx (i + 1)) (rx i)) (FP.ddiv (FP.dsub (d) (rd i)) (FP.dsub (rd (i + 1)) (rd i)))) := fB_mul h_46 h_52 (by omega) (by omega) (by omega)
                refine lv_dmul hx hb dX7_speed_157 (fB_ne h_54 (by omega)) ?_
                have h_56 : fB (1060) (FP.dadd (rx i) (FP.dmul (FP.dsub (rx (i + 1)) (rx i)) (FP.ddiv (FP.dsub (d) (rd i)) (FP.dsub (rd (i + 1)) (rd i))))) := fB_add (M := 1058) (hr.2 _ (by omega)).2.2.1 h_54 (by omega) (by omega) (by omega)
                refine lv_dadd hx hb dX7_speed_158 (fB_ne h_56 (by omega)) ?_
                refine lv_dstore (lv' := [(4, .double (FP.dadd (rx i) (FP.dmul (FP.dsub (rx (i + 1)) (rx i)) (FP.ddiv (FP.dsub (d) (rd i)) (FP.dsub (rd (i + 1)) (rd i)))))), (9, .double (rx (i + 1))), (7, .double (rx i)), (6, .int (nI i)), (0, .ref (ad 0)), (1, .double (d)), (3, .int (nI 1))]) hx hb dX7_speed_159 hl (by decide) rfl (fun ls hl => ?_)
                refine lv_dload hx hb dX7_speed_161 (lv_at hl 0 rfl) ?_
                refine lv_dconst1 hx hb dX7_speed_163 ?_
                refine lv_aload_n hx hb dX7_speed_164 rfl (lv_at hl 4 rfl) ?_
                refine va_get (D := D) (ci := 7) (v := .double (wv)) (C := RX7) (T := TX7) (N := 31) hx hb hts iX7_speed_X7 hown hK hP 0 rfl rfl 21 (by decide) f_129 (fun _ h9 => h9) rfl dX7_speed_165 ?_
                have h_58 : fB (1060) (FP.dadd (FP.dconst1) (wv)) := fB_add (M := 1058) fB_c1 hw_ (by omega) (by omega) (by omega)
                refine lv_dadd hx hb dX7_speed_168 (fB_ne h_58 (by omega)) ?_
                have h_60 : fB (1098) (FP.dmul (FP.dadd (rx i) (FP.dmul (FP.dsub (rx (i + 1)) (rx i)) (FP.ddiv (FP.dsub (d) (rd i)) (FP.dsub (rd (i + 1)) (rd i))))) (FP.dadd (FP.dconst1) (wv))) := fB_mul h_56 h_58 (by omega) (by omega) (by omega)
                refine lv_dmul hx hb dX7_speed_169 (fB_ne h_60 (by omega)) ?_
                exact hret hS hP dX7_speed_170 (⟨rfl, congrArg (fun v => FP.dmul v (FP.dadd FP.dconst1 wv)) (show _ = spB rd rx nR d (cF rd d nR) from (by rw [rd_C hr hd_ (show i < nR by omega) hle c_74_38 (fun _ => c_34_36), spB_3 (show ¬ nR ≤ i + 1 by omega)]))⟩)
              · skip
                have c_86_43 : i + 1 = nR := (nI_eq (a := i + 1) (b := nR) (by omega) (by omega)).mp c_86_43
                refine lv_dload hx hb dX7_speed_89 (lv_at hl 0 rfl) ?_
                refine lv_dstore (lv' := [(4, .double (rx i)), (7, .double (rx i)), (6, .int (nI i)), (0, .ref (ad 0)), (1, .double (d)), (3, .int (nI 1))]) hx hb dX7_speed_91 hl (by decide) rfl (fun ls hl => ?_)
                refine lv_goto (tgt := 161) hx hb dX7_speed_93 (by decide) ?_
                refine lv_dload hx hb dX7_speed_161 (lv_at hl 0 rfl) ?_
                refine lv_dconst1 hx hb dX7_speed_163 ?_
                refine lv_aload_n hx hb dX7_speed_164 rfl (lv_at hl 3 rfl) ?_
                refine va_get (D := D) (ci := 7) (v := .double (wv)) (C := RX7) (T := TX7) (N := 31) hx hb hts iX7_speed_X7 hown hK hP 0 rfl rfl 21 (by decide) f_129 (fun _ h9 => h9) rfl dX7_speed_165 ?_
                have h_62 : fB (1060) (FP.dadd (FP.dconst1) (wv)) := fB_add (M := 1058) fB_c1 hw_ (by omega) (by omega) (by omega)
                refine lv_dadd hx hb dX7_speed_168 (fB_ne h_62 (by omega)) ?_
                have h_64 : fB (1068) (FP.dmul (rx i) (FP.dadd (FP.dconst1) (wv))) := fB_mul (hr.2 _ (by omega)).2.2.1 h_62 (by omega) (by omega) (by omega)
                refine lv_dmul hx hb dX7_speed_169 (fB_ne h_64 (by omega)) ?_
                exact hret hS hP dX7_speed_170 (⟨rfl, congrArg (fun v => FP.dmul v (FP.dadd FP.dconst1 wv)) (show _ = spB rd rx nR d (cF rd d nR) from (by rw [rd_C hr hd_ (show i < nR by omega) hle c_74_38 (fun _ => c_34_36), spB_2 (by omega) (by omega), show nR - 1 = i by omega]))⟩)
          · skip
            refine lv_iinc (v := nI (i + 1)) (lv' := [(6, .int (nI (i + 1))), (4, .double (FP.dconst0)), (0, .ref (ad 0)), (1, .double (d)), (3, .int (nI 1))]) hx hb dX7_speed_38 hl (k := 0) rfl (nI_add _ _) (by decide) rfl (fun ls hl => ?_)
            refine lv_goto (tgt := 13) hx hb dX7_speed_41 (by decide) ?_
            exact ih_13 (i + 1)  (by omega) (by omega) (fun k h1 h2 => by by_cases q : k = i + 1; (rw [q]; exact c_34_36); exact hle k h1 (by omega)) _ _ hP hS ls (lv_sub hl [0, 1, 2, 3, 4] rfl)
    exact L_13_6 (nR + 1) (0)  (by omega) (by omega) (fun k h1 h2 => absurd h1 (by omega)) _ _ hP hS ls (lv_sub hl [0, 1, 2, 3, 4] rfl)
set_option maxHeartbeats 4000000 in
set_option maxRecDepth 100000 in
theorem kX7_speed_0 (l : Launch) (D : va_G) (cs : Nat → ClassId) (ad : Nat → Nat) (hd : distM ad) (sz : Nat) (S : MS) (hnR : S.1.2.2.1.1 ≤ 10) (hr : rowsOK (S.1.2.2.1.1) (S.1.2.2.1.2.1) (S.1.2.2.1.2.2.1) (S.1.2.2.1.2.2.2.1)) (hw_ : fB 1058 (S.1.2.2.1.2.2.2.2.1)) (d : UInt64) (hd_ : fB 1042 d) : Met l yX7_speed wsX7_speed ({ frames := 0, cells := 0, slots := 0, locals := 0 } : Room) (gP D (WM cs ad) (EM D cs) S sz ([.ref (ad 0), .double (d), .int (nI 0)] : List Value)) (va_Qd (fun r u => u = S ∧ r = uF (S.1.2.2.1.2.1) (S.1.2.2.1.2.2.2.1) (S.1.2.2.1.1) (S.1.2.2.1.2.2.2.2.1) d (cF (S.1.2.2.1.2.1) d (S.1.2.2.1.1))) (gB D (WM cs ad)) (gA (AM ad) sz)) 0 0 (gA (AM ad) sz) := by
  obtain ⟨⟨⟨nN, px, py, pz, fx, fy, fz, lf, ld, fi⟩, ⟨nB, fr, tt, ln, wi, sg, pu⟩, ⟨nR, rd, rx, ry, wv, fo⟩, ⟨re, dg⟩, ⟨nP, tp, bt, dp⟩⟩, ⟨nQ, fu⟩⟩ := S
  have hnR : nR ≤ 10 := hnR
  have hr : rowsOK nR rd rx ry := hr
  have hw_ : fB 1058 wv := hw_
  refine gMd (cc := cX7_speed) (maxL := 11) (plainFor_of_name (by decide)) rfl (Nat.le_of_ble_eq_true rfl) ?_
  intro p e s m below meth c Q hx hb hts hown hml hsz hE hret H locs hP hS ls hl
  subst hsz
  have hown : s.vm.findClass RX7 = some m.cls := hown
  have hK : va_K D vwCl (tysX cs) s := hE.1
  have hD : ∀ u, va_D (gA (AM ad) s.heap.size) (WM cs ad u) := fun u => WM_D hd u
  have hl : lv_has ls 11 [(0, .ref (ad 0)), (1, .double (d)), (3, .int (nI 0))] := hl
  have f_57 := hts (.fieldLink RX7 57 "NetShapesModel" "rowDepth" "[D") (by decide +kernel)
  have f_63 := hts (.fieldLink RX7 63 "NetShapesModel" "rowY" "[D") (by decide +kernel)
  have f_129 := hts (.fieldLink RX7 129 "NetShapesModel" "waves" "D") (by decide +kernel)
  have f_132 := hts (.fieldLink RX7 132 "NetShapesModel" "rows" "I") (by decide +kernel)
  refine lv_dconst0 hx hb dX7_speed_0 ?_
  refine lv_dstore (lv' := [(4, .double (FP.dconst0)), (0, .ref (ad 0)), (1, .double (d)), (3, .int (nI 0))]) hx hb dX7_speed_1 hl (by decide) rfl (fun ls hl => ?_)
  refine lv_aload_n hx hb dX7_speed_3 rfl (lv_at hl 1 rfl) ?_
  refine va_get (D := D) (ci := 7) (v := .int (nI nR)) (C := RX7) (T := TX7) (N := 31) hx hb hts iX7_speed_X7 hown hK hP 0 rfl rfl 17 (by decide) f_132 (fun _ h9 => h9) rfl dX7_speed_4 ?_
  refine lv_if_le (tgt := 161) hx hb dX7_speed_7 (by decide) (fun c_7_1 => ?_) (fun c_7_1 => ?_)
  · skip
    have c_7_1 : nR ≤ 0 := (nI_leI (a := nR) (b := 0) (by omega) (by omega)).mp c_7_1
    refine lv_dload hx hb dX7_speed_161 (lv_at hl 0 rfl) ?_
    refine lv_dconst1 hx hb dX7_speed_163 ?_
    refine lv_aload_n hx hb dX7_speed_164 rfl (lv_at hl 1 rfl) ?_
    refine va_get (D := D) (ci := 7) (v := .double (wv)) (C := RX7) (T := TX7) (N := 31) hx hb hts iX7_speed_X7 hown hK hP 0 rfl rfl 21 (by decide) f_129 (fun _ h9 => h9) rfl dX7_speed_165 ?_
    have h_3 : fB (1060) (FP.dadd (FP.dconst1) (wv)) := fB_add (M := 1058) fB_c1 hw_ (by omega) (by omega) (by omega)
    refine lv_dadd hx hb dX7_speed_168 (fB_ne h_3 (by omega)) ?_
    have h_5 : fB (39) (FP.dmul (FP.dconst0) (FP.dadd (FP.dconst1) (wv))) := fB_mul fB_c0 h_3 (by omega) (by omega) (by omega)
    refine lv_dmul hx hb dX7_speed_169 (fB_ne h_5 (by omega)) ?_
    exact hret hS hP dX7_speed_170 (⟨rfl, congrArg (fun v => FP.dmul v (FP.dadd FP.dconst1 wv)) (show _ = spB rd ry nR d (cF rd d nR) from (spB_0 (show nR = 0 by omega)).symm)⟩)
  · skip
    have c_7_1 : ¬ (nR ≤ 0) := fun q => c_7_1 ((nI_leI (a := nR) (b := 0) (by omega) (by omega)).mpr q)
    refine lv_iconst (v := nI 0) hx hb dX7_speed_10 (by decide) ?_
    refine lv_istore (lv' := [(6, .int (nI 0)), (4, .double (FP.dconst0)), (0, .ref (ad 0)), (1, .double (d)), (3, .int (nI 0))]) hx hb dX7_speed_11 hl (by decide) rfl (fun ls hl => ?_)
    have L_13_6 : ∀ (n_13 i : Nat) , (nR + 1 ≤ i + n_13) → (i < nR) → (∀ k, 1 ≤ k → k ≤ i → dle (rd k) d) → ∀ (H : Heap) (locs : List Loc), va_P D vwCl (WM cs ad (((nN, px, py, pz, fx, fy, fz, lf, ld, fi), (nB, fr, tt, ln, wi, sg, pu), (nR, rd, rx, ry, wv, fo), (re, dg), (nP, tp, bt, dp)), (nQ, fu))) H → va_S (gA (AM ad) s.heap.size) s.heap H locs → ∀ (ls : Array Slot), lv_has ls 11 [(6, .int (nI i)), (4, .double (FP.dconst0)), (0, .ref (ad 0)), (1, .double (d)), (3, .int (nI 0))] → W p l e ({ frames := 0, cells := 0, slots := 0, locals := 0 } : Room) s m ([.ref (ad 0), .double (d), .int (nI 0)] : List Value).toArray below meth c H locs 0 0 Q (F0 m 13 ls []) := by
      intro n_13; induction n_13 with
      | zero => intro i hf_13 hi hle H locs hP hS ls hl; exact absurd hf_13 (by omega)
      | succ n_13 ih_13 =>
        intro i hf_13 hi hle H locs hP hS ls hl
        refine lv_iload hx hb dX7_speed_13 (lv_at hl 0 rfl) ?_
        refine lv_iconst (v := nI 1) hx hb dX7_speed_15 (by decide) ?_
        refine xia hx hb (i + 1) dX7_speed_16 rfl ?_
        refine lv_aload_n hx hb dX7_speed_17 rfl (lv_at hl 2 rfl) ?_
        refine va_get (D := D) (ci := 7) (v := .int (nI nR)) (C := RX7) (T := TX7) (N := 31) hx hb hts iX7_speed_X7 hown hK hP 0 rfl rfl 17 (by decide) f_132 (fun _ h9 => h9) rfl dX7_speed_18 ?_
        refine lv_icmp_ge (tgt := 44) hx hb dX7_speed_21 (by decide) (fun c_21_7 => ?_) (fun c_21_7 => ?_)
        · skip
          have c_21_7 : nR ≤ i + 1 := (nI_leI (a := nR) (b := i + 1) (by omega) (by omega)).mp c_21_7
          refine lv_iload_n hx hb dX7_speed_44 rfl (lv_at hl 4 rfl) ?_
          refine lv_if_eq (tgt := 58) hx hb dX7_speed_45 (by decide) (fun _ => ?_) (fun c_45_8 => absurd c_45_8 (by decide))
          refine lv_aload_n hx hb dX7_speed_58 rfl (lv_at hl 2 rfl) ?_
          refine va_get (D := D) (ci := 7) (v := .ref (ad 18)) (C := RX7) (T := TX7) (N := 31) hx hb hts iX7_speed_X7 hown hK hP 0 rfl rfl 20 (by decide) f_63 (fun _ h9 => h9) rfl dX7_speed_59 ?_
          refine lv_iload hx hb dX7_speed_62 (lv_at hl 0 rfl) ?_
          refine xdl hx hb hK hP 18 0 rfl rfl (j := i) (by decide) (by omega) dX7_speed_64 ?_
          refine lv_dstore (lv' := [(7, .double (ry i)), (6, .int (nI i)), (4, .double (FP.dconst0)), (0, .ref (ad 0)), (1, .double (d)), (3, .int (nI 0))]) hx hb dX7_speed_65 hl (by decide) rfl (fun ls hl => ?_)
          refine lv_dload_n hx hb dX7_speed_67 rfl (lv_at hl 4 rfl) ?_
          refine lv_aload_n hx hb dX7_speed_68 rfl (lv_at hl 3 rfl) ?_
          refine va_get (D := D) (ci := 7) (v := .ref (ad 16)) (C := RX7) (T := TX7) (N := 31) hx hb hts iX7_speed_X7 hown hK hP 0 rfl rfl 18 (by decide) f_57 (fun _ h9 => h9) rfl dX7_speed_69 ?_
          refine lv_iconst (v := nI 0) hx hb dX7_speed_72 (by decide) ?_
          refine xdl hx hb hK hP 16 0 rfl rfl (j := 0) (by decide) (by decide) dX7_speed_73 ?_
          refine xc_glp (tgt := 89) hx hb dX7_speed_74 dX7_speed_75 (by decide) (fun c_74_9 => ?_) (fun c_74_9 => ?_)
          · skip
            refine lv_dload hx hb dX7_speed_89 (lv_at hl 0 rfl) ?_
            refine lv_dstore (lv' := [(4, .double (ry i)), (7, .double (ry i)), (6, .int (nI i)), (0, .ref (ad 0)), (1, .double (d)), (3, .int (nI 0))]) hx hb dX7_speed_91 hl (by decide) rfl (fun ls hl => ?_)
            refine lv_goto (tgt := 161) hx hb dX7_speed_93 (by decide) ?_
            refine lv_dload hx hb dX7_speed_161 (lv_at hl 0 rfl) ?_
            refine lv_dconst1 hx hb dX7_speed_163 ?_
            refine lv_aload_n hx hb dX7_speed_164 rfl (lv_at hl 3 rfl) ?_
            refine va_get (D := D) (ci := 7) (v := .double (wv)) (C := RX7) (T := TX7) (N := 31) hx hb hts iX7_speed_X7 hown hK hP 0 rfl rfl 21 (by decide) f_129 (fun _ h9 => h9) rfl dX7_speed_165 ?_
            have h_11 : fB (1060) (FP.dadd (FP.dconst1) (wv)) := fB_add (M := 1058) fB_c1 hw_ (by omega) (by omega) (by omega)
            refine lv_dadd hx hb dX7_speed_168 (fB_ne h_11 (by omega)) ?_
            have h_13 : fB (1068) (FP.dmul (ry i) (FP.dadd (FP.dconst1) (wv))) := fB_mul (hr.2 _ (by omega)).2.2.2 h_11 (by omega) (by omega) (by omega)
            refine lv_dmul hx hb dX7_speed_169 (fB_ne h_13 (by omega)) ?_
            exact hret hS hP dX7_speed_170 (⟨rfl, congrArg (fun v => FP.dmul v (FP.dadd FP.dconst1 wv)) (show _ = spB rd ry nR d (cF rd d nR) from rd_lo (f := ry) hr (show i < nR by omega) hle c_74_9)⟩)
          · skip
            refine lv_iload hx hb dX7_speed_78 (lv_at hl 1 rfl) ?_
            refine lv_iconst (v := nI 1) hx hb dX7_speed_80 (by decide) ?_
            refine xia hx hb (i + 1) dX7_speed_81 rfl ?_
            refine lv_aload_n hx hb dX7_speed_82 rfl (lv_at hl 3 rfl) ?_
            refine va_get (D := D) (ci := 7) (v := .int (nI nR)) (C := RX7) (T := TX7) (N := 31) hx hb hts iX7_speed_X7 hown hK hP 0 rfl rfl 17 (by decide) f_132 (fun _ h9 => h9) rfl dX7_speed_83 ?_
            refine lv_icmp_ne (tgt := 96) hx hb dX7_speed_86 (by decide) (fun c_86_14 => ?_) (fun c_86_14 => ?_)
            · skip
              have c_86_14 : ¬ (i + 1 = nR) := fun q => c_86_14 ((nI_eq (a := i + 1) (b := nR) (by omega) (by omega)).mpr q)
              refine lv_iload_n hx hb dX7_speed_96 rfl (lv_at hl 5 rfl) ?_
              refine lv_if_eq (tgt := 112) hx hb dX7_speed_97 (by decide) (fun _ => ?_) (fun c_97_15 => absurd c_97_15 (by decide))
              refine lv_aload_n hx hb dX7_speed_112 rfl (lv_at hl 3 rfl) ?_
              refine va_get (D := D) (ci := 7) (v := .ref (ad 18)) (C := RX7) (T := TX7) (N := 31) hx hb hts iX7_speed_X7 hown hK hP 0 rfl rfl 20 (by decide) f_63 (fun _ h9 => h9) rfl dX7_speed_113 ?_
              refine lv_iload hx hb dX7_speed_116 (lv_at hl 1 rfl) ?_
              refine lv_iconst (v := nI 1) hx hb dX7_speed_118 (by decide) ?_
              refine xia hx hb (i + 1) dX7_speed_119 rfl ?_
              refine xdl hx hb hK hP 18 0 rfl rfl (j := i + 1) (by decide) (by omega) dX7_speed_120 ?_
              refine lv_dstore (lv' := [(9, .double (ry (i + 1))), (7, .double (ry i)), (6, .int (nI i)), (4, .double (FP.dconst0)), (0, .ref (ad 0)), (1, .double (d)), (3, .int (nI 0))]) hx hb dX7_speed_121 hl (by decide) rfl (fun ls hl => ?_)
              refine lv_dload hx hb dX7_speed_123 (lv_at hl 1 rfl) ?_
              refine lv_dload hx hb dX7_speed_125 (lv_at hl 0 rfl) ?_
              refine lv_dload hx hb dX7_speed_127 (lv_at hl 1 rfl) ?_
              have h_17 : fB (1032) (FP.dsub (ry (i + 1)) (ry i)) := fB_sub (M := 1030) (hr.2 _ (by omega)).2.2.2 (hr.2 _ (by omega)).2.2.2 (by omega) (by omega) (by omega)
              refine lv_dsub hx hb dX7_speed_129 (fB_ne h_17 (by omega)) ?_
              refine lv_dload_n hx hb dX7_speed_130 rfl (lv_at hl 5 rfl) ?_
              refine lv_aload_n hx hb dX7_speed_131 rfl (lv_at hl 4 rfl) ?_
              refine va_get (D := D) (ci := 7) (v := .ref (ad 16)) (C := RX7) (T := TX7) (N := 31) hx hb hts iX7_speed_X7 hown hK hP 0 rfl rfl 18 (by decide) f_57 (fun _ h9 => h9) rfl dX7_speed_132 ?_
              refine lv_iload hx hb dX7_speed_135 (lv_at hl 2 rfl) ?_
              refine xdl hx hb hK hP 16 0 rfl rfl (j := i) (by decide) (by omega) dX7_speed_137 ?_
              have h_19 : fB (1044) (FP.dsub (d) (rd i)) := fB_sub (M := 1042) hd_ (hr.2 _ (by omega)).2.1 (by omega) (by omega) (by omega)
              refine lv_dsub hx hb dX7_speed_138 (fB_ne h_19 (by omega)) ?_
              refine lv_aload_n hx hb dX7_speed_139 rfl (lv_at hl 4 rfl) ?_
              refine va_get (D := D) (ci := 7) (v := .ref (ad 16)) (C := RX7) (T := TX7) (N := 31) hx hb hts iX7_speed_X7 hown hK hP 0 rfl rfl 18 (by decide) f_57 (fun _ h9 => h9) rfl dX7_speed_140 ?_
              refine lv_iload hx hb dX7_speed_143 (lv_at hl 2 rfl) ?_
              refine lv_iconst (v := nI 1) hx hb dX7_speed_145 (by decide) ?_
              refine xia hx hb (i + 1) dX7_speed_146 rfl ?_
              refine xdl hx hb hK hP 16 0 rfl rfl (j := i + 1) (by decide) (by omega) dX7_speed_147 ?_
              refine lv_aload_n hx hb dX7_speed_148 rfl (lv_at hl 4 rfl) ?_
              refine va_get (D := D) (ci := 7) (v := .ref (ad 16)) (C := RX7) (T := TX7) (N := 31) hx hb hts iX7_speed_X7 hown hK hP 0 rfl rfl 18 (by decide) f_57 (fun _ h9 => h9) rfl dX7_speed_149 ?_
              refine lv_iload hx hb dX7_speed_152 (lv_at hl 2 rfl) ?_
              refine xdl hx hb hK hP 16 0 rfl rfl (j := i) (by decide) (by omega) dX7_speed_154 ?_
              have h_21 : fB (1035) (FP.dsub (rd (i + 1)) (rd i)) := fB_sub (M := 1033) (hr.2 _ (by omega)).2.1 (hr.2 _ (by omega)).2.1 (by omega) (by omega) (by omega)
              refine lv_dsub hx hb dX7_speed_155 (fB_ne h_21 (by omega)) ?_
              have h_23 : fB (1048) (FP.ddiv (FP.dsub (d) (rd i)) (FP.dsub (rd (i + 1)) (rd i))) := fB_div h_19 (rows_apart hr (k := i) (by omega)).2 (fB_mono h_21 (by omega)) (by omega) (by omega) (by omega)
              refine lv_ddiv hx hb dX7_speed_156 (fB_ne h_23 (by omega)) ?_
              have h_25 : fB (1058) (FP.dmul (FP.dsub (ry (i + 1)) (ry i)) (FP.ddiv (FP.dsub (d) (rd i)) (FP.dsub (rd (i + 1)) (rd i)))) := fB_mul h_17 h_23 (by omega) (by omega) (by omega)
              refine lv_dmul hx hb dX7_speed_157 (fB_ne h_25 (by omega)) ?_
              have h_27 : fB (1060) (FP.dadd (ry i) (FP.dmul (FP.dsub (ry (i + 1)) (ry i)) (FP.ddiv (FP.dsub (d) (rd i)) (FP.dsub (rd (i + 1)) (rd i))))) := fB_add (M := 1058) (hr.2 _ (by omega)).2.2.2 h_25 (by omega) (by omega) (by omega)
              refine lv_dadd hx hb dX7_speed_158 (fB_ne h_27 (by omega)) ?_
              refine lv_dstore (lv' := [(4, .double (FP.dadd (ry i) (FP.dmul (FP.dsub (ry (i + 1)) (ry i)) (FP.ddiv (FP.dsub (d) (rd i)) (FP.dsub (rd (i + 1)) (rd i)))))), (9, .double (ry (i + 1))), (7, .double (ry i)), (6, .int (nI i)), (0, .ref (ad 0)), (1, .double (d)), (3, .int (nI 0))]) hx hb dX7_speed_159 hl (by decide) rfl (fun ls hl => ?_)
              refine lv_dload hx hb dX7_speed_161 (lv_at hl 0 rfl) ?_
              refine lv_dconst1 hx hb dX7_speed_163 ?_
              refine lv_aload_n hx hb dX7_speed_164 rfl (lv_at hl 4 rfl) ?_
              refine va_get (D := D) (ci := 7) (v := .double (wv)) (C := RX7) (T := TX7) (N := 31) hx hb hts iX7_speed_X7 hown hK hP 0 rfl rfl 21 (by decide) f_129 (fun _ h9 => h9) rfl dX7_speed_165 ?_
              have h_29 : fB (1060) (FP.dadd (FP.dconst1) (wv)) := fB_add (M := 1058) fB_c1 hw_ (by omega) (by omega) (by omega)
              refine lv_dadd hx hb dX7_speed_168 (fB_ne h_29 (by omega)) ?_
              have h_31 : fB (1098) (FP.dmul (FP.dadd (ry i) (FP.dmul (FP.dsub (ry (i + 1)) (ry i)) (FP.ddiv (FP.dsub (d) (rd i)) (FP.dsub (rd (i + 1)) (rd i))))) (FP.dadd (FP.dconst1) (wv))) := fB_mul h_27 h_29 (by omega) (by omega) (by omega)
              refine lv_dmul hx hb dX7_speed_169 (fB_ne h_31 (by omega)) ?_
              exact hret hS hP dX7_speed_170 (⟨rfl, congrArg (fun v => FP.dmul v (FP.dadd FP.dconst1 wv)) (show _ = spB rd ry nR d (cF rd d nR) from (by rw [rd_C hr hd_ (show i < nR by omega) hle c_74_9 (fun q => absurd q (by omega)), spB_3 (show ¬ nR ≤ i + 1 by omega)]))⟩)
            · skip
              have c_86_14 : i + 1 = nR := (nI_eq (a := i + 1) (b := nR) (by omega) (by omega)).mp c_86_14
              refine lv_dload hx hb dX7_speed_89 (lv_at hl 0 rfl) ?_
              refine lv_dstore (lv' := [(4, .double (ry i)), (7, .double (ry i)), (6, .int (nI i)), (0, .ref (ad 0)), (1, .double (d)), (3, .int (nI 0))]) hx hb dX7_speed_91 hl (by decide) rfl (fun ls hl => ?_)
              refine lv_goto (tgt := 161) hx hb dX7_speed_93 (by decide) ?_
              refine lv_dload hx hb dX7_speed_161 (lv_at hl 0 rfl) ?_
              refine lv_dconst1 hx hb dX7_speed_163 ?_
              refine lv_aload_n hx hb dX7_speed_164 rfl (lv_at hl 3 rfl) ?_
              refine va_get (D := D) (ci := 7) (v := .double (wv)) (C := RX7) (T := TX7) (N := 31) hx hb hts iX7_speed_X7 hown hK hP 0 rfl rfl 21 (by decide) f_129 (fun _ h9 => h9) rfl dX7_speed_165 ?_
              have h_33 : fB (1060) (FP.dadd (FP.dconst1) (wv)) := fB_add (M := 1058) fB_c1 hw_ (by omega) (by omega) (by omega)
              refine lv_dadd hx hb dX7_speed_168 (fB_ne h_33 (by omega)) ?_
              have h_35 : fB (1068) (FP.dmul (ry i) (FP.dadd (FP.dconst1) (wv))) := fB_mul (hr.2 _ (by omega)).2.2.2 h_33 (by omega) (by omega) (by omega)
              refine lv_dmul hx hb dX7_speed_169 (fB_ne h_35 (by omega)) ?_
              exact hret hS hP dX7_speed_170 (⟨rfl, congrArg (fun v => FP.dmul v (FP.dadd FP.dconst1 wv)) (show _ = spB rd ry nR d (cF rd d nR) from (by rw [rd_C hr hd_ (show i < nR by omega) hle c_74_9 (fun q => absurd q (by omega)), spB_2 (by omega) (by omega), show nR - 1 = i by omega]))⟩)
        · skip
          have c_21_7 : ¬ (nR ≤ i + 1) := fun q => c_21_7 ((nI_leI (a := nR) (b := i + 1) (by omega) (by omega)).mpr q)
          refine lv_aload_n hx hb dX7_speed_24 rfl (lv_at hl 2 rfl) ?_
          refine va_get (D := D) (ci := 7) (v := .ref (ad 16)) (C := RX7) (T := TX7) (N := 31) hx hb hts iX7_speed_X7 hown hK hP 0 rfl rfl 18 (by decide) f_57 (fun _ h9 => h9) rfl dX7_speed_25 ?_
          refine lv_iload hx hb dX7_speed_28 (lv_at hl 0 rfl) ?_
          refine lv_iconst (v := nI 1) hx hb dX7_speed_30 (by decide) ?_
          refine xia hx hb (i + 1) dX7_speed_31 rfl ?_
          refine xdl hx hb hK hP 16 0 rfl rfl (j := i + 1) (by decide) (by omega) dX7_speed_32 ?_
          refine lv_dload_n hx hb dX7_speed_33 rfl (lv_at hl 3 rfl) ?_
          refine xc_gle (tgt := 44) hx hb dX7_speed_34 dX7_speed_35 (by decide) (fun c_34_36 => ?_) (fun c_34_36 => ?_)
          · skip
            refine lv_iload_n hx hb dX7_speed_44 rfl (lv_at hl 4 rfl) ?_
            refine lv_if_eq (tgt := 58) hx hb dX7_speed_45 (by decide) (fun _ => ?_) (fun c_45_37 => absurd c_45_37 (by decide))
            refine lv_aload_n hx hb dX7_speed_58 rfl (lv_at hl 2 rfl) ?_
            refine va_get (D := D) (ci := 7) (v := .ref (ad 18)) (C := RX7) (T := TX7) (N := 31) hx hb hts iX7_speed_X7 hown hK hP 0 rfl rfl 20 (by decide) f_63 (fun _ h9 => h9) rfl dX7_speed_59 ?_
            refine lv_iload hx hb dX7_speed_62 (lv_at hl 0 rfl) ?_
            refine xdl hx hb hK hP 18 0 rfl rfl (j := i) (by decide) (by omega) dX7_speed_64 ?_
            refine lv_dstore (lv' := [(7, .double (ry i)), (6, .int (nI i)), (4, .double (FP.dconst0)), (0, .ref (ad 0)), (1, .double (d)), (3, .int (nI 0))]) hx hb dX7_speed_65 hl (by decide) rfl (fun ls hl => ?_)
            refine lv_dload_n hx hb dX7_speed_67 rfl (lv_at hl 4 rfl) ?_
            refine lv_aload_n hx hb dX7_speed_68 rfl (lv_at hl 3 rfl) ?_
            refine va_get (D := D) (ci := 7) (v := .ref (ad 16)) (C := RX7) (T := TX7) (N := 31) hx hb hts iX7_speed_X7 hown hK hP 0 rfl rfl 18 (by decide) f_57 (fun _ h9 => h9) rfl dX7_speed_69 ?_
            refine lv_iconst (v := nI 0) hx hb dX7_speed_72 (by decide) ?_
            refine xdl hx hb hK hP 16 0 rfl rfl (j := 0) (by decide) (by decide) dX7_speed_73 ?_
            refine xc_glp (tgt := 89) hx hb dX7_speed_74 dX7_speed_75 (by decide) (fun c_74_38 => ?_) (fun c_74_38 => ?_)
            · skip
              refine lv_dload hx hb dX7_speed_89 (lv_at hl 0 rfl) ?_
              refine lv_dstore (lv' := [(4, .double (ry i)), (7, .double (ry i)), (6, .int (nI i)), (0, .ref (ad 0)), (1, .double (d)), (3, .int (nI 0))]) hx hb dX7_speed_91 hl (by decide) rfl (fun ls hl => ?_)
              refine lv_goto (tgt := 161) hx hb dX7_speed_93 (by decide) ?_
              refine lv_dload hx hb dX7_speed_161 (lv_at hl 0 rfl) ?_
              refine lv_dconst1 hx hb dX7_speed_163 ?_
              refine lv_aload_n hx hb dX7_speed_164 rfl (lv_at hl 3 rfl) ?_
              refine va_get (D := D) (ci := 7) (v := .double (wv)) (C := RX7) (T := TX7) (N := 31) hx hb hts iX7_speed_X7 hown hK hP 0 rfl rfl 21 (by decide) f_129 (fun _ h9 => h9) rfl dX7_speed_165 ?_
              have h_40 : fB (1060) (FP.dadd (FP.dconst1) (wv)) := fB_add (M := 1058) fB_c1 hw_ (by omega) (by omega) (by omega)
              refine lv_dadd hx hb dX7_speed_168 (fB_ne h_40 (by omega)) ?_
              have h_42 : fB (1068) (FP.dmul (ry i) (FP.dadd (FP.dconst1) (wv))) := fB_mul (hr.2 _ (by omega)).2.2.2 h_40 (by omega) (by omega) (by omega)
              refine lv_dmul hx hb dX7_speed_169 (fB_ne h_42 (by omega)) ?_
              exact hret hS hP dX7_speed_170 (⟨rfl, congrArg (fun v => FP.dmul v (FP.dadd FP.dconst1 wv)) (show _ = spB rd ry nR d (cF rd d nR) from rd_lo (f := ry) hr (show i < nR by omega) hle c_74_38)⟩)
            · skip
              refine lv_iload hx hb dX7_speed_78 (lv_at hl 1 rfl) ?_
              refine lv_iconst (v := nI 1) hx hb dX7_speed_80 (by decide) ?_
              refine xia hx hb (i + 1) dX7_speed_81 rfl ?_
              refine lv_aload_n hx hb dX7_speed_82 rfl (lv_at hl 3 rfl) ?_
              refine va_get (D := D) (ci := 7) (v := .int (nI nR)) (C := RX7) (T := TX7) (N := 31) hx hb hts iX7_speed_X7 hown hK hP 0 rfl rfl 17 (by decide) f_132 (fun _ h9 => h9) rfl dX7_speed_83 ?_
              refine lv_icmp_ne (tgt := 96) hx hb dX7_speed_86 (by decide) (fun c_86_43 => ?_) (fun c_86_43 => ?_)
              · skip
                have c_86_43 : ¬ (i + 1 = nR) := fun q => c_86_43 ((nI_eq (a := i + 1) (b := nR) (by omega) (by omega)).mpr q)
                refine lv_iload_n hx hb dX7_speed_96 rfl (lv_at hl 5 rfl) ?_
                refine lv_if_eq (tgt := 112) hx hb dX7_speed_97 (by decide) (fun _ => ?_) (fun c_97_44 => absurd c_97_44 (by decide))
                refine lv_aload_n hx hb dX7_speed_112 rfl (lv_at hl 3 rfl) ?_
                refine va_get (D := D) (ci := 7) (v := .ref (ad 18)) (C := RX7) (T := TX7) (N := 31) hx hb hts iX7_speed_X7 hown hK hP 0 rfl rfl 20 (by decide) f_63 (fun _ h9 => h9) rfl dX7_speed_113 ?_
                refine lv_iload hx hb dX7_speed_116 (lv_at hl 1 rfl) ?_
                refine lv_iconst (v := nI 1) hx hb dX7_speed_118 (by decide) ?_
                refine xia hx hb (i + 1) dX7_speed_119 rfl ?_
                refine xdl hx hb hK hP 18 0 rfl rfl (j := i + 1) (by decide) (by omega) dX7_speed_120 ?_
                refine lv_dstore (lv' := [(9, .double (ry (i + 1))), (7, .double (ry i)), (6, .int (nI i)), (4, .double (FP.dconst0)), (0, .ref (ad 0)), (1, .double (d)), (3, .int (nI 0))]) hx hb dX7_speed_121 hl (by decide) rfl (fun ls hl => ?_)
                refine lv_dload hx hb dX7_speed_123 (lv_at hl 1 rfl) ?_
                refine lv_dload hx hb dX7_speed_125 (lv_at hl 0 rfl) ?_
                refine lv_dload hx hb dX7_speed_127 (lv_at hl 1 rfl) ?_
                have h_46 : fB (1032) (FP.dsub (ry (i + 1)) (ry i)) := fB_sub (M := 1030) (hr.2 _ (by omega)).2.2.2 (hr.2 _ (by omega)).2.2.2 (by omega) (by omega) (by omega)
                refine lv_dsub hx hb dX7_speed_129 (fB_ne h_46 (by omega)) ?_
                refine lv_dload_n hx hb dX7_speed_130 rfl (lv_at hl 5 rfl) ?_
                refine lv_aload_n hx hb dX7_speed_131 rfl (lv_at hl 4 rfl) ?_
                refine va_get (D := D) (ci := 7) (v := .ref (ad 16)) (C := RX7) (T := TX7) (N := 31) hx hb hts iX7_speed_X7 hown hK hP 0 rfl rfl 18 (by decide) f_57 (fun _ h9 => h9) rfl dX7_speed_132 ?_
                refine lv_iload hx hb dX7_speed_135 (lv_at hl 2 rfl) ?_
                refine xdl hx hb hK hP 16 0 rfl rfl (j := i) (by decide) (by omega) dX7_speed_137 ?_
                have h_48 : fB (1044) (FP.dsub (d) (rd i)) := fB_sub (M := 1042) hd_ (hr.2 _ (by omega)).2.1 (by omega) (by omega) (by omega)
                refine lv_dsub hx hb dX7_speed_138 (fB_ne h_48 (by omega)) ?_
                refine lv_aload_n hx hb dX7_speed_139 rfl (lv_at hl 4 rfl) ?_
                refine va_get (D := D) (ci := 7) (v := .ref (ad 16)) (C := RX7) (T := TX7) (N := 31) hx hb hts iX7_speed_X7 hown hK hP 0 rfl rfl 18 (by decide) f_57 (fun _ h9 => h9) rfl dX7_speed_140 ?_
                refine lv_iload hx hb dX7_speed_143 (lv_at hl 2 rfl) ?_
                refine lv_iconst (v := nI 1) hx hb dX7_speed_145 (by decide) ?_
                refine xia hx hb (i + 1) dX7_speed_146 rfl ?_
                refine xdl hx hb hK hP 16 0 rfl rfl (j := i + 1) (by decide) (by omega) dX7_speed_147 ?_
                refine lv_aload_n hx hb dX7_speed_148 rfl (lv_at hl 4 rfl) ?_
                refine va_get (D := D) (ci := 7) (v := .ref (ad 16)) (C := RX7) (T := TX7) (N := 31) hx hb hts iX7_speed_X7 hown hK hP 0 rfl rfl 18 (by decide) f_57 (fun _ h9 => h9) rfl dX7_speed_149 ?_
                refine lv_iload hx hb dX7_speed_152 (lv_at hl 2 rfl) ?_
                refine xdl hx hb hK hP 16 0 rfl rfl (j := i) (by decide) (by omega) dX7_speed_154 ?_
                have h_50 : fB (1035) (FP.dsub (rd (i + 1)) (rd i)) := fB_sub (M := 1033) (hr.2 _ (by omega)).2.1 (hr.2 _ (by omega)).2.1 (by omega) (by omega) (by omega)
                refine lv_dsub hx hb dX7_speed_155 (fB_ne h_50 (by omega)) ?_
                have h_52 : fB (1048) (FP.ddiv (FP.dsub (d) (rd i)) (FP.dsub (rd (i + 1)) (rd i))) := fB_div h_48 (rows_apart hr (k := i) (by omega)).2 (fB_mono h_50 (by omega)) (by omega) (by omega) (by omega)
                refine lv_ddiv hx hb dX7_speed_156 (fB_ne h_52 (by omega)) ?_
                have h_54 : fB (1058) (FP.dmul (FP.dsub (ry (i + 1)) (ry i)) (FP.ddiv (FP.dsub (d) (rd i)) (FP.dsub (rd (i + 1)) (rd i)))) := fB_mul h_46 h_52 (by omega) (by omega) (by omega)
                refine lv_dmul hx hb dX7_speed_157 (fB_ne h_54 (by omega)) ?_
                have h_56 : fB (1060) (FP.dadd (ry i) (FP.dmul (FP.dsub (ry (i + 1)) (ry i)) (FP.ddiv (FP.dsub (d) (rd i)) (FP.dsub (rd (i + 1)) (rd i))))) := fB_add (M := 1058) (hr.2 _ (by omega)).2.2.2 h_54 (by omega) (by omega) (by omega)
                refine lv_dadd hx hb dX7_speed_158 (fB_ne h_56 (by omega)) ?_
                refine lv_dstore (lv' := [(4, .double (FP.dadd (ry i) (FP.dmul (FP.dsub (ry (i + 1)) (ry i)) (FP.ddiv (FP.dsub (d) (rd i)) (FP.dsub (rd (i + 1)) (rd i)))))), (9, .double (ry (i + 1))), (7, .double (ry i)), (6, .int (nI i)), (0, .ref (ad 0)), (1, .double (d)), (3, .int (nI 0))]) hx hb dX7_speed_159 hl (by decide) rfl (fun ls hl => ?_)
                refine lv_dload hx hb dX7_speed_161 (lv_at hl 0 rfl) ?_
                refine lv_dconst1 hx hb dX7_speed_163 ?_
                refine lv_aload_n hx hb dX7_speed_164 rfl (lv_at hl 4 rfl) ?_
                refine va_get (D := D) (ci := 7) (v := .double (wv)) (C := RX7) (T := TX7) (N := 31) hx hb hts iX7_speed_X7 hown hK hP 0 rfl rfl 21 (by decide) f_129 (fun _ h9 => h9) rfl dX7_speed_165 ?_
                have h_58 : fB (1060) (FP.dadd (FP.dconst1) (wv)) := fB_add (M := 1058) fB_c1 hw_ (by omega) (by omega) (by omega)
                refine lv_dadd hx hb dX7_speed_168 (fB_ne h_58 (by omega)) ?_
                have h_60 : fB (1098) (FP.dmul (FP.dadd (ry i) (FP.dmul (FP.dsub (ry (i + 1)) (ry i)) (FP.ddiv (FP.dsub (d) (rd i)) (FP.dsub (rd (i + 1)) (rd i))))) (FP.dadd (FP.dconst1) (wv))) := fB_mul h_56 h_58 (by omega) (by omega) (by omega)
                refine lv_dmul hx hb dX7_speed_169 (fB_ne h_60 (by omega)) ?_
                exact hret hS hP dX7_speed_170 (⟨rfl, congrArg (fun v => FP.dmul v (FP.dadd FP.dconst1 wv)) (show _ = spB rd ry nR d (cF rd d nR) from (by rw [rd_C hr hd_ (show i < nR by omega) hle c_74_38 (fun _ => c_34_36), spB_3 (show ¬ nR ≤ i + 1 by omega)]))⟩)
              · skip
                have c_86_43 : i + 1 = nR := (nI_eq (a := i + 1) (b := nR) (by omega) (by omega)).mp c_86_43
                refine lv_dload hx hb dX7_speed_89 (lv_at hl 0 rfl) ?_
                refine lv_dstore (lv' := [(4, .double (ry i)), (7, .double (ry i)), (6, .int (nI i)), (0, .ref (ad 0)), (1, .double (d)), (3, .int (nI 0))]) hx hb dX7_speed_91 hl (by decide) rfl (fun ls hl => ?_)
                refine lv_goto (tgt := 161) hx hb dX7_speed_93 (by decide) ?_
                refine lv_dload hx hb dX7_speed_161 (lv_at hl 0 rfl) ?_
                refine lv_dconst1 hx hb dX7_speed_163 ?_
                refine lv_aload_n hx hb dX7_speed_164 rfl (lv_at hl 3 rfl) ?_
                refine va_get (D := D) (ci := 7) (v := .double (wv)) (C := RX7) (T := TX7) (N := 31) hx hb hts iX7_speed_X7 hown hK hP 0 rfl rfl 21 (by decide) f_129 (fun _ h9 => h9) rfl dX7_speed_165 ?_
                have h_62 : fB (1060) (FP.dadd (FP.dconst1) (wv)) := fB_add (M := 1058) fB_c1 hw_ (by omega) (by omega) (by omega)
                refine lv_dadd hx hb dX7_speed_168 (fB_ne h_62 (by omega)) ?_
                have h_64 : fB (1068) (FP.dmul (ry i) (FP.dadd (FP.dconst1) (wv))) := fB_mul (hr.2 _ (by omega)).2.2.2 h_62 (by omega) (by omega) (by omega)
                refine lv_dmul hx hb dX7_speed_169 (fB_ne h_64 (by omega)) ?_
                exact hret hS hP dX7_speed_170 (⟨rfl, congrArg (fun v => FP.dmul v (FP.dadd FP.dconst1 wv)) (show _ = spB rd ry nR d (cF rd d nR) from (by rw [rd_C hr hd_ (show i < nR by omega) hle c_74_38 (fun _ => c_34_36), spB_2 (by omega) (by omega), show nR - 1 = i by omega]))⟩)
          · skip
            refine lv_iinc (v := nI (i + 1)) (lv' := [(6, .int (nI (i + 1))), (4, .double (FP.dconst0)), (0, .ref (ad 0)), (1, .double (d)), (3, .int (nI 0))]) hx hb dX7_speed_38 hl (k := 0) rfl (nI_add _ _) (by decide) rfl (fun ls hl => ?_)
            refine lv_goto (tgt := 13) hx hb dX7_speed_41 (by decide) ?_
            exact ih_13 (i + 1)  (by omega) (by omega) (fun k h1 h2 => by by_cases q : k = i + 1; (rw [q]; exact c_34_36); exact hle k h1 (by omega)) _ _ hP hS ls (lv_sub hl [0, 1, 2, 3, 4] rfl)
    exact L_13_6 (nR + 1) (0)  (by omega) (by omega) (fun k h1 h2 => absurd h1 (by omega)) _ _ hP hS ls (lv_sub hl [0, 1, 2, 3, 4] rfl)
theorem iX7_forces_X7 : ∀ w ∈ u_ws RX7 TX7 31, w ∈ wsX7_forces := by decide +kernel
set_option maxHeartbeats 4000000 in
set_option maxRecDepth 100000 in
theorem kX7_forces (l : Launch) (D : va_G) (cs : Nat → ClassId) (ad : Nat → Nat) (hd : distM ad) (sz : Nat) (S : MS) (hE0 : envOK S.1) (M_ : Nat) (hM : M_ < 262144) (hpl : plOK M_ S.1)  : Met l yX7_forces wsX7_forces ({ frames := 1, cells := 0, slots := 0, locals := 30 } : Room) (gP D (WM cs ad) (EM D cs) S sz ([.ref (ad 0)] : List Value)) (va_Qv (fun u => u.1 = forcesG S.1 ∧ u.2 = S.2) (gB D (WM cs ad)) (gA (AM ad) sz)) 0 0 (gA (AM ad) sz) := by
  obtain ⟨⟨⟨nN, px, py, pz, fx, fy, fz, lf, ld, fi⟩, ⟨nB, fr, tt, ln, wi, sg, pu⟩, ⟨nR, rd, rx, ry, wv, fo⟩, ⟨re, dg⟩, ⟨nP, tp, bt, dp⟩⟩, ⟨nQ, fu⟩⟩ := S
  have hpl00 := hpl
  have hE00 := hE0
  obtain ⟨hnN, hnB, hnR, hbar, hlw, hr, hwv, hfo, hll⟩ := hE0
  have hbar : barOK nN nB fr tt := hbar
  have hr : rowsOK nR rd rx ry := hr
  have hpl : ∀ j, j < nN → pP M_ (px j) ∧ pP M_ (py j) ∧ pP M_ (pz j) := hpl
  have hp0 : ∀ j, j < nN → fB 1039 (px j) := fun j hj => pP_fB (hpl j hj).1 hM
  have hp1 : ∀ j, j < nN → fB 1039 (py j) := fun j hj => pP_fB (hpl j hj).2.1 hM
  have hp2 : ∀ j, j < nN → fB 1039 (pz j) := fun j hj => pP_fB (hpl j hj).2.2 hM
  refine gMv (cc := cX7_forces) (maxL := 30) (plainFor_of_name (by decide)) rfl (Nat.le_of_ble_eq_true rfl) ?_
  intro p e s m below meth c Q hx hb hts hown hml hsz hE hret H locs hP hS ls hl
  subst hsz
  have hown : s.vm.findClass RX7 = some m.cls := hown
  have hK : va_K D vwCl (tysX cs) s := hE.1
  have hD : ∀ u, va_D (gA (AM ad) s.heap.size) (WM cs ad u) := fun u => WM_D hd u
  have hl : lv_has ls 30 [(0, .ref (ad 0))] := hl
  have c_87 := hts (.constantDouble RX7 87 4602678819172646912) (by decide +kernel)
  have c_145 := hts (.constantDouble RX7 145 4656510908468559872) (by decide +kernel)
  have c_151 := hts (.constantDouble RX7 151 4638707616191610880) (by decide +kernel)
  have c_153 := hts (.constantDouble RX7 153 4611686018427387904) (by decide +kernel)
  have f_7 := hts (.fieldLink RX7 7 "NetShapesModel" "x" "[D") (by decide +kernel)
  have f_13 := hts (.fieldLink RX7 13 "NetShapesModel" "y" "[D") (by decide +kernel)
  have f_16 := hts (.fieldLink RX7 16 "NetShapesModel" "z" "[D") (by decide +kernel)
  have f_19 := hts (.fieldLink RX7 19 "NetShapesModel" "lift" "[D") (by decide +kernel)
  have f_22 := hts (.fieldLink RX7 22 "NetShapesModel" "caught" "[D") (by decide +kernel)
  have f_25 := hts (.fieldLink RX7 25 "NetShapesModel" "fixed" "[Z") (by decide +kernel)
  have f_29 := hts (.fieldLink RX7 29 "NetShapesModel" "fx" "[D") (by decide +kernel)
  have f_32 := hts (.fieldLink RX7 32 "NetShapesModel" "fy" "[D") (by decide +kernel)
  have f_35 := hts (.fieldLink RX7 35 "NetShapesModel" "fz" "[D") (by decide +kernel)
  have f_38 := hts (.fieldLink RX7 38 "NetShapesModel" "from" "[I") (by decide +kernel)
  have f_42 := hts (.fieldLink RX7 42 "NetShapesModel" "to" "[I") (by decide +kernel)
  have f_45 := hts (.fieldLink RX7 45 "NetShapesModel" "natural" "[D") (by decide +kernel)
  have f_48 := hts (.fieldLink RX7 48 "NetShapesModel" "width" "[D") (by decide +kernel)
  have f_54 := hts (.fieldLink RX7 54 "NetShapesModel" "pulls" "[D") (by decide +kernel)
  have f_68 := hts (.fieldLink RX7 68 "NetShapesModel" "residual" "D") (by decide +kernel)
  have f_72 := hts (.fieldLink RX7 72 "NetShapesModel" "drags" "[D") (by decide +kernel)
  have f_89 := hts (.fieldLink RX7 89 "NetShapesModel" "nodes" "I") (by decide +kernel)
  have f_105 := hts (.fieldLink RX7 105 "NetShapesModel" "bars" "I") (by decide +kernel)
  have f_120 := hts (.fieldLink RX7 120 "NetShapesModel" "fouled" "D") (by decide +kernel)
  refine lv_iconst (v := nI 0) hx hb dX7_forces_0 (by decide) ?_
  refine lv_istore_n (lv' := [(1, .int (nI 0)), (0, .ref (ad 0))]) hx hb dX7_forces_1 rfl hl (by decide) rfl (fun ls hl => ?_)
  have L_2_1 : ∀ (n_2 k : Nat) , (nN + 1 ≤ k + n_2) → (k ≤ nN) → ∀ (H : Heap) (locs : List Loc), va_P D vwCl (WM cs ad (((nN, px, py, pz, (st0 fx k), (st0 fy k), (stz fz ld lf k), lf, ld, fi), (nB, fr, tt, ln, wi, sg, pu), (nR, rd, rx, ry, wv, fo), (re, dg), (nP, tp, bt, dp)), (nQ, fu))) H → va_S (gA (AM ad) s.heap.size) s.heap H locs → ∀ (ls : Array Slot), lv_has ls 30 [(1, .int (nI k)), (0, .ref (ad 0))] → W p l e ({ frames := 1, cells := 0, slots := 0, locals := 30 } : Room) s m ([.ref (ad 0)] : List Value).toArray below meth c H locs 0 0 Q (F0 m 2 ls []) := by
    intro n_2; induction n_2 with
    | zero => intro k hf_2 hk H locs hP hS ls hl; exact absurd hf_2 (by omega)
    | succ n_2 ih_2 =>
      intro k hf_2 hk H locs hP hS ls hl
      refine lv_iload_n hx hb dX7_forces_2 rfl (lv_at hl 0 rfl) ?_
      refine lv_aload_n hx hb dX7_forces_3 rfl (lv_at hl 1 rfl) ?_
      refine va_get (D := D) (ci := 7) (v := .int (nI nN)) (C := RX7) (T := TX7) (N := 31) hx hb hts iX7_forces_X7 hown hK hP 0 rfl rfl 0 (by decide) f_89 (fun _ h9 => h9) rfl dX7_forces_4 ?_
      refine lv_icmp_ge (tgt := 51) hx hb dX7_forces_7 (by decide) (fun c_7_2 => ?_) (fun c_7_2 => ?_)
      · skip
        have c_7_2 : nN ≤ k := (nI_leI (a := nN) (b := k) (by omega) (by omega)).mp c_7_2
        have ek : k = nN := by omega
        rw [ek] at hP
        refine lv_aload_n hx hb dX7_forces_51 rfl (lv_at hl 1 rfl) ?_
        refine va_get (D := D) (ci := 7) (v := .ref (ad 19)) (C := RX7) (T := TX7) (N := 31) hx hb hts iX7_forces_X7 hown hK hP 0 rfl rfl 24 (by decide) f_72 (fun _ h9 => h9) rfl dX7_forces_52 ?_
        refine lv_iconst (v := nI 0) hx hb dX7_forces_55 (by decide) ?_
        refine lv_dconst0 hx hb dX7_forces_56 ?_
        refine xds hx hb hK hD hP hS 19 0 (((nN, px, py, pz, (st0 fx nN), (st0 fy nN), (stz fz ld lf nN), lf, ld, fi), (nB, fr, tt, ln, wi, sg, pu), (nR, rd, rx, ry, wv, fo), (re, (vf_upd dg 0 FP.dconst0)), (nP, tp, bt, dp)), (nQ, fu)) rfl rfl (j := 0) (by decide) (by decide) rfl dX7_forces_57 (fun H locs hP hS => ?_)
        refine lv_aload_n hx hb dX7_forces_58 rfl (lv_at hl 1 rfl) ?_
        refine va_get (D := D) (ci := 7) (v := .ref (ad 19)) (C := RX7) (T := TX7) (N := 31) hx hb hts iX7_forces_X7 hown hK hP 0 rfl rfl 24 (by decide) f_72 (fun _ h9 => h9) rfl dX7_forces_59 ?_
        refine lv_iconst (v := nI 1) hx hb dX7_forces_62 (by decide) ?_
        refine lv_dconst0 hx hb dX7_forces_63 ?_
        refine xds hx hb hK hD hP hS 19 0 (((nN, px, py, pz, (st0 fx nN), (st0 fy nN), (stz fz ld lf nN), lf, ld, fi), (nB, fr, tt, ln, wi, sg, pu), (nR, rd, rx, ry, wv, fo), (re, (vf_upd (vf_upd dg 0 FP.dconst0) 1 FP.dconst0)), (nP, tp, bt, dp)), (nQ, fu)) rfl rfl (j := 1) (by decide) (by decide) rfl dX7_forces_64 (fun H locs hP hS => ?_)
        refine lv_aload_n hx hb dX7_forces_65 rfl (lv_at hl 1 rfl) ?_
        refine va_get (D := D) (ci := 7) (v := .ref (ad 19)) (C := RX7) (T := TX7) (N := 31) hx hb hts iX7_forces_X7 hown hK hP 0 rfl rfl 24 (by decide) f_72 (fun _ h9 => h9) rfl dX7_forces_66 ?_
        refine lv_iconst (v := nI 2) hx hb dX7_forces_69 (by decide) ?_
        refine lv_dconst0 hx hb dX7_forces_70 ?_
        refine xds hx hb hK hD hP hS 19 0 (((nN, px, py, pz, (st0 fx nN), (st0 fy nN), (stz fz ld lf nN), lf, ld, fi), (nB, fr, tt, ln, wi, sg, pu), (nR, rd, rx, ry, wv, fo), (re, (vf_upd (vf_upd (vf_upd dg 0 FP.dconst0) 1 FP.dconst0) 2 FP.dconst0)), (nP, tp, bt, dp)), (nQ, fu)) rfl rfl (j := 2) (by decide) (by decide) rfl dX7_forces_71 (fun H locs hP hS => ?_)
        refine lv_iconst (v := nI 0) hx hb dX7_forces_72 (by decide) ?_
        refine lv_istore_n (lv' := [(1, .int (nI 0)), (0, .ref (ad 0))]) hx hb dX7_forces_73 rfl hl (by decide) rfl (fun ls hl => ?_)
        have L_74_3 : ∀ (n_74 i : Nat) (fx_ : DF) (fy_ : DF) (fz_ : DF) (pu_ : DF) (dg_ : DF), (nB + 1 ≤ i + n_74) → (i ≤ nB) → ((fx_, fy_, fz_, pu_, dg_) = barsI ((nN, px, py, pz, fx, fy, fz, lf, ld, fi), (nB, fr, tt, ln, wi, sg, pu), (nR, rd, rx, ry, wv, fo), (re, dg), (nP, tp, bt, dp)) i) → ∀ (H : Heap) (locs : List Loc), va_P D vwCl (WM cs ad (((nN, px, py, pz, fx_, fy_, fz_, lf, ld, fi), (nB, fr, tt, ln, wi, sg, pu_), (nR, rd, rx, ry, wv, fo), (re, dg_), (nP, tp, bt, dp)), (nQ, fu))) H → va_S (gA (AM ad) s.heap.size) s.heap H locs → ∀ (ls : Array Slot), lv_has ls 30 [(1, .int (nI i)), (0, .ref (ad 0))] → W p l e ({ frames := 1, cells := 0, slots := 0, locals := 30 } : Room) s m ([.ref (ad 0)] : List Value).toArray below meth c H locs 0 0 Q (F0 m 74 ls []) := by
          intro n_74; induction n_74 with
          | zero => intro i fx_ fy_ fz_ pu_ dg_ hf_74 hi hFS H locs hP hS ls hl; exact absurd hf_74 (by omega)
          | succ n_74 ih_74 =>
            intro i fx_ fy_ fz_ pu_ dg_ hf_74 hi hFS H locs hP hS ls hl
            have hKf : frOK (1700 + 4 * i) nN (barsI ((nN, px, py, pz, fx, fy, fz, lf, ld, fi), (nB, fr, tt, ln, wi, sg, pu), (nR, rd, rx, ry, wv, fo), (re, dg), (nP, tp, bt, dp)) i) := bars_ok (G := ((nN, px, py, pz, fx, fy, fz, lf, ld, fi), (nB, fr, tt, ln, wi, sg, pu), (nR, rd, rx, ry, wv, fo), (re, dg), (nP, tp, bt, dp))) hE00 hpl00 hM i (show i ≤ nB by omega) (by omega)
            rw [← hFS] at hKf
            refine lv_iload_n hx hb dX7_forces_74 rfl (lv_at hl 0 rfl) ?_
            refine lv_aload_n hx hb dX7_forces_75 rfl (lv_at hl 1 rfl) ?_
            refine va_get (D := D) (ci := 7) (v := .int (nI nB)) (C := RX7) (T := TX7) (N := 31) hx hb hts iX7_forces_X7 hown hK hP 0 rfl rfl 10 (by decide) f_105 (fun _ h9 => h9) rfl dX7_forces_76 ?_
            refine lv_icmp_ge (tgt := 664) hx hb dX7_forces_79 (by decide) (fun c_79_4 => ?_) (fun c_79_4 => ?_)
            · skip
              have c_79_4 : nB ≤ i := (nI_leI (a := nB) (b := i) (by omega) (by omega)).mp c_79_4
              have ei : i = nB := by omega
              rw [ei] at hFS
              obtain ⟨k1, k2, k3, -⟩ := hKf
              refine lv_aload_n hx hb dX7_forces_664 rfl (lv_at hl 1 rfl) ?_
              refine lv_dconst0 hx hb dX7_forces_665 ?_
              refine xput (D := D) (ci := 7) (v := .double (FP.dconst0)) (ty := .double) (C := RX7) (T := TX7) (N := 31) hx hb hts iX7_forces_X7 tyX7 tyX7_ok nmX7 hown hK hD hP hS 0 (((nN, px, py, pz, fx_, fy_, fz_, lf, ld, fi), (nB, fr, tt, ln, wi, sg, pu_), (nR, rd, rx, ry, wv, fo), (FP.dconst0, dg_), (nP, tp, bt, dp)), (nQ, fu)) rfl rfl 23 (by decide) f_68 (fun _ h9 => h9) rfl (by decide +kernel) rfl rfl (Nat.le_of_ble_eq_true rfl) rfl dX7_forces_666 (fun H locs hP hS => ?_)
              refine lv_iconst (v := nI 0) hx hb dX7_forces_669 (by decide) ?_
              refine lv_istore_n (lv' := [(1, .int (nI 0)), (0, .ref (ad 0))]) hx hb dX7_forces_670 rfl hl (by decide) rfl (fun ls hl => ?_)
              have L_671_5 : ∀ (n_671 w : Nat) (re_ : UInt64), (nN + 1 ≤ w + n_671) → (w ≤ nN) → (re_ = grF fi fx_ fy_ fz_ w) → ∀ (H : Heap) (locs : List Loc), va_P D vwCl (WM cs ad (((nN, px, py, pz, fx_, fy_, fz_, lf, ld, fi), (nB, fr, tt, ln, wi, sg, pu_), (nR, rd, rx, ry, wv, fo), (re_, dg_), (nP, tp, bt, dp)), (nQ, fu))) H → va_S (gA (AM ad) s.heap.size) s.heap H locs → ∀ (ls : Array Slot), lv_has ls 30 [(1, .int (nI w)), (0, .ref (ad 0))] → W p l e ({ frames := 1, cells := 0, slots := 0, locals := 30 } : Room) s m ([.ref (ad 0)] : List Value).toArray below meth c H locs 0 0 Q (F0 m 671 ls []) := by
                intro n_671; induction n_671 with
                | zero => intro w re_ hf_671 hw hre H locs hP hS ls hl; exact absurd hf_671 (by omega)
                | succ n_671 ih_671 =>
                  intro w re_ hf_671 hw hre H locs hP hS ls hl
                  have zre : zOK re_ := by rw [hre]; exact fOK_z (grF_ok (by omega) k1 k2 k3 w (by omega)) (by omega)
                  refine lv_iload_n hx hb dX7_forces_671 rfl (lv_at hl 0 rfl) ?_
                  refine lv_aload_n hx hb dX7_forces_672 rfl (lv_at hl 1 rfl) ?_
                  refine va_get (D := D) (ci := 7) (v := .int (nI nN)) (C := RX7) (T := TX7) (N := 31) hx hb hts iX7_forces_X7 hown hK hP 0 rfl rfl 0 (by decide) f_89 (fun _ h9 => h9) rfl dX7_forces_673 ?_
                  refine lv_icmp_ge (tgt := 738) hx hb dX7_forces_676 (by decide) (fun c_676_6 => ?_) (fun c_676_6 => ?_)
                  · skip
                    have c_676_6 : nN ≤ w := (nI_leI (a := nN) (b := w) (by omega) (by omega)).mp c_676_6
                    exact hret hS hP dX7_forces_738 (⟨(by show ((nN, px, py, pz, fx_, fy_, fz_, lf, ld, fi), (nB, fr, tt, ln, wi, sg, pu_), (nR, rd, rx, ry, wv, fo), (re_, dg_), (nP, tp, bt, dp)) = forcesG ((nN, px, py, pz, fx, fy, fz, lf, ld, fi), (nB, fr, tt, ln, wi, sg, pu), (nR, rd, rx, ry, wv, fo), (re, dg), (nP, tp, bt, dp)); show _ = balG ((nN, px, py, pz, fx, fy, fz, lf, ld, fi), (nB, fr, tt, ln, wi, sg, pu), (nR, rd, rx, ry, wv, fo), (re, dg), (nP, tp, bt, dp)) (barsI ((nN, px, py, pz, fx, fy, fz, lf, ld, fi), (nB, fr, tt, ln, wi, sg, pu), (nR, rd, rx, ry, wv, fo), (re, dg), (nP, tp, bt, dp)) nB); rw [← hFS, hre, show w = nN by omega]; rfl), rfl⟩)
                  · skip
                    have c_676_6 : ¬ (nN ≤ w) := fun q => c_676_6 ((nI_leI (a := nN) (b := w) (by omega) (by omega)).mpr q)
                    refine lv_aload_n hx hb dX7_forces_679 rfl (lv_at hl 1 rfl) ?_
                    refine va_get (D := D) (ci := 7) (v := .ref (ad 6)) (C := RX7) (T := TX7) (N := 31) hx hb hts iX7_forces_X7 hown hK hP 0 rfl rfl 6 (by decide) f_25 (fun _ h9 => h9) rfl dX7_forces_680 ?_
                    refine lv_iload_n hx hb dX7_forces_683 rfl (lv_at hl 0 rfl) ?_
                    refine xzl hx hb hK hP 6 2 rfl rfl (j := w) (by decide) (by omega) dX7_forces_684 ?_
                    refine lv_if_ne (tgt := 732) hx hb dX7_forces_685 (by decide) (fun c_685_7 => ?_) (fun c_685_7 => ?_)
                    · skip
                      refine lv_iinc (v := nI (w + 1)) (lv' := [(1, .int (nI (w + 1))), (0, .ref (ad 0))]) hx hb dX7_forces_732 hl (k := 0) rfl (nI_add _ _) (by decide) rfl (fun ls hl => ?_)
                      refine lv_goto (tgt := 671) hx hb dX7_forces_735 (by decide) ?_
                      exact ih_671 (w + 1) (re_) (by omega) (by omega) (by rw [gr_n c_685_7, ← hre]) _ _ hP hS ls (lv_sub hl [0, 1] rfl)
                    · skip
                      refine lv_aload_n hx hb dX7_forces_688 rfl (lv_at hl 1 rfl) ?_
                      refine lv_aload_n hx hb dX7_forces_689 rfl (lv_at hl 1 rfl) ?_
                      refine va_get (D := D) (ci := 7) (v := .double (re_)) (C := RX7) (T := TX7) (N := 31) hx hb hts iX7_forces_X7 hown hK hP 0 rfl rfl 23 (by decide) f_68 (fun _ h9 => h9) rfl dX7_forces_690 ?_
                      refine lv_aload_n hx hb dX7_forces_693 rfl (lv_at hl 1 rfl) ?_
                      refine va_get (D := D) (ci := 7) (v := .ref (ad 7)) (C := RX7) (T := TX7) (N := 31) hx hb hts iX7_forces_X7 hown hK hP 0 rfl rfl 7 (by decide) f_29 (fun _ h9 => h9) rfl dX7_forces_694 ?_
                      refine lv_iload_n hx hb dX7_forces_697 rfl (lv_at hl 0 rfl) ?_
                      refine xdl hx hb hK hP 7 0 rfl rfl (j := w) (by decide) (by omega) dX7_forces_698 ?_
                      refine g0d (va_runS (As := [.double (fx_ w)]) (rest := [.double (re_), .ref (ad 0)]) ⟨hx, hb, hml, hown, hts⟩ (kX7_size l D H.size (fx_ w) (1700 + 4 * i) (k1 w (by omega)).1 (by omega)) (va_cwS 1 hts gX7_forces_X7_size rfl rfl rfl (by decide +kernel) ⟨Nat.le_of_ble_eq_true rfl, Nat.le_of_ble_eq_true rfl⟩) (gPreS (eT_bl) w0_P (fun _ _ _ => trivial)) rfl rfl hl.1 rfl (lv_room (Nat.le_of_ble_eq_true rfl)) dX7_forces_699 ⟨Nat.zero_le _, Nat.zero_le _⟩) hP hS (fun r_ H locs hw hP hS => ?_)
                      have hw : r_ = sizeF (fx_ w) := hw
                      subst hw
                      refine lv_aload_n hx hb dX7_forces_702 rfl (lv_at hl 1 rfl) ?_
                      refine va_get (D := D) (ci := 7) (v := .ref (ad 8)) (C := RX7) (T := TX7) (N := 31) hx hb hts iX7_forces_X7 hown hK hP 0 rfl rfl 8 (by decide) f_32 (fun _ h9 => h9) rfl dX7_forces_703 ?_
                      refine lv_iload_n hx hb dX7_forces_706 rfl (lv_at hl 0 rfl) ?_
                      refine xdl hx hb hK hP 8 0 rfl rfl (j := w) (by decide) (by omega) dX7_forces_707 ?_
                      refine g0d (va_runS (As := [.double (fy_ w)]) (rest := [.double (sizeF (fx_ w)), .double (re_), .ref (ad 0)]) ⟨hx, hb, hml, hown, hts⟩ (kX7_size l D H.size (fy_ w) (1700 + 4 * i) (k2 w (by omega)).1 (by omega)) (va_cwS 1 hts gX7_forces_X7_size rfl rfl rfl (by decide +kernel) ⟨Nat.le_of_ble_eq_true rfl, Nat.le_of_ble_eq_true rfl⟩) (gPreS (eT_bl) w0_P (fun _ _ _ => trivial)) rfl rfl hl.1 rfl (lv_room (Nat.le_of_ble_eq_true rfl)) dX7_forces_708 ⟨Nat.zero_le _, Nat.zero_le _⟩) hP hS (fun r_ H locs hw hP hS => ?_)
                      have hw : r_ = sizeF (fy_ w) := hw
                      subst hw
                      refine lv_aload_n hx hb dX7_forces_711 rfl (lv_at hl 1 rfl) ?_
                      refine va_get (D := D) (ci := 7) (v := .ref (ad 9)) (C := RX7) (T := TX7) (N := 31) hx hb hts iX7_forces_X7 hown hK hP 0 rfl rfl 9 (by decide) f_35 (fun _ h9 => h9) rfl dX7_forces_712 ?_
                      refine lv_iload_n hx hb dX7_forces_715 rfl (lv_at hl 0 rfl) ?_
                      refine xdl hx hb hK hP 9 0 rfl rfl (j := w) (by decide) (by omega) dX7_forces_716 ?_
                      refine g0d (va_runS (As := [.double (fz_ w)]) (rest := [.double (sizeF (fy_ w)), .double (sizeF (fx_ w)), .double (re_), .ref (ad 0)]) ⟨hx, hb, hml, hown, hts⟩ (kX7_size l D H.size (fz_ w) (1700 + 4 * i) (k3 w (by omega)).1 (by omega)) (va_cwS 1 hts gX7_forces_X7_size rfl rfl rfl (by decide +kernel) ⟨Nat.le_of_ble_eq_true rfl, Nat.le_of_ble_eq_true rfl⟩) (gPreS (eT_bl) w0_P (fun _ _ _ => trivial)) rfl rfl hl.1 rfl (lv_room (Nat.le_of_ble_eq_true rfl)) dX7_forces_717 ⟨Nat.zero_le _, Nat.zero_le _⟩) hP hS (fun r_ H locs hw hP hS => ?_)
                      have hw : r_ = sizeF (fz_ w) := hw
                      subst hw
                      refine xdmax hx hb (hml.trans hl.1.symm) hown (hts (.methodLink RX7 158 yJ9_max_eb370) (by decide +kernel)) (hts (.static yJ9_max_eb370) (by decide +kernel)) (hts (.initialized RJ9) (by decide +kernel)) (hts _ (List.mem_of_getElem? (i := 43) rfl)) (by decide) (Nat.le_of_ble_eq_true rfl) (Nat.le_of_ble_eq_true rfl) (Nat.zero_le _) (Nat.zero_le _) ((szz (k2 w (by omega)) (by omega)).1) ((szz (k3 w (by omega)) (by omega)).1) ((szz (k2 w (by omega)) (by omega)).2) ((szz (k3 w (by omega)) (by omega)).2) dX7_forces_720 ?_
                      refine xdmax hx hb (hml.trans hl.1.symm) hown (hts (.methodLink RX7 158 yJ9_max_eb370) (by decide +kernel)) (hts (.static yJ9_max_eb370) (by decide +kernel)) (hts (.initialized RJ9) (by decide +kernel)) (hts _ (List.mem_of_getElem? (i := 43) rfl)) (by decide) (Nat.le_of_ble_eq_true rfl) (Nat.le_of_ble_eq_true rfl) (Nat.zero_le _) (Nat.zero_le _) ((szz (k1 w (by omega)) (by omega)).1) ((mxz (szz (k2 w (by omega)) (by omega)) (szz (k3 w (by omega)) (by omega))).1) ((szz (k1 w (by omega)) (by omega)).2) ((mxz (szz (k2 w (by omega)) (by omega)) (szz (k3 w (by omega)) (by omega))).2) dX7_forces_723 ?_
                      refine xdmax hx hb (hml.trans hl.1.symm) hown (hts (.methodLink RX7 158 yJ9_max_eb370) (by decide +kernel)) (hts (.static yJ9_max_eb370) (by decide +kernel)) (hts (.initialized RJ9) (by decide +kernel)) (hts _ (List.mem_of_getElem? (i := 43) rfl)) (by decide) (Nat.le_of_ble_eq_true rfl) (Nat.le_of_ble_eq_true rfl) (Nat.zero_le _) (Nat.zero_le _) (zre.1) ((mxz (szz (k1 w (by omega)) (by omega)) (mxz (szz (k2 w (by omega)) (by omega)) (szz (k3 w (by omega)) (by omega)))).1) (zre.2) ((mxz (szz (k1 w (by omega)) (by omega)) (mxz (szz (k2 w (by omega)) (by omega)) (szz (k3 w (by omega)) (by omega)))).2) dX7_forces_726 ?_
                      refine xput (D := D) (ci := 7) (v := .double (maxF (re_) (maxF (sizeF (fx_ w)) (maxF (sizeF (fy_ w)) (sizeF (fz_ w)))))) (ty := .double) (C := RX7) (T := TX7) (N := 31) hx hb hts iX7_forces_X7 tyX7 tyX7_ok nmX7 hown hK hD hP hS 0 (((nN, px, py, pz, fx_, fy_, fz_, lf, ld, fi), (nB, fr, tt, ln, wi, sg, pu_), (nR, rd, rx, ry, wv, fo), ((maxF (re_) (maxF (sizeF (fx_ w)) (maxF (sizeF (fy_ w)) (sizeF (fz_ w))))), dg_), (nP, tp, bt, dp)), (nQ, fu)) rfl rfl 23 (by decide) f_68 (fun _ h9 => h9) rfl (by decide +kernel) rfl rfl (Nat.le_of_ble_eq_true rfl) rfl dX7_forces_729 (fun H locs hP hS => ?_)
                      refine lv_iinc (v := nI (w + 1)) (lv' := [(1, .int (nI (w + 1))), (0, .ref (ad 0))]) hx hb dX7_forces_732 hl (k := 0) rfl (nI_add _ _) (by decide) rfl (fun ls hl => ?_)
                      refine lv_goto (tgt := 671) hx hb dX7_forces_735 (by decide) ?_
                      exact ih_671 (w + 1) ((maxF (re_) (maxF (sizeF (fx_ w)) (maxF (sizeF (fy_ w)) (sizeF (fz_ w)))))) (by omega) (by omega) (by rw [hre]; exact gr_max (by omega) (by omega) k1 k2 k3 (by omega) c_685_7) _ _ hP hS ls (lv_sub hl [0, 1] rfl)
              exact L_671_5 (nN + 1) (0) (FP.dconst0) (by omega) (by omega) rfl _ _ hP hS ls (lv_sub hl [0, 1] rfl)
            · skip
              have c_79_4 : ¬ (nB ≤ i) := fun q => c_79_4 ((nI_leI (a := nB) (b := i) (by omega) (by omega)).mpr q)
              obtain ⟨ea, eb, ja, jb, jab⟩ := hbar i (by omega)
              have hln : natOK (ln i) := (hlw i (by omega)).1
              have hwi : fB 1027 (wi i) := (hlw i (by omega)).2
              have dx0 := dx_ok (hp0 _ ja) (hp0 _ jb)
              have dx1 := dx_ok (hp1 _ ja) (hp1 _ jb)
              have dx2 := dx_ok (hp2 _ ja) (hp2 _ jb)
              obtain ⟨hL, lL⟩ := len3_ok dx0 dx1 dx2
              have hlen := l2_P dx0 dx1 dx2 (by decide) (by decide)
              refine lv_aload_n hx hb dX7_forces_82 rfl (lv_at hl 1 rfl) ?_
              refine va_get (D := D) (ci := 7) (v := .ref (ad 10)) (C := RX7) (T := TX7) (N := 31) hx hb hts iX7_forces_X7 hown hK hP 0 rfl rfl 11 (by decide) f_38 (fun _ h9 => h9) rfl dX7_forces_83 ?_
              refine lv_iload_n hx hb dX7_forces_86 rfl (lv_at hl 0 rfl) ?_
              refine xil hx hb hK hP 10 1 rfl rfl (j := i) (by decide) (by omega) dX7_forces_87 ?_
              refine lv_topi (fun t_8 et_8 => ?_)
              have et_8 : t_8 = nI (fN fr i) := et_8.trans ea
              subst et_8
              refine lv_istore_n (lv' := [(2, .int (nI (fN fr i))), (1, .int (nI i)), (0, .ref (ad 0))]) hx hb dX7_forces_88 rfl hl (by decide) rfl (fun ls hl => ?_)
              refine lv_aload_n hx hb dX7_forces_89 rfl (lv_at hl 2 rfl) ?_
              refine va_get (D := D) (ci := 7) (v := .ref (ad 11)) (C := RX7) (T := TX7) (N := 31) hx hb hts iX7_forces_X7 hown hK hP 0 rfl rfl 12 (by decide) f_42 (fun _ h9 => h9) rfl dX7_forces_90 ?_
              refine lv_iload_n hx hb dX7_forces_93 rfl (lv_at hl 1 rfl) ?_
              refine xil hx hb hK hP 11 1 rfl rfl (j := i) (by decide) (by omega) dX7_forces_94 ?_
              refine lv_topi (fun t_9 et_9 => ?_)
              have et_9 : t_9 = nI (fN tt i) := et_9.trans eb
              subst et_9
              refine lv_istore_n (lv' := [(3, .int (nI (fN tt i))), (2, .int (nI (fN fr i))), (1, .int (nI i)), (0, .ref (ad 0))]) hx hb dX7_forces_95 rfl hl (by decide) rfl (fun ls hl => ?_)
              refine lv_aload_n hx hb dX7_forces_96 rfl (lv_at hl 3 rfl) ?_
              refine va_get (D := D) (ci := 7) (v := .ref (ad 1)) (C := RX7) (T := TX7) (N := 31) hx hb hts iX7_forces_X7 hown hK hP 0 rfl rfl 1 (by decide) f_7 (fun _ h9 => h9) rfl dX7_forces_97 ?_
              refine lv_iload_n hx hb dX7_forces_100 rfl (lv_at hl 0 rfl) ?_
              refine xdl hx hb hK hP 1 0 rfl rfl (j := fN tt i) (by decide) (by omega) dX7_forces_101 ?_
              refine lv_aload_n hx hb dX7_forces_102 rfl (lv_at hl 3 rfl) ?_
              refine va_get (D := D) (ci := 7) (v := .ref (ad 1)) (C := RX7) (T := TX7) (N := 31) hx hb hts iX7_forces_X7 hown hK hP 0 rfl rfl 1 (by decide) f_7 (fun _ h9 => h9) rfl dX7_forces_103 ?_
              refine lv_iload_n hx hb dX7_forces_106 rfl (lv_at hl 1 rfl) ?_
              refine xdl hx hb hK hP 1 0 rfl rfl (j := fN fr i) (by decide) (by omega) dX7_forces_107 ?_
              have h_11 : fB (1041) (FP.dsub (px (fN tt i)) (px (fN fr i))) := fB_sub (M := 1039) (hp0 _ jb) (hp0 _ ja) (by omega) (by omega) (by omega)
              refine lv_dsub hx hb dX7_forces_108 (fB_ne h_11 (by omega)) ?_
              refine lv_topd (fun t_12 et_12 => ?_)
              have et_12 : dxF px fr tt i = t_12 := (et_12).symm
              subst et_12
              refine lv_dstore (lv' := [(4, .double (dxF px fr tt i)), (3, .int (nI (fN tt i))), (2, .int (nI (fN fr i))), (1, .int (nI i)), (0, .ref (ad 0))]) hx hb dX7_forces_109 hl (by decide) rfl (fun ls hl => ?_)
              refine lv_aload_n hx hb dX7_forces_111 rfl (lv_at hl 4 rfl) ?_
              refine va_get (D := D) (ci := 7) (v := .ref (ad 2)) (C := RX7) (T := TX7) (N := 31) hx hb hts iX7_forces_X7 hown hK hP 0 rfl rfl 2 (by decide) f_13 (fun _ h9 => h9) rfl dX7_forces_112 ?_
              refine lv_iload_n hx hb dX7_forces_115 rfl (lv_at hl 1 rfl) ?_
              refine xdl hx hb hK hP 2 0 rfl rfl (j := fN tt i) (by decide) (by omega) dX7_forces_116 ?_
              refine lv_aload_n hx hb dX7_forces_117 rfl (lv_at hl 4 rfl) ?_
              refine va_get (D := D) (ci := 7) (v := .ref (ad 2)) (C := RX7) (T := TX7) (N := 31) hx hb hts iX7_forces_X7 hown hK hP 0 rfl rfl 2 (by decide) f_13 (fun _ h9 => h9) rfl dX7_forces_118 ?_
              refine lv_iload_n hx hb dX7_forces_121 rfl (lv_at hl 2 rfl) ?_
              refine xdl hx hb hK hP 2 0 rfl rfl (j := fN fr i) (by decide) (by omega) dX7_forces_122 ?_
              have h_14 : fB (1041) (FP.dsub (py (fN tt i)) (py (fN fr i))) := fB_sub (M := 1039) (hp1 _ jb) (hp1 _ ja) (by omega) (by omega) (by omega)
              refine lv_dsub hx hb dX7_forces_123 (fB_ne h_14 (by omega)) ?_
              refine lv_topd (fun t_15 et_15 => ?_)
              have et_15 : dxF py fr tt i = t_15 := (et_15).symm
              subst et_15
              refine lv_dstore (lv' := [(6, .double (dxF py fr tt i)), (4, .double (dxF px fr tt i)), (3, .int (nI (fN tt i))), (2, .int (nI (fN fr i))), (1, .int (nI i)), (0, .ref (ad 0))]) hx hb dX7_forces_124 hl (by decide) rfl (fun ls hl => ?_)
              refine lv_aload_n hx hb dX7_forces_126 rfl (lv_at hl 5 rfl) ?_
              refine va_get (D := D) (ci := 7) (v := .ref (ad 3)) (C := RX7) (T := TX7) (N := 31) hx hb hts iX7_forces_X7 hown hK hP 0 rfl rfl 3 (by decide) f_16 (fun _ h9 => h9) rfl dX7_forces_127 ?_
              refine lv_iload_n hx hb dX7_forces_130 rfl (lv_at hl 2 rfl) ?_
              refine xdl hx hb hK hP 3 0 rfl rfl (j := fN tt i) (by decide) (by omega) dX7_forces_131 ?_
              refine lv_aload_n hx hb dX7_forces_132 rfl (lv_at hl 5 rfl) ?_
              refine va_get (D := D) (ci := 7) (v := .ref (ad 3)) (C := RX7) (T := TX7) (N := 31) hx hb hts iX7_forces_X7 hown hK hP 0 rfl rfl 3 (by decide) f_16 (fun _ h9 => h9) rfl dX7_forces_133 ?_
              refine lv_iload_n hx hb dX7_forces_136 rfl (lv_at hl 3 rfl) ?_
              refine xdl hx hb hK hP 3 0 rfl rfl (j := fN fr i) (by decide) (by omega) dX7_forces_137 ?_
              have h_17 : fB (1041) (FP.dsub (pz (fN tt i)) (pz (fN fr i))) := fB_sub (M := 1039) (hp2 _ jb) (hp2 _ ja) (by omega) (by omega) (by omega)
              refine lv_dsub hx hb dX7_forces_138 (fB_ne h_17 (by omega)) ?_
              refine lv_topd (fun t_18 et_18 => ?_)
              have et_18 : dxF pz fr tt i = t_18 := (et_18).symm
              subst et_18
              refine lv_dstore (lv' := [(8, .double (dxF pz fr tt i)), (6, .double (dxF py fr tt i)), (4, .double (dxF px fr tt i)), (3, .int (nI (fN tt i))), (2, .int (nI (fN fr i))), (1, .int (nI i)), (0, .ref (ad 0))]) hx hb dX7_forces_139 hl (by decide) rfl (fun ls hl => ?_)
              refine lv_dload hx hb dX7_forces_141 (lv_at hl 2 rfl) ?_
              refine lv_dload hx hb dX7_forces_143 (lv_at hl 2 rfl) ?_
              have h_20 : fB (1060) (FP.dmul (dxF px fr tt i) (dxF px fr tt i)) := fB_mul dx0 dx0 (by omega) (by omega) (by omega)
              refine lv_dmul hx hb dX7_forces_145 (fB_ne h_20 (by omega)) ?_
              refine lv_dload hx hb dX7_forces_146 (lv_at hl 1 rfl) ?_
              refine lv_dload hx hb dX7_forces_148 (lv_at hl 1 rfl) ?_
              have h_22 : fB (1060) (FP.dmul (dxF py fr tt i) (dxF py fr tt i)) := fB_mul dx1 dx1 (by omega) (by omega) (by omega)
              refine lv_dmul hx hb dX7_forces_150 (fB_ne h_22 (by omega)) ?_
              have h_24 : fB (1062) (FP.dadd (FP.dmul (dxF px fr tt i) (dxF px fr tt i)) (FP.dmul (dxF py fr tt i) (dxF py fr tt i))) := fB_add (M := 1060) h_20 h_22 (by omega) (by omega) (by omega)
              refine lv_dadd hx hb dX7_forces_151 (fB_ne h_24 (by omega)) ?_
              refine lv_dload hx hb dX7_forces_152 (lv_at hl 0 rfl) ?_
              refine lv_dload hx hb dX7_forces_154 (lv_at hl 0 rfl) ?_
              have h_26 : fB (1060) (FP.dmul (dxF pz fr tt i) (dxF pz fr tt i)) := fB_mul dx2 dx2 (by omega) (by omega) (by omega)
              refine lv_dmul hx hb dX7_forces_156 (fB_ne h_26 (by omega)) ?_
              have h_28 : fB (1064) (FP.dadd (FP.dadd (FP.dmul (dxF px fr tt i) (dxF px fr tt i)) (FP.dmul (dxF py fr tt i) (dxF py fr tt i))) (FP.dmul (dxF pz fr tt i) (dxF pz fr tt i))) := fB_add (M := 1062) h_24 h_26 (by omega) (by omega) (by omega)
              refine lv_dadd hx hb dX7_forces_157 (fB_ne h_28 (by omega)) ?_
              refine lv_topd (fun t_29 et_29 => ?_)
              have et_29 : l2 (dxF px fr tt i) (dxF py fr tt i) (dxF pz fr tt i) = t_29 := (et_29).symm
              subst et_29
              refine g0d (va_runS (As := [.double (l2 (dxF px fr tt i) (dxF py fr tt i) (dxF pz fr tt i))]) (rest := []) ⟨hx, hb, hml, hown, hts⟩ (kX7_root l D H.size (l2 (dxF px fr tt i) (dxF py fr tt i) (dxF pz fr tt i)) (1041 + 1041 - 1018) hlen.1 (by decide) (by decide) hlen.2) (va_cwS 1 hts gX7_forces_X7_root rfl rfl rfl (by decide +kernel) ⟨Nat.le_of_ble_eq_true rfl, Nat.le_of_ble_eq_true rfl⟩) (gPreS (eT_bl) w0_P (fun _ _ _ => trivial)) rfl rfl hl.1 rfl (lv_room (Nat.le_of_ble_eq_true rfl)) dX7_forces_158 ⟨Nat.zero_le _, Nat.zero_le _⟩) hP hS (fun r_ H locs hw hP hS => ?_)
              have hw : r_ = lenF px py pz fr tt i := hw
              subst hw
              refine lv_dstore (lv' := [(10, .double (lenF px py pz fr tt i)), (8, .double (dxF pz fr tt i)), (6, .double (dxF py fr tt i)), (4, .double (dxF px fr tt i)), (3, .int (nI (fN tt i))), (2, .int (nI (fN fr i))), (1, .int (nI i)), (0, .ref (ad 0))]) hx hb dX7_forces_161 hl (by decide) rfl (fun ls hl => ?_)
              refine lv_aload_n hx hb dX7_forces_163 rfl (lv_at hl 7 rfl) ?_
              refine va_get (D := D) (ci := 7) (v := .ref (ad 15)) (C := RX7) (T := TX7) (N := 31) hx hb hts iX7_forces_X7 hown hK hP 0 rfl rfl 16 (by decide) f_54 (fun _ h9 => h9) rfl dX7_forces_164 ?_
              refine lv_iload_n hx hb dX7_forces_167 rfl (lv_at hl 6 rfl) ?_
              refine lv_dload hx hb dX7_forces_168 (lv_at hl 0 rfl) ?_
              refine lv_aload_n hx hb dX7_forces_170 rfl (lv_at hl 7 rfl) ?_
              refine va_get (D := D) (ci := 7) (v := .ref (ad 12)) (C := RX7) (T := TX7) (N := 31) hx hb hts iX7_forces_X7 hown hK hP 0 rfl rfl 13 (by decide) f_45 (fun _ h9 => h9) rfl dX7_forces_171 ?_
              refine lv_iload_n hx hb dX7_forces_174 rfl (lv_at hl 6 rfl) ?_
              refine xdl hx hb hK hP 12 0 rfl rfl (j := i) (by decide) (by omega) dX7_forces_175 ?_
              have J_204_30 : ∀ (j_30 : UInt64), j_30 = (puF (lenF px py pz fr tt i) (ln i)) → W p l e ({ frames := 1, cells := 0, slots := 0, locals := 30 } : Room) s m ([.ref (ad 0)] : List Value).toArray below meth c H locs 0 0 Q (F0 m 204 ls [.double (j_30), .int (nI i), .ref (ad 15)]) := by
                intro j_30 ej_30
                subst ej_30
                refine xds hx hb hK hD hP hS 15 0 (((nN, px, py, pz, fx_, fy_, fz_, lf, ld, fi), (nB, fr, tt, ln, wi, sg, (vf_upd pu_ i (puF (lenF px py pz fr tt i) (ln i)))), (nR, rd, rx, ry, wv, fo), (re, dg_), (nP, tp, bt, dp)), (nQ, fu)) rfl rfl (j := i) (by decide) (by omega) rfl dX7_forces_204 (fun H locs hP hS => ?_)
                refine lv_aload_n hx hb dX7_forces_205 rfl (lv_at hl 7 rfl) ?_
                refine va_get (D := D) (ci := 7) (v := .ref (ad 15)) (C := RX7) (T := TX7) (N := 31) hx hb hts iX7_forces_X7 hown hK hP 0 rfl rfl 16 (by decide) f_54 (fun _ h9 => h9) rfl dX7_forces_206 ?_
                refine lv_iload_n hx hb dX7_forces_209 rfl (lv_at hl 6 rfl) ?_
                refine xdl hx hb hK hP 15 0 rfl rfl (j := i) (by decide) (by omega) dX7_forces_210 ?_
                refine lv_topd (fun t_31 et_31 => ?_)
                have et_31 : puF (lenF px py pz fr tt i) (ln i) = t_31 := (et_31.trans (vf_eq)).symm
                subst et_31
                refine lv_dconst0 hx hb dX7_forces_211 ?_
                refine xc_lgt (tgt := 335) hx hb dX7_forces_212 dX7_forces_213 (by decide) (fun c_212_32 => ?_) (fun c_212_32 => ?_)
                · skip
                  have hT2 : frOK (1700 + 4 * i + 2) nN (tgS (lenF px py pz fr tt i) (dxF px fr tt i) (dxF py fr tt i) (dxF pz fr tt i) (ln i) (fN fr i) (fN tt i) i (fx_, fy_, fz_, pu_, dg_)) := tgS_ok hL lL hln dx0 dx1 dx2 ja jb jab hKf (by omega) (by omega)
                  obtain ⟨f1, ef1⟩ : ∃ f : DF, f = fx_ := ⟨_, rfl⟩
                  obtain ⟨f2, ef2⟩ : ∃ f : DF, f = fy_ := ⟨_, rfl⟩
                  obtain ⟨f3, ef3⟩ : ∃ f : DF, f = fz_ := ⟨_, rfl⟩
                  obtain ⟨f4, ef4⟩ : ∃ f : DF, f = (vf_upd pu_ i (puF (lenF px py pz fr tt i) (ln i))) := ⟨_, rfl⟩
                  obtain ⟨f5, ef5⟩ : ∃ f : DF, f = dg_ := ⟨_, rfl⟩
                  have hT : (f1, f2, f3, f4, f5) = tgS (lenF px py pz fr tt i) (dxF px fr tt i) (dxF py fr tt i) (dxF pz fr tt i) (ln i) (fN fr i) (fN tt i) i (fx_, fy_, fz_, pu_, dg_) := by rw [ef1, ef2, ef3, ef4, ef5]; exact (tgS_n c_212_32).symm
                  have hP : va_P D vwCl (WM cs ad (((nN, px, py, pz, f1, f2, f3, lf, ld, fi), (nB, fr, tt, ln, wi, sg, f4), (nR, rd, rx, ry, wv, fo), (re, f5), (nP, tp, bt, dp)), (nQ, fu))) H := by
                    rw [ef1, ef2, ef3, ef4, ef5]; exact hP
                  rw [← hT] at hT2
                  clear ef1 ef2 ef3 ef4 ef5
                  refine lv_dload hx hb dX7_forces_335 (lv_at hl 0 rfl) ?_
                  refine lv_dconst0 hx hb dX7_forces_337 ?_
                  refine xc_lgt (tgt := 658) hx hb dX7_forces_338 dX7_forces_339 (by decide) (fun c_338_33 => ?_) (fun c_338_33 => ?_)
                  · skip
                    refine lv_iinc (v := nI (i + 1)) (lv' := [(1, .int (nI (i + 1))), (10, .double (lenF px py pz fr tt i)), (8, .double (dxF pz fr tt i)), (6, .double (dxF py fr tt i)), (4, .double (dxF px fr tt i)), (3, .int (nI (fN tt i))), (2, .int (nI (fN fr i))), (0, .ref (ad 0))]) hx hb dX7_forces_658 hl (k := 6) rfl (nI_add _ _) (by decide) rfl (fun ls hl => ?_)
                    refine lv_goto (tgt := 74) hx hb dX7_forces_661 (by decide) ?_
                    exact ih_74 (i + 1) (f1) (f2) (f3) (f4) (f5) (by omega) (by omega) (by show _ = barS ((nN, px, py, pz, fx, fy, fz, lf, ld, fi), (nB, fr, tt, ln, wi, sg, pu), (nR, rd, rx, ry, wv, fo), (re, dg), (nP, tp, bt, dp)) i (barsI ((nN, px, py, pz, fx, fy, fz, lf, ld, fi), (nB, fr, tt, ln, wi, sg, pu), (nR, rd, rx, ry, wv, fo), (re, dg), (nP, tp, bt, dp)) i); rw [← hFS]; show _ = wshS (lenF px py pz fr tt i) (qF (wi i) fo (ln i) (rootF (l2 (bX px py pz fr tt nR rd rx ry wv i) (bY px py pz fr tt nR rd rx ry wv i) (bZ px py pz fr tt nR rd rx ry wv i)))) (bX px py pz fr tt nR rd rx ry wv i) (bY px py pz fr tt nR rd rx ry wv i) (bZ px py pz fr tt nR rd rx ry wv i) (fN fr i) (fN tt i) (tgS (lenF px py pz fr tt i) (dxF px fr tt i) (dxF py fr tt i) (dxF pz fr tt i) (ln i) (fN fr i) (fN tt i) i (fx_, fy_, fz_, pu_, dg_)); rw [← hT, wshS_n c_338_33]) _ _ hP hS ls (lv_sub hl [0, 7] rfl)
                  · skip
                    have lL3 : fL 992 (lenF px py pz fr tt i) := lL c_338_33
                    obtain ⟨bX0, bY0, bZ0⟩ := across_ok (a := fN fr i) (b := fN tt i) hr (hp2 _ ja) (hp2 _ jb) hwv dx0 dx1 dx2 hL lL3
                    refine lv_ldc2d hx hb hown c_87 dX7_forces_342 ?_
                    refine lv_aload_n hx hb dX7_forces_345 rfl (lv_at hl 7 rfl) ?_
                    refine va_get (D := D) (ci := 7) (v := .ref (ad 3)) (C := RX7) (T := TX7) (N := 31) hx hb hts iX7_forces_X7 hown hK hP 0 rfl rfl 3 (by decide) f_16 (fun _ h9 => h9) rfl dX7_forces_346 ?_
                    refine lv_iload_n hx hb dX7_forces_349 rfl (lv_at hl 5 rfl) ?_
                    refine xdl hx hb hK hP 3 0 rfl rfl (j := fN fr i) (by decide) (by omega) dX7_forces_350 ?_
                    refine lv_aload_n hx hb dX7_forces_351 rfl (lv_at hl 7 rfl) ?_
                    refine va_get (D := D) (ci := 7) (v := .ref (ad 3)) (C := RX7) (T := TX7) (N := 31) hx hb hts iX7_forces_X7 hown hK hP 0 rfl rfl 3 (by decide) f_16 (fun _ h9 => h9) rfl dX7_forces_352 ?_
                    refine lv_iload_n hx hb dX7_forces_355 rfl (lv_at hl 4 rfl) ?_
                    refine xdl hx hb hK hP 3 0 rfl rfl (j := fN tt i) (by decide) (by omega) dX7_forces_356 ?_
                    have h_35 : fB (1041) (FP.dadd (pz (fN fr i)) (pz (fN tt i))) := fB_add (M := 1039) (hp2 _ ja) (hp2 _ jb) (by omega) (by omega) (by omega)
                    refine lv_dadd hx hb dX7_forces_357 (fB_ne h_35 (by omega)) ?_
                    have h_37 : fB (1042) (FP.dmul (4602678819172646912) (FP.dadd (pz (fN fr i)) (pz (fN tt i)))) := fB_mul (fB_lit (K := 1023) (a := 4602678819172646912) (by decide +kernel)) h_35 (by omega) (by omega) (by omega)
                    refine lv_dmul hx hb dX7_forces_358 (fB_ne h_37 (by omega)) ?_
                    refine lv_topd (fun t_38 et_38 => ?_)
                    have et_38 : depF pz (fN fr i) (fN tt i) = t_38 := (et_38).symm
                    subst et_38
                    refine lv_dstore (lv' := [(12, .double (depF pz (fN fr i) (fN tt i))), (10, .double (lenF px py pz fr tt i)), (8, .double (dxF pz fr tt i)), (6, .double (dxF py fr tt i)), (4, .double (dxF px fr tt i)), (3, .int (nI (fN tt i))), (2, .int (nI (fN fr i))), (1, .int (nI i)), (0, .ref (ad 0))]) hx hb dX7_forces_359 hl (by decide) rfl (fun ls hl => ?_)
                    refine lv_aload_n hx hb dX7_forces_361 rfl (lv_at hl 8 rfl) ?_
                    refine lv_dload hx hb dX7_forces_362 (lv_at hl 0 rfl) ?_
                    refine lv_iconst (v := nI 1) hx hb dX7_forces_364 (by decide) ?_
                    refine gcd (va_runV (As := [.double (depF pz (fN fr i) (fN tt i)), .int (nI 1)]) (rest := []) ⟨hx, hb, hml, hown, hts⟩ (kX7_speed_1 l D cs ad hd H.size (((nN, px, py, pz, f1, f2, f3, lf, ld, fi), (nB, fr, tt, ln, wi, sg, f4), (nR, rd, rx, ry, wv, fo), (re, f5), (nP, tp, bt, dp)), (nQ, fu)) hnR hr hwv (depF pz (fN fr i) (fN tt i)) (dep_ok (hp2 _ ja) (hp2 _ jb))) (cwV 2 hts gX7_forces_X7_speed rfl rfl rfl (by decide +kernel) ⟨Nat.le_of_ble_eq_true rfl, Nat.le_of_ble_eq_true rfl⟩) (gPreV (EM_bl) (va_recv hK hP (ci := 7) (q0 := 0) rfl rfl) hP (fun U _ hW => EM_warm hW hE)) rfl rfl hl.1 rfl (lv_room (Nat.le_of_ble_eq_true rfl)) dX7_forces_365 ⟨Nat.zero_le _, Nat.zero_le _⟩) hS (fun r_ u_ H locs hw hP hS => ?_)
                    obtain ⟨rfl, hw⟩ := hw
                    have hw : r_ = flU rd rx pz nR wv (fN fr i) (fN tt i) := hw
                    subst hw
                    refine lv_dstore (lv' := [(14, .double (flU rd rx pz nR wv (fN fr i) (fN tt i))), (12, .double (depF pz (fN fr i) (fN tt i))), (10, .double (lenF px py pz fr tt i)), (8, .double (dxF pz fr tt i)), (6, .double (dxF py fr tt i)), (4, .double (dxF px fr tt i)), (3, .int (nI (fN tt i))), (2, .int (nI (fN fr i))), (1, .int (nI i)), (0, .ref (ad 0))]) hx hb dX7_forces_368 hl (by decide) rfl (fun ls hl => ?_)
                    refine lv_aload_n hx hb dX7_forces_370 rfl (lv_at hl 9 rfl) ?_
                    refine lv_dload hx hb dX7_forces_371 (lv_at hl 1 rfl) ?_
                    refine lv_iconst (v := nI 0) hx hb dX7_forces_373 (by decide) ?_
                    refine gcd (va_runV (As := [.double (depF pz (fN fr i) (fN tt i)), .int (nI 0)]) (rest := []) ⟨hx, hb, hml, hown, hts⟩ (kX7_speed_0 l D cs ad hd H.size (((nN, px, py, pz, f1, f2, f3, lf, ld, fi), (nB, fr, tt, ln, wi, sg, f4), (nR, rd, rx, ry, wv, fo), (re, f5), (nP, tp, bt, dp)), (nQ, fu)) hnR hr hwv (depF pz (fN fr i) (fN tt i)) (dep_ok (hp2 _ ja) (hp2 _ jb))) (cwV 2 hts gX7_forces_X7_speed rfl rfl rfl (by decide +kernel) ⟨Nat.le_of_ble_eq_true rfl, Nat.le_of_ble_eq_true rfl⟩) (gPreV (EM_bl) (va_recv hK hP (ci := 7) (q0 := 0) rfl rfl) hP (fun U _ hW => EM_warm hW hE)) rfl rfl hl.1 rfl (lv_room (Nat.le_of_ble_eq_true rfl)) dX7_forces_374 ⟨Nat.zero_le _, Nat.zero_le _⟩) hS (fun r_ u_ H locs hw hP hS => ?_)
                    obtain ⟨rfl, hw⟩ := hw
                    have hw : r_ = flU rd ry pz nR wv (fN fr i) (fN tt i) := hw
                    subst hw
                    refine lv_dstore (lv' := [(16, .double (flU rd ry pz nR wv (fN fr i) (fN tt i))), (14, .double (flU rd rx pz nR wv (fN fr i) (fN tt i))), (12, .double (depF pz (fN fr i) (fN tt i))), (10, .double (lenF px py pz fr tt i)), (8, .double (dxF pz fr tt i)), (6, .double (dxF py fr tt i)), (4, .double (dxF px fr tt i)), (3, .int (nI (fN tt i))), (2, .int (nI (fN fr i))), (1, .int (nI i)), (0, .ref (ad 0))]) hx hb dX7_forces_377 hl (by decide) rfl (fun ls hl => ?_)
                    refine lv_dload hx hb dX7_forces_379 (lv_at hl 1 rfl) ?_
                    refine lv_dload hx hb dX7_forces_381 (lv_at hl 6 rfl) ?_
                    have h_40 : fB (1117) (FP.dmul (flU rd rx pz nR wv (fN fr i) (fN tt i)) (dxF px fr tt i)) := fB_mul (flU_ok (f := rx) hr (fun j hj => (hr.2 j hj).2.2.1) (hp2 _ ja) (hp2 _ jb) hwv) dx0 (by omega) (by omega) (by omega)
                    refine lv_dmul hx hb dX7_forces_383 (fB_ne h_40 (by omega)) ?_
                    refine lv_dload hx hb dX7_forces_384 (lv_at hl 0 rfl) ?_
                    refine lv_dload hx hb dX7_forces_386 (lv_at hl 5 rfl) ?_
                    have h_42 : fB (1117) (FP.dmul (flU rd ry pz nR wv (fN fr i) (fN tt i)) (dxF py fr tt i)) := fB_mul (flU_ok (f := ry) hr (fun j hj => (hr.2 j hj).2.2.2) (hp2 _ ja) (hp2 _ jb) hwv) dx1 (by omega) (by omega) (by omega)
                    refine lv_dmul hx hb dX7_forces_388 (fB_ne h_42 (by omega)) ?_
                    have h_44 : fB (1119) (FP.dadd (FP.dmul (flU rd rx pz nR wv (fN fr i) (fN tt i)) (dxF px fr tt i)) (FP.dmul (flU rd ry pz nR wv (fN fr i) (fN tt i)) (dxF py fr tt i))) := fB_add (M := 1117) h_40 h_42 (by omega) (by omega) (by omega)
                    refine lv_dadd hx hb dX7_forces_389 (fB_ne h_44 (by omega)) ?_
                    refine lv_dload hx hb dX7_forces_390 (lv_at hl 3 rfl) ?_
                    have h_46 : fB (1151) (FP.ddiv (FP.dadd (FP.dmul (flU rd rx pz nR wv (fN fr i) (fN tt i)) (dxF px fr tt i)) (FP.dmul (flU rd ry pz nR wv (fN fr i) (fN tt i)) (dxF py fr tt i))) (lenF px py pz fr tt i)) := fB_div h_44 lL3 (fB_mono hL (by omega)) (by omega) (by omega) (by omega)
                    refine lv_ddiv hx hb dX7_forces_392 (fB_ne h_46 (by omega)) ?_
                    refine lv_topd (fun t_47 et_47 => ?_)
                    have et_47 : nW rd rx ry pz nR wv (dxF px fr tt i) (dxF py fr tt i) (lenF px py pz fr tt i) (fN fr i) (fN tt i) = t_47 := (et_47).symm
                    subst et_47
                    refine lv_dstore (lv' := [(18, .double (nW rd rx ry pz nR wv (dxF px fr tt i) (dxF py fr tt i) (lenF px py pz fr tt i) (fN fr i) (fN tt i))), (16, .double (flU rd ry pz nR wv (fN fr i) (fN tt i))), (14, .double (flU rd rx pz nR wv (fN fr i) (fN tt i))), (12, .double (depF pz (fN fr i) (fN tt i))), (10, .double (lenF px py pz fr tt i)), (8, .double (dxF pz fr tt i)), (6, .double (dxF py fr tt i)), (4, .double (dxF px fr tt i)), (3, .int (nI (fN tt i))), (2, .int (nI (fN fr i))), (1, .int (nI i)), (0, .ref (ad 0))]) hx hb dX7_forces_393 hl (by decide) rfl (fun ls hl => ?_)
                    refine lv_dload hx hb dX7_forces_395 (lv_at hl 2 rfl) ?_
                    refine lv_dload hx hb dX7_forces_397 (lv_at hl 0 rfl) ?_
                    refine lv_dload hx hb dX7_forces_399 (lv_at hl 7 rfl) ?_
                    have h_49 : fB (1170) (FP.dmul (nW rd rx ry pz nR wv (dxF px fr tt i) (dxF py fr tt i) (lenF px py pz fr tt i) (fN fr i) (fN tt i)) (dxF px fr tt i)) := fB_mul h_46 dx0 (by omega) (by omega) (by omega)
                    refine lv_dmul hx hb dX7_forces_401 (fB_ne h_49 (by omega)) ?_
                    refine lv_dload hx hb dX7_forces_402 (lv_at hl 4 rfl) ?_
                    have h_51 : fB (1202) (FP.ddiv (FP.dmul (nW rd rx ry pz nR wv (dxF px fr tt i) (dxF py fr tt i) (lenF px py pz fr tt i) (fN fr i) (fN tt i)) (dxF px fr tt i)) (lenF px py pz fr tt i)) := fB_div h_49 lL3 (fB_mono hL (by omega)) (by omega) (by omega) (by omega)
                    refine lv_ddiv hx hb dX7_forces_404 (fB_ne h_51 (by omega)) ?_
                    have h_53 : fB (1204) (FP.dsub (flU rd rx pz nR wv (fN fr i) (fN tt i)) (FP.ddiv (FP.dmul (nW rd rx ry pz nR wv (dxF px fr tt i) (dxF py fr tt i) (lenF px py pz fr tt i) (fN fr i) (fN tt i)) (dxF px fr tt i)) (lenF px py pz fr tt i))) := fB_sub (M := 1202) (flU_ok (f := rx) hr (fun j hj => (hr.2 j hj).2.2.1) (hp2 _ ja) (hp2 _ jb) hwv) h_51 (by omega) (by omega) (by omega)
                    refine lv_dsub hx hb dX7_forces_405 (fB_ne h_53 (by omega)) ?_
                    refine lv_topd (fun X_ eX => ?_)
                    have eX : X_ = bX px py pz fr tt nR rd rx ry wv i := eX
                    have bX1 : fB 1204 X_ := by rw [eX]; exact bX0
                    refine lv_dstore (lv' := [(20, .double (X_)), (18, .double (nW rd rx ry pz nR wv (dxF px fr tt i) (dxF py fr tt i) (lenF px py pz fr tt i) (fN fr i) (fN tt i))), (16, .double (flU rd ry pz nR wv (fN fr i) (fN tt i))), (14, .double (flU rd rx pz nR wv (fN fr i) (fN tt i))), (12, .double (depF pz (fN fr i) (fN tt i))), (10, .double (lenF px py pz fr tt i)), (8, .double (dxF pz fr tt i)), (6, .double (dxF py fr tt i)), (4, .double (dxF px fr tt i)), (3, .int (nI (fN tt i))), (2, .int (nI (fN fr i))), (1, .int (nI i)), (0, .ref (ad 0))]) hx hb dX7_forces_406 hl (by decide) rfl (fun ls hl => ?_)
                    refine lv_dload hx hb dX7_forces_408 (lv_at hl 2 rfl) ?_
                    refine lv_dload hx hb dX7_forces_410 (lv_at hl 1 rfl) ?_
                    refine lv_dload hx hb dX7_forces_412 (lv_at hl 7 rfl) ?_
                    have h_55 : fB (1170) (FP.dmul (nW rd rx ry pz nR wv (dxF px fr tt i) (dxF py fr tt i) (lenF px py pz fr tt i) (fN fr i) (fN tt i)) (dxF py fr tt i)) := fB_mul h_46 dx1 (by omega) (by omega) (by omega)
                    refine lv_dmul hx hb dX7_forces_414 (fB_ne h_55 (by omega)) ?_
                    refine lv_dload hx hb dX7_forces_415 (lv_at hl 5 rfl) ?_
                    have h_57 : fB (1202) (FP.ddiv (FP.dmul (nW rd rx ry pz nR wv (dxF px fr tt i) (dxF py fr tt i) (lenF px py pz fr tt i) (fN fr i) (fN tt i)) (dxF py fr tt i)) (lenF px py pz fr tt i)) := fB_div h_55 lL3 (fB_mono hL (by omega)) (by omega) (by omega) (by omega)
                    refine lv_ddiv hx hb dX7_forces_417 (fB_ne h_57 (by omega)) ?_
                    have h_59 : fB (1204) (FP.dsub (flU rd ry pz nR wv (fN fr i) (fN tt i)) (FP.ddiv (FP.dmul (nW rd rx ry pz nR wv (dxF px fr tt i) (dxF py fr tt i) (lenF px py pz fr tt i) (fN fr i) (fN tt i)) (dxF py fr tt i)) (lenF px py pz fr tt i))) := fB_sub (M := 1202) (flU_ok (f := ry) hr (fun j hj => (hr.2 j hj).2.2.2) (hp2 _ ja) (hp2 _ jb) hwv) h_57 (by omega) (by omega) (by omega)
                    refine lv_dsub hx hb dX7_forces_418 (fB_ne h_59 (by omega)) ?_
                    refine lv_topd (fun Y_ eY => ?_)
                    have eY : Y_ = bY px py pz fr tt nR rd rx ry wv i := eY
                    have bY1 : fB 1204 Y_ := by rw [eY]; exact bY0
                    refine lv_dstore (lv' := [(22, .double (Y_)), (20, .double (X_)), (18, .double (nW rd rx ry pz nR wv (dxF px fr tt i) (dxF py fr tt i) (lenF px py pz fr tt i) (fN fr i) (fN tt i))), (16, .double (flU rd ry pz nR wv (fN fr i) (fN tt i))), (14, .double (flU rd rx pz nR wv (fN fr i) (fN tt i))), (12, .double (depF pz (fN fr i) (fN tt i))), (10, .double (lenF px py pz fr tt i)), (8, .double (dxF pz fr tt i)), (6, .double (dxF py fr tt i)), (4, .double (dxF px fr tt i)), (3, .int (nI (fN tt i))), (2, .int (nI (fN fr i))), (1, .int (nI i)), (0, .ref (ad 0))]) hx hb dX7_forces_419 hl (by decide) rfl (fun ls hl => ?_)
                    refine lv_dconst0 hx hb dX7_forces_421 ?_
                    refine lv_dload hx hb dX7_forces_422 (lv_at hl 2 rfl) ?_
                    refine lv_dload hx hb dX7_forces_424 (lv_at hl 7 rfl) ?_
                    have h_61 : fB (1170) (FP.dmul (nW rd rx ry pz nR wv (dxF px fr tt i) (dxF py fr tt i) (lenF px py pz fr tt i) (fN fr i) (fN tt i)) (dxF pz fr tt i)) := fB_mul h_46 dx2 (by omega) (by omega) (by omega)
                    refine lv_dmul hx hb dX7_forces_426 (fB_ne h_61 (by omega)) ?_
                    refine lv_dload hx hb dX7_forces_427 (lv_at hl 6 rfl) ?_
                    have h_63 : fB (1202) (FP.ddiv (FP.dmul (nW rd rx ry pz nR wv (dxF px fr tt i) (dxF py fr tt i) (lenF px py pz fr tt i) (fN fr i) (fN tt i)) (dxF pz fr tt i)) (lenF px py pz fr tt i)) := fB_div h_61 lL3 (fB_mono hL (by omega)) (by omega) (by omega) (by omega)
                    refine lv_ddiv hx hb dX7_forces_429 (fB_ne h_63 (by omega)) ?_
                    have h_65 : fB (1204) (FP.dsub (FP.dconst0) (FP.ddiv (FP.dmul (nW rd rx ry pz nR wv (dxF px fr tt i) (dxF py fr tt i) (lenF px py pz fr tt i) (fN fr i) (fN tt i)) (dxF pz fr tt i)) (lenF px py pz fr tt i))) := fB_sub (M := 1202) fB_c0 h_63 (by omega) (by omega) (by omega)
                    refine lv_dsub hx hb dX7_forces_430 (fB_ne h_65 (by omega)) ?_
                    refine lv_topd (fun Z_ eZ => ?_)
                    have eZ : Z_ = bZ px py pz fr tt nR rd rx ry wv i := eZ
                    have bZ1 : fB 1204 Z_ := by rw [eZ]; exact bZ0
                    refine lv_dstore (lv' := [(24, .double (Z_)), (22, .double (Y_)), (20, .double (X_)), (18, .double (nW rd rx ry pz nR wv (dxF px fr tt i) (dxF py fr tt i) (lenF px py pz fr tt i) (fN fr i) (fN tt i))), (16, .double (flU rd ry pz nR wv (fN fr i) (fN tt i))), (14, .double (flU rd rx pz nR wv (fN fr i) (fN tt i))), (12, .double (depF pz (fN fr i) (fN tt i))), (10, .double (lenF px py pz fr tt i)), (8, .double (dxF pz fr tt i)), (6, .double (dxF py fr tt i)), (4, .double (dxF px fr tt i)), (3, .int (nI (fN tt i))), (2, .int (nI (fN fr i))), (1, .int (nI i)), (0, .ref (ad 0))]) hx hb dX7_forces_431 hl (by decide) rfl (fun ls hl => ?_)
                    refine lv_dload hx hb dX7_forces_433 (lv_at hl 2 rfl) ?_
                    refine lv_dload hx hb dX7_forces_435 (lv_at hl 2 rfl) ?_
                    have h_67 : fB (1386) (FP.dmul (X_) (X_)) := fB_mul bX1 bX1 (by omega) (by omega) (by omega)
                    refine lv_dmul hx hb dX7_forces_437 (fB_ne h_67 (by omega)) ?_
                    refine lv_dload hx hb dX7_forces_438 (lv_at hl 1 rfl) ?_
                    refine lv_dload hx hb dX7_forces_440 (lv_at hl 1 rfl) ?_
                    have h_69 : fB (1386) (FP.dmul (Y_) (Y_)) := fB_mul bY1 bY1 (by omega) (by omega) (by omega)
                    refine lv_dmul hx hb dX7_forces_442 (fB_ne h_69 (by omega)) ?_
                    have h_71 : fB (1388) (FP.dadd (FP.dmul (X_) (X_)) (FP.dmul (Y_) (Y_))) := fB_add (M := 1386) h_67 h_69 (by omega) (by omega) (by omega)
                    refine lv_dadd hx hb dX7_forces_443 (fB_ne h_71 (by omega)) ?_
                    refine lv_dload hx hb dX7_forces_444 (lv_at hl 0 rfl) ?_
                    refine lv_dload hx hb dX7_forces_446 (lv_at hl 0 rfl) ?_
                    have h_73 : fB (1386) (FP.dmul (Z_) (Z_)) := fB_mul bZ1 bZ1 (by omega) (by omega) (by omega)
                    refine lv_dmul hx hb dX7_forces_448 (fB_ne h_73 (by omega)) ?_
                    have h_75 : fB (1390) (FP.dadd (FP.dadd (FP.dmul (X_) (X_)) (FP.dmul (Y_) (Y_))) (FP.dmul (Z_) (Z_))) := fB_add (M := 1388) h_71 h_73 (by omega) (by omega) (by omega)
                    refine lv_dadd hx hb dX7_forces_449 (fB_ne h_75 (by omega)) ?_
                    refine lv_topd (fun t_76 et_76 => ?_)
                    have et_76 : l2 X_ Y_ Z_ = t_76 := (et_76).symm
                    subst et_76
                    refine g0d (va_runS (As := [.double (l2 X_ Y_ Z_)]) (rest := []) ⟨hx, hb, hml, hown, hts⟩ (kX7_root l D H.size (l2 X_ Y_ Z_) (1204 + 1204 - 1018) (l2_P bX1 bY1 bZ1 (by decide) (by decide)).1 (by decide) (by decide) (l2_P bX1 bY1 bZ1 (by decide) (by decide)).2) (va_cwS 1 hts gX7_forces_X7_root rfl rfl rfl (by decide +kernel) ⟨Nat.le_of_ble_eq_true rfl, Nat.le_of_ble_eq_true rfl⟩) (gPreS (eT_bl) w0_P (fun _ _ _ => trivial)) rfl rfl hl.1 rfl (lv_room (Nat.le_of_ble_eq_true rfl)) dX7_forces_450 ⟨Nat.zero_le _, Nat.zero_le _⟩) hP hS (fun r_ H locs hw hP hS => ?_)
                    have hw : r_ = rootF (l2 X_ Y_ Z_) := hw
                    subst hw
                    refine lv_dstore (lv' := [(26, .double (rootF (l2 X_ Y_ Z_))), (24, .double (Z_)), (22, .double (Y_)), (20, .double (X_)), (18, .double (nW rd rx ry pz nR wv (dxF px fr tt i) (dxF py fr tt i) (lenF px py pz fr tt i) (fN fr i) (fN tt i))), (16, .double (flU rd ry pz nR wv (fN fr i) (fN tt i))), (14, .double (flU rd rx pz nR wv (fN fr i) (fN tt i))), (12, .double (depF pz (fN fr i) (fN tt i))), (10, .double (lenF px py pz fr tt i)), (8, .double (dxF pz fr tt i)), (6, .double (dxF py fr tt i)), (4, .double (dxF px fr tt i)), (3, .int (nI (fN tt i))), (2, .int (nI (fN fr i))), (1, .int (nI i)), (0, .ref (ad 0))]) hx hb dX7_forces_453 hl (by decide) rfl (fun ls hl => ?_)
                    refine lv_ldc2d hx hb hown c_151 dX7_forces_455 ?_
                    refine lv_aload_n hx hb dX7_forces_458 rfl (lv_at hl 15 rfl) ?_
                    refine va_get (D := D) (ci := 7) (v := .ref (ad 13)) (C := RX7) (T := TX7) (N := 31) hx hb hts iX7_forces_X7 hown hK hP 0 rfl rfl 14 (by decide) f_48 (fun _ h9 => h9) rfl dX7_forces_459 ?_
                    refine lv_iload_n hx hb dX7_forces_462 rfl (lv_at hl 14 rfl) ?_
                    refine xdl hx hb hK hP 13 0 rfl rfl (j := i) (by decide) (by omega) dX7_forces_463 ?_
                    have h_78 : fB (1036) (FP.dmul (4638707616191610880) (wi i)) := fB_mul (fB_lit (K := 1031) (a := 4638707616191610880) (by decide +kernel)) hwi (by omega) (by omega) (by omega)
                    refine lv_dmul hx hb dX7_forces_464 (fB_ne h_78 (by omega)) ?_
                    refine lv_dconst1 hx hb dX7_forces_465 ?_
                    refine lv_aload_n hx hb dX7_forces_466 rfl (lv_at hl 15 rfl) ?_
                    refine va_get (D := D) (ci := 7) (v := .double (fo)) (C := RX7) (T := TX7) (N := 31) hx hb hts iX7_forces_X7 hown hK hP 0 rfl rfl 22 (by decide) f_120 (fun _ h9 => h9) rfl dX7_forces_467 ?_
                    have h_80 : fB (1028) (FP.dadd (FP.dconst1) (fo)) := fB_add (M := 1026) fB_c1 hfo (by omega) (by omega) (by omega)
                    refine lv_dadd hx hb dX7_forces_470 (fB_ne h_80 (by omega)) ?_
                    have h_82 : fB (1042) (FP.dmul (FP.dmul (4638707616191610880) (wi i)) (FP.dadd (FP.dconst1) (fo))) := fB_mul h_78 h_80 (by omega) (by omega) (by omega)
                    refine lv_dmul hx hb dX7_forces_471 (fB_ne h_82 (by omega)) ?_
                    refine lv_aload_n hx hb dX7_forces_472 rfl (lv_at hl 15 rfl) ?_
                    refine va_get (D := D) (ci := 7) (v := .ref (ad 12)) (C := RX7) (T := TX7) (N := 31) hx hb hts iX7_forces_X7 hown hK hP 0 rfl rfl 13 (by decide) f_45 (fun _ h9 => h9) rfl dX7_forces_473 ?_
                    refine lv_iload_n hx hb dX7_forces_476 rfl (lv_at hl 14 rfl) ?_
                    refine xdl hx hb hK hP 12 0 rfl rfl (j := i) (by decide) (by omega) dX7_forces_477 ?_
                    have h_84 : fB (1053) (FP.dmul (FP.dmul (FP.dmul (4638707616191610880) (wi i)) (FP.dadd (FP.dconst1) (fo))) (ln i)) := fB_mul h_82 hln.1 (by omega) (by omega) (by omega)
                    refine lv_dmul hx hb dX7_forces_478 (fB_ne h_84 (by omega)) ?_
                    refine lv_dload hx hb dX7_forces_479 (lv_at hl 0 rfl) ?_
                    have h_86 : fB (1514) (FP.dmul (FP.dmul (FP.dmul (FP.dmul (4638707616191610880) (wi i)) (FP.dadd (FP.dconst1) (fo))) (ln i)) (rootF (l2 X_ Y_ Z_))) := fB_mul h_84 (s_ok bX1 bY1 bZ1) (by omega) (by omega) (by omega)
                    refine lv_dmul hx hb dX7_forces_481 (fB_ne h_86 (by omega)) ?_
                    refine lv_topd (fun q_ eq_ => ?_)
                    have eq_ : q_ = qF (wi i) fo (ln i) (rootF (l2 X_ Y_ Z_)) := eq_
                    have bq : fB 1514 q_ := by rw [eq_]; exact q_ok hwi hfo hln.1 (s_ok bX1 bY1 bZ1)
                    refine lv_dstore (lv' := [(28, .double (q_)), (26, .double (rootF (l2 X_ Y_ Z_))), (24, .double (Z_)), (22, .double (Y_)), (20, .double (X_)), (18, .double (nW rd rx ry pz nR wv (dxF px fr tt i) (dxF py fr tt i) (lenF px py pz fr tt i) (fN fr i) (fN tt i))), (16, .double (flU rd ry pz nR wv (fN fr i) (fN tt i))), (14, .double (flU rd rx pz nR wv (fN fr i) (fN tt i))), (12, .double (depF pz (fN fr i) (fN tt i))), (10, .double (lenF px py pz fr tt i)), (8, .double (dxF pz fr tt i)), (6, .double (dxF py fr tt i)), (4, .double (dxF px fr tt i)), (3, .int (nI (fN tt i))), (2, .int (nI (fN fr i))), (1, .int (nI i)), (0, .ref (ad 0))]) hx hb dX7_forces_482 hl (by decide) rfl (fun ls hl => ?_)
                    refine lv_aload_n hx hb dX7_forces_484 rfl (lv_at hl 16 rfl) ?_
                    refine va_get (D := D) (ci := 7) (v := .ref (ad 19)) (C := RX7) (T := TX7) (N := 31) hx hb hts iX7_forces_X7 hown hK hP 0 rfl rfl 24 (by decide) f_72 (fun _ h9 => h9) rfl dX7_forces_485 ?_
                    refine lv_iconst (v := nI 0) hx hb dX7_forces_488 (by decide) ?_
                    refine lv_aload_n hx hb dX7_forces_489 rfl (lv_at hl 16 rfl) ?_
                    refine va_get (D := D) (ci := 7) (v := .ref (ad 19)) (C := RX7) (T := TX7) (N := 31) hx hb hts iX7_forces_X7 hown hK hP 0 rfl rfl 24 (by decide) f_72 (fun _ h9 => h9) rfl dX7_forces_490 ?_
                    refine lv_iconst (v := nI 0) hx hb dX7_forces_493 (by decide) ?_
                    refine xdl hx hb hK hP 19 0 rfl rfl (j := 0) (by decide) (by decide) dX7_forces_494 ?_
                    refine lv_topd (fun t_87 et_87 => ?_)
                    have et_87 : f5 0 = t_87 := (et_87).symm
                    subst et_87
                    refine lv_ldc2d hx hb hown c_153 dX7_forces_495 ?_
                    refine lv_dload hx hb dX7_forces_498 (lv_at hl 0 rfl) ?_
                    have h_89 : fB (1517) (FP.dmul (4611686018427387904) (q_)) := fB_mul (fB_lit (K := 1025) (a := 4611686018427387904) (by decide +kernel)) bq (by omega) (by omega) (by omega)
                    refine lv_dmul hx hb dX7_forces_500 (fB_ne h_89 (by omega)) ?_
                    refine lv_dload hx hb dX7_forces_501 (lv_at hl 4 rfl) ?_
                    have h_91 : fB (1699) (FP.dmul (FP.dmul (4611686018427387904) (q_)) (X_)) := fB_mul h_89 bX1 (by omega) (by omega) (by omega)
                    refine lv_dmul hx hb dX7_forces_503 (fB_ne h_91 (by omega)) ?_
                    have h_93 : fB (1700 + 4 * i + 2 + 2) (FP.dadd (f5 0) (FP.dmul (FP.dmul (4611686018427387904) (q_)) (X_))) := fB_add (M := 1700 + 4 * i + 2) hT2.2.2.2.1 h_91 (by omega) (by omega) (by omega)
                    refine lv_dadd hx hb dX7_forces_504 (fB_ne h_93 (by omega)) ?_
                    refine xds hx hb hK hD hP hS 19 0 (((nN, px, py, pz, f1, f2, f3, lf, ld, fi), (nB, fr, tt, ln, wi, sg, f4), (nR, rd, rx, ry, wv, fo), (re, (vf_upd f5 0 (FP.dadd (f5 0) (FP.dmul (FP.dmul (4611686018427387904) (q_)) (X_))))), (nP, tp, bt, dp)), (nQ, fu)) rfl rfl (j := 0) (by decide) (by decide) rfl dX7_forces_505 (fun H locs hP hS => ?_)
                    refine lv_aload_n hx hb dX7_forces_506 rfl (lv_at hl 16 rfl) ?_
                    refine va_get (D := D) (ci := 7) (v := .ref (ad 19)) (C := RX7) (T := TX7) (N := 31) hx hb hts iX7_forces_X7 hown hK hP 0 rfl rfl 24 (by decide) f_72 (fun _ h9 => h9) rfl dX7_forces_507 ?_
                    refine lv_iconst (v := nI 1) hx hb dX7_forces_510 (by decide) ?_
                    refine lv_aload_n hx hb dX7_forces_511 rfl (lv_at hl 16 rfl) ?_
                    refine va_get (D := D) (ci := 7) (v := .ref (ad 19)) (C := RX7) (T := TX7) (N := 31) hx hb hts iX7_forces_X7 hown hK hP 0 rfl rfl 24 (by decide) f_72 (fun _ h9 => h9) rfl dX7_forces_512 ?_
                    refine lv_iconst (v := nI 1) hx hb dX7_forces_515 (by decide) ?_
                    refine xdl hx hb hK hP 19 0 rfl rfl (j := 1) (by decide) (by decide) dX7_forces_516 ?_
                    refine lv_topd (fun t_94 et_94 => ?_)
                    have et_94 : f5 1 = t_94 := (et_94).symm
                    subst et_94
                    refine lv_ldc2d hx hb hown c_153 dX7_forces_517 ?_
                    refine lv_dload hx hb dX7_forces_520 (lv_at hl 0 rfl) ?_
                    have h_96 : fB (1517) (FP.dmul (4611686018427387904) (q_)) := fB_mul (fB_lit (K := 1025) (a := 4611686018427387904) (by decide +kernel)) bq (by omega) (by omega) (by omega)
                    refine lv_dmul hx hb dX7_forces_522 (fB_ne h_96 (by omega)) ?_
                    refine lv_dload hx hb dX7_forces_523 (lv_at hl 3 rfl) ?_
                    have h_98 : fB (1699) (FP.dmul (FP.dmul (4611686018427387904) (q_)) (Y_)) := fB_mul h_96 bY1 (by omega) (by omega) (by omega)
                    refine lv_dmul hx hb dX7_forces_525 (fB_ne h_98 (by omega)) ?_
                    have h_100 : fB (1700 + 4 * i + 2 + 2) (FP.dadd (f5 1) (FP.dmul (FP.dmul (4611686018427387904) (q_)) (Y_))) := fB_add (M := 1700 + 4 * i + 2) hT2.2.2.2.2.1 h_98 (by omega) (by omega) (by omega)
                    refine lv_dadd hx hb dX7_forces_526 (fB_ne h_100 (by omega)) ?_
                    refine xds hx hb hK hD hP hS 19 0 (((nN, px, py, pz, f1, f2, f3, lf, ld, fi), (nB, fr, tt, ln, wi, sg, f4), (nR, rd, rx, ry, wv, fo), (re, (vf_upd (vf_upd f5 0 (FP.dadd (f5 0) (FP.dmul (FP.dmul (4611686018427387904) (q_)) (X_)))) 1 (FP.dadd (f5 1) (FP.dmul (FP.dmul (4611686018427387904) (q_)) (Y_))))), (nP, tp, bt, dp)), (nQ, fu)) rfl rfl (j := 1) (by decide) (by decide) rfl dX7_forces_527 (fun H locs hP hS => ?_)
                    refine lv_aload_n hx hb dX7_forces_528 rfl (lv_at hl 16 rfl) ?_
                    refine va_get (D := D) (ci := 7) (v := .ref (ad 19)) (C := RX7) (T := TX7) (N := 31) hx hb hts iX7_forces_X7 hown hK hP 0 rfl rfl 24 (by decide) f_72 (fun _ h9 => h9) rfl dX7_forces_529 ?_
                    refine lv_iconst (v := nI 2) hx hb dX7_forces_532 (by decide) ?_
                    refine lv_aload_n hx hb dX7_forces_533 rfl (lv_at hl 16 rfl) ?_
                    refine va_get (D := D) (ci := 7) (v := .ref (ad 19)) (C := RX7) (T := TX7) (N := 31) hx hb hts iX7_forces_X7 hown hK hP 0 rfl rfl 24 (by decide) f_72 (fun _ h9 => h9) rfl dX7_forces_534 ?_
                    refine lv_iconst (v := nI 2) hx hb dX7_forces_537 (by decide) ?_
                    refine xdl hx hb hK hP 19 0 rfl rfl (j := 2) (by decide) (by decide) dX7_forces_538 ?_
                    refine lv_topd (fun t_101 et_101 => ?_)
                    have et_101 : f5 2 = t_101 := (et_101).symm
                    subst et_101
                    refine lv_ldc2d hx hb hown c_153 dX7_forces_539 ?_
                    refine lv_dload hx hb dX7_forces_542 (lv_at hl 0 rfl) ?_
                    have h_103 : fB (1517) (FP.dmul (4611686018427387904) (q_)) := fB_mul (fB_lit (K := 1025) (a := 4611686018427387904) (by decide +kernel)) bq (by omega) (by omega) (by omega)
                    refine lv_dmul hx hb dX7_forces_544 (fB_ne h_103 (by omega)) ?_
                    refine lv_dload hx hb dX7_forces_545 (lv_at hl 2 rfl) ?_
                    have h_105 : fB (1699) (FP.dmul (FP.dmul (4611686018427387904) (q_)) (Z_)) := fB_mul h_103 bZ1 (by omega) (by omega) (by omega)
                    refine lv_dmul hx hb dX7_forces_547 (fB_ne h_105 (by omega)) ?_
                    have h_107 : fB (1700 + 4 * i + 2 + 2) (FP.dadd (f5 2) (FP.dmul (FP.dmul (4611686018427387904) (q_)) (Z_))) := fB_add (M := 1700 + 4 * i + 2) hT2.2.2.2.2.2 h_105 (by omega) (by omega) (by omega)
                    refine lv_dadd hx hb dX7_forces_548 (fB_ne h_107 (by omega)) ?_
                    refine xds hx hb hK hD hP hS 19 0 (((nN, px, py, pz, f1, f2, f3, lf, ld, fi), (nB, fr, tt, ln, wi, sg, f4), (nR, rd, rx, ry, wv, fo), (re, (vf_upd (vf_upd (vf_upd f5 0 (FP.dadd (f5 0) (FP.dmul (FP.dmul (4611686018427387904) (q_)) (X_)))) 1 (FP.dadd (f5 1) (FP.dmul (FP.dmul (4611686018427387904) (q_)) (Y_)))) 2 (FP.dadd (f5 2) (FP.dmul (FP.dmul (4611686018427387904) (q_)) (Z_))))), (nP, tp, bt, dp)), (nQ, fu)) rfl rfl (j := 2) (by decide) (by decide) rfl dX7_forces_549 (fun H locs hP hS => ?_)
                    refine lv_aload_n hx hb dX7_forces_550 rfl (lv_at hl 16 rfl) ?_
                    refine va_get (D := D) (ci := 7) (v := .ref (ad 7)) (C := RX7) (T := TX7) (N := 31) hx hb hts iX7_forces_X7 hown hK hP 0 rfl rfl 7 (by decide) f_29 (fun _ h9 => h9) rfl dX7_forces_551 ?_
                    refine lv_iload_n hx hb dX7_forces_554 rfl (lv_at hl 14 rfl) ?_
                    refine lv_aload_n hx hb dX7_forces_555 rfl (lv_at hl 16 rfl) ?_
                    refine va_get (D := D) (ci := 7) (v := .ref (ad 7)) (C := RX7) (T := TX7) (N := 31) hx hb hts iX7_forces_X7 hown hK hP 0 rfl rfl 7 (by decide) f_29 (fun _ h9 => h9) rfl dX7_forces_556 ?_
                    refine lv_iload_n hx hb dX7_forces_559 rfl (lv_at hl 14 rfl) ?_
                    refine xdl hx hb hK hP 7 0 rfl rfl (j := fN fr i) (by decide) (by omega) dX7_forces_560 ?_
                    refine lv_dload hx hb dX7_forces_561 (lv_at hl 0 rfl) ?_
                    refine lv_dload hx hb dX7_forces_563 (lv_at hl 4 rfl) ?_
                    have h_109 : fB (1696) (FP.dmul (q_) (X_)) := fB_mul bq bX1 (by omega) (by omega) (by omega)
                    refine lv_dmul hx hb dX7_forces_565 (fB_ne h_109 (by omega)) ?_
                    have h_111 : fB (1700 + 4 * i + 2 + 2) (FP.dadd (f1 (fN fr i)) (FP.dmul (q_) (X_))) := fB_add (M := 1700 + 4 * i + 2) (hT2.1 _ ja).1 h_109 (by omega) (by omega) (by omega)
                    refine lv_dadd hx hb dX7_forces_566 (fB_ne h_111 (by omega)) ?_
                    refine xds hx hb hK hD hP hS 7 0 (((nN, px, py, pz, (vf_upd f1 (fN fr i) (FP.dadd (f1 (fN fr i)) (FP.dmul (q_) (X_)))), f2, f3, lf, ld, fi), (nB, fr, tt, ln, wi, sg, f4), (nR, rd, rx, ry, wv, fo), (re, (vf_upd (vf_upd (vf_upd f5 0 (FP.dadd (f5 0) (FP.dmul (FP.dmul (4611686018427387904) (q_)) (X_)))) 1 (FP.dadd (f5 1) (FP.dmul (FP.dmul (4611686018427387904) (q_)) (Y_)))) 2 (FP.dadd (f5 2) (FP.dmul (FP.dmul (4611686018427387904) (q_)) (Z_))))), (nP, tp, bt, dp)), (nQ, fu)) rfl rfl (j := fN fr i) (by decide) (by omega) rfl dX7_forces_567 (fun H locs hP hS => ?_)
                    refine lv_aload_n hx hb dX7_forces_568 rfl (lv_at hl 16 rfl) ?_
                    refine va_get (D := D) (ci := 7) (v := .ref (ad 8)) (C := RX7) (T := TX7) (N := 31) hx hb hts iX7_forces_X7 hown hK hP 0 rfl rfl 8 (by decide) f_32 (fun _ h9 => h9) rfl dX7_forces_569 ?_
                    refine lv_iload_n hx hb dX7_forces_572 rfl (lv_at hl 14 rfl) ?_
                    refine lv_aload_n hx hb dX7_forces_573 rfl (lv_at hl 16 rfl) ?_
                    refine va_get (D := D) (ci := 7) (v := .ref (ad 8)) (C := RX7) (T := TX7) (N := 31) hx hb hts iX7_forces_X7 hown hK hP 0 rfl rfl 8 (by decide) f_32 (fun _ h9 => h9) rfl dX7_forces_574 ?_
                    refine lv_iload_n hx hb dX7_forces_577 rfl (lv_at hl 14 rfl) ?_
                    refine xdl hx hb hK hP 8 0 rfl rfl (j := fN fr i) (by decide) (by omega) dX7_forces_578 ?_
                    refine lv_dload hx hb dX7_forces_579 (lv_at hl 0 rfl) ?_
                    refine lv_dload hx hb dX7_forces_581 (lv_at hl 3 rfl) ?_
                    have h_113 : fB (1696) (FP.dmul (q_) (Y_)) := fB_mul bq bY1 (by omega) (by omega) (by omega)
                    refine lv_dmul hx hb dX7_forces_583 (fB_ne h_113 (by omega)) ?_
                    have h_115 : fB (1700 + 4 * i + 2 + 2) (FP.dadd (f2 (fN fr i)) (FP.dmul (q_) (Y_))) := fB_add (M := 1700 + 4 * i + 2) (hT2.2.1 _ ja).1 h_113 (by omega) (by omega) (by omega)
                    refine lv_dadd hx hb dX7_forces_584 (fB_ne h_115 (by omega)) ?_
                    refine xds hx hb hK hD hP hS 8 0 (((nN, px, py, pz, (vf_upd f1 (fN fr i) (FP.dadd (f1 (fN fr i)) (FP.dmul (q_) (X_)))), (vf_upd f2 (fN fr i) (FP.dadd (f2 (fN fr i)) (FP.dmul (q_) (Y_)))), f3, lf, ld, fi), (nB, fr, tt, ln, wi, sg, f4), (nR, rd, rx, ry, wv, fo), (re, (vf_upd (vf_upd (vf_upd f5 0 (FP.dadd (f5 0) (FP.dmul (FP.dmul (4611686018427387904) (q_)) (X_)))) 1 (FP.dadd (f5 1) (FP.dmul (FP.dmul (4611686018427387904) (q_)) (Y_)))) 2 (FP.dadd (f5 2) (FP.dmul (FP.dmul (4611686018427387904) (q_)) (Z_))))), (nP, tp, bt, dp)), (nQ, fu)) rfl rfl (j := fN fr i) (by decide) (by omega) rfl dX7_forces_585 (fun H locs hP hS => ?_)
                    refine lv_aload_n hx hb dX7_forces_586 rfl (lv_at hl 16 rfl) ?_
                    refine va_get (D := D) (ci := 7) (v := .ref (ad 9)) (C := RX7) (T := TX7) (N := 31) hx hb hts iX7_forces_X7 hown hK hP 0 rfl rfl 9 (by decide) f_35 (fun _ h9 => h9) rfl dX7_forces_587 ?_
                    refine lv_iload_n hx hb dX7_forces_590 rfl (lv_at hl 14 rfl) ?_
                    refine lv_aload_n hx hb dX7_forces_591 rfl (lv_at hl 16 rfl) ?_
                    refine va_get (D := D) (ci := 7) (v := .ref (ad 9)) (C := RX7) (T := TX7) (N := 31) hx hb hts iX7_forces_X7 hown hK hP 0 rfl rfl 9 (by decide) f_35 (fun _ h9 => h9) rfl dX7_forces_592 ?_
                    refine lv_iload_n hx hb dX7_forces_595 rfl (lv_at hl 14 rfl) ?_
                    refine xdl hx hb hK hP 9 0 rfl rfl (j := fN fr i) (by decide) (by omega) dX7_forces_596 ?_
                    refine lv_dload hx hb dX7_forces_597 (lv_at hl 0 rfl) ?_
                    refine lv_dload hx hb dX7_forces_599 (lv_at hl 2 rfl) ?_
                    have h_117 : fB (1696) (FP.dmul (q_) (Z_)) := fB_mul bq bZ1 (by omega) (by omega) (by omega)
                    refine lv_dmul hx hb dX7_forces_601 (fB_ne h_117 (by omega)) ?_
                    have h_119 : fB (1700 + 4 * i + 2 + 2) (FP.dadd (f3 (fN fr i)) (FP.dmul (q_) (Z_))) := fB_add (M := 1700 + 4 * i + 2) (hT2.2.2.1 _ ja).1 h_117 (by omega) (by omega) (by omega)
                    refine lv_dadd hx hb dX7_forces_602 (fB_ne h_119 (by omega)) ?_
                    refine xds hx hb hK hD hP hS 9 0 (((nN, px, py, pz, (vf_upd f1 (fN fr i) (FP.dadd (f1 (fN fr i)) (FP.dmul (q_) (X_)))), (vf_upd f2 (fN fr i) (FP.dadd (f2 (fN fr i)) (FP.dmul (q_) (Y_)))), (vf_upd f3 (fN fr i) (FP.dadd (f3 (fN fr i)) (FP.dmul (q_) (Z_)))), lf, ld, fi), (nB, fr, tt, ln, wi, sg, f4), (nR, rd, rx, ry, wv, fo), (re, (vf_upd (vf_upd (vf_upd f5 0 (FP.dadd (f5 0) (FP.dmul (FP.dmul (4611686018427387904) (q_)) (X_)))) 1 (FP.dadd (f5 1) (FP.dmul (FP.dmul (4611686018427387904) (q_)) (Y_)))) 2 (FP.dadd (f5 2) (FP.dmul (FP.dmul (4611686018427387904) (q_)) (Z_))))), (nP, tp, bt, dp)), (nQ, fu)) rfl rfl (j := fN fr i) (by decide) (by omega) rfl dX7_forces_603 (fun H locs hP hS => ?_)
                    refine lv_aload_n hx hb dX7_forces_604 rfl (lv_at hl 16 rfl) ?_
                    refine va_get (D := D) (ci := 7) (v := .ref (ad 7)) (C := RX7) (T := TX7) (N := 31) hx hb hts iX7_forces_X7 hown hK hP 0 rfl rfl 7 (by decide) f_29 (fun _ h9 => h9) rfl dX7_forces_605 ?_
                    refine lv_iload_n hx hb dX7_forces_608 rfl (lv_at hl 13 rfl) ?_
                    refine lv_aload_n hx hb dX7_forces_609 rfl (lv_at hl 16 rfl) ?_
                    refine va_get (D := D) (ci := 7) (v := .ref (ad 7)) (C := RX7) (T := TX7) (N := 31) hx hb hts iX7_forces_X7 hown hK hP 0 rfl rfl 7 (by decide) f_29 (fun _ h9 => h9) rfl dX7_forces_610 ?_
                    refine lv_iload_n hx hb dX7_forces_613 rfl (lv_at hl 13 rfl) ?_
                    refine xdl hx hb hK hP 7 0 rfl rfl (j := fN tt i) (by decide) (by omega) dX7_forces_614 ?_
                    refine lv_dload hx hb dX7_forces_615 (lv_at hl 0 rfl) ?_
                    refine lv_dload hx hb dX7_forces_617 (lv_at hl 4 rfl) ?_
                    have h_121 : fB (1696) (FP.dmul (q_) (X_)) := fB_mul bq bX1 (by omega) (by omega) (by omega)
                    refine lv_dmul hx hb dX7_forces_619 (fB_ne h_121 (by omega)) ?_
                    have h_123 : fB (1700 + 4 * i + 2 + 2) (FP.dadd ((vf_upd f1 (fN fr i) (FP.dadd (f1 (fN fr i)) (FP.dmul (q_) (X_)))) (fN tt i)) (FP.dmul (q_) (X_))) := fB_add (M := 1700 + 4 * i + 2) (by rw [vf_ne jab]; exact (hT2.1 _ jb).1) h_121 (by omega) (by omega) (by omega)
                    refine lv_dadd hx hb dX7_forces_620 (fB_ne h_123 (by omega)) ?_
                    refine xds hx hb hK hD hP hS 7 0 (((nN, px, py, pz, (vf_upd (vf_upd f1 (fN fr i) (FP.dadd (f1 (fN fr i)) (FP.dmul (q_) (X_)))) (fN tt i) (FP.dadd ((vf_upd f1 (fN fr i) (FP.dadd (f1 (fN fr i)) (FP.dmul (q_) (X_)))) (fN tt i)) (FP.dmul (q_) (X_)))), (vf_upd f2 (fN fr i) (FP.dadd (f2 (fN fr i)) (FP.dmul (q_) (Y_)))), (vf_upd f3 (fN fr i) (FP.dadd (f3 (fN fr i)) (FP.dmul (q_) (Z_)))), lf, ld, fi), (nB, fr, tt, ln, wi, sg, f4), (nR, rd, rx, ry, wv, fo), (re, (vf_upd (vf_upd (vf_upd f5 0 (FP.dadd (f5 0) (FP.dmul (FP.dmul (4611686018427387904) (q_)) (X_)))) 1 (FP.dadd (f5 1) (FP.dmul (FP.dmul (4611686018427387904) (q_)) (Y_)))) 2 (FP.dadd (f5 2) (FP.dmul (FP.dmul (4611686018427387904) (q_)) (Z_))))), (nP, tp, bt, dp)), (nQ, fu)) rfl rfl (j := fN tt i) (by decide) (by omega) rfl dX7_forces_621 (fun H locs hP hS => ?_)
                    refine lv_aload_n hx hb dX7_forces_622 rfl (lv_at hl 16 rfl) ?_
                    refine va_get (D := D) (ci := 7) (v := .ref (ad 8)) (C := RX7) (T := TX7) (N := 31) hx hb hts iX7_forces_X7 hown hK hP 0 rfl rfl 8 (by decide) f_32 (fun _ h9 => h9) rfl dX7_forces_623 ?_
                    refine lv_iload_n hx hb dX7_forces_626 rfl (lv_at hl 13 rfl) ?_
                    refine lv_aload_n hx hb dX7_forces_627 rfl (lv_at hl 16 rfl) ?_
                    refine va_get (D := D) (ci := 7) (v := .ref (ad 8)) (C := RX7) (T := TX7) (N := 31) hx hb hts iX7_forces_X7 hown hK hP 0 rfl rfl 8 (by decide) f_32 (fun _ h9 => h9) rfl dX7_forces_628 ?_
                    refine lv_iload_n hx hb dX7_forces_631 rfl (lv_at hl 13 rfl) ?_
                    refine xdl hx hb hK hP 8 0 rfl rfl (j := fN tt i) (by decide) (by omega) dX7_forces_632 ?_
                    refine lv_dload hx hb dX7_forces_633 (lv_at hl 0 rfl) ?_
                    refine lv_dload hx hb dX7_forces_635 (lv_at hl 3 rfl) ?_
                    have h_125 : fB (1696) (FP.dmul (q_) (Y_)) := fB_mul bq bY1 (by omega) (by omega) (by omega)
                    refine lv_dmul hx hb dX7_forces_637 (fB_ne h_125 (by omega)) ?_
                    have h_127 : fB (1700 + 4 * i + 2 + 2) (FP.dadd ((vf_upd f2 (fN fr i) (FP.dadd (f2 (fN fr i)) (FP.dmul (q_) (Y_)))) (fN tt i)) (FP.dmul (q_) (Y_))) := fB_add (M := 1700 + 4 * i + 2) (by rw [vf_ne jab]; exact (hT2.2.1 _ jb).1) h_125 (by omega) (by omega) (by omega)
                    refine lv_dadd hx hb dX7_forces_638 (fB_ne h_127 (by omega)) ?_
                    refine xds hx hb hK hD hP hS 8 0 (((nN, px, py, pz, (vf_upd (vf_upd f1 (fN fr i) (FP.dadd (f1 (fN fr i)) (FP.dmul (q_) (X_)))) (fN tt i) (FP.dadd ((vf_upd f1 (fN fr i) (FP.dadd (f1 (fN fr i)) (FP.dmul (q_) (X_)))) (fN tt i)) (FP.dmul (q_) (X_)))), (vf_upd (vf_upd f2 (fN fr i) (FP.dadd (f2 (fN fr i)) (FP.dmul (q_) (Y_)))) (fN tt i) (FP.dadd ((vf_upd f2 (fN fr i) (FP.dadd (f2 (fN fr i)) (FP.dmul (q_) (Y_)))) (fN tt i)) (FP.dmul (q_) (Y_)))), (vf_upd f3 (fN fr i) (FP.dadd (f3 (fN fr i)) (FP.dmul (q_) (Z_)))), lf, ld, fi), (nB, fr, tt, ln, wi, sg, f4), (nR, rd, rx, ry, wv, fo), (re, (vf_upd (vf_upd (vf_upd f5 0 (FP.dadd (f5 0) (FP.dmul (FP.dmul (4611686018427387904) (q_)) (X_)))) 1 (FP.dadd (f5 1) (FP.dmul (FP.dmul (4611686018427387904) (q_)) (Y_)))) 2 (FP.dadd (f5 2) (FP.dmul (FP.dmul (4611686018427387904) (q_)) (Z_))))), (nP, tp, bt, dp)), (nQ, fu)) rfl rfl (j := fN tt i) (by decide) (by omega) rfl dX7_forces_639 (fun H locs hP hS => ?_)
                    refine lv_aload_n hx hb dX7_forces_640 rfl (lv_at hl 16 rfl) ?_
                    refine va_get (D := D) (ci := 7) (v := .ref (ad 9)) (C := RX7) (T := TX7) (N := 31) hx hb hts iX7_forces_X7 hown hK hP 0 rfl rfl 9 (by decide) f_35 (fun _ h9 => h9) rfl dX7_forces_641 ?_
                    refine lv_iload_n hx hb dX7_forces_644 rfl (lv_at hl 13 rfl) ?_
                    refine lv_aload_n hx hb dX7_forces_645 rfl (lv_at hl 16 rfl) ?_
                    refine va_get (D := D) (ci := 7) (v := .ref (ad 9)) (C := RX7) (T := TX7) (N := 31) hx hb hts iX7_forces_X7 hown hK hP 0 rfl rfl 9 (by decide) f_35 (fun _ h9 => h9) rfl dX7_forces_646 ?_
                    refine lv_iload_n hx hb dX7_forces_649 rfl (lv_at hl 13 rfl) ?_
                    refine xdl hx hb hK hP 9 0 rfl rfl (j := fN tt i) (by decide) (by omega) dX7_forces_650 ?_
                    refine lv_dload hx hb dX7_forces_651 (lv_at hl 0 rfl) ?_
                    refine lv_dload hx hb dX7_forces_653 (lv_at hl 2 rfl) ?_
                    have h_129 : fB (1696) (FP.dmul (q_) (Z_)) := fB_mul bq bZ1 (by omega) (by omega) (by omega)
                    refine lv_dmul hx hb dX7_forces_655 (fB_ne h_129 (by omega)) ?_
                    have h_131 : fB (1700 + 4 * i + 2 + 2) (FP.dadd ((vf_upd f3 (fN fr i) (FP.dadd (f3 (fN fr i)) (FP.dmul (q_) (Z_)))) (fN tt i)) (FP.dmul (q_) (Z_))) := fB_add (M := 1700 + 4 * i + 2) (by rw [vf_ne jab]; exact (hT2.2.2.1 _ jb).1) h_129 (by omega) (by omega) (by omega)
                    refine lv_dadd hx hb dX7_forces_656 (fB_ne h_131 (by omega)) ?_
                    refine xds hx hb hK hD hP hS 9 0 (((nN, px, py, pz, (vf_upd (vf_upd f1 (fN fr i) (FP.dadd (f1 (fN fr i)) (FP.dmul (q_) (X_)))) (fN tt i) (FP.dadd ((vf_upd f1 (fN fr i) (FP.dadd (f1 (fN fr i)) (FP.dmul (q_) (X_)))) (fN tt i)) (FP.dmul (q_) (X_)))), (vf_upd (vf_upd f2 (fN fr i) (FP.dadd (f2 (fN fr i)) (FP.dmul (q_) (Y_)))) (fN tt i) (FP.dadd ((vf_upd f2 (fN fr i) (FP.dadd (f2 (fN fr i)) (FP.dmul (q_) (Y_)))) (fN tt i)) (FP.dmul (q_) (Y_)))), (vf_upd (vf_upd f3 (fN fr i) (FP.dadd (f3 (fN fr i)) (FP.dmul (q_) (Z_)))) (fN tt i) (FP.dadd ((vf_upd f3 (fN fr i) (FP.dadd (f3 (fN fr i)) (FP.dmul (q_) (Z_)))) (fN tt i)) (FP.dmul (q_) (Z_)))), lf, ld, fi), (nB, fr, tt, ln, wi, sg, f4), (nR, rd, rx, ry, wv, fo), (re, (vf_upd (vf_upd (vf_upd f5 0 (FP.dadd (f5 0) (FP.dmul (FP.dmul (4611686018427387904) (q_)) (X_)))) 1 (FP.dadd (f5 1) (FP.dmul (FP.dmul (4611686018427387904) (q_)) (Y_)))) 2 (FP.dadd (f5 2) (FP.dmul (FP.dmul (4611686018427387904) (q_)) (Z_))))), (nP, tp, bt, dp)), (nQ, fu)) rfl rfl (j := fN tt i) (by decide) (by omega) rfl dX7_forces_657 (fun H locs hP hS => ?_)
                    obtain ⟨g1, eg1⟩ : ∃ f : DF, f = (vf_upd (vf_upd f1 (fN fr i) (FP.dadd (f1 (fN fr i)) (FP.dmul (q_) (X_)))) (fN tt i) (FP.dadd ((vf_upd f1 (fN fr i) (FP.dadd (f1 (fN fr i)) (FP.dmul (q_) (X_)))) (fN tt i)) (FP.dmul (q_) (X_)))) := ⟨_, rfl⟩
                    obtain ⟨g2, eg2⟩ : ∃ f : DF, f = (vf_upd (vf_upd f2 (fN fr i) (FP.dadd (f2 (fN fr i)) (FP.dmul (q_) (Y_)))) (fN tt i) (FP.dadd ((vf_upd f2 (fN fr i) (FP.dadd (f2 (fN fr i)) (FP.dmul (q_) (Y_)))) (fN tt i)) (FP.dmul (q_) (Y_)))) := ⟨_, rfl⟩
                    obtain ⟨g3, eg3⟩ : ∃ f : DF, f = (vf_upd (vf_upd f3 (fN fr i) (FP.dadd (f3 (fN fr i)) (FP.dmul (q_) (Z_)))) (fN tt i) (FP.dadd ((vf_upd f3 (fN fr i) (FP.dadd (f3 (fN fr i)) (FP.dmul (q_) (Z_)))) (fN tt i)) (FP.dmul (q_) (Z_)))) := ⟨_, rfl⟩
                    obtain ⟨g5, eg5⟩ : ∃ f : DF, f = (vf_upd (vf_upd (vf_upd f5 0 (FP.dadd (f5 0) (FP.dmul (FP.dmul (4611686018427387904) (q_)) (X_)))) 1 (FP.dadd (f5 1) (FP.dmul (FP.dmul (4611686018427387904) (q_)) (Y_)))) 2 (FP.dadd (f5 2) (FP.dmul (FP.dmul (4611686018427387904) (q_)) (Z_)))) := ⟨_, rfl⟩
                    have hW : (g1, g2, g3, f4, g5) = wsW q_ X_ Y_ Z_ (fN fr i) (fN tt i) (f1, f2, f3, f4, f5) := by rw [eg1, eg2, eg3, eg5]; rfl
                    have hP : va_P D vwCl (WM cs ad (((nN, px, py, pz, g1, g2, g3, lf, ld, fi), (nB, fr, tt, ln, wi, sg, f4), (nR, rd, rx, ry, wv, fo), (re, g5), (nP, tp, bt, dp)), (nQ, fu))) H := by
                      rw [eg1, eg2, eg3, eg5]; exact hP
                    clear eg1 eg2 eg3 eg5
                    refine lv_iinc (v := nI (i + 1)) (lv' := [(1, .int (nI (i + 1))), (28, .double (q_)), (26, .double (rootF (l2 X_ Y_ Z_))), (24, .double (Z_)), (22, .double (Y_)), (20, .double (X_)), (18, .double (nW rd rx ry pz nR wv (dxF px fr tt i) (dxF py fr tt i) (lenF px py pz fr tt i) (fN fr i) (fN tt i))), (16, .double (flU rd ry pz nR wv (fN fr i) (fN tt i))), (14, .double (flU rd rx pz nR wv (fN fr i) (fN tt i))), (12, .double (depF pz (fN fr i) (fN tt i))), (10, .double (lenF px py pz fr tt i)), (8, .double (dxF pz fr tt i)), (6, .double (dxF py fr tt i)), (4, .double (dxF px fr tt i)), (3, .int (nI (fN tt i))), (2, .int (nI (fN fr i))), (0, .ref (ad 0))]) hx hb dX7_forces_658 hl (k := 15) rfl (nI_add _ _) (by decide) rfl (fun ls hl => ?_)
                    refine lv_goto (tgt := 74) hx hb dX7_forces_661 (by decide) ?_
                    exact ih_74 (i + 1) (g1) (g2) (g3) (f4) (g5) (by omega) (by omega) (by show _ = barS ((nN, px, py, pz, fx, fy, fz, lf, ld, fi), (nB, fr, tt, ln, wi, sg, pu), (nR, rd, rx, ry, wv, fo), (re, dg), (nP, tp, bt, dp)) i (barsI ((nN, px, py, pz, fx, fy, fz, lf, ld, fi), (nB, fr, tt, ln, wi, sg, pu), (nR, rd, rx, ry, wv, fo), (re, dg), (nP, tp, bt, dp)) i); rw [← hFS]; show _ = wshS (lenF px py pz fr tt i) (qF (wi i) fo (ln i) (rootF (l2 (bX px py pz fr tt nR rd rx ry wv i) (bY px py pz fr tt nR rd rx ry wv i) (bZ px py pz fr tt nR rd rx ry wv i)))) (bX px py pz fr tt nR rd rx ry wv i) (bY px py pz fr tt nR rd rx ry wv i) (bZ px py pz fr tt nR rd rx ry wv i) (fN fr i) (fN tt i) (tgS (lenF px py pz fr tt i) (dxF px fr tt i) (dxF py fr tt i) (dxF pz fr tt i) (ln i) (fN fr i) (fN tt i) i (fx_, fy_, fz_, pu_, dg_)); rw [← hT, hW, wshS_p c_338_33, eq_, eX, eY, eZ]) _ _ hP hS ls (lv_sub hl [0, 16] rfl)
                · skip
                  have lL2 : fL 992 (lenF px py pz fr tt i) := lL (gt_0 (pu_gt c_212_32) hln.2.2)
                  refine lv_aload_n hx hb dX7_forces_216 rfl (lv_at hl 7 rfl) ?_
                  refine va_get (D := D) (ci := 7) (v := .ref (ad 15)) (C := RX7) (T := TX7) (N := 31) hx hb hts iX7_forces_X7 hown hK hP 0 rfl rfl 16 (by decide) f_54 (fun _ h9 => h9) rfl dX7_forces_217 ?_
                  refine lv_iload_n hx hb dX7_forces_220 rfl (lv_at hl 6 rfl) ?_
                  refine xdl hx hb hK hP 15 0 rfl rfl (j := i) (by decide) (by omega) dX7_forces_221 ?_
                  refine lv_topd (fun t_132 et_132 => ?_)
                  have et_132 : puF (lenF px py pz fr tt i) (ln i) = t_132 := (et_132.trans (vf_eq)).symm
                  subst et_132
                  refine lv_dload hx hb dX7_forces_222 (lv_at hl 0 rfl) ?_
                  have h_134 : fB (1207) (FP.ddiv (puF (lenF px py pz fr tt i) (ln i)) (lenF px py pz fr tt i)) := fB_div (pu_ok hL hln) lL2 (fB_mono hL (by omega)) (by omega) (by omega) (by omega)
                  refine lv_ddiv hx hb dX7_forces_224 (fB_ne h_134 (by omega)) ?_
                  refine lv_dstore (lv' := [(12, .double (FP.ddiv (puF (lenF px py pz fr tt i) (ln i)) (lenF px py pz fr tt i))), (10, .double (lenF px py pz fr tt i)), (8, .double (dxF pz fr tt i)), (6, .double (dxF py fr tt i)), (4, .double (dxF px fr tt i)), (3, .int (nI (fN tt i))), (2, .int (nI (fN fr i))), (1, .int (nI i)), (0, .ref (ad 0))]) hx hb dX7_forces_225 hl (by decide) rfl (fun ls hl => ?_)
                  refine lv_aload_n hx hb dX7_forces_227 rfl (lv_at hl 8 rfl) ?_
                  refine va_get (D := D) (ci := 7) (v := .ref (ad 7)) (C := RX7) (T := TX7) (N := 31) hx hb hts iX7_forces_X7 hown hK hP 0 rfl rfl 7 (by decide) f_29 (fun _ h9 => h9) rfl dX7_forces_228 ?_
                  refine lv_iload_n hx hb dX7_forces_231 rfl (lv_at hl 6 rfl) ?_
                  refine lv_aload_n hx hb dX7_forces_232 rfl (lv_at hl 8 rfl) ?_
                  refine va_get (D := D) (ci := 7) (v := .ref (ad 7)) (C := RX7) (T := TX7) (N := 31) hx hb hts iX7_forces_X7 hown hK hP 0 rfl rfl 7 (by decide) f_29 (fun _ h9 => h9) rfl dX7_forces_233 ?_
                  refine lv_iload_n hx hb dX7_forces_236 rfl (lv_at hl 6 rfl) ?_
                  refine xdl hx hb hK hP 7 0 rfl rfl (j := fN fr i) (by decide) (by omega) dX7_forces_237 ?_
                  refine lv_dload hx hb dX7_forces_238 (lv_at hl 0 rfl) ?_
                  refine lv_dload hx hb dX7_forces_240 (lv_at hl 4 rfl) ?_
                  have h_136 : fB (1226) (FP.dmul (FP.ddiv (puF (lenF px py pz fr tt i) (ln i)) (lenF px py pz fr tt i)) (dxF px fr tt i)) := fB_mul h_134 dx0 (by omega) (by omega) (by omega)
                  refine lv_dmul hx hb dX7_forces_242 (fB_ne h_136 (by omega)) ?_
                  have h_138 : fB (1700 + 4 * i + 2) (FP.dadd (fx_ (fN fr i)) (FP.dmul (FP.ddiv (puF (lenF px py pz fr tt i) (ln i)) (lenF px py pz fr tt i)) (dxF px fr tt i))) := fB_add (M := 1700 + 4 * i) (hKf.1 _ ja).1 h_136 (by omega) (by omega) (by omega)
                  refine lv_dadd hx hb dX7_forces_243 (fB_ne h_138 (by omega)) ?_
                  refine xds hx hb hK hD hP hS 7 0 (((nN, px, py, pz, (vf_upd fx_ (fN fr i) (FP.dadd (fx_ (fN fr i)) (FP.dmul (FP.ddiv (puF (lenF px py pz fr tt i) (ln i)) (lenF px py pz fr tt i)) (dxF px fr tt i)))), fy_, fz_, lf, ld, fi), (nB, fr, tt, ln, wi, sg, (vf_upd pu_ i (puF (lenF px py pz fr tt i) (ln i)))), (nR, rd, rx, ry, wv, fo), (re, dg_), (nP, tp, bt, dp)), (nQ, fu)) rfl rfl (j := fN fr i) (by decide) (by omega) rfl dX7_forces_244 (fun H locs hP hS => ?_)
                  refine lv_aload_n hx hb dX7_forces_245 rfl (lv_at hl 8 rfl) ?_
                  refine va_get (D := D) (ci := 7) (v := .ref (ad 8)) (C := RX7) (T := TX7) (N := 31) hx hb hts iX7_forces_X7 hown hK hP 0 rfl rfl 8 (by decide) f_32 (fun _ h9 => h9) rfl dX7_forces_246 ?_
                  refine lv_iload_n hx hb dX7_forces_249 rfl (lv_at hl 6 rfl) ?_
                  refine lv_aload_n hx hb dX7_forces_250 rfl (lv_at hl 8 rfl) ?_
                  refine va_get (D := D) (ci := 7) (v := .ref (ad 8)) (C := RX7) (T := TX7) (N := 31) hx hb hts iX7_forces_X7 hown hK hP 0 rfl rfl 8 (by decide) f_32 (fun _ h9 => h9) rfl dX7_forces_251 ?_
                  refine lv_iload_n hx hb dX7_forces_254 rfl (lv_at hl 6 rfl) ?_
                  refine xdl hx hb hK hP 8 0 rfl rfl (j := fN fr i) (by decide) (by omega) dX7_forces_255 ?_
                  refine lv_dload hx hb dX7_forces_256 (lv_at hl 0 rfl) ?_
                  refine lv_dload hx hb dX7_forces_258 (lv_at hl 3 rfl) ?_
                  have h_140 : fB (1226) (FP.dmul (FP.ddiv (puF (lenF px py pz fr tt i) (ln i)) (lenF px py pz fr tt i)) (dxF py fr tt i)) := fB_mul h_134 dx1 (by omega) (by omega) (by omega)
                  refine lv_dmul hx hb dX7_forces_260 (fB_ne h_140 (by omega)) ?_
                  have h_142 : fB (1700 + 4 * i + 2) (FP.dadd (fy_ (fN fr i)) (FP.dmul (FP.ddiv (puF (lenF px py pz fr tt i) (ln i)) (lenF px py pz fr tt i)) (dxF py fr tt i))) := fB_add (M := 1700 + 4 * i) (hKf.2.1 _ ja).1 h_140 (by omega) (by omega) (by omega)
                  refine lv_dadd hx hb dX7_forces_261 (fB_ne h_142 (by omega)) ?_
                  refine xds hx hb hK hD hP hS 8 0 (((nN, px, py, pz, (vf_upd fx_ (fN fr i) (FP.dadd (fx_ (fN fr i)) (FP.dmul (FP.ddiv (puF (lenF px py pz fr tt i) (ln i)) (lenF px py pz fr tt i)) (dxF px fr tt i)))), (vf_upd fy_ (fN fr i) (FP.dadd (fy_ (fN fr i)) (FP.dmul (FP.ddiv (puF (lenF px py pz fr tt i) (ln i)) (lenF px py pz fr tt i)) (dxF py fr tt i)))), fz_, lf, ld, fi), (nB, fr, tt, ln, wi, sg, (vf_upd pu_ i (puF (lenF px py pz fr tt i) (ln i)))), (nR, rd, rx, ry, wv, fo), (re, dg_), (nP, tp, bt, dp)), (nQ, fu)) rfl rfl (j := fN fr i) (by decide) (by omega) rfl dX7_forces_262 (fun H locs hP hS => ?_)
                  refine lv_aload_n hx hb dX7_forces_263 rfl (lv_at hl 8 rfl) ?_
                  refine va_get (D := D) (ci := 7) (v := .ref (ad 9)) (C := RX7) (T := TX7) (N := 31) hx hb hts iX7_forces_X7 hown hK hP 0 rfl rfl 9 (by decide) f_35 (fun _ h9 => h9) rfl dX7_forces_264 ?_
                  refine lv_iload_n hx hb dX7_forces_267 rfl (lv_at hl 6 rfl) ?_
                  refine lv_aload_n hx hb dX7_forces_268 rfl (lv_at hl 8 rfl) ?_
                  refine va_get (D := D) (ci := 7) (v := .ref (ad 9)) (C := RX7) (T := TX7) (N := 31) hx hb hts iX7_forces_X7 hown hK hP 0 rfl rfl 9 (by decide) f_35 (fun _ h9 => h9) rfl dX7_forces_269 ?_
                  refine lv_iload_n hx hb dX7_forces_272 rfl (lv_at hl 6 rfl) ?_
                  refine xdl hx hb hK hP 9 0 rfl rfl (j := fN fr i) (by decide) (by omega) dX7_forces_273 ?_
                  refine lv_dload hx hb dX7_forces_274 (lv_at hl 0 rfl) ?_
                  refine lv_dload hx hb dX7_forces_276 (lv_at hl 2 rfl) ?_
                  have h_144 : fB (1226) (FP.dmul (FP.ddiv (puF (lenF px py pz fr tt i) (ln i)) (lenF px py pz fr tt i)) (dxF pz fr tt i)) := fB_mul h_134 dx2 (by omega) (by omega) (by omega)
                  refine lv_dmul hx hb dX7_forces_278 (fB_ne h_144 (by omega)) ?_
                  have h_146 : fB (1700 + 4 * i + 2) (FP.dadd (fz_ (fN fr i)) (FP.dmul (FP.ddiv (puF (lenF px py pz fr tt i) (ln i)) (lenF px py pz fr tt i)) (dxF pz fr tt i))) := fB_add (M := 1700 + 4 * i) (hKf.2.2.1 _ ja).1 h_144 (by omega) (by omega) (by omega)
                  refine lv_dadd hx hb dX7_forces_279 (fB_ne h_146 (by omega)) ?_
                  refine xds hx hb hK hD hP hS 9 0 (((nN, px, py, pz, (vf_upd fx_ (fN fr i) (FP.dadd (fx_ (fN fr i)) (FP.dmul (FP.ddiv (puF (lenF px py pz fr tt i) (ln i)) (lenF px py pz fr tt i)) (dxF px fr tt i)))), (vf_upd fy_ (fN fr i) (FP.dadd (fy_ (fN fr i)) (FP.dmul (FP.ddiv (puF (lenF px py pz fr tt i) (ln i)) (lenF px py pz fr tt i)) (dxF py fr tt i)))), (vf_upd fz_ (fN fr i) (FP.dadd (fz_ (fN fr i)) (FP.dmul (FP.ddiv (puF (lenF px py pz fr tt i) (ln i)) (lenF px py pz fr tt i)) (dxF pz fr tt i)))), lf, ld, fi), (nB, fr, tt, ln, wi, sg, (vf_upd pu_ i (puF (lenF px py pz fr tt i) (ln i)))), (nR, rd, rx, ry, wv, fo), (re, dg_), (nP, tp, bt, dp)), (nQ, fu)) rfl rfl (j := fN fr i) (by decide) (by omega) rfl dX7_forces_280 (fun H locs hP hS => ?_)
                  refine lv_aload_n hx hb dX7_forces_281 rfl (lv_at hl 8 rfl) ?_
                  refine va_get (D := D) (ci := 7) (v := .ref (ad 7)) (C := RX7) (T := TX7) (N := 31) hx hb hts iX7_forces_X7 hown hK hP 0 rfl rfl 7 (by decide) f_29 (fun _ h9 => h9) rfl dX7_forces_282 ?_
                  refine lv_iload_n hx hb dX7_forces_285 rfl (lv_at hl 5 rfl) ?_
                  refine lv_aload_n hx hb dX7_forces_286 rfl (lv_at hl 8 rfl) ?_
                  refine va_get (D := D) (ci := 7) (v := .ref (ad 7)) (C := RX7) (T := TX7) (N := 31) hx hb hts iX7_forces_X7 hown hK hP 0 rfl rfl 7 (by decide) f_29 (fun _ h9 => h9) rfl dX7_forces_287 ?_
                  refine lv_iload_n hx hb dX7_forces_290 rfl (lv_at hl 5 rfl) ?_
                  refine xdl hx hb hK hP 7 0 rfl rfl (j := fN tt i) (by decide) (by omega) dX7_forces_291 ?_
                  refine lv_dload hx hb dX7_forces_292 (lv_at hl 0 rfl) ?_
                  refine lv_dload hx hb dX7_forces_294 (lv_at hl 4 rfl) ?_
                  have h_148 : fB (1226) (FP.dmul (FP.ddiv (puF (lenF px py pz fr tt i) (ln i)) (lenF px py pz fr tt i)) (dxF px fr tt i)) := fB_mul h_134 dx0 (by omega) (by omega) (by omega)
                  refine lv_dmul hx hb dX7_forces_296 (fB_ne h_148 (by omega)) ?_
                  have h_150 : fB (1700 + 4 * i + 2) (FP.dsub ((vf_upd fx_ (fN fr i) (FP.dadd (fx_ (fN fr i)) (FP.dmul (FP.ddiv (puF (lenF px py pz fr tt i) (ln i)) (lenF px py pz fr tt i)) (dxF px fr tt i)))) (fN tt i)) (FP.dmul (FP.ddiv (puF (lenF px py pz fr tt i) (ln i)) (lenF px py pz fr tt i)) (dxF px fr tt i))) := fB_sub (M := 1700 + 4 * i) (by rw [vf_ne jab]; exact (hKf.1 _ jb).1) h_148 (by omega) (by omega) (by omega)
                  refine lv_dsub hx hb dX7_forces_297 (fB_ne h_150 (by omega)) ?_
                  refine xds hx hb hK hD hP hS 7 0 (((nN, px, py, pz, (vf_upd (vf_upd fx_ (fN fr i) (FP.dadd (fx_ (fN fr i)) (FP.dmul (FP.ddiv (puF (lenF px py pz fr tt i) (ln i)) (lenF px py pz fr tt i)) (dxF px fr tt i)))) (fN tt i) (FP.dsub ((vf_upd fx_ (fN fr i) (FP.dadd (fx_ (fN fr i)) (FP.dmul (FP.ddiv (puF (lenF px py pz fr tt i) (ln i)) (lenF px py pz fr tt i)) (dxF px fr tt i)))) (fN tt i)) (FP.dmul (FP.ddiv (puF (lenF px py pz fr tt i) (ln i)) (lenF px py pz fr tt i)) (dxF px fr tt i)))), (vf_upd fy_ (fN fr i) (FP.dadd (fy_ (fN fr i)) (FP.dmul (FP.ddiv (puF (lenF px py pz fr tt i) (ln i)) (lenF px py pz fr tt i)) (dxF py fr tt i)))), (vf_upd fz_ (fN fr i) (FP.dadd (fz_ (fN fr i)) (FP.dmul (FP.ddiv (puF (lenF px py pz fr tt i) (ln i)) (lenF px py pz fr tt i)) (dxF pz fr tt i)))), lf, ld, fi), (nB, fr, tt, ln, wi, sg, (vf_upd pu_ i (puF (lenF px py pz fr tt i) (ln i)))), (nR, rd, rx, ry, wv, fo), (re, dg_), (nP, tp, bt, dp)), (nQ, fu)) rfl rfl (j := fN tt i) (by decide) (by omega) rfl dX7_forces_298 (fun H locs hP hS => ?_)
                  refine lv_aload_n hx hb dX7_forces_299 rfl (lv_at hl 8 rfl) ?_
                  refine va_get (D := D) (ci := 7) (v := .ref (ad 8)) (C := RX7) (T := TX7) (N := 31) hx hb hts iX7_forces_X7 hown hK hP 0 rfl rfl 8 (by decide) f_32 (fun _ h9 => h9) rfl dX7_forces_300 ?_
                  refine lv_iload_n hx hb dX7_forces_303 rfl (lv_at hl 5 rfl) ?_
                  refine lv_aload_n hx hb dX7_forces_304 rfl (lv_at hl 8 rfl) ?_
                  refine va_get (D := D) (ci := 7) (v := .ref (ad 8)) (C := RX7) (T := TX7) (N := 31) hx hb hts iX7_forces_X7 hown hK hP 0 rfl rfl 8 (by decide) f_32 (fun _ h9 => h9) rfl dX7_forces_305 ?_
                  refine lv_iload_n hx hb dX7_forces_308 rfl (lv_at hl 5 rfl) ?_
                  refine xdl hx hb hK hP 8 0 rfl rfl (j := fN tt i) (by decide) (by omega) dX7_forces_309 ?_
                  refine lv_dload hx hb dX7_forces_310 (lv_at hl 0 rfl) ?_
                  refine lv_dload hx hb dX7_forces_312 (lv_at hl 3 rfl) ?_
                  have h_152 : fB (1226) (FP.dmul (FP.ddiv (puF (lenF px py pz fr tt i) (ln i)) (lenF px py pz fr tt i)) (dxF py fr tt i)) := fB_mul h_134 dx1 (by omega) (by omega) (by omega)
                  refine lv_dmul hx hb dX7_forces_314 (fB_ne h_152 (by omega)) ?_
                  have h_154 : fB (1700 + 4 * i + 2) (FP.dsub ((vf_upd fy_ (fN fr i) (FP.dadd (fy_ (fN fr i)) (FP.dmul (FP.ddiv (puF (lenF px py pz fr tt i) (ln i)) (lenF px py pz fr tt i)) (dxF py fr tt i)))) (fN tt i)) (FP.dmul (FP.ddiv (puF (lenF px py pz fr tt i) (ln i)) (lenF px py pz fr tt i)) (dxF py fr tt i))) := fB_sub (M := 1700 + 4 * i) (by rw [vf_ne jab]; exact (hKf.2.1 _ jb).1) h_152 (by omega) (by omega) (by omega)
                  refine lv_dsub hx hb dX7_forces_315 (fB_ne h_154 (by omega)) ?_
                  refine xds hx hb hK hD hP hS 8 0 (((nN, px, py, pz, (vf_upd (vf_upd fx_ (fN fr i) (FP.dadd (fx_ (fN fr i)) (FP.dmul (FP.ddiv (puF (lenF px py pz fr tt i) (ln i)) (lenF px py pz fr tt i)) (dxF px fr tt i)))) (fN tt i) (FP.dsub ((vf_upd fx_ (fN fr i) (FP.dadd (fx_ (fN fr i)) (FP.dmul (FP.ddiv (puF (lenF px py pz fr tt i) (ln i)) (lenF px py pz fr tt i)) (dxF px fr tt i)))) (fN tt i)) (FP.dmul (FP.ddiv (puF (lenF px py pz fr tt i) (ln i)) (lenF px py pz fr tt i)) (dxF px fr tt i)))), (vf_upd (vf_upd fy_ (fN fr i) (FP.dadd (fy_ (fN fr i)) (FP.dmul (FP.ddiv (puF (lenF px py pz fr tt i) (ln i)) (lenF px py pz fr tt i)) (dxF py fr tt i)))) (fN tt i) (FP.dsub ((vf_upd fy_ (fN fr i) (FP.dadd (fy_ (fN fr i)) (FP.dmul (FP.ddiv (puF (lenF px py pz fr tt i) (ln i)) (lenF px py pz fr tt i)) (dxF py fr tt i)))) (fN tt i)) (FP.dmul (FP.ddiv (puF (lenF px py pz fr tt i) (ln i)) (lenF px py pz fr tt i)) (dxF py fr tt i)))), (vf_upd fz_ (fN fr i) (FP.dadd (fz_ (fN fr i)) (FP.dmul (FP.ddiv (puF (lenF px py pz fr tt i) (ln i)) (lenF px py pz fr tt i)) (dxF pz fr tt i)))), lf, ld, fi), (nB, fr, tt, ln, wi, sg, (vf_upd pu_ i (puF (lenF px py pz fr tt i) (ln i)))), (nR, rd, rx, ry, wv, fo), (re, dg_), (nP, tp, bt, dp)), (nQ, fu)) rfl rfl (j := fN tt i) (by decide) (by omega) rfl dX7_forces_316 (fun H locs hP hS => ?_)
                  refine lv_aload_n hx hb dX7_forces_317 rfl (lv_at hl 8 rfl) ?_
                  refine va_get (D := D) (ci := 7) (v := .ref (ad 9)) (C := RX7) (T := TX7) (N := 31) hx hb hts iX7_forces_X7 hown hK hP 0 rfl rfl 9 (by decide) f_35 (fun _ h9 => h9) rfl dX7_forces_318 ?_
                  refine lv_iload_n hx hb dX7_forces_321 rfl (lv_at hl 5 rfl) ?_
                  refine lv_aload_n hx hb dX7_forces_322 rfl (lv_at hl 8 rfl) ?_
                  refine va_get (D := D) (ci := 7) (v := .ref (ad 9)) (C := RX7) (T := TX7) (N := 31) hx hb hts iX7_forces_X7 hown hK hP 0 rfl rfl 9 (by decide) f_35 (fun _ h9 => h9) rfl dX7_forces_323 ?_
                  refine lv_iload_n hx hb dX7_forces_326 rfl (lv_at hl 5 rfl) ?_
                  refine xdl hx hb hK hP 9 0 rfl rfl (j := fN tt i) (by decide) (by omega) dX7_forces_327 ?_
                  refine lv_dload hx hb dX7_forces_328 (lv_at hl 0 rfl) ?_
                  refine lv_dload hx hb dX7_forces_330 (lv_at hl 2 rfl) ?_
                  have h_156 : fB (1226) (FP.dmul (FP.ddiv (puF (lenF px py pz fr tt i) (ln i)) (lenF px py pz fr tt i)) (dxF pz fr tt i)) := fB_mul h_134 dx2 (by omega) (by omega) (by omega)
                  refine lv_dmul hx hb dX7_forces_332 (fB_ne h_156 (by omega)) ?_
                  have h_158 : fB (1700 + 4 * i + 2) (FP.dsub ((vf_upd fz_ (fN fr i) (FP.dadd (fz_ (fN fr i)) (FP.dmul (FP.ddiv (puF (lenF px py pz fr tt i) (ln i)) (lenF px py pz fr tt i)) (dxF pz fr tt i)))) (fN tt i)) (FP.dmul (FP.ddiv (puF (lenF px py pz fr tt i) (ln i)) (lenF px py pz fr tt i)) (dxF pz fr tt i))) := fB_sub (M := 1700 + 4 * i) (by rw [vf_ne jab]; exact (hKf.2.2.1 _ jb).1) h_156 (by omega) (by omega) (by omega)
                  refine lv_dsub hx hb dX7_forces_333 (fB_ne h_158 (by omega)) ?_
                  refine xds hx hb hK hD hP hS 9 0 (((nN, px, py, pz, (vf_upd (vf_upd fx_ (fN fr i) (FP.dadd (fx_ (fN fr i)) (FP.dmul (FP.ddiv (puF (lenF px py pz fr tt i) (ln i)) (lenF px py pz fr tt i)) (dxF px fr tt i)))) (fN tt i) (FP.dsub ((vf_upd fx_ (fN fr i) (FP.dadd (fx_ (fN fr i)) (FP.dmul (FP.ddiv (puF (lenF px py pz fr tt i) (ln i)) (lenF px py pz fr tt i)) (dxF px fr tt i)))) (fN tt i)) (FP.dmul (FP.ddiv (puF (lenF px py pz fr tt i) (ln i)) (lenF px py pz fr tt i)) (dxF px fr tt i)))), (vf_upd (vf_upd fy_ (fN fr i) (FP.dadd (fy_ (fN fr i)) (FP.dmul (FP.ddiv (puF (lenF px py pz fr tt i) (ln i)) (lenF px py pz fr tt i)) (dxF py fr tt i)))) (fN tt i) (FP.dsub ((vf_upd fy_ (fN fr i) (FP.dadd (fy_ (fN fr i)) (FP.dmul (FP.ddiv (puF (lenF px py pz fr tt i) (ln i)) (lenF px py pz fr tt i)) (dxF py fr tt i)))) (fN tt i)) (FP.dmul (FP.ddiv (puF (lenF px py pz fr tt i) (ln i)) (lenF px py pz fr tt i)) (dxF py fr tt i)))), (vf_upd (vf_upd fz_ (fN fr i) (FP.dadd (fz_ (fN fr i)) (FP.dmul (FP.ddiv (puF (lenF px py pz fr tt i) (ln i)) (lenF px py pz fr tt i)) (dxF pz fr tt i)))) (fN tt i) (FP.dsub ((vf_upd fz_ (fN fr i) (FP.dadd (fz_ (fN fr i)) (FP.dmul (FP.ddiv (puF (lenF px py pz fr tt i) (ln i)) (lenF px py pz fr tt i)) (dxF pz fr tt i)))) (fN tt i)) (FP.dmul (FP.ddiv (puF (lenF px py pz fr tt i) (ln i)) (lenF px py pz fr tt i)) (dxF pz fr tt i)))), lf, ld, fi), (nB, fr, tt, ln, wi, sg, (vf_upd pu_ i (puF (lenF px py pz fr tt i) (ln i)))), (nR, rd, rx, ry, wv, fo), (re, dg_), (nP, tp, bt, dp)), (nQ, fu)) rfl rfl (j := fN tt i) (by decide) (by omega) rfl dX7_forces_334 (fun H locs hP hS => ?_)
                  have hT2 : frOK (1700 + 4 * i + 2) nN (tgS (lenF px py pz fr tt i) (dxF px fr tt i) (dxF py fr tt i) (dxF pz fr tt i) (ln i) (fN fr i) (fN tt i) i (fx_, fy_, fz_, pu_, dg_)) := tgS_ok hL lL hln dx0 dx1 dx2 ja jb jab hKf (by omega) (by omega)
                  obtain ⟨f1, ef1⟩ : ∃ f : DF, f = (vf_upd (vf_upd fx_ (fN fr i) (FP.dadd (fx_ (fN fr i)) (FP.dmul (FP.ddiv (puF (lenF px py pz fr tt i) (ln i)) (lenF px py pz fr tt i)) (dxF px fr tt i)))) (fN tt i) (FP.dsub ((vf_upd fx_ (fN fr i) (FP.dadd (fx_ (fN fr i)) (FP.dmul (FP.ddiv (puF (lenF px py pz fr tt i) (ln i)) (lenF px py pz fr tt i)) (dxF px fr tt i)))) (fN tt i)) (FP.dmul (FP.ddiv (puF (lenF px py pz fr tt i) (ln i)) (lenF px py pz fr tt i)) (dxF px fr tt i)))) := ⟨_, rfl⟩
                  obtain ⟨f2, ef2⟩ : ∃ f : DF, f = (vf_upd (vf_upd fy_ (fN fr i) (FP.dadd (fy_ (fN fr i)) (FP.dmul (FP.ddiv (puF (lenF px py pz fr tt i) (ln i)) (lenF px py pz fr tt i)) (dxF py fr tt i)))) (fN tt i) (FP.dsub ((vf_upd fy_ (fN fr i) (FP.dadd (fy_ (fN fr i)) (FP.dmul (FP.ddiv (puF (lenF px py pz fr tt i) (ln i)) (lenF px py pz fr tt i)) (dxF py fr tt i)))) (fN tt i)) (FP.dmul (FP.ddiv (puF (lenF px py pz fr tt i) (ln i)) (lenF px py pz fr tt i)) (dxF py fr tt i)))) := ⟨_, rfl⟩
                  obtain ⟨f3, ef3⟩ : ∃ f : DF, f = (vf_upd (vf_upd fz_ (fN fr i) (FP.dadd (fz_ (fN fr i)) (FP.dmul (FP.ddiv (puF (lenF px py pz fr tt i) (ln i)) (lenF px py pz fr tt i)) (dxF pz fr tt i)))) (fN tt i) (FP.dsub ((vf_upd fz_ (fN fr i) (FP.dadd (fz_ (fN fr i)) (FP.dmul (FP.ddiv (puF (lenF px py pz fr tt i) (ln i)) (lenF px py pz fr tt i)) (dxF pz fr tt i)))) (fN tt i)) (FP.dmul (FP.ddiv (puF (lenF px py pz fr tt i) (ln i)) (lenF px py pz fr tt i)) (dxF pz fr tt i)))) := ⟨_, rfl⟩
                  obtain ⟨f4, ef4⟩ : ∃ f : DF, f = (vf_upd pu_ i (puF (lenF px py pz fr tt i) (ln i))) := ⟨_, rfl⟩
                  obtain ⟨f5, ef5⟩ : ∃ f : DF, f = dg_ := ⟨_, rfl⟩
                  have hT : (f1, f2, f3, f4, f5) = tgS (lenF px py pz fr tt i) (dxF px fr tt i) (dxF py fr tt i) (dxF pz fr tt i) (ln i) (fN fr i) (fN tt i) i (fx_, fy_, fz_, pu_, dg_) := by rw [ef1, ef2, ef3, ef4, ef5]; exact (tgS_p c_212_32).symm
                  have hP : va_P D vwCl (WM cs ad (((nN, px, py, pz, f1, f2, f3, lf, ld, fi), (nB, fr, tt, ln, wi, sg, f4), (nR, rd, rx, ry, wv, fo), (re, f5), (nP, tp, bt, dp)), (nQ, fu))) H := by
                    rw [ef1, ef2, ef3, ef4, ef5]; exact hP
                  rw [← hT] at hT2
                  clear ef1 ef2 ef3 ef4 ef5
                  refine lv_dload hx hb dX7_forces_335 (lv_at hl 1 rfl) ?_
                  refine lv_dconst0 hx hb dX7_forces_337 ?_
                  refine xc_lgt (tgt := 658) hx hb dX7_forces_338 dX7_forces_339 (by decide) (fun c_338_159 => ?_) (fun c_338_159 => ?_)
                  · skip
                    refine lv_iinc (v := nI (i + 1)) (lv' := [(1, .int (nI (i + 1))), (12, .double (FP.ddiv (puF (lenF px py pz fr tt i) (ln i)) (lenF px py pz fr tt i))), (10, .double (lenF px py pz fr tt i)), (8, .double (dxF pz fr tt i)), (6, .double (dxF py fr tt i)), (4, .double (dxF px fr tt i)), (3, .int (nI (fN tt i))), (2, .int (nI (fN fr i))), (0, .ref (ad 0))]) hx hb dX7_forces_658 hl (k := 7) rfl (nI_add _ _) (by decide) rfl (fun ls hl => ?_)
                    refine lv_goto (tgt := 74) hx hb dX7_forces_661 (by decide) ?_
                    exact ih_74 (i + 1) (f1) (f2) (f3) (f4) (f5) (by omega) (by omega) (by show _ = barS ((nN, px, py, pz, fx, fy, fz, lf, ld, fi), (nB, fr, tt, ln, wi, sg, pu), (nR, rd, rx, ry, wv, fo), (re, dg), (nP, tp, bt, dp)) i (barsI ((nN, px, py, pz, fx, fy, fz, lf, ld, fi), (nB, fr, tt, ln, wi, sg, pu), (nR, rd, rx, ry, wv, fo), (re, dg), (nP, tp, bt, dp)) i); rw [← hFS]; show _ = wshS (lenF px py pz fr tt i) (qF (wi i) fo (ln i) (rootF (l2 (bX px py pz fr tt nR rd rx ry wv i) (bY px py pz fr tt nR rd rx ry wv i) (bZ px py pz fr tt nR rd rx ry wv i)))) (bX px py pz fr tt nR rd rx ry wv i) (bY px py pz fr tt nR rd rx ry wv i) (bZ px py pz fr tt nR rd rx ry wv i) (fN fr i) (fN tt i) (tgS (lenF px py pz fr tt i) (dxF px fr tt i) (dxF py fr tt i) (dxF pz fr tt i) (ln i) (fN fr i) (fN tt i) i (fx_, fy_, fz_, pu_, dg_)); rw [← hT, wshS_n c_338_159]) _ _ hP hS ls (lv_sub hl [0, 8] rfl)
                  · skip
                    have lL3 : fL 992 (lenF px py pz fr tt i) := lL c_338_159
                    obtain ⟨bX0, bY0, bZ0⟩ := across_ok (a := fN fr i) (b := fN tt i) hr (hp2 _ ja) (hp2 _ jb) hwv dx0 dx1 dx2 hL lL3
                    refine lv_ldc2d hx hb hown c_87 dX7_forces_342 ?_
                    refine lv_aload_n hx hb dX7_forces_345 rfl (lv_at hl 8 rfl) ?_
                    refine va_get (D := D) (ci := 7) (v := .ref (ad 3)) (C := RX7) (T := TX7) (N := 31) hx hb hts iX7_forces_X7 hown hK hP 0 rfl rfl 3 (by decide) f_16 (fun _ h9 => h9) rfl dX7_forces_346 ?_
                    refine lv_iload_n hx hb dX7_forces_349 rfl (lv_at hl 6 rfl) ?_
                    refine xdl hx hb hK hP 3 0 rfl rfl (j := fN fr i) (by decide) (by omega) dX7_forces_350 ?_
                    refine lv_aload_n hx hb dX7_forces_351 rfl (lv_at hl 8 rfl) ?_
                    refine va_get (D := D) (ci := 7) (v := .ref (ad 3)) (C := RX7) (T := TX7) (N := 31) hx hb hts iX7_forces_X7 hown hK hP 0 rfl rfl 3 (by decide) f_16 (fun _ h9 => h9) rfl dX7_forces_352 ?_
                    refine lv_iload_n hx hb dX7_forces_355 rfl (lv_at hl 5 rfl) ?_
                    refine xdl hx hb hK hP 3 0 rfl rfl (j := fN tt i) (by decide) (by omega) dX7_forces_356 ?_
                    have h_161 : fB (1041) (FP.dadd (pz (fN fr i)) (pz (fN tt i))) := fB_add (M := 1039) (hp2 _ ja) (hp2 _ jb) (by omega) (by omega) (by omega)
                    refine lv_dadd hx hb dX7_forces_357 (fB_ne h_161 (by omega)) ?_
                    have h_163 : fB (1042) (FP.dmul (4602678819172646912) (FP.dadd (pz (fN fr i)) (pz (fN tt i)))) := fB_mul (fB_lit (K := 1023) (a := 4602678819172646912) (by decide +kernel)) h_161 (by omega) (by omega) (by omega)
                    refine lv_dmul hx hb dX7_forces_358 (fB_ne h_163 (by omega)) ?_
                    refine lv_topd (fun t_164 et_164 => ?_)
                    have et_164 : depF pz (fN fr i) (fN tt i) = t_164 := (et_164).symm
                    subst et_164
                    refine lv_dstore (lv' := [(12, .double (depF pz (fN fr i) (fN tt i))), (10, .double (lenF px py pz fr tt i)), (8, .double (dxF pz fr tt i)), (6, .double (dxF py fr tt i)), (4, .double (dxF px fr tt i)), (3, .int (nI (fN tt i))), (2, .int (nI (fN fr i))), (1, .int (nI i)), (0, .ref (ad 0))]) hx hb dX7_forces_359 hl (by decide) rfl (fun ls hl => ?_)
                    refine lv_aload_n hx hb dX7_forces_361 rfl (lv_at hl 8 rfl) ?_
                    refine lv_dload hx hb dX7_forces_362 (lv_at hl 0 rfl) ?_
                    refine lv_iconst (v := nI 1) hx hb dX7_forces_364 (by decide) ?_
                    refine gcd (va_runV (As := [.double (depF pz (fN fr i) (fN tt i)), .int (nI 1)]) (rest := []) ⟨hx, hb, hml, hown, hts⟩ (kX7_speed_1 l D cs ad hd H.size (((nN, px, py, pz, f1, f2, f3, lf, ld, fi), (nB, fr, tt, ln, wi, sg, f4), (nR, rd, rx, ry, wv, fo), (re, f5), (nP, tp, bt, dp)), (nQ, fu)) hnR hr hwv (depF pz (fN fr i) (fN tt i)) (dep_ok (hp2 _ ja) (hp2 _ jb))) (cwV 2 hts gX7_forces_X7_speed rfl rfl rfl (by decide +kernel) ⟨Nat.le_of_ble_eq_true rfl, Nat.le_of_ble_eq_true rfl⟩) (gPreV (EM_bl) (va_recv hK hP (ci := 7) (q0 := 0) rfl rfl) hP (fun U _ hW => EM_warm hW hE)) rfl rfl hl.1 rfl (lv_room (Nat.le_of_ble_eq_true rfl)) dX7_forces_365 ⟨Nat.zero_le _, Nat.zero_le _⟩) hS (fun r_ u_ H locs hw hP hS => ?_)
                    obtain ⟨rfl, hw⟩ := hw
                    have hw : r_ = flU rd rx pz nR wv (fN fr i) (fN tt i) := hw
                    subst hw
                    refine lv_dstore (lv' := [(14, .double (flU rd rx pz nR wv (fN fr i) (fN tt i))), (12, .double (depF pz (fN fr i) (fN tt i))), (10, .double (lenF px py pz fr tt i)), (8, .double (dxF pz fr tt i)), (6, .double (dxF py fr tt i)), (4, .double (dxF px fr tt i)), (3, .int (nI (fN tt i))), (2, .int (nI (fN fr i))), (1, .int (nI i)), (0, .ref (ad 0))]) hx hb dX7_forces_368 hl (by decide) rfl (fun ls hl => ?_)
                    refine lv_aload_n hx hb dX7_forces_370 rfl (lv_at hl 9 rfl) ?_
                    refine lv_dload hx hb dX7_forces_371 (lv_at hl 1 rfl) ?_
                    refine lv_iconst (v := nI 0) hx hb dX7_forces_373 (by decide) ?_
                    refine gcd (va_runV (As := [.double (depF pz (fN fr i) (fN tt i)), .int (nI 0)]) (rest := []) ⟨hx, hb, hml, hown, hts⟩ (kX7_speed_0 l D cs ad hd H.size (((nN, px, py, pz, f1, f2, f3, lf, ld, fi), (nB, fr, tt, ln, wi, sg, f4), (nR, rd, rx, ry, wv, fo), (re, f5), (nP, tp, bt, dp)), (nQ, fu)) hnR hr hwv (depF pz (fN fr i) (fN tt i)) (dep_ok (hp2 _ ja) (hp2 _ jb))) (cwV 2 hts gX7_forces_X7_speed rfl rfl rfl (by decide +kernel) ⟨Nat.le_of_ble_eq_true rfl, Nat.le_of_ble_eq_true rfl⟩) (gPreV (EM_bl) (va_recv hK hP (ci := 7) (q0 := 0) rfl rfl) hP (fun U _ hW => EM_warm hW hE)) rfl rfl hl.1 rfl (lv_room (Nat.le_of_ble_eq_true rfl)) dX7_forces_374 ⟨Nat.zero_le _, Nat.zero_le _⟩) hS (fun r_ u_ H locs hw hP hS => ?_)
                    obtain ⟨rfl, hw⟩ := hw
                    have hw : r_ = flU rd ry pz nR wv (fN fr i) (fN tt i) := hw
                    subst hw
                    refine lv_dstore (lv' := [(16, .double (flU rd ry pz nR wv (fN fr i) (fN tt i))), (14, .double (flU rd rx pz nR wv (fN fr i) (fN tt i))), (12, .double (depF pz (fN fr i) (fN tt i))), (10, .double (lenF px py pz fr tt i)), (8, .double (dxF pz fr tt i)), (6, .double (dxF py fr tt i)), (4, .double (dxF px fr tt i)), (3, .int (nI (fN tt i))), (2, .int (nI (fN fr i))), (1, .int (nI i)), (0, .ref (ad 0))]) hx hb dX7_forces_377 hl (by decide) rfl (fun ls hl => ?_)
                    refine lv_dload hx hb dX7_forces_379 (lv_at hl 1 rfl) ?_
                    refine lv_dload hx hb dX7_forces_381 (lv_at hl 6 rfl) ?_
                    have h_166 : fB (1117) (FP.dmul (flU rd rx pz nR wv (fN fr i) (fN tt i)) (dxF px fr tt i)) := fB_mul (flU_ok (f := rx) hr (fun j hj => (hr.2 j hj).2.2.1) (hp2 _ ja) (hp2 _ jb) hwv) dx0 (by omega) (by omega) (by omega)
                    refine lv_dmul hx hb dX7_forces_383 (fB_ne h_166 (by omega)) ?_
                    refine lv_dload hx hb dX7_forces_384 (lv_at hl 0 rfl) ?_
                    refine lv_dload hx hb dX7_forces_386 (lv_at hl 5 rfl) ?_
                    have h_168 : fB (1117) (FP.dmul (flU rd ry pz nR wv (fN fr i) (fN tt i)) (dxF py fr tt i)) := fB_mul (flU_ok (f := ry) hr (fun j hj => (hr.2 j hj).2.2.2) (hp2 _ ja) (hp2 _ jb) hwv) dx1 (by omega) (by omega) (by omega)
                    refine lv_dmul hx hb dX7_forces_388 (fB_ne h_168 (by omega)) ?_
                    have h_170 : fB (1119) (FP.dadd (FP.dmul (flU rd rx pz nR wv (fN fr i) (fN tt i)) (dxF px fr tt i)) (FP.dmul (flU rd ry pz nR wv (fN fr i) (fN tt i)) (dxF py fr tt i))) := fB_add (M := 1117) h_166 h_168 (by omega) (by omega) (by omega)
                    refine lv_dadd hx hb dX7_forces_389 (fB_ne h_170 (by omega)) ?_
                    refine lv_dload hx hb dX7_forces_390 (lv_at hl 3 rfl) ?_
                    have h_172 : fB (1151) (FP.ddiv (FP.dadd (FP.dmul (flU rd rx pz nR wv (fN fr i) (fN tt i)) (dxF px fr tt i)) (FP.dmul (flU rd ry pz nR wv (fN fr i) (fN tt i)) (dxF py fr tt i))) (lenF px py pz fr tt i)) := fB_div h_170 lL3 (fB_mono hL (by omega)) (by omega) (by omega) (by omega)
                    refine lv_ddiv hx hb dX7_forces_392 (fB_ne h_172 (by omega)) ?_
                    refine lv_topd (fun t_173 et_173 => ?_)
                    have et_173 : nW rd rx ry pz nR wv (dxF px fr tt i) (dxF py fr tt i) (lenF px py pz fr tt i) (fN fr i) (fN tt i) = t_173 := (et_173).symm
                    subst et_173
                    refine lv_dstore (lv' := [(18, .double (nW rd rx ry pz nR wv (dxF px fr tt i) (dxF py fr tt i) (lenF px py pz fr tt i) (fN fr i) (fN tt i))), (16, .double (flU rd ry pz nR wv (fN fr i) (fN tt i))), (14, .double (flU rd rx pz nR wv (fN fr i) (fN tt i))), (12, .double (depF pz (fN fr i) (fN tt i))), (10, .double (lenF px py pz fr tt i)), (8, .double (dxF pz fr tt i)), (6, .double (dxF py fr tt i)), (4, .double (dxF px fr tt i)), (3, .int (nI (fN tt i))), (2, .int (nI (fN fr i))), (1, .int (nI i)), (0, .ref (ad 0))]) hx hb dX7_forces_393 hl (by decide) rfl (fun ls hl => ?_)
                    refine lv_dload hx hb dX7_forces_395 (lv_at hl 2 rfl) ?_
                    refine lv_dload hx hb dX7_forces_397 (lv_at hl 0 rfl) ?_
                    refine lv_dload hx hb dX7_forces_399 (lv_at hl 7 rfl) ?_
                    have h_175 : fB (1170) (FP.dmul (nW rd rx ry pz nR wv (dxF px fr tt i) (dxF py fr tt i) (lenF px py pz fr tt i) (fN fr i) (fN tt i)) (dxF px fr tt i)) := fB_mul h_172 dx0 (by omega) (by omega) (by omega)
                    refine lv_dmul hx hb dX7_forces_401 (fB_ne h_175 (by omega)) ?_
                    refine lv_dload hx hb dX7_forces_402 (lv_at hl 4 rfl) ?_
                    have h_177 : fB (1202) (FP.ddiv (FP.dmul (nW rd rx ry pz nR wv (dxF px fr tt i) (dxF py fr tt i) (lenF px py pz fr tt i) (fN fr i) (fN tt i)) (dxF px fr tt i)) (lenF px py pz fr tt i)) := fB_div h_175 lL3 (fB_mono hL (by omega)) (by omega) (by omega) (by omega)
                    refine lv_ddiv hx hb dX7_forces_404 (fB_ne h_177 (by omega)) ?_
                    have h_179 : fB (1204) (FP.dsub (flU rd rx pz nR wv (fN fr i) (fN tt i)) (FP.ddiv (FP.dmul (nW rd rx ry pz nR wv (dxF px fr tt i) (dxF py fr tt i) (lenF px py pz fr tt i) (fN fr i) (fN tt i)) (dxF px fr tt i)) (lenF px py pz fr tt i))) := fB_sub (M := 1202) (flU_ok (f := rx) hr (fun j hj => (hr.2 j hj).2.2.1) (hp2 _ ja) (hp2 _ jb) hwv) h_177 (by omega) (by omega) (by omega)
                    refine lv_dsub hx hb dX7_forces_405 (fB_ne h_179 (by omega)) ?_
                    refine lv_topd (fun X_ eX => ?_)
                    have eX : X_ = bX px py pz fr tt nR rd rx ry wv i := eX
                    have bX1 : fB 1204 X_ := by rw [eX]; exact bX0
                    refine lv_dstore (lv' := [(20, .double (X_)), (18, .double (nW rd rx ry pz nR wv (dxF px fr tt i) (dxF py fr tt i) (lenF px py pz fr tt i) (fN fr i) (fN tt i))), (16, .double (flU rd ry pz nR wv (fN fr i) (fN tt i))), (14, .double (flU rd rx pz nR wv (fN fr i) (fN tt i))), (12, .double (depF pz (fN fr i) (fN tt i))), (10, .double (lenF px py pz fr tt i)), (8, .double (dxF pz fr tt i)), (6, .double (dxF py fr tt i)), (4, .double (dxF px fr tt i)), (3, .int (nI (fN tt i))), (2, .int (nI (fN fr i))), (1, .int (nI i)), (0, .ref (ad 0))]) hx hb dX7_forces_406 hl (by decide) rfl (fun ls hl => ?_)
                    refine lv_dload hx hb dX7_forces_408 (lv_at hl 2 rfl) ?_
                    refine lv_dload hx hb dX7_forces_410 (lv_at hl 1 rfl) ?_
                    refine lv_dload hx hb dX7_forces_412 (lv_at hl 7 rfl) ?_
                    have h_181 : fB (1170) (FP.dmul (nW rd rx ry pz nR wv (dxF px fr tt i) (dxF py fr tt i) (lenF px py pz fr tt i) (fN fr i) (fN tt i)) (dxF py fr tt i)) := fB_mul h_172 dx1 (by omega) (by omega) (by omega)
                    refine lv_dmul hx hb dX7_forces_414 (fB_ne h_181 (by omega)) ?_
                    refine lv_dload hx hb dX7_forces_415 (lv_at hl 5 rfl) ?_
                    have h_183 : fB (1202) (FP.ddiv (FP.dmul (nW rd rx ry pz nR wv (dxF px fr tt i) (dxF py fr tt i) (lenF px py pz fr tt i) (fN fr i) (fN tt i)) (dxF py fr tt i)) (lenF px py pz fr tt i)) := fB_div h_181 lL3 (fB_mono hL (by omega)) (by omega) (by omega) (by omega)
                    refine lv_ddiv hx hb dX7_forces_417 (fB_ne h_183 (by omega)) ?_
                    have h_185 : fB (1204) (FP.dsub (flU rd ry pz nR wv (fN fr i) (fN tt i)) (FP.ddiv (FP.dmul (nW rd rx ry pz nR wv (dxF px fr tt i) (dxF py fr tt i) (lenF px py pz fr tt i) (fN fr i) (fN tt i)) (dxF py fr tt i)) (lenF px py pz fr tt i))) := fB_sub (M := 1202) (flU_ok (f := ry) hr (fun j hj => (hr.2 j hj).2.2.2) (hp2 _ ja) (hp2 _ jb) hwv) h_183 (by omega) (by omega) (by omega)
                    refine lv_dsub hx hb dX7_forces_418 (fB_ne h_185 (by omega)) ?_
                    refine lv_topd (fun Y_ eY => ?_)
                    have eY : Y_ = bY px py pz fr tt nR rd rx ry wv i := eY
                    have bY1 : fB 1204 Y_ := by rw [eY]; exact bY0
                    refine lv_dstore (lv' := [(22, .double (Y_)), (20, .double (X_)), (18, .double (nW rd rx ry pz nR wv (dxF px fr tt i) (dxF py fr tt i) (lenF px py pz fr tt i) (fN fr i) (fN tt i))), (16, .double (flU rd ry pz nR wv (fN fr i) (fN tt i))), (14, .double (flU rd rx pz nR wv (fN fr i) (fN tt i))), (12, .double (depF pz (fN fr i) (fN tt i))), (10, .double (lenF px py pz fr tt i)), (8, .double (dxF pz fr tt i)), (6, .double (dxF py fr tt i)), (4, .double (dxF px fr tt i)), (3, .int (nI (fN tt i))), (2, .int (nI (fN fr i))), (1, .int (nI i)), (0, .ref (ad 0))]) hx hb dX7_forces_419 hl (by decide) rfl (fun ls hl => ?_)
                    refine lv_dconst0 hx hb dX7_forces_421 ?_
                    refine lv_dload hx hb dX7_forces_422 (lv_at hl 2 rfl) ?_
                    refine lv_dload hx hb dX7_forces_424 (lv_at hl 7 rfl) ?_
                    have h_187 : fB (1170) (FP.dmul (nW rd rx ry pz nR wv (dxF px fr tt i) (dxF py fr tt i) (lenF px py pz fr tt i) (fN fr i) (fN tt i)) (dxF pz fr tt i)) := fB_mul h_172 dx2 (by omega) (by omega) (by omega)
                    refine lv_dmul hx hb dX7_forces_426 (fB_ne h_187 (by omega)) ?_
                    refine lv_dload hx hb dX7_forces_427 (lv_at hl 6 rfl) ?_
                    have h_189 : fB (1202) (FP.ddiv (FP.dmul (nW rd rx ry pz nR wv (dxF px fr tt i) (dxF py fr tt i) (lenF px py pz fr tt i) (fN fr i) (fN tt i)) (dxF pz fr tt i)) (lenF px py pz fr tt i)) := fB_div h_187 lL3 (fB_mono hL (by omega)) (by omega) (by omega) (by omega)
                    refine lv_ddiv hx hb dX7_forces_429 (fB_ne h_189 (by omega)) ?_
                    have h_191 : fB (1204) (FP.dsub (FP.dconst0) (FP.ddiv (FP.dmul (nW rd rx ry pz nR wv (dxF px fr tt i) (dxF py fr tt i) (lenF px py pz fr tt i) (fN fr i) (fN tt i)) (dxF pz fr tt i)) (lenF px py pz fr tt i))) := fB_sub (M := 1202) fB_c0 h_189 (by omega) (by omega) (by omega)
                    refine lv_dsub hx hb dX7_forces_430 (fB_ne h_191 (by omega)) ?_
                    refine lv_topd (fun Z_ eZ => ?_)
                    have eZ : Z_ = bZ px py pz fr tt nR rd rx ry wv i := eZ
                    have bZ1 : fB 1204 Z_ := by rw [eZ]; exact bZ0
                    refine lv_dstore (lv' := [(24, .double (Z_)), (22, .double (Y_)), (20, .double (X_)), (18, .double (nW rd rx ry pz nR wv (dxF px fr tt i) (dxF py fr tt i) (lenF px py pz fr tt i) (fN fr i) (fN tt i))), (16, .double (flU rd ry pz nR wv (fN fr i) (fN tt i))), (14, .double (flU rd rx pz nR wv (fN fr i) (fN tt i))), (12, .double (depF pz (fN fr i) (fN tt i))), (10, .double (lenF px py pz fr tt i)), (8, .double (dxF pz fr tt i)), (6, .double (dxF py fr tt i)), (4, .double (dxF px fr tt i)), (3, .int (nI (fN tt i))), (2, .int (nI (fN fr i))), (1, .int (nI i)), (0, .ref (ad 0))]) hx hb dX7_forces_431 hl (by decide) rfl (fun ls hl => ?_)
                    refine lv_dload hx hb dX7_forces_433 (lv_at hl 2 rfl) ?_
                    refine lv_dload hx hb dX7_forces_435 (lv_at hl 2 rfl) ?_
                    have h_193 : fB (1386) (FP.dmul (X_) (X_)) := fB_mul bX1 bX1 (by omega) (by omega) (by omega)
                    refine lv_dmul hx hb dX7_forces_437 (fB_ne h_193 (by omega)) ?_
                    refine lv_dload hx hb dX7_forces_438 (lv_at hl 1 rfl) ?_
                    refine lv_dload hx hb dX7_forces_440 (lv_at hl 1 rfl) ?_
                    have h_195 : fB (1386) (FP.dmul (Y_) (Y_)) := fB_mul bY1 bY1 (by omega) (by omega) (by omega)
                    refine lv_dmul hx hb dX7_forces_442 (fB_ne h_195 (by omega)) ?_
                    have h_197 : fB (1388) (FP.dadd (FP.dmul (X_) (X_)) (FP.dmul (Y_) (Y_))) := fB_add (M := 1386) h_193 h_195 (by omega) (by omega) (by omega)
                    refine lv_dadd hx hb dX7_forces_443 (fB_ne h_197 (by omega)) ?_
                    refine lv_dload hx hb dX7_forces_444 (lv_at hl 0 rfl) ?_
                    refine lv_dload hx hb dX7_forces_446 (lv_at hl 0 rfl) ?_
                    have h_199 : fB (1386) (FP.dmul (Z_) (Z_)) := fB_mul bZ1 bZ1 (by omega) (by omega) (by omega)
                    refine lv_dmul hx hb dX7_forces_448 (fB_ne h_199 (by omega)) ?_
                    have h_201 : fB (1390) (FP.dadd (FP.dadd (FP.dmul (X_) (X_)) (FP.dmul (Y_) (Y_))) (FP.dmul (Z_) (Z_))) := fB_add (M := 1388) h_197 h_199 (by omega) (by omega) (by omega)
                    refine lv_dadd hx hb dX7_forces_449 (fB_ne h_201 (by omega)) ?_
                    refine lv_topd (fun t_202 et_202 => ?_)
                    have et_202 : l2 X_ Y_ Z_ = t_202 := (et_202).symm
                    subst et_202
                    refine g0d (va_runS (As := [.double (l2 X_ Y_ Z_)]) (rest := []) ⟨hx, hb, hml, hown, hts⟩ (kX7_root l D H.size (l2 X_ Y_ Z_) (1204 + 1204 - 1018) (l2_P bX1 bY1 bZ1 (by decide) (by decide)).1 (by decide) (by decide) (l2_P bX1 bY1 bZ1 (by decide) (by decide)).2) (va_cwS 1 hts gX7_forces_X7_root rfl rfl rfl (by decide +kernel) ⟨Nat.le_of_ble_eq_true rfl, Nat.le_of_ble_eq_true rfl⟩) (gPreS (eT_bl) w0_P (fun _ _ _ => trivial)) rfl rfl hl.1 rfl (lv_room (Nat.le_of_ble_eq_true rfl)) dX7_forces_450 ⟨Nat.zero_le _, Nat.zero_le _⟩) hP hS (fun r_ H locs hw hP hS => ?_)
                    have hw : r_ = rootF (l2 X_ Y_ Z_) := hw
                    subst hw
                    refine lv_dstore (lv' := [(26, .double (rootF (l2 X_ Y_ Z_))), (24, .double (Z_)), (22, .double (Y_)), (20, .double (X_)), (18, .double (nW rd rx ry pz nR wv (dxF px fr tt i) (dxF py fr tt i) (lenF px py pz fr tt i) (fN fr i) (fN tt i))), (16, .double (flU rd ry pz nR wv (fN fr i) (fN tt i))), (14, .double (flU rd rx pz nR wv (fN fr i) (fN tt i))), (12, .double (depF pz (fN fr i) (fN tt i))), (10, .double (lenF px py pz fr tt i)), (8, .double (dxF pz fr tt i)), (6, .double (dxF py fr tt i)), (4, .double (dxF px fr tt i)), (3, .int (nI (fN tt i))), (2, .int (nI (fN fr i))), (1, .int (nI i)), (0, .ref (ad 0))]) hx hb dX7_forces_453 hl (by decide) rfl (fun ls hl => ?_)
                    refine lv_ldc2d hx hb hown c_151 dX7_forces_455 ?_
                    refine lv_aload_n hx hb dX7_forces_458 rfl (lv_at hl 15 rfl) ?_
                    refine va_get (D := D) (ci := 7) (v := .ref (ad 13)) (C := RX7) (T := TX7) (N := 31) hx hb hts iX7_forces_X7 hown hK hP 0 rfl rfl 14 (by decide) f_48 (fun _ h9 => h9) rfl dX7_forces_459 ?_
                    refine lv_iload_n hx hb dX7_forces_462 rfl (lv_at hl 14 rfl) ?_
                    refine xdl hx hb hK hP 13 0 rfl rfl (j := i) (by decide) (by omega) dX7_forces_463 ?_
                    have h_204 : fB (1036) (FP.dmul (4638707616191610880) (wi i)) := fB_mul (fB_lit (K := 1031) (a := 4638707616191610880) (by decide +kernel)) hwi (by omega) (by omega) (by omega)
                    refine lv_dmul hx hb dX7_forces_464 (fB_ne h_204 (by omega)) ?_
                    refine lv_dconst1 hx hb dX7_forces_465 ?_
                    refine lv_aload_n hx hb dX7_forces_466 rfl (lv_at hl 15 rfl) ?_
                    refine va_get (D := D) (ci := 7) (v := .double (fo)) (C := RX7) (T := TX7) (N := 31) hx hb hts iX7_forces_X7 hown hK hP 0 rfl rfl 22 (by decide) f_120 (fun _ h9 => h9) rfl dX7_forces_467 ?_
                    have h_206 : fB (1028) (FP.dadd (FP.dconst1) (fo)) := fB_add (M := 1026) fB_c1 hfo (by omega) (by omega) (by omega)
                    refine lv_dadd hx hb dX7_forces_470 (fB_ne h_206 (by omega)) ?_
                    have h_208 : fB (1042) (FP.dmul (FP.dmul (4638707616191610880) (wi i)) (FP.dadd (FP.dconst1) (fo))) := fB_mul h_204 h_206 (by omega) (by omega) (by omega)
                    refine lv_dmul hx hb dX7_forces_471 (fB_ne h_208 (by omega)) ?_
                    refine lv_aload_n hx hb dX7_forces_472 rfl (lv_at hl 15 rfl) ?_
                    refine va_get (D := D) (ci := 7) (v := .ref (ad 12)) (C := RX7) (T := TX7) (N := 31) hx hb hts iX7_forces_X7 hown hK hP 0 rfl rfl 13 (by decide) f_45 (fun _ h9 => h9) rfl dX7_forces_473 ?_
                    refine lv_iload_n hx hb dX7_forces_476 rfl (lv_at hl 14 rfl) ?_
                    refine xdl hx hb hK hP 12 0 rfl rfl (j := i) (by decide) (by omega) dX7_forces_477 ?_
                    have h_210 : fB (1053) (FP.dmul (FP.dmul (FP.dmul (4638707616191610880) (wi i)) (FP.dadd (FP.dconst1) (fo))) (ln i)) := fB_mul h_208 hln.1 (by omega) (by omega) (by omega)
                    refine lv_dmul hx hb dX7_forces_478 (fB_ne h_210 (by omega)) ?_
                    refine lv_dload hx hb dX7_forces_479 (lv_at hl 0 rfl) ?_
                    have h_212 : fB (1514) (FP.dmul (FP.dmul (FP.dmul (FP.dmul (4638707616191610880) (wi i)) (FP.dadd (FP.dconst1) (fo))) (ln i)) (rootF (l2 X_ Y_ Z_))) := fB_mul h_210 (s_ok bX1 bY1 bZ1) (by omega) (by omega) (by omega)
                    refine lv_dmul hx hb dX7_forces_481 (fB_ne h_212 (by omega)) ?_
                    refine lv_topd (fun q_ eq_ => ?_)
                    have eq_ : q_ = qF (wi i) fo (ln i) (rootF (l2 X_ Y_ Z_)) := eq_
                    have bq : fB 1514 q_ := by rw [eq_]; exact q_ok hwi hfo hln.1 (s_ok bX1 bY1 bZ1)
                    refine lv_dstore (lv' := [(28, .double (q_)), (26, .double (rootF (l2 X_ Y_ Z_))), (24, .double (Z_)), (22, .double (Y_)), (20, .double (X_)), (18, .double (nW rd rx ry pz nR wv (dxF px fr tt i) (dxF py fr tt i) (lenF px py pz fr tt i) (fN fr i) (fN tt i))), (16, .double (flU rd ry pz nR wv (fN fr i) (fN tt i))), (14, .double (flU rd rx pz nR wv (fN fr i) (fN tt i))), (12, .double (depF pz (fN fr i) (fN tt i))), (10, .double (lenF px py pz fr tt i)), (8, .double (dxF pz fr tt i)), (6, .double (dxF py fr tt i)), (4, .double (dxF px fr tt i)), (3, .int (nI (fN tt i))), (2, .int (nI (fN fr i))), (1, .int (nI i)), (0, .ref (ad 0))]) hx hb dX7_forces_482 hl (by decide) rfl (fun ls hl => ?_)
                    refine lv_aload_n hx hb dX7_forces_484 rfl (lv_at hl 16 rfl) ?_
                    refine va_get (D := D) (ci := 7) (v := .ref (ad 19)) (C := RX7) (T := TX7) (N := 31) hx hb hts iX7_forces_X7 hown hK hP 0 rfl rfl 24 (by decide) f_72 (fun _ h9 => h9) rfl dX7_forces_485 ?_
                    refine lv_iconst (v := nI 0) hx hb dX7_forces_488 (by decide) ?_
                    refine lv_aload_n hx hb dX7_forces_489 rfl (lv_at hl 16 rfl) ?_
                    refine va_get (D := D) (ci := 7) (v := .ref (ad 19)) (C := RX7) (T := TX7) (N := 31) hx hb hts iX7_forces_X7 hown hK hP 0 rfl rfl 24 (by decide) f_72 (fun _ h9 => h9) rfl dX7_forces_490 ?_
                    refine lv_iconst (v := nI 0) hx hb dX7_forces_493 (by decide) ?_
                    refine xdl hx hb hK hP 19 0 rfl rfl (j := 0) (by decide) (by decide) dX7_forces_494 ?_
                    refine lv_topd (fun t_213 et_213 => ?_)
                    have et_213 : f5 0 = t_213 := (et_213).symm
                    subst et_213
                    refine lv_ldc2d hx hb hown c_153 dX7_forces_495 ?_
                    refine lv_dload hx hb dX7_forces_498 (lv_at hl 0 rfl) ?_
                    have h_215 : fB (1517) (FP.dmul (4611686018427387904) (q_)) := fB_mul (fB_lit (K := 1025) (a := 4611686018427387904) (by decide +kernel)) bq (by omega) (by omega) (by omega)
                    refine lv_dmul hx hb dX7_forces_500 (fB_ne h_215 (by omega)) ?_
                    refine lv_dload hx hb dX7_forces_501 (lv_at hl 4 rfl) ?_
                    have h_217 : fB (1699) (FP.dmul (FP.dmul (4611686018427387904) (q_)) (X_)) := fB_mul h_215 bX1 (by omega) (by omega) (by omega)
                    refine lv_dmul hx hb dX7_forces_503 (fB_ne h_217 (by omega)) ?_
                    have h_219 : fB (1700 + 4 * i + 2 + 2) (FP.dadd (f5 0) (FP.dmul (FP.dmul (4611686018427387904) (q_)) (X_))) := fB_add (M := 1700 + 4 * i + 2) hT2.2.2.2.1 h_217 (by omega) (by omega) (by omega)
                    refine lv_dadd hx hb dX7_forces_504 (fB_ne h_219 (by omega)) ?_
                    refine xds hx hb hK hD hP hS 19 0 (((nN, px, py, pz, f1, f2, f3, lf, ld, fi), (nB, fr, tt, ln, wi, sg, f4), (nR, rd, rx, ry, wv, fo), (re, (vf_upd f5 0 (FP.dadd (f5 0) (FP.dmul (FP.dmul (4611686018427387904) (q_)) (X_))))), (nP, tp, bt, dp)), (nQ, fu)) rfl rfl (j := 0) (by decide) (by decide) rfl dX7_forces_505 (fun H locs hP hS => ?_)
                    refine lv_aload_n hx hb dX7_forces_506 rfl (lv_at hl 16 rfl) ?_
                    refine va_get (D := D) (ci := 7) (v := .ref (ad 19)) (C := RX7) (T := TX7) (N := 31) hx hb hts iX7_forces_X7 hown hK hP 0 rfl rfl 24 (by decide) f_72 (fun _ h9 => h9) rfl dX7_forces_507 ?_
                    refine lv_iconst (v := nI 1) hx hb dX7_forces_510 (by decide) ?_
                    refine lv_aload_n hx hb dX7_forces_511 rfl (lv_at hl 16 rfl) ?_
                    refine va_get (D := D) (ci := 7) (v := .ref (ad 19)) (C := RX7) (T := TX7) (N := 31) hx hb hts iX7_forces_X7 hown hK hP 0 rfl rfl 24 (by decide) f_72 (fun _ h9 => h9) rfl dX7_forces_512 ?_
                    refine lv_iconst (v := nI 1) hx hb dX7_forces_515 (by decide) ?_
                    refine xdl hx hb hK hP 19 0 rfl rfl (j := 1) (by decide) (by decide) dX7_forces_516 ?_
                    refine lv_topd (fun t_220 et_220 => ?_)
                    have et_220 : f5 1 = t_220 := (et_220).symm
                    subst et_220
                    refine lv_ldc2d hx hb hown c_153 dX7_forces_517 ?_
                    refine lv_dload hx hb dX7_forces_520 (lv_at hl 0 rfl) ?_
                    have h_222 : fB (1517) (FP.dmul (4611686018427387904) (q_)) := fB_mul (fB_lit (K := 1025) (a := 4611686018427387904) (by decide +kernel)) bq (by omega) (by omega) (by omega)
                    refine lv_dmul hx hb dX7_forces_522 (fB_ne h_222 (by omega)) ?_
                    refine lv_dload hx hb dX7_forces_523 (lv_at hl 3 rfl) ?_
                    have h_224 : fB (1699) (FP.dmul (FP.dmul (4611686018427387904) (q_)) (Y_)) := fB_mul h_222 bY1 (by omega) (by omega) (by omega)
                    refine lv_dmul hx hb dX7_forces_525 (fB_ne h_224 (by omega)) ?_
                    have h_226 : fB (1700 + 4 * i + 2 + 2) (FP.dadd (f5 1) (FP.dmul (FP.dmul (4611686018427387904) (q_)) (Y_))) := fB_add (M := 1700 + 4 * i + 2) hT2.2.2.2.2.1 h_224 (by omega) (by omega) (by omega)
                    refine lv_dadd hx hb dX7_forces_526 (fB_ne h_226 (by omega)) ?_
                    refine xds hx hb hK hD hP hS 19 0 (((nN, px, py, pz, f1, f2, f3, lf, ld, fi), (nB, fr, tt, ln, wi, sg, f4), (nR, rd, rx, ry, wv, fo), (re, (vf_upd (vf_upd f5 0 (FP.dadd (f5 0) (FP.dmul (FP.dmul (4611686018427387904) (q_)) (X_)))) 1 (FP.dadd (f5 1) (FP.dmul (FP.dmul (4611686018427387904) (q_)) (Y_))))), (nP, tp, bt, dp)), (nQ, fu)) rfl rfl (j := 1) (by decide) (by decide) rfl dX7_forces_527 (fun H locs hP hS => ?_)
                    refine lv_aload_n hx hb dX7_forces_528 rfl (lv_at hl 16 rfl) ?_
                    refine va_get (D := D) (ci := 7) (v := .ref (ad 19)) (C := RX7) (T := TX7) (N := 31) hx hb hts iX7_forces_X7 hown hK hP 0 rfl rfl 24 (by decide) f_72 (fun _ h9 => h9) rfl dX7_forces_529 ?_
                    refine lv_iconst (v := nI 2) hx hb dX7_forces_532 (by decide) ?_
                    refine lv_aload_n hx hb dX7_forces_533 rfl (lv_at hl 16 rfl) ?_
                    refine va_get (D := D) (ci := 7) (v := .ref (ad 19)) (C := RX7) (T := TX7) (N := 31) hx hb hts iX7_forces_X7 hown hK hP 0 rfl rfl 24 (by decide) f_72 (fun _ h9 => h9) rfl dX7_forces_534 ?_
                    refine lv_iconst (v := nI 2) hx hb dX7_forces_537 (by decide) ?_
                    refine xdl hx hb hK hP 19 0 rfl rfl (j := 2) (by decide) (by decide) dX7_forces_538 ?_
                    refine lv_topd (fun t_227 et_227 => ?_)
                    have et_227 : f5 2 = t_227 := (et_227).symm
                    subst et_227
                    refine lv_ldc2d hx hb hown c_153 dX7_forces_539 ?_
                    refine lv_dload hx hb dX7_forces_542 (lv_at hl 0 rfl) ?_
                    have h_229 : fB (1517) (FP.dmul (4611686018427387904) (q_)) := fB_mul (fB_lit (K := 1025) (a := 4611686018427387904) (by decide +kernel)) bq (by omega) (by omega) (by omega)
                    refine lv_dmul hx hb dX7_forces_544 (fB_ne h_229 (by omega)) ?_
                    refine lv_dload hx hb dX7_forces_545 (lv_at hl 2 rfl) ?_
                    have h_231 : fB (1699) (FP.dmul (FP.dmul (4611686018427387904) (q_)) (Z_)) := fB_mul h_229 bZ1 (by omega) (by omega) (by omega)
                    refine lv_dmul hx hb dX7_forces_547 (fB_ne h_231 (by omega)) ?_
                    have h_233 : fB (1700 + 4 * i + 2 + 2) (FP.dadd (f5 2) (FP.dmul (FP.dmul (4611686018427387904) (q_)) (Z_))) := fB_add (M := 1700 + 4 * i + 2) hT2.2.2.2.2.2 h_231 (by omega) (by omega) (by omega)
                    refine lv_dadd hx hb dX7_forces_548 (fB_ne h_233 (by omega)) ?_
                    refine xds hx hb hK hD hP hS 19 0 (((nN, px, py, pz, f1, f2, f3, lf, ld, fi), (nB, fr, tt, ln, wi, sg, f4), (nR, rd, rx, ry, wv, fo), (re, (vf_upd (vf_upd (vf_upd f5 0 (FP.dadd (f5 0) (FP.dmul (FP.dmul (4611686018427387904) (q_)) (X_)))) 1 (FP.dadd (f5 1) (FP.dmul (FP.dmul (4611686018427387904) (q_)) (Y_)))) 2 (FP.dadd (f5 2) (FP.dmul (FP.dmul (4611686018427387904) (q_)) (Z_))))), (nP, tp, bt, dp)), (nQ, fu)) rfl rfl (j := 2) (by decide) (by decide) rfl dX7_forces_549 (fun H locs hP hS => ?_)
                    refine lv_aload_n hx hb dX7_forces_550 rfl (lv_at hl 16 rfl) ?_
                    refine va_get (D := D) (ci := 7) (v := .ref (ad 7)) (C := RX7) (T := TX7) (N := 31) hx hb hts iX7_forces_X7 hown hK hP 0 rfl rfl 7 (by decide) f_29 (fun _ h9 => h9) rfl dX7_forces_551 ?_
                    refine lv_iload_n hx hb dX7_forces_554 rfl (lv_at hl 14 rfl) ?_
                    refine lv_aload_n hx hb dX7_forces_555 rfl (lv_at hl 16 rfl) ?_
                    refine va_get (D := D) (ci := 7) (v := .ref (ad 7)) (C := RX7) (T := TX7) (N := 31) hx hb hts iX7_forces_X7 hown hK hP 0 rfl rfl 7 (by decide) f_29 (fun _ h9 => h9) rfl dX7_forces_556 ?_
                    refine lv_iload_n hx hb dX7_forces_559 rfl (lv_at hl 14 rfl) ?_
                    refine xdl hx hb hK hP 7 0 rfl rfl (j := fN fr i) (by decide) (by omega) dX7_forces_560 ?_
                    refine lv_dload hx hb dX7_forces_561 (lv_at hl 0 rfl) ?_
                    refine lv_dload hx hb dX7_forces_563 (lv_at hl 4 rfl) ?_
                    have h_235 : fB (1696) (FP.dmul (q_) (X_)) := fB_mul bq bX1 (by omega) (by omega) (by omega)
                    refine lv_dmul hx hb dX7_forces_565 (fB_ne h_235 (by omega)) ?_
                    have h_237 : fB (1700 + 4 * i + 2 + 2) (FP.dadd (f1 (fN fr i)) (FP.dmul (q_) (X_))) := fB_add (M := 1700 + 4 * i + 2) (hT2.1 _ ja).1 h_235 (by omega) (by omega) (by omega)
                    refine lv_dadd hx hb dX7_forces_566 (fB_ne h_237 (by omega)) ?_
                    refine xds hx hb hK hD hP hS 7 0 (((nN, px, py, pz, (vf_upd f1 (fN fr i) (FP.dadd (f1 (fN fr i)) (FP.dmul (q_) (X_)))), f2, f3, lf, ld, fi), (nB, fr, tt, ln, wi, sg, f4), (nR, rd, rx, ry, wv, fo), (re, (vf_upd (vf_upd (vf_upd f5 0 (FP.dadd (f5 0) (FP.dmul (FP.dmul (4611686018427387904) (q_)) (X_)))) 1 (FP.dadd (f5 1) (FP.dmul (FP.dmul (4611686018427387904) (q_)) (Y_)))) 2 (FP.dadd (f5 2) (FP.dmul (FP.dmul (4611686018427387904) (q_)) (Z_))))), (nP, tp, bt, dp)), (nQ, fu)) rfl rfl (j := fN fr i) (by decide) (by omega) rfl dX7_forces_567 (fun H locs hP hS => ?_)
                    refine lv_aload_n hx hb dX7_forces_568 rfl (lv_at hl 16 rfl) ?_
                    refine va_get (D := D) (ci := 7) (v := .ref (ad 8)) (C := RX7) (T := TX7) (N := 31) hx hb hts iX7_forces_X7 hown hK hP 0 rfl rfl 8 (by decide) f_32 (fun _ h9 => h9) rfl dX7_forces_569 ?_
                    refine lv_iload_n hx hb dX7_forces_572 rfl (lv_at hl 14 rfl) ?_
                    refine lv_aload_n hx hb dX7_forces_573 rfl (lv_at hl 16 rfl) ?_
                    refine va_get (D := D) (ci := 7) (v := .ref (ad 8)) (C := RX7) (T := TX7) (N := 31) hx hb hts iX7_forces_X7 hown hK hP 0 rfl rfl 8 (by decide) f_32 (fun _ h9 => h9) rfl dX7_forces_574 ?_
                    refine lv_iload_n hx hb dX7_forces_577 rfl (lv_at hl 14 rfl) ?_
                    refine xdl hx hb hK hP 8 0 rfl rfl (j := fN fr i) (by decide) (by omega) dX7_forces_578 ?_
                    refine lv_dload hx hb dX7_forces_579 (lv_at hl 0 rfl) ?_
                    refine lv_dload hx hb dX7_forces_581 (lv_at hl 3 rfl) ?_
                    have h_239 : fB (1696) (FP.dmul (q_) (Y_)) := fB_mul bq bY1 (by omega) (by omega) (by omega)
                    refine lv_dmul hx hb dX7_forces_583 (fB_ne h_239 (by omega)) ?_
                    have h_241 : fB (1700 + 4 * i + 2 + 2) (FP.dadd (f2 (fN fr i)) (FP.dmul (q_) (Y_))) := fB_add (M := 1700 + 4 * i + 2) (hT2.2.1 _ ja).1 h_239 (by omega) (by omega) (by omega)
                    refine lv_dadd hx hb dX7_forces_584 (fB_ne h_241 (by omega)) ?_
                    refine xds hx hb hK hD hP hS 8 0 (((nN, px, py, pz, (vf_upd f1 (fN fr i) (FP.dadd (f1 (fN fr i)) (FP.dmul (q_) (X_)))), (vf_upd f2 (fN fr i) (FP.dadd (f2 (fN fr i)) (FP.dmul (q_) (Y_)))), f3, lf, ld, fi), (nB, fr, tt, ln, wi, sg, f4), (nR, rd, rx, ry, wv, fo), (re, (vf_upd (vf_upd (vf_upd f5 0 (FP.dadd (f5 0) (FP.dmul (FP.dmul (4611686018427387904) (q_)) (X_)))) 1 (FP.dadd (f5 1) (FP.dmul (FP.dmul (4611686018427387904) (q_)) (Y_)))) 2 (FP.dadd (f5 2) (FP.dmul (FP.dmul (4611686018427387904) (q_)) (Z_))))), (nP, tp, bt, dp)), (nQ, fu)) rfl rfl (j := fN fr i) (by decide) (by omega) rfl dX7_forces_585 (fun H locs hP hS => ?_)
                    refine lv_aload_n hx hb dX7_forces_586 rfl (lv_at hl 16 rfl) ?_
                    refine va_get (D := D) (ci := 7) (v := .ref (ad 9)) (C := RX7) (T := TX7) (N := 31) hx hb hts iX7_forces_X7 hown hK hP 0 rfl rfl 9 (by decide) f_35 (fun _ h9 => h9) rfl dX7_forces_587 ?_
                    refine lv_iload_n hx hb dX7_forces_590 rfl (lv_at hl 14 rfl) ?_
                    refine lv_aload_n hx hb dX7_forces_591 rfl (lv_at hl 16 rfl) ?_
                    refine va_get (D := D) (ci := 7) (v := .ref (ad 9)) (C := RX7) (T := TX7) (N := 31) hx hb hts iX7_forces_X7 hown hK hP 0 rfl rfl 9 (by decide) f_35 (fun _ h9 => h9) rfl dX7_forces_592 ?_
                    refine lv_iload_n hx hb dX7_forces_595 rfl (lv_at hl 14 rfl) ?_
                    refine xdl hx hb hK hP 9 0 rfl rfl (j := fN fr i) (by decide) (by omega) dX7_forces_596 ?_
                    refine lv_dload hx hb dX7_forces_597 (lv_at hl 0 rfl) ?_
                    refine lv_dload hx hb dX7_forces_599 (lv_at hl 2 rfl) ?_
                    have h_243 : fB (1696) (FP.dmul (q_) (Z_)) := fB_mul bq bZ1 (by omega) (by omega) (by omega)
                    refine lv_dmul hx hb dX7_forces_601 (fB_ne h_243 (by omega)) ?_
                    have h_245 : fB (1700 + 4 * i + 2 + 2) (FP.dadd (f3 (fN fr i)) (FP.dmul (q_) (Z_))) := fB_add (M := 1700 + 4 * i + 2) (hT2.2.2.1 _ ja).1 h_243 (by omega) (by omega) (by omega)
                    refine lv_dadd hx hb dX7_forces_602 (fB_ne h_245 (by omega)) ?_
                    refine xds hx hb hK hD hP hS 9 0 (((nN, px, py, pz, (vf_upd f1 (fN fr i) (FP.dadd (f1 (fN fr i)) (FP.dmul (q_) (X_)))), (vf_upd f2 (fN fr i) (FP.dadd (f2 (fN fr i)) (FP.dmul (q_) (Y_)))), (vf_upd f3 (fN fr i) (FP.dadd (f3 (fN fr i)) (FP.dmul (q_) (Z_)))), lf, ld, fi), (nB, fr, tt, ln, wi, sg, f4), (nR, rd, rx, ry, wv, fo), (re, (vf_upd (vf_upd (vf_upd f5 0 (FP.dadd (f5 0) (FP.dmul (FP.dmul (4611686018427387904) (q_)) (X_)))) 1 (FP.dadd (f5 1) (FP.dmul (FP.dmul (4611686018427387904) (q_)) (Y_)))) 2 (FP.dadd (f5 2) (FP.dmul (FP.dmul (4611686018427387904) (q_)) (Z_))))), (nP, tp, bt, dp)), (nQ, fu)) rfl rfl (j := fN fr i) (by decide) (by omega) rfl dX7_forces_603 (fun H locs hP hS => ?_)
                    refine lv_aload_n hx hb dX7_forces_604 rfl (lv_at hl 16 rfl) ?_
                    refine va_get (D := D) (ci := 7) (v := .ref (ad 7)) (C := RX7) (T := TX7) (N := 31) hx hb hts iX7_forces_X7 hown hK hP 0 rfl rfl 7 (by decide) f_29 (fun _ h9 => h9) rfl dX7_forces_605 ?_
                    refine lv_iload_n hx hb dX7_forces_608 rfl (lv_at hl 13 rfl) ?_
                    refine lv_aload_n hx hb dX7_forces_609 rfl (lv_at hl 16 rfl) ?_
                    refine va_get (D := D) (ci := 7) (v := .ref (ad 7)) (C := RX7) (T := TX7) (N := 31) hx hb hts iX7_forces_X7 hown hK hP 0 rfl rfl 7 (by decide) f_29 (fun _ h9 => h9) rfl dX7_forces_610 ?_
                    refine lv_iload_n hx hb dX7_forces_613 rfl (lv_at hl 13 rfl) ?_
                    refine xdl hx hb hK hP 7 0 rfl rfl (j := fN tt i) (by decide) (by omega) dX7_forces_614 ?_
                    refine lv_dload hx hb dX7_forces_615 (lv_at hl 0 rfl) ?_
                    refine lv_dload hx hb dX7_forces_617 (lv_at hl 4 rfl) ?_
                    have h_247 : fB (1696) (FP.dmul (q_) (X_)) := fB_mul bq bX1 (by omega) (by omega) (by omega)
                    refine lv_dmul hx hb dX7_forces_619 (fB_ne h_247 (by omega)) ?_
                    have h_249 : fB (1700 + 4 * i + 2 + 2) (FP.dadd ((vf_upd f1 (fN fr i) (FP.dadd (f1 (fN fr i)) (FP.dmul (q_) (X_)))) (fN tt i)) (FP.dmul (q_) (X_))) := fB_add (M := 1700 + 4 * i + 2) (by rw [vf_ne jab]; exact (hT2.1 _ jb).1) h_247 (by omega) (by omega) (by omega)
                    refine lv_dadd hx hb dX7_forces_620 (fB_ne h_249 (by omega)) ?_
                    refine xds hx hb hK hD hP hS 7 0 (((nN, px, py, pz, (vf_upd (vf_upd f1 (fN fr i) (FP.dadd (f1 (fN fr i)) (FP.dmul (q_) (X_)))) (fN tt i) (FP.dadd ((vf_upd f1 (fN fr i) (FP.dadd (f1 (fN fr i)) (FP.dmul (q_) (X_)))) (fN tt i)) (FP.dmul (q_) (X_)))), (vf_upd f2 (fN fr i) (FP.dadd (f2 (fN fr i)) (FP.dmul (q_) (Y_)))), (vf_upd f3 (fN fr i) (FP.dadd (f3 (fN fr i)) (FP.dmul (q_) (Z_)))), lf, ld, fi), (nB, fr, tt, ln, wi, sg, f4), (nR, rd, rx, ry, wv, fo), (re, (vf_upd (vf_upd (vf_upd f5 0 (FP.dadd (f5 0) (FP.dmul (FP.dmul (4611686018427387904) (q_)) (X_)))) 1 (FP.dadd (f5 1) (FP.dmul (FP.dmul (4611686018427387904) (q_)) (Y_)))) 2 (FP.dadd (f5 2) (FP.dmul (FP.dmul (4611686018427387904) (q_)) (Z_))))), (nP, tp, bt, dp)), (nQ, fu)) rfl rfl (j := fN tt i) (by decide) (by omega) rfl dX7_forces_621 (fun H locs hP hS => ?_)
                    refine lv_aload_n hx hb dX7_forces_622 rfl (lv_at hl 16 rfl) ?_
                    refine va_get (D := D) (ci := 7) (v := .ref (ad 8)) (C := RX7) (T := TX7) (N := 31) hx hb hts iX7_forces_X7 hown hK hP 0 rfl rfl 8 (by decide) f_32 (fun _ h9 => h9) rfl dX7_forces_623 ?_
                    refine lv_iload_n hx hb dX7_forces_626 rfl (lv_at hl 13 rfl) ?_
                    refine lv_aload_n hx hb dX7_forces_627 rfl (lv_at hl 16 rfl) ?_
                    refine va_get (D := D) (ci := 7) (v := .ref (ad 8)) (C := RX7) (T := TX7) (N := 31) hx hb hts iX7_forces_X7 hown hK hP 0 rfl rfl 8 (by decide) f_32 (fun _ h9 => h9) rfl dX7_forces_628 ?_
                    refine lv_iload_n hx hb dX7_forces_631 rfl (lv_at hl 13 rfl) ?_
                    refine xdl hx hb hK hP 8 0 rfl rfl (j := fN tt i) (by decide) (by omega) dX7_forces_632 ?_
                    refine lv_dload hx hb dX7_forces_633 (lv_at hl 0 rfl) ?_
                    refine lv_dload hx hb dX7_forces_635 (lv_at hl 3 rfl) ?_
                    have h_251 : fB (1696) (FP.dmul (q_) (Y_)) := fB_mul bq bY1 (by omega) (by omega) (by omega)
                    refine lv_dmul hx hb dX7_forces_637 (fB_ne h_251 (by omega)) ?_
                    have h_253 : fB (1700 + 4 * i + 2 + 2) (FP.dadd ((vf_upd f2 (fN fr i) (FP.dadd (f2 (fN fr i)) (FP.dmul (q_) (Y_)))) (fN tt i)) (FP.dmul (q_) (Y_))) := fB_add (M := 1700 + 4 * i + 2) (by rw [vf_ne jab]; exact (hT2.2.1 _ jb).1) h_251 (by omega) (by omega) (by omega)
                    refine lv_dadd hx hb dX7_forces_638 (fB_ne h_253 (by omega)) ?_
                    refine xds hx hb hK hD hP hS 8 0 (((nN, px, py, pz, (vf_upd (vf_upd f1 (fN fr i) (FP.dadd (f1 (fN fr i)) (FP.dmul (q_) (X_)))) (fN tt i) (FP.dadd ((vf_upd f1 (fN fr i) (FP.dadd (f1 (fN fr i)) (FP.dmul (q_) (X_)))) (fN tt i)) (FP.dmul (q_) (X_)))), (vf_upd (vf_upd f2 (fN fr i) (FP.dadd (f2 (fN fr i)) (FP.dmul (q_) (Y_)))) (fN tt i) (FP.dadd ((vf_upd f2 (fN fr i) (FP.dadd (f2 (fN fr i)) (FP.dmul (q_) (Y_)))) (fN tt i)) (FP.dmul (q_) (Y_)))), (vf_upd f3 (fN fr i) (FP.dadd (f3 (fN fr i)) (FP.dmul (q_) (Z_)))), lf, ld, fi), (nB, fr, tt, ln, wi, sg, f4), (nR, rd, rx, ry, wv, fo), (re, (vf_upd (vf_upd (vf_upd f5 0 (FP.dadd (f5 0) (FP.dmul (FP.dmul (4611686018427387904) (q_)) (X_)))) 1 (FP.dadd (f5 1) (FP.dmul (FP.dmul (4611686018427387904) (q_)) (Y_)))) 2 (FP.dadd (f5 2) (FP.dmul (FP.dmul (4611686018427387904) (q_)) (Z_))))), (nP, tp, bt, dp)), (nQ, fu)) rfl rfl (j := fN tt i) (by decide) (by omega) rfl dX7_forces_639 (fun H locs hP hS => ?_)
                    refine lv_aload_n hx hb dX7_forces_640 rfl (lv_at hl 16 rfl) ?_
                    refine va_get (D := D) (ci := 7) (v := .ref (ad 9)) (C := RX7) (T := TX7) (N := 31) hx hb hts iX7_forces_X7 hown hK hP 0 rfl rfl 9 (by decide) f_35 (fun _ h9 => h9) rfl dX7_forces_641 ?_
                    refine lv_iload_n hx hb dX7_forces_644 rfl (lv_at hl 13 rfl) ?_
                    refine lv_aload_n hx hb dX7_forces_645 rfl (lv_at hl 16 rfl) ?_
                    refine va_get (D := D) (ci := 7) (v := .ref (ad 9)) (C := RX7) (T := TX7) (N := 31) hx hb hts iX7_forces_X7 hown hK hP 0 rfl rfl 9 (by decide) f_35 (fun _ h9 => h9) rfl dX7_forces_646 ?_
                    refine lv_iload_n hx hb dX7_forces_649 rfl (lv_at hl 13 rfl) ?_
                    refine xdl hx hb hK hP 9 0 rfl rfl (j := fN tt i) (by decide) (by omega) dX7_forces_650 ?_
                    refine lv_dload hx hb dX7_forces_651 (lv_at hl 0 rfl) ?_
                    refine lv_dload hx hb dX7_forces_653 (lv_at hl 2 rfl) ?_
                    have h_255 : fB (1696) (FP.dmul (q_) (Z_)) := fB_mul bq bZ1 (by omega) (by omega) (by omega)
                    refine lv_dmul hx hb dX7_forces_655 (fB_ne h_255 (by omega)) ?_
                    have h_257 : fB (1700 + 4 * i + 2 + 2) (FP.dadd ((vf_upd f3 (fN fr i) (FP.dadd (f3 (fN fr i)) (FP.dmul (q_) (Z_)))) (fN tt i)) (FP.dmul (q_) (Z_))) := fB_add (M := 1700 + 4 * i + 2) (by rw [vf_ne jab]; exact (hT2.2.2.1 _ jb).1) h_255 (by omega) (by omega) (by omega)
                    refine lv_dadd hx hb dX7_forces_656 (fB_ne h_257 (by omega)) ?_
                    refine xds hx hb hK hD hP hS 9 0 (((nN, px, py, pz, (vf_upd (vf_upd f1 (fN fr i) (FP.dadd (f1 (fN fr i)) (FP.dmul (q_) (X_)))) (fN tt i) (FP.dadd ((vf_upd f1 (fN fr i) (FP.dadd (f1 (fN fr i)) (FP.dmul (q_) (X_)))) (fN tt i)) (FP.dmul (q_) (X_)))), (vf_upd (vf_upd f2 (fN fr i) (FP.dadd (f2 (fN fr i)) (FP.dmul (q_) (Y_)))) (fN tt i) (FP.dadd ((vf_upd f2 (fN fr i) (FP.dadd (f2 (fN fr i)) (FP.dmul (q_) (Y_)))) (fN tt i)) (FP.dmul (q_) (Y_)))), (vf_upd (vf_upd f3 (fN fr i) (FP.dadd (f3 (fN fr i)) (FP.dmul (q_) (Z_)))) (fN tt i) (FP.dadd ((vf_upd f3 (fN fr i) (FP.dadd (f3 (fN fr i)) (FP.dmul (q_) (Z_)))) (fN tt i)) (FP.dmul (q_) (Z_)))), lf, ld, fi), (nB, fr, tt, ln, wi, sg, f4), (nR, rd, rx, ry, wv, fo), (re, (vf_upd (vf_upd (vf_upd f5 0 (FP.dadd (f5 0) (FP.dmul (FP.dmul (4611686018427387904) (q_)) (X_)))) 1 (FP.dadd (f5 1) (FP.dmul (FP.dmul (4611686018427387904) (q_)) (Y_)))) 2 (FP.dadd (f5 2) (FP.dmul (FP.dmul (4611686018427387904) (q_)) (Z_))))), (nP, tp, bt, dp)), (nQ, fu)) rfl rfl (j := fN tt i) (by decide) (by omega) rfl dX7_forces_657 (fun H locs hP hS => ?_)
                    obtain ⟨g1, eg1⟩ : ∃ f : DF, f = (vf_upd (vf_upd f1 (fN fr i) (FP.dadd (f1 (fN fr i)) (FP.dmul (q_) (X_)))) (fN tt i) (FP.dadd ((vf_upd f1 (fN fr i) (FP.dadd (f1 (fN fr i)) (FP.dmul (q_) (X_)))) (fN tt i)) (FP.dmul (q_) (X_)))) := ⟨_, rfl⟩
                    obtain ⟨g2, eg2⟩ : ∃ f : DF, f = (vf_upd (vf_upd f2 (fN fr i) (FP.dadd (f2 (fN fr i)) (FP.dmul (q_) (Y_)))) (fN tt i) (FP.dadd ((vf_upd f2 (fN fr i) (FP.dadd (f2 (fN fr i)) (FP.dmul (q_) (Y_)))) (fN tt i)) (FP.dmul (q_) (Y_)))) := ⟨_, rfl⟩
                    obtain ⟨g3, eg3⟩ : ∃ f : DF, f = (vf_upd (vf_upd f3 (fN fr i) (FP.dadd (f3 (fN fr i)) (FP.dmul (q_) (Z_)))) (fN tt i) (FP.dadd ((vf_upd f3 (fN fr i) (FP.dadd (f3 (fN fr i)) (FP.dmul (q_) (Z_)))) (fN tt i)) (FP.dmul (q_) (Z_)))) := ⟨_, rfl⟩
                    obtain ⟨g5, eg5⟩ : ∃ f : DF, f = (vf_upd (vf_upd (vf_upd f5 0 (FP.dadd (f5 0) (FP.dmul (FP.dmul (4611686018427387904) (q_)) (X_)))) 1 (FP.dadd (f5 1) (FP.dmul (FP.dmul (4611686018427387904) (q_)) (Y_)))) 2 (FP.dadd (f5 2) (FP.dmul (FP.dmul (4611686018427387904) (q_)) (Z_)))) := ⟨_, rfl⟩
                    have hW : (g1, g2, g3, f4, g5) = wsW q_ X_ Y_ Z_ (fN fr i) (fN tt i) (f1, f2, f3, f4, f5) := by rw [eg1, eg2, eg3, eg5]; rfl
                    have hP : va_P D vwCl (WM cs ad (((nN, px, py, pz, g1, g2, g3, lf, ld, fi), (nB, fr, tt, ln, wi, sg, f4), (nR, rd, rx, ry, wv, fo), (re, g5), (nP, tp, bt, dp)), (nQ, fu))) H := by
                      rw [eg1, eg2, eg3, eg5]; exact hP
                    clear eg1 eg2 eg3 eg5
                    refine lv_iinc (v := nI (i + 1)) (lv' := [(1, .int (nI (i + 1))), (28, .double (q_)), (26, .double (rootF (l2 X_ Y_ Z_))), (24, .double (Z_)), (22, .double (Y_)), (20, .double (X_)), (18, .double (nW rd rx ry pz nR wv (dxF px fr tt i) (dxF py fr tt i) (lenF px py pz fr tt i) (fN fr i) (fN tt i))), (16, .double (flU rd ry pz nR wv (fN fr i) (fN tt i))), (14, .double (flU rd rx pz nR wv (fN fr i) (fN tt i))), (12, .double (depF pz (fN fr i) (fN tt i))), (10, .double (lenF px py pz fr tt i)), (8, .double (dxF pz fr tt i)), (6, .double (dxF py fr tt i)), (4, .double (dxF px fr tt i)), (3, .int (nI (fN tt i))), (2, .int (nI (fN fr i))), (0, .ref (ad 0))]) hx hb dX7_forces_658 hl (k := 15) rfl (nI_add _ _) (by decide) rfl (fun ls hl => ?_)
                    refine lv_goto (tgt := 74) hx hb dX7_forces_661 (by decide) ?_
                    exact ih_74 (i + 1) (g1) (g2) (g3) (f4) (g5) (by omega) (by omega) (by show _ = barS ((nN, px, py, pz, fx, fy, fz, lf, ld, fi), (nB, fr, tt, ln, wi, sg, pu), (nR, rd, rx, ry, wv, fo), (re, dg), (nP, tp, bt, dp)) i (barsI ((nN, px, py, pz, fx, fy, fz, lf, ld, fi), (nB, fr, tt, ln, wi, sg, pu), (nR, rd, rx, ry, wv, fo), (re, dg), (nP, tp, bt, dp)) i); rw [← hFS]; show _ = wshS (lenF px py pz fr tt i) (qF (wi i) fo (ln i) (rootF (l2 (bX px py pz fr tt nR rd rx ry wv i) (bY px py pz fr tt nR rd rx ry wv i) (bZ px py pz fr tt nR rd rx ry wv i)))) (bX px py pz fr tt nR rd rx ry wv i) (bY px py pz fr tt nR rd rx ry wv i) (bZ px py pz fr tt nR rd rx ry wv i) (fN fr i) (fN tt i) (tgS (lenF px py pz fr tt i) (dxF px fr tt i) (dxF py fr tt i) (dxF pz fr tt i) (ln i) (fN fr i) (fN tt i) i (fx_, fy_, fz_, pu_, dg_)); rw [← hT, hW, wshS_p c_338_159, eq_, eX, eY, eZ]) _ _ hP hS ls (lv_sub hl [0, 16] rfl)
              refine xc_lgt (tgt := 203) hx hb dX7_forces_176 dX7_forces_177 (by decide) (fun c_176_258 => ?_) (fun c_176_258 => ?_)
              · skip
                refine lv_dconst0 hx hb dX7_forces_203 ?_
                exact J_204_30 (FP.dconst0) ((if_neg c_176_258).symm)
              · skip
                refine lv_ldc2d hx hb hown c_145 dX7_forces_180 ?_
                refine lv_dload hx hb dX7_forces_183 (lv_at hl 0 rfl) ?_
                refine lv_aload_n hx hb dX7_forces_185 rfl (lv_at hl 7 rfl) ?_
                refine va_get (D := D) (ci := 7) (v := .ref (ad 12)) (C := RX7) (T := TX7) (N := 31) hx hb hts iX7_forces_X7 hown hK hP 0 rfl rfl 13 (by decide) f_45 (fun _ h9 => h9) rfl dX7_forces_186 ?_
                refine lv_iload_n hx hb dX7_forces_189 rfl (lv_at hl 6 rfl) ?_
                refine xdl hx hb hK hP 12 0 rfl rfl (j := i) (by decide) (by omega) dX7_forces_190 ?_
                have h_260 : fB (1159) (FP.dsub (lenF px py pz fr tt i) (ln i)) := fB_sub (M := 1157) hL hln.1 (by omega) (by omega) (by omega)
                refine lv_dsub hx hb dX7_forces_191 (fB_ne h_260 (by omega)) ?_
                have h_262 : fB (1171) (FP.dmul (4656510908468559872) (FP.dsub (lenF px py pz fr tt i) (ln i))) := fB_mul (fB_lit (K := 1034) (a := 4656510908468559872) (by decide +kernel)) h_260 (by omega) (by omega) (by omega)
                refine lv_dmul hx hb dX7_forces_192 (fB_ne h_262 (by omega)) ?_
                refine lv_aload_n hx hb dX7_forces_193 rfl (lv_at hl 7 rfl) ?_
                refine va_get (D := D) (ci := 7) (v := .ref (ad 12)) (C := RX7) (T := TX7) (N := 31) hx hb hts iX7_forces_X7 hown hK hP 0 rfl rfl 13 (by decide) f_45 (fun _ h9 => h9) rfl dX7_forces_194 ?_
                refine lv_iload_n hx hb dX7_forces_197 rfl (lv_at hl 6 rfl) ?_
                refine xdl hx hb hK hP 12 0 rfl rfl (j := i) (by decide) (by omega) dX7_forces_198 ?_
                have h_264 : fB (1175) (FP.ddiv (FP.dmul (4656510908468559872) (FP.dsub (lenF px py pz fr tt i) (ln i))) (ln i)) := fB_div h_262 hln.2.1 (fB_mono hln.1 (by omega)) (by omega) (by omega) (by omega)
                refine lv_ddiv hx hb dX7_forces_199 (fB_ne h_264 (by omega)) ?_
                refine lv_goto (tgt := 204) hx hb dX7_forces_200 (by decide) ?_
                exact J_204_30 (FP.ddiv (FP.dmul (4656510908468559872) (FP.dsub (lenF px py pz fr tt i) (ln i))) (ln i)) ((if_pos c_176_258).symm)
        exact L_74_3 (nB + 1) (0) ((st0 fx nN)) ((st0 fy nN)) ((stz fz ld lf nN)) (pu) ((vf_upd (vf_upd (vf_upd dg 0 FP.dconst0) 1 FP.dconst0) 2 FP.dconst0)) (by omega) (by omega) rfl _ _ hP hS ls (lv_sub hl [0, 1] rfl)
      · skip
        have c_7_2 : ¬ (nN ≤ k) := fun q => c_7_2 ((nI_leI (a := nN) (b := k) (by omega) (by omega)).mpr q)
        refine lv_aload_n hx hb dX7_forces_10 rfl (lv_at hl 1 rfl) ?_
        refine va_get (D := D) (ci := 7) (v := .ref (ad 7)) (C := RX7) (T := TX7) (N := 31) hx hb hts iX7_forces_X7 hown hK hP 0 rfl rfl 7 (by decide) f_29 (fun _ h9 => h9) rfl dX7_forces_11 ?_
        refine lv_iload_n hx hb dX7_forces_14 rfl (lv_at hl 0 rfl) ?_
        refine lv_dconst0 hx hb dX7_forces_15 ?_
        refine xds hx hb hK hD hP hS 7 0 (((nN, px, py, pz, (vf_upd (st0 fx k) k FP.dconst0), (st0 fy k), (stz fz ld lf k), lf, ld, fi), (nB, fr, tt, ln, wi, sg, pu), (nR, rd, rx, ry, wv, fo), (re, dg), (nP, tp, bt, dp)), (nQ, fu)) rfl rfl (j := k) (by decide) (by omega) rfl dX7_forces_16 (fun H locs hP hS => ?_)
        refine lv_aload_n hx hb dX7_forces_17 rfl (lv_at hl 1 rfl) ?_
        refine va_get (D := D) (ci := 7) (v := .ref (ad 8)) (C := RX7) (T := TX7) (N := 31) hx hb hts iX7_forces_X7 hown hK hP 0 rfl rfl 8 (by decide) f_32 (fun _ h9 => h9) rfl dX7_forces_18 ?_
        refine lv_iload_n hx hb dX7_forces_21 rfl (lv_at hl 0 rfl) ?_
        refine lv_dconst0 hx hb dX7_forces_22 ?_
        refine xds hx hb hK hD hP hS 8 0 (((nN, px, py, pz, (vf_upd (st0 fx k) k FP.dconst0), (vf_upd (st0 fy k) k FP.dconst0), (stz fz ld lf k), lf, ld, fi), (nB, fr, tt, ln, wi, sg, pu), (nR, rd, rx, ry, wv, fo), (re, dg), (nP, tp, bt, dp)), (nQ, fu)) rfl rfl (j := k) (by decide) (by omega) rfl dX7_forces_23 (fun H locs hP hS => ?_)
        refine lv_aload_n hx hb dX7_forces_24 rfl (lv_at hl 1 rfl) ?_
        refine va_get (D := D) (ci := 7) (v := .ref (ad 9)) (C := RX7) (T := TX7) (N := 31) hx hb hts iX7_forces_X7 hown hK hP 0 rfl rfl 9 (by decide) f_35 (fun _ h9 => h9) rfl dX7_forces_25 ?_
        refine lv_iload_n hx hb dX7_forces_28 rfl (lv_at hl 0 rfl) ?_
        refine lv_dconst0 hx hb dX7_forces_29 ?_
        refine lv_aload_n hx hb dX7_forces_30 rfl (lv_at hl 1 rfl) ?_
        refine va_get (D := D) (ci := 7) (v := .ref (ad 5)) (C := RX7) (T := TX7) (N := 31) hx hb hts iX7_forces_X7 hown hK hP 0 rfl rfl 5 (by decide) f_22 (fun _ h9 => h9) rfl dX7_forces_31 ?_
        refine lv_iload_n hx hb dX7_forces_34 rfl (lv_at hl 0 rfl) ?_
        refine xdl hx hb hK hP 5 0 rfl rfl (j := k) (by decide) (by omega) dX7_forces_35 ?_
        refine lv_aload_n hx hb dX7_forces_36 rfl (lv_at hl 1 rfl) ?_
        refine va_get (D := D) (ci := 7) (v := .ref (ad 4)) (C := RX7) (T := TX7) (N := 31) hx hb hts iX7_forces_X7 hown hK hP 0 rfl rfl 4 (by decide) f_19 (fun _ h9 => h9) rfl dX7_forces_37 ?_
        refine lv_iload_n hx hb dX7_forces_40 rfl (lv_at hl 0 rfl) ?_
        refine xdl hx hb hK hP 4 0 rfl rfl (j := k) (by decide) (by omega) dX7_forces_41 ?_
        have h_266 : fB (1042) (FP.dsub (ld k) (lf k)) := fB_sub (M := 1040) (hll _ (by omega)).2 (hll _ (by omega)).1 (by omega) (by omega) (by omega)
        refine lv_dsub hx hb dX7_forces_42 (fB_ne h_266 (by omega)) ?_
        have h_268 : fB (1044) (FP.dadd (FP.dconst0) (FP.dsub (ld k) (lf k))) := fB_add (M := 1042) fB_c0 h_266 (by omega) (by omega) (by omega)
        refine lv_dadd hx hb dX7_forces_43 (fB_ne h_268 (by omega)) ?_
        refine xds hx hb hK hD hP hS 9 0 (((nN, px, py, pz, (vf_upd (st0 fx k) k FP.dconst0), (vf_upd (st0 fy k) k FP.dconst0), (vf_upd (stz fz ld lf k) k (FP.dadd (FP.dconst0) (FP.dsub (ld k) (lf k)))), lf, ld, fi), (nB, fr, tt, ln, wi, sg, pu), (nR, rd, rx, ry, wv, fo), (re, dg), (nP, tp, bt, dp)), (nQ, fu)) rfl rfl (j := k) (by decide) (by omega) rfl dX7_forces_44 (fun H locs hP hS => ?_)
        refine lv_iinc (v := nI (k + 1)) (lv' := [(1, .int (nI (k + 1))), (0, .ref (ad 0))]) hx hb dX7_forces_45 hl (k := 0) rfl (nI_add _ _) (by decide) rfl (fun ls hl => ?_)
        refine lv_goto (tgt := 2) hx hb dX7_forces_48 (by decide) ?_
        exact ih_2 (k + 1)  (by omega) (by omega) _ _ hP hS ls (lv_sub hl [0, 1] rfl)
  exact L_2_1 (nN + 1) (0)  (by omega) (by omega) _ _ hP hS ls (lv_sub hl [0, 1] rfl)
