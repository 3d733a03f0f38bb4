/-! run, by the reference -/
def fuO (o : Option UInt64) (k : ES) : ES := match o, k with
  | none, k => k
  | some f, (nQ, fu) => (nQ + 1, vf_upd fu nQ f)
theorem open_1 {nN nB nR nP : Nat} {px py pz fx fy fz lf ld ln wi sg pu rd rx ry dg : DF} {fi fr tt tp bt dp : IF} {wv fo re : UInt64} {r : UInt64} (hn : ¬ nN = 0) (h : q_open ((nN, px, py, pz, fx, fy, fz, lf, ld, fi), (nB, fr, tt, ln, wi, sg, pu), (nR, rd, rx, ry, wv, fo), (re, dg), (nP, tp, bt, dp)) (nI 1) r) : r = spF py nN := by
  rcases h with ⟨-, h⟩ | ⟨h, -⟩
  · rcases h with ⟨q, e⟩ | ⟨q, e⟩ | ⟨q, e⟩
    · exact absurd q (by decide)
    · exact e
    · exact absurd q (by decide)
  · exact absurd ⟨hn, 1, by decide, rfl⟩ h
theorem iX7_run_X7 : ∀ w ∈ u_ws RX7 TX7 31, w ∈ wsX7_run := by decide +kernel
set_option maxHeartbeats 4000000 in
set_option maxRecDepth 100000 in
theorem kX7_run (l : Launch) (D : va_G) (cs : Nat → ClassId) (ad : Nat → Nat) (hd : distM ad) (sz : Nat) (S : MS) (hE0 : envOK S.1) (M_ : Nat) (hM : M_ + 301 < 262144) (hpl : plOK M_ S.1) (hnQ : S.2.1 < 600) (n : Int32) : Met l yX7_run wsX7_run ({ frames := 3, cells := 0, slots := 0, locals := 79 } : Room) (gP D (WM cs ad) (EM D cs) S sz ([.ref (ad 0), .int (n)] : List Value)) (va_Qi (fun r u => ∃ o, q_run S.1 n r u.1 o ∧ u.2 = fuO o S.2) (gB D (WM cs ad)) (gA (AM ad) sz)) 0 0 (gA (AM ad) sz) := by
  obtain ⟨⟨⟨nN, px, py, pz, fx, fy, fz, lf, ld, fi⟩, ⟨nB, fr, tt, ln, wi, sg, pu⟩, ⟨nR, rd, rx, ry, wv, fo⟩, ⟨re, dg⟩, ⟨nP, tp, bt, dp⟩⟩, ⟨nQ, fu⟩⟩ := S
  have hpl00 := hpl
  have hE00 := hE0
  obtain ⟨hnN, hnB, -⟩ := hE0
  have hnQ : nQ < 600 := hnQ
  refine gMi (cc := cX7_run) (maxL := 4) (plainFor_of_name (by decide)) rfl (Nat.le_of_ble_eq_true rfl) ?_
  intro p e s m below meth c Q hx hb hts hown hml hsz hE hret H locs hP hS ls hl
  subst hsz
  have hown : s.vm.findClass RX7 = some m.cls := hown
  have hK : va_K D vwCl (tysX cs) s := hE.1
  have hD : ∀ u, va_D (gA (AM ad) s.heap.size) (WM cs ad u) := fun u => WM_D hd u
  have hl : lv_has ls 4 [(0, .ref (ad 0)), (1, .int (n))] := hl
  have f_7 := hts (.fieldLink RX7 7 "NetShapesModel" "x" "[D") (by decide +kernel)
  have f_13 := hts (.fieldLink RX7 13 "NetShapesModel" "y" "[D") (by decide +kernel)
  have f_16 := hts (.fieldLink RX7 16 "NetShapesModel" "z" "[D") (by decide +kernel)
  have f_25 := hts (.fieldLink RX7 25 "NetShapesModel" "fixed" "[Z") (by decide +kernel)
  have f_29 := hts (.fieldLink RX7 29 "NetShapesModel" "fx" "[D") (by decide +kernel)
  have f_32 := hts (.fieldLink RX7 32 "NetShapesModel" "fy" "[D") (by decide +kernel)
  have f_35 := hts (.fieldLink RX7 35 "NetShapesModel" "fz" "[D") (by decide +kernel)
  have f_68 := hts (.fieldLink RX7 68 "NetShapesModel" "residual" "D") (by decide +kernel)
  have f_72 := hts (.fieldLink RX7 72 "NetShapesModel" "drags" "[D") (by decide +kernel)
  have f_75 := hts (.fieldLink RX7 75 "NetShapesModel" "fuels" "[D") (by decide +kernel)
  have f_89 := hts (.fieldLink RX7 89 "NetShapesModel" "nodes" "I") (by decide +kernel)
  have f_173 := hts (.fieldLink RX7 173 "NetShapesModel" "balances" "I") (by decide +kernel)
  refine lv_iload_n hx hb dX7_run_0 rfl (lv_at hl 1 rfl) ?_
  refine lv_iconst (v := nI 1) hx hb dX7_run_1 (by decide) ?_
  refine lv_icmp_lt (tgt := 19) hx hb dX7_run_2 (by decide) (fun c_2_1 => ?_) (fun c_2_1 => ?_)
  · skip
    refine lv_iconst (v := (-1 : Int32)) hx hb dX7_run_19 (by decide) ?_
    exact hret hS hP dX7_run_20 (⟨none, Or.inr ⟨fun q => inW_lo (by decide) c_2_1 q.1, rfl, rfl, rfl⟩, rfl⟩)
  · skip
    refine lv_iload_n hx hb dX7_run_5 rfl (lv_at hl 1 rfl) ?_
    refine lv_sipush (v := nI 300) hx hb dX7_run_6 (by decide) ?_
    refine lv_icmp_gt (tgt := 19) hx hb dX7_run_9 (by decide) (fun c_9_2 => ?_) (fun c_9_2 => ?_)
    · skip
      refine lv_iconst (v := (-1 : Int32)) hx hb dX7_run_19 (by decide) ?_
      exact hret hS hP dX7_run_20 (⟨none, Or.inr ⟨fun q => inW_hi (by decide) c_9_2 q.1, rfl, rfl, rfl⟩, rfl⟩)
    · skip
      obtain ⟨j, hj1, hj2, rfl⟩ := inW_of (by decide) c_2_1 c_9_2
      refine lv_aload_n hx hb dX7_run_12 rfl (lv_at hl 0 rfl) ?_
      refine va_get (D := D) (ci := 7) (v := .int (nI nN)) (C := RX7) (T := TX7) (N := 31) hx hb hts iX7_run_X7 hown hK hP 0 rfl rfl 0 (by decide) f_89 (fun _ h9 => h9) rfl dX7_run_13 ?_
      refine lv_if_ne (tgt := 21) hx hb dX7_run_16 (by decide) (fun c_16_3 => ?_) (fun c_16_3 => ?_)
      · skip
        have c_16_3 : ¬ (nN = 0) := fun q => c_16_3 ((nI_eq (a := nN) (b := 0) (by omega) (by omega)).mpr q)
        refine lv_iconst (v := nI 0) hx hb dX7_run_21 (by decide) ?_
        refine lv_istore_n (lv' := [(2, .int (nI 0)), (0, .ref (ad 0)), (1, .int (nI j))]) hx hb dX7_run_22 rfl hl (by decide) rfl (fun ls hl => ?_)
        have L_23_4 : ∀ (n_23 i : Nat) (px_ : DF) (py_ : DF) (pz_ : DF) (fx_ : DF) (fy_ : DF) (fz_ : DF) (pu_ : DF) (dg_ : DF) (re_ : UInt64), (j + 1 ≤ i + n_23) → (i ≤ j) → (((nN, px_, py_, pz_, fx_, fy_, fz_, lf, ld, fi), (nB, fr, tt, ln, wi, sg, pu_), (nR, rd, rx, ry, wv, fo), (re_, dg_), (nP, tp, bt, dp)) = rndI ((nN, px, py, pz, fx, fy, fz, lf, ld, fi), (nB, fr, tt, ln, wi, sg, pu), (nR, rd, rx, ry, wv, fo), (re, dg), (nP, tp, bt, dp)) i) → (∀ k, k < i → ¬ inBal (rndI ((nN, px, py, pz, fx, fy, fz, lf, ld, fi), (nB, fr, tt, ln, wi, sg, pu), (nR, rd, rx, ry, wv, fo), (re, dg), (nP, tp, bt, dp)) k)) → ∀ (H : Heap) (locs : List Loc), va_P D vwCl (WM cs ad (((nN, px_, py_, pz_, fx_, fy_, fz_, lf, ld, fi), (nB, fr, tt, ln, wi, sg, pu_), (nR, rd, rx, ry, wv, fo), (re_, dg_), (nP, tp, bt, dp)), (nQ, fu))) H → va_S (gA (AM ad) s.heap.size) s.heap H locs → ∀ (ls : Array Slot), lv_has ls 4 [(2, .int (nI i)), (0, .ref (ad 0)), (1, .int (nI j))] → W p l e ({ frames := 3, cells := 0, slots := 0, locals := 79 } : Room) s m ([.ref (ad 0), .int (nI j)] : List Value).toArray below meth c H locs 0 0 Q (F0 m 23 ls []) := by
          intro n_23; induction n_23 with
          | zero => intro i px_ py_ pz_ fx_ fy_ fz_ pu_ dg_ re_ hf_23 hi hG hno H locs hP hS ls hl; exact absurd hf_23 (by omega)
          | succ n_23 ih_23 =>
            intro i px_ py_ pz_ fx_ fy_ fz_ pu_ dg_ re_ hf_23 hi hG hno H locs hP hS ls hl
            have hRi : envOK (rndI ((nN, px, py, pz, fx, fy, fz, lf, ld, fi), (nB, fr, tt, ln, wi, sg, pu), (nR, rd, rx, ry, wv, fo), (re, dg), (nP, tp, bt, dp)) i) ∧ plOK (M_ + i) (rndI ((nN, px, py, pz, fx, fy, fz, lf, ld, fi), (nB, fr, tt, ln, wi, sg, pu), (nR, rd, rx, ry, wv, fo), (re, dg), (nP, tp, bt, dp)) i) := rnd_ok (G := ((nN, px, py, pz, fx, fy, fz, lf, ld, fi), (nB, fr, tt, ln, wi, sg, pu), (nR, rd, rx, ry, wv, fo), (re, dg), (nP, tp, bt, dp))) hE00 hpl00 i (by omega)
            rw [← hG] at hRi
            obtain ⟨hEi, hPi⟩ := hRi
            have hPi : ∀ j, j < nN → pP (M_ + i) (px_ j) ∧ pP (M_ + i) (py_ j) ∧ pP (M_ + i) (pz_ j) := hPi
            have hq1 : ∀ j, j < nN → pOK (py_ j) := fun j hj => pP_pOK (hPi j hj).2.1 (by omega)
            have hqq : posOK nN px_ py_ pz_ := fun j hj => ⟨pP_pOK (hPi j hj).1 (by omega), pP_pOK (hPi j hj).2.1 (by omega), pP_pOK (hPi j hj).2.2 (by omega)⟩
            refine lv_iload_n hx hb dX7_run_23 rfl (lv_at hl 0 rfl) ?_
            refine lv_iload_n hx hb dX7_run_24 rfl (lv_at hl 2 rfl) ?_
            refine lv_icmp_ge (tgt := 176) hx hb dX7_run_25 (by decide) (fun c_25_5 => ?_) (fun c_25_5 => ?_)
            · skip
              have c_25_5 : j ≤ i := (nI_leI (a := j) (b := i) (by omega) (by omega)).mp c_25_5
              refine lv_iconst (v := (-1 : Int32)) hx hb dX7_run_176 (by decide) ?_
              exact hret hS hP dX7_run_177 (⟨none, Or.inl ⟨j, hj1, hj2, rfl, c_16_3, Or.inr ⟨fun k hk => hno k (by omega), rfl, (by rw [show i = j by omega] at hG; exact hG), rfl⟩⟩, rfl⟩)
            · skip
              have c_25_5 : ¬ (j ≤ i) := fun q => c_25_5 ((nI_leI (a := j) (b := i) (by omega) (by omega)).mpr q)
              refine lv_aload_n hx hb dX7_run_28 rfl (lv_at hl 1 rfl) ?_
              refine gcv (va_runV (As := []) (rest := []) ⟨hx, hb, hml, hown, hts⟩ (kX7_forces l D cs ad hd H.size (((nN, px_, py_, pz_, fx_, fy_, fz_, lf, ld, fi), (nB, fr, tt, ln, wi, sg, pu_), (nR, rd, rx, ry, wv, fo), (re_, dg_), (nP, tp, bt, dp)), (nQ, fu)) hEi (M_ + i) (by omega) hPi) (cwV 0 hts gX7_run_X7_forces rfl rfl rfl (by decide +kernel) ⟨Nat.le_of_ble_eq_true rfl, Nat.le_of_ble_eq_true rfl⟩) (gPreV (EM_bl) (va_recv hK hP (ci := 7) (q0 := 0) rfl rfl) hP (fun U _ hW => EM_warm hW hE)) rfl rfl hl.1 rfl (lv_room (Nat.le_of_ble_eq_true rfl)) dX7_run_29 ⟨Nat.zero_le _, Nat.zero_le _⟩) hS (fun u_ H locs hw hP hS => ?_)
              obtain ⟨uG, uE⟩ := u_
              obtain ⟨hw, ek⟩ := hw
              have ek : uE = (nQ, fu) := ek
              subst ek
              have hB5 : frOK 1940 nN (barsI ((nN, px_, py_, pz_, fx_, fy_, fz_, lf, ld, fi), (nB, fr, tt, ln, wi, sg, pu_), (nR, rd, rx, ry, wv, fo), (re_, dg_), (nP, tp, bt, dp)) nB) := all_ok (G := ((nN, px_, py_, pz_, fx_, fy_, fz_, lf, ld, fi), (nB, fr, tt, ln, wi, sg, pu_), (nR, rd, rx, ry, wv, fo), (re_, dg_), (nP, tp, bt, dp))) hEi hPi (by omega)
              obtain ⟨⟨f1, f2, f3, f4, f5⟩, hFS⟩ : ∃ F : FS, F = barsI ((nN, px_, py_, pz_, fx_, fy_, fz_, lf, ld, fi), (nB, fr, tt, ln, wi, sg, pu_), (nR, rd, rx, ry, wv, fo), (re_, dg_), (nP, tp, bt, dp)) nB := ⟨_, rfl⟩
              have e1 : ((nN, px_, py_, pz_, f1, f2, f3, lf, ld, fi), (nB, fr, tt, ln, wi, sg, f4), (nR, rd, rx, ry, wv, fo), ((grF fi f1 f2 f3 nN), f5), (nP, tp, bt, dp)) = forcesG ((nN, px_, py_, pz_, fx_, fy_, fz_, lf, ld, fi), (nB, fr, tt, ln, wi, sg, pu_), (nR, rd, rx, ry, wv, fo), (re_, dg_), (nP, tp, bt, dp)) := by show _ = balG ((nN, px_, py_, pz_, fx_, fy_, fz_, lf, ld, fi), (nB, fr, tt, ln, wi, sg, pu_), (nR, rd, rx, ry, wv, fo), (re_, dg_), (nP, tp, bt, dp)) (barsI ((nN, px_, py_, pz_, fx_, fy_, fz_, lf, ld, fi), (nB, fr, tt, ln, wi, sg, pu_), (nR, rd, rx, ry, wv, fo), (re_, dg_), (nP, tp, bt, dp)) nB); rw [← hFS]; rfl
              have e2 : ((nN, px_, py_, pz_, f1, f2, f3, lf, ld, fi), (nB, fr, tt, ln, wi, sg, f4), (nR, rd, rx, ry, wv, fo), ((grF fi f1 f2 f3 nN), f5), (nP, tp, bt, dp)) = forcesG (rndI ((nN, px, py, pz, fx, fy, fz, lf, ld, fi), (nB, fr, tt, ln, wi, sg, pu), (nR, rd, rx, ry, wv, fo), (re, dg), (nP, tp, bt, dp)) i) := by rw [← hG]; exact e1
              have e3 : ((nN, (gwF px_ f1 fi nN), (gwF py_ f2 fi nN), (gwF pz_ f3 fi nN), f1, f2, f3, lf, ld, fi), (nB, fr, tt, ln, wi, sg, f4), (nR, rd, rx, ry, wv, fo), ((grF fi f1 f2 f3 nN), f5), (nP, tp, bt, dp)) = rndI ((nN, px, py, pz, fx, fy, fz, lf, ld, fi), (nB, fr, tt, ln, wi, sg, pu), (nR, rd, rx, ry, wv, fo), (re, dg), (nP, tp, bt, dp)) (i + 1) := by show moveG ((nN, px_, py_, pz_, f1, f2, f3, lf, ld, fi), (nB, fr, tt, ln, wi, sg, f4), (nR, rd, rx, ry, wv, fo), ((grF fi f1 f2 f3 nN), f5), (nP, tp, bt, dp)) = moveG (forcesG (rndI ((nN, px, py, pz, fx, fy, fz, lf, ld, fi), (nB, fr, tt, ln, wi, sg, pu), (nR, rd, rx, ry, wv, fo), (re, dg), (nP, tp, bt, dp)) i)); rw [← e2]
              have e4 : some (FP.ddiv (sizeF (f5 0)) (FP.dadd FP.dconst1 (spF py_ nN))) = some (fuF (forcesG (rndI ((nN, px, py, pz, fx, fy, fz, lf, ld, fi), (nB, fr, tt, ln, wi, sg, pu), (nR, rd, rx, ry, wv, fo), (re, dg), (nP, tp, bt, dp)) i))) := by rw [← e2]; rfl
              rw [← hFS] at hB5
              obtain ⟨k1, k2, k3, k4, -⟩ := hB5
              have hw : uG = forcesG ((nN, px_, py_, pz_, fx_, fy_, fz_, lf, ld, fi), (nB, fr, tt, ln, wi, sg, pu_), (nR, rd, rx, ry, wv, fo), (re_, dg_), (nP, tp, bt, dp)) := hw
              rw [← e1] at hw
              subst hw
              have hP : va_P D vwCl (WM cs ad (((nN, px_, py_, pz_, f1, f2, f3, lf, ld, fi), (nB, fr, tt, ln, wi, sg, f4), (nR, rd, rx, ry, wv, fo), ((grF fi f1 f2 f3 nN), f5), (nP, tp, bt, dp)), (nQ, fu))) H := hP
              refine lv_aload_n hx hb dX7_run_32 rfl (lv_at hl 1 rfl) ?_
              refine va_get (D := D) (ci := 7) (v := .double ((grF fi f1 f2 f3 nN))) (C := RX7) (T := TX7) (N := 31) hx hb hts iX7_run_X7 hown hK hP 0 rfl rfl 23 (by decide) f_68 (fun _ h9 => h9) rfl dX7_run_33 ?_
              refine lv_dconst1 hx hb dX7_run_36 ?_
              refine xc_glt (tgt := 79) hx hb dX7_run_37 dX7_run_38 (by decide) (fun c_37_6 => ?_) (fun c_37_6 => ?_)
              · skip
                have b1 : ¬ inBal (rndI ((nN, px, py, pz, fx, fy, fz, lf, ld, fi), (nB, fr, tt, ln, wi, sg, pu), (nR, rd, rx, ry, wv, fo), (re, dg), (nP, tp, bt, dp)) i) := by unfold inBal; rw [← e2]; exact c_37_6
                refine lv_iconst (v := nI 0) hx hb dX7_run_79 (by decide) ?_
                refine lv_istore_n (lv' := [(3, .int (nI 0)), (2, .int (nI i)), (0, .ref (ad 0)), (1, .int (nI j))]) hx hb dX7_run_80 rfl hl (by decide) rfl (fun ls hl => ?_)
                have L_81_7 : ∀ (n_81 k : Nat) (qx : DF) (qy : DF) (qz : DF), (nN + 1 ≤ k + n_81) → (k ≤ nN) → (qx = gwF px_ f1 fi k) → (qy = gwF py_ f2 fi k) → (qz = gwF pz_ f3 fi k) → ∀ (H : Heap) (locs : List Loc), va_P D vwCl (WM cs ad (((nN, qx, qy, qz, f1, f2, f3, lf, ld, fi), (nB, fr, tt, ln, wi, sg, f4), (nR, rd, rx, ry, wv, fo), ((grF fi f1 f2 f3 nN), f5), (nP, tp, bt, dp)), (nQ, fu))) H → va_S (gA (AM ad) s.heap.size) s.heap H locs → ∀ (ls : Array Slot), lv_has ls 4 [(3, .int (nI k)), (2, .int (nI i)), (0, .ref (ad 0)), (1, .int (nI j))] → W p l e ({ frames := 3, cells := 0, slots := 0, locals := 79 } : Room) s m ([.ref (ad 0), .int (nI j)] : List Value).toArray below meth c H locs 0 0 Q (F0 m 81 ls []) := by
                  intro n_81; induction n_81 with
                  | zero => intro k qx qy qz hf_81 hk hqx hqy hqz H locs hP hS ls hl; exact absurd hf_81 (by omega)
                  | succ n_81 ih_81 =>
                    intro k qx qy qz hf_81 hk hqx hqy hqz H locs hP hS ls hl
                    refine lv_iload_n hx hb dX7_run_81 rfl (lv_at hl 0 rfl) ?_
                    refine lv_aload_n hx hb dX7_run_82 rfl (lv_at hl 2 rfl) ?_
                    refine va_get (D := D) (ci := 7) (v := .int (nI nN)) (C := RX7) (T := TX7) (N := 31) hx hb hts iX7_run_X7 hown hK hP 0 rfl rfl 0 (by decide) f_89 (fun _ h9 => h9) rfl dX7_run_83 ?_
                    refine lv_icmp_ge (tgt := 170) hx hb dX7_run_86 (by decide) (fun c_86_8 => ?_) (fun c_86_8 => ?_)
                    · skip
                      have c_86_8 : nN ≤ k := (nI_leI (a := nN) (b := k) (by omega) (by omega)).mp c_86_8
                      have ek : k = nN := by omega
                      rw [ek] at hqx hqy hqz
                      subst hqx hqy hqz
                      refine lv_iinc (v := nI (i + 1)) (lv' := [(2, .int (nI (i + 1))), (3, .int (nI k)), (0, .ref (ad 0)), (1, .int (nI j))]) hx hb dX7_run_170 hl (k := 1) rfl (nI_add _ _) (by decide) rfl (fun ls hl => ?_)
                      refine lv_goto (tgt := 23) hx hb dX7_run_173 (by decide) ?_
                      exact ih_23 (i + 1) ((gwF px_ f1 fi nN)) ((gwF py_ f2 fi nN)) ((gwF pz_ f3 fi nN)) (f1) (f2) (f3) (f4) (f5) ((grF fi f1 f2 f3 nN)) (by omega) (by omega) e3 (fun k hk => by by_cases q : k = i; (rw [q]; exact b1); exact hno k (by omega)) _ _ hP hS ls (lv_sub hl [0, 2, 3] rfl)
                    · skip
                      have c_86_8 : ¬ (nN ≤ k) := fun q => c_86_8 ((nI_leI (a := nN) (b := k) (by omega) (by omega)).mpr q)
                      refine lv_aload_n hx hb dX7_run_89 rfl (lv_at hl 2 rfl) ?_
                      refine va_get (D := D) (ci := 7) (v := .ref (ad 6)) (C := RX7) (T := TX7) (N := 31) hx hb hts iX7_run_X7 hown hK hP 0 rfl rfl 6 (by decide) f_25 (fun _ h9 => h9) rfl dX7_run_90 ?_
                      refine lv_iload_n hx hb dX7_run_93 rfl (lv_at hl 0 rfl) ?_
                      refine xzl hx hb hK hP 6 2 rfl rfl (j := k) (by decide) (by omega) dX7_run_94 ?_
                      refine lv_if_ne (tgt := 164) hx hb dX7_run_95 (by decide) (fun c_95_9 => ?_) (fun c_95_9 => ?_)
                      · skip
                        refine lv_iinc (v := nI (k + 1)) (lv' := [(3, .int (nI (k + 1))), (2, .int (nI i)), (0, .ref (ad 0)), (1, .int (nI j))]) hx hb dX7_run_164 hl (k := 0) rfl (nI_add _ _) (by decide) rfl (fun ls hl => ?_)
                        refine lv_goto (tgt := 81) hx hb dX7_run_167 (by decide) ?_
                        exact ih_81 (k + 1) (qx) (qy) (qz) (by omega) (by omega) (by rw [gw_n c_95_9, ← hqx]) (by rw [gw_n c_95_9, ← hqy]) (by rw [gw_n c_95_9, ← hqz]) _ _ hP hS ls (lv_sub hl [0, 1, 2, 3] rfl)
                      · skip
                        refine lv_aload_n hx hb dX7_run_98 rfl (lv_at hl 2 rfl) ?_
                        refine va_get (D := D) (ci := 7) (v := .ref (ad 1)) (C := RX7) (T := TX7) (N := 31) hx hb hts iX7_run_X7 hown hK hP 0 rfl rfl 1 (by decide) f_7 (fun _ h9 => h9) rfl dX7_run_99 ?_
                        refine lv_iload_n hx hb dX7_run_102 rfl (lv_at hl 0 rfl) ?_
                        refine lv_aload_n hx hb dX7_run_103 rfl (lv_at hl 2 rfl) ?_
                        refine va_get (D := D) (ci := 7) (v := .ref (ad 1)) (C := RX7) (T := TX7) (N := 31) hx hb hts iX7_run_X7 hown hK hP 0 rfl rfl 1 (by decide) f_7 (fun _ h9 => h9) rfl dX7_run_104 ?_
                        refine lv_iload_n hx hb dX7_run_107 rfl (lv_at hl 0 rfl) ?_
                        refine xdl hx hb hK hP 1 0 rfl rfl (j := k) (by decide) (by omega) dX7_run_108 ?_
                        refine lv_aload_n hx hb dX7_run_109 rfl (lv_at hl 2 rfl) ?_
                        refine va_get (D := D) (ci := 7) (v := .ref (ad 7)) (C := RX7) (T := TX7) (N := 31) hx hb hts iX7_run_X7 hown hK hP 0 rfl rfl 7 (by decide) f_29 (fun _ h9 => h9) rfl dX7_run_110 ?_
                        refine lv_iload_n hx hb dX7_run_113 rfl (lv_at hl 0 rfl) ?_
                        refine xdl hx hb hK hP 7 0 rfl rfl (j := k) (by decide) (by omega) dX7_run_114 ?_
                        refine g0d (va_runS (As := [.double (f1 k)]) (rest := [.double (qx k), .int (nI k), .ref (ad 1)]) ⟨hx, hb, hml, hown, hts⟩ (kX7_moved l D H.size (f1 k) 1940 (k1 _ (by omega)).1 (by decide)) (va_cwS 1 hts gX7_run_X7_moved rfl rfl rfl (by decide +kernel) ⟨Nat.le_of_ble_eq_true rfl, Nat.le_of_ble_eq_true rfl⟩) (gPreS (eT_bl) w0_P (fun _ _ _ => trivial)) rfl rfl hl.1 rfl (lv_room (Nat.le_of_ble_eq_true rfl)) dX7_run_115 ⟨Nat.zero_le _, Nat.zero_le _⟩) hP hS (fun r_ H locs hw hP hS => ?_)
                        have hw : r_ = stepF (f1 k) := hw
                        subst hw
                        refine lv_dadd hx hb dX7_run_118 (by rw [hqx, gw_ge (Nat.le_refl _)]; exact fB_ne (pP_fB (pP_step (hPi _ (by omega)).1 (by omega) (k1 _ (by omega)).1 (by decide)) (by omega)) (by decide)) ?_
                        refine xds hx hb hK hD hP hS 1 0 (((nN, (vf_upd qx k (FP.dadd (qx k) (stepF (f1 k)))), qy, qz, f1, f2, f3, lf, ld, fi), (nB, fr, tt, ln, wi, sg, f4), (nR, rd, rx, ry, wv, fo), ((grF fi f1 f2 f3 nN), f5), (nP, tp, bt, dp)), (nQ, fu)) rfl rfl (j := k) (by decide) (by omega) rfl dX7_run_119 (fun H locs hP hS => ?_)
                        refine lv_aload_n hx hb dX7_run_120 rfl (lv_at hl 2 rfl) ?_
                        refine va_get (D := D) (ci := 7) (v := .ref (ad 2)) (C := RX7) (T := TX7) (N := 31) hx hb hts iX7_run_X7 hown hK hP 0 rfl rfl 2 (by decide) f_13 (fun _ h9 => h9) rfl dX7_run_121 ?_
                        refine lv_iload_n hx hb dX7_run_124 rfl (lv_at hl 0 rfl) ?_
                        refine lv_aload_n hx hb dX7_run_125 rfl (lv_at hl 2 rfl) ?_
                        refine va_get (D := D) (ci := 7) (v := .ref (ad 2)) (C := RX7) (T := TX7) (N := 31) hx hb hts iX7_run_X7 hown hK hP 0 rfl rfl 2 (by decide) f_13 (fun _ h9 => h9) rfl dX7_run_126 ?_
                        refine lv_iload_n hx hb dX7_run_129 rfl (lv_at hl 0 rfl) ?_
                        refine xdl hx hb hK hP 2 0 rfl rfl (j := k) (by decide) (by omega) dX7_run_130 ?_
                        refine lv_aload_n hx hb dX7_run_131 rfl (lv_at hl 2 rfl) ?_
                        refine va_get (D := D) (ci := 7) (v := .ref (ad 8)) (C := RX7) (T := TX7) (N := 31) hx hb hts iX7_run_X7 hown hK hP 0 rfl rfl 8 (by decide) f_32 (fun _ h9 => h9) rfl dX7_run_132 ?_
                        refine lv_iload_n hx hb dX7_run_135 rfl (lv_at hl 0 rfl) ?_
                        refine xdl hx hb hK hP 8 0 rfl rfl (j := k) (by decide) (by omega) dX7_run_136 ?_
                        refine g0d (va_runS (As := [.double (f2 k)]) (rest := [.double (qy k), .int (nI k), .ref (ad 2)]) ⟨hx, hb, hml, hown, hts⟩ (kX7_moved l D H.size (f2 k) 1940 (k2 _ (by omega)).1 (by decide)) (va_cwS 1 hts gX7_run_X7_moved rfl rfl rfl (by decide +kernel) ⟨Nat.le_of_ble_eq_true rfl, Nat.le_of_ble_eq_true rfl⟩) (gPreS (eT_bl) w0_P (fun _ _ _ => trivial)) rfl rfl hl.1 rfl (lv_room (Nat.le_of_ble_eq_true rfl)) dX7_run_137 ⟨Nat.zero_le _, Nat.zero_le _⟩) hP hS (fun r_ H locs hw hP hS => ?_)
                        have hw : r_ = stepF (f2 k) := hw
                        subst hw
                        refine lv_dadd hx hb dX7_run_140 (by rw [hqy, gw_ge (Nat.le_refl _)]; exact fB_ne (pP_fB (pP_step (hPi _ (by omega)).2.1 (by omega) (k2 _ (by omega)).1 (by decide)) (by omega)) (by decide)) ?_
                        refine xds hx hb hK hD hP hS 2 0 (((nN, (vf_upd qx k (FP.dadd (qx k) (stepF (f1 k)))), (vf_upd qy k (FP.dadd (qy k) (stepF (f2 k)))), qz, f1, f2, f3, lf, ld, fi), (nB, fr, tt, ln, wi, sg, f4), (nR, rd, rx, ry, wv, fo), ((grF fi f1 f2 f3 nN), f5), (nP, tp, bt, dp)), (nQ, fu)) rfl rfl (j := k) (by decide) (by omega) rfl dX7_run_141 (fun H locs hP hS => ?_)
                        refine lv_aload_n hx hb dX7_run_142 rfl (lv_at hl 2 rfl) ?_
                        refine va_get (D := D) (ci := 7) (v := .ref (ad 3)) (C := RX7) (T := TX7) (N := 31) hx hb hts iX7_run_X7 hown hK hP 0 rfl rfl 3 (by decide) f_16 (fun _ h9 => h9) rfl dX7_run_143 ?_
                        refine lv_iload_n hx hb dX7_run_146 rfl (lv_at hl 0 rfl) ?_
                        refine lv_aload_n hx hb dX7_run_147 rfl (lv_at hl 2 rfl) ?_
                        refine va_get (D := D) (ci := 7) (v := .ref (ad 3)) (C := RX7) (T := TX7) (N := 31) hx hb hts iX7_run_X7 hown hK hP 0 rfl rfl 3 (by decide) f_16 (fun _ h9 => h9) rfl dX7_run_148 ?_
                        refine lv_iload_n hx hb dX7_run_151 rfl (lv_at hl 0 rfl) ?_
                        refine xdl hx hb hK hP 3 0 rfl rfl (j := k) (by decide) (by omega) dX7_run_152 ?_
                        refine lv_aload_n hx hb dX7_run_153 rfl (lv_at hl 2 rfl) ?_
                        refine va_get (D := D) (ci := 7) (v := .ref (ad 9)) (C := RX7) (T := TX7) (N := 31) hx hb hts iX7_run_X7 hown hK hP 0 rfl rfl 9 (by decide) f_35 (fun _ h9 => h9) rfl dX7_run_154 ?_
                        refine lv_iload_n hx hb dX7_run_157 rfl (lv_at hl 0 rfl) ?_
                        refine xdl hx hb hK hP 9 0 rfl rfl (j := k) (by decide) (by omega) dX7_run_158 ?_
                        refine g0d (va_runS (As := [.double (f3 k)]) (rest := [.double (qz k), .int (nI k), .ref (ad 3)]) ⟨hx, hb, hml, hown, hts⟩ (kX7_moved l D H.size (f3 k) 1940 (k3 _ (by omega)).1 (by decide)) (va_cwS 1 hts gX7_run_X7_moved rfl rfl rfl (by decide +kernel) ⟨Nat.le_of_ble_eq_true rfl, Nat.le_of_ble_eq_true rfl⟩) (gPreS (eT_bl) w0_P (fun _ _ _ => trivial)) rfl rfl hl.1 rfl (lv_room (Nat.le_of_ble_eq_true rfl)) dX7_run_159 ⟨Nat.zero_le _, Nat.zero_le _⟩) hP hS (fun r_ H locs hw hP hS => ?_)
                        have hw : r_ = stepF (f3 k) := hw
                        subst hw
                        refine lv_dadd hx hb dX7_run_162 (by rw [hqz, gw_ge (Nat.le_refl _)]; exact fB_ne (pP_fB (pP_step (hPi _ (by omega)).2.2 (by omega) (k3 _ (by omega)).1 (by decide)) (by omega)) (by decide)) ?_
                        refine xds hx hb hK hD hP hS 3 0 (((nN, (vf_upd qx k (FP.dadd (qx k) (stepF (f1 k)))), (vf_upd qy k (FP.dadd (qy k) (stepF (f2 k)))), (vf_upd qz k (FP.dadd (qz k) (stepF (f3 k)))), f1, f2, f3, lf, ld, fi), (nB, fr, tt, ln, wi, sg, f4), (nR, rd, rx, ry, wv, fo), ((grF fi f1 f2 f3 nN), f5), (nP, tp, bt, dp)), (nQ, fu)) rfl rfl (j := k) (by decide) (by omega) rfl dX7_run_163 (fun H locs hP hS => ?_)
                        refine lv_iinc (v := nI (k + 1)) (lv' := [(3, .int (nI (k + 1))), (2, .int (nI i)), (0, .ref (ad 0)), (1, .int (nI j))]) hx hb dX7_run_164 hl (k := 0) rfl (nI_add _ _) (by decide) rfl (fun ls hl => ?_)
                        refine lv_goto (tgt := 81) hx hb dX7_run_167 (by decide) ?_
                        exact ih_81 (k + 1) ((vf_upd qx k (FP.dadd (qx k) (stepF (f1 k))))) ((vf_upd qy k (FP.dadd (qy k) (stepF (f2 k))))) ((vf_upd qz k (FP.dadd (qz k) (stepF (f3 k))))) (by omega) (by omega) (by rw [gw_p c_95_9, ← hqx]) (by rw [gw_p c_95_9, ← hqy]) (by rw [gw_p c_95_9, ← hqz]) _ _ hP hS ls (lv_sub hl [0, 1, 2, 3] rfl)
                exact L_81_7 (nN + 1) (0) (px_) (py_) (pz_) (by omega) (by omega) rfl rfl rfl _ _ hP hS ls (lv_sub hl [0, 1, 2, 3] rfl)
              · skip
                have b1 : inBal (rndI ((nN, px, py, pz, fx, fy, fz, lf, ld, fi), (nB, fr, tt, ln, wi, sg, pu), (nR, rd, rx, ry, wv, fo), (re, dg), (nP, tp, bt, dp)) i) := by unfold inBal; rw [← e2]; exact c_37_6
                refine lv_aload_n hx hb dX7_run_41 rfl (lv_at hl 1 rfl) ?_
                refine va_get (D := D) (ci := 7) (v := .ref (ad 20)) (C := RX7) (T := TX7) (N := 31) hx hb hts iX7_run_X7 hown hK hP 0 rfl rfl 26 (by decide) f_75 (fun _ h9 => h9) rfl dX7_run_42 ?_
                refine lv_aload_n hx hb dX7_run_45 rfl (lv_at hl 1 rfl) ?_
                refine va_get (D := D) (ci := 7) (v := .int (nI nQ)) (C := RX7) (T := TX7) (N := 31) hx hb hts iX7_run_X7 hown hK hP 0 rfl rfl 25 (by decide) f_173 (fun _ h9 => h9) rfl dX7_run_46 ?_
                refine lv_aload_n hx hb dX7_run_49 rfl (lv_at hl 1 rfl) ?_
                refine va_get (D := D) (ci := 7) (v := .ref (ad 19)) (C := RX7) (T := TX7) (N := 31) hx hb hts iX7_run_X7 hown hK hP 0 rfl rfl 24 (by decide) f_72 (fun _ h9 => h9) rfl dX7_run_50 ?_
                refine lv_iconst (v := nI 0) hx hb dX7_run_53 (by decide) ?_
                refine xdl hx hb hK hP 19 0 rfl rfl (j := 0) (by decide) (by decide) dX7_run_54 ?_
                refine g0d (va_runS (As := [.double (f5 0)]) (rest := [.int (nI nQ), .ref (ad 20)]) ⟨hx, hb, hml, hown, hts⟩ (kX7_size l D H.size (f5 0) 1940 k4 (by decide)) (va_cwS 1 hts gX7_run_X7_size rfl rfl rfl (by decide +kernel) ⟨Nat.le_of_ble_eq_true rfl, Nat.le_of_ble_eq_true rfl⟩) (gPreS (eT_bl) w0_P (fun _ _ _ => trivial)) rfl rfl hl.1 rfl (lv_room (Nat.le_of_ble_eq_true rfl)) dX7_run_55 ⟨Nat.zero_le _, Nat.zero_le _⟩) hP hS (fun r_ H locs hw hP hS => ?_)
                have hw : r_ = sizeF (f5 0) := hw
                subst hw
                refine lv_dconst1 hx hb dX7_run_58 ?_
                refine lv_aload_n hx hb dX7_run_59 rfl (lv_at hl 1 rfl) ?_
                refine lv_iconst (v := nI 1) hx hb dX7_run_60 (by decide) ?_
                refine gcd (va_runV (As := [.int (nI 1)]) (rest := [.double (FP.dconst1), .double (sizeF (f5 0)), .int (nI nQ), .ref (ad 20)]) ⟨hx, hb, hml, hown, hts⟩ (kX7_open l D cs ad hd H.size (((nN, px_, py_, pz_, f1, f2, f3, lf, ld, fi), (nB, fr, tt, ln, wi, sg, f4), (nR, rd, rx, ry, wv, fo), ((grF fi f1 f2 f3 nN), f5), (nP, tp, bt, dp)), (nQ, fu)) hnN hqq (nI 1)) (cwV 1 hts gX7_run_X7_open rfl rfl rfl (by decide +kernel) ⟨Nat.le_of_ble_eq_true rfl, Nat.le_of_ble_eq_true rfl⟩) (gPreV (EM_bl) (va_recv hK hP (ci := 7) (q0 := 0) rfl rfl) hP (fun U _ hW => EM_warm hW hE)) rfl rfl hl.1 rfl (lv_room (Nat.le_of_ble_eq_true rfl)) dX7_run_61 ⟨Nat.zero_le _, Nat.zero_le _⟩) hS (fun r_ u_ H locs hw hP hS => ?_)
                obtain ⟨hw, rfl⟩ := hw
                have hw := open_1 (show ¬ nN = 0 by omega) hw
                have hw : r_ = spF py_ nN := hw
                subst hw
                refine lv_dadd hx hb dX7_run_64 (fB_ne (wide_ok hq1 (show ¬ nN = 0 by omega)).1 (by decide)) ?_
                refine lv_ddiv hx hb dX7_run_65 (fB_ne (fB_div (L := 1023) (size_fB k4 (by decide)) (wide_ok hq1 (show ¬ nN = 0 by omega)).2 (fB_mono (wide_ok hq1 (show ¬ nN = 0 by omega)).1 (by decide)) (by decide) (by decide) (by decide) : fB 1941 _) (by decide)) ?_
                refine xds hx hb hK hD hP hS 20 0 (((nN, px_, py_, pz_, f1, f2, f3, lf, ld, fi), (nB, fr, tt, ln, wi, sg, f4), (nR, rd, rx, ry, wv, fo), ((grF fi f1 f2 f3 nN), f5), (nP, tp, bt, dp)), (nQ, (vf_upd fu nQ (FP.ddiv (sizeF (f5 0)) (FP.dadd (FP.dconst1) (spF py_ nN)))))) rfl rfl (j := nQ) (by decide) (by omega) rfl dX7_run_66 (fun H locs hP hS => ?_)
                refine lv_aload_n hx hb dX7_run_67 rfl (lv_at hl 1 rfl) ?_
                refine lv_dup hx hb dX7_run_68 rfl ?_
                refine va_get (D := D) (ci := 7) (v := .int (nI nQ)) (C := RX7) (T := TX7) (N := 31) hx hb hts iX7_run_X7 hown hK hP 0 rfl rfl 25 (by decide) f_173 (fun _ h9 => h9) rfl dX7_run_69 ?_
                refine lv_iconst (v := nI 1) hx hb dX7_run_72 (by decide) ?_
                refine xia hx hb (nQ + 1) dX7_run_73 rfl ?_
                refine xput (D := D) (ci := 7) (v := .int (nI (nQ + 1))) (ty := .int) (C := RX7) (T := TX7) (N := 31) hx hb hts iX7_run_X7 tyX7 tyX7_ok nmX7 hown hK hD hP hS 0 (((nN, px_, py_, pz_, f1, f2, f3, lf, ld, fi), (nB, fr, tt, ln, wi, sg, f4), (nR, rd, rx, ry, wv, fo), ((grF fi f1 f2 f3 nN), f5), (nP, tp, bt, dp)), ((nQ + 1), (vf_upd fu nQ (FP.ddiv (sizeF (f5 0)) (FP.dadd (FP.dconst1) (spF py_ nN)))))) rfl rfl 25 (by decide) f_173 (fun _ h9 => h9) rfl (by decide +kernel) rfl rfl (Nat.le_of_ble_eq_true rfl) rfl dX7_run_74 (fun H locs hP hS => ?_)
                refine lv_iload_n hx hb dX7_run_77 rfl (lv_at hl 0 rfl) ?_
                exact hret hS hP dX7_run_78 (⟨some (FP.ddiv (sizeF (f5 0)) (FP.dadd FP.dconst1 (spF py_ nN))), Or.inl ⟨j, hj1, hj2, rfl, c_16_3, Or.inl ⟨i, by omega, hno, b1, rfl, e2, e4⟩⟩, rfl⟩)
        exact L_23_4 (j + 1) (0) (px) (py) (pz) (fx) (fy) (fz) (pu) (dg) (re) (by omega) (by omega) rfl (fun k hk => absurd hk (by omega)) _ _ hP hS ls (lv_sub hl [0, 1, 2] rfl)
      · skip
        have c_16_3 : nN = 0 := (nI_eq (a := nN) (b := 0) (by omega) (by omega)).mp c_16_3
        refine lv_iconst (v := (-1 : Int32)) hx hb dX7_run_19 (by decide) ?_
        exact hret hS hP dX7_run_20 (⟨none, Or.inr ⟨fun q => q.2 c_16_3, rfl, rfl, rfl⟩, rfl⟩)
