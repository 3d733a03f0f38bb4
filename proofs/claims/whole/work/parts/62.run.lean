/-! runs -/
theorem size_fB {f : UInt64} {K : Nat} (h : fB K f) (hK : 1 ≤ K) : fB K (sizeF f) := by
  by_cases c : f = 9223372036854775808
  · subst c
    unfold sizeF
    rw [if_neg (by decide +kernel)]
    exact h
  · exact (size_ok h c).1
section CMPX
variable {p : Program} {l : Launch} {e : Env} {R : Room} {s : State} {m : MethodId} {args : Array Value} {below : List Frame} {meth : Method} {c : Code} {H : Heap} {locs : List Loc} {cells slots : Nat} {Q : State → Prop}
variable {cc : ByteArray} {pc : Nat} {ls : Array Slot} {rest : List Value}
theorem xc_glp (hexec : p.tables.exec = Jvm.exec) (hb : c.code = cc) {x y : UInt64} {off : Int} {tgt : Nat} (hdg : decode cc pc = .ok (.dcmp .g, 1)) (hdg2 : decode cc (pc + 1) = .ok (.ifCond .lt off, 3)) (ht : ((pc + 1 : Nat) : Int) + off = (tgt : Int)) (kt : dlt x y → W p l e R s m args below meth c H locs cells slots Q (F0 m tgt ls rest)) (kf : ¬ dlt x y → W p l e R s m args below meth c H locs cells slots Q (F0 m (pc + 4) ls rest)) : W p l e R s m args below meth c H locs cells slots Q (F0 m pc ls (.double y :: .double x :: rest)) := by
  refine lv_dcmp hexec hb hdg (lv_if_lt (tgt := tgt) hexec hb hdg2 ht (fun h => kt ?_) (fun h => kf (fun q => ?_)))
  · show dlt x y
    unfold dlt
    rcases hq : FP.dcmp x y with _ | (_ | _ | _) <;> rw [hq] at h <;> first | (exact absurd h (by decide)) | simp
  · rw [show FP.dcmp x y = some .lt from q] at h; exact absurd (by decide) h
end CMPX
theorem dle_of {a b : UInt64} (na : nn a) (nb : nn b) (h : ¬ dlt a b) : dle b a := by
  have sw := FP.Core.dcmp_swap a b
  rcases dcmp_3 na nb with q | q | q
  · exact absurd q h
  · exact Or.inr (by rw [show FP.dcmp b a = FP.Core.dcmp b a from rfl, sw, show FP.Core.dcmp a b = some .eq from q]; rfl)
  · exact Or.inl (by rw [show FP.dcmp b a = FP.Core.dcmp b a from rfl, sw, show FP.Core.dcmp a b = some .gt from q]; rfl)
theorem dlt_no {a b : UInt64} (h : dlt a b) : ¬ dlt b a := fun q => by
  have h1 : zv a < zv b := (FP.Core.dcmp_lt.mp h).2.2
  have h2 : zv b < zv a := (FP.Core.dcmp_lt.mp q).2.2
  omega
theorem szz {x : UInt64} {K : Nat} (h : fOK K x) (hK : K ≤ 2046) : zOK (sizeF x) := fOK_z ⟨(size_ok h.1 h.2).1, (size_ok h.1 h.2).2⟩ hK
theorem mxz {a b : UInt64} (ha : zOK a) (hb : zOK b) : zOK (maxF a b) := (maxF_key ha hb).1
/-- the rows as the reference reads them -/
theorem rd_lo {rd rx ry f : DF} {n i : Nat} {d : UInt64} (hr : rowsOK n rd rx ry) (hi : i < n) (hle : ∀ k, 1 ≤ k → k ≤ i → dle (rd k) d) (c : dlt d (rd 0)) : f i = spB rd f n d (cF rd d n) := by
  have e : i = 0 := by
    refine Nat.eq_zero_of_not_pos fun h => ?_
    exact dlt_no c (dlt_trans (hr.1 0 i h hi) (hle i h (Nat.le_refl _)))
  have hC : isC rd d n 0 := ⟨Nat.zero_le _, fun k hk => absurd hk (by omega), fun _ q => by
    have h1 : zv d < zv (rd 0) := (FP.Core.dcmp_lt.mp c).2.2
    have h2 : zv (rd 0) ≤ zv d := (FP.Core.dcmp_le.mp q).2.2
    omega⟩
  rw [isC_uniq (cF_isC rd d n) hC, spB_1 (by omega), e]
theorem rd_C {rd rx ry : DF} {n i : Nat} {d : UInt64} (hr : rowsOK n rd rx ry) (hd : fB 1042 d) (hi : i < n) (hle : ∀ k, 1 ≤ k → k ≤ i → dle (rd k) d) (c : ¬ dlt d (rd 0)) (hx : i + 1 < n → ¬ dle (rd (i + 1)) d) : cF rd d n = i + 1 := by
  have h0 : dle (rd 0) d := dle_of (fB_nn hd (by decide)) (fB_nn (hr.2 0 (by omega)).2.1 (by decide)) c
  refine isC_uniq (cF_isC rd d n) ⟨by omega, fun k hk => ?_, hx⟩
  rcases Nat.eq_zero_or_pos k with q | q
  · rw [q]; exact h0
  · exact hle k q (by omega)
theorem iX6_run_X0 : ∀ w ∈ u_ws RX0 TX0 7, w ∈ wsX6_run := by decide +kernel
theorem iX6_run_X3 : ∀ w ∈ u_ws RX3 TX3 6, w ∈ wsX6_run := by decide +kernel
theorem iX6_run_X6 : ∀ w ∈ u_ws RX6 TX6 6, w ∈ wsX6_run := by decide +kernel
set_option maxHeartbeats 4000000 in
set_option maxRecDepth 100000 in
theorem kX6_run (l : Launch) (D : va_G) (cs : Nat → ClassId) (ad : Nat → Nat) (hd : distX ad) (sz : Nat) (S : XS) (hE0 : envOK S.1) (M_ : Nat) (hM : M_ + 301 < 262144) (hpl : plOK M_ S.1) (hkn : S.2.2.2.2.2.1 < 20) (hkc : S.2.2.2.2.1 ≤ 20) (n : Int32) : Met l yX6_run wsX6_run ({ frames := 5, cells := 0, slots := 0, locals := 132 } : Room) (gP D (WX cs ad) (EX D cs) S sz ([.ref (ad 0), .int (n)] : List Value)) (va_Qi (fun r u => ∃ o, q_run S.1 n r u.1 o ∧ u.2.2.2 = kpO o S.2.2.2) (gB D (WX cs ad)) (gA (AX ad) sz)) 0 0 (gA (AX ad) sz) := by
  obtain ⟨⟨⟨nN, px, py, pz, fx, fy, fz, lf, ld, fi⟩, ⟨nB, fr, tt, ln, wi, sg, pu⟩, ⟨nR, rd, rx, ry, wv, fo⟩, ⟨re, dg⟩, ⟨nP, tp, bt, dp⟩⟩, ⟨sp, ac, kp, kc, kn, aw, dw, su, ss, sd⟩⟩ := S
  have hpl00 := hpl
  have hE00 := hE0
  obtain ⟨hnN, hnB, -⟩ := hE0
  have hkn : kn < 20 := hkn
  have hkc : kc ≤ 20 := hkc
  refine gMi (cc := cX6_run) (maxL := 3) (plainFor_of_name (by decide)) rfl (Nat.le_of_ble_eq_true rfl) ?_
  intro p e s m below meth c Q hx hb hts hown hml hsz hE hret H locs hP hS ls hl
  subst hsz
  have hown : s.vm.findClass RX6 = some m.cls := hown
  have hK : va_K D vwCl (tysX cs) s := hE.1
  have hD : ∀ u, va_D (gA (AX ad) s.heap.size) (WX cs ad u) := fun u => WX_D hd u
  have hl : lv_has ls 3 [(0, .ref (ad 0)), (1, .int (n))] := hl
  have f_10 := hts (.fieldLink RX6 10 "NetShapes" "nodes" "LNetShapes$Nodes;") (by decide +kernel)
  have f_35 := hts (.fieldLink RX6 35 "NetShapes" "balance" "LNetShapes$Balance;") (by decide +kernel)
  have f_42 := hts (.fieldLink RX6 42 "NetShapes" "fuels" "LNetShapes$Fuels;") (by decide +kernel)
  have f_53 := hts (.fieldLink RX6 53 "NetShapes$Nodes" "count" "I") (by decide +kernel)
  have f_112 := hts (.fieldLink RX6 112 "NetShapes$Balance" "drags" "[D") (by decide +kernel)
  refine lv_iload_n hx hb dX6_run_0 rfl (lv_at hl 1 rfl) ?_
  refine lv_iconst (v := nI 1) hx hb dX6_run_1 (by decide) ?_
  refine lv_icmp_lt (tgt := 22) hx hb dX6_run_2 (by decide) (fun c_2_1 => ?_) (fun c_2_1 => ?_)
  · skip
    refine lv_iconst (v := (-1 : Int32)) hx hb dX6_run_22 (by decide) ?_
    exact hret hS hP dX6_run_23 (⟨none, Or.inr ⟨fun q => inW_lo (by decide) c_2_1 q.1, rfl, rfl, rfl⟩, rfl⟩)
  · skip
    refine lv_iload_n hx hb dX6_run_5 rfl (lv_at hl 1 rfl) ?_
    refine lv_sipush (v := nI 300) hx hb dX6_run_6 (by decide) ?_
    refine lv_icmp_gt (tgt := 22) hx hb dX6_run_9 (by decide) (fun c_9_2 => ?_) (fun c_9_2 => ?_)
    · skip
      refine lv_iconst (v := (-1 : Int32)) hx hb dX6_run_22 (by decide) ?_
      exact hret hS hP dX6_run_23 (⟨none, Or.inr ⟨fun q => inW_hi (by decide) c_9_2 q.1, rfl, rfl, rfl⟩, rfl⟩)
    · skip
      obtain ⟨j, hj1, hj2, rfl⟩ := inW_of (by decide) c_2_1 c_9_2
      refine lv_aload_n hx hb dX6_run_12 rfl (lv_at hl 0 rfl) ?_
      refine va_get (D := D) (ci := 6) (v := .ref (ad 1)) (C := RX6) (T := TX6) (N := 6) hx hb hts iX6_run_X6 hown hK hP 0 rfl rfl 0 (by decide) f_10 (fun _ h9 => h9) rfl dX6_run_13 ?_
      refine va_get (D := D) (ci := 3) (v := .int (nI nN)) (C := RX3) (T := TX3) (N := 6) hx hb hts iX6_run_X3 hown hK hP 1 rfl rfl 5 (by decide) f_53 (fun _ h9 => h9) rfl dX6_run_16 ?_
      refine lv_if_ne (tgt := 24) hx hb dX6_run_19 (by decide) (fun c_19_3 => ?_) (fun c_19_3 => ?_)
      · skip
        have c_19_3 : ¬ (nN = 0) := fun q => c_19_3 ((nI_eq (a := nN) (b := 0) (by omega) (by omega)).mpr q)
        refine lv_iconst (v := nI 0) hx hb dX6_run_24 (by decide) ?_
        refine lv_istore_n (lv' := [(2, .int (nI 0)), (0, .ref (ad 0)), (1, .int (nI j))]) hx hb dX6_run_25 rfl hl (by decide) rfl (fun ls hl => ?_)
        have L_26_4 : ∀ (n_26 i : Nat) (px_ : DF) (py_ : DF) (pz_ : DF) (fx_ : DF) (fy_ : DF) (fz_ : DF) (pu_ : DF) (dg_ : DF) (sp_ : DF) (ac_ : DF) (re_ : UInt64), (j + 1 ≤ i + n_26) → (i ≤ j) → (((nN, px_, py_, pz_, fx_, fy_, fz_, lf, ld, fi), (nB, fr, tt, ln, wi, sg, pu_), (nR, rd, rx, ry, wv, fo), (re_, dg_), (nP, tp, bt, dp)) = rndI ((nN, px, py, pz, fx, fy, fz, lf, ld, fi), (nB, fr, tt, ln, wi, sg, pu), (nR, rd, rx, ry, wv, fo), (re, dg), (nP, tp, bt, dp)) i) → (∀ k, k < i → ¬ inBal (rndI ((nN, px, py, pz, fx, fy, fz, lf, ld, fi), (nB, fr, tt, ln, wi, sg, pu), (nR, rd, rx, ry, wv, fo), (re, dg), (nP, tp, bt, dp)) k)) → ∀ (H : Heap) (locs : List Loc), va_P D vwCl (WX cs ad (((nN, px_, py_, pz_, fx_, fy_, fz_, lf, ld, fi), (nB, fr, tt, ln, wi, sg, pu_), (nR, rd, rx, ry, wv, fo), (re_, dg_), (nP, tp, bt, dp)), (sp_, ac_, kp, kc, kn, aw, dw, su, ss, sd))) H → va_S (gA (AX ad) s.heap.size) s.heap H locs → ∀ (ls : Array Slot), lv_has ls 3 [(2, .int (nI i)), (0, .ref (ad 0)), (1, .int (nI j))] → W p l e ({ frames := 5, cells := 0, slots := 0, locals := 132 } : Room) s m ([.ref (ad 0), .int (nI j)] : List Value).toArray below meth c H locs 0 0 Q (F0 m 26 ls []) := by
          intro n_26; induction n_26 with
          | zero => intro i px_ py_ pz_ fx_ fy_ fz_ pu_ dg_ sp_ ac_ re_ hf_26 hi hG hno H locs hP hS ls hl; exact absurd hf_26 (by omega)
          | succ n_26 ih_26 =>
            intro i px_ py_ pz_ fx_ fy_ fz_ pu_ dg_ sp_ ac_ re_ hf_26 hi hG hno H locs hP hS ls hl
            have hRi : envOK (rndI ((nN, px, py, pz, fx, fy, fz, lf, ld, fi), (nB, fr, tt, ln, wi, sg, pu), (nR, rd, rx, ry, wv, fo), (re, dg), (nP, tp, bt, dp)) i) ∧ plOK (M_ + i) (rndI ((nN, px, py, pz, fx, fy, fz, lf, ld, fi), (nB, fr, tt, ln, wi, sg, pu), (nR, rd, rx, ry, wv, fo), (re, dg), (nP, tp, bt, dp)) i) := rnd_ok (G := ((nN, px, py, pz, fx, fy, fz, lf, ld, fi), (nB, fr, tt, ln, wi, sg, pu), (nR, rd, rx, ry, wv, fo), (re, dg), (nP, tp, bt, dp))) hE00 hpl00 i (by omega)
            rw [← hG] at hRi
            obtain ⟨hEi, hPi⟩ := hRi
            have hPi : ∀ j, j < nN → pP (M_ + i) (px_ j) ∧ pP (M_ + i) (py_ j) ∧ pP (M_ + i) (pz_ j) := hPi
            have hq1 : ∀ j, j < nN → pOK (py_ j) := fun j hj => pP_pOK (hPi j hj).2.1 (by omega)
            have hqq : posOK nN px_ py_ pz_ := fun j hj => ⟨pP_pOK (hPi j hj).1 (by omega), pP_pOK (hPi j hj).2.1 (by omega), pP_pOK (hPi j hj).2.2 (by omega)⟩
            refine lv_iload_n hx hb dX6_run_26 rfl (lv_at hl 0 rfl) ?_
            refine lv_iload_n hx hb dX6_run_27 rfl (lv_at hl 2 rfl) ?_
            refine lv_icmp_ge (tgt := 79) hx hb dX6_run_28 (by decide) (fun c_28_5 => ?_) (fun c_28_5 => ?_)
            · skip
              have c_28_5 : j ≤ i := (nI_leI (a := j) (b := i) (by omega) (by omega)).mp c_28_5
              refine lv_iconst (v := (-1 : Int32)) hx hb dX6_run_79 (by decide) ?_
              exact hret hS hP dX6_run_80 (⟨none, Or.inl ⟨j, hj1, hj2, rfl, c_19_3, Or.inr ⟨fun k hk => hno k (by omega), rfl, (by rw [show i = j by omega] at hG; exact hG), rfl⟩⟩, rfl⟩)
            · skip
              have c_28_5 : ¬ (j ≤ i) := fun q => c_28_5 ((nI_leI (a := j) (b := i) (by omega) (by omega)).mpr q)
              refine lv_aload_n hx hb dX6_run_31 rfl (lv_at hl 1 rfl) ?_
              refine va_get (D := D) (ci := 6) (v := .ref (ad 4)) (C := RX6) (T := TX6) (N := 6) hx hb hts iX6_run_X6 hown hK hP 0 rfl rfl 3 (by decide) f_35 (fun _ h9 => h9) rfl dX6_run_32 ?_
              refine gci (va_runV (As := []) (rest := []) ⟨hx, hb, hml, hown, hts⟩ (kX0_comesInRound l D cs ad hd H.size (((nN, px_, py_, pz_, fx_, fy_, fz_, lf, ld, fi), (nB, fr, tt, ln, wi, sg, pu_), (nR, rd, rx, ry, wv, fo), (re_, dg_), (nP, tp, bt, dp)), (sp_, ac_, kp, kc, kn, aw, dw, su, ss, sd)) hEi (M_ + i) (by omega) hPi) (cwV 0 hts gX6_run_X0_comesInRound rfl rfl rfl (by decide +kernel) ⟨Nat.le_of_ble_eq_true rfl, Nat.le_of_ble_eq_true rfl⟩) (gPreV (EX_bl) (va_recv hK hP (ci := 0) (q0 := 4) rfl rfl) hP (fun U _ hW => EX_warm hW hE)) rfl rfl hl.1 rfl (lv_room (Nat.le_of_ble_eq_true rfl)) dX6_run_35 ⟨Nat.zero_le _, Nat.zero_le _⟩) hS (fun r_ u_ H locs hw hP hS => ?_)
              obtain ⟨uG, usp, uac, uk⟩ := u_
              obtain ⟨hw, ek⟩ := hw
              have ek : uk = (kp, kc, kn, aw, dw, su, ss, sd) := ek
              subst ek
              have hB5 : frOK 1940 nN (barsI ((nN, px_, py_, pz_, fx_, fy_, fz_, lf, ld, fi), (nB, fr, tt, ln, wi, sg, pu_), (nR, rd, rx, ry, wv, fo), (re_, dg_), (nP, tp, bt, dp)) nB) := all_ok (G := ((nN, px_, py_, pz_, fx_, fy_, fz_, lf, ld, fi), (nB, fr, tt, ln, wi, sg, pu_), (nR, rd, rx, ry, wv, fo), (re_, dg_), (nP, tp, bt, dp))) hEi hPi (by omega)
              obtain ⟨⟨f1, f2, f3, f4, f5⟩, hFS⟩ : ∃ F : FS, F = barsI ((nN, px_, py_, pz_, fx_, fy_, fz_, lf, ld, fi), (nB, fr, tt, ln, wi, sg, pu_), (nR, rd, rx, ry, wv, fo), (re_, dg_), (nP, tp, bt, dp)) nB := ⟨_, rfl⟩
              have e1 : ((nN, px_, py_, pz_, f1, f2, f3, lf, ld, fi), (nB, fr, tt, ln, wi, sg, f4), (nR, rd, rx, ry, wv, fo), ((grF fi f1 f2 f3 nN), f5), (nP, tp, bt, dp)) = forcesG ((nN, px_, py_, pz_, fx_, fy_, fz_, lf, ld, fi), (nB, fr, tt, ln, wi, sg, pu_), (nR, rd, rx, ry, wv, fo), (re_, dg_), (nP, tp, bt, dp)) := by show _ = balG ((nN, px_, py_, pz_, fx_, fy_, fz_, lf, ld, fi), (nB, fr, tt, ln, wi, sg, pu_), (nR, rd, rx, ry, wv, fo), (re_, dg_), (nP, tp, bt, dp)) (barsI ((nN, px_, py_, pz_, fx_, fy_, fz_, lf, ld, fi), (nB, fr, tt, ln, wi, sg, pu_), (nR, rd, rx, ry, wv, fo), (re_, dg_), (nP, tp, bt, dp)) nB); rw [← hFS]; rfl
              have e2 : ((nN, px_, py_, pz_, f1, f2, f3, lf, ld, fi), (nB, fr, tt, ln, wi, sg, f4), (nR, rd, rx, ry, wv, fo), ((grF fi f1 f2 f3 nN), f5), (nP, tp, bt, dp)) = forcesG (rndI ((nN, px, py, pz, fx, fy, fz, lf, ld, fi), (nB, fr, tt, ln, wi, sg, pu), (nR, rd, rx, ry, wv, fo), (re, dg), (nP, tp, bt, dp)) i) := by rw [← hG]; exact e1
              have e3 : ((nN, (gwF px_ f1 fi nN), (gwF py_ f2 fi nN), (gwF pz_ f3 fi nN), f1, f2, f3, lf, ld, fi), (nB, fr, tt, ln, wi, sg, f4), (nR, rd, rx, ry, wv, fo), ((grF fi f1 f2 f3 nN), f5), (nP, tp, bt, dp)) = rndI ((nN, px, py, pz, fx, fy, fz, lf, ld, fi), (nB, fr, tt, ln, wi, sg, pu), (nR, rd, rx, ry, wv, fo), (re, dg), (nP, tp, bt, dp)) (i + 1) := by show moveG ((nN, px_, py_, pz_, f1, f2, f3, lf, ld, fi), (nB, fr, tt, ln, wi, sg, f4), (nR, rd, rx, ry, wv, fo), ((grF fi f1 f2 f3 nN), f5), (nP, tp, bt, dp)) = moveG (forcesG (rndI ((nN, px, py, pz, fx, fy, fz, lf, ld, fi), (nB, fr, tt, ln, wi, sg, pu), (nR, rd, rx, ry, wv, fo), (re, dg), (nP, tp, bt, dp)) i)); rw [← e2]
              have e4 : some (FP.ddiv (sizeF (f5 0)) (FP.dadd FP.dconst1 (spF py_ nN))) = some (fuF (forcesG (rndI ((nN, px, py, pz, fx, fy, fz, lf, ld, fi), (nB, fr, tt, ln, wi, sg, pu), (nR, rd, rx, ry, wv, fo), (re, dg), (nP, tp, bt, dp)) i))) := by rw [← e2]; rfl
              rw [← hFS] at hB5
              obtain ⟨k1, k2, k3, k4, -⟩ := hB5
              rcases hw with ⟨rfl, hb1, hw⟩ | ⟨rfl, hb1, hw⟩
              · skip
                have b1 : inBal (rndI ((nN, px, py, pz, fx, fy, fz, lf, ld, fi), (nB, fr, tt, ln, wi, sg, pu), (nR, rd, rx, ry, wv, fo), (re, dg), (nP, tp, bt, dp)) i) := by rw [← hG]; exact hb1
                have hw : uG = forcesG ((nN, px_, py_, pz_, fx_, fy_, fz_, lf, ld, fi), (nB, fr, tt, ln, wi, sg, pu_), (nR, rd, rx, ry, wv, fo), (re_, dg_), (nP, tp, bt, dp)) := hw
                rw [← e1] at hw
                subst hw
                have hP : va_P D vwCl (WX cs ad (((nN, px_, py_, pz_, f1, f2, f3, lf, ld, fi), (nB, fr, tt, ln, wi, sg, f4), (nR, rd, rx, ry, wv, fo), ((grF fi f1 f2 f3 nN), f5), (nP, tp, bt, dp)), (usp, uac, kp, kc, kn, aw, dw, su, ss, sd))) H := hP
                refine lv_if_eq (tgt := 73) hx hb dX6_run_38 (by decide) (fun c_38_6 => absurd c_38_6 (by decide)) (fun _ => ?_)
                refine lv_aload_n hx hb dX6_run_41 rfl (lv_at hl 1 rfl) ?_
                refine va_get (D := D) (ci := 6) (v := .ref (ad 5)) (C := RX6) (T := TX6) (N := 6) hx hb hts iX6_run_X6 hown hK hP 0 rfl rfl 4 (by decide) f_42 (fun _ h9 => h9) rfl dX6_run_42 ?_
                refine lv_aload_n hx hb dX6_run_45 rfl (lv_at hl 1 rfl) ?_
                refine va_get (D := D) (ci := 6) (v := .ref (ad 4)) (C := RX6) (T := TX6) (N := 6) hx hb hts iX6_run_X6 hown hK hP 0 rfl rfl 3 (by decide) f_35 (fun _ h9 => h9) rfl dX6_run_46 ?_
                refine va_get (D := D) (ci := 0) (v := .ref (ad 21)) (C := RX0) (T := TX0) (N := 7) hx hb hts iX6_run_X0 hown hK hP 4 rfl rfl 3 (by decide) f_112 (fun _ h9 => h9) rfl dX6_run_49 ?_
                refine lv_iconst (v := nI 0) hx hb dX6_run_52 (by decide) ?_
                refine xdl hx hb hK hP 21 0 rfl rfl (j := 0) (by decide) (by decide) dX6_run_53 ?_
                refine g0d (va_runS (As := [.double (f5 0)]) (rest := [.ref (ad 5)]) ⟨hx, hb, hml, hown, hts⟩ (kX6_size l D H.size (f5 0)) (va_cwS 1 hts gX6_run_X6_size rfl rfl rfl (by decide +kernel) ⟨Nat.le_of_ble_eq_true rfl, Nat.le_of_ble_eq_true rfl⟩) (gPreS (eT_bl) w0_P (fun _ _ _ => trivial)) rfl rfl hl.1 rfl (lv_room (Nat.le_of_ble_eq_true rfl)) dX6_run_54 ⟨Nat.zero_le _, Nat.zero_le _⟩) hP hS (fun r_ H locs hw hP hS => ?_)
                have hw : r_ = sizeF (f5 0) := hw
                subst hw
                refine lv_dconst1 hx hb dX6_run_57 ?_
                refine lv_aload_n hx hb dX6_run_58 rfl (lv_at hl 1 rfl) ?_
                refine va_get (D := D) (ci := 6) (v := .ref (ad 1)) (C := RX6) (T := TX6) (N := 6) hx hb hts iX6_run_X6 hown hK hP 0 rfl rfl 0 (by decide) f_10 (fun _ h9 => h9) rfl dX6_run_59 ?_
                refine lv_iconst (v := nI 1) hx hb dX6_run_62 (by decide) ?_
                refine gcd (va_runV (As := [.int (nI 1)]) (rest := [.double (FP.dconst1), .double (sizeF (f5 0)), .ref (ad 5)]) ⟨hx, hb, hml, hown, hts⟩ (kX3_spread_1 l D cs ad hd H.size (((nN, px_, py_, pz_, f1, f2, f3, lf, ld, fi), (nB, fr, tt, ln, wi, sg, f4), (nR, rd, rx, ry, wv, fo), ((grF fi f1 f2 f3 nN), f5), (nP, tp, bt, dp)), (usp, uac, kp, kc, kn, aw, dw, su, ss, sd)) hnN (show ¬ nN = 0 by omega) hqq) (cwV 1 hts gX6_run_X3_spread rfl rfl rfl (by decide +kernel) ⟨Nat.le_of_ble_eq_true rfl, Nat.le_of_ble_eq_true rfl⟩) (gPreV (EX_bl) (va_recv hK hP (ci := 3) (q0 := 1) rfl rfl) hP (fun U _ hW => EX_warm hW hE)) rfl rfl hl.1 rfl (lv_room (Nat.le_of_ble_eq_true rfl)) dX6_run_63 ⟨Nat.zero_le _, Nat.zero_le _⟩) hS (fun r_ u_ H locs hw hP hS => ?_)
                obtain ⟨rfl, hw⟩ := hw
                have hw : r_ = spF py_ nN := hw
                subst hw
                have h_8 : fB (1043) (FP.dadd (FP.dconst1) (spF py_ nN)) := fB_add (M := 1041) fB_c1 (sp_n hq1 (k := nN - 1) (by omega)) (by omega) (by omega) (by omega)
                refine lv_dadd hx hb dX6_run_66 (fB_ne h_8 (by omega)) ?_
                have h_10 : fB (1941) (FP.ddiv (sizeF (f5 0)) (FP.dadd (FP.dconst1) (spF py_ nN))) := fB_div (size_fB k4 (by decide)) (wide_ok hq1 (show ¬ nN = 0 by omega)).2 (fB_mono h_8 (by omega)) (by omega) (by omega) (by omega)
                refine lv_ddiv hx hb dX6_run_67 (fB_ne h_10 (by omega)) ?_
                refine gcv (va_runV (As := [.double (FP.ddiv (sizeF (f5 0)) (FP.dadd (FP.dconst1) (spF py_ nN)))]) (rest := []) ⟨hx, hb, hml, hown, hts⟩ (kX2_add l D cs ad hd H.size (((nN, px_, py_, pz_, f1, f2, f3, lf, ld, fi), (nB, fr, tt, ln, wi, sg, f4), (nR, rd, rx, ry, wv, fo), ((grF fi f1 f2 f3 nN), f5), (nP, tp, bt, dp)), (usp, uac, kp, kc, kn, aw, dw, su, ss, sd)) hkn hkc (FP.ddiv (sizeF (f5 0)) (FP.dadd (FP.dconst1) (spF py_ nN)))) (cwV 1 hts gX6_run_X2_add rfl rfl rfl (by decide +kernel) ⟨Nat.le_of_ble_eq_true rfl, Nat.le_of_ble_eq_true rfl⟩) (gPreV (EX_bl) (va_recv hK hP (ci := 2) (q0 := 5) rfl rfl) hP (fun U _ hW => EX_warm hW hE)) rfl rfl hl.1 rfl (lv_room (Nat.le_of_ble_eq_true rfl)) dX6_run_68 ⟨Nat.zero_le _, Nat.zero_le _⟩) hS (fun u_ H locs hw hP hS => ?_)
                obtain rfl := hw
                have hP : va_P D vwCl (WX cs ad (((nN, px_, py_, pz_, f1, f2, f3, lf, ld, fi), (nB, fr, tt, ln, wi, sg, f4), (nR, rd, rx, ry, wv, fo), ((grF fi f1 f2 f3 nN), f5), (nP, tp, bt, dp)), (usp, uac, (vf_upd kp kn (FP.ddiv (sizeF (f5 0)) (FP.dadd (FP.dconst1) (spF py_ nN)))), (min (kc + 1) 20), ((kn + 1) % 20), aw, dw, su, ss, sd))) H := hP
                refine lv_iload_n hx hb dX6_run_71 rfl (lv_at hl 0 rfl) ?_
                exact hret hS hP dX6_run_72 (⟨some (FP.ddiv (sizeF (f5 0)) (FP.dadd FP.dconst1 (spF py_ nN))), Or.inl ⟨j, hj1, hj2, rfl, c_19_3, Or.inl ⟨i, by omega, hno, b1, rfl, e2, e4⟩⟩, rfl⟩)
              · skip
                have b1 : ¬ inBal (rndI ((nN, px, py, pz, fx, fy, fz, lf, ld, fi), (nB, fr, tt, ln, wi, sg, pu), (nR, rd, rx, ry, wv, fo), (re, dg), (nP, tp, bt, dp)) i) := by rw [← hG]; exact hb1
                have hw : uG = moveG (forcesG ((nN, px_, py_, pz_, fx_, fy_, fz_, lf, ld, fi), (nB, fr, tt, ln, wi, sg, pu_), (nR, rd, rx, ry, wv, fo), (re_, dg_), (nP, tp, bt, dp))) := hw
                rw [← e1] at hw
                have hw : uG = ((nN, (gwF px_ f1 fi nN), (gwF py_ f2 fi nN), (gwF pz_ f3 fi nN), f1, f2, f3, lf, ld, fi), (nB, fr, tt, ln, wi, sg, f4), (nR, rd, rx, ry, wv, fo), ((grF fi f1 f2 f3 nN), f5), (nP, tp, bt, dp)) := hw
                subst hw
                have hP : va_P D vwCl (WX cs ad (((nN, (gwF px_ f1 fi nN), (gwF py_ f2 fi nN), (gwF pz_ f3 fi nN), f1, f2, f3, lf, ld, fi), (nB, fr, tt, ln, wi, sg, f4), (nR, rd, rx, ry, wv, fo), ((grF fi f1 f2 f3 nN), f5), (nP, tp, bt, dp)), (usp, uac, kp, kc, kn, aw, dw, su, ss, sd))) H := hP
                refine lv_if_eq (tgt := 73) hx hb dX6_run_38 (by decide) (fun _ => ?_) (fun c_38_11 => absurd c_38_11 (by decide))
                refine lv_iinc (v := nI (i + 1)) (lv' := [(2, .int (nI (i + 1))), (0, .ref (ad 0)), (1, .int (nI j))]) hx hb dX6_run_73 hl (k := 0) rfl (nI_add _ _) (by decide) rfl (fun ls hl => ?_)
                refine lv_goto (tgt := 26) hx hb dX6_run_76 (by decide) ?_
                exact ih_26 (i + 1) ((gwF px_ f1 fi nN)) ((gwF py_ f2 fi nN)) ((gwF pz_ f3 fi nN)) (f1) (f2) (f3) (f4) (f5) (usp) (uac) ((grF fi f1 f2 f3 nN)) (by omega) (by omega) e3 (fun k hk => by by_cases q : k = i; (rw [q]; exact b1); exact hno k (by omega)) _ _ hP hS ls (lv_sub hl [0, 1, 2] rfl)
        exact L_26_4 (j + 1) (0) (px) (py) (pz) (fx) (fy) (fz) (pu) (dg) (sp) (ac) (re) (by omega) (by omega) rfl (fun k hk => absurd hk (by omega)) _ _ hP hS ls (lv_sub hl [0, 1, 2] rfl)
      · skip
        have c_19_3 : nN = 0 := (nI_eq (a := nN) (b := 0) (by omega) (by omega)).mp c_19_3
        refine lv_iconst (v := (-1 : Int32)) hx hb dX6_run_22 (by decide) ?_
        exact hret hS hP dX6_run_23 (⟨none, Or.inr ⟨fun q => q.2 c_19_3, rfl, rfl, rfl⟩, rfl⟩)
