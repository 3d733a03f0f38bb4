/-! panels and the sheet -/
section XSW
variable {p : Program} {l : Launch} {e : Env} {R : Room} {s : State} {m : MethodId} {args : Array Value} {below : List Frame} {meth : Method} {c : Code} {H : Heap} {locs : List Loc} {cells slots : Nat} {Q : State → Prop}
variable {cc : ByteArray} {pc : Nat} {ls : Array Slot} {rest : List Value}
-- a switch over 0 and 1
theorem xsw (hexec : p.tables.exec = Jvm.exec) (hb : c.code = cc) {x : Int32} {dflt o0 o1 : Int} {len t0 t1 td : Nat} (hdg : decode cc pc = .ok (.lookupswitch dflt #[(0, o0), (1, o1)], len)) (h0 : (pc : Int) + o0 = (t0 : Int)) (h1 : (pc : Int) + o1 = (t1 : Int)) (hd : (pc : Int) + dflt = (td : Int))
    (k0 : x = nI 0 → W p l e R s m args below meth c H locs cells slots Q (F0 m t0 ls rest)) (k1 : x = nI 1 → W p l e R s m args below meth c H locs cells slots Q (F0 m t1 ls rest)) (kd : ¬ x = nI 0 → ¬ x = nI 1 → W p l e R s m args below meth c H locs cells slots Q (F0 m td ls rest)) : W p l e R s m args below meth c H locs cells slots Q (F0 m pc ls (.int x :: rest)) := by
  by_cases e0 : x = nI 0
  · subst e0
    exact lv_lookup hexec hb hdg rfl (off := o0) rfl h0 (k0 rfl)
  · by_cases e1 : x = nI 1
    · subst e1
      exact lv_lookup hexec hb hdg rfl (off := o1) rfl h1 (k1 rfl)
    · refine lv_lookup hexec hb hdg rfl (off := dflt) ?_ hd (kd e0 e1)
      have n0 : ¬ (x.toInt = 0) := fun q => e0 (Int32.toInt.inj (by rw [q]; rfl))
      have n1 : ¬ (x.toInt = 1) := fun q => e1 (Int32.toInt.inj (by rw [q]; rfl))
      simp [Op.lookupswitch.offset, n0, n1, Ne.symm n0, Ne.symm n1]
      try omega
end XSW

def mesh (tp bt dp : IF) (j : Nat) (k : Int32) : Int32 := tp j + (bt j - tp j) * k / dp j
def wideF (tp bt : IF) (j : Nat) : Int32 := if tp j < bt j then bt j else tp j
def shStep (w d : Int32) (t : Int32 × Int32 × Int32) : Int32 × Int32 × Int32 := if t.1 + w ≤ nI 400 then (t.1 + w, t.2.1, if t.2.2 < d then d else t.2.2) else (nI 0 + w, t.2.1 + t.2.2, if nI 0 < d then d else nI 0)
def shB (w : Int32) (t : Int32 × Int32 × Int32) : Int32 × Int32 := if t.1 + w ≤ nI 400 then (t.1, t.2.1) else (nI 0, t.2.1 + t.2.2)
theorem shStep_p {w d a b c : Int32} (h : a + w ≤ nI 400) : shStep w d (a, b, c) = (a + w, b, if c < d then d else c) := if_pos h
theorem shStep_n {w d a b c : Int32} (h : ¬ a + w ≤ nI 400) : shStep w d (a, b, c) = (nI 0 + w, b + c, if nI 0 < d then d else nI 0) := if_neg h
theorem shB_p {w a b c : Int32} (h : a + w ≤ nI 400) : shB w (a, b, c) = (a, b) := if_pos h
theorem shB_n {w a b c : Int32} (h : ¬ a + w ≤ nI 400) : shB w (a, b, c) = (nI 0, b + c) := if_neg h
/-- what the shelf is before panel k -/
def shA (tp bt dp : IF) : Nat → Int32 × Int32 × Int32
  | 0 => (nI 0, nI 0, nI 0)
  | k + 1 => shStep (wideF tp bt k) (dp k) (shA tp bt dp k)
theorem shA_congr {tp bt dp tp2 bt2 dp2 : IF} : ∀ k : Nat, (∀ j, j < k → tp j = tp2 j ∧ bt j = bt2 j ∧ dp j = dp2 j) → shA tp bt dp k = shA tp2 bt2 dp2 k
  | 0, _ => rfl
  | k + 1, h => by
    obtain ⟨h1, h2, h3⟩ := h k (Nat.lt_succ_self k)
    show shStep _ _ _ = shStep _ _ _
    rw [shA_congr k (fun j hj => h j (Nat.lt_succ_of_lt hj)), h3]
    unfold wideF
    rw [h1, h2]
/-- the sheet's own numbers of the class are those of its panels -/
def RP (P : PS) (C : CS) : Prop := match P, C with
  | (nP, tp, bt, dp), (sp, ac, kp, kc, kn, aw, dw, su, ss, sd) => shA tp bt dp nP = (su, ss, sd) ∧ ∀ j, j < nP → shB (wideF tp bt j) (shA tp bt dp j) = (aw j, dw j)
theorem inW_nle {n : Nat} {x : Int32} (hn : n < 2 ^ 31) (h : ¬ x ≤ nI n) : ¬ inW n x := by
  rintro ⟨j, h1, h2, rfl⟩
  exact h ((nI_leI (by omega) hn).mpr h2)
theorem inW_le {n : Nat} {x : Int32} (hn : n < 2 ^ 31) (h0 : ¬ x < nI 1) (h1 : x ≤ nI n) : inW n x := inW_of hn h0 (fun q => by
  rw [Int32.lt_iff_toInt_lt] at q
  rw [Int32.le_iff_toInt_le] at h1
  omega)
theorem ge_lt_no {x y : Int32} (h : y ≤ x) (h2 : x < y) : False := by
  rw [Int32.lt_iff_toInt_lt] at h2
  rw [Int32.le_iff_toInt_le] at h
  omega
theorem lt_of_nge {x y : Int32} (h : ¬ y ≤ x) : x < y := by
  rw [Int32.lt_iff_toInt_lt]
  rw [Int32.le_iff_toInt_le] at h
  omega
theorem w_neg {x : Int32} (h : x < 0) (q : x = nI 0 ∨ x = nI 1) : False := by
  rcases q with rfl | rfl <;> exact absurd h (by decide)
theorem w_big {x : Int32} (h : ¬ x ≤ nI 1) (q : x = nI 0 ∨ x = nI 1) : False := by
  rcases q with rfl | rfl <;> exact absurd (by decide) h
theorem w_one {x : Int32} (h0 : ¬ x < 0) (h1 : x ≤ nI 1) (h2 : ¬ x = 0) : x = nI 1 := by
  obtain ⟨j, hj, rfl⟩ := nI_of h0
  have h3 := (nI_leI hj (by decide)).mp h1
  rcases (show j = 0 ∨ j = 1 by omega) with rfl | rfl
  · exact absurd rfl h2
  · rfl
def q_panel (G : GS) (a : Int32) (b : Int32) (d : Int32) (r : Int32) (G2 : GS) : Prop := match G with
  | ((nN, px, py, pz, fx, fy, fz, lf, ld, fi), (nB, fr, tt, ln, wi, sg, pu), (nR, rd, rx, ry, wv, fo), (re, dg), (nP, tp, bt, dp)) => ((nP < 30 ∧ inW 400 a ∧ inW 400 b ∧ inW 200 d) ∧ r = nI nP ∧ G2 = ((nN, px, py, pz, fx, fy, fz, lf, ld, fi), (nB, fr, tt, ln, wi, sg, pu), (nR, rd, rx, ry, wv, fo), (re, dg), (nP + 1, upd tp nP a, upd bt nP b, upd dp nP d))) ∨ (¬ (nP < 30 ∧ inW 400 a ∧ inW 400 b ∧ inW 200 d) ∧ r = (-1 : Int32) ∧ G2 = ((nN, px, py, pz, fx, fy, fz, lf, ld, fi), (nB, fr, tt, ln, wi, sg, pu), (nR, rd, rx, ry, wv, fo), (re, dg), (nP, tp, bt, dp)))
theorem q_panel_det {G : GS} {a : Int32} {b : Int32} {d : Int32} {r1 r2 : Int32} {G1 G2 : GS} (h1 : q_panel G a b d r1 G1) (h2 : q_panel G a b d r2 G2) : r1 = r2 ∧ G1 = G2 := by
  obtain ⟨⟨nN, px, py, pz, fx, fy, fz, lf, ld, fi⟩, ⟨nB, fr, tt, ln, wi, sg, pu⟩, ⟨nR, rd, rx, ry, wv, fo⟩, ⟨re, dg⟩, ⟨nP, tp, bt, dp⟩⟩ := G
  rcases h1 with ⟨c1, rfl, rfl⟩ | ⟨c1, rfl, rfl⟩ <;> rcases h2 with ⟨c2, rfl, rfl⟩ | ⟨c2, rfl, rfl⟩ <;> first | exact ⟨rfl, rfl⟩ | exact absurd c1 c2 | exact absurd c2 c1
def q_cut (G : GS) (x : Int32) (k : Int32) (w : Int32) (r : Int32) : Prop := match G with
  | ((nN, px, py, pz, fx, fy, fz, lf, ld, fi), (nB, fr, tt, ln, wi, sg, pu), (nR, rd, rx, ry, wv, fo), (re, dg), (nP, tp, bt, dp)) => (∃ j, j < nP ∧ x = nI j ∧ ¬ k < 0 ∧ k < dp j ∧ ((w = nI 0 ∧ r = mesh tp bt dp j (k + nI 1)) ∨ (w = nI 1 ∧ r = mesh tp bt dp j (k + nI 1) - mesh tp bt dp j k))) ∨ (¬ (∃ j, j < nP ∧ x = nI j ∧ ¬ k < 0 ∧ k < dp j ∧ (w = nI 0 ∨ w = nI 1)) ∧ r = (-1 : Int32))
def q_whole (G : GS) (x : Int32) (r : Int32) : Prop := match G with
  | ((nN, px, py, pz, fx, fy, fz, lf, ld, fi), (nB, fr, tt, ln, wi, sg, pu), (nR, rd, rx, ry, wv, fo), (re, dg), (nP, tp, bt, dp)) => (∃ j, j < nP ∧ x = nI j ∧ (((bt j - tp j) - (bt j - tp j) / nI 2 * nI 2 = 0 ∧ r = nI 1) ∨ (¬ (bt j - tp j) - (bt j - tp j) / nI 2 * nI 2 = 0 ∧ r = nI 0))) ∨ (¬ inN nP x ∧ r = nI 0)
def q_edge (G : GS) (x : Int32) (y : Int32) (r : Int32) : Prop := match G with
  | ((nN, px, py, pz, fx, fy, fz, lf, ld, fi), (nB, fr, tt, ln, wi, sg, pu), (nR, rd, rx, ry, wv, fo), (re, dg), (nP, tp, bt, dp)) => (∃ i j, i < nP ∧ j < nP ∧ x = nI i ∧ y = nI j ∧ r = if tp j < bt i then tp j else bt i) ∨ (¬ (inN nP x ∧ inN nP y) ∧ r = (-1 : Int32))
def q_sheet (G : GS) (x : Int32) (w : Int32) (r : Int32) : Prop := match G with
  | ((nN, px, py, pz, fx, fy, fz, lf, ld, fi), (nB, fr, tt, ln, wi, sg, pu), (nR, rd, rx, ry, wv, fo), (re, dg), (nP, tp, bt, dp)) => (∃ j, j < nP ∧ x = nI j ∧ ((w = nI 0 ∧ r = (shB (wideF tp bt j) (shA tp bt dp j)).1) ∨ (w = nI 1 ∧ r = (shB (wideF tp bt j) (shA tp bt dp j)).2))) ∨ (¬ (inN nP x ∧ (w = nI 0 ∨ w = nI 1)) ∧ r = (-1 : Int32))
def qX_panel (S : XS) (a b d : Int32) (r : Int32) (u : XS) : Prop := match S with
  | (((nN, px, py, pz, fx, fy, fz, lf, ld, fi), (nB, fr, tt, ln, wi, sg, pu), (nR, rd, rx, ry, wv, fo), (re, dg), (nP, tp, bt, dp)), (sp, ac, kp, kc, kn, aw, dw, su, ss, sd)) => ((nP < 30 ∧ inW 400 a ∧ inW 400 b ∧ inW 200 d) ∧ r = nI nP ∧ u = (((nN, px, py, pz, fx, fy, fz, lf, ld, fi), (nB, fr, tt, ln, wi, sg, pu), (nR, rd, rx, ry, wv, fo), (re, dg), (nP + 1, (upd tp nP a), (upd bt nP b), (upd dp nP d))), (sp, ac, kp, kc, kn, (upd aw nP (shB (wideF (upd tp nP a) (upd bt nP b) nP) (su, ss, sd)).1), (upd dw nP (shB (wideF (upd tp nP a) (upd bt nP b) nP) (su, ss, sd)).2), (shStep (wideF (upd tp nP a) (upd bt nP b) nP) ((upd dp nP d) nP) (su, ss, sd)).1, (shStep (wideF (upd tp nP a) (upd bt nP b) nP) ((upd dp nP d) nP) (su, ss, sd)).2.1, (shStep (wideF (upd tp nP a) (upd bt nP b) nP) ((upd dp nP d) nP) (su, ss, sd)).2.2))) ∨ (¬ (nP < 30 ∧ inW 400 a ∧ inW 400 b ∧ inW 200 d) ∧ r = (-1 : Int32) ∧ u = (((nN, px, py, pz, fx, fy, fz, lf, ld, fi), (nB, fr, tt, ln, wi, sg, pu), (nR, rd, rx, ry, wv, fo), (re, dg), (nP, tp, bt, dp)), (sp, ac, kp, kc, kn, aw, dw, su, ss, sd)))
theorem iX4_lay_X4 : ∀ w ∈ u_ws RX4 TX4 9, w ∈ wsX4_lay := by decide +kernel
set_option maxHeartbeats 4000000 in
set_option maxRecDepth 100000 in
theorem kX4_lay (l : Launch) (D : va_G) (cs : Nat → ClassId) (ad : Nat → Nat) (hd : distX ad) (sz : Nat) (S : XS) (j : Nat) (hj : j < 30) : Met l yX4_lay wsX4_lay ({ frames := 1, cells := 0, slots := 0, locals := 21 } : Room) (gP D (WX cs ad) (EX D cs) S sz ([.ref (ad 6), .int (nI j)] : List Value)) (va_Qv (fun u => match S with | (((nN, px, py, pz, fx, fy, fz, lf, ld, fi), (nB, fr, tt, ln, wi, sg, pu), (nR, rd, rx, ry, wv, fo), (re, dg), (nP, tp, bt, dp)), (sp, ac, kp, kc, kn, aw, dw, su, ss, sd)) => u = (((nN, px, py, pz, fx, fy, fz, lf, ld, fi), (nB, fr, tt, ln, wi, sg, pu), (nR, rd, rx, ry, wv, fo), (re, dg), (nP, tp, bt, dp)), (sp, ac, kp, kc, kn, (upd aw j (shB (wideF tp bt j) (su, ss, sd)).1), (upd dw j (shB (wideF tp bt j) (su, ss, sd)).2), (shStep (wideF tp bt j) (dp j) (su, ss, sd)).1, (shStep (wideF tp bt j) (dp j) (su, ss, sd)).2.1, (shStep (wideF tp bt j) (dp j) (su, ss, sd)).2.2))) (gB D (WX cs ad)) (gA (AX ad) sz)) 0 0 (gA (AX ad) sz) := by
  obtain ⟨⟨⟨nN, px, py, pz, fx, fy, fz, lf, ld, fi⟩, ⟨nB, fr, tt, ln, wi, sg, pu⟩, ⟨nR, rd, rx, ry, wv, fo⟩, ⟨re, dg⟩, ⟨nP, tp, bt, dp⟩⟩, ⟨sp, ac, kp, kc, kn, aw, dw, su, ss, sd⟩⟩ := S
  refine gMv (cc := cX4_lay) (maxL := 3) (plainFor_of_name (by decide)) rfl (Nat.le_of_ble_eq_true rfl) ?_
  intro p e s m below meth c Q hx hb hts hown hml hsz hE hret H locs hP hS ls hl
  subst hsz
  have hown : s.vm.findClass RX4 = some m.cls := hown
  have hK : va_K D vwCl (tysX cs) s := hE.1
  have hD : ∀ u, va_D (gA (AX ad) s.heap.size) (WX cs ad u) := fun u => WX_D hd u
  have hl : lv_has ls 3 [(0, .ref (ad 6)), (1, .int (nI j))] := hl
  have f_9 := hts (.fieldLink RX4 9 "NetShapes$Panels" "top" "[I") (by decide +kernel)
  have f_15 := hts (.fieldLink RX4 15 "NetShapes$Panels" "bottom" "[I") (by decide +kernel)
  have f_18 := hts (.fieldLink RX4 18 "NetShapes$Panels" "deep" "[I") (by decide +kernel)
  have f_21 := hts (.fieldLink RX4 21 "NetShapes$Panels" "across" "[I") (by decide +kernel)
  have f_24 := hts (.fieldLink RX4 24 "NetShapes$Panels" "down" "[I") (by decide +kernel)
  have f_31 := hts (.fieldLink RX4 31 "NetShapes$Panels" "shelfUsed" "I") (by decide +kernel)
  have f_34 := hts (.fieldLink RX4 34 "NetShapes$Panels" "shelfStart" "I") (by decide +kernel)
  have f_37 := hts (.fieldLink RX4 37 "NetShapes$Panels" "shelfDeep" "I") (by decide +kernel)
  refine lv_aload_n hx hb dX4_lay_0 rfl (lv_at hl 0 rfl) ?_
  refine va_get (D := D) (ci := 4) (v := .ref (ad 25)) (C := RX4) (T := TX4) (N := 9) hx hb hts iX4_lay_X4 hown hK hP 6 rfl rfl 0 (by decide) f_9 (fun _ h9 => h9) rfl dX4_lay_1 ?_
  refine lv_iload_n hx hb dX4_lay_4 rfl (lv_at hl 1 rfl) ?_
  refine xil hx hb hK hP 25 1 rfl rfl (j := j) (by decide) (by omega) dX4_lay_5 ?_
  refine lv_aload_n hx hb dX4_lay_6 rfl (lv_at hl 0 rfl) ?_
  refine va_get (D := D) (ci := 4) (v := .ref (ad 26)) (C := RX4) (T := TX4) (N := 9) hx hb hts iX4_lay_X4 hown hK hP 6 rfl rfl 1 (by decide) f_15 (fun _ h9 => h9) rfl dX4_lay_7 ?_
  refine lv_iload_n hx hb dX4_lay_10 rfl (lv_at hl 1 rfl) ?_
  refine xil hx hb hK hP 26 1 rfl rfl (j := j) (by decide) (by omega) dX4_lay_11 ?_
  refine va_mmax hx hb (hml.trans hl.1.symm) hown (hts (.methodLink RX4 44 Lib.Math.max.name) (by decide +kernel)) (hts (.static Lib.Math.max.name) (by decide +kernel)) (hts (.initialized "java/lang/Math") (by decide +kernel)) (hts _ (List.mem_of_getElem? (i := 6) rfl)) (by decide) (Nat.le_of_ble_eq_true rfl) (Nat.zero_le _) (Nat.zero_le _) dX4_lay_12 ?_
  refine lv_istore_n (lv' := [(2, .int (if (tp j) < (bt j) then (bt j) else (tp j))), (0, .ref (ad 6)), (1, .int (nI j))]) hx hb dX4_lay_15 rfl hl (by decide) rfl (fun ls hl => ?_)
  refine lv_aload_n hx hb dX4_lay_16 rfl (lv_at hl 1 rfl) ?_
  refine va_get (D := D) (ci := 4) (v := .int (su)) (C := RX4) (T := TX4) (N := 9) hx hb hts iX4_lay_X4 hown hK hP 6 rfl rfl 6 (by decide) f_31 (fun _ h9 => h9) rfl dX4_lay_17 ?_
  refine lv_iload_n hx hb dX4_lay_20 rfl (lv_at hl 0 rfl) ?_
  refine lv_iadd hx hb dX4_lay_21 ?_
  refine lv_sipush (v := nI 400) hx hb dX4_lay_22 (by decide) ?_
  refine lv_icmp_le (tgt := 51) hx hb dX4_lay_25 (by decide) (fun c_25_1 => ?_) (fun c_25_1 => ?_)
  · skip
    refine lv_aload_n hx hb dX4_lay_51 rfl (lv_at hl 1 rfl) ?_
    refine va_get (D := D) (ci := 4) (v := .ref (ad 28)) (C := RX4) (T := TX4) (N := 9) hx hb hts iX4_lay_X4 hown hK hP 6 rfl rfl 3 (by decide) f_21 (fun _ h9 => h9) rfl dX4_lay_52 ?_
    refine lv_iload_n hx hb dX4_lay_55 rfl (lv_at hl 2 rfl) ?_
    refine lv_aload_n hx hb dX4_lay_56 rfl (lv_at hl 1 rfl) ?_
    refine va_get (D := D) (ci := 4) (v := .int (su)) (C := RX4) (T := TX4) (N := 9) hx hb hts iX4_lay_X4 hown hK hP 6 rfl rfl 6 (by decide) f_31 (fun _ h9 => h9) rfl dX4_lay_57 ?_
    refine xis hx hb hK hD hP hS 28 1 (((nN, px, py, pz, fx, fy, fz, lf, ld, fi), (nB, fr, tt, ln, wi, sg, pu), (nR, rd, rx, ry, wv, fo), (re, dg), (nP, tp, bt, dp)), (sp, ac, kp, kc, kn, (upd aw j su), dw, su, ss, sd)) rfl rfl (j := j) (by decide) (by omega) rfl dX4_lay_60 (fun H locs hP hS => ?_)
    refine lv_aload_n hx hb dX4_lay_61 rfl (lv_at hl 1 rfl) ?_
    refine va_get (D := D) (ci := 4) (v := .ref (ad 29)) (C := RX4) (T := TX4) (N := 9) hx hb hts iX4_lay_X4 hown hK hP 6 rfl rfl 4 (by decide) f_24 (fun _ h9 => h9) rfl dX4_lay_62 ?_
    refine lv_iload_n hx hb dX4_lay_65 rfl (lv_at hl 2 rfl) ?_
    refine lv_aload_n hx hb dX4_lay_66 rfl (lv_at hl 1 rfl) ?_
    refine va_get (D := D) (ci := 4) (v := .int (ss)) (C := RX4) (T := TX4) (N := 9) hx hb hts iX4_lay_X4 hown hK hP 6 rfl rfl 7 (by decide) f_34 (fun _ h9 => h9) rfl dX4_lay_67 ?_
    refine xis hx hb hK hD hP hS 29 1 (((nN, px, py, pz, fx, fy, fz, lf, ld, fi), (nB, fr, tt, ln, wi, sg, pu), (nR, rd, rx, ry, wv, fo), (re, dg), (nP, tp, bt, dp)), (sp, ac, kp, kc, kn, (upd aw j su), (upd dw j ss), su, ss, sd)) rfl rfl (j := j) (by decide) (by omega) rfl dX4_lay_70 (fun H locs hP hS => ?_)
    refine lv_aload_n hx hb dX4_lay_71 rfl (lv_at hl 1 rfl) ?_
    refine lv_dup hx hb dX4_lay_72 rfl ?_
    refine va_get (D := D) (ci := 4) (v := .int (su)) (C := RX4) (T := TX4) (N := 9) hx hb hts iX4_lay_X4 hown hK hP 6 rfl rfl 6 (by decide) f_31 (fun _ h9 => h9) rfl dX4_lay_73 ?_
    refine lv_iload_n hx hb dX4_lay_76 rfl (lv_at hl 0 rfl) ?_
    refine lv_iadd hx hb dX4_lay_77 ?_
    refine xput (D := D) (ci := 4) (v := .int (su + (if (tp j) < (bt j) then (bt j) else (tp j)))) (ty := .int) (C := RX4) (T := TX4) (N := 9) hx hb hts iX4_lay_X4 tyX4 tyX4_ok nmX4 hown hK hD hP hS 6 (((nN, px, py, pz, fx, fy, fz, lf, ld, fi), (nB, fr, tt, ln, wi, sg, pu), (nR, rd, rx, ry, wv, fo), (re, dg), (nP, tp, bt, dp)), (sp, ac, kp, kc, kn, (upd aw j su), (upd dw j ss), (su + (if (tp j) < (bt j) then (bt j) else (tp j))), ss, sd)) rfl rfl 6 (by decide) f_31 (fun _ h9 => h9) rfl (by decide +kernel) rfl rfl (Nat.le_of_ble_eq_true rfl) rfl dX4_lay_78 (fun H locs hP hS => ?_)
    refine lv_aload_n hx hb dX4_lay_81 rfl (lv_at hl 1 rfl) ?_
    refine lv_aload_n hx hb dX4_lay_82 rfl (lv_at hl 1 rfl) ?_
    refine va_get (D := D) (ci := 4) (v := .int (sd)) (C := RX4) (T := TX4) (N := 9) hx hb hts iX4_lay_X4 hown hK hP 6 rfl rfl 8 (by decide) f_37 (fun _ h9 => h9) rfl dX4_lay_83 ?_
    refine lv_aload_n hx hb dX4_lay_86 rfl (lv_at hl 1 rfl) ?_
    refine va_get (D := D) (ci := 4) (v := .ref (ad 27)) (C := RX4) (T := TX4) (N := 9) hx hb hts iX4_lay_X4 hown hK hP 6 rfl rfl 2 (by decide) f_18 (fun _ h9 => h9) rfl dX4_lay_87 ?_
    refine lv_iload_n hx hb dX4_lay_90 rfl (lv_at hl 2 rfl) ?_
    refine xil hx hb hK hP 27 1 rfl rfl (j := j) (by decide) (by omega) dX4_lay_91 ?_
    refine va_mmax hx hb (hml.trans hl.1.symm) hown (hts (.methodLink RX4 44 Lib.Math.max.name) (by decide +kernel)) (hts (.static Lib.Math.max.name) (by decide +kernel)) (hts (.initialized "java/lang/Math") (by decide +kernel)) (hts _ (List.mem_of_getElem? (i := 6) rfl)) (by decide) (Nat.le_of_ble_eq_true rfl) (Nat.zero_le _) (Nat.zero_le _) dX4_lay_92 ?_
    refine xput (D := D) (ci := 4) (v := .int (if sd < (dp j) then (dp j) else sd)) (ty := .int) (C := RX4) (T := TX4) (N := 9) hx hb hts iX4_lay_X4 tyX4 tyX4_ok nmX4 hown hK hD hP hS 6 (((nN, px, py, pz, fx, fy, fz, lf, ld, fi), (nB, fr, tt, ln, wi, sg, pu), (nR, rd, rx, ry, wv, fo), (re, dg), (nP, tp, bt, dp)), (sp, ac, kp, kc, kn, (upd aw j su), (upd dw j ss), (su + (if (tp j) < (bt j) then (bt j) else (tp j))), ss, (if sd < (dp j) then (dp j) else sd))) rfl rfl 8 (by decide) f_37 (fun _ h9 => h9) rfl (by decide +kernel) rfl rfl (Nat.le_of_ble_eq_true rfl) rfl dX4_lay_95 (fun H locs hP hS => ?_)
    exact hret hS hP dX4_lay_98 ((by show (((nN, px, py, pz, fx, fy, fz, lf, ld, fi), (nB, fr, tt, ln, wi, sg, pu), (nR, rd, rx, ry, wv, fo), (re, dg), (nP, tp, bt, dp)), (sp, ac, kp, kc, kn, (upd aw j su), (upd dw j ss), (su + (if (tp j) < (bt j) then (bt j) else (tp j))), ss, (if sd < (dp j) then (dp j) else sd))) = (((nN, px, py, pz, fx, fy, fz, lf, ld, fi), (nB, fr, tt, ln, wi, sg, pu), (nR, rd, rx, ry, wv, fo), (re, dg), (nP, tp, bt, dp)), (sp, ac, kp, kc, kn, (upd aw j (shB (wideF tp bt j) (su, ss, sd)).1), (upd dw j (shB (wideF tp bt j) (su, ss, sd)).2), (shStep (wideF tp bt j) (dp j) (su, ss, sd)).1, (shStep (wideF tp bt j) (dp j) (su, ss, sd)).2.1, (shStep (wideF tp bt j) (dp j) (su, ss, sd)).2.2)); rw [shStep_p (w := wideF tp bt j) c_25_1, shB_p (w := wideF tp bt j) c_25_1]; rfl))
  · skip
    refine lv_aload_n hx hb dX4_lay_28 rfl (lv_at hl 1 rfl) ?_
    refine lv_dup hx hb dX4_lay_29 rfl ?_
    refine va_get (D := D) (ci := 4) (v := .int (ss)) (C := RX4) (T := TX4) (N := 9) hx hb hts iX4_lay_X4 hown hK hP 6 rfl rfl 7 (by decide) f_34 (fun _ h9 => h9) rfl dX4_lay_30 ?_
    refine lv_aload_n hx hb dX4_lay_33 rfl (lv_at hl 1 rfl) ?_
    refine va_get (D := D) (ci := 4) (v := .int (sd)) (C := RX4) (T := TX4) (N := 9) hx hb hts iX4_lay_X4 hown hK hP 6 rfl rfl 8 (by decide) f_37 (fun _ h9 => h9) rfl dX4_lay_34 ?_
    refine lv_iadd hx hb dX4_lay_37 ?_
    refine xput (D := D) (ci := 4) (v := .int (ss + sd)) (ty := .int) (C := RX4) (T := TX4) (N := 9) hx hb hts iX4_lay_X4 tyX4 tyX4_ok nmX4 hown hK hD hP hS 6 (((nN, px, py, pz, fx, fy, fz, lf, ld, fi), (nB, fr, tt, ln, wi, sg, pu), (nR, rd, rx, ry, wv, fo), (re, dg), (nP, tp, bt, dp)), (sp, ac, kp, kc, kn, aw, dw, su, (ss + sd), sd)) rfl rfl 7 (by decide) f_34 (fun _ h9 => h9) rfl (by decide +kernel) rfl rfl (Nat.le_of_ble_eq_true rfl) rfl dX4_lay_38 (fun H locs hP hS => ?_)
    refine lv_aload_n hx hb dX4_lay_41 rfl (lv_at hl 1 rfl) ?_
    refine lv_iconst (v := nI 0) hx hb dX4_lay_42 (by decide) ?_
    refine xput (D := D) (ci := 4) (v := .int (nI 0)) (ty := .int) (C := RX4) (T := TX4) (N := 9) hx hb hts iX4_lay_X4 tyX4 tyX4_ok nmX4 hown hK hD hP hS 6 (((nN, px, py, pz, fx, fy, fz, lf, ld, fi), (nB, fr, tt, ln, wi, sg, pu), (nR, rd, rx, ry, wv, fo), (re, dg), (nP, tp, bt, dp)), (sp, ac, kp, kc, kn, aw, dw, (nI 0), (ss + sd), sd)) rfl rfl 6 (by decide) f_31 (fun _ h9 => h9) rfl (by decide +kernel) rfl rfl (Nat.le_of_ble_eq_true rfl) rfl dX4_lay_43 (fun H locs hP hS => ?_)
    refine lv_aload_n hx hb dX4_lay_46 rfl (lv_at hl 1 rfl) ?_
    refine lv_iconst (v := nI 0) hx hb dX4_lay_47 (by decide) ?_
    refine xput (D := D) (ci := 4) (v := .int (nI 0)) (ty := .int) (C := RX4) (T := TX4) (N := 9) hx hb hts iX4_lay_X4 tyX4 tyX4_ok nmX4 hown hK hD hP hS 6 (((nN, px, py, pz, fx, fy, fz, lf, ld, fi), (nB, fr, tt, ln, wi, sg, pu), (nR, rd, rx, ry, wv, fo), (re, dg), (nP, tp, bt, dp)), (sp, ac, kp, kc, kn, aw, dw, (nI 0), (ss + sd), (nI 0))) rfl rfl 8 (by decide) f_37 (fun _ h9 => h9) rfl (by decide +kernel) rfl rfl (Nat.le_of_ble_eq_true rfl) rfl dX4_lay_48 (fun H locs hP hS => ?_)
    refine lv_aload_n hx hb dX4_lay_51 rfl (lv_at hl 1 rfl) ?_
    refine va_get (D := D) (ci := 4) (v := .ref (ad 28)) (C := RX4) (T := TX4) (N := 9) hx hb hts iX4_lay_X4 hown hK hP 6 rfl rfl 3 (by decide) f_21 (fun _ h9 => h9) rfl dX4_lay_52 ?_
    refine lv_iload_n hx hb dX4_lay_55 rfl (lv_at hl 2 rfl) ?_
    refine lv_aload_n hx hb dX4_lay_56 rfl (lv_at hl 1 rfl) ?_
    refine va_get (D := D) (ci := 4) (v := .int ((nI 0))) (C := RX4) (T := TX4) (N := 9) hx hb hts iX4_lay_X4 hown hK hP 6 rfl rfl 6 (by decide) f_31 (fun _ h9 => h9) rfl dX4_lay_57 ?_
    refine xis hx hb hK hD hP hS 28 1 (((nN, px, py, pz, fx, fy, fz, lf, ld, fi), (nB, fr, tt, ln, wi, sg, pu), (nR, rd, rx, ry, wv, fo), (re, dg), (nP, tp, bt, dp)), (sp, ac, kp, kc, kn, (upd aw j ((nI 0))), dw, (nI 0), (ss + sd), (nI 0))) rfl rfl (j := j) (by decide) (by omega) rfl dX4_lay_60 (fun H locs hP hS => ?_)
    refine lv_aload_n hx hb dX4_lay_61 rfl (lv_at hl 1 rfl) ?_
    refine va_get (D := D) (ci := 4) (v := .ref (ad 29)) (C := RX4) (T := TX4) (N := 9) hx hb hts iX4_lay_X4 hown hK hP 6 rfl rfl 4 (by decide) f_24 (fun _ h9 => h9) rfl dX4_lay_62 ?_
    refine lv_iload_n hx hb dX4_lay_65 rfl (lv_at hl 2 rfl) ?_
    refine lv_aload_n hx hb dX4_lay_66 rfl (lv_at hl 1 rfl) ?_
    refine va_get (D := D) (ci := 4) (v := .int ((ss + sd))) (C := RX4) (T := TX4) (N := 9) hx hb hts iX4_lay_X4 hown hK hP 6 rfl rfl 7 (by decide) f_34 (fun _ h9 => h9) rfl dX4_lay_67 ?_
    refine xis hx hb hK hD hP hS 29 1 (((nN, px, py, pz, fx, fy, fz, lf, ld, fi), (nB, fr, tt, ln, wi, sg, pu), (nR, rd, rx, ry, wv, fo), (re, dg), (nP, tp, bt, dp)), (sp, ac, kp, kc, kn, (upd aw j ((nI 0))), (upd dw j ((ss + sd))), (nI 0), (ss + sd), (nI 0))) rfl rfl (j := j) (by decide) (by omega) rfl dX4_lay_70 (fun H locs hP hS => ?_)
    refine lv_aload_n hx hb dX4_lay_71 rfl (lv_at hl 1 rfl) ?_
    refine lv_dup hx hb dX4_lay_72 rfl ?_
    refine va_get (D := D) (ci := 4) (v := .int ((nI 0))) (C := RX4) (T := TX4) (N := 9) hx hb hts iX4_lay_X4 hown hK hP 6 rfl rfl 6 (by decide) f_31 (fun _ h9 => h9) rfl dX4_lay_73 ?_
    refine lv_iload_n hx hb dX4_lay_76 rfl (lv_at hl 0 rfl) ?_
    refine lv_iadd hx hb dX4_lay_77 ?_
    refine xput (D := D) (ci := 4) (v := .int (((nI 0)) + (if (tp j) < (bt j) then (bt j) else (tp j)))) (ty := .int) (C := RX4) (T := TX4) (N := 9) hx hb hts iX4_lay_X4 tyX4 tyX4_ok nmX4 hown hK hD hP hS 6 (((nN, px, py, pz, fx, fy, fz, lf, ld, fi), (nB, fr, tt, ln, wi, sg, pu), (nR, rd, rx, ry, wv, fo), (re, dg), (nP, tp, bt, dp)), (sp, ac, kp, kc, kn, (upd aw j ((nI 0))), (upd dw j ((ss + sd))), (((nI 0)) + (if (tp j) < (bt j) then (bt j) else (tp j))), (ss + sd), (nI 0))) rfl rfl 6 (by decide) f_31 (fun _ h9 => h9) rfl (by decide +kernel) rfl rfl (Nat.le_of_ble_eq_true rfl) rfl dX4_lay_78 (fun H locs hP hS => ?_)
    refine lv_aload_n hx hb dX4_lay_81 rfl (lv_at hl 1 rfl) ?_
    refine lv_aload_n hx hb dX4_lay_82 rfl (lv_at hl 1 rfl) ?_
    refine va_get (D := D) (ci := 4) (v := .int ((nI 0))) (C := RX4) (T := TX4) (N := 9) hx hb hts iX4_lay_X4 hown hK hP 6 rfl rfl 8 (by decide) f_37 (fun _ h9 => h9) rfl dX4_lay_83 ?_
    refine lv_aload_n hx hb dX4_lay_86 rfl (lv_at hl 1 rfl) ?_
    refine va_get (D := D) (ci := 4) (v := .ref (ad 27)) (C := RX4) (T := TX4) (N := 9) hx hb hts iX4_lay_X4 hown hK hP 6 rfl rfl 2 (by decide) f_18 (fun _ h9 => h9) rfl dX4_lay_87 ?_
    refine lv_iload_n hx hb dX4_lay_90 rfl (lv_at hl 2 rfl) ?_
    refine xil hx hb hK hP 27 1 rfl rfl (j := j) (by decide) (by omega) dX4_lay_91 ?_
    refine va_mmax hx hb (hml.trans hl.1.symm) hown (hts (.methodLink RX4 44 Lib.Math.max.name) (by decide +kernel)) (hts (.static Lib.Math.max.name) (by decide +kernel)) (hts (.initialized "java/lang/Math") (by decide +kernel)) (hts _ (List.mem_of_getElem? (i := 6) rfl)) (by decide) (Nat.le_of_ble_eq_true rfl) (Nat.zero_le _) (Nat.zero_le _) dX4_lay_92 ?_
    refine xput (D := D) (ci := 4) (v := .int (if ((nI 0)) < (dp j) then (dp j) else ((nI 0)))) (ty := .int) (C := RX4) (T := TX4) (N := 9) hx hb hts iX4_lay_X4 tyX4 tyX4_ok nmX4 hown hK hD hP hS 6 (((nN, px, py, pz, fx, fy, fz, lf, ld, fi), (nB, fr, tt, ln, wi, sg, pu), (nR, rd, rx, ry, wv, fo), (re, dg), (nP, tp, bt, dp)), (sp, ac, kp, kc, kn, (upd aw j ((nI 0))), (upd dw j ((ss + sd))), (((nI 0)) + (if (tp j) < (bt j) then (bt j) else (tp j))), (ss + sd), (if ((nI 0)) < (dp j) then (dp j) else ((nI 0))))) rfl rfl 8 (by decide) f_37 (fun _ h9 => h9) rfl (by decide +kernel) rfl rfl (Nat.le_of_ble_eq_true rfl) rfl dX4_lay_95 (fun H locs hP hS => ?_)
    exact hret hS hP dX4_lay_98 ((by show (((nN, px, py, pz, fx, fy, fz, lf, ld, fi), (nB, fr, tt, ln, wi, sg, pu), (nR, rd, rx, ry, wv, fo), (re, dg), (nP, tp, bt, dp)), (sp, ac, kp, kc, kn, (upd aw j ((nI 0))), (upd dw j ((ss + sd))), (((nI 0)) + (if (tp j) < (bt j) then (bt j) else (tp j))), (ss + sd), (if ((nI 0)) < (dp j) then (dp j) else ((nI 0))))) = (((nN, px, py, pz, fx, fy, fz, lf, ld, fi), (nB, fr, tt, ln, wi, sg, pu), (nR, rd, rx, ry, wv, fo), (re, dg), (nP, tp, bt, dp)), (sp, ac, kp, kc, kn, (upd aw j (shB (wideF tp bt j) (su, ss, sd)).1), (upd dw j (shB (wideF tp bt j) (su, ss, sd)).2), (shStep (wideF tp bt j) (dp j) (su, ss, sd)).1, (shStep (wideF tp bt j) (dp j) (su, ss, sd)).2.1, (shStep (wideF tp bt j) (dp j) (su, ss, sd)).2.2)); rw [shStep_n (w := wideF tp bt j) c_25_1, shB_n (w := wideF tp bt j) c_25_1]; rfl))
theorem iX4_add_X4 : ∀ w ∈ u_ws RX4 TX4 9, w ∈ wsX4_add := by decide +kernel
set_option maxHeartbeats 4000000 in
set_option maxRecDepth 100000 in
theorem kX4_add (l : Launch) (D : va_G) (cs : Nat → ClassId) (ad : Nat → Nat) (hd : distX ad) (sz : Nat) (S : XS) (hP0 : S.1.2.2.2.2.1 < 30) (a b d : Int32) : Met l yX4_add wsX4_add ({ frames := 2, cells := 0, slots := 0, locals := 43 } : Room) (gP D (WX cs ad) (EX D cs) S sz ([.ref (ad 6), .int (a), .int (b), .int (d)] : List Value)) (va_Qi (fun r u => match S with | (((nN, px, py, pz, fx, fy, fz, lf, ld, fi), (nB, fr, tt, ln, wi, sg, pu), (nR, rd, rx, ry, wv, fo), (re, dg), (nP, tp, bt, dp)), (sp, ac, kp, kc, kn, aw, dw, su, ss, sd)) => r = nI nP ∧ u = (((nN, px, py, pz, fx, fy, fz, lf, ld, fi), (nB, fr, tt, ln, wi, sg, pu), (nR, rd, rx, ry, wv, fo), (re, dg), (nP + 1, (upd tp nP a), (upd bt nP b), (upd dp nP d))), (sp, ac, kp, kc, kn, (upd aw nP (shB (wideF (upd tp nP a) (upd bt nP b) nP) (su, ss, sd)).1), (upd dw nP (shB (wideF (upd tp nP a) (upd bt nP b) nP) (su, ss, sd)).2), (shStep (wideF (upd tp nP a) (upd bt nP b) nP) ((upd dp nP d) nP) (su, ss, sd)).1, (shStep (wideF (upd tp nP a) (upd bt nP b) nP) ((upd dp nP d) nP) (su, ss, sd)).2.1, (shStep (wideF (upd tp nP a) (upd bt nP b) nP) ((upd dp nP d) nP) (su, ss, sd)).2.2))) (gB D (WX cs ad)) (gA (AX ad) sz)) 0 0 (gA (AX ad) sz) := by
  obtain ⟨⟨⟨nN, px, py, pz, fx, fy, fz, lf, ld, fi⟩, ⟨nB, fr, tt, ln, wi, sg, pu⟩, ⟨nR, rd, rx, ry, wv, fo⟩, ⟨re, dg⟩, ⟨nP, tp, bt, dp⟩⟩, ⟨sp, ac, kp, kc, kn, aw, dw, su, ss, sd⟩⟩ := S
  have hP0 : nP < 30 := hP0
  refine gMi (cc := cX4_add) (maxL := 5) (plainFor_of_name (by decide)) rfl (Nat.le_of_ble_eq_true rfl) ?_
  intro p e s m below meth c Q hx hb hts hown hml hsz hE hret H locs hP hS ls hl
  subst hsz
  have hown : s.vm.findClass RX4 = some m.cls := hown
  have hK : va_K D vwCl (tysX cs) s := hE.1
  have hD : ∀ u, va_D (gA (AX ad) s.heap.size) (WX cs ad u) := fun u => WX_D hd u
  have hl : lv_has ls 5 [(0, .ref (ad 6)), (1, .int (a)), (2, .int (b)), (3, .int (d))] := hl
  have f_9 := hts (.fieldLink RX4 9 "NetShapes$Panels" "top" "[I") (by decide +kernel)
  have f_15 := hts (.fieldLink RX4 15 "NetShapes$Panels" "bottom" "[I") (by decide +kernel)
  have f_18 := hts (.fieldLink RX4 18 "NetShapes$Panels" "deep" "[I") (by decide +kernel)
  have f_27 := hts (.fieldLink RX4 27 "NetShapes$Panels" "count" "I") (by decide +kernel)
  refine lv_aload_n hx hb dX4_add_0 rfl (lv_at hl 0 rfl) ?_
  refine va_get (D := D) (ci := 4) (v := .int (nI nP)) (C := RX4) (T := TX4) (N := 9) hx hb hts iX4_add_X4 hown hK hP 6 rfl rfl 5 (by decide) f_27 (fun _ h9 => h9) rfl dX4_add_1 ?_
  refine lv_istore (lv' := [(4, .int (nI nP)), (0, .ref (ad 6)), (1, .int (a)), (2, .int (b)), (3, .int (d))]) hx hb dX4_add_4 hl (by decide) rfl (fun ls hl => ?_)
  refine lv_aload_n hx hb dX4_add_6 rfl (lv_at hl 1 rfl) ?_
  refine va_get (D := D) (ci := 4) (v := .ref (ad 25)) (C := RX4) (T := TX4) (N := 9) hx hb hts iX4_add_X4 hown hK hP 6 rfl rfl 0 (by decide) f_9 (fun _ h9 => h9) rfl dX4_add_7 ?_
  refine lv_iload hx hb dX4_add_10 (lv_at hl 0 rfl) ?_
  refine lv_iload_n hx hb dX4_add_12 rfl (lv_at hl 2 rfl) ?_
  refine xis hx hb hK hD hP hS 25 1 (((nN, px, py, pz, fx, fy, fz, lf, ld, fi), (nB, fr, tt, ln, wi, sg, pu), (nR, rd, rx, ry, wv, fo), (re, dg), (nP, (upd tp nP a), bt, dp)), (sp, ac, kp, kc, kn, aw, dw, su, ss, sd)) rfl rfl (j := nP) (by decide) (by omega) rfl dX4_add_13 (fun H locs hP hS => ?_)
  refine lv_aload_n hx hb dX4_add_14 rfl (lv_at hl 1 rfl) ?_
  refine va_get (D := D) (ci := 4) (v := .ref (ad 26)) (C := RX4) (T := TX4) (N := 9) hx hb hts iX4_add_X4 hown hK hP 6 rfl rfl 1 (by decide) f_15 (fun _ h9 => h9) rfl dX4_add_15 ?_
  refine lv_iload hx hb dX4_add_18 (lv_at hl 0 rfl) ?_
  refine lv_iload_n hx hb dX4_add_20 rfl (lv_at hl 3 rfl) ?_
  refine xis hx hb hK hD hP hS 26 1 (((nN, px, py, pz, fx, fy, fz, lf, ld, fi), (nB, fr, tt, ln, wi, sg, pu), (nR, rd, rx, ry, wv, fo), (re, dg), (nP, (upd tp nP a), (upd bt nP b), dp)), (sp, ac, kp, kc, kn, aw, dw, su, ss, sd)) rfl rfl (j := nP) (by decide) (by omega) rfl dX4_add_21 (fun H locs hP hS => ?_)
  refine lv_aload_n hx hb dX4_add_22 rfl (lv_at hl 1 rfl) ?_
  refine va_get (D := D) (ci := 4) (v := .ref (ad 27)) (C := RX4) (T := TX4) (N := 9) hx hb hts iX4_add_X4 hown hK hP 6 rfl rfl 2 (by decide) f_18 (fun _ h9 => h9) rfl dX4_add_23 ?_
  refine lv_iload hx hb dX4_add_26 (lv_at hl 0 rfl) ?_
  refine lv_iload_n hx hb dX4_add_28 rfl (lv_at hl 4 rfl) ?_
  refine xis hx hb hK hD hP hS 27 1 (((nN, px, py, pz, fx, fy, fz, lf, ld, fi), (nB, fr, tt, ln, wi, sg, pu), (nR, rd, rx, ry, wv, fo), (re, dg), (nP, (upd tp nP a), (upd bt nP b), (upd dp nP d))), (sp, ac, kp, kc, kn, aw, dw, su, ss, sd)) rfl rfl (j := nP) (by decide) (by omega) rfl dX4_add_29 (fun H locs hP hS => ?_)
  refine lv_aload_n hx hb dX4_add_30 rfl (lv_at hl 1 rfl) ?_
  refine lv_iload hx hb dX4_add_31 (lv_at hl 0 rfl) ?_
  refine gcv (va_runV (As := [.int (nI nP)]) (rest := []) ⟨hx, hb, hml, hown, hts⟩ (kX4_lay l D cs ad hd H.size (((nN, px, py, pz, fx, fy, fz, lf, ld, fi), (nB, fr, tt, ln, wi, sg, pu), (nR, rd, rx, ry, wv, fo), (re, dg), (nP, (upd tp nP a), (upd bt nP b), (upd dp nP d))), (sp, ac, kp, kc, kn, aw, dw, su, ss, sd)) nP (by omega)) (cwV 1 hts gX4_add_X4_lay rfl rfl rfl (by decide +kernel) ⟨Nat.le_of_ble_eq_true rfl, Nat.le_of_ble_eq_true rfl⟩) (gPreV (EX_bl) (va_recv hK hP (ci := 4) (q0 := 6) rfl rfl) hP (fun U _ hW => EX_warm hW hE)) rfl rfl hl.1 rfl (lv_room (Nat.le_of_ble_eq_true rfl)) dX4_add_33 ⟨Nat.zero_le _, Nat.zero_le _⟩) hS (fun u_ H locs hw hP hS => ?_)
  obtain rfl := hw
  have hP : va_P D vwCl (WX cs ad (((nN, px, py, pz, fx, fy, fz, lf, ld, fi), (nB, fr, tt, ln, wi, sg, pu), (nR, rd, rx, ry, wv, fo), (re, dg), (nP, (upd tp nP a), (upd bt nP b), (upd dp nP d))), (sp, ac, kp, kc, kn, ((upd aw nP (shB (wideF (upd tp nP a) (upd bt nP b) nP) (su, ss, sd)).1)), ((upd dw nP (shB (wideF (upd tp nP a) (upd bt nP b) nP) (su, ss, sd)).2)), ((shStep (wideF (upd tp nP a) (upd bt nP b) nP) ((upd dp nP d) nP) (su, ss, sd)).1), ((shStep (wideF (upd tp nP a) (upd bt nP b) nP) ((upd dp nP d) nP) (su, ss, sd)).2.1), ((shStep (wideF (upd tp nP a) (upd bt nP b) nP) ((upd dp nP d) nP) (su, ss, sd)).2.2)))) H := hP
  refine lv_aload_n hx hb dX4_add_36 rfl (lv_at hl 1 rfl) ?_
  refine lv_dup hx hb dX4_add_37 rfl ?_
  refine va_get (D := D) (ci := 4) (v := .int (nI nP)) (C := RX4) (T := TX4) (N := 9) hx hb hts iX4_add_X4 hown hK hP 6 rfl rfl 5 (by decide) f_27 (fun _ h9 => h9) rfl dX4_add_38 ?_
  refine lv_iconst (v := nI 1) hx hb dX4_add_41 (by decide) ?_
  refine xia hx hb (nP + 1) dX4_add_42 rfl ?_
  refine xput (D := D) (ci := 4) (v := .int (nI (nP + 1))) (ty := .int) (C := RX4) (T := TX4) (N := 9) hx hb hts iX4_add_X4 tyX4 tyX4_ok nmX4 hown hK hD hP hS 6 (((nN, px, py, pz, fx, fy, fz, lf, ld, fi), (nB, fr, tt, ln, wi, sg, pu), (nR, rd, rx, ry, wv, fo), (re, dg), ((nP + 1), (upd tp nP a), (upd bt nP b), (upd dp nP d))), (sp, ac, kp, kc, kn, ((upd aw nP (shB (wideF (upd tp nP a) (upd bt nP b) nP) (su, ss, sd)).1)), ((upd dw nP (shB (wideF (upd tp nP a) (upd bt nP b) nP) (su, ss, sd)).2)), ((shStep (wideF (upd tp nP a) (upd bt nP b) nP) ((upd dp nP d) nP) (su, ss, sd)).1), ((shStep (wideF (upd tp nP a) (upd bt nP b) nP) ((upd dp nP d) nP) (su, ss, sd)).2.1), ((shStep (wideF (upd tp nP a) (upd bt nP b) nP) ((upd dp nP d) nP) (su, ss, sd)).2.2))) rfl rfl 5 (by decide) f_27 (fun _ h9 => h9) rfl (by decide +kernel) rfl rfl (Nat.le_of_ble_eq_true rfl) rfl dX4_add_43 (fun H locs hP hS => ?_)
  refine lv_iload hx hb dX4_add_46 (lv_at hl 0 rfl) ?_
  exact hret hS hP dX4_add_48 (⟨rfl, rfl⟩)
theorem iX6_panel_X4 : ∀ w ∈ u_ws RX4 TX4 9, w ∈ wsX6_panel := by decide +kernel
theorem iX6_panel_X6 : ∀ w ∈ u_ws RX6 TX6 6, w ∈ wsX6_panel := by decide +kernel
set_option maxHeartbeats 4000000 in
set_option maxRecDepth 100000 in
theorem kX6_panel (l : Launch) (D : va_G) (cs : Nat → ClassId) (ad : Nat → Nat) (hd : distX ad) (sz : Nat) (S : XS) (hnP : S.1.2.2.2.2.1 ≤ 30) (a b d : Int32) : Met l yX6_panel wsX6_panel ({ frames := 3, cells := 0, slots := 0, locals := 67 } : Room) (gP D (WX cs ad) (EX D cs) S sz ([.ref (ad 0), .int (a), .int (b), .int (d)] : List Value)) (va_Qi (qX_panel S a b d) (gB D (WX cs ad)) (gA (AX ad) sz)) 0 0 (gA (AX ad) sz) := by
  obtain ⟨⟨⟨nN, px, py, pz, fx, fy, fz, lf, ld, fi⟩, ⟨nB, fr, tt, ln, wi, sg, pu⟩, ⟨nR, rd, rx, ry, wv, fo⟩, ⟨re, dg⟩, ⟨nP, tp, bt, dp⟩⟩, ⟨sp, ac, kp, kc, kn, aw, dw, su, ss, sd⟩⟩ := S
  have hnP : nP ≤ 30 := hnP
  refine gMi (cc := cX6_panel) (maxL := 4) (plainFor_of_name (by decide)) rfl (Nat.le_of_ble_eq_true rfl) ?_
  intro p e s m below meth c Q hx hb hts hown hml hsz hE hret H locs hP hS ls hl
  subst hsz
  have hown : s.vm.findClass RX6 = some m.cls := hown
  have hK : va_K D vwCl (tysX cs) s := hE.1
  have hD : ∀ u, va_D (gA (AX ad) s.heap.size) (WX cs ad u) := fun u => WX_D hd u
  have hl : lv_has ls 4 [(0, .ref (ad 0)), (1, .int (a)), (2, .int (b)), (3, .int (d))] := hl
  have f_49 := hts (.fieldLink RX6 49 "NetShapes" "panels" "LNetShapes$Panels;") (by decide +kernel)
  have f_150 := hts (.fieldLink RX6 150 "NetShapes$Panels" "count" "I") (by decide +kernel)
  refine lv_aload_n hx hb dX6_panel_0 rfl (lv_at hl 0 rfl) ?_
  refine va_get (D := D) (ci := 6) (v := .ref (ad 6)) (C := RX6) (T := TX6) (N := 6) hx hb hts iX6_panel_X6 hown hK hP 0 rfl rfl 5 (by decide) f_49 (fun _ h9 => h9) rfl dX6_panel_1 ?_
  refine va_get (D := D) (ci := 4) (v := .int (nI nP)) (C := RX4) (T := TX4) (N := 9) hx hb hts iX6_panel_X4 hown hK hP 6 rfl rfl 5 (by decide) f_150 (fun _ h9 => h9) rfl dX6_panel_4 ?_
  refine lv_bipush (v := nI 30) hx hb dX6_panel_7 (by decide) ?_
  refine lv_icmp_ge (tgt := 38) hx hb dX6_panel_9 (by decide) (fun c_9_1 => ?_) (fun c_9_1 => ?_)
  · skip
    have c_9_1 : 30 ≤ nP := (nI_leI (a := 30) (b := nP) (by omega) (by omega)).mp c_9_1
    refine lv_iconst (v := (-1 : Int32)) hx hb dX6_panel_38 (by decide) ?_
    exact hret hS hP dX6_panel_39 (Or.inr ⟨fun q => absurd q.1 (by omega), rfl, rfl⟩)
  · skip
    have c_9_1 : ¬ (30 ≤ nP) := fun q => c_9_1 ((nI_leI (a := 30) (b := nP) (by omega) (by omega)).mpr q)
    refine lv_iload_n hx hb dX6_panel_12 rfl (lv_at hl 1 rfl) ?_
    refine g0i (va_runS (As := [.int (a)]) (rest := []) ⟨hx, hb, hml, hown, hts⟩ (kX6_isPanelWidth l D H.size a) (va_cwS 1 hts gX6_panel_X6_isPanelWidth rfl rfl rfl (by decide +kernel) ⟨Nat.le_of_ble_eq_true rfl, Nat.le_of_ble_eq_true rfl⟩) (gPreS (eT_bl) w0_P (fun _ _ _ => trivial)) rfl rfl hl.1 rfl (lv_room (Nat.le_of_ble_eq_true rfl)) dX6_panel_13 ⟨Nat.zero_le _, Nat.zero_le _⟩) hP hS (fun r_ H locs hw hP hS => ?_)
    rcases hw with ⟨rfl, b_2⟩ | ⟨rfl, b_2⟩
    · skip
      have b_2 : inW 400 (a) := b_2
      refine lv_if_eq (tgt := 38) hx hb dX6_panel_16 (by decide) (fun c_16_3 => absurd c_16_3 (by decide)) (fun _ => ?_)
      refine lv_iload_n hx hb dX6_panel_19 rfl (lv_at hl 2 rfl) ?_
      refine g0i (va_runS (As := [.int (b)]) (rest := []) ⟨hx, hb, hml, hown, hts⟩ (kX6_isPanelWidth l D H.size b) (va_cwS 1 hts gX6_panel_X6_isPanelWidth rfl rfl rfl (by decide +kernel) ⟨Nat.le_of_ble_eq_true rfl, Nat.le_of_ble_eq_true rfl⟩) (gPreS (eT_bl) w0_P (fun _ _ _ => trivial)) rfl rfl hl.1 rfl (lv_room (Nat.le_of_ble_eq_true rfl)) dX6_panel_20 ⟨Nat.zero_le _, Nat.zero_le _⟩) hP hS (fun r_ H locs hw hP hS => ?_)
      rcases hw with ⟨rfl, b_4⟩ | ⟨rfl, b_4⟩
      · skip
        have b_4 : inW 400 (b) := b_4
        refine lv_if_eq (tgt := 38) hx hb dX6_panel_23 (by decide) (fun c_23_5 => absurd c_23_5 (by decide)) (fun _ => ?_)
        refine lv_iload_n hx hb dX6_panel_26 rfl (lv_at hl 3 rfl) ?_
        refine lv_iconst (v := nI 1) hx hb dX6_panel_27 (by decide) ?_
        refine lv_icmp_lt (tgt := 38) hx hb dX6_panel_28 (by decide) (fun c_28_6 => ?_) (fun c_28_6 => ?_)
        · skip
          refine lv_iconst (v := (-1 : Int32)) hx hb dX6_panel_38 (by decide) ?_
          exact hret hS hP dX6_panel_39 (Or.inr ⟨fun q => inW_lo (by decide) c_28_6 q.2.2.2, rfl, rfl⟩)
        · skip
          refine lv_iload_n hx hb dX6_panel_31 rfl (lv_at hl 3 rfl) ?_
          refine lv_sipush (v := nI 200) hx hb dX6_panel_32 (by decide) ?_
          refine lv_icmp_le (tgt := 40) hx hb dX6_panel_35 (by decide) (fun c_35_7 => ?_) (fun c_35_7 => ?_)
          · skip
            refine lv_aload_n hx hb dX6_panel_40 rfl (lv_at hl 0 rfl) ?_
            refine va_get (D := D) (ci := 6) (v := .ref (ad 6)) (C := RX6) (T := TX6) (N := 6) hx hb hts iX6_panel_X6 hown hK hP 0 rfl rfl 5 (by decide) f_49 (fun _ h9 => h9) rfl dX6_panel_41 ?_
            refine lv_iload_n hx hb dX6_panel_44 rfl (lv_at hl 1 rfl) ?_
            refine lv_iload_n hx hb dX6_panel_45 rfl (lv_at hl 2 rfl) ?_
            refine lv_iload_n hx hb dX6_panel_46 rfl (lv_at hl 3 rfl) ?_
            refine gci (va_runV (As := [.int (a), .int (b), .int (d)]) (rest := []) ⟨hx, hb, hml, hown, hts⟩ (kX4_add l D cs ad hd H.size (((nN, px, py, pz, fx, fy, fz, lf, ld, fi), (nB, fr, tt, ln, wi, sg, pu), (nR, rd, rx, ry, wv, fo), (re, dg), (nP, tp, bt, dp)), (sp, ac, kp, kc, kn, aw, dw, su, ss, sd)) (show nP < 30 by omega) a b d) (cwV 3 hts gX6_panel_X4_add rfl rfl rfl (by decide +kernel) ⟨Nat.le_of_ble_eq_true rfl, Nat.le_of_ble_eq_true rfl⟩) (gPreV (EX_bl) (va_recv hK hP (ci := 4) (q0 := 6) rfl rfl) hP (fun U _ hW => EX_warm hW hE)) rfl rfl hl.1 rfl (lv_room (Nat.le_of_ble_eq_true rfl)) dX6_panel_47 ⟨Nat.zero_le _, Nat.zero_le _⟩) hS (fun r_ u_ H locs hw hP hS => ?_)
            obtain ⟨rfl, rfl⟩ := hw
            have hP : va_P D vwCl (WX cs ad (((nN, px, py, pz, fx, fy, fz, lf, ld, fi), (nB, fr, tt, ln, wi, sg, pu), (nR, rd, rx, ry, wv, fo), (re, dg), ((nP + 1), (upd tp nP a), (upd bt nP b), (upd dp nP d))), (sp, ac, kp, kc, kn, ((upd aw nP (shB (wideF (upd tp nP a) (upd bt nP b) nP) (su, ss, sd)).1)), ((upd dw nP (shB (wideF (upd tp nP a) (upd bt nP b) nP) (su, ss, sd)).2)), ((shStep (wideF (upd tp nP a) (upd bt nP b) nP) ((upd dp nP d) nP) (su, ss, sd)).1), ((shStep (wideF (upd tp nP a) (upd bt nP b) nP) ((upd dp nP d) nP) (su, ss, sd)).2.1), ((shStep (wideF (upd tp nP a) (upd bt nP b) nP) ((upd dp nP d) nP) (su, ss, sd)).2.2)))) H := hP
            exact hret hS hP dX6_panel_50 (Or.inl ⟨⟨by omega, b_2, b_4, inW_le (by decide) c_28_6 c_35_7⟩, rfl, rfl⟩)
          · skip
            refine lv_iconst (v := (-1 : Int32)) hx hb dX6_panel_38 (by decide) ?_
            exact hret hS hP dX6_panel_39 (Or.inr ⟨fun q => inW_nle (by decide) c_35_7 q.2.2.2, rfl, rfl⟩)
      · skip
        have b_4 : ¬ (inW 400 (b)) := b_4
        refine lv_if_eq (tgt := 38) hx hb dX6_panel_23 (by decide) (fun _ => ?_) (fun c_23_8 => absurd c_23_8 (by decide))
        refine lv_iconst (v := (-1 : Int32)) hx hb dX6_panel_38 (by decide) ?_
        exact hret hS hP dX6_panel_39 (Or.inr ⟨fun q => absurd q.2.2.1 b_4, rfl, rfl⟩)
    · skip
      have b_2 : ¬ (inW 400 (a)) := b_2
      refine lv_if_eq (tgt := 38) hx hb dX6_panel_16 (by decide) (fun _ => ?_) (fun c_16_9 => absurd c_16_9 (by decide))
      refine lv_iconst (v := (-1 : Int32)) hx hb dX6_panel_38 (by decide) ?_
      exact hret hS hP dX6_panel_39 (Or.inr ⟨fun q => absurd q.2.1 b_2, rfl, rfl⟩)
theorem iX7_panel_X7 : ∀ w ∈ u_ws RX7 TX7 31, w ∈ wsX7_panel := by decide +kernel
set_option maxHeartbeats 4000000 in
set_option maxRecDepth 100000 in
theorem kX7_panel (l : Launch) (D : va_G) (cs : Nat → ClassId) (ad : Nat → Nat) (hd : distM ad) (sz : Nat) (S : MS) (hnP : S.1.2.2.2.2.1 ≤ 30) (a b d : Int32) : Met l yX7_panel wsX7_panel ({ frames := 0, cells := 0, slots := 0, locals := 0 } : Room) (gP D (WM cs ad) (EM D cs) S sz ([.ref (ad 0), .int (a), .int (b), .int (d)] : List Value)) (va_Qi (fun r u => q_panel S.1 a b d r u.1 ∧ u.2 = S.2) (gB D (WM cs ad)) (gA (AM ad) sz)) 0 0 (gA (AM ad) sz) := by
  obtain ⟨⟨⟨nN, px, py, pz, fx, fy, fz, lf, ld, fi⟩, ⟨nB, fr, tt, ln, wi, sg, pu⟩, ⟨nR, rd, rx, ry, wv, fo⟩, ⟨re, dg⟩, ⟨nP, tp, bt, dp⟩⟩, ⟨nQ, fu⟩⟩ := S
  have hnP : nP ≤ 30 := hnP
  refine gMi (cc := cX7_panel) (maxL := 4) (plainFor_of_name (by decide)) rfl (Nat.le_of_ble_eq_true rfl) ?_
  intro p e s m below meth c Q hx hb hts hown hml hsz hE hret H locs hP hS ls hl
  subst hsz
  have hown : s.vm.findClass RX7 = some m.cls := hown
  have hK : va_K D vwCl (tysX cs) s := hE.1
  have hD : ∀ u, va_D (gA (AM ad) s.heap.size) (WM cs ad u) := fun u => WM_D hd u
  have hl : lv_has ls 4 [(0, .ref (ad 0)), (1, .int (a)), (2, .int (b)), (3, .int (d))] := hl
  have f_78 := hts (.fieldLink RX7 78 "NetShapesModel" "tops" "[I") (by decide +kernel)
  have f_81 := hts (.fieldLink RX7 81 "NetShapesModel" "bottoms" "[I") (by decide +kernel)
  have f_84 := hts (.fieldLink RX7 84 "NetShapesModel" "deeps" "[I") (by decide +kernel)
  have f_190 := hts (.fieldLink RX7 190 "NetShapesModel" "panels" "I") (by decide +kernel)
  refine lv_aload_n hx hb dX7_panel_0 rfl (lv_at hl 0 rfl) ?_
  refine va_get (D := D) (ci := 7) (v := .int (nI nP)) (C := RX7) (T := TX7) (N := 31) hx hb hts iX7_panel_X7 hown hK hP 0 rfl rfl 27 (by decide) f_190 (fun _ h9 => h9) rfl dX7_panel_1 ?_
  refine lv_bipush (v := nI 30) hx hb dX7_panel_4 (by decide) ?_
  refine lv_icmp_eq (tgt := 45) hx hb dX7_panel_6 (by decide) (fun c_6_1 => ?_) (fun c_6_1 => ?_)
  · skip
    have c_6_1 : nP = 30 := (nI_eq (a := nP) (b := 30) (by omega) (by omega)).mp c_6_1
    refine lv_iconst (v := (-1 : Int32)) hx hb dX7_panel_45 (by decide) ?_
    exact hret hS hP dX7_panel_46 (⟨Or.inr ⟨fun q => absurd q.1 (by omega), rfl, rfl⟩, rfl⟩)
  · skip
    have c_6_1 : ¬ (nP = 30) := fun q => c_6_1 ((nI_eq (a := nP) (b := 30) (by omega) (by omega)).mpr q)
    refine lv_iload_n hx hb dX7_panel_9 rfl (lv_at hl 1 rfl) ?_
    refine lv_iconst (v := nI 1) hx hb dX7_panel_10 (by decide) ?_
    refine lv_icmp_lt (tgt := 45) hx hb dX7_panel_11 (by decide) (fun c_11_2 => ?_) (fun c_11_2 => ?_)
    · skip
      refine lv_iconst (v := (-1 : Int32)) hx hb dX7_panel_45 (by decide) ?_
      exact hret hS hP dX7_panel_46 (⟨Or.inr ⟨fun q => inW_lo (by decide) c_11_2 q.2.1, rfl, rfl⟩, rfl⟩)
    · skip
      refine lv_iload_n hx hb dX7_panel_14 rfl (lv_at hl 1 rfl) ?_
      refine lv_sipush (v := nI 400) hx hb dX7_panel_15 (by decide) ?_
      refine lv_icmp_gt (tgt := 45) hx hb dX7_panel_18 (by decide) (fun c_18_3 => ?_) (fun c_18_3 => ?_)
      · skip
        refine lv_iconst (v := (-1 : Int32)) hx hb dX7_panel_45 (by decide) ?_
        exact hret hS hP dX7_panel_46 (⟨Or.inr ⟨fun q => inW_hi (by decide) c_18_3 q.2.1, rfl, rfl⟩, rfl⟩)
      · skip
        refine lv_iload_n hx hb dX7_panel_21 rfl (lv_at hl 2 rfl) ?_
        refine lv_iconst (v := nI 1) hx hb dX7_panel_22 (by decide) ?_
        refine lv_icmp_lt (tgt := 45) hx hb dX7_panel_23 (by decide) (fun c_23_4 => ?_) (fun c_23_4 => ?_)
        · skip
          refine lv_iconst (v := (-1 : Int32)) hx hb dX7_panel_45 (by decide) ?_
          exact hret hS hP dX7_panel_46 (⟨Or.inr ⟨fun q => inW_lo (by decide) c_23_4 q.2.2.1, rfl, rfl⟩, rfl⟩)
        · skip
          refine lv_iload_n hx hb dX7_panel_26 rfl (lv_at hl 2 rfl) ?_
          refine lv_sipush (v := nI 400) hx hb dX7_panel_27 (by decide) ?_
          refine lv_icmp_gt (tgt := 45) hx hb dX7_panel_30 (by decide) (fun c_30_5 => ?_) (fun c_30_5 => ?_)
          · skip
            refine lv_iconst (v := (-1 : Int32)) hx hb dX7_panel_45 (by decide) ?_
            exact hret hS hP dX7_panel_46 (⟨Or.inr ⟨fun q => inW_hi (by decide) c_30_5 q.2.2.1, rfl, rfl⟩, rfl⟩)
          · skip
            refine lv_iload_n hx hb dX7_panel_33 rfl (lv_at hl 3 rfl) ?_
            refine lv_iconst (v := nI 1) hx hb dX7_panel_34 (by decide) ?_
            refine lv_icmp_lt (tgt := 45) hx hb dX7_panel_35 (by decide) (fun c_35_6 => ?_) (fun c_35_6 => ?_)
            · skip
              refine lv_iconst (v := (-1 : Int32)) hx hb dX7_panel_45 (by decide) ?_
              exact hret hS hP dX7_panel_46 (⟨Or.inr ⟨fun q => inW_lo (by decide) c_35_6 q.2.2.2, rfl, rfl⟩, rfl⟩)
            · skip
              refine lv_iload_n hx hb dX7_panel_38 rfl (lv_at hl 3 rfl) ?_
              refine lv_sipush (v := nI 200) hx hb dX7_panel_39 (by decide) ?_
              refine lv_icmp_le (tgt := 47) hx hb dX7_panel_42 (by decide) (fun c_42_7 => ?_) (fun c_42_7 => ?_)
              · skip
                refine lv_aload_n hx hb dX7_panel_47 rfl (lv_at hl 0 rfl) ?_
                refine va_get (D := D) (ci := 7) (v := .ref (ad 21)) (C := RX7) (T := TX7) (N := 31) hx hb hts iX7_panel_X7 hown hK hP 0 rfl rfl 28 (by decide) f_78 (fun _ h9 => h9) rfl dX7_panel_48 ?_
                refine lv_aload_n hx hb dX7_panel_51 rfl (lv_at hl 0 rfl) ?_
                refine va_get (D := D) (ci := 7) (v := .int (nI nP)) (C := RX7) (T := TX7) (N := 31) hx hb hts iX7_panel_X7 hown hK hP 0 rfl rfl 27 (by decide) f_190 (fun _ h9 => h9) rfl dX7_panel_52 ?_
                refine lv_iload_n hx hb dX7_panel_55 rfl (lv_at hl 1 rfl) ?_
                refine xis hx hb hK hD hP hS 21 1 (((nN, px, py, pz, fx, fy, fz, lf, ld, fi), (nB, fr, tt, ln, wi, sg, pu), (nR, rd, rx, ry, wv, fo), (re, dg), (nP, (upd tp nP a), bt, dp)), (nQ, fu)) rfl rfl (j := nP) (by decide) (by omega) rfl dX7_panel_56 (fun H locs hP hS => ?_)
                refine lv_aload_n hx hb dX7_panel_57 rfl (lv_at hl 0 rfl) ?_
                refine va_get (D := D) (ci := 7) (v := .ref (ad 22)) (C := RX7) (T := TX7) (N := 31) hx hb hts iX7_panel_X7 hown hK hP 0 rfl rfl 29 (by decide) f_81 (fun _ h9 => h9) rfl dX7_panel_58 ?_
                refine lv_aload_n hx hb dX7_panel_61 rfl (lv_at hl 0 rfl) ?_
                refine va_get (D := D) (ci := 7) (v := .int (nI nP)) (C := RX7) (T := TX7) (N := 31) hx hb hts iX7_panel_X7 hown hK hP 0 rfl rfl 27 (by decide) f_190 (fun _ h9 => h9) rfl dX7_panel_62 ?_
                refine lv_iload_n hx hb dX7_panel_65 rfl (lv_at hl 2 rfl) ?_
                refine xis hx hb hK hD hP hS 22 1 (((nN, px, py, pz, fx, fy, fz, lf, ld, fi), (nB, fr, tt, ln, wi, sg, pu), (nR, rd, rx, ry, wv, fo), (re, dg), (nP, (upd tp nP a), (upd bt nP b), dp)), (nQ, fu)) rfl rfl (j := nP) (by decide) (by omega) rfl dX7_panel_66 (fun H locs hP hS => ?_)
                refine lv_aload_n hx hb dX7_panel_67 rfl (lv_at hl 0 rfl) ?_
                refine va_get (D := D) (ci := 7) (v := .ref (ad 23)) (C := RX7) (T := TX7) (N := 31) hx hb hts iX7_panel_X7 hown hK hP 0 rfl rfl 30 (by decide) f_84 (fun _ h9 => h9) rfl dX7_panel_68 ?_
                refine lv_aload_n hx hb dX7_panel_71 rfl (lv_at hl 0 rfl) ?_
                refine va_get (D := D) (ci := 7) (v := .int (nI nP)) (C := RX7) (T := TX7) (N := 31) hx hb hts iX7_panel_X7 hown hK hP 0 rfl rfl 27 (by decide) f_190 (fun _ h9 => h9) rfl dX7_panel_72 ?_
                refine lv_iload_n hx hb dX7_panel_75 rfl (lv_at hl 3 rfl) ?_
                refine xis hx hb hK hD hP hS 23 1 (((nN, px, py, pz, fx, fy, fz, lf, ld, fi), (nB, fr, tt, ln, wi, sg, pu), (nR, rd, rx, ry, wv, fo), (re, dg), (nP, (upd tp nP a), (upd bt nP b), (upd dp nP d))), (nQ, fu)) rfl rfl (j := nP) (by decide) (by omega) rfl dX7_panel_76 (fun H locs hP hS => ?_)
                refine lv_aload_n hx hb dX7_panel_77 rfl (lv_at hl 0 rfl) ?_
                refine lv_dup hx hb dX7_panel_78 rfl ?_
                refine va_get (D := D) (ci := 7) (v := .int (nI nP)) (C := RX7) (T := TX7) (N := 31) hx hb hts iX7_panel_X7 hown hK hP 0 rfl rfl 27 (by decide) f_190 (fun _ h9 => h9) rfl dX7_panel_79 ?_
                refine lv_iconst (v := nI 1) hx hb dX7_panel_82 (by decide) ?_
                refine xia hx hb (nP + 1) dX7_panel_83 rfl ?_
                refine xput (D := D) (ci := 7) (v := .int (nI (nP + 1))) (ty := .int) (C := RX7) (T := TX7) (N := 31) hx hb hts iX7_panel_X7 tyX7 tyX7_ok nmX7 hown hK hD hP hS 0 (((nN, px, py, pz, fx, fy, fz, lf, ld, fi), (nB, fr, tt, ln, wi, sg, pu), (nR, rd, rx, ry, wv, fo), (re, dg), ((nP + 1), (upd tp nP a), (upd bt nP b), (upd dp nP d))), (nQ, fu)) rfl rfl 27 (by decide) f_190 (fun _ h9 => h9) rfl (by decide +kernel) rfl rfl (Nat.le_of_ble_eq_true rfl) rfl dX7_panel_84 (fun H locs hP hS => ?_)
                refine lv_aload_n hx hb dX7_panel_87 rfl (lv_at hl 0 rfl) ?_
                refine va_get (D := D) (ci := 7) (v := .int (nI ((nP + 1)))) (C := RX7) (T := TX7) (N := 31) hx hb hts iX7_panel_X7 hown hK hP 0 rfl rfl 27 (by decide) f_190 (fun _ h9 => h9) rfl dX7_panel_88 ?_
                refine lv_iconst (v := nI 1) hx hb dX7_panel_91 (by decide) ?_
                refine xib hx hb (nP) dX7_panel_92 (rfl) ?_
                exact hret hS hP dX7_panel_93 (⟨Or.inl ⟨⟨by omega, inW_of (by decide) c_11_2 c_18_3, inW_of (by decide) c_23_4 c_30_5, inW_le (by decide) c_35_6 c_42_7⟩, rfl, rfl⟩, rfl⟩)
              · skip
                refine lv_iconst (v := (-1 : Int32)) hx hb dX7_panel_45 (by decide) ?_
                exact hret hS hP dX7_panel_46 (⟨Or.inr ⟨fun q => inW_nle (by decide) c_42_7 q.2.2.2, rfl, rfl⟩, rfl⟩)
theorem iX4_meshesAfter_X4 : ∀ w ∈ u_ws RX4 TX4 9, w ∈ wsX4_meshesAfter := by decide +kernel
set_option maxHeartbeats 4000000 in
set_option maxRecDepth 100000 in
theorem kX4_meshesAfter (l : Launch) (D : va_G) (cs : Nat → ClassId) (ad : Nat → Nat) (hd : distX ad) (sz : Nat) (S : XS) (j : Nat) (hj : j < 30) (k : Int32) (hz : ¬ S.1.2.2.2.2.2.2.2 j = 0) : Met l yX4_meshesAfter wsX4_meshesAfter ({ frames := 0, cells := 0, slots := 0, locals := 0 } : Room) (gP D (WX cs ad) (EX D cs) S sz ([.ref (ad 6), .int (nI j), .int (k)] : List Value)) (va_Qi (fun r u => match S with | (((nN, px, py, pz, fx, fy, fz, lf, ld, fi), (nB, fr, tt, ln, wi, sg, pu), (nR, rd, rx, ry, wv, fo), (re, dg), (nP, tp, bt, dp)), (sp, ac, kp, kc, kn, aw, dw, su, ss, sd)) => u = (((nN, px, py, pz, fx, fy, fz, lf, ld, fi), (nB, fr, tt, ln, wi, sg, pu), (nR, rd, rx, ry, wv, fo), (re, dg), (nP, tp, bt, dp)), (sp, ac, kp, kc, kn, aw, dw, su, ss, sd)) ∧ r = mesh tp bt dp j k) (gB D (WX cs ad)) (gA (AX ad) sz)) 0 0 (gA (AX ad) sz) := by
  obtain ⟨⟨⟨nN, px, py, pz, fx, fy, fz, lf, ld, fi⟩, ⟨nB, fr, tt, ln, wi, sg, pu⟩, ⟨nR, rd, rx, ry, wv, fo⟩, ⟨re, dg⟩, ⟨nP, tp, bt, dp⟩⟩, ⟨sp, ac, kp, kc, kn, aw, dw, su, ss, sd⟩⟩ := S
  have hz : ¬ dp j = 0 := hz
  refine gMi (cc := cX4_meshesAfter) (maxL := 4) (plainFor_of_name (by decide)) rfl (Nat.le_of_ble_eq_true rfl) ?_
  intro p e s m below meth c Q hx hb hts hown hml hsz hE hret H locs hP hS ls hl
  subst hsz
  have hown : s.vm.findClass RX4 = some m.cls := hown
  have hK : va_K D vwCl (tysX cs) s := hE.1
  have hD : ∀ u, va_D (gA (AX ad) s.heap.size) (WX cs ad u) := fun u => WX_D hd u
  have hl : lv_has ls 4 [(0, .ref (ad 6)), (1, .int (nI j)), (2, .int (k))] := hl
  have f_9 := hts (.fieldLink RX4 9 "NetShapes$Panels" "top" "[I") (by decide +kernel)
  have f_15 := hts (.fieldLink RX4 15 "NetShapes$Panels" "bottom" "[I") (by decide +kernel)
  have f_18 := hts (.fieldLink RX4 18 "NetShapes$Panels" "deep" "[I") (by decide +kernel)
  refine lv_aload_n hx hb dX4_meshesAfter_0 rfl (lv_at hl 0 rfl) ?_
  refine va_get (D := D) (ci := 4) (v := .ref (ad 26)) (C := RX4) (T := TX4) (N := 9) hx hb hts iX4_meshesAfter_X4 hown hK hP 6 rfl rfl 1 (by decide) f_15 (fun _ h9 => h9) rfl dX4_meshesAfter_1 ?_
  refine lv_iload_n hx hb dX4_meshesAfter_4 rfl (lv_at hl 1 rfl) ?_
  refine xil hx hb hK hP 26 1 rfl rfl (j := j) (by decide) (by omega) dX4_meshesAfter_5 ?_
  refine lv_aload_n hx hb dX4_meshesAfter_6 rfl (lv_at hl 0 rfl) ?_
  refine va_get (D := D) (ci := 4) (v := .ref (ad 25)) (C := RX4) (T := TX4) (N := 9) hx hb hts iX4_meshesAfter_X4 hown hK hP 6 rfl rfl 0 (by decide) f_9 (fun _ h9 => h9) rfl dX4_meshesAfter_7 ?_
  refine lv_iload_n hx hb dX4_meshesAfter_10 rfl (lv_at hl 1 rfl) ?_
  refine xil hx hb hK hP 25 1 rfl rfl (j := j) (by decide) (by omega) dX4_meshesAfter_11 ?_
  refine lv_isub hx hb dX4_meshesAfter_12 ?_
  refine lv_istore_n (lv' := [(3, .int ((bt j) - (tp j))), (0, .ref (ad 6)), (1, .int (nI j)), (2, .int (k))]) hx hb dX4_meshesAfter_13 rfl hl (by decide) rfl (fun ls hl => ?_)
  refine lv_aload_n hx hb dX4_meshesAfter_14 rfl (lv_at hl 1 rfl) ?_
  refine va_get (D := D) (ci := 4) (v := .ref (ad 25)) (C := RX4) (T := TX4) (N := 9) hx hb hts iX4_meshesAfter_X4 hown hK hP 6 rfl rfl 0 (by decide) f_9 (fun _ h9 => h9) rfl dX4_meshesAfter_15 ?_
  refine lv_iload_n hx hb dX4_meshesAfter_18 rfl (lv_at hl 2 rfl) ?_
  refine xil hx hb hK hP 25 1 rfl rfl (j := j) (by decide) (by omega) dX4_meshesAfter_19 ?_
  refine lv_iload_n hx hb dX4_meshesAfter_20 rfl (lv_at hl 0 rfl) ?_
  refine lv_iload_n hx hb dX4_meshesAfter_21 rfl (lv_at hl 3 rfl) ?_
  refine lv_imul hx hb dX4_meshesAfter_22 ?_
  refine lv_aload_n hx hb dX4_meshesAfter_23 rfl (lv_at hl 1 rfl) ?_
  refine va_get (D := D) (ci := 4) (v := .ref (ad 27)) (C := RX4) (T := TX4) (N := 9) hx hb hts iX4_meshesAfter_X4 hown hK hP 6 rfl rfl 2 (by decide) f_18 (fun _ h9 => h9) rfl dX4_meshesAfter_24 ?_
  refine lv_iload_n hx hb dX4_meshesAfter_27 rfl (lv_at hl 2 rfl) ?_
  refine xil hx hb hK hP 27 1 rfl rfl (j := j) (by decide) (by omega) dX4_meshesAfter_28 ?_
  refine lv_idiv hx hb dX4_meshesAfter_29 hz ?_
  refine lv_iadd hx hb dX4_meshesAfter_30 ?_
  exact hret hS hP dX4_meshesAfter_31 (⟨rfl, rfl⟩)
theorem iX7_meshes_X7 : ∀ w ∈ u_ws RX7 TX7 31, w ∈ wsX7_meshes := by decide +kernel
set_option maxHeartbeats 4000000 in
set_option maxRecDepth 100000 in
theorem kX7_meshes (l : Launch) (D : va_G) (cs : Nat → ClassId) (ad : Nat → Nat) (hd : distM ad) (sz : Nat) (S : MS) (j : Nat) (hj : j < 30) (k : Int32) (hz : ¬ S.1.2.2.2.2.2.2.2 j = 0) : Met l yX7_meshes wsX7_meshes ({ frames := 0, cells := 0, slots := 0, locals := 0 } : Room) (gP D (WM cs ad) (EM D cs) S sz ([.ref (ad 0), .int (nI j), .int (k)] : List Value)) (va_Qi (fun r u => match S with | (((nN, px, py, pz, fx, fy, fz, lf, ld, fi), (nB, fr, tt, ln, wi, sg, pu), (nR, rd, rx, ry, wv, fo), (re, dg), (nP, tp, bt, dp)), (nQ, fu)) => u = (((nN, px, py, pz, fx, fy, fz, lf, ld, fi), (nB, fr, tt, ln, wi, sg, pu), (nR, rd, rx, ry, wv, fo), (re, dg), (nP, tp, bt, dp)), (nQ, fu)) ∧ r = mesh tp bt dp j (k + nI 1)) (gB D (WM cs ad)) (gA (AM ad) sz)) 0 0 (gA (AM ad) sz) := by
  obtain ⟨⟨⟨nN, px, py, pz, fx, fy, fz, lf, ld, fi⟩, ⟨nB, fr, tt, ln, wi, sg, pu⟩, ⟨nR, rd, rx, ry, wv, fo⟩, ⟨re, dg⟩, ⟨nP, tp, bt, dp⟩⟩, ⟨nQ, fu⟩⟩ := S
  have hz : ¬ dp j = 0 := hz
  refine gMi (cc := cX7_meshes) (maxL := 3) (plainFor_of_name (by decide)) rfl (Nat.le_of_ble_eq_true rfl) ?_
  intro p e s m below meth c Q hx hb hts hown hml hsz hE hret H locs hP hS ls hl
  subst hsz
  have hown : s.vm.findClass RX7 = some m.cls := hown
  have hK : va_K D vwCl (tysX cs) s := hE.1
  have hD : ∀ u, va_D (gA (AM ad) s.heap.size) (WM cs ad u) := fun u => WM_D hd u
  have hl : lv_has ls 3 [(0, .ref (ad 0)), (1, .int (nI j)), (2, .int (k))] := hl
  have f_78 := hts (.fieldLink RX7 78 "NetShapesModel" "tops" "[I") (by decide +kernel)
  have f_81 := hts (.fieldLink RX7 81 "NetShapesModel" "bottoms" "[I") (by decide +kernel)
  have f_84 := hts (.fieldLink RX7 84 "NetShapesModel" "deeps" "[I") (by decide +kernel)
  refine lv_aload_n hx hb dX7_meshes_0 rfl (lv_at hl 0 rfl) ?_
  refine va_get (D := D) (ci := 7) (v := .ref (ad 21)) (C := RX7) (T := TX7) (N := 31) hx hb hts iX7_meshes_X7 hown hK hP 0 rfl rfl 28 (by decide) f_78 (fun _ h9 => h9) rfl dX7_meshes_1 ?_
  refine lv_iload_n hx hb dX7_meshes_4 rfl (lv_at hl 1 rfl) ?_
  refine xil hx hb hK hP 21 1 rfl rfl (j := j) (by decide) (by omega) dX7_meshes_5 ?_
  refine lv_aload_n hx hb dX7_meshes_6 rfl (lv_at hl 0 rfl) ?_
  refine va_get (D := D) (ci := 7) (v := .ref (ad 22)) (C := RX7) (T := TX7) (N := 31) hx hb hts iX7_meshes_X7 hown hK hP 0 rfl rfl 29 (by decide) f_81 (fun _ h9 => h9) rfl dX7_meshes_7 ?_
  refine lv_iload_n hx hb dX7_meshes_10 rfl (lv_at hl 1 rfl) ?_
  refine xil hx hb hK hP 22 1 rfl rfl (j := j) (by decide) (by omega) dX7_meshes_11 ?_
  refine lv_aload_n hx hb dX7_meshes_12 rfl (lv_at hl 0 rfl) ?_
  refine va_get (D := D) (ci := 7) (v := .ref (ad 21)) (C := RX7) (T := TX7) (N := 31) hx hb hts iX7_meshes_X7 hown hK hP 0 rfl rfl 28 (by decide) f_78 (fun _ h9 => h9) rfl dX7_meshes_13 ?_
  refine lv_iload_n hx hb dX7_meshes_16 rfl (lv_at hl 1 rfl) ?_
  refine xil hx hb hK hP 21 1 rfl rfl (j := j) (by decide) (by omega) dX7_meshes_17 ?_
  refine lv_isub hx hb dX7_meshes_18 ?_
  refine lv_iload_n hx hb dX7_meshes_19 rfl (lv_at hl 2 rfl) ?_
  refine lv_iconst (v := nI 1) hx hb dX7_meshes_20 (by decide) ?_
  refine lv_iadd hx hb dX7_meshes_21 ?_
  refine lv_imul hx hb dX7_meshes_22 ?_
  refine lv_aload_n hx hb dX7_meshes_23 rfl (lv_at hl 0 rfl) ?_
  refine va_get (D := D) (ci := 7) (v := .ref (ad 23)) (C := RX7) (T := TX7) (N := 31) hx hb hts iX7_meshes_X7 hown hK hP 0 rfl rfl 30 (by decide) f_84 (fun _ h9 => h9) rfl dX7_meshes_24 ?_
  refine lv_iload_n hx hb dX7_meshes_27 rfl (lv_at hl 1 rfl) ?_
  refine xil hx hb hK hP 23 1 rfl rfl (j := j) (by decide) (by omega) dX7_meshes_28 ?_
  refine lv_idiv hx hb dX7_meshes_29 hz ?_
  refine lv_iadd hx hb dX7_meshes_30 ?_
  exact hret hS hP dX7_meshes_31 (⟨rfl, rfl⟩)
theorem iX6_cut_X4 : ∀ w ∈ u_ws RX4 TX4 9, w ∈ wsX6_cut := by decide +kernel
theorem iX6_cut_X6 : ∀ w ∈ u_ws RX6 TX6 6, w ∈ wsX6_cut := by decide +kernel
set_option maxHeartbeats 4000000 in
set_option maxRecDepth 100000 in
theorem kX6_cut (l : Launch) (D : va_G) (cs : Nat → ClassId) (ad : Nat → Nat) (hd : distX ad) (sz : Nat) (S : XS) (hnP : S.1.2.2.2.2.1 ≤ 30)(hdp : ∀ j, j < S.1.2.2.2.2.1 → ¬ S.1.2.2.2.2.2.2.2 j = 0) (x k w : Int32) : Met l yX6_cut wsX6_cut ({ frames := 1, cells := 0, slots := 0, locals := 23 } : Room) (gP D (WX cs ad) (EX D cs) S sz ([.ref (ad 0), .int (x), .int (k), .int (w)] : List Value)) (va_Qi (fun r u => q_cut S.1 x k w r ∧ u = S) (gB D (WX cs ad)) (gA (AX ad) sz)) 0 0 (gA (AX ad) sz) := by
  obtain ⟨⟨⟨nN, px, py, pz, fx, fy, fz, lf, ld, fi⟩, ⟨nB, fr, tt, ln, wi, sg, pu⟩, ⟨nR, rd, rx, ry, wv, fo⟩, ⟨re, dg⟩, ⟨nP, tp, bt, dp⟩⟩, ⟨sp, ac, kp, kc, kn, aw, dw, su, ss, sd⟩⟩ := S
  have hnP : nP ≤ 30 := hnP
  have hdp : ∀ j, j < nP → ¬ dp j = 0 := hdp
  refine gMi (cc := cX6_cut) (maxL := 4) (plainFor_of_name (by decide)) rfl (Nat.le_of_ble_eq_true rfl) ?_
  intro p e s m below meth c Q hx hb hts hown hml hsz hE hret H locs hP hS ls hl
  subst hsz
  have hown : s.vm.findClass RX6 = some m.cls := hown
  have hK : va_K D vwCl (tysX cs) s := hE.1
  have hD : ∀ u, va_D (gA (AX ad) s.heap.size) (WX cs ad u) := fun u => WX_D hd u
  have hl : lv_has ls 4 [(0, .ref (ad 0)), (1, .int (x)), (2, .int (k)), (3, .int (w))] := hl
  have f_49 := hts (.fieldLink RX6 49 "NetShapes" "panels" "LNetShapes$Panels;") (by decide +kernel)
  have f_158 := hts (.fieldLink RX6 158 "NetShapes$Panels" "deep" "[I") (by decide +kernel)
  refine lv_aload_n hx hb dX6_cut_0 rfl (lv_at hl 0 rfl) ?_
  refine va_get (D := D) (ci := 6) (v := .ref (ad 6)) (C := RX6) (T := TX6) (N := 6) hx hb hts iX6_cut_X6 hown hK hP 0 rfl rfl 5 (by decide) f_49 (fun _ h9 => h9) rfl dX6_cut_1 ?_
  refine lv_iload_n hx hb dX6_cut_4 rfl (lv_at hl 1 rfl) ?_
  refine gci (va_runV (As := [.int (x)]) (rest := []) ⟨hx, hb, hml, hown, hts⟩ (kX4_has l D cs ad hd H.size (((nN, px, py, pz, fx, fy, fz, lf, ld, fi), (nB, fr, tt, ln, wi, sg, pu), (nR, rd, rx, ry, wv, fo), (re, dg), (nP, tp, bt, dp)), (sp, ac, kp, kc, kn, aw, dw, su, ss, sd)) hnP x) (cwV 1 hts gX6_cut_X4_has rfl rfl rfl (by decide +kernel) ⟨Nat.le_of_ble_eq_true rfl, Nat.le_of_ble_eq_true rfl⟩) (gPreV (EX_bl) (va_recv hK hP (ci := 4) (q0 := 6) rfl rfl) hP (fun U _ hW => EX_warm hW hE)) rfl rfl hl.1 rfl (lv_room (Nat.le_of_ble_eq_true rfl)) dX6_cut_5 ⟨Nat.zero_le _, Nat.zero_le _⟩) hS (fun r_ u_ H locs hw hP hS => ?_)
  obtain ⟨rfl, hw⟩ := hw
  rcases hw with ⟨rfl, b_1⟩ | ⟨rfl, b_1⟩
  · skip
    have b_1 : inN (nP) (x) := b_1
    obtain ⟨j, hj, rfl⟩ := b_1
    refine lv_if_eq (tgt := 28) hx hb dX6_cut_8 (by decide) (fun c_8_2 => absurd c_8_2 (by decide)) (fun _ => ?_)
    refine lv_iload_n hx hb dX6_cut_11 rfl (lv_at hl 2 rfl) ?_
    refine lv_if_lt (tgt := 28) hx hb dX6_cut_12 (by decide) (fun c_12_3 => ?_) (fun c_12_3 => ?_)
    · skip
      refine lv_iconst (v := (-1 : Int32)) hx hb dX6_cut_28 (by decide) ?_
      exact hret hS hP dX6_cut_29 (⟨Or.inr ⟨fun ⟨i, hi, ei, q1, q2, q3⟩ => q1 c_12_3, rfl⟩, rfl⟩)
    · skip
      refine lv_iload_n hx hb dX6_cut_15 rfl (lv_at hl 2 rfl) ?_
      refine lv_aload_n hx hb dX6_cut_16 rfl (lv_at hl 0 rfl) ?_
      refine va_get (D := D) (ci := 6) (v := .ref (ad 6)) (C := RX6) (T := TX6) (N := 6) hx hb hts iX6_cut_X6 hown hK hP 0 rfl rfl 5 (by decide) f_49 (fun _ h9 => h9) rfl dX6_cut_17 ?_
      refine va_get (D := D) (ci := 4) (v := .ref (ad 27)) (C := RX4) (T := TX4) (N := 9) hx hb hts iX6_cut_X4 hown hK hP 6 rfl rfl 2 (by decide) f_158 (fun _ h9 => h9) rfl dX6_cut_20 ?_
      refine lv_iload_n hx hb dX6_cut_23 rfl (lv_at hl 1 rfl) ?_
      refine xil hx hb hK hP 27 1 rfl rfl (j := j) (by decide) (by omega) dX6_cut_24 ?_
      refine lv_icmp_lt (tgt := 30) hx hb dX6_cut_25 (by decide) (fun c_25_4 => ?_) (fun c_25_4 => ?_)
      · skip
        refine lv_iload_n hx hb dX6_cut_30 rfl (lv_at hl 3 rfl) ?_
        refine xsw (t0 := 56) (t1 := 68) (td := 90) hx hb dX6_cut_31 (by decide) (by decide) (by decide) (fun w0 => ?_) (fun w1 => ?_) (fun n0 n1 => ?_)
        · skip
          refine lv_aload_n hx hb dX6_cut_56 rfl (lv_at hl 0 rfl) ?_
          refine va_get (D := D) (ci := 6) (v := .ref (ad 6)) (C := RX6) (T := TX6) (N := 6) hx hb hts iX6_cut_X6 hown hK hP 0 rfl rfl 5 (by decide) f_49 (fun _ h9 => h9) rfl dX6_cut_57 ?_
          refine lv_iload_n hx hb dX6_cut_60 rfl (lv_at hl 1 rfl) ?_
          refine lv_iload_n hx hb dX6_cut_61 rfl (lv_at hl 2 rfl) ?_
          refine lv_iconst (v := nI 1) hx hb dX6_cut_62 (by decide) ?_
          refine lv_iadd hx hb dX6_cut_63 ?_
          refine gci (va_runV (As := [.int (nI j), .int (k + (nI 1))]) (rest := []) ⟨hx, hb, hml, hown, hts⟩ (kX4_meshesAfter l D cs ad hd H.size (((nN, px, py, pz, fx, fy, fz, lf, ld, fi), (nB, fr, tt, ln, wi, sg, pu), (nR, rd, rx, ry, wv, fo), (re, dg), (nP, tp, bt, dp)), (sp, ac, kp, kc, kn, aw, dw, su, ss, sd)) j (by omega) (k + (nI 1)) (hdp j hj)) (cwV 2 hts gX6_cut_X4_meshesAfter rfl rfl rfl (by decide +kernel) ⟨Nat.le_of_ble_eq_true rfl, Nat.le_of_ble_eq_true rfl⟩) (gPreV (EX_bl) (va_recv hK hP (ci := 4) (q0 := 6) rfl rfl) hP (fun U _ hW => EX_warm hW hE)) rfl rfl hl.1 rfl (lv_room (Nat.le_of_ble_eq_true rfl)) dX6_cut_64 ⟨Nat.zero_le _, Nat.zero_le _⟩) hS (fun r_ u_ H locs hw hP hS => ?_)
          obtain ⟨rfl, hw⟩ := hw
          obtain ⟨v_5, ev_5⟩ : ∃ z, z = r_ := ⟨r_, rfl⟩
          rw [← ev_5] at hw ⊢
          clear ev_5
          have ev_5 : v_5 = mesh tp bt dp j (k + (nI 1)) := hw
          exact hret hS hP dX6_cut_67 (⟨Or.inl ⟨j, hj, rfl, c_12_3, c_25_4, Or.inl ⟨w0, ev_5⟩⟩, rfl⟩)
        · skip
          refine lv_aload_n hx hb dX6_cut_68 rfl (lv_at hl 0 rfl) ?_
          refine va_get (D := D) (ci := 6) (v := .ref (ad 6)) (C := RX6) (T := TX6) (N := 6) hx hb hts iX6_cut_X6 hown hK hP 0 rfl rfl 5 (by decide) f_49 (fun _ h9 => h9) rfl dX6_cut_69 ?_
          refine lv_iload_n hx hb dX6_cut_72 rfl (lv_at hl 1 rfl) ?_
          refine lv_iload_n hx hb dX6_cut_73 rfl (lv_at hl 2 rfl) ?_
          refine lv_iconst (v := nI 1) hx hb dX6_cut_74 (by decide) ?_
          refine lv_iadd hx hb dX6_cut_75 ?_
          refine gci (va_runV (As := [.int (nI j), .int (k + (nI 1))]) (rest := []) ⟨hx, hb, hml, hown, hts⟩ (kX4_meshesAfter l D cs ad hd H.size (((nN, px, py, pz, fx, fy, fz, lf, ld, fi), (nB, fr, tt, ln, wi, sg, pu), (nR, rd, rx, ry, wv, fo), (re, dg), (nP, tp, bt, dp)), (sp, ac, kp, kc, kn, aw, dw, su, ss, sd)) j (by omega) (k + (nI 1)) (hdp j hj)) (cwV 2 hts gX6_cut_X4_meshesAfter rfl rfl rfl (by decide +kernel) ⟨Nat.le_of_ble_eq_true rfl, Nat.le_of_ble_eq_true rfl⟩) (gPreV (EX_bl) (va_recv hK hP (ci := 4) (q0 := 6) rfl rfl) hP (fun U _ hW => EX_warm hW hE)) rfl rfl hl.1 rfl (lv_room (Nat.le_of_ble_eq_true rfl)) dX6_cut_76 ⟨Nat.zero_le _, Nat.zero_le _⟩) hS (fun r_ u_ H locs hw hP hS => ?_)
          obtain ⟨rfl, hw⟩ := hw
          obtain ⟨v_6, ev_6⟩ : ∃ z, z = r_ := ⟨r_, rfl⟩
          rw [← ev_6] at hw ⊢
          clear ev_6
          have ev_6 : v_6 = mesh tp bt dp j (k + (nI 1)) := hw
          refine lv_aload_n hx hb dX6_cut_79 rfl (lv_at hl 0 rfl) ?_
          refine va_get (D := D) (ci := 6) (v := .ref (ad 6)) (C := RX6) (T := TX6) (N := 6) hx hb hts iX6_cut_X6 hown hK hP 0 rfl rfl 5 (by decide) f_49 (fun _ h9 => h9) rfl dX6_cut_80 ?_
          refine lv_iload_n hx hb dX6_cut_83 rfl (lv_at hl 1 rfl) ?_
          refine lv_iload_n hx hb dX6_cut_84 rfl (lv_at hl 2 rfl) ?_
          refine gci (va_runV (As := [.int (nI j), .int (k)]) (rest := [.int (v_6)]) ⟨hx, hb, hml, hown, hts⟩ (kX4_meshesAfter l D cs ad hd H.size (((nN, px, py, pz, fx, fy, fz, lf, ld, fi), (nB, fr, tt, ln, wi, sg, pu), (nR, rd, rx, ry, wv, fo), (re, dg), (nP, tp, bt, dp)), (sp, ac, kp, kc, kn, aw, dw, su, ss, sd)) j (by omega) k (hdp j hj)) (cwV 2 hts gX6_cut_X4_meshesAfter rfl rfl rfl (by decide +kernel) ⟨Nat.le_of_ble_eq_true rfl, Nat.le_of_ble_eq_true rfl⟩) (gPreV (EX_bl) (va_recv hK hP (ci := 4) (q0 := 6) rfl rfl) hP (fun U _ hW => EX_warm hW hE)) rfl rfl hl.1 rfl (lv_room (Nat.le_of_ble_eq_true rfl)) dX6_cut_85 ⟨Nat.zero_le _, Nat.zero_le _⟩) hS (fun r_ u_ H locs hw hP hS => ?_)
          obtain ⟨rfl, hw⟩ := hw
          obtain ⟨v_7, ev_7⟩ : ∃ z, z = r_ := ⟨r_, rfl⟩
          rw [← ev_7] at hw ⊢
          clear ev_7
          have ev_7 : v_7 = mesh tp bt dp j k := hw
          refine lv_isub hx hb dX6_cut_88 ?_
          exact hret hS hP dX6_cut_89 (⟨Or.inl ⟨j, hj, rfl, c_12_3, c_25_4, Or.inr ⟨w1, by rw [ev_6, ev_7]⟩⟩, rfl⟩)
        · skip
          refine lv_iconst (v := (-1 : Int32)) hx hb dX6_cut_90 (by decide) ?_
          exact hret hS hP dX6_cut_91 (⟨Or.inr ⟨fun ⟨i, hi, ei, q1, q2, q3⟩ => q3.elim n0 n1, rfl⟩, rfl⟩)
      · skip
        refine lv_iconst (v := (-1 : Int32)) hx hb dX6_cut_28 (by decide) ?_
        exact hret hS hP dX6_cut_29 (⟨Or.inr ⟨fun ⟨i, hi, ei, q1, q2, q3⟩ => (by have e := (nI_eq (by omega) (by omega)).mp ei; subst e; exact c_25_4 q2), rfl⟩, rfl⟩)
  · skip
    have b_1 : ¬ (inN (nP) (x)) := b_1
    refine lv_if_eq (tgt := 28) hx hb dX6_cut_8 (by decide) (fun _ => ?_) (fun c_8_8 => absurd c_8_8 (by decide))
    refine lv_iconst (v := (-1 : Int32)) hx hb dX6_cut_28 (by decide) ?_
    exact hret hS hP dX6_cut_29 (⟨Or.inr ⟨fun ⟨i, hi, ei, q1, q2, q3⟩ => b_1 ⟨i, hi, ei⟩, rfl⟩, rfl⟩)
theorem iX7_cut_X7 : ∀ w ∈ u_ws RX7 TX7 31, w ∈ wsX7_cut := by decide +kernel
set_option maxHeartbeats 4000000 in
set_option maxRecDepth 100000 in
theorem kX7_cut (l : Launch) (D : va_G) (cs : Nat → ClassId) (ad : Nat → Nat) (hd : distM ad) (sz : Nat) (S : MS) (hnP : S.1.2.2.2.2.1 ≤ 30)(hdp : ∀ j, j < S.1.2.2.2.2.1 → ¬ S.1.2.2.2.2.2.2.2 j = 0) (x k w : Int32) : Met l yX7_cut wsX7_cut ({ frames := 1, cells := 0, slots := 0, locals := 22 } : Room) (gP D (WM cs ad) (EM D cs) S sz ([.ref (ad 0), .int (x), .int (k), .int (w)] : List Value)) (va_Qi (fun r u => q_cut S.1 x k w r ∧ u = S) (gB D (WM cs ad)) (gA (AM ad) sz)) 0 0 (gA (AM ad) sz) := by
  obtain ⟨⟨⟨nN, px, py, pz, fx, fy, fz, lf, ld, fi⟩, ⟨nB, fr, tt, ln, wi, sg, pu⟩, ⟨nR, rd, rx, ry, wv, fo⟩, ⟨re, dg⟩, ⟨nP, tp, bt, dp⟩⟩, ⟨nQ, fu⟩⟩ := S
  have hnP : nP ≤ 30 := hnP
  have hdp : ∀ j, j < nP → ¬ dp j = 0 := hdp
  refine gMi (cc := cX7_cut) (maxL := 4) (plainFor_of_name (by decide)) rfl (Nat.le_of_ble_eq_true rfl) ?_
  intro p e s m below meth c Q hx hb hts hown hml hsz hE hret H locs hP hS ls hl
  subst hsz
  have hown : s.vm.findClass RX7 = some m.cls := hown
  have hK : va_K D vwCl (tysX cs) s := hE.1
  have hD : ∀ u, va_D (gA (AM ad) s.heap.size) (WM cs ad u) := fun u => WM_D hd u
  have hl : lv_has ls 4 [(0, .ref (ad 0)), (1, .int (x)), (2, .int (k)), (3, .int (w))] := hl
  have f_84 := hts (.fieldLink RX7 84 "NetShapesModel" "deeps" "[I") (by decide +kernel)
  refine lv_aload_n hx hb dX7_cut_0 rfl (lv_at hl 0 rfl) ?_
  refine lv_iload_n hx hb dX7_cut_1 rfl (lv_at hl 1 rfl) ?_
  refine gci (va_runV (As := [.int (x)]) (rest := []) ⟨hx, hb, hml, hown, hts⟩ (kX7_isPanel l D cs ad hd H.size (((nN, px, py, pz, fx, fy, fz, lf, ld, fi), (nB, fr, tt, ln, wi, sg, pu), (nR, rd, rx, ry, wv, fo), (re, dg), (nP, tp, bt, dp)), (nQ, fu)) hnP x) (cwV 1 hts gX7_cut_X7_isPanel rfl rfl rfl (by decide +kernel) ⟨Nat.le_of_ble_eq_true rfl, Nat.le_of_ble_eq_true rfl⟩) (gPreV (EM_bl) (va_recv hK hP (ci := 7) (q0 := 0) rfl rfl) hP (fun U _ hW => EM_warm hW hE)) rfl rfl hl.1 rfl (lv_room (Nat.le_of_ble_eq_true rfl)) dX7_cut_2 ⟨Nat.zero_le _, Nat.zero_le _⟩) hS (fun r_ u_ H locs hw hP hS => ?_)
  obtain ⟨rfl, hw⟩ := hw
  rcases hw with ⟨rfl, b_1⟩ | ⟨rfl, b_1⟩
  · skip
    have b_1 : inN (nP) (x) := b_1
    obtain ⟨j, hj, rfl⟩ := b_1
    refine lv_if_eq (tgt := 31) hx hb dX7_cut_5 (by decide) (fun c_5_2 => absurd c_5_2 (by decide)) (fun _ => ?_)
    refine lv_iload_n hx hb dX7_cut_8 rfl (lv_at hl 2 rfl) ?_
    refine lv_if_lt (tgt := 31) hx hb dX7_cut_9 (by decide) (fun c_9_3 => ?_) (fun c_9_3 => ?_)
    · skip
      refine lv_iconst (v := (-1 : Int32)) hx hb dX7_cut_31 (by decide) ?_
      exact hret hS hP dX7_cut_32 (⟨Or.inr ⟨fun ⟨i, hi, ei, q1, q2, q3⟩ => q1 c_9_3, rfl⟩, rfl⟩)
    · skip
      refine lv_iload_n hx hb dX7_cut_12 rfl (lv_at hl 2 rfl) ?_
      refine lv_aload_n hx hb dX7_cut_13 rfl (lv_at hl 0 rfl) ?_
      refine va_get (D := D) (ci := 7) (v := .ref (ad 23)) (C := RX7) (T := TX7) (N := 31) hx hb hts iX7_cut_X7 hown hK hP 0 rfl rfl 30 (by decide) f_84 (fun _ h9 => h9) rfl dX7_cut_14 ?_
      refine lv_iload_n hx hb dX7_cut_17 rfl (lv_at hl 1 rfl) ?_
      refine xil hx hb hK hP 23 1 rfl rfl (j := j) (by decide) (by omega) dX7_cut_18 ?_
      refine lv_icmp_ge (tgt := 31) hx hb dX7_cut_19 (by decide) (fun c_19_4 => ?_) (fun c_19_4 => ?_)
      · skip
        refine lv_iconst (v := (-1 : Int32)) hx hb dX7_cut_31 (by decide) ?_
        exact hret hS hP dX7_cut_32 (⟨Or.inr ⟨fun ⟨i, hi, ei, q1, q2, q3⟩ => (by have e := (nI_eq (by omega) (by omega)).mp ei; subst e; exact ge_lt_no c_19_4 q2), rfl⟩, rfl⟩)
      · skip
        refine lv_iload_n hx hb dX7_cut_22 rfl (lv_at hl 3 rfl) ?_
        refine lv_if_lt (tgt := 31) hx hb dX7_cut_23 (by decide) (fun c_23_5 => ?_) (fun c_23_5 => ?_)
        · skip
          refine lv_iconst (v := (-1 : Int32)) hx hb dX7_cut_31 (by decide) ?_
          exact hret hS hP dX7_cut_32 (⟨Or.inr ⟨fun ⟨i, hi, ei, q1, q2, q3⟩ => w_neg c_23_5 q3, rfl⟩, rfl⟩)
        · skip
          refine lv_iload_n hx hb dX7_cut_26 rfl (lv_at hl 3 rfl) ?_
          refine lv_iconst (v := nI 1) hx hb dX7_cut_27 (by decide) ?_
          refine lv_icmp_le (tgt := 33) hx hb dX7_cut_28 (by decide) (fun c_28_6 => ?_) (fun c_28_6 => ?_)
          · skip
            refine lv_iload_n hx hb dX7_cut_33 rfl (lv_at hl 3 rfl) ?_
            refine lv_if_ne (tgt := 46) hx hb dX7_cut_34 (by decide) (fun c_34_7 => ?_) (fun c_34_7 => ?_)
            · skip
              refine lv_aload_n hx hb dX7_cut_46 rfl (lv_at hl 0 rfl) ?_
              refine lv_iload_n hx hb dX7_cut_47 rfl (lv_at hl 1 rfl) ?_
              refine lv_iload_n hx hb dX7_cut_48 rfl (lv_at hl 2 rfl) ?_
              refine gci (va_runV (As := [.int (nI j), .int (k)]) (rest := []) ⟨hx, hb, hml, hown, hts⟩ (kX7_meshes l D cs ad hd H.size (((nN, px, py, pz, fx, fy, fz, lf, ld, fi), (nB, fr, tt, ln, wi, sg, pu), (nR, rd, rx, ry, wv, fo), (re, dg), (nP, tp, bt, dp)), (nQ, fu)) j (by omega) k (hdp j hj)) (cwV 2 hts gX7_cut_X7_meshes rfl rfl rfl (by decide +kernel) ⟨Nat.le_of_ble_eq_true rfl, Nat.le_of_ble_eq_true rfl⟩) (gPreV (EM_bl) (va_recv hK hP (ci := 7) (q0 := 0) rfl rfl) hP (fun U _ hW => EM_warm hW hE)) rfl rfl hl.1 rfl (lv_room (Nat.le_of_ble_eq_true rfl)) dX7_cut_49 ⟨Nat.zero_le _, Nat.zero_le _⟩) hS (fun r_ u_ H locs hw hP hS => ?_)
              obtain ⟨rfl, hw⟩ := hw
              obtain ⟨v_8, ev_8⟩ : ∃ z, z = r_ := ⟨r_, rfl⟩
              rw [← ev_8] at hw ⊢
              clear ev_8
              have ev_8 : v_8 = mesh tp bt dp j (k + nI 1) := hw
              refine lv_aload_n hx hb dX7_cut_52 rfl (lv_at hl 0 rfl) ?_
              refine lv_iload_n hx hb dX7_cut_53 rfl (lv_at hl 1 rfl) ?_
              refine lv_iload_n hx hb dX7_cut_54 rfl (lv_at hl 2 rfl) ?_
              refine lv_iconst (v := nI 1) hx hb dX7_cut_55 (by decide) ?_
              refine lv_isub hx hb dX7_cut_56 ?_
              refine gci (va_runV (As := [.int (nI j), .int (k - (nI 1))]) (rest := [.int (v_8)]) ⟨hx, hb, hml, hown, hts⟩ (kX7_meshes l D cs ad hd H.size (((nN, px, py, pz, fx, fy, fz, lf, ld, fi), (nB, fr, tt, ln, wi, sg, pu), (nR, rd, rx, ry, wv, fo), (re, dg), (nP, tp, bt, dp)), (nQ, fu)) j (by omega) (k - (nI 1)) (hdp j hj)) (cwV 2 hts gX7_cut_X7_meshes rfl rfl rfl (by decide +kernel) ⟨Nat.le_of_ble_eq_true rfl, Nat.le_of_ble_eq_true rfl⟩) (gPreV (EM_bl) (va_recv hK hP (ci := 7) (q0 := 0) rfl rfl) hP (fun U _ hW => EM_warm hW hE)) rfl rfl hl.1 rfl (lv_room (Nat.le_of_ble_eq_true rfl)) dX7_cut_57 ⟨Nat.zero_le _, Nat.zero_le _⟩) hS (fun r_ u_ H locs hw hP hS => ?_)
              obtain ⟨rfl, hw⟩ := hw
              obtain ⟨v_9, ev_9⟩ : ∃ z, z = r_ := ⟨r_, rfl⟩
              rw [← ev_9] at hw ⊢
              clear ev_9
              have ev_9 : v_9 = mesh tp bt dp j ((k - (nI 1)) + nI 1) := hw
              refine lv_isub hx hb dX7_cut_60 ?_
              exact hret hS hP dX7_cut_61 (⟨Or.inl ⟨j, hj, rfl, c_9_3, lt_of_nge c_19_4, Or.inr ⟨w_one c_23_5 c_28_6 c_34_7, by rw [ev_8, ev_9, Int32.sub_add_cancel]⟩⟩, rfl⟩)
            · skip
              refine lv_aload_n hx hb dX7_cut_37 rfl (lv_at hl 0 rfl) ?_
              refine lv_iload_n hx hb dX7_cut_38 rfl (lv_at hl 1 rfl) ?_
              refine lv_iload_n hx hb dX7_cut_39 rfl (lv_at hl 2 rfl) ?_
              refine gci (va_runV (As := [.int (nI j), .int (k)]) (rest := []) ⟨hx, hb, hml, hown, hts⟩ (kX7_meshes l D cs ad hd H.size (((nN, px, py, pz, fx, fy, fz, lf, ld, fi), (nB, fr, tt, ln, wi, sg, pu), (nR, rd, rx, ry, wv, fo), (re, dg), (nP, tp, bt, dp)), (nQ, fu)) j (by omega) k (hdp j hj)) (cwV 2 hts gX7_cut_X7_meshes rfl rfl rfl (by decide +kernel) ⟨Nat.le_of_ble_eq_true rfl, Nat.le_of_ble_eq_true rfl⟩) (gPreV (EM_bl) (va_recv hK hP (ci := 7) (q0 := 0) rfl rfl) hP (fun U _ hW => EM_warm hW hE)) rfl rfl hl.1 rfl (lv_room (Nat.le_of_ble_eq_true rfl)) dX7_cut_40 ⟨Nat.zero_le _, Nat.zero_le _⟩) hS (fun r_ u_ H locs hw hP hS => ?_)
              obtain ⟨rfl, hw⟩ := hw
              obtain ⟨v_10, ev_10⟩ : ∃ z, z = r_ := ⟨r_, rfl⟩
              rw [← ev_10] at hw ⊢
              clear ev_10
              have ev_10 : v_10 = mesh tp bt dp j (k + nI 1) := hw
              refine lv_goto (tgt := 61) hx hb dX7_cut_43 (by decide) ?_
              exact hret hS hP dX7_cut_61 (⟨Or.inl ⟨j, hj, rfl, c_9_3, lt_of_nge c_19_4, Or.inl ⟨c_34_7, ev_10⟩⟩, rfl⟩)
          · skip
            refine lv_iconst (v := (-1 : Int32)) hx hb dX7_cut_31 (by decide) ?_
            exact hret hS hP dX7_cut_32 (⟨Or.inr ⟨fun ⟨i, hi, ei, q1, q2, q3⟩ => w_big c_28_6 q3, rfl⟩, rfl⟩)
  · skip
    have b_1 : ¬ (inN (nP) (x)) := b_1
    refine lv_if_eq (tgt := 31) hx hb dX7_cut_5 (by decide) (fun _ => ?_) (fun c_5_11 => absurd c_5_11 (by decide))
    refine lv_iconst (v := (-1 : Int32)) hx hb dX7_cut_31 (by decide) ?_
    exact hret hS hP dX7_cut_32 (⟨Or.inr ⟨fun ⟨i, hi, ei, q1, q2, q3⟩ => b_1 ⟨i, hi, ei⟩, rfl⟩, rfl⟩)
theorem iX6_whole_X4 : ∀ w ∈ u_ws RX4 TX4 9, w ∈ wsX6_whole := by decide +kernel
theorem iX6_whole_X6 : ∀ w ∈ u_ws RX6 TX6 6, w ∈ wsX6_whole := by decide +kernel
set_option maxHeartbeats 4000000 in
set_option maxRecDepth 100000 in
theorem kX6_whole (l : Launch) (D : va_G) (cs : Nat → ClassId) (ad : Nat → Nat) (hd : distX ad) (sz : Nat) (S : XS) (hnP : S.1.2.2.2.2.1 ≤ 30) (x : Int32) : Met l yX6_whole wsX6_whole ({ frames := 1, cells := 0, slots := 0, locals := 21 } : Room) (gP D (WX cs ad) (EX D cs) S sz ([.ref (ad 0), .int (x)] : List Value)) (va_Qi (fun r u => q_whole S.1 x r ∧ u = S) (gB D (WX cs ad)) (gA (AX ad) sz)) 0 0 (gA (AX ad) sz) := by
  obtain ⟨⟨⟨nN, px, py, pz, fx, fy, fz, lf, ld, fi⟩, ⟨nB, fr, tt, ln, wi, sg, pu⟩, ⟨nR, rd, rx, ry, wv, fo⟩, ⟨re, dg⟩, ⟨nP, tp, bt, dp⟩⟩, ⟨sp, ac, kp, kc, kn, aw, dw, su, ss, sd⟩⟩ := S
  have hnP : nP ≤ 30 := hnP
  refine gMz (cc := cX6_whole) (maxL := 2) (plainFor_of_name (by decide)) rfl (Nat.le_of_ble_eq_true rfl) ?_
  intro p e s m below meth c Q hx hb hts hown hml hsz hE hret H locs hP hS ls hl
  subst hsz
  have hown : s.vm.findClass RX6 = some m.cls := hown
  have hK : va_K D vwCl (tysX cs) s := hE.1
  have hD : ∀ u, va_D (gA (AX ad) s.heap.size) (WX cs ad u) := fun u => WX_D hd u
  have hl : lv_has ls 2 [(0, .ref (ad 0)), (1, .int (x))] := hl
  have f_49 := hts (.fieldLink RX6 49 "NetShapes" "panels" "LNetShapes$Panels;") (by decide +kernel)
  have f_166 := hts (.fieldLink RX6 166 "NetShapes$Panels" "bottom" "[I") (by decide +kernel)
  have f_169 := hts (.fieldLink RX6 169 "NetShapes$Panels" "top" "[I") (by decide +kernel)
  refine lv_aload_n hx hb dX6_whole_0 rfl (lv_at hl 0 rfl) ?_
  refine va_get (D := D) (ci := 6) (v := .ref (ad 6)) (C := RX6) (T := TX6) (N := 6) hx hb hts iX6_whole_X6 hown hK hP 0 rfl rfl 5 (by decide) f_49 (fun _ h9 => h9) rfl dX6_whole_1 ?_
  refine lv_iload_n hx hb dX6_whole_4 rfl (lv_at hl 1 rfl) ?_
  refine gci (va_runV (As := [.int (x)]) (rest := []) ⟨hx, hb, hml, hown, hts⟩ (kX4_has l D cs ad hd H.size (((nN, px, py, pz, fx, fy, fz, lf, ld, fi), (nB, fr, tt, ln, wi, sg, pu), (nR, rd, rx, ry, wv, fo), (re, dg), (nP, tp, bt, dp)), (sp, ac, kp, kc, kn, aw, dw, su, ss, sd)) hnP x) (cwV 1 hts gX6_whole_X4_has rfl rfl rfl (by decide +kernel) ⟨Nat.le_of_ble_eq_true rfl, Nat.le_of_ble_eq_true rfl⟩) (gPreV (EX_bl) (va_recv hK hP (ci := 4) (q0 := 6) rfl rfl) hP (fun U _ hW => EX_warm hW hE)) rfl rfl hl.1 rfl (lv_room (Nat.le_of_ble_eq_true rfl)) dX6_whole_5 ⟨Nat.zero_le _, Nat.zero_le _⟩) hS (fun r_ u_ H locs hw hP hS => ?_)
  obtain ⟨rfl, hw⟩ := hw
  rcases hw with ⟨rfl, b_1⟩ | ⟨rfl, b_1⟩
  · skip
    have b_1 : inN (nP) (x) := b_1
    obtain ⟨j, hj, rfl⟩ := b_1
    refine lv_if_eq (tgt := 39) hx hb dX6_whole_8 (by decide) (fun c_8_2 => absurd c_8_2 (by decide)) (fun _ => ?_)
    refine lv_aload_n hx hb dX6_whole_11 rfl (lv_at hl 0 rfl) ?_
    refine va_get (D := D) (ci := 6) (v := .ref (ad 6)) (C := RX6) (T := TX6) (N := 6) hx hb hts iX6_whole_X6 hown hK hP 0 rfl rfl 5 (by decide) f_49 (fun _ h9 => h9) rfl dX6_whole_12 ?_
    refine va_get (D := D) (ci := 4) (v := .ref (ad 26)) (C := RX4) (T := TX4) (N := 9) hx hb hts iX6_whole_X4 hown hK hP 6 rfl rfl 1 (by decide) f_166 (fun _ h9 => h9) rfl dX6_whole_15 ?_
    refine lv_iload_n hx hb dX6_whole_18 rfl (lv_at hl 1 rfl) ?_
    refine xil hx hb hK hP 26 1 rfl rfl (j := j) (by decide) (by omega) dX6_whole_19 ?_
    refine lv_aload_n hx hb dX6_whole_20 rfl (lv_at hl 0 rfl) ?_
    refine va_get (D := D) (ci := 6) (v := .ref (ad 6)) (C := RX6) (T := TX6) (N := 6) hx hb hts iX6_whole_X6 hown hK hP 0 rfl rfl 5 (by decide) f_49 (fun _ h9 => h9) rfl dX6_whole_21 ?_
    refine va_get (D := D) (ci := 4) (v := .ref (ad 25)) (C := RX4) (T := TX4) (N := 9) hx hb hts iX6_whole_X4 hown hK hP 6 rfl rfl 0 (by decide) f_169 (fun _ h9 => h9) rfl dX6_whole_24 ?_
    refine lv_iload_n hx hb dX6_whole_27 rfl (lv_at hl 1 rfl) ?_
    refine xil hx hb hK hP 25 1 rfl rfl (j := j) (by decide) (by omega) dX6_whole_28 ?_
    refine lv_isub hx hb dX6_whole_29 ?_
    refine lv_iconst (v := nI 2) hx hb dX6_whole_30 (by decide) ?_
    refine lv_irem hx hb dX6_whole_31 (by decide) ?_
    refine lv_if_ne (tgt := 39) hx hb dX6_whole_32 (by decide) (fun c_32_3 => ?_) (fun c_32_3 => ?_)
    · skip
      refine lv_iconst (v := nI 0) hx hb dX6_whole_39 (by decide) ?_
      exact hret hS hP dX6_whole_40 (Or.inl rfl) (⟨Or.inl ⟨j, hj, rfl, Or.inr ⟨c_32_3, rfl⟩⟩, rfl⟩)
    · skip
      refine lv_iconst (v := nI 1) hx hb dX6_whole_35 (by decide) ?_
      refine lv_goto (tgt := 40) hx hb dX6_whole_36 (by decide) ?_
      exact hret hS hP dX6_whole_40 (Or.inr rfl) (⟨Or.inl ⟨j, hj, rfl, Or.inl ⟨c_32_3, rfl⟩⟩, rfl⟩)
  · skip
    have b_1 : ¬ (inN (nP) (x)) := b_1
    refine lv_if_eq (tgt := 39) hx hb dX6_whole_8 (by decide) (fun _ => ?_) (fun c_8_4 => absurd c_8_4 (by decide))
    refine lv_iconst (v := nI 0) hx hb dX6_whole_39 (by decide) ?_
    exact hret hS hP dX6_whole_40 (Or.inl rfl) (⟨Or.inr ⟨b_1, rfl⟩, rfl⟩)
theorem iX7_whole_X7 : ∀ w ∈ u_ws RX7 TX7 31, w ∈ wsX7_whole := by decide +kernel
set_option maxHeartbeats 4000000 in
set_option maxRecDepth 100000 in
theorem kX7_whole (l : Launch) (D : va_G) (cs : Nat → ClassId) (ad : Nat → Nat) (hd : distM ad) (sz : Nat) (S : MS) (hnP : S.1.2.2.2.2.1 ≤ 30) (x : Int32) : Met l yX7_whole wsX7_whole ({ frames := 1, cells := 0, slots := 0, locals := 21 } : Room) (gP D (WM cs ad) (EM D cs) S sz ([.ref (ad 0), .int (x)] : List Value)) (va_Qi (fun r u => q_whole S.1 x r ∧ u = S) (gB D (WM cs ad)) (gA (AM ad) sz)) 0 0 (gA (AM ad) sz) := by
  obtain ⟨⟨⟨nN, px, py, pz, fx, fy, fz, lf, ld, fi⟩, ⟨nB, fr, tt, ln, wi, sg, pu⟩, ⟨nR, rd, rx, ry, wv, fo⟩, ⟨re, dg⟩, ⟨nP, tp, bt, dp⟩⟩, ⟨nQ, fu⟩⟩ := S
  have hnP : nP ≤ 30 := hnP
  refine gMz (cc := cX7_whole) (maxL := 2) (plainFor_of_name (by decide)) rfl (Nat.le_of_ble_eq_true rfl) ?_
  intro p e s m below meth c Q hx hb hts hown hml hsz hE hret H locs hP hS ls hl
  subst hsz
  have hown : s.vm.findClass RX7 = some m.cls := hown
  have hK : va_K D vwCl (tysX cs) s := hE.1
  have hD : ∀ u, va_D (gA (AM ad) s.heap.size) (WM cs ad u) := fun u => WM_D hd u
  have hl : lv_has ls 2 [(0, .ref (ad 0)), (1, .int (x))] := hl
  have f_78 := hts (.fieldLink RX7 78 "NetShapesModel" "tops" "[I") (by decide +kernel)
  have f_81 := hts (.fieldLink RX7 81 "NetShapesModel" "bottoms" "[I") (by decide +kernel)
  refine lv_aload_n hx hb dX7_whole_0 rfl (lv_at hl 0 rfl) ?_
  refine lv_iload_n hx hb dX7_whole_1 rfl (lv_at hl 1 rfl) ?_
  refine gci (va_runV (As := [.int (x)]) (rest := []) ⟨hx, hb, hml, hown, hts⟩ (kX7_isPanel l D cs ad hd H.size (((nN, px, py, pz, fx, fy, fz, lf, ld, fi), (nB, fr, tt, ln, wi, sg, pu), (nR, rd, rx, ry, wv, fo), (re, dg), (nP, tp, bt, dp)), (nQ, fu)) hnP x) (cwV 1 hts gX7_whole_X7_isPanel rfl rfl rfl (by decide +kernel) ⟨Nat.le_of_ble_eq_true rfl, Nat.le_of_ble_eq_true rfl⟩) (gPreV (EM_bl) (va_recv hK hP (ci := 7) (q0 := 0) rfl rfl) hP (fun U _ hW => EM_warm hW hE)) rfl rfl hl.1 rfl (lv_room (Nat.le_of_ble_eq_true rfl)) dX7_whole_2 ⟨Nat.zero_le _, Nat.zero_le _⟩) hS (fun r_ u_ H locs hw hP hS => ?_)
  obtain ⟨rfl, hw⟩ := hw
  rcases hw with ⟨rfl, b_1⟩ | ⟨rfl, b_1⟩
  · skip
    have b_1 : inN (nP) (x) := b_1
    obtain ⟨j, hj, rfl⟩ := b_1
    refine lv_if_eq (tgt := 30) hx hb dX7_whole_5 (by decide) (fun c_5_2 => absurd c_5_2 (by decide)) (fun _ => ?_)
    refine lv_aload_n hx hb dX7_whole_8 rfl (lv_at hl 0 rfl) ?_
    refine va_get (D := D) (ci := 7) (v := .ref (ad 22)) (C := RX7) (T := TX7) (N := 31) hx hb hts iX7_whole_X7 hown hK hP 0 rfl rfl 29 (by decide) f_81 (fun _ h9 => h9) rfl dX7_whole_9 ?_
    refine lv_iload_n hx hb dX7_whole_12 rfl (lv_at hl 1 rfl) ?_
    refine xil hx hb hK hP 22 1 rfl rfl (j := j) (by decide) (by omega) dX7_whole_13 ?_
    refine lv_aload_n hx hb dX7_whole_14 rfl (lv_at hl 0 rfl) ?_
    refine va_get (D := D) (ci := 7) (v := .ref (ad 21)) (C := RX7) (T := TX7) (N := 31) hx hb hts iX7_whole_X7 hown hK hP 0 rfl rfl 28 (by decide) f_78 (fun _ h9 => h9) rfl dX7_whole_15 ?_
    refine lv_iload_n hx hb dX7_whole_18 rfl (lv_at hl 1 rfl) ?_
    refine xil hx hb hK hP 21 1 rfl rfl (j := j) (by decide) (by omega) dX7_whole_19 ?_
    refine lv_isub hx hb dX7_whole_20 ?_
    refine lv_iconst (v := nI 2) hx hb dX7_whole_21 (by decide) ?_
    refine lv_irem hx hb dX7_whole_22 (by decide) ?_
    refine lv_if_ne (tgt := 30) hx hb dX7_whole_23 (by decide) (fun c_23_3 => ?_) (fun c_23_3 => ?_)
    · skip
      refine lv_iconst (v := nI 0) hx hb dX7_whole_30 (by decide) ?_
      exact hret hS hP dX7_whole_31 (Or.inl rfl) (⟨Or.inl ⟨j, hj, rfl, Or.inr ⟨c_23_3, rfl⟩⟩, rfl⟩)
    · skip
      refine lv_iconst (v := nI 1) hx hb dX7_whole_26 (by decide) ?_
      refine lv_goto (tgt := 31) hx hb dX7_whole_27 (by decide) ?_
      exact hret hS hP dX7_whole_31 (Or.inr rfl) (⟨Or.inl ⟨j, hj, rfl, Or.inl ⟨c_23_3, rfl⟩⟩, rfl⟩)
  · skip
    have b_1 : ¬ (inN (nP) (x)) := b_1
    refine lv_if_eq (tgt := 30) hx hb dX7_whole_5 (by decide) (fun _ => ?_) (fun c_5_4 => absurd c_5_4 (by decide))
    refine lv_iconst (v := nI 0) hx hb dX7_whole_30 (by decide) ?_
    exact hret hS hP dX7_whole_31 (Or.inl rfl) (⟨Or.inr ⟨b_1, rfl⟩, rfl⟩)
theorem iX6_edge_X4 : ∀ w ∈ u_ws RX4 TX4 9, w ∈ wsX6_edge := by decide +kernel
theorem iX6_edge_X6 : ∀ w ∈ u_ws RX6 TX6 6, w ∈ wsX6_edge := by decide +kernel
set_option maxHeartbeats 4000000 in
set_option maxRecDepth 100000 in
theorem kX6_edge (l : Launch) (D : va_G) (cs : Nat → ClassId) (ad : Nat → Nat) (hd : distX ad) (sz : Nat) (S : XS) (hnP : S.1.2.2.2.2.1 ≤ 30) (x y : Int32) : Met l yX6_edge wsX6_edge ({ frames := 1, cells := 0, slots := 0, locals := 21 } : Room) (gP D (WX cs ad) (EX D cs) S sz ([.ref (ad 0), .int (x), .int (y)] : List Value)) (va_Qi (fun r u => q_edge S.1 x y r ∧ u = S) (gB D (WX cs ad)) (gA (AX ad) sz)) 0 0 (gA (AX ad) sz) := by
  obtain ⟨⟨⟨nN, px, py, pz, fx, fy, fz, lf, ld, fi⟩, ⟨nB, fr, tt, ln, wi, sg, pu⟩, ⟨nR, rd, rx, ry, wv, fo⟩, ⟨re, dg⟩, ⟨nP, tp, bt, dp⟩⟩, ⟨sp, ac, kp, kc, kn, aw, dw, su, ss, sd⟩⟩ := S
  have hnP : nP ≤ 30 := hnP
  refine gMi (cc := cX6_edge) (maxL := 3) (plainFor_of_name (by decide)) rfl (Nat.le_of_ble_eq_true rfl) ?_
  intro p e s m below meth c Q hx hb hts hown hml hsz hE hret H locs hP hS ls hl
  subst hsz
  have hown : s.vm.findClass RX6 = some m.cls := hown
  have hK : va_K D vwCl (tysX cs) s := hE.1
  have hD : ∀ u, va_D (gA (AX ad) s.heap.size) (WX cs ad u) := fun u => WX_D hd u
  have hl : lv_has ls 3 [(0, .ref (ad 0)), (1, .int (x)), (2, .int (y))] := hl
  have f_49 := hts (.fieldLink RX6 49 "NetShapes" "panels" "LNetShapes$Panels;") (by decide +kernel)
  have f_166 := hts (.fieldLink RX6 166 "NetShapes$Panels" "bottom" "[I") (by decide +kernel)
  have f_169 := hts (.fieldLink RX6 169 "NetShapes$Panels" "top" "[I") (by decide +kernel)
  refine lv_aload_n hx hb dX6_edge_0 rfl (lv_at hl 0 rfl) ?_
  refine va_get (D := D) (ci := 6) (v := .ref (ad 6)) (C := RX6) (T := TX6) (N := 6) hx hb hts iX6_edge_X6 hown hK hP 0 rfl rfl 5 (by decide) f_49 (fun _ h9 => h9) rfl dX6_edge_1 ?_
  refine lv_iload_n hx hb dX6_edge_4 rfl (lv_at hl 1 rfl) ?_
  refine gci (va_runV (As := [.int (x)]) (rest := []) ⟨hx, hb, hml, hown, hts⟩ (kX4_has l D cs ad hd H.size (((nN, px, py, pz, fx, fy, fz, lf, ld, fi), (nB, fr, tt, ln, wi, sg, pu), (nR, rd, rx, ry, wv, fo), (re, dg), (nP, tp, bt, dp)), (sp, ac, kp, kc, kn, aw, dw, su, ss, sd)) hnP x) (cwV 1 hts gX6_edge_X4_has rfl rfl rfl (by decide +kernel) ⟨Nat.le_of_ble_eq_true rfl, Nat.le_of_ble_eq_true rfl⟩) (gPreV (EX_bl) (va_recv hK hP (ci := 4) (q0 := 6) rfl rfl) hP (fun U _ hW => EX_warm hW hE)) rfl rfl hl.1 rfl (lv_room (Nat.le_of_ble_eq_true rfl)) dX6_edge_5 ⟨Nat.zero_le _, Nat.zero_le _⟩) hS (fun r_ u_ H locs hw hP hS => ?_)
  obtain ⟨rfl, hw⟩ := hw
  rcases hw with ⟨rfl, b_1⟩ | ⟨rfl, b_1⟩
  · skip
    have b_1 : inN (nP) (x) := b_1
    refine lv_if_eq (tgt := 22) hx hb dX6_edge_8 (by decide) (fun c_8_2 => absurd c_8_2 (by decide)) (fun _ => ?_)
    refine lv_aload_n hx hb dX6_edge_11 rfl (lv_at hl 0 rfl) ?_
    refine va_get (D := D) (ci := 6) (v := .ref (ad 6)) (C := RX6) (T := TX6) (N := 6) hx hb hts iX6_edge_X6 hown hK hP 0 rfl rfl 5 (by decide) f_49 (fun _ h9 => h9) rfl dX6_edge_12 ?_
    refine lv_iload_n hx hb dX6_edge_15 rfl (lv_at hl 2 rfl) ?_
    refine gci (va_runV (As := [.int (y)]) (rest := []) ⟨hx, hb, hml, hown, hts⟩ (kX4_has l D cs ad hd H.size (((nN, px, py, pz, fx, fy, fz, lf, ld, fi), (nB, fr, tt, ln, wi, sg, pu), (nR, rd, rx, ry, wv, fo), (re, dg), (nP, tp, bt, dp)), (sp, ac, kp, kc, kn, aw, dw, su, ss, sd)) hnP y) (cwV 1 hts gX6_edge_X4_has rfl rfl rfl (by decide +kernel) ⟨Nat.le_of_ble_eq_true rfl, Nat.le_of_ble_eq_true rfl⟩) (gPreV (EX_bl) (va_recv hK hP (ci := 4) (q0 := 6) rfl rfl) hP (fun U _ hW => EX_warm hW hE)) rfl rfl hl.1 rfl (lv_room (Nat.le_of_ble_eq_true rfl)) dX6_edge_16 ⟨Nat.zero_le _, Nat.zero_le _⟩) hS (fun r_ u_ H locs hw hP hS => ?_)
    obtain ⟨rfl, hw⟩ := hw
    rcases hw with ⟨rfl, b_3⟩ | ⟨rfl, b_3⟩
    · skip
      have b_3 : inN (nP) (y) := b_3
      obtain ⟨i, hi, rfl⟩ := b_1
      obtain ⟨j, hj, rfl⟩ := b_3
      refine lv_if_ne (tgt := 24) hx hb dX6_edge_19 (by decide) (fun _ => ?_) (fun c_19_4 => absurd c_19_4 (by decide))
      refine lv_aload_n hx hb dX6_edge_24 rfl (lv_at hl 0 rfl) ?_
      refine va_get (D := D) (ci := 6) (v := .ref (ad 6)) (C := RX6) (T := TX6) (N := 6) hx hb hts iX6_edge_X6 hown hK hP 0 rfl rfl 5 (by decide) f_49 (fun _ h9 => h9) rfl dX6_edge_25 ?_
      refine va_get (D := D) (ci := 4) (v := .ref (ad 26)) (C := RX4) (T := TX4) (N := 9) hx hb hts iX6_edge_X4 hown hK hP 6 rfl rfl 1 (by decide) f_166 (fun _ h9 => h9) rfl dX6_edge_28 ?_
      refine lv_iload_n hx hb dX6_edge_31 rfl (lv_at hl 1 rfl) ?_
      refine xil hx hb hK hP 26 1 rfl rfl (j := i) (by decide) (by omega) dX6_edge_32 ?_
      refine lv_aload_n hx hb dX6_edge_33 rfl (lv_at hl 0 rfl) ?_
      refine va_get (D := D) (ci := 6) (v := .ref (ad 6)) (C := RX6) (T := TX6) (N := 6) hx hb hts iX6_edge_X6 hown hK hP 0 rfl rfl 5 (by decide) f_49 (fun _ h9 => h9) rfl dX6_edge_34 ?_
      refine va_get (D := D) (ci := 4) (v := .ref (ad 25)) (C := RX4) (T := TX4) (N := 9) hx hb hts iX6_edge_X4 hown hK hP 6 rfl rfl 0 (by decide) f_169 (fun _ h9 => h9) rfl dX6_edge_37 ?_
      refine lv_iload_n hx hb dX6_edge_40 rfl (lv_at hl 2 rfl) ?_
      refine xil hx hb hK hP 25 1 rfl rfl (j := j) (by decide) (by omega) dX6_edge_41 ?_
      refine va_mmin hx hb (hml.trans hl.1.symm) hown (hts (.methodLink RX6 172 Lib.Math.min.name) (by decide +kernel)) (hts (.static Lib.Math.min.name) (by decide +kernel)) (hts (.initialized "java/lang/Math") (by decide +kernel)) (hts _ (List.mem_of_getElem? (i := 7) rfl)) (by decide) (Nat.le_of_ble_eq_true rfl) (Nat.zero_le _) (Nat.zero_le _) dX6_edge_42 ?_
      exact hret hS hP dX6_edge_45 (⟨Or.inl ⟨i, j, hi, hj, rfl, rfl, rfl⟩, rfl⟩)
    · skip
      have b_3 : ¬ (inN (nP) (y)) := b_3
      refine lv_if_ne (tgt := 24) hx hb dX6_edge_19 (by decide) (fun c_19_5 => absurd c_19_5 (by decide)) (fun _ => ?_)
      refine lv_iconst (v := (-1 : Int32)) hx hb dX6_edge_22 (by decide) ?_
      exact hret hS hP dX6_edge_23 (⟨Or.inr ⟨fun q => absurd q.2 b_3, rfl⟩, rfl⟩)
  · skip
    have b_1 : ¬ (inN (nP) (x)) := b_1
    refine lv_if_eq (tgt := 22) hx hb dX6_edge_8 (by decide) (fun _ => ?_) (fun c_8_6 => absurd c_8_6 (by decide))
    refine lv_iconst (v := (-1 : Int32)) hx hb dX6_edge_22 (by decide) ?_
    exact hret hS hP dX6_edge_23 (⟨Or.inr ⟨fun q => absurd q.1 b_1, rfl⟩, rfl⟩)
theorem iX7_edge_X7 : ∀ w ∈ u_ws RX7 TX7 31, w ∈ wsX7_edge := by decide +kernel
set_option maxHeartbeats 4000000 in
set_option maxRecDepth 100000 in
theorem kX7_edge (l : Launch) (D : va_G) (cs : Nat → ClassId) (ad : Nat → Nat) (hd : distM ad) (sz : Nat) (S : MS) (hnP : S.1.2.2.2.2.1 ≤ 30) (x y : Int32) : Met l yX7_edge wsX7_edge ({ frames := 1, cells := 0, slots := 0, locals := 21 } : Room) (gP D (WM cs ad) (EM D cs) S sz ([.ref (ad 0), .int (x), .int (y)] : List Value)) (va_Qi (fun r u => q_edge S.1 x y r ∧ u = S) (gB D (WM cs ad)) (gA (AM ad) sz)) 0 0 (gA (AM ad) sz) := by
  obtain ⟨⟨⟨nN, px, py, pz, fx, fy, fz, lf, ld, fi⟩, ⟨nB, fr, tt, ln, wi, sg, pu⟩, ⟨nR, rd, rx, ry, wv, fo⟩, ⟨re, dg⟩, ⟨nP, tp, bt, dp⟩⟩, ⟨nQ, fu⟩⟩ := S
  have hnP : nP ≤ 30 := hnP
  refine gMi (cc := cX7_edge) (maxL := 3) (plainFor_of_name (by decide)) rfl (Nat.le_of_ble_eq_true rfl) ?_
  intro p e s m below meth c Q hx hb hts hown hml hsz hE hret H locs hP hS ls hl
  subst hsz
  have hown : s.vm.findClass RX7 = some m.cls := hown
  have hK : va_K D vwCl (tysX cs) s := hE.1
  have hD : ∀ u, va_D (gA (AM ad) s.heap.size) (WM cs ad u) := fun u => WM_D hd u
  have hl : lv_has ls 3 [(0, .ref (ad 0)), (1, .int (x)), (2, .int (y))] := hl
  have f_78 := hts (.fieldLink RX7 78 "NetShapesModel" "tops" "[I") (by decide +kernel)
  have f_81 := hts (.fieldLink RX7 81 "NetShapesModel" "bottoms" "[I") (by decide +kernel)
  refine lv_aload_n hx hb dX7_edge_0 rfl (lv_at hl 0 rfl) ?_
  refine lv_iload_n hx hb dX7_edge_1 rfl (lv_at hl 1 rfl) ?_
  refine gci (va_runV (As := [.int (x)]) (rest := []) ⟨hx, hb, hml, hown, hts⟩ (kX7_isPanel l D cs ad hd H.size (((nN, px, py, pz, fx, fy, fz, lf, ld, fi), (nB, fr, tt, ln, wi, sg, pu), (nR, rd, rx, ry, wv, fo), (re, dg), (nP, tp, bt, dp)), (nQ, fu)) hnP x) (cwV 1 hts gX7_edge_X7_isPanel rfl rfl rfl (by decide +kernel) ⟨Nat.le_of_ble_eq_true rfl, Nat.le_of_ble_eq_true rfl⟩) (gPreV (EM_bl) (va_recv hK hP (ci := 7) (q0 := 0) rfl rfl) hP (fun U _ hW => EM_warm hW hE)) rfl rfl hl.1 rfl (lv_room (Nat.le_of_ble_eq_true rfl)) dX7_edge_2 ⟨Nat.zero_le _, Nat.zero_le _⟩) hS (fun r_ u_ H locs hw hP hS => ?_)
  obtain ⟨rfl, hw⟩ := hw
  rcases hw with ⟨rfl, b_1⟩ | ⟨rfl, b_1⟩
  · skip
    have b_1 : inN (nP) (x) := b_1
    refine lv_if_eq (tgt := 16) hx hb dX7_edge_5 (by decide) (fun c_5_2 => absurd c_5_2 (by decide)) (fun _ => ?_)
    refine lv_aload_n hx hb dX7_edge_8 rfl (lv_at hl 0 rfl) ?_
    refine lv_iload_n hx hb dX7_edge_9 rfl (lv_at hl 2 rfl) ?_
    refine gci (va_runV (As := [.int (y)]) (rest := []) ⟨hx, hb, hml, hown, hts⟩ (kX7_isPanel l D cs ad hd H.size (((nN, px, py, pz, fx, fy, fz, lf, ld, fi), (nB, fr, tt, ln, wi, sg, pu), (nR, rd, rx, ry, wv, fo), (re, dg), (nP, tp, bt, dp)), (nQ, fu)) hnP y) (cwV 1 hts gX7_edge_X7_isPanel rfl rfl rfl (by decide +kernel) ⟨Nat.le_of_ble_eq_true rfl, Nat.le_of_ble_eq_true rfl⟩) (gPreV (EM_bl) (va_recv hK hP (ci := 7) (q0 := 0) rfl rfl) hP (fun U _ hW => EM_warm hW hE)) rfl rfl hl.1 rfl (lv_room (Nat.le_of_ble_eq_true rfl)) dX7_edge_10 ⟨Nat.zero_le _, Nat.zero_le _⟩) hS (fun r_ u_ H locs hw hP hS => ?_)
    obtain ⟨rfl, hw⟩ := hw
    rcases hw with ⟨rfl, b_3⟩ | ⟨rfl, b_3⟩
    · skip
      have b_3 : inN (nP) (y) := b_3
      obtain ⟨i, hi, rfl⟩ := b_1
      obtain ⟨j, hj, rfl⟩ := b_3
      refine lv_if_ne (tgt := 20) hx hb dX7_edge_13 (by decide) (fun _ => ?_) (fun c_13_4 => absurd c_13_4 (by decide))
      refine lv_aload_n hx hb dX7_edge_20 rfl (lv_at hl 0 rfl) ?_
      refine va_get (D := D) (ci := 7) (v := .ref (ad 22)) (C := RX7) (T := TX7) (N := 31) hx hb hts iX7_edge_X7 hown hK hP 0 rfl rfl 29 (by decide) f_81 (fun _ h9 => h9) rfl dX7_edge_21 ?_
      refine lv_iload_n hx hb dX7_edge_24 rfl (lv_at hl 1 rfl) ?_
      refine xil hx hb hK hP 22 1 rfl rfl (j := i) (by decide) (by omega) dX7_edge_25 ?_
      refine lv_aload_n hx hb dX7_edge_26 rfl (lv_at hl 0 rfl) ?_
      refine va_get (D := D) (ci := 7) (v := .ref (ad 21)) (C := RX7) (T := TX7) (N := 31) hx hb hts iX7_edge_X7 hown hK hP 0 rfl rfl 28 (by decide) f_78 (fun _ h9 => h9) rfl dX7_edge_27 ?_
      refine lv_iload_n hx hb dX7_edge_30 rfl (lv_at hl 2 rfl) ?_
      refine xil hx hb hK hP 21 1 rfl rfl (j := j) (by decide) (by omega) dX7_edge_31 ?_
      refine va_mmin hx hb (hml.trans hl.1.symm) hown (hts (.methodLink RX7 200 Lib.Math.min.name) (by decide +kernel)) (hts (.static Lib.Math.min.name) (by decide +kernel)) (hts (.initialized "java/lang/Math") (by decide +kernel)) (hts _ (List.mem_of_getElem? (i := 6) rfl)) (by decide) (Nat.le_of_ble_eq_true rfl) (Nat.zero_le _) (Nat.zero_le _) dX7_edge_32 ?_
      exact hret hS hP dX7_edge_35 (⟨Or.inl ⟨i, j, hi, hj, rfl, rfl, rfl⟩, rfl⟩)
    · skip
      have b_3 : ¬ (inN (nP) (y)) := b_3
      refine lv_if_ne (tgt := 20) hx hb dX7_edge_13 (by decide) (fun c_13_5 => absurd c_13_5 (by decide)) (fun _ => ?_)
      refine lv_iconst (v := (-1 : Int32)) hx hb dX7_edge_16 (by decide) ?_
      refine lv_goto (tgt := 35) hx hb dX7_edge_17 (by decide) ?_
      exact hret hS hP dX7_edge_35 (⟨Or.inr ⟨fun q => absurd q.2 b_3, rfl⟩, rfl⟩)
  · skip
    have b_1 : ¬ (inN (nP) (x)) := b_1
    refine lv_if_eq (tgt := 16) hx hb dX7_edge_5 (by decide) (fun _ => ?_) (fun c_5_6 => absurd c_5_6 (by decide))
    refine lv_iconst (v := (-1 : Int32)) hx hb dX7_edge_16 (by decide) ?_
    refine lv_goto (tgt := 35) hx hb dX7_edge_17 (by decide) ?_
    exact hret hS hP dX7_edge_35 (⟨Or.inr ⟨fun q => absurd q.1 b_1, rfl⟩, rfl⟩)
theorem iX6_sheet_X4 : ∀ w ∈ u_ws RX4 TX4 9, w ∈ wsX6_sheet := by decide +kernel
theorem iX6_sheet_X6 : ∀ w ∈ u_ws RX6 TX6 6, w ∈ wsX6_sheet := by decide +kernel
set_option maxHeartbeats 4000000 in
set_option maxRecDepth 100000 in
theorem kX6_sheet (l : Launch) (D : va_G) (cs : Nat → ClassId) (ad : Nat → Nat) (hd : distX ad) (sz : Nat) (S : XS) (hnP : S.1.2.2.2.2.1 ≤ 30) (hrp : RP S.1.2.2.2.2 S.2) (x w : Int32) : Met l yX6_sheet wsX6_sheet ({ frames := 1, cells := 0, slots := 0, locals := 21 } : Room) (gP D (WX cs ad) (EX D cs) S sz ([.ref (ad 0), .int (x), .int (w)] : List Value)) (va_Qi (fun r u => q_sheet S.1 x w r ∧ u = S) (gB D (WX cs ad)) (gA (AX ad) sz)) 0 0 (gA (AX ad) sz) := by
  obtain ⟨⟨⟨nN, px, py, pz, fx, fy, fz, lf, ld, fi⟩, ⟨nB, fr, tt, ln, wi, sg, pu⟩, ⟨nR, rd, rx, ry, wv, fo⟩, ⟨re, dg⟩, ⟨nP, tp, bt, dp⟩⟩, ⟨sp, ac, kp, kc, kn, aw, dw, su, ss, sd⟩⟩ := S
  have hnP : nP ≤ 30 := hnP
  have hrp : shA tp bt dp nP = (su, ss, sd) ∧ ∀ j, j < nP → shB (wideF tp bt j) (shA tp bt dp j) = (aw j, dw j) := hrp
  refine gMi (cc := cX6_sheet) (maxL := 3) (plainFor_of_name (by decide)) rfl (Nat.le_of_ble_eq_true rfl) ?_
  intro p e s m below meth c Q hx hb hts hown hml hsz hE hret H locs hP hS ls hl
  subst hsz
  have hown : s.vm.findClass RX6 = some m.cls := hown
  have hK : va_K D vwCl (tysX cs) s := hE.1
  have hD : ∀ u, va_D (gA (AX ad) s.heap.size) (WX cs ad u) := fun u => WX_D hd u
  have hl : lv_has ls 3 [(0, .ref (ad 0)), (1, .int (x)), (2, .int (w))] := hl
  have f_49 := hts (.fieldLink RX6 49 "NetShapes" "panels" "LNetShapes$Panels;") (by decide +kernel)
  have f_198 := hts (.fieldLink RX6 198 "NetShapes$Panels" "across" "[I") (by decide +kernel)
  have f_201 := hts (.fieldLink RX6 201 "NetShapes$Panels" "down" "[I") (by decide +kernel)
  refine lv_aload_n hx hb dX6_sheet_0 rfl (lv_at hl 0 rfl) ?_
  refine va_get (D := D) (ci := 6) (v := .ref (ad 6)) (C := RX6) (T := TX6) (N := 6) hx hb hts iX6_sheet_X6 hown hK hP 0 rfl rfl 5 (by decide) f_49 (fun _ h9 => h9) rfl dX6_sheet_1 ?_
  refine lv_iload_n hx hb dX6_sheet_4 rfl (lv_at hl 1 rfl) ?_
  refine gci (va_runV (As := [.int (x)]) (rest := []) ⟨hx, hb, hml, hown, hts⟩ (kX4_has l D cs ad hd H.size (((nN, px, py, pz, fx, fy, fz, lf, ld, fi), (nB, fr, tt, ln, wi, sg, pu), (nR, rd, rx, ry, wv, fo), (re, dg), (nP, tp, bt, dp)), (sp, ac, kp, kc, kn, aw, dw, su, ss, sd)) hnP x) (cwV 1 hts gX6_sheet_X4_has rfl rfl rfl (by decide +kernel) ⟨Nat.le_of_ble_eq_true rfl, Nat.le_of_ble_eq_true rfl⟩) (gPreV (EX_bl) (va_recv hK hP (ci := 4) (q0 := 6) rfl rfl) hP (fun U _ hW => EX_warm hW hE)) rfl rfl hl.1 rfl (lv_room (Nat.le_of_ble_eq_true rfl)) dX6_sheet_5 ⟨Nat.zero_le _, Nat.zero_le _⟩) hS (fun r_ u_ H locs hw hP hS => ?_)
  obtain ⟨rfl, hw⟩ := hw
  rcases hw with ⟨rfl, b_1⟩ | ⟨rfl, b_1⟩
  · skip
    have b_1 : inN (nP) (x) := b_1
    obtain ⟨j, hj, rfl⟩ := b_1
    refine lv_if_ne (tgt := 13) hx hb dX6_sheet_8 (by decide) (fun _ => ?_) (fun c_8_2 => absurd c_8_2 (by decide))
    refine lv_iload_n hx hb dX6_sheet_13 rfl (lv_at hl 2 rfl) ?_
    refine xsw (t0 := 40) (t1 := 50) (td := 60) hx hb dX6_sheet_14 (by decide) (by decide) (by decide) (fun w0 => ?_) (fun w1 => ?_) (fun n0 n1 => ?_)
    · skip
      refine lv_aload_n hx hb dX6_sheet_40 rfl (lv_at hl 0 rfl) ?_
      refine va_get (D := D) (ci := 6) (v := .ref (ad 6)) (C := RX6) (T := TX6) (N := 6) hx hb hts iX6_sheet_X6 hown hK hP 0 rfl rfl 5 (by decide) f_49 (fun _ h9 => h9) rfl dX6_sheet_41 ?_
      refine va_get (D := D) (ci := 4) (v := .ref (ad 28)) (C := RX4) (T := TX4) (N := 9) hx hb hts iX6_sheet_X4 hown hK hP 6 rfl rfl 3 (by decide) f_198 (fun _ h9 => h9) rfl dX6_sheet_44 ?_
      refine lv_iload_n hx hb dX6_sheet_47 rfl (lv_at hl 1 rfl) ?_
      refine xil hx hb hK hP 28 1 rfl rfl (j := j) (by decide) (by omega) dX6_sheet_48 ?_
      exact hret hS hP dX6_sheet_49 (⟨Or.inl ⟨j, hj, rfl, Or.inl ⟨w0, by rw [hrp.2 j hj]⟩⟩, rfl⟩)
    · skip
      refine lv_aload_n hx hb dX6_sheet_50 rfl (lv_at hl 0 rfl) ?_
      refine va_get (D := D) (ci := 6) (v := .ref (ad 6)) (C := RX6) (T := TX6) (N := 6) hx hb hts iX6_sheet_X6 hown hK hP 0 rfl rfl 5 (by decide) f_49 (fun _ h9 => h9) rfl dX6_sheet_51 ?_
      refine va_get (D := D) (ci := 4) (v := .ref (ad 29)) (C := RX4) (T := TX4) (N := 9) hx hb hts iX6_sheet_X4 hown hK hP 6 rfl rfl 4 (by decide) f_201 (fun _ h9 => h9) rfl dX6_sheet_54 ?_
      refine lv_iload_n hx hb dX6_sheet_57 rfl (lv_at hl 1 rfl) ?_
      refine xil hx hb hK hP 29 1 rfl rfl (j := j) (by decide) (by omega) dX6_sheet_58 ?_
      exact hret hS hP dX6_sheet_59 (⟨Or.inl ⟨j, hj, rfl, Or.inr ⟨w1, by rw [hrp.2 j hj]⟩⟩, rfl⟩)
    · skip
      refine lv_iconst (v := (-1 : Int32)) hx hb dX6_sheet_60 (by decide) ?_
      exact hret hS hP dX6_sheet_61 (⟨Or.inr ⟨fun q => q.2.elim n0 n1, rfl⟩, rfl⟩)
  · skip
    have b_1 : ¬ (inN (nP) (x)) := b_1
    refine lv_if_ne (tgt := 13) hx hb dX6_sheet_8 (by decide) (fun c_8_3 => absurd c_8_3 (by decide)) (fun _ => ?_)
    refine lv_iconst (v := (-1 : Int32)) hx hb dX6_sheet_11 (by decide) ?_
    exact hret hS hP dX6_sheet_12 (⟨Or.inr ⟨fun q => absurd q.1 b_1, rfl⟩, rfl⟩)
theorem iX7_sheet_X7 : ∀ w ∈ u_ws RX7 TX7 31, w ∈ wsX7_sheet := by decide +kernel
set_option maxHeartbeats 4000000 in
set_option maxRecDepth 100000 in
theorem kX7_sheet (l : Launch) (D : va_G) (cs : Nat → ClassId) (ad : Nat → Nat) (hd : distM ad) (sz : Nat) (S : MS) (hnP : S.1.2.2.2.2.1 ≤ 30) (x w : Int32) : Met l yX7_sheet wsX7_sheet ({ frames := 1, cells := 0, slots := 0, locals := 21 } : Room) (gP D (WM cs ad) (EM D cs) S sz ([.ref (ad 0), .int (x), .int (w)] : List Value)) (va_Qi (fun r u => q_sheet S.1 x w r ∧ u = S) (gB D (WM cs ad)) (gA (AM ad) sz)) 0 0 (gA (AM ad) sz) := by
  obtain ⟨⟨⟨nN, px, py, pz, fx, fy, fz, lf, ld, fi⟩, ⟨nB, fr, tt, ln, wi, sg, pu⟩, ⟨nR, rd, rx, ry, wv, fo⟩, ⟨re, dg⟩, ⟨nP, tp, bt, dp⟩⟩, ⟨nQ, fu⟩⟩ := S
  have hnP : nP ≤ 30 := hnP
  refine gMi (cc := cX7_sheet) (maxL := 8) (plainFor_of_name (by decide)) rfl (Nat.le_of_ble_eq_true rfl) ?_
  intro p e s m below meth c Q hx hb hts hown hml hsz hE hret H locs hP hS ls hl
  subst hsz
  have hown : s.vm.findClass RX7 = some m.cls := hown
  have hK : va_K D vwCl (tysX cs) s := hE.1
  have hD : ∀ u, va_D (gA (AM ad) s.heap.size) (WM cs ad u) := fun u => WM_D hd u
  have hl : lv_has ls 8 [(0, .ref (ad 0)), (1, .int (x)), (2, .int (w))] := hl
  have f_78 := hts (.fieldLink RX7 78 "NetShapesModel" "tops" "[I") (by decide +kernel)
  have f_81 := hts (.fieldLink RX7 81 "NetShapesModel" "bottoms" "[I") (by decide +kernel)
  have f_84 := hts (.fieldLink RX7 84 "NetShapesModel" "deeps" "[I") (by decide +kernel)
  refine lv_aload_n hx hb dX7_sheet_0 rfl (lv_at hl 0 rfl) ?_
  refine lv_iload_n hx hb dX7_sheet_1 rfl (lv_at hl 1 rfl) ?_
  refine gci (va_runV (As := [.int (x)]) (rest := []) ⟨hx, hb, hml, hown, hts⟩ (kX7_isPanel l D cs ad hd H.size (((nN, px, py, pz, fx, fy, fz, lf, ld, fi), (nB, fr, tt, ln, wi, sg, pu), (nR, rd, rx, ry, wv, fo), (re, dg), (nP, tp, bt, dp)), (nQ, fu)) hnP x) (cwV 1 hts gX7_sheet_X7_isPanel rfl rfl rfl (by decide +kernel) ⟨Nat.le_of_ble_eq_true rfl, Nat.le_of_ble_eq_true rfl⟩) (gPreV (EM_bl) (va_recv hK hP (ci := 7) (q0 := 0) rfl rfl) hP (fun U _ hW => EM_warm hW hE)) rfl rfl hl.1 rfl (lv_room (Nat.le_of_ble_eq_true rfl)) dX7_sheet_2 ⟨Nat.zero_le _, Nat.zero_le _⟩) hS (fun r_ u_ H locs hw hP hS => ?_)
  obtain ⟨rfl, hw⟩ := hw
  rcases hw with ⟨rfl, b_1⟩ | ⟨rfl, b_1⟩
  · skip
    have b_1 : inN (nP) (x) := b_1
    obtain ⟨j, hj, rfl⟩ := b_1
    refine lv_if_eq (tgt := 17) hx hb dX7_sheet_5 (by decide) (fun c_5_2 => absurd c_5_2 (by decide)) (fun _ => ?_)
    refine lv_iload_n hx hb dX7_sheet_8 rfl (lv_at hl 2 rfl) ?_
    refine lv_if_lt (tgt := 17) hx hb dX7_sheet_9 (by decide) (fun c_9_3 => ?_) (fun c_9_3 => ?_)
    · skip
      refine lv_iconst (v := (-1 : Int32)) hx hb dX7_sheet_17 (by decide) ?_
      exact hret hS hP dX7_sheet_18 (⟨Or.inr ⟨fun q => w_neg c_9_3 q.2, rfl⟩, rfl⟩)
    · skip
      refine lv_iload_n hx hb dX7_sheet_12 rfl (lv_at hl 2 rfl) ?_
      refine lv_iconst (v := nI 1) hx hb dX7_sheet_13 (by decide) ?_
      refine lv_icmp_le (tgt := 19) hx hb dX7_sheet_14 (by decide) (fun c_14_4 => ?_) (fun c_14_4 => ?_)
      · skip
        refine lv_iconst (v := nI 0) hx hb dX7_sheet_19 (by decide) ?_
        refine lv_istore_n (lv' := [(3, .int (nI 0)), (0, .ref (ad 0)), (1, .int (nI j)), (2, .int (w))]) hx hb dX7_sheet_20 rfl hl (by decide) rfl (fun ls hl => ?_)
        refine lv_iconst (v := nI 0) hx hb dX7_sheet_21 (by decide) ?_
        refine lv_istore (lv' := [(4, .int (nI 0)), (3, .int (nI 0)), (0, .ref (ad 0)), (1, .int (nI j)), (2, .int (w))]) hx hb dX7_sheet_22 hl (by decide) rfl (fun ls hl => ?_)
        refine lv_iconst (v := nI 0) hx hb dX7_sheet_24 (by decide) ?_
        refine lv_istore (lv' := [(5, .int (nI 0)), (4, .int (nI 0)), (3, .int (nI 0)), (0, .ref (ad 0)), (1, .int (nI j)), (2, .int (w))]) hx hb dX7_sheet_25 hl (by decide) rfl (fun ls hl => ?_)
        refine lv_iconst (v := nI 0) hx hb dX7_sheet_27 (by decide) ?_
        refine lv_istore (lv' := [(6, .int (nI 0)), (5, .int (nI 0)), (4, .int (nI 0)), (3, .int (nI 0)), (0, .ref (ad 0)), (1, .int (nI j)), (2, .int (w))]) hx hb dX7_sheet_28 hl (by decide) rfl (fun ls hl => ?_)
        have L_30_5 : ∀ (n_30 i : Nat) (a3 : Int32) (a4 : Int32) (a5 : Int32), (j + 1 ≤ i + n_30) → (i ≤ j) → ((a3, a4, a5) = shA tp bt dp i) → ∀ (H : Heap) (locs : List Loc), va_P D vwCl (WM cs ad (((nN, px, py, pz, fx, fy, fz, lf, ld, fi), (nB, fr, tt, ln, wi, sg, pu), (nR, rd, rx, ry, wv, fo), (re, dg), (nP, tp, bt, dp)), (nQ, fu))) H → va_S (gA (AM ad) s.heap.size) s.heap H locs → ∀ (ls : Array Slot), lv_has ls 8 [(6, .int (nI i)), (5, .int (a5)), (4, .int (a4)), (3, .int (a3)), (0, .ref (ad 0)), (1, .int (nI j)), (2, .int (w))] → W p l e ({ frames := 1, cells := 0, slots := 0, locals := 21 } : Room) s m ([.ref (ad 0), .int (nI j), .int (w)] : List Value).toArray below meth c H locs 0 0 Q (F0 m 30 ls []) := by
          intro n_30; induction n_30 with
          | zero => intro i a3 a4 a5 hf_30 hi hs H locs hP hS ls hl; exact absurd hf_30 (by omega)
          | succ n_30 ih_30 =>
            intro i a3 a4 a5 hf_30 hi hs H locs hP hS ls hl
            refine lv_iload hx hb dX7_sheet_30 (lv_at hl 0 rfl) ?_
            refine lv_iload_n hx hb dX7_sheet_32 rfl (lv_at hl 5 rfl) ?_
            refine lv_icmp_gt (tgt := 119) hx hb dX7_sheet_33 (by decide) (fun c_33_6 => ?_) (fun c_33_6 => ?_)
            · skip
              have c_33_6 : j < i := (nI_ltI (a := j) (b := i) (by omega) (by omega)).mp c_33_6
              refine lv_iconst (v := (-1 : Int32)) hx hb dX7_sheet_119 (by decide) ?_
              exact hret hS hP dX7_sheet_120 ((absurd hi (by omega)))
            · skip
              have c_33_6 : ¬ (j < i) := fun q => c_33_6 ((nI_ltI (a := j) (b := i) (by omega) (by omega)).mpr q)
              refine lv_aload_n hx hb dX7_sheet_36 rfl (lv_at hl 4 rfl) ?_
              refine va_get (D := D) (ci := 7) (v := .ref (ad 21)) (C := RX7) (T := TX7) (N := 31) hx hb hts iX7_sheet_X7 hown hK hP 0 rfl rfl 28 (by decide) f_78 (fun _ h9 => h9) rfl dX7_sheet_37 ?_
              refine lv_iload hx hb dX7_sheet_40 (lv_at hl 0 rfl) ?_
              refine xil hx hb hK hP 21 1 rfl rfl (j := i) (by decide) (by omega) dX7_sheet_42 ?_
              refine lv_aload_n hx hb dX7_sheet_43 rfl (lv_at hl 4 rfl) ?_
              refine va_get (D := D) (ci := 7) (v := .ref (ad 22)) (C := RX7) (T := TX7) (N := 31) hx hb hts iX7_sheet_X7 hown hK hP 0 rfl rfl 29 (by decide) f_81 (fun _ h9 => h9) rfl dX7_sheet_44 ?_
              refine lv_iload hx hb dX7_sheet_47 (lv_at hl 0 rfl) ?_
              refine xil hx hb hK hP 22 1 rfl rfl (j := i) (by decide) (by omega) dX7_sheet_49 ?_
              refine va_mmax hx hb (hml.trans hl.1.symm) hown (hts (.methodLink RX7 202 Lib.Math.max.name) (by decide +kernel)) (hts (.static Lib.Math.max.name) (by decide +kernel)) (hts (.initialized "java/lang/Math") (by decide +kernel)) (hts _ (List.mem_of_getElem? (i := 6) rfl)) (by decide) (Nat.le_of_ble_eq_true rfl) (Nat.zero_le _) (Nat.zero_le _) dX7_sheet_50 ?_
              refine lv_istore (lv' := [(7, .int (if (tp i) < (bt i) then (bt i) else (tp i))), (6, .int (nI i)), (5, .int (a5)), (4, .int (a4)), (3, .int (a3)), (0, .ref (ad 0)), (1, .int (nI j)), (2, .int (w))]) hx hb dX7_sheet_53 hl (by decide) rfl (fun ls hl => ?_)
              refine lv_iload_n hx hb dX7_sheet_55 rfl (lv_at hl 4 rfl) ?_
              refine lv_iload hx hb dX7_sheet_56 (lv_at hl 0 rfl) ?_
              refine lv_iadd hx hb dX7_sheet_58 ?_
              refine lv_sipush (v := nI 400) hx hb dX7_sheet_59 (by decide) ?_
              refine lv_icmp_le (tgt := 77) hx hb dX7_sheet_62 (by decide) (fun c_62_7 => ?_) (fun c_62_7 => ?_)
              · skip
                refine lv_iload hx hb dX7_sheet_77 (lv_at hl 1 rfl) ?_
                refine lv_iload_n hx hb dX7_sheet_79 rfl (lv_at hl 6 rfl) ?_
                refine lv_icmp_ne (tgt := 94) hx hb dX7_sheet_80 (by decide) (fun c_80_8 => ?_) (fun c_80_8 => ?_)
                · skip
                  have c_80_8 : ¬ (i = j) := fun q => c_80_8 ((nI_eq (a := i) (b := j) (by omega) (by omega)).mpr q)
                  refine lv_iload_n hx hb dX7_sheet_94 rfl (lv_at hl 4 rfl) ?_
                  refine lv_iload hx hb dX7_sheet_95 (lv_at hl 0 rfl) ?_
                  refine lv_iadd hx hb dX7_sheet_97 ?_
                  refine lv_istore_n (lv' := [(3, .int (a3 + (if (tp i) < (bt i) then (bt i) else (tp i)))), (7, .int (if (tp i) < (bt i) then (bt i) else (tp i))), (6, .int (nI i)), (5, .int (a5)), (4, .int (a4)), (0, .ref (ad 0)), (1, .int (nI j)), (2, .int (w))]) hx hb dX7_sheet_98 rfl hl (by decide) rfl (fun ls hl => ?_)
                  refine lv_iload hx hb dX7_sheet_99 (lv_at hl 3 rfl) ?_
                  refine lv_aload_n hx hb dX7_sheet_101 rfl (lv_at hl 5 rfl) ?_
                  refine va_get (D := D) (ci := 7) (v := .ref (ad 23)) (C := RX7) (T := TX7) (N := 31) hx hb hts iX7_sheet_X7 hown hK hP 0 rfl rfl 30 (by decide) f_84 (fun _ h9 => h9) rfl dX7_sheet_102 ?_
                  refine lv_iload hx hb dX7_sheet_105 (lv_at hl 2 rfl) ?_
                  refine xil hx hb hK hP 23 1 rfl rfl (j := i) (by decide) (by omega) dX7_sheet_107 ?_
                  refine va_mmax hx hb (hml.trans hl.1.symm) hown (hts (.methodLink RX7 202 Lib.Math.max.name) (by decide +kernel)) (hts (.static Lib.Math.max.name) (by decide +kernel)) (hts (.initialized "java/lang/Math") (by decide +kernel)) (hts _ (List.mem_of_getElem? (i := 6) rfl)) (by decide) (Nat.le_of_ble_eq_true rfl) (Nat.zero_le _) (Nat.zero_le _) dX7_sheet_108 ?_
                  refine lv_istore (lv' := [(5, .int (if a5 < (dp i) then (dp i) else a5)), (3, .int (a3 + (if (tp i) < (bt i) then (bt i) else (tp i)))), (7, .int (if (tp i) < (bt i) then (bt i) else (tp i))), (6, .int (nI i)), (4, .int (a4)), (0, .ref (ad 0)), (1, .int (nI j)), (2, .int (w))]) hx hb dX7_sheet_111 hl (by decide) rfl (fun ls hl => ?_)
                  refine lv_iinc (v := nI (i + 1)) (lv' := [(6, .int (nI (i + 1))), (5, .int (if a5 < (dp i) then (dp i) else a5)), (3, .int (a3 + (if (tp i) < (bt i) then (bt i) else (tp i)))), (7, .int (if (tp i) < (bt i) then (bt i) else (tp i))), (4, .int (a4)), (0, .ref (ad 0)), (1, .int (nI j)), (2, .int (w))]) hx hb dX7_sheet_113 hl (k := 3) rfl (nI_add _ _) (by decide) rfl (fun ls hl => ?_)
                  refine lv_goto (tgt := 30) hx hb dX7_sheet_116 (by decide) ?_
                  exact ih_30 (i + 1) (a3 + (if (tp i) < (bt i) then (bt i) else (tp i))) (a4) (if a5 < (dp i) then (dp i) else a5) (by omega) (by omega) (by show _ = shStep _ _ _; rw [← hs, shStep_p (w := wideF tp bt i) c_62_7]; rfl) _ _ hP hS ls (lv_sub hl [0, 1, 4, 2, 5, 6, 7] rfl)
                · skip
                  have c_80_8 : i = j := (nI_eq (a := i) (b := j) (by omega) (by omega)).mp c_80_8
                  refine lv_iload_n hx hb dX7_sheet_83 rfl (lv_at hl 7 rfl) ?_
                  refine lv_if_ne (tgt := 91) hx hb dX7_sheet_84 (by decide) (fun c_84_9 => ?_) (fun c_84_9 => ?_)
                  · skip
                    refine lv_iload hx hb dX7_sheet_91 (lv_at hl 3 rfl) ?_
                    exact hret hS hP dX7_sheet_93 (⟨Or.inl ⟨i, by omega, by rw [show i = j by omega], Or.inr ⟨w_one c_9_3 c_14_4 c_84_9, by rw [← hs, shB_p (w := wideF tp bt i) c_62_7]⟩⟩, rfl⟩)
                  · skip
                    refine lv_iload_n hx hb dX7_sheet_87 rfl (lv_at hl 4 rfl) ?_
                    refine lv_goto (tgt := 93) hx hb dX7_sheet_88 (by decide) ?_
                    exact hret hS hP dX7_sheet_93 (⟨Or.inl ⟨i, by omega, by rw [show i = j by omega], Or.inl ⟨c_84_9, by rw [← hs, shB_p (w := wideF tp bt i) c_62_7]⟩⟩, rfl⟩)
              · skip
                refine lv_iload hx hb dX7_sheet_65 (lv_at hl 3 rfl) ?_
                refine lv_iload hx hb dX7_sheet_67 (lv_at hl 2 rfl) ?_
                refine lv_iadd hx hb dX7_sheet_69 ?_
                refine lv_istore (lv' := [(4, .int (a4 + a5)), (7, .int (if (tp i) < (bt i) then (bt i) else (tp i))), (6, .int (nI i)), (5, .int (a5)), (3, .int (a3)), (0, .ref (ad 0)), (1, .int (nI j)), (2, .int (w))]) hx hb dX7_sheet_70 hl (by decide) rfl (fun ls hl => ?_)
                refine lv_iconst (v := nI 0) hx hb dX7_sheet_72 (by decide) ?_
                refine lv_istore_n (lv' := [(3, .int (nI 0)), (4, .int (a4 + a5)), (7, .int (if (tp i) < (bt i) then (bt i) else (tp i))), (6, .int (nI i)), (5, .int (a5)), (0, .ref (ad 0)), (1, .int (nI j)), (2, .int (w))]) hx hb dX7_sheet_73 rfl hl (by decide) rfl (fun ls hl => ?_)
                refine lv_iconst (v := nI 0) hx hb dX7_sheet_74 (by decide) ?_
                refine lv_istore (lv' := [(5, .int (nI 0)), (3, .int (nI 0)), (4, .int (a4 + a5)), (7, .int (if (tp i) < (bt i) then (bt i) else (tp i))), (6, .int (nI i)), (0, .ref (ad 0)), (1, .int (nI j)), (2, .int (w))]) hx hb dX7_sheet_75 hl (by decide) rfl (fun ls hl => ?_)
                refine lv_iload hx hb dX7_sheet_77 (lv_at hl 4 rfl) ?_
                refine lv_iload_n hx hb dX7_sheet_79 rfl (lv_at hl 6 rfl) ?_
                refine lv_icmp_ne (tgt := 94) hx hb dX7_sheet_80 (by decide) (fun c_80_10 => ?_) (fun c_80_10 => ?_)
                · skip
                  have c_80_10 : ¬ (i = j) := fun q => c_80_10 ((nI_eq (a := i) (b := j) (by omega) (by omega)).mpr q)
                  refine lv_iload_n hx hb dX7_sheet_94 rfl (lv_at hl 1 rfl) ?_
                  refine lv_iload hx hb dX7_sheet_95 (lv_at hl 3 rfl) ?_
                  refine lv_iadd hx hb dX7_sheet_97 ?_
                  refine lv_istore_n (lv' := [(3, .int ((nI 0) + (if (tp i) < (bt i) then (bt i) else (tp i)))), (5, .int (nI 0)), (4, .int (a4 + a5)), (7, .int (if (tp i) < (bt i) then (bt i) else (tp i))), (6, .int (nI i)), (0, .ref (ad 0)), (1, .int (nI j)), (2, .int (w))]) hx hb dX7_sheet_98 rfl hl (by decide) rfl (fun ls hl => ?_)
                  refine lv_iload hx hb dX7_sheet_99 (lv_at hl 1 rfl) ?_
                  refine lv_aload_n hx hb dX7_sheet_101 rfl (lv_at hl 5 rfl) ?_
                  refine va_get (D := D) (ci := 7) (v := .ref (ad 23)) (C := RX7) (T := TX7) (N := 31) hx hb hts iX7_sheet_X7 hown hK hP 0 rfl rfl 30 (by decide) f_84 (fun _ h9 => h9) rfl dX7_sheet_102 ?_
                  refine lv_iload hx hb dX7_sheet_105 (lv_at hl 4 rfl) ?_
                  refine xil hx hb hK hP 23 1 rfl rfl (j := i) (by decide) (by omega) dX7_sheet_107 ?_
                  refine va_mmax hx hb (hml.trans hl.1.symm) hown (hts (.methodLink RX7 202 Lib.Math.max.name) (by decide +kernel)) (hts (.static Lib.Math.max.name) (by decide +kernel)) (hts (.initialized "java/lang/Math") (by decide +kernel)) (hts _ (List.mem_of_getElem? (i := 6) rfl)) (by decide) (Nat.le_of_ble_eq_true rfl) (Nat.zero_le _) (Nat.zero_le _) dX7_sheet_108 ?_
                  refine lv_istore (lv' := [(5, .int (if (nI 0) < (dp i) then (dp i) else (nI 0))), (3, .int ((nI 0) + (if (tp i) < (bt i) then (bt i) else (tp i)))), (4, .int (a4 + a5)), (7, .int (if (tp i) < (bt i) then (bt i) else (tp i))), (6, .int (nI i)), (0, .ref (ad 0)), (1, .int (nI j)), (2, .int (w))]) hx hb dX7_sheet_111 hl (by decide) rfl (fun ls hl => ?_)
                  refine lv_iinc (v := nI (i + 1)) (lv' := [(6, .int (nI (i + 1))), (5, .int (if (nI 0) < (dp i) then (dp i) else (nI 0))), (3, .int ((nI 0) + (if (tp i) < (bt i) then (bt i) else (tp i)))), (4, .int (a4 + a5)), (7, .int (if (tp i) < (bt i) then (bt i) else (tp i))), (0, .ref (ad 0)), (1, .int (nI j)), (2, .int (w))]) hx hb dX7_sheet_113 hl (k := 4) rfl (nI_add _ _) (by decide) rfl (fun ls hl => ?_)
                  refine lv_goto (tgt := 30) hx hb dX7_sheet_116 (by decide) ?_
                  exact ih_30 (i + 1) ((nI 0) + (if (tp i) < (bt i) then (bt i) else (tp i))) (a4 + a5) (if (nI 0) < (dp i) then (dp i) else (nI 0)) (by omega) (by omega) (by show _ = shStep _ _ _; rw [← hs, shStep_n (w := wideF tp bt i) c_62_7]; rfl) _ _ hP hS ls (lv_sub hl [0, 1, 3, 2, 5, 6, 7] rfl)
                · skip
                  have c_80_10 : i = j := (nI_eq (a := i) (b := j) (by omega) (by omega)).mp c_80_10
                  refine lv_iload_n hx hb dX7_sheet_83 rfl (lv_at hl 7 rfl) ?_
                  refine lv_if_ne (tgt := 91) hx hb dX7_sheet_84 (by decide) (fun c_84_11 => ?_) (fun c_84_11 => ?_)
                  · skip
                    refine lv_iload hx hb dX7_sheet_91 (lv_at hl 2 rfl) ?_
                    exact hret hS hP dX7_sheet_93 (⟨Or.inl ⟨i, by omega, by rw [show i = j by omega], Or.inr ⟨w_one c_9_3 c_14_4 c_84_11, by rw [← hs, shB_n (w := wideF tp bt i) c_62_7]⟩⟩, rfl⟩)
                  · skip
                    refine lv_iload_n hx hb dX7_sheet_87 rfl (lv_at hl 1 rfl) ?_
                    refine lv_goto (tgt := 93) hx hb dX7_sheet_88 (by decide) ?_
                    exact hret hS hP dX7_sheet_93 (⟨Or.inl ⟨i, by omega, by rw [show i = j by omega], Or.inl ⟨c_84_11, by rw [← hs, shB_n (w := wideF tp bt i) c_62_7]⟩⟩, rfl⟩)
        exact L_30_5 (j + 1) (0) (nI 0) (nI 0) (nI 0) (by omega) (by omega) rfl _ _ hP hS ls (lv_sub hl [0, 1, 2, 3, 4, 5, 6] rfl)
      · skip
        refine lv_iconst (v := (-1 : Int32)) hx hb dX7_sheet_17 (by decide) ?_
        exact hret hS hP dX7_sheet_18 (⟨Or.inr ⟨fun q => w_big c_14_4 q.2, rfl⟩, rfl⟩)
  · skip
    have b_1 : ¬ (inN (nP) (x)) := b_1
    refine lv_if_eq (tgt := 17) hx hb dX7_sheet_5 (by decide) (fun _ => ?_) (fun c_5_12 => absurd c_5_12 (by decide))
    refine lv_iconst (v := (-1 : Int32)) hx hb dX7_sheet_17 (by decide) ?_
    exact hret hS hP dX7_sheet_18 (⟨Or.inr ⟨fun q => absurd q.1 b_1, rfl⟩, rfl⟩)
