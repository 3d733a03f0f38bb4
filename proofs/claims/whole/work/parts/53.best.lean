/-! best -/
def lsF (g : DF) : Nat → Int32
  | 0 => -1
  | k + 1 => nI (bestF g k)
theorem nI_m1 {n : Nat} (h : n < 2 ^ 31) : ¬ nI n = (-1 : Int32) := fun q => nI_pos h (by rw [q]; decide)
theorem min_nI {a : Nat} (h : a < 2 ^ 31) : (if nI 20 < nI a then nI 20 else nI a) = nI (min a 20) := by
  by_cases c : 20 < a
  · rw [if_pos ((nI_ltI (by decide) h).mpr c), Nat.min_eq_right (by omega)]
  · rw [if_neg (fun q => c ((nI_ltI (by decide) h).mp q)), Nat.min_eq_left (by omega)]
theorem ringF_eq (kp : DF) (kn b : Nat) : kp ((kn + 19 - b) % 20) = ringF kp kn b := rfl
theorem iX2_backwards_X2 : ∀ w ∈ u_ws RX2 TX2 3, w ∈ wsX2_backwards := by decide +kernel
set_option maxHeartbeats 4000000 in
set_option maxRecDepth 100000 in
theorem kX2_backwards (l : Launch) (D : va_G) (cs : Nat → ClassId) (ad : Nat → Nat) (hd : distX ad) (sz : Nat) (S : XS) (hkn : S.2.2.2.2.2.1 < 20) (b : Nat) (hb_ : b < 20) : Met l yX2_backwards wsX2_backwards ({ frames := 1, cells := 0, slots := 0, locals := 22 } : Room) (gP D (WX cs ad) (EX D cs) S sz ([.ref (ad 5), .int (nI b)] : List Value)) (va_Qd (fun r u => u = S ∧ r = ringF (S.2.2.2.1) (S.2.2.2.2.2.1) b) (gB D (WX cs ad)) (gA (AX ad) sz)) 0 0 (gA (AX ad) sz) := by
  obtain ⟨⟨⟨nN, px, py, pz, fx, fy, fz, lf, ld, fi⟩, ⟨nB, fr, tt, ln, wi, sg, pu⟩, ⟨nR, rd, rx, ry, wv, fo⟩, ⟨re, dg⟩, ⟨nP, tp, bt, dp⟩⟩, ⟨sp, ac, kp, kc, kn, aw, dw, su, ss, sd⟩⟩ := S
  have hkn : kn < 20 := hkn
  refine gMd (cc := cX2_backwards) (maxL := 2) (plainFor_of_name (by decide)) rfl (Nat.le_of_ble_eq_true rfl) ?_
  intro p e s m below meth c Q hx hb hts hown hml hsz hE hret H locs hP hS ls hl
  subst hsz
  have hown : s.vm.findClass RX2 = some m.cls := hown
  have hK : va_K D vwCl (tysX cs) s := hE.1
  have hD : ∀ u, va_D (gA (AX ad) s.heap.size) (WX cs ad u) := fun u => WX_D hd u
  have hl : lv_has ls 2 [(0, .ref (ad 5)), (1, .int (nI b))] := hl
  have f_9 := hts (.fieldLink RX2 9 "NetShapes$Fuels" "kept" "[D") (by decide +kernel)
  have f_19 := hts (.fieldLink RX2 19 "NetShapes$Fuels" "next" "I") (by decide +kernel)
  refine lv_aload_n hx hb dX2_backwards_0 rfl (lv_at hl 0 rfl) ?_
  refine va_get (D := D) (ci := 2) (v := .ref (ad 24)) (C := RX2) (T := TX2) (N := 3) hx hb hts iX2_backwards_X2 hown hK hP 5 rfl rfl 0 (by decide) f_9 (fun _ h9 => h9) rfl dX2_backwards_1 ?_
  refine lv_aload_n hx hb dX2_backwards_4 rfl (lv_at hl 0 rfl) ?_
  refine va_get (D := D) (ci := 2) (v := .int (nI kn)) (C := RX2) (T := TX2) (N := 3) hx hb hts iX2_backwards_X2 hown hK hP 5 rfl rfl 2 (by decide) f_19 (fun _ h9 => h9) rfl dX2_backwards_5 ?_
  refine lv_iconst (v := nI 1) hx hb dX2_backwards_8 (by decide) ?_
  refine lv_isub hx hb dX2_backwards_9 ?_
  refine lv_iload_n hx hb dX2_backwards_10 rfl (lv_at hl 1 rfl) ?_
  refine lv_isub hx hb dX2_backwards_11 ?_
  refine lv_bipush (v := nI 20) hx hb dX2_backwards_12 (by decide) ?_
  refine g0i (va_runS (As := [.int (((nI kn) - (nI 1)) - (nI b)), .int (nI 20)]) (rest := [.ref (ad 24)]) ⟨hx, hb, hml, hown, hts⟩ (kJ9_floorMod_7cf53 l D H.size (((nI kn) - (nI 1)) - (nI b)) (nI 20) (by decide)) (va_cwS 2 hts gX2_backwards_J9_floorMod_7cf53 rfl rfl rfl (by decide +kernel) ⟨Nat.le_of_ble_eq_true rfl, Nat.le_of_ble_eq_true rfl⟩) (gPreS (eT_bl) w0_P (fun _ _ _ => trivial)) rfl rfl hl.1 rfl (lv_room (Nat.le_of_ble_eq_true rfl)) dX2_backwards_14 ⟨Nat.zero_le _, Nat.zero_le _⟩) hP hS (fun r_ H locs hw hP hS => ?_)
  obtain ⟨v_1, ev_1⟩ : ∃ z, z = r_ := ⟨r_, rfl⟩
  rw [← ev_1] at hw ⊢
  clear ev_1
  have ev_1 : v_1 = fmodF (((nI kn) - (nI 1)) - (nI b)) (nI 20) := hw
  have ev_1 : v_1 = nI ((kn + 19 - b) % 20) := ev_1.trans (fmod20 kn hkn b hb_)
  subst ev_1
  refine xdl hx hb hK hP 24 0 rfl rfl (j := (kn + 19 - b) % 20) (by decide) (by omega) dX2_backwards_17 ?_
  exact hret hS hP dX2_backwards_18 (⟨rfl, rfl⟩)
theorem iX2_leastOfLatest_X2 : ∀ w ∈ u_ws RX2 TX2 3, w ∈ wsX2_leastOfLatest := by decide +kernel
set_option maxHeartbeats 4000000 in
set_option maxRecDepth 100000 in
theorem kX2_leastOfLatest (l : Launch) (D : va_G) (cs : Nat → ClassId) (ad : Nat → Nat) (hd : distX ad) (sz : Nat) (S : XS) (hkn : S.2.2.2.2.2.1 < 20) (hkc : S.2.2.2.2.1 ≤ 20) (L : Nat) (hL : L ≤ 20) : Met l yX2_leastOfLatest wsX2_leastOfLatest ({ frames := 2, cells := 0, slots := 0, locals := 43 } : Room) (gP D (WX cs ad) (EX D cs) S sz ([.ref (ad 5), .int (nI L)] : List Value)) (va_Qi (fun r u => u = S ∧ r = lsF (ringF (S.2.2.2.1) (S.2.2.2.2.2.1)) (min L (S.2.2.2.2.1))) (gB D (WX cs ad)) (gA (AX ad) sz)) 0 0 (gA (AX ad) sz) := by
  obtain ⟨⟨⟨nN, px, py, pz, fx, fy, fz, lf, ld, fi⟩, ⟨nB, fr, tt, ln, wi, sg, pu⟩, ⟨nR, rd, rx, ry, wv, fo⟩, ⟨re, dg⟩, ⟨nP, tp, bt, dp⟩⟩, ⟨sp, ac, kp, kc, kn, aw, dw, su, ss, sd⟩⟩ := S
  have hkn : kn < 20 := hkn
  have hkc : kc ≤ 20 := hkc
  refine gMi (cc := cX2_leastOfLatest) (maxL := 4) (plainFor_of_name (by decide)) rfl (Nat.le_of_ble_eq_true rfl) ?_
  intro p e s m below meth c Q hx hb hts hown hml hsz hE hret H locs hP hS ls hl
  subst hsz
  have hown : s.vm.findClass RX2 = some m.cls := hown
  have hK : va_K D vwCl (tysX cs) s := hE.1
  have hD : ∀ u, va_D (gA (AX ad) s.heap.size) (WX cs ad u) := fun u => WX_D hd u
  have hl : lv_has ls 4 [(0, .ref (ad 5)), (1, .int (nI L))] := hl
  have f_15 := hts (.fieldLink RX2 15 "NetShapes$Fuels" "count" "I") (by decide +kernel)
  refine lv_iconst (v := (-1 : Int32)) hx hb dX2_leastOfLatest_0 (by decide) ?_
  refine lv_istore_n (lv' := [(2, .int ((-1 : Int32))), (0, .ref (ad 5)), (1, .int (nI L))]) hx hb dX2_leastOfLatest_1 rfl hl (by decide) rfl (fun ls hl => ?_)
  refine lv_iconst (v := nI 0) hx hb dX2_leastOfLatest_2 (by decide) ?_
  refine lv_istore_n (lv' := [(3, .int (nI 0)), (2, .int ((-1 : Int32))), (0, .ref (ad 5)), (1, .int (nI L))]) hx hb dX2_leastOfLatest_3 rfl hl (by decide) rfl (fun ls hl => ?_)
  have L_4_1 : ∀ (n_4 i : Nat) (lt_ : Int32), (L + 1 ≤ i + n_4) → (i ≤ L) → (i ≤ kc) → (lt_ = lsF (ringF kp kn) i) → ∀ (H : Heap) (locs : List Loc), va_P D vwCl (WX cs ad (((nN, px, py, pz, fx, fy, fz, lf, ld, fi), (nB, fr, tt, ln, wi, sg, pu), (nR, rd, rx, ry, wv, fo), (re, dg), (nP, tp, bt, dp)), (sp, ac, kp, kc, kn, aw, dw, su, ss, sd))) H → va_S (gA (AX ad) s.heap.size) s.heap H locs → ∀ (ls : Array Slot), lv_has ls 4 [(3, .int (nI i)), (2, .int (lt_)), (0, .ref (ad 5)), (1, .int (nI L))] → W p l e ({ frames := 2, cells := 0, slots := 0, locals := 43 } : Room) s m ([.ref (ad 5), .int (nI L)] : List Value).toArray below meth c H locs 0 0 Q (F0 m 4 ls []) := by
    intro n_4; induction n_4 with
    | zero => intro i lt_ hf_4 hi hi2 hls H locs hP hS ls hl; exact absurd hf_4 (by omega)
    | succ n_4 ih_4 =>
      intro i lt_ hf_4 hi hi2 hls H locs hP hS ls hl
      refine lv_iload_n hx hb dX2_leastOfLatest_4 rfl (lv_at hl 0 rfl) ?_
      refine lv_iload_n hx hb dX2_leastOfLatest_5 rfl (lv_at hl 3 rfl) ?_
      refine lv_icmp_ge (tgt := 44) hx hb dX2_leastOfLatest_6 (by decide) (fun c_6_2 => ?_) (fun c_6_2 => ?_)
      · skip
        have c_6_2 : L ≤ i := (nI_leI (a := L) (b := i) (by omega) (by omega)).mp c_6_2
        refine lv_iload_n hx hb dX2_leastOfLatest_44 rfl (lv_at hl 1 rfl) ?_
        exact hret hS hP dX2_leastOfLatest_45 (⟨rfl, by rw [hls]; show _ = lsF (ringF kp kn) (min L kc); rw [show min L kc = i by omega]⟩)
      · skip
        have c_6_2 : ¬ (L ≤ i) := fun q => c_6_2 ((nI_leI (a := L) (b := i) (by omega) (by omega)).mpr q)
        refine lv_iload_n hx hb dX2_leastOfLatest_9 rfl (lv_at hl 0 rfl) ?_
        refine lv_aload_n hx hb dX2_leastOfLatest_10 rfl (lv_at hl 2 rfl) ?_
        refine va_get (D := D) (ci := 2) (v := .int (nI kc)) (C := RX2) (T := TX2) (N := 3) hx hb hts iX2_leastOfLatest_X2 hown hK hP 5 rfl rfl 1 (by decide) f_15 (fun _ h9 => h9) rfl dX2_leastOfLatest_11 ?_
        refine lv_icmp_ge (tgt := 44) hx hb dX2_leastOfLatest_14 (by decide) (fun c_14_3 => ?_) (fun c_14_3 => ?_)
        · skip
          have c_14_3 : kc ≤ i := (nI_leI (a := kc) (b := i) (by omega) (by omega)).mp c_14_3
          refine lv_iload_n hx hb dX2_leastOfLatest_44 rfl (lv_at hl 1 rfl) ?_
          exact hret hS hP dX2_leastOfLatest_45 (⟨rfl, by rw [hls]; show _ = lsF (ringF kp kn) (min L kc); rw [show min L kc = i by omega]⟩)
        · skip
          have c_14_3 : ¬ (kc ≤ i) := fun q => c_14_3 ((nI_leI (a := kc) (b := i) (by omega) (by omega)).mpr q)
          rcases i with _ | i
          · skip
            have hls : lt_ = (-1 : Int32) := hls
            subst hls
            refine lv_iload_n hx hb dX2_leastOfLatest_17 rfl (lv_at hl 1 rfl) ?_
            refine lv_iconst (v := (-1 : Int32)) hx hb dX2_leastOfLatest_18 (by decide) ?_
            refine lv_icmp_eq (tgt := 36) hx hb dX2_leastOfLatest_19 (by decide) (fun _ => ?_) (fun c_19_4 => absurd c_19_4 (by decide))
            refine lv_iload_n hx hb dX2_leastOfLatest_36 rfl (lv_at hl 0 rfl) ?_
            refine lv_istore_n (lv' := [(2, .int (nI 0)), (3, .int (nI 0)), (0, .ref (ad 5)), (1, .int (nI L))]) hx hb dX2_leastOfLatest_37 rfl hl (by decide) rfl (fun ls hl => ?_)
            refine lv_iinc (v := nI 1) (lv' := [(3, .int (nI 1)), (2, .int (nI 0)), (0, .ref (ad 5)), (1, .int (nI L))]) hx hb dX2_leastOfLatest_38 hl (k := 1) rfl (nI_add _ _) (by decide) rfl (fun ls hl => ?_)
            refine lv_goto (tgt := 4) hx hb dX2_leastOfLatest_41 (by decide) ?_
            exact ih_4 (1) (nI 0) (by omega) (by omega) (by omega) rfl _ _ hP hS ls (lv_sub hl [0, 1, 2, 3] rfl)
          · skip
            have hls : lt_ = nI (bestF (ringF kp kn) i) := hls
            subst hls
            have hbl := be_le (ringF kp kn) i
            refine lv_iload_n hx hb dX2_leastOfLatest_17 rfl (lv_at hl 1 rfl) ?_
            refine lv_iconst (v := (-1 : Int32)) hx hb dX2_leastOfLatest_18 (by decide) ?_
            refine lv_icmp_eq (tgt := 36) hx hb dX2_leastOfLatest_19 (by decide) (fun c9 => absurd c9 (nI_m1 (by omega))) (fun _ => ?_)
            refine lv_aload_n hx hb dX2_leastOfLatest_22 rfl (lv_at hl 2 rfl) ?_
            refine lv_iload_n hx hb dX2_leastOfLatest_23 rfl (lv_at hl 0 rfl) ?_
            refine gcd (va_runV (As := [.int (nI (i + 1))]) (rest := []) ⟨hx, hb, hml, hown, hts⟩ (kX2_backwards l D cs ad hd H.size (((nN, px, py, pz, fx, fy, fz, lf, ld, fi), (nB, fr, tt, ln, wi, sg, pu), (nR, rd, rx, ry, wv, fo), (re, dg), (nP, tp, bt, dp)), (sp, ac, kp, kc, kn, aw, dw, su, ss, sd)) hkn (i + 1) (by omega)) (cwV 1 hts gX2_leastOfLatest_X2_backwards rfl rfl rfl (by decide +kernel) ⟨Nat.le_of_ble_eq_true rfl, Nat.le_of_ble_eq_true rfl⟩) (gPreV (EX_bl) (va_recv hK hP (ci := 2) (q0 := 5) rfl rfl) hP (fun U _ hW => EX_warm hW hE)) rfl rfl hl.1 rfl (lv_room (Nat.le_of_ble_eq_true rfl)) dX2_leastOfLatest_24 ⟨Nat.zero_le _, Nat.zero_le _⟩) hS (fun r_ u_ H locs hw hP hS => ?_)
            obtain ⟨rfl, hw⟩ := hw
            obtain ⟨v_5, ev_5⟩ : ∃ z, z = r_ := ⟨r_, rfl⟩
            rw [← ev_5] at hw ⊢
            clear ev_5
            have ev_5 : v_5 = ringF kp kn (i + 1) := hw
            refine lv_aload_n hx hb dX2_leastOfLatest_27 rfl (lv_at hl 2 rfl) ?_
            refine lv_iload_n hx hb dX2_leastOfLatest_28 rfl (lv_at hl 1 rfl) ?_
            refine gcd (va_runV (As := [.int (nI (bestF (ringF kp kn) i))]) (rest := [.double (v_5)]) ⟨hx, hb, hml, hown, hts⟩ (kX2_backwards l D cs ad hd H.size (((nN, px, py, pz, fx, fy, fz, lf, ld, fi), (nB, fr, tt, ln, wi, sg, pu), (nR, rd, rx, ry, wv, fo), (re, dg), (nP, tp, bt, dp)), (sp, ac, kp, kc, kn, aw, dw, su, ss, sd)) hkn (bestF (ringF kp kn) i) (by omega)) (cwV 1 hts gX2_leastOfLatest_X2_backwards rfl rfl rfl (by decide +kernel) ⟨Nat.le_of_ble_eq_true rfl, Nat.le_of_ble_eq_true rfl⟩) (gPreV (EX_bl) (va_recv hK hP (ci := 2) (q0 := 5) rfl rfl) hP (fun U _ hW => EX_warm hW hE)) rfl rfl hl.1 rfl (lv_room (Nat.le_of_ble_eq_true rfl)) dX2_leastOfLatest_29 ⟨Nat.zero_le _, Nat.zero_le _⟩) hS (fun r_ u_ H locs hw hP hS => ?_)
            obtain ⟨rfl, hw⟩ := hw
            obtain ⟨v_6, ev_6⟩ : ∃ z, z = r_ := ⟨r_, rfl⟩
            rw [← ev_6] at hw ⊢
            clear ev_6
            have ev_6 : v_6 = ringF kp kn (bestF (ringF kp kn) i) := hw
            refine xc_glt (tgt := 38) hx hb dX2_leastOfLatest_32 dX2_leastOfLatest_33 (by decide) (fun c_32_7 => ?_) (fun c_32_7 => ?_)
            · skip
              refine lv_iinc (v := nI (i + 1 + 1)) (lv' := [(3, .int (nI (i + 1 + 1))), (2, .int (nI (bestF (ringF kp kn) i))), (0, .ref (ad 5)), (1, .int (nI L))]) hx hb dX2_leastOfLatest_38 hl (k := 0) rfl (nI_add _ _) (by decide) rfl (fun ls hl => ?_)
              refine lv_goto (tgt := 4) hx hb dX2_leastOfLatest_41 (by decide) ?_
              exact ih_4 (i + 1 + 1) (nI (bestF (ringF kp kn) i)) (by omega) (by omega) (by omega) (by show _ = nI (bestF _ (i + 1)); rw [be_n (by rw [← ev_5, ← ev_6]; exact c_32_7)]) _ _ hP hS ls (lv_sub hl [0, 1, 2, 3] rfl)
            · skip
              refine lv_iload_n hx hb dX2_leastOfLatest_36 rfl (lv_at hl 0 rfl) ?_
              refine lv_istore_n (lv' := [(2, .int (nI (i + 1))), (3, .int (nI (i + 1))), (0, .ref (ad 5)), (1, .int (nI L))]) hx hb dX2_leastOfLatest_37 rfl hl (by decide) rfl (fun ls hl => ?_)
              refine lv_iinc (v := nI (i + 1 + 1)) (lv' := [(3, .int (nI (i + 1 + 1))), (2, .int (nI (i + 1))), (0, .ref (ad 5)), (1, .int (nI L))]) hx hb dX2_leastOfLatest_38 hl (k := 1) rfl (nI_add _ _) (by decide) rfl (fun ls hl => ?_)
              refine lv_goto (tgt := 4) hx hb dX2_leastOfLatest_41 (by decide) ?_
              exact ih_4 (i + 1 + 1) (nI (i + 1)) (by omega) (by omega) (by omega) (by show _ = nI (bestF _ (i + 1)); rw [be_p (by rw [← ev_5, ← ev_6]; exact c_32_7)]) _ _ hP hS ls (lv_sub hl [0, 1, 2, 3] rfl)
  exact L_4_1 (L + 1) (0) ((-1 : Int32)) (by omega) (by omega) (by omega) rfl _ _ hP hS ls (lv_sub hl [0, 1, 2, 3] rfl)
theorem iX6_best_X6 : ∀ w ∈ u_ws RX6 TX6 6, w ∈ wsX6_best := by decide +kernel
set_option maxHeartbeats 4000000 in
set_option maxRecDepth 100000 in
theorem kX6_best (l : Launch) (D : va_G) (cs : Nat → ClassId) (ad : Nat → Nat) (hd : distX ad) (sz : Nat) (S : XS) (hkn : S.2.2.2.2.2.1 < 20) (hkc : S.2.2.2.2.1 ≤ 20) (x : Int32) : Met l yX6_best wsX6_best ({ frames := 3, cells := 0, slots := 0, locals := 66 } : Room) (gP D (WX cs ad) (EX D cs) S sz ([.ref (ad 0), .int (x)] : List Value)) (va_Qi (fun r u => u = S ∧ ((∃ L, 1 ≤ L ∧ L ≤ 20 ∧ x = nI L ∧ r = lsF (ringF (S.2.2.2.1) (S.2.2.2.2.2.1)) (min L (S.2.2.2.2.1))) ∨ (¬ inW 20 x ∧ r = (-1 : Int32)))) (gB D (WX cs ad)) (gA (AX ad) sz)) 0 0 (gA (AX ad) sz) := by
  obtain ⟨⟨⟨nN, px, py, pz, fx, fy, fz, lf, ld, fi⟩, ⟨nB, fr, tt, ln, wi, sg, pu⟩, ⟨nR, rd, rx, ry, wv, fo⟩, ⟨re, dg⟩, ⟨nP, tp, bt, dp⟩⟩, ⟨sp, ac, kp, kc, kn, aw, dw, su, ss, sd⟩⟩ := S
  have hkn : kn < 20 := hkn
  have hkc : kc ≤ 20 := hkc
  refine gMi (cc := cX6_best) (maxL := 2) (plainFor_of_name (by decide)) rfl (Nat.le_of_ble_eq_true rfl) ?_
  intro p e s m below meth c Q hx hb hts hown hml hsz hE hret H locs hP hS ls hl
  subst hsz
  have hown : s.vm.findClass RX6 = some m.cls := hown
  have hK : va_K D vwCl (tysX cs) s := hE.1
  have hD : ∀ u, va_D (gA (AX ad) s.heap.size) (WX cs ad u) := fun u => WX_D hd u
  have hl : lv_has ls 2 [(0, .ref (ad 0)), (1, .int (x))] := hl
  have f_42 := hts (.fieldLink RX6 42 "NetShapes" "fuels" "LNetShapes$Fuels;") (by decide +kernel)
  refine lv_iload_n hx hb dX6_best_0 rfl (lv_at hl 1 rfl) ?_
  refine lv_iconst (v := nI 1) hx hb dX6_best_1 (by decide) ?_
  refine lv_icmp_lt (tgt := 11) hx hb dX6_best_2 (by decide) (fun c_2_1 => ?_) (fun c_2_1 => ?_)
  · skip
    refine lv_iconst (v := (-1 : Int32)) hx hb dX6_best_11 (by decide) ?_
    exact hret hS hP dX6_best_12 (⟨rfl, Or.inr ⟨inW_lo (by decide) c_2_1, rfl⟩⟩)
  · skip
    refine lv_iload_n hx hb dX6_best_5 rfl (lv_at hl 1 rfl) ?_
    refine lv_bipush (v := nI 20) hx hb dX6_best_6 (by decide) ?_
    refine lv_icmp_le (tgt := 13) hx hb dX6_best_8 (by decide) (fun c_8_2 => ?_) (fun c_8_2 => ?_)
    · skip
      obtain ⟨L, hL1, hL2, rfl⟩ := inW_le (by decide) c_2_1 c_8_2
      refine lv_aload_n hx hb dX6_best_13 rfl (lv_at hl 0 rfl) ?_
      refine va_get (D := D) (ci := 6) (v := .ref (ad 5)) (C := RX6) (T := TX6) (N := 6) hx hb hts iX6_best_X6 hown hK hP 0 rfl rfl 4 (by decide) f_42 (fun _ h9 => h9) rfl dX6_best_14 ?_
      refine lv_iload_n hx hb dX6_best_17 rfl (lv_at hl 1 rfl) ?_
      refine gci (va_runV (As := [.int (nI L)]) (rest := []) ⟨hx, hb, hml, hown, hts⟩ (kX2_leastOfLatest l D cs ad hd H.size (((nN, px, py, pz, fx, fy, fz, lf, ld, fi), (nB, fr, tt, ln, wi, sg, pu), (nR, rd, rx, ry, wv, fo), (re, dg), (nP, tp, bt, dp)), (sp, ac, kp, kc, kn, aw, dw, su, ss, sd)) hkn hkc L (by omega)) (cwV 1 hts gX6_best_X2_leastOfLatest rfl rfl rfl (by decide +kernel) ⟨Nat.le_of_ble_eq_true rfl, Nat.le_of_ble_eq_true rfl⟩) (gPreV (EX_bl) (va_recv hK hP (ci := 2) (q0 := 5) rfl rfl) hP (fun U _ hW => EX_warm hW hE)) rfl rfl hl.1 rfl (lv_room (Nat.le_of_ble_eq_true rfl)) dX6_best_18 ⟨Nat.zero_le _, Nat.zero_le _⟩) hS (fun r_ u_ H locs hw hP hS => ?_)
      obtain ⟨rfl, hw⟩ := hw
      obtain ⟨v_3, ev_3⟩ : ∃ z, z = r_ := ⟨r_, rfl⟩
      rw [← ev_3] at hw ⊢
      clear ev_3
      have ev_3 : v_3 = lsF (ringF kp kn) (min L kc) := hw
      exact hret hS hP dX6_best_21 (⟨rfl, Or.inl ⟨L, hL1, hL2, rfl, ev_3⟩⟩)
    · skip
      refine lv_iconst (v := (-1 : Int32)) hx hb dX6_best_11 (by decide) ?_
      exact hret hS hP dX6_best_12 (⟨rfl, Or.inr ⟨inW_nle (by decide) c_8_2, rfl⟩⟩)
theorem iX7_best_X7 : ∀ w ∈ u_ws RX7 TX7 31, w ∈ wsX7_best := by decide +kernel
set_option maxHeartbeats 4000000 in
set_option maxRecDepth 100000 in
theorem kX7_best (l : Launch) (D : va_G) (cs : Nat → ClassId) (ad : Nat → Nat) (hd : distM ad) (sz : Nat) (S : MS) (hnQ : S.2.1 ≤ 512) (x : Int32) : Met l yX7_best wsX7_best ({ frames := 0, cells := 0, slots := 0, locals := 0 } : Room) (gP D (WM cs ad) (EM D cs) S sz ([.ref (ad 0), .int (x)] : List Value)) (va_Qi (fun r u => u = S ∧ ((∃ L, 1 ≤ L ∧ L ≤ 20 ∧ x = nI L ∧ r = lsF (fun b => S.2.2 (S.2.1 - 1 - b)) (min L (S.2.1))) ∨ (¬ inW 20 x ∧ r = (-1 : Int32)))) (gB D (WM cs ad)) (gA (AM ad) sz)) 0 0 (gA (AM ad) sz) := by
  obtain ⟨⟨⟨nN, px, py, pz, fx, fy, fz, lf, ld, fi⟩, ⟨nB, fr, tt, ln, wi, sg, pu⟩, ⟨nR, rd, rx, ry, wv, fo⟩, ⟨re, dg⟩, ⟨nP, tp, bt, dp⟩⟩, ⟨nQ, fu⟩⟩ := S
  have hnQ : nQ ≤ 512 := hnQ
  refine gMi (cc := cX7_best) (maxL := 4) (plainFor_of_name (by decide)) rfl (Nat.le_of_ble_eq_true rfl) ?_
  intro p e s m below meth c Q hx hb hts hown hml hsz hE hret H locs hP hS ls hl
  subst hsz
  have hown : s.vm.findClass RX7 = some m.cls := hown
  have hK : va_K D vwCl (tysX cs) s := hE.1
  have hD : ∀ u, va_D (gA (AM ad) s.heap.size) (WM cs ad u) := fun u => WM_D hd u
  have hl : lv_has ls 4 [(0, .ref (ad 0)), (1, .int (x))] := hl
  have f_75 := hts (.fieldLink RX7 75 "NetShapesModel" "fuels" "[D") (by decide +kernel)
  have f_173 := hts (.fieldLink RX7 173 "NetShapesModel" "balances" "I") (by decide +kernel)
  refine lv_iload_n hx hb dX7_best_0 rfl (lv_at hl 1 rfl) ?_
  refine lv_iconst (v := nI 1) hx hb dX7_best_1 (by decide) ?_
  refine lv_icmp_lt (tgt := 18) hx hb dX7_best_2 (by decide) (fun c_2_1 => ?_) (fun c_2_1 => ?_)
  · skip
    refine lv_iconst (v := (-1 : Int32)) hx hb dX7_best_18 (by decide) ?_
    exact hret hS hP dX7_best_19 (⟨rfl, Or.inr ⟨inW_lo (by decide) c_2_1, rfl⟩⟩)
  · skip
    refine lv_iload_n hx hb dX7_best_5 rfl (lv_at hl 1 rfl) ?_
    refine lv_bipush (v := nI 20) hx hb dX7_best_6 (by decide) ?_
    refine lv_icmp_gt (tgt := 18) hx hb dX7_best_8 (by decide) (fun c_8_2 => ?_) (fun c_8_2 => ?_)
    · skip
      refine lv_iconst (v := (-1 : Int32)) hx hb dX7_best_18 (by decide) ?_
      exact hret hS hP dX7_best_19 (⟨rfl, Or.inr ⟨inW_hi (by decide) c_8_2, rfl⟩⟩)
    · skip
      obtain ⟨L, hL1, hL2, rfl⟩ := inW_of (by decide) c_2_1 c_8_2
      refine lv_aload_n hx hb dX7_best_11 rfl (lv_at hl 0 rfl) ?_
      refine va_get (D := D) (ci := 7) (v := .int (nI nQ)) (C := RX7) (T := TX7) (N := 31) hx hb hts iX7_best_X7 hown hK hP 0 rfl rfl 25 (by decide) f_173 (fun _ h9 => h9) rfl dX7_best_12 ?_
      refine lv_if_ne (tgt := 20) hx hb dX7_best_15 (by decide) (fun c_15_3 => ?_) (fun c_15_3 => ?_)
      · skip
        have c_15_3 : ¬ (nQ = 0) := fun q => c_15_3 ((nI_eq (a := nQ) (b := 0) (by omega) (by omega)).mpr q)
        refine lv_iconst (v := nI 0) hx hb dX7_best_20 (by decide) ?_
        refine lv_istore_n (lv' := [(2, .int (nI 0)), (0, .ref (ad 0)), (1, .int (nI L))]) hx hb dX7_best_21 rfl hl (by decide) rfl (fun ls hl => ?_)
        refine lv_iconst (v := nI 1) hx hb dX7_best_22 (by decide) ?_
        refine lv_istore_n (lv' := [(3, .int (nI 1)), (2, .int (nI 0)), (0, .ref (ad 0)), (1, .int (nI L))]) hx hb dX7_best_23 rfl hl (by decide) rfl (fun ls hl => ?_)
        have L_24_4 : ∀ (n_24 i : Nat) (f_ : Nat), (L + 1 ≤ i + n_24) → (i + 1 ≤ L) → (i + 1 ≤ nQ) → (f_ = bestF (fun b => fu (nQ - 1 - b)) i) → ∀ (H : Heap) (locs : List Loc), va_P D vwCl (WM cs ad (((nN, px, py, pz, fx, fy, fz, lf, ld, fi), (nB, fr, tt, ln, wi, sg, pu), (nR, rd, rx, ry, wv, fo), (re, dg), (nP, tp, bt, dp)), (nQ, fu))) H → va_S (gA (AM ad) s.heap.size) s.heap H locs → ∀ (ls : Array Slot), lv_has ls 4 [(3, .int (nI (i + 1))), (2, .int (nI f_)), (0, .ref (ad 0)), (1, .int (nI L))] → W p l e ({ frames := 0, cells := 0, slots := 0, locals := 0 } : Room) s m ([.ref (ad 0), .int (nI L)] : List Value).toArray below meth c H locs 0 0 Q (F0 m 24 ls []) := by
          intro n_24; induction n_24 with
          | zero => intro i f_ hf_24 hi hi2 hf_ H locs hP hS ls hl; exact absurd hf_24 (by omega)
          | succ n_24 ih_24 =>
            intro i f_ hf_24 hi hi2 hf_ H locs hP hS ls hl
            have hbl := be_le (fun b => fu (nQ - 1 - b)) i
            rw [← hf_] at hbl
            refine lv_iload_n hx hb dX7_best_24 rfl (lv_at hl 0 rfl) ?_
            refine lv_iload_n hx hb dX7_best_25 rfl (lv_at hl 3 rfl) ?_
            refine lv_icmp_ge (tgt := 79) hx hb dX7_best_26 (by decide) (fun c_26_5 => ?_) (fun c_26_5 => ?_)
            · skip
              have c_26_5 : L ≤ i + 1 := (nI_leI (a := L) (b := i + 1) (by omega) (by omega)).mp c_26_5
              refine lv_iload_n hx hb dX7_best_79 rfl (lv_at hl 1 rfl) ?_
              exact hret hS hP dX7_best_80 (⟨rfl, Or.inl ⟨L, hL1, hL2, rfl, by show _ = lsF (fun b => fu (nQ - 1 - b)) (min L nQ); rw [show min L nQ = i + 1 by omega, hf_]; rfl⟩⟩)
            · skip
              have c_26_5 : ¬ (L ≤ i + 1) := fun q => c_26_5 ((nI_leI (a := L) (b := i + 1) (by omega) (by omega)).mpr q)
              refine lv_iload_n hx hb dX7_best_29 rfl (lv_at hl 0 rfl) ?_
              refine lv_aload_n hx hb dX7_best_30 rfl (lv_at hl 2 rfl) ?_
              refine va_get (D := D) (ci := 7) (v := .int (nI nQ)) (C := RX7) (T := TX7) (N := 31) hx hb hts iX7_best_X7 hown hK hP 0 rfl rfl 25 (by decide) f_173 (fun _ h9 => h9) rfl dX7_best_31 ?_
              refine lv_icmp_ge (tgt := 79) hx hb dX7_best_34 (by decide) (fun c_34_6 => ?_) (fun c_34_6 => ?_)
              · skip
                have c_34_6 : nQ ≤ i + 1 := (nI_leI (a := nQ) (b := i + 1) (by omega) (by omega)).mp c_34_6
                refine lv_iload_n hx hb dX7_best_79 rfl (lv_at hl 1 rfl) ?_
                exact hret hS hP dX7_best_80 (⟨rfl, Or.inl ⟨L, hL1, hL2, rfl, by show _ = lsF (fun b => fu (nQ - 1 - b)) (min L nQ); rw [show min L nQ = i + 1 by omega, hf_]; rfl⟩⟩)
              · skip
                have c_34_6 : ¬ (nQ ≤ i + 1) := fun q => c_34_6 ((nI_leI (a := nQ) (b := i + 1) (by omega) (by omega)).mpr q)
                refine lv_aload_n hx hb dX7_best_37 rfl (lv_at hl 2 rfl) ?_
                refine va_get (D := D) (ci := 7) (v := .ref (ad 20)) (C := RX7) (T := TX7) (N := 31) hx hb hts iX7_best_X7 hown hK hP 0 rfl rfl 26 (by decide) f_75 (fun _ h9 => h9) rfl dX7_best_38 ?_
                refine lv_aload_n hx hb dX7_best_41 rfl (lv_at hl 2 rfl) ?_
                refine va_get (D := D) (ci := 7) (v := .int (nI nQ)) (C := RX7) (T := TX7) (N := 31) hx hb hts iX7_best_X7 hown hK hP 0 rfl rfl 25 (by decide) f_173 (fun _ h9 => h9) rfl dX7_best_42 ?_
                refine lv_iconst (v := nI 1) hx hb dX7_best_45 (by decide) ?_
                refine xib hx hb (nQ - 1) dX7_best_46 (by omega) ?_
                refine lv_iload_n hx hb dX7_best_47 rfl (lv_at hl 0 rfl) ?_
                refine xib hx hb (nQ - 1 - (i + 1)) dX7_best_48 (by omega) ?_
                refine xdl hx hb hK hP 20 0 rfl rfl (j := nQ - 1 - (i + 1)) (by decide) (by omega) dX7_best_49 ?_
                refine lv_aload_n hx hb dX7_best_50 rfl (lv_at hl 2 rfl) ?_
                refine va_get (D := D) (ci := 7) (v := .ref (ad 20)) (C := RX7) (T := TX7) (N := 31) hx hb hts iX7_best_X7 hown hK hP 0 rfl rfl 26 (by decide) f_75 (fun _ h9 => h9) rfl dX7_best_51 ?_
                refine lv_aload_n hx hb dX7_best_54 rfl (lv_at hl 2 rfl) ?_
                refine va_get (D := D) (ci := 7) (v := .int (nI nQ)) (C := RX7) (T := TX7) (N := 31) hx hb hts iX7_best_X7 hown hK hP 0 rfl rfl 25 (by decide) f_173 (fun _ h9 => h9) rfl dX7_best_55 ?_
                refine lv_iconst (v := nI 1) hx hb dX7_best_58 (by decide) ?_
                refine xib hx hb (nQ - 1) dX7_best_59 (by omega) ?_
                refine lv_iload_n hx hb dX7_best_60 rfl (lv_at hl 1 rfl) ?_
                refine xib hx hb (nQ - 1 - f_) dX7_best_61 (by omega) ?_
                refine xdl hx hb hK hP 20 0 rfl rfl (j := nQ - 1 - f_) (by decide) (by omega) dX7_best_62 ?_
                refine xc_glt (tgt := 71) hx hb dX7_best_63 dX7_best_64 (by decide) (fun c_63_7 => ?_) (fun c_63_7 => ?_)
                · skip
                  refine lv_iload_n hx hb dX7_best_71 rfl (lv_at hl 1 rfl) ?_
                  refine lv_istore_n (lv' := [(2, .int (nI f_)), (3, .int (nI (i + 1))), (0, .ref (ad 0)), (1, .int (nI L))]) hx hb dX7_best_72 rfl hl (by decide) rfl (fun ls hl => ?_)
                  refine lv_iinc (v := nI (i + 1 + 1)) (lv' := [(3, .int (nI (i + 1 + 1))), (2, .int (nI f_)), (0, .ref (ad 0)), (1, .int (nI L))]) hx hb dX7_best_73 hl (k := 1) rfl (nI_add _ _) (by decide) rfl (fun ls hl => ?_)
                  refine lv_goto (tgt := 24) hx hb dX7_best_76 (by decide) ?_
                  exact ih_24 (i + 1) (f_) (by omega) (by omega) (by omega) (by rw [be_n (g := (fun b => fu (nQ - 1 - b))) (by rw [← hf_]; exact c_63_7), ← hf_]) _ _ hP hS ls (lv_sub hl [0, 1, 2, 3] rfl)
                · skip
                  refine lv_iload_n hx hb dX7_best_67 rfl (lv_at hl 0 rfl) ?_
                  refine lv_goto (tgt := 72) hx hb dX7_best_68 (by decide) ?_
                  refine lv_istore_n (lv' := [(2, .int (nI (i + 1))), (3, .int (nI (i + 1))), (0, .ref (ad 0)), (1, .int (nI L))]) hx hb dX7_best_72 rfl hl (by decide) rfl (fun ls hl => ?_)
                  refine lv_iinc (v := nI (i + 1 + 1)) (lv' := [(3, .int (nI (i + 1 + 1))), (2, .int (nI (i + 1))), (0, .ref (ad 0)), (1, .int (nI L))]) hx hb dX7_best_73 hl (k := 1) rfl (nI_add _ _) (by decide) rfl (fun ls hl => ?_)
                  refine lv_goto (tgt := 24) hx hb dX7_best_76 (by decide) ?_
                  exact ih_24 (i + 1) (i + 1) (by omega) (by omega) (by omega) (by rw [be_p (g := (fun b => fu (nQ - 1 - b))) (by rw [← hf_]; exact c_63_7)]) _ _ hP hS ls (lv_sub hl [0, 1, 2, 3] rfl)
        exact L_24_4 (L + 1) (0) (0) (by omega) (by omega) (by omega) rfl _ _ hP hS ls (lv_sub hl [0, 1, 2, 3] rfl)
      · skip
        have c_15_3 : nQ = 0 := (nI_eq (a := nQ) (b := 0) (by omega) (by omega)).mp c_15_3
        refine lv_iconst (v := (-1 : Int32)) hx hb dX7_best_18 (by decide) ?_
        exact hret hS hP dX7_best_19 (⟨rfl, Or.inl ⟨L, hL1, hL2, rfl, by show _ = lsF _ (min L nQ); rw [show min L nQ = 0 by omega]; rfl⟩⟩)
theorem iX2_add_X2 : ∀ w ∈ u_ws RX2 TX2 3, w ∈ wsX2_add := by decide +kernel
set_option maxHeartbeats 4000000 in
set_option maxRecDepth 100000 in
theorem kX2_add (l : Launch) (D : va_G) (cs : Nat → ClassId) (ad : Nat → Nat) (hd : distX ad) (sz : Nat) (S : XS) (hkn : S.2.2.2.2.2.1 < 20) (hkc : S.2.2.2.2.1 ≤ 20) (v : UInt64) : Met l yX2_add wsX2_add ({ frames := 1, cells := 0, slots := 0, locals := 21 } : Room) (gP D (WX cs ad) (EX D cs) S sz ([.ref (ad 5), .double (v)] : List Value)) (va_Qv (fun u => match S with | (((nN, px, py, pz, fx, fy, fz, lf, ld, fi), (nB, fr, tt, ln, wi, sg, pu), (nR, rd, rx, ry, wv, fo), (re, dg), (nP, tp, bt, dp)), (sp, ac, kp, kc, kn, aw, dw, su, ss, sd)) => u = (((nN, px, py, pz, fx, fy, fz, lf, ld, fi), (nB, fr, tt, ln, wi, sg, pu), (nR, rd, rx, ry, wv, fo), (re, dg), (nP, tp, bt, dp)), (sp, ac, (vf_upd kp kn v), (min (kc + 1) 20), ((kn + 1) % 20), aw, dw, su, ss, sd))) (gB D (WX cs ad)) (gA (AX ad) sz)) 0 0 (gA (AX ad) sz) := by
  obtain ⟨⟨⟨nN, px, py, pz, fx, fy, fz, lf, ld, fi⟩, ⟨nB, fr, tt, ln, wi, sg, pu⟩, ⟨nR, rd, rx, ry, wv, fo⟩, ⟨re, dg⟩, ⟨nP, tp, bt, dp⟩⟩, ⟨sp, ac, kp, kc, kn, aw, dw, su, ss, sd⟩⟩ := S
  have hkn : kn < 20 := hkn
  have hkc : kc ≤ 20 := hkc
  refine gMv (cc := cX2_add) (maxL := 3) (plainFor_of_name (by decide)) rfl (Nat.le_of_ble_eq_true rfl) ?_
  intro p e s m below meth c Q hx hb hts hown hml hsz hE hret H locs hP hS ls hl
  subst hsz
  have hown : s.vm.findClass RX2 = some m.cls := hown
  have hK : va_K D vwCl (tysX cs) s := hE.1
  have hD : ∀ u, va_D (gA (AX ad) s.heap.size) (WX cs ad u) := fun u => WX_D hd u
  have hl : lv_has ls 3 [(0, .ref (ad 5)), (1, .double (v))] := hl
  have f_9 := hts (.fieldLink RX2 9 "NetShapes$Fuels" "kept" "[D") (by decide +kernel)
  have f_15 := hts (.fieldLink RX2 15 "NetShapes$Fuels" "count" "I") (by decide +kernel)
  have f_19 := hts (.fieldLink RX2 19 "NetShapes$Fuels" "next" "I") (by decide +kernel)
  refine lv_aload_n hx hb dX2_add_0 rfl (lv_at hl 0 rfl) ?_
  refine va_get (D := D) (ci := 2) (v := .ref (ad 24)) (C := RX2) (T := TX2) (N := 3) hx hb hts iX2_add_X2 hown hK hP 5 rfl rfl 0 (by decide) f_9 (fun _ h9 => h9) rfl dX2_add_1 ?_
  refine lv_aload_n hx hb dX2_add_4 rfl (lv_at hl 0 rfl) ?_
  refine va_get (D := D) (ci := 2) (v := .int (nI kn)) (C := RX2) (T := TX2) (N := 3) hx hb hts iX2_add_X2 hown hK hP 5 rfl rfl 2 (by decide) f_19 (fun _ h9 => h9) rfl dX2_add_5 ?_
  refine lv_dload_n hx hb dX2_add_8 rfl (lv_at hl 1 rfl) ?_
  refine xds hx hb hK hD hP hS 24 0 (((nN, px, py, pz, fx, fy, fz, lf, ld, fi), (nB, fr, tt, ln, wi, sg, pu), (nR, rd, rx, ry, wv, fo), (re, dg), (nP, tp, bt, dp)), (sp, ac, (vf_upd kp kn v), kc, kn, aw, dw, su, ss, sd)) rfl rfl (j := kn) (by decide) (by omega) rfl dX2_add_9 (fun H locs hP hS => ?_)
  refine lv_aload_n hx hb dX2_add_10 rfl (lv_at hl 0 rfl) ?_
  refine lv_aload_n hx hb dX2_add_11 rfl (lv_at hl 0 rfl) ?_
  refine va_get (D := D) (ci := 2) (v := .int (nI kn)) (C := RX2) (T := TX2) (N := 3) hx hb hts iX2_add_X2 hown hK hP 5 rfl rfl 2 (by decide) f_19 (fun _ h9 => h9) rfl dX2_add_12 ?_
  refine lv_iconst (v := nI 1) hx hb dX2_add_15 (by decide) ?_
  refine xia hx hb (kn + 1) dX2_add_16 rfl ?_
  refine lv_bipush (v := nI 20) hx hb dX2_add_17 (by decide) ?_
  refine lv_irem hx hb dX2_add_19 (by decide) ?_
  refine lv_topi (fun t_1 et_1 => ?_)
  have et_1 : t_1 = nI ((kn + 1) % 20) := et_1.trans (pk_rem (by omega) (by decide) (by decide))
  subst et_1
  refine xput (D := D) (ci := 2) (v := .int (nI ((kn + 1) % 20))) (ty := .int) (C := RX2) (T := TX2) (N := 3) hx hb hts iX2_add_X2 tyX2 tyX2_ok nmX2 hown hK hD hP hS 5 (((nN, px, py, pz, fx, fy, fz, lf, ld, fi), (nB, fr, tt, ln, wi, sg, pu), (nR, rd, rx, ry, wv, fo), (re, dg), (nP, tp, bt, dp)), (sp, ac, (vf_upd kp kn v), kc, ((kn + 1) % 20), aw, dw, su, ss, sd)) rfl rfl 2 (by decide) f_19 (fun _ h9 => h9) rfl (by decide +kernel) rfl rfl (Nat.le_of_ble_eq_true rfl) rfl dX2_add_20 (fun H locs hP hS => ?_)
  refine lv_aload_n hx hb dX2_add_23 rfl (lv_at hl 0 rfl) ?_
  refine lv_aload_n hx hb dX2_add_24 rfl (lv_at hl 0 rfl) ?_
  refine va_get (D := D) (ci := 2) (v := .int (nI kc)) (C := RX2) (T := TX2) (N := 3) hx hb hts iX2_add_X2 hown hK hP 5 rfl rfl 1 (by decide) f_15 (fun _ h9 => h9) rfl dX2_add_25 ?_
  refine lv_iconst (v := nI 1) hx hb dX2_add_28 (by decide) ?_
  refine xia hx hb (kc + 1) dX2_add_29 rfl ?_
  refine lv_bipush (v := nI 20) hx hb dX2_add_30 (by decide) ?_
  refine va_mmin hx hb (hml.trans hl.1.symm) hown (hts (.methodLink RX2 22 Lib.Math.min.name) (by decide +kernel)) (hts (.static Lib.Math.min.name) (by decide +kernel)) (hts (.initialized "java/lang/Math") (by decide +kernel)) (hts _ (List.mem_of_getElem? (i := 7) rfl)) (by decide) (Nat.le_of_ble_eq_true rfl) (Nat.zero_le _) (Nat.zero_le _) dX2_add_32 ?_
  refine lv_topi (fun t_2 et_2 => ?_)
  have et_2 : t_2 = nI (min (kc + 1) 20) := et_2.trans (min_nI (by omega))
  subst et_2
  refine xput (D := D) (ci := 2) (v := .int (nI (min (kc + 1) 20))) (ty := .int) (C := RX2) (T := TX2) (N := 3) hx hb hts iX2_add_X2 tyX2 tyX2_ok nmX2 hown hK hD hP hS 5 (((nN, px, py, pz, fx, fy, fz, lf, ld, fi), (nB, fr, tt, ln, wi, sg, pu), (nR, rd, rx, ry, wv, fo), (re, dg), (nP, tp, bt, dp)), (sp, ac, (vf_upd kp kn v), (min (kc + 1) 20), ((kn + 1) % 20), aw, dw, su, ss, sd)) rfl rfl 1 (by decide) f_15 (fun _ h9 => h9) rfl (by decide +kernel) rfl rfl (Nat.le_of_ble_eq_true rfl) rfl dX2_add_35 (fun H locs hP hS => ?_)
  exact hret hS hP dX2_add_38 (rfl)
