/-! current -/
def dX (s : UInt64) : Nat → UInt64
  | 0 => s
  | 1 => FP.dmul s 4604544271217802189
  | 2 => FP.dconst0
  | 3 => FP.dsub FP.dconst0 (FP.dmul s 4604544271217802189)
  | 4 => FP.dsub FP.dconst0 s
  | 5 => FP.dsub FP.dconst0 (FP.dmul s 4604544271217802189)
  | 6 => FP.dconst0
  | 7 => FP.dmul s 4604544271217802189
  | _ => FP.dconst0
/-- the rows from the n-th down, t of them, moved by one -/
def shf (f : DF) (n : Nat) : Nat → DF
  | 0 => f
  | t + 1 => vf_upd (shf f n t) (n - t) ((shf f n t) (n - t - 1))
/-- a is the first row that is not above d -/
def isA (rd : DF) (d : UInt64) (n a : Nat) : Prop := a ≤ n ∧ (∀ i, i < a → dlt (rd i) d) ∧ (a < n → ¬ dlt (rd a) d)
def isC (rd : DF) (d : UInt64) (n c : Nat) : Prop := c ≤ n ∧ (∀ i, i < c → dle (rd i) d) ∧ (c < n → ¬ dle (rd c) d)
def rwF : Nat → Int32
  | 0 => -1
  | k + 1 => nI k
def sorted (rd : DF) (n : Nat) : Prop := ∀ i j, i < j → j < n → dlt (rd i) (rd j)
theorem dlt_trans {a b c : UInt64} (h1 : dlt a b) (h2 : dle b c) : dlt a c := by
  have p1 := FP.Core.dcmp_lt.mp h1
  have p2 := FP.Core.dcmp_le.mp h2
  exact FP.Core.dcmp_lt.mpr ⟨p1.1, p2.2.1, by have := p1.2.2; have := p2.2.2; omega⟩
theorem isA_uniq {rd : DF} {d : UInt64} {n a b : Nat} (h1 : isA rd d n a) (h2 : isA rd d n b) : a = b := by
  rcases Nat.lt_trichotomy a b with q | q | q
  · exact absurd (h2.2.1 a q) (h1.2.2 (by have := h2.1; omega))
  · exact q
  · exact absurd (h1.2.1 b q) (h2.2.2 (by have := h1.1; omega))
theorem isA_eq {rd : DF} {d : UInt64} {n c : Nat} (hs : sorted rd n) (h : isC rd d n (c + 1)) (e : deq (rd c) d) : isA rd d n c := by
  refine ⟨by have := h.1; omega, fun i hi => dlt_trans (hs i c hi (by have := h.1; omega)) (Or.inr e), fun _ q => ?_⟩
  have q : FP.dcmp (rd c) d = some .lt := q
  rw [show FP.dcmp (rd c) d = some .eq from e] at q
  cases q
theorem isA_ne {rd : DF} {d : UInt64} {n c : Nat} (hs : sorted rd n) (h : isC rd d n c) (e : ∀ k, c = k + 1 → ¬ deq (rd k) d) : isA rd d n c ∧ ¬ (c < n ∧ deq (rd c) d) := by
  refine ⟨⟨h.1, fun i hi => ?_, fun hc q => h.2.2 hc (Or.inl q)⟩, fun q => h.2.2 q.1 (Or.inr q.2)⟩
  have hl := h.2.1 (c - 1) (by omega)
  by_cases ei : i = c - 1
  · rw [ei]
    exact hl.elim (fun q => q) (fun q => absurd q (e (c - 1) (by omega)))
  · exact dlt_trans (hs i (c - 1) (by omega) (by have := h.1; omega)) hl
theorem pm1 {a b : Nat} (h : a = b + 1) : nI a + Int32.ofInt (-1) = nI b := by
  rw [h]
  exact pk_m1 b
def q_current (G : GS) (d sp di : UInt64) (r : Int32) (G2 : GS) : Prop := match G with
  | ((nN, px, py, pz, fx, fy, fz, lf, ld, fi), (nB, fr, tt, ln, wi, sg, pu), (nR, rd, rx, ry, wv, fo), (re, dg), (nP, tp, bt, dp)) => (∃ e a, e < 8 ∧ inR d 13875379345695965184 4652007308841189376 ∧ inR sp FP.dconst0 4621819117588971520 ∧ isDir di e ∧ isA rd d nR a ∧
      (((a < nR ∧ deq (rd a) d) ∧ r = nI 1 ∧ G2 = ((nN, px, py, pz, fx, fy, fz, lf, ld, fi), (nB, fr, tt, ln, wi, sg, pu), (nR, vf_upd rd a d, vf_upd rx a (dX sp e), vf_upd ry a (dX sp ((e + 6) % 8)), wv, fo), (re, dg), (nP, tp, bt, dp))) ∨ (¬ (a < nR ∧ deq (rd a) d) ∧ nR < 10 ∧ r = nI 1 ∧ G2 = ((nN, px, py, pz, fx, fy, fz, lf, ld, fi), (nB, fr, tt, ln, wi, sg, pu), (nR + 1, vf_upd (shf rd nR (nR - a)) a d, vf_upd (shf rx nR (nR - a)) a (dX sp e), vf_upd (shf ry nR (nR - a)) a (dX sp ((e + 6) % 8)), wv, fo), (re, dg), (nP, tp, bt, dp))) ∨ (¬ (a < nR ∧ deq (rd a) d) ∧ ¬ nR < 10 ∧ r = nI 0 ∧ G2 = ((nN, px, py, pz, fx, fy, fz, lf, ld, fi), (nB, fr, tt, ln, wi, sg, pu), (nR, rd, rx, ry, wv, fo), (re, dg), (nP, tp, bt, dp)))))
    ∨ (¬ (inR d 13875379345695965184 4652007308841189376 ∧ inR sp FP.dconst0 4621819117588971520 ∧ ∃ e, e < 8 ∧ isDir di e) ∧ r = nI 0 ∧ G2 = ((nN, px, py, pz, fx, fy, fz, lf, ld, fi), (nB, fr, tt, ln, wi, sg, pu), (nR, rd, rx, ry, wv, fo), (re, dg), (nP, tp, bt, dp)))
theorem q_current_det {G : GS} {d sp di : UInt64} {r1 r2 : Int32} {G1 G2 : GS} (h1 : q_current G d sp di r1 G1) (h2 : q_current G d sp di r2 G2) : r1 = r2 ∧ G1 = G2 := by
  obtain ⟨⟨nN, px, py, pz, fx, fy, fz, lf, ld, fi⟩, ⟨nB, fr, tt, ln, wi, sg, pu⟩, ⟨nR, rd, rx, ry, wv, fo⟩, ⟨re, dg⟩, ⟨nP, tp, bt, dp⟩⟩ := G
  rcases h1 with ⟨e, a, he, p1, p2, p3, p4, h1⟩ | ⟨c1, rfl, rfl⟩ <;> rcases h2 with ⟨f, b, hf, q1, q2, q3, q4, h2⟩ | ⟨c2, rfl, rfl⟩
  · have ee := dir_same he hf p3 q3
    subst ee
    have ea := isA_uniq p4 q4
    subst ea
    rcases h1 with ⟨c1, rfl, rfl⟩ | ⟨c1, c3, rfl, rfl⟩ | ⟨c1, c3, rfl, rfl⟩ <;> rcases h2 with ⟨c2, rfl, rfl⟩ | ⟨c2, c4, rfl, rfl⟩ | ⟨c2, c4, rfl, rfl⟩ <;> first | exact ⟨rfl, rfl⟩ | exact absurd c1 c2 | exact absurd c2 c1 | exact absurd c3 c4 | exact absurd c4 c3
  · exact absurd ⟨p1, p2, e, he, p3⟩ c2
  · exact absurd ⟨q1, q2, f, hf, q3⟩ c1
  · exact ⟨rfl, rfl⟩
set_option maxHeartbeats 4000000 in
set_option maxRecDepth 100000 in
theorem kX6_eighthOfTurn (l : Launch) (D : va_G) (sz : Nat) (d : UInt64) : Met l yX6_eighthOfTurn wsX6_eighthOfTurn ({ frames := 0, cells := 0, slots := 0, locals := 0 } : Room) (gP D (w0) (eT) () sz ([.double (d)] : List Value)) (va_Qi (fun r _ => (∃ e, e < 8 ∧ isDir d e ∧ r = nI e) ∨ ((∀ e, e < 8 → ¬ isDir d e) ∧ r = (-1 : Int32))) (gB D (w0)) (gA (gF) sz)) 0 0 (gA (gF) sz) := by
  refine gMi (cc := cX6_eighthOfTurn) (maxL := 3) (plainFor_of_name (by decide)) rfl (Nat.le_of_ble_eq_true rfl) ?_
  intro p e s m below meth c Q hx hb hts hown hml hsz hE hret H locs hP hS ls hl
  subst hsz
  have hown : s.vm.findClass RX6 = some m.cls := hown
  have hl : lv_has ls 3 [(0, .double (d))] := hl
  refine lv_iconst (v := nI 0) hx hb dX6_eighthOfTurn_0 (by decide) ?_
  refine lv_istore_n (lv' := [(2, .int (nI 0)), (0, .double (d))]) hx hb dX6_eighthOfTurn_1 rfl hl (by decide) rfl (fun ls hl => ?_)
  have L_2_1 : ∀ (n_2 i : Nat) , (8 + 1 ≤ i + n_2) → (i ≤ 8) → (∀ e, e < i → ¬ isDir d e) → ∀ (H : Heap) (locs : List Loc), va_P D vwCl (w0 ()) H → va_S (gA (gF) s.heap.size) s.heap H locs → ∀ (ls : Array Slot), lv_has ls 3 [(2, .int (nI i)), (0, .double (d))] → W p l e ({ frames := 0, cells := 0, slots := 0, locals := 0 } : Room) s m ([.double (d)] : List Value).toArray below meth c H locs 0 0 Q (F0 m 2 ls []) := by
    intro n_2; induction n_2 with
    | zero => intro i hf_2 hi hno H locs hP hS ls hl; exact absurd hf_2 (by omega)
    | succ n_2 ih_2 =>
      intro i hf_2 hi hno H locs hP hS ls hl
      refine lv_iload_n hx hb dX6_eighthOfTurn_2 rfl (lv_at hl 0 rfl) ?_
      refine lv_bipush (v := nI 8) hx hb dX6_eighthOfTurn_3 (by decide) ?_
      refine lv_icmp_ge (tgt := 26) hx hb dX6_eighthOfTurn_5 (by decide) (fun c_5_2 => ?_) (fun c_5_2 => ?_)
      · skip
        have c_5_2 : 8 ≤ i := (nI_leI (a := 8) (b := i) (by omega) (by omega)).mp c_5_2
        refine lv_iconst (v := (-1 : Int32)) hx hb dX6_eighthOfTurn_26 (by decide) ?_
        exact hret hS hP dX6_eighthOfTurn_27 (Or.inr ⟨fun e he => hno e (by omega), rfl⟩)
      · skip
        have c_5_2 : ¬ (8 ≤ i) := fun q => c_5_2 ((nI_leI (a := 8) (b := i) (by omega) (by omega)).mpr q)
        refine lv_dload_n hx hb dX6_eighthOfTurn_8 rfl (lv_at hl 1 rfl) ?_
        refine lv_bipush (v := nI 45) hx hb dX6_eighthOfTurn_9 (by decide) ?_
        refine lv_iload_n hx hb dX6_eighthOfTurn_11 rfl (lv_at hl 0 rfl) ?_
        refine xim hx hb ((45) * (i)) dX6_eighthOfTurn_12 rfl ?_
        refine lv_i2d hx hb dX6_eighthOfTurn_13 ?_
        refine xc_leq (tgt := 20) hx hb dX6_eighthOfTurn_14 dX6_eighthOfTurn_15 (by decide) (fun c_14_3 => ?_) (fun c_14_3 => ?_)
        · skip
          refine lv_iinc (v := nI (i + 1)) (lv' := [(2, .int (nI (i + 1))), (0, .double (d))]) hx hb dX6_eighthOfTurn_20 hl (k := 0) rfl (nI_add _ _) (by decide) rfl (fun ls hl => ?_)
          refine lv_goto (tgt := 2) hx hb dX6_eighthOfTurn_23 (by decide) ?_
          exact ih_2 (i + 1)  (by omega) (by omega) (fun e he => by by_cases q : e = i; (rw [q]; exact c_14_3); exact hno e (by omega)) _ _ hP hS ls (lv_sub hl [0, 1] rfl)
        · skip
          refine lv_iload_n hx hb dX6_eighthOfTurn_18 rfl (lv_at hl 0 rfl) ?_
          exact hret hS hP dX6_eighthOfTurn_19 (Or.inl ⟨i, by omega, c_14_3, rfl⟩)
  exact L_2_1 (8 + 1) (0)  (by omega) (by omega) (fun e he => absurd he (by omega)) _ _ hP hS ls (lv_sub hl [0, 1] rfl)
set_option maxHeartbeats 4000000 in
set_option maxRecDepth 100000 in
theorem kX6_partTowardsX (l : Launch) (D : va_G) (sz : Nat) (s_ : UInt64) (hs : fB 1027 s_) (e_ : Nat) (he : e_ < 8) : Met l yX6_partTowardsX wsX6_partTowardsX ({ frames := 0, cells := 0, slots := 0, locals := 0 } : Room) (gP D (w0) (eT) () sz ([.double (s_), .int (nI e_)] : List Value)) (va_Qd (fun r _ => r = dX s_ e_) (gB D (w0)) (gA (gF) sz)) 0 0 (gA (gF) sz) := by
  refine gMd (cc := cX6_partTowardsX) (maxL := 5) (plainFor_of_name (by decide)) rfl (Nat.le_of_ble_eq_true rfl) ?_
  intro p e s m below meth c Q hx hb hts hown hml hsz hE hret H locs hP hS ls hl
  subst hsz
  have hown : s.vm.findClass RX6 = some m.cls := hown
  have hl : lv_has ls 5 [(0, .double (s_)), (2, .int (nI e_))] := hl
  have c_206 := hts (.constantDouble RX6 206 4604544271217802189) (by decide +kernel)
  refine lv_dload_n hx hb dX6_partTowardsX_0 rfl (lv_at hl 0 rfl) ?_
  refine lv_ldc2d hx hb hown c_206 dX6_partTowardsX_1 ?_
  have h_2 : fB (1028) (FP.dmul (s_) (4604544271217802189)) := fB_mul hs (fB_lit (K := 1023) (a := 4604544271217802189) (by decide +kernel)) (by omega) (by omega) (by omega)
  refine lv_dmul hx hb dX6_partTowardsX_4 (fB_ne h_2 (by omega)) ?_
  refine lv_dstore_n (lv' := [(3, .double (FP.dmul (s_) (4604544271217802189))), (0, .double (s_)), (2, .int (nI e_))]) hx hb dX6_partTowardsX_5 rfl hl (by decide) rfl (fun ls hl => ?_)
  refine lv_iload_n hx hb dX6_partTowardsX_6 rfl (lv_at hl 2 rfl) ?_
  rcases (show e_ = 0 ∨ e_ = 1 ∨ e_ = 2 ∨ e_ = 3 ∨ e_ = 4 ∨ e_ = 5 ∨ e_ = 6 ∨ e_ = 7 by omega) with rfl | rfl | rfl | rfl | rfl | rfl | rfl | rfl
  · skip
    refine lv_tableIn (off := 45) (tgt := 52) hx hb dX6_partTowardsX_7 (by decide) (by decide) rfl (by decide) ?_
    refine lv_dload_n hx hb dX6_partTowardsX_52 rfl (lv_at hl 1 rfl) ?_
    exact hret hS hP dX6_partTowardsX_53 (rfl)
  · skip
    refine lv_tableIn (off := 47) (tgt := 54) hx hb dX6_partTowardsX_7 (by decide) (by decide) rfl (by decide) ?_
    refine lv_dload_n hx hb dX6_partTowardsX_54 rfl (lv_at hl 0 rfl) ?_
    exact hret hS hP dX6_partTowardsX_55 (rfl)
  · skip
    refine lv_tableIn (off := 57) (tgt := 64) hx hb dX6_partTowardsX_7 (by decide) (by decide) rfl (by decide) ?_
    refine lv_dconst0 hx hb dX6_partTowardsX_64 ?_
    exact hret hS hP dX6_partTowardsX_65 (rfl)
  · skip
    refine lv_tableIn (off := 49) (tgt := 56) hx hb dX6_partTowardsX_7 (by decide) (by decide) rfl (by decide) ?_
    refine lv_dconst0 hx hb dX6_partTowardsX_56 ?_
    refine lv_dload_n hx hb dX6_partTowardsX_57 rfl (lv_at hl 0 rfl) ?_
    have h_4 : fB (1030) (FP.dsub (FP.dconst0) (FP.dmul (s_) (4604544271217802189))) := fB_sub (M := 1028) fB_c0 h_2 (by omega) (by omega) (by omega)
    refine lv_dsub hx hb dX6_partTowardsX_58 (fB_ne h_4 (by omega)) ?_
    exact hret hS hP dX6_partTowardsX_59 (rfl)
  · skip
    refine lv_tableIn (off := 53) (tgt := 60) hx hb dX6_partTowardsX_7 (by decide) (by decide) rfl (by decide) ?_
    refine lv_dconst0 hx hb dX6_partTowardsX_60 ?_
    refine lv_dload_n hx hb dX6_partTowardsX_61 rfl (lv_at hl 1 rfl) ?_
    have h_6 : fB (1029) (FP.dsub (FP.dconst0) (s_)) := fB_sub (M := 1027) fB_c0 hs (by omega) (by omega) (by omega)
    refine lv_dsub hx hb dX6_partTowardsX_62 (fB_ne h_6 (by omega)) ?_
    exact hret hS hP dX6_partTowardsX_63 (rfl)
  · skip
    refine lv_tableIn (off := 49) (tgt := 56) hx hb dX6_partTowardsX_7 (by decide) (by decide) rfl (by decide) ?_
    refine lv_dconst0 hx hb dX6_partTowardsX_56 ?_
    refine lv_dload_n hx hb dX6_partTowardsX_57 rfl (lv_at hl 0 rfl) ?_
    have h_8 : fB (1030) (FP.dsub (FP.dconst0) (FP.dmul (s_) (4604544271217802189))) := fB_sub (M := 1028) fB_c0 h_2 (by omega) (by omega) (by omega)
    refine lv_dsub hx hb dX6_partTowardsX_58 (fB_ne h_8 (by omega)) ?_
    exact hret hS hP dX6_partTowardsX_59 (rfl)
  · skip
    refine lv_tableIn (off := 57) (tgt := 64) hx hb dX6_partTowardsX_7 (by decide) (by decide) rfl (by decide) ?_
    refine lv_dconst0 hx hb dX6_partTowardsX_64 ?_
    exact hret hS hP dX6_partTowardsX_65 (rfl)
  · skip
    refine lv_tableIn (off := 47) (tgt := 54) hx hb dX6_partTowardsX_7 (by decide) (by decide) rfl (by decide) ?_
    refine lv_dload_n hx hb dX6_partTowardsX_54 rfl (lv_at hl 0 rfl) ?_
    exact hret hS hP dX6_partTowardsX_55 (rfl)
theorem iX5_rowAtOrAbove_X5 : ∀ w ∈ u_ws RX5 TX5 6, w ∈ wsX5_rowAtOrAbove := by decide +kernel
set_option maxHeartbeats 4000000 in
set_option maxRecDepth 100000 in
theorem kX5_rowAtOrAbove (l : Launch) (D : va_G) (cs : Nat → ClassId) (ad : Nat → Nat) (hd : distX ad) (sz : Nat) (S : XS) (hnR : S.1.2.2.1.1 ≤ 10) (d : UInt64) : Met l yX5_rowAtOrAbove wsX5_rowAtOrAbove ({ frames := 0, cells := 0, slots := 0, locals := 0 } : Room) (gP D (WX cs ad) (EX D cs) S sz ([.ref (ad 3), .double (d)] : List Value)) (va_Qi (fun r u => u = S ∧ ∃ c, isC (S.1.2.2.1.2.1) d (S.1.2.2.1.1) c ∧ r = rwF c) (gB D (WX cs ad)) (gA (AX ad) sz)) 0 0 (gA (AX ad) sz) := by
  obtain ⟨⟨⟨nN, px, py, pz, fx, fy, fz, lf, ld, fi⟩, ⟨nB, fr, tt, ln, wi, sg, pu⟩, ⟨nR, rd, rx, ry, wv, fo⟩, ⟨re, dg⟩, ⟨nP, tp, bt, dp⟩⟩, ⟨sp, ac, kp, kc, kn, aw, dw, su, ss, sd⟩⟩ := S
  have hnR : nR ≤ 10 := hnR
  refine gMi (cc := cX5_rowAtOrAbove) (maxL := 5) (plainFor_of_name (by decide)) rfl (Nat.le_of_ble_eq_true rfl) ?_
  intro p e s m below meth c Q hx hb hts hown hml hsz hE hret H locs hP hS ls hl
  subst hsz
  have hown : s.vm.findClass RX5 = some m.cls := hown
  have hK : va_K D vwCl (tysX cs) s := hE.1
  have hD : ∀ u, va_D (gA (AX ad) s.heap.size) (WX cs ad u) := fun u => WX_D hd u
  have hl : lv_has ls 5 [(0, .ref (ad 3)), (1, .double (d))] := hl
  have f_9 := hts (.fieldLink RX5 9 "NetShapes$Water" "depths" "[D") (by decide +kernel)
  have f_21 := hts (.fieldLink RX5 21 "NetShapes$Water" "count" "I") (by decide +kernel)
  refine lv_iconst (v := (-1 : Int32)) hx hb dX5_rowAtOrAbove_0 (by decide) ?_
  refine lv_istore_n (lv' := [(3, .int ((-1 : Int32))), (0, .ref (ad 3)), (1, .double (d))]) hx hb dX5_rowAtOrAbove_1 rfl hl (by decide) rfl (fun ls hl => ?_)
  refine lv_iconst (v := nI 0) hx hb dX5_rowAtOrAbove_2 (by decide) ?_
  refine lv_istore (lv' := [(4, .int (nI 0)), (3, .int ((-1 : Int32))), (0, .ref (ad 3)), (1, .double (d))]) hx hb dX5_rowAtOrAbove_3 hl (by decide) rfl (fun ls hl => ?_)
  have L_5_1 : ∀ (n_5 i : Nat) (rw_ : Int32), (nR + 1 ≤ i + n_5) → (i ≤ nR) → (∀ k, k < i → dle (rd k) d) → (rw_ = rwF i) → ∀ (H : Heap) (locs : List Loc), va_P D vwCl (WX cs ad (((nN, px, py, pz, fx, fy, fz, lf, ld, fi), (nB, fr, tt, ln, wi, sg, pu), (nR, rd, rx, ry, wv, fo), (re, dg), (nP, tp, bt, dp)), (sp, ac, kp, kc, kn, aw, dw, su, ss, sd))) H → va_S (gA (AX ad) s.heap.size) s.heap H locs → ∀ (ls : Array Slot), lv_has ls 5 [(4, .int (nI i)), (3, .int (rw_)), (0, .ref (ad 3)), (1, .double (d))] → W p l e ({ frames := 0, cells := 0, slots := 0, locals := 0 } : Room) s m ([.ref (ad 3), .double (d)] : List Value).toArray below meth c H locs 0 0 Q (F0 m 5 ls []) := by
    intro n_5; induction n_5 with
    | zero => intro i rw_ hf_5 hi hle hrw H locs hP hS ls hl; exact absurd hf_5 (by omega)
    | succ n_5 ih_5 =>
      intro i rw_ hf_5 hi hle hrw H locs hP hS ls hl
      refine lv_iload hx hb dX5_rowAtOrAbove_5 (lv_at hl 0 rfl) ?_
      refine lv_aload_n hx hb dX5_rowAtOrAbove_7 rfl (lv_at hl 2 rfl) ?_
      refine va_get (D := D) (ci := 5) (v := .int (nI nR)) (C := RX5) (T := TX5) (N := 6) hx hb hts iX5_rowAtOrAbove_X5 hown hK hP 3 rfl rfl 3 (by decide) f_21 (fun _ h9 => h9) rfl dX5_rowAtOrAbove_8 ?_
      refine lv_icmp_ge (tgt := 35) hx hb dX5_rowAtOrAbove_11 (by decide) (fun c_11_2 => ?_) (fun c_11_2 => ?_)
      · skip
        have c_11_2 : nR ≤ i := (nI_leI (a := nR) (b := i) (by omega) (by omega)).mp c_11_2
        refine lv_iload_n hx hb dX5_rowAtOrAbove_35 rfl (lv_at hl 1 rfl) ?_
        exact hret hS hP dX5_rowAtOrAbove_36 (⟨rfl, i, ⟨(show i ≤ nR by omega), hle, fun q => absurd q (show ¬ i < nR by omega)⟩, hrw⟩)
      · skip
        have c_11_2 : ¬ (nR ≤ i) := fun q => c_11_2 ((nI_leI (a := nR) (b := i) (by omega) (by omega)).mpr q)
        refine lv_aload_n hx hb dX5_rowAtOrAbove_14 rfl (lv_at hl 2 rfl) ?_
        refine va_get (D := D) (ci := 5) (v := .ref (ad 18)) (C := RX5) (T := TX5) (N := 6) hx hb hts iX5_rowAtOrAbove_X5 hown hK hP 3 rfl rfl 0 (by decide) f_9 (fun _ h9 => h9) rfl dX5_rowAtOrAbove_15 ?_
        refine lv_iload hx hb dX5_rowAtOrAbove_18 (lv_at hl 0 rfl) ?_
        refine xdl hx hb hK hP 18 0 rfl rfl (j := i) (by decide) (by omega) dX5_rowAtOrAbove_20 ?_
        refine lv_dload_n hx hb dX5_rowAtOrAbove_21 rfl (lv_at hl 3 rfl) ?_
        refine xc_gle (tgt := 35) hx hb dX5_rowAtOrAbove_22 dX5_rowAtOrAbove_23 (by decide) (fun c_22_3 => ?_) (fun c_22_3 => ?_)
        · skip
          refine lv_iload_n hx hb dX5_rowAtOrAbove_35 rfl (lv_at hl 1 rfl) ?_
          exact hret hS hP dX5_rowAtOrAbove_36 (⟨rfl, i, ⟨(show i ≤ nR by omega), hle, fun _ => c_22_3⟩, hrw⟩)
        · skip
          refine lv_iload hx hb dX5_rowAtOrAbove_26 (lv_at hl 0 rfl) ?_
          refine lv_istore_n (lv' := [(3, .int (nI i)), (4, .int (nI i)), (0, .ref (ad 3)), (1, .double (d))]) hx hb dX5_rowAtOrAbove_28 rfl hl (by decide) rfl (fun ls hl => ?_)
          refine lv_iinc (v := nI (i + 1)) (lv' := [(4, .int (nI (i + 1))), (3, .int (nI i)), (0, .ref (ad 3)), (1, .double (d))]) hx hb dX5_rowAtOrAbove_29 hl (k := 1) rfl (nI_add _ _) (by decide) rfl (fun ls hl => ?_)
          refine lv_goto (tgt := 5) hx hb dX5_rowAtOrAbove_32 (by decide) ?_
          exact ih_5 (i + 1) (nI i) (by omega) (by omega) (fun k hk => by by_cases q : k = i; (rw [q]; exact c_22_3); exact hle k (by omega)) rfl _ _ hP hS ls (lv_sub hl [0, 1, 2, 3] rfl)
  exact L_5_1 (nR + 1) (0) ((-1 : Int32)) (by omega) (by omega) (fun k hk => absurd hk (by omega)) rfl _ _ hP hS ls (lv_sub hl [0, 1, 2, 3] rfl)
theorem iX5_makeRoomAt_X5 : ∀ w ∈ u_ws RX5 TX5 6, w ∈ wsX5_makeRoomAt := by decide +kernel
set_option maxHeartbeats 4000000 in
set_option maxRecDepth 100000 in
theorem kX5_makeRoomAt (l : Launch) (D : va_G) (cs : Nat → ClassId) (ad : Nat → Nat) (hd : distX ad) (sz : Nat) (S : XS) (hnR : S.1.2.2.1.1 < 10) (a : Nat) (ha : a ≤ S.1.2.2.1.1) : Met l yX5_makeRoomAt wsX5_makeRoomAt ({ frames := 0, cells := 0, slots := 0, locals := 0 } : Room) (gP D (WX cs ad) (EX D cs) S sz ([.ref (ad 3), .int (nI a)] : List Value)) (va_Qv (fun u => match S with | (((nN, px, py, pz, fx, fy, fz, lf, ld, fi), (nB, fr, tt, ln, wi, sg, pu), (nR, rd, rx, ry, wv, fo), (re, dg), (nP, tp, bt, dp)), (sp, ac, kp, kc, kn, aw, dw, su, ss, sd)) => u = (((nN, px, py, pz, fx, fy, fz, lf, ld, fi), (nB, fr, tt, ln, wi, sg, pu), ((nR + 1), (shf rd nR (nR - a)), (shf rx nR (nR - a)), (shf ry nR (nR - a)), wv, fo), (re, dg), (nP, tp, bt, dp)), (sp, ac, kp, kc, kn, aw, dw, su, ss, sd))) (gB D (WX cs ad)) (gA (AX ad) sz)) 0 0 (gA (AX ad) sz) := by
  obtain ⟨⟨⟨nN, px, py, pz, fx, fy, fz, lf, ld, fi⟩, ⟨nB, fr, tt, ln, wi, sg, pu⟩, ⟨nR, rd, rx, ry, wv, fo⟩, ⟨re, dg⟩, ⟨nP, tp, bt, dp⟩⟩, ⟨sp, ac, kp, kc, kn, aw, dw, su, ss, sd⟩⟩ := S
  have hnR : nR < 10 := hnR
  have ha : a ≤ nR := ha
  refine gMv (cc := cX5_makeRoomAt) (maxL := 3) (plainFor_of_name (by decide)) rfl (Nat.le_of_ble_eq_true rfl) ?_
  intro p e s m below meth c Q hx hb hts hown hml hsz hE hret H locs hP hS ls hl
  subst hsz
  have hown : s.vm.findClass RX5 = some m.cls := hown
  have hK : va_K D vwCl (tysX cs) s := hE.1
  have hD : ∀ u, va_D (gA (AX ad) s.heap.size) (WX cs ad u) := fun u => WX_D hd u
  have hl : lv_has ls 3 [(0, .ref (ad 3)), (1, .int (nI a))] := hl
  have f_9 := hts (.fieldLink RX5 9 "NetShapes$Water" "depths" "[D") (by decide +kernel)
  have f_15 := hts (.fieldLink RX5 15 "NetShapes$Water" "towardsX" "[D") (by decide +kernel)
  have f_18 := hts (.fieldLink RX5 18 "NetShapes$Water" "towardsY" "[D") (by decide +kernel)
  have f_21 := hts (.fieldLink RX5 21 "NetShapes$Water" "count" "I") (by decide +kernel)
  refine lv_aload_n hx hb dX5_makeRoomAt_0 rfl (lv_at hl 0 rfl) ?_
  refine va_get (D := D) (ci := 5) (v := .int (nI nR)) (C := RX5) (T := TX5) (N := 6) hx hb hts iX5_makeRoomAt_X5 hown hK hP 3 rfl rfl 3 (by decide) f_21 (fun _ h9 => h9) rfl dX5_makeRoomAt_1 ?_
  refine lv_istore_n (lv' := [(2, .int (nI nR)), (0, .ref (ad 3)), (1, .int (nI a))]) hx hb dX5_makeRoomAt_4 rfl hl (by decide) rfl (fun ls hl => ?_)
  have L_5_1 : ∀ (n_5 t : Nat) , (nR + 1 ≤ t + n_5) → (a + t ≤ nR) → ∀ (H : Heap) (locs : List Loc), va_P D vwCl (WX cs ad (((nN, px, py, pz, fx, fy, fz, lf, ld, fi), (nB, fr, tt, ln, wi, sg, pu), (nR, (shf rd nR t), (shf rx nR t), (shf ry nR t), wv, fo), (re, dg), (nP, tp, bt, dp)), (sp, ac, kp, kc, kn, aw, dw, su, ss, sd))) H → va_S (gA (AX ad) s.heap.size) s.heap H locs → ∀ (ls : Array Slot), lv_has ls 3 [(2, .int (nI (nR - t))), (0, .ref (ad 3)), (1, .int (nI a))] → W p l e ({ frames := 0, cells := 0, slots := 0, locals := 0 } : Room) s m ([.ref (ad 3), .int (nI a)] : List Value).toArray below meth c H locs 0 0 Q (F0 m 5 ls []) := by
    intro n_5; induction n_5 with
    | zero => intro t hf_5 ht H locs hP hS ls hl; exact absurd hf_5 (by omega)
    | succ n_5 ih_5 =>
      intro t hf_5 ht H locs hP hS ls hl
      refine lv_iload_n hx hb dX5_makeRoomAt_5 rfl (lv_at hl 0 rfl) ?_
      refine lv_iload_n hx hb dX5_makeRoomAt_6 rfl (lv_at hl 2 rfl) ?_
      refine lv_icmp_le (tgt := 58) hx hb dX5_makeRoomAt_7 (by decide) (fun c_7_2 => ?_) (fun c_7_2 => ?_)
      · skip
        have c_7_2 : nR - t ≤ a := (nI_leI (a := nR - t) (b := a) (by omega) (by omega)).mp c_7_2
        have et : t = nR - a := by omega
        subst et
        refine lv_aload_n hx hb dX5_makeRoomAt_58 rfl (lv_at hl 1 rfl) ?_
        refine lv_dup hx hb dX5_makeRoomAt_59 rfl ?_
        refine va_get (D := D) (ci := 5) (v := .int (nI nR)) (C := RX5) (T := TX5) (N := 6) hx hb hts iX5_makeRoomAt_X5 hown hK hP 3 rfl rfl 3 (by decide) f_21 (fun _ h9 => h9) rfl dX5_makeRoomAt_60 ?_
        refine lv_iconst (v := nI 1) hx hb dX5_makeRoomAt_63 (by decide) ?_
        refine xia hx hb (nR + 1) dX5_makeRoomAt_64 rfl ?_
        refine xput (D := D) (ci := 5) (v := .int (nI (nR + 1))) (ty := .int) (C := RX5) (T := TX5) (N := 6) hx hb hts iX5_makeRoomAt_X5 tyX5 tyX5_ok nmX5 hown hK hD hP hS 3 (((nN, px, py, pz, fx, fy, fz, lf, ld, fi), (nB, fr, tt, ln, wi, sg, pu), ((nR + 1), (shf rd nR (nR - a)), (shf rx nR (nR - a)), (shf ry nR (nR - a)), wv, fo), (re, dg), (nP, tp, bt, dp)), (sp, ac, kp, kc, kn, aw, dw, su, ss, sd)) rfl rfl 3 (by decide) f_21 (fun _ h9 => h9) rfl (by decide +kernel) rfl rfl (Nat.le_of_ble_eq_true rfl) rfl dX5_makeRoomAt_65 (fun H locs hP hS => ?_)
        exact hret hS hP dX5_makeRoomAt_68 (rfl)
      · skip
        have c_7_2 : ¬ (nR - t ≤ a) := fun q => c_7_2 ((nI_leI (a := nR - t) (b := a) (by omega) (by omega)).mpr q)
        refine lv_aload_n hx hb dX5_makeRoomAt_10 rfl (lv_at hl 1 rfl) ?_
        refine va_get (D := D) (ci := 5) (v := .ref (ad 18)) (C := RX5) (T := TX5) (N := 6) hx hb hts iX5_makeRoomAt_X5 hown hK hP 3 rfl rfl 0 (by decide) f_9 (fun _ h9 => h9) rfl dX5_makeRoomAt_11 ?_
        refine lv_iload_n hx hb dX5_makeRoomAt_14 rfl (lv_at hl 0 rfl) ?_
        refine lv_aload_n hx hb dX5_makeRoomAt_15 rfl (lv_at hl 1 rfl) ?_
        refine va_get (D := D) (ci := 5) (v := .ref (ad 18)) (C := RX5) (T := TX5) (N := 6) hx hb hts iX5_makeRoomAt_X5 hown hK hP 3 rfl rfl 0 (by decide) f_9 (fun _ h9 => h9) rfl dX5_makeRoomAt_16 ?_
        refine lv_iload_n hx hb dX5_makeRoomAt_19 rfl (lv_at hl 0 rfl) ?_
        refine lv_iconst (v := nI 1) hx hb dX5_makeRoomAt_20 (by decide) ?_
        refine xib hx hb (nR - t - 1) dX5_makeRoomAt_21 (by omega) ?_
        refine xdl hx hb hK hP 18 0 rfl rfl (j := nR - t - 1) (by decide) (by omega) dX5_makeRoomAt_22 ?_
        refine xds hx hb hK hD hP hS 18 0 (((nN, px, py, pz, fx, fy, fz, lf, ld, fi), (nB, fr, tt, ln, wi, sg, pu), (nR, (vf_upd (shf rd nR t) (nR - t) ((shf rd nR t) (nR - t - 1))), (shf rx nR t), (shf ry nR t), wv, fo), (re, dg), (nP, tp, bt, dp)), (sp, ac, kp, kc, kn, aw, dw, su, ss, sd)) rfl rfl (j := nR - t) (by decide) (by omega) rfl dX5_makeRoomAt_23 (fun H locs hP hS => ?_)
        refine lv_aload_n hx hb dX5_makeRoomAt_24 rfl (lv_at hl 1 rfl) ?_
        refine va_get (D := D) (ci := 5) (v := .ref (ad 19)) (C := RX5) (T := TX5) (N := 6) hx hb hts iX5_makeRoomAt_X5 hown hK hP 3 rfl rfl 1 (by decide) f_15 (fun _ h9 => h9) rfl dX5_makeRoomAt_25 ?_
        refine lv_iload_n hx hb dX5_makeRoomAt_28 rfl (lv_at hl 0 rfl) ?_
        refine lv_aload_n hx hb dX5_makeRoomAt_29 rfl (lv_at hl 1 rfl) ?_
        refine va_get (D := D) (ci := 5) (v := .ref (ad 19)) (C := RX5) (T := TX5) (N := 6) hx hb hts iX5_makeRoomAt_X5 hown hK hP 3 rfl rfl 1 (by decide) f_15 (fun _ h9 => h9) rfl dX5_makeRoomAt_30 ?_
        refine lv_iload_n hx hb dX5_makeRoomAt_33 rfl (lv_at hl 0 rfl) ?_
        refine lv_iconst (v := nI 1) hx hb dX5_makeRoomAt_34 (by decide) ?_
        refine xib hx hb (nR - t - 1) dX5_makeRoomAt_35 (by omega) ?_
        refine xdl hx hb hK hP 19 0 rfl rfl (j := nR - t - 1) (by decide) (by omega) dX5_makeRoomAt_36 ?_
        refine xds hx hb hK hD hP hS 19 0 (((nN, px, py, pz, fx, fy, fz, lf, ld, fi), (nB, fr, tt, ln, wi, sg, pu), (nR, (vf_upd (shf rd nR t) (nR - t) ((shf rd nR t) (nR - t - 1))), (vf_upd (shf rx nR t) (nR - t) ((shf rx nR t) (nR - t - 1))), (shf ry nR t), wv, fo), (re, dg), (nP, tp, bt, dp)), (sp, ac, kp, kc, kn, aw, dw, su, ss, sd)) rfl rfl (j := nR - t) (by decide) (by omega) rfl dX5_makeRoomAt_37 (fun H locs hP hS => ?_)
        refine lv_aload_n hx hb dX5_makeRoomAt_38 rfl (lv_at hl 1 rfl) ?_
        refine va_get (D := D) (ci := 5) (v := .ref (ad 20)) (C := RX5) (T := TX5) (N := 6) hx hb hts iX5_makeRoomAt_X5 hown hK hP 3 rfl rfl 2 (by decide) f_18 (fun _ h9 => h9) rfl dX5_makeRoomAt_39 ?_
        refine lv_iload_n hx hb dX5_makeRoomAt_42 rfl (lv_at hl 0 rfl) ?_
        refine lv_aload_n hx hb dX5_makeRoomAt_43 rfl (lv_at hl 1 rfl) ?_
        refine va_get (D := D) (ci := 5) (v := .ref (ad 20)) (C := RX5) (T := TX5) (N := 6) hx hb hts iX5_makeRoomAt_X5 hown hK hP 3 rfl rfl 2 (by decide) f_18 (fun _ h9 => h9) rfl dX5_makeRoomAt_44 ?_
        refine lv_iload_n hx hb dX5_makeRoomAt_47 rfl (lv_at hl 0 rfl) ?_
        refine lv_iconst (v := nI 1) hx hb dX5_makeRoomAt_48 (by decide) ?_
        refine xib hx hb (nR - t - 1) dX5_makeRoomAt_49 (by omega) ?_
        refine xdl hx hb hK hP 20 0 rfl rfl (j := nR - t - 1) (by decide) (by omega) dX5_makeRoomAt_50 ?_
        refine xds hx hb hK hD hP hS 20 0 (((nN, px, py, pz, fx, fy, fz, lf, ld, fi), (nB, fr, tt, ln, wi, sg, pu), (nR, (vf_upd (shf rd nR t) (nR - t) ((shf rd nR t) (nR - t - 1))), (vf_upd (shf rx nR t) (nR - t) ((shf rx nR t) (nR - t - 1))), (vf_upd (shf ry nR t) (nR - t) ((shf ry nR t) (nR - t - 1))), wv, fo), (re, dg), (nP, tp, bt, dp)), (sp, ac, kp, kc, kn, aw, dw, su, ss, sd)) rfl rfl (j := nR - t) (by decide) (by omega) rfl dX5_makeRoomAt_51 (fun H locs hP hS => ?_)
        refine lv_iinc (v := nI (nR - (t + 1))) (lv' := [(2, .int (nI (nR - (t + 1)))), (0, .ref (ad 3)), (1, .int (nI a))]) hx hb dX5_makeRoomAt_52 hl (k := 0) rfl (pm1 (by omega)) (by decide) rfl (fun ls hl => ?_)
        refine lv_goto (tgt := 5) hx hb dX5_makeRoomAt_55 (by decide) ?_
        exact ih_5 (t + 1)  (by omega) (by omega) _ _ hP hS ls (lv_sub hl [0, 1, 2] rfl)
  exact L_5_1 (nR + 1) (0)  (by omega) (by omega) _ _ hP hS ls (lv_sub hl [0, 1, 2] rfl)
theorem iX5_tell_X5 : ∀ w ∈ u_ws RX5 TX5 6, w ∈ wsX5_tell := by decide +kernel
set_option maxHeartbeats 4000000 in
set_option maxRecDepth 100000 in
theorem kX5_tell (l : Launch) (D : va_G) (cs : Nat → ClassId) (ad : Nat → Nat) (hd : distX ad) (sz : Nat) (S : XS) (hnR : S.1.2.2.1.1 ≤ 10) (hso : sorted (S.1.2.2.1.2.1) (S.1.2.2.1.1)) (d vx vy : UInt64) : Met l yX5_tell wsX5_tell ({ frames := 1, cells := 0, slots := 0, locals := 24 } : Room) (gP D (WX cs ad) (EX D cs) S sz ([.ref (ad 3), .double (d), .double (vx), .double (vy)] : List Value)) (va_Qi (fun r u => match S with | (((nN, px, py, pz, fx, fy, fz, lf, ld, fi), (nB, fr, tt, ln, wi, sg, pu), (nR, rd, rx, ry, wv, fo), (re, dg), (nP, tp, bt, dp)), (sp, ac, kp, kc, kn, aw, dw, su, ss, sd)) => ∃ a, isA rd d nR a ∧ (((a < nR ∧ deq (rd a) d) ∧ r = nI 1 ∧ u = (((nN, px, py, pz, fx, fy, fz, lf, ld, fi), (nB, fr, tt, ln, wi, sg, pu), (nR, (vf_upd rd a d), (vf_upd rx a vx), (vf_upd ry a vy), wv, fo), (re, dg), (nP, tp, bt, dp)), (sp, ac, kp, kc, kn, aw, dw, su, ss, sd))) ∨ (¬ (a < nR ∧ deq (rd a) d) ∧ nR < 10 ∧ r = nI 1 ∧ u = (((nN, px, py, pz, fx, fy, fz, lf, ld, fi), (nB, fr, tt, ln, wi, sg, pu), ((nR + 1), (vf_upd (shf rd nR (nR - a)) a d), (vf_upd (shf rx nR (nR - a)) a vx), (vf_upd (shf ry nR (nR - a)) a vy), wv, fo), (re, dg), (nP, tp, bt, dp)), (sp, ac, kp, kc, kn, aw, dw, su, ss, sd))) ∨ (¬ (a < nR ∧ deq (rd a) d) ∧ ¬ nR < 10 ∧ r = nI 0 ∧ u = (((nN, px, py, pz, fx, fy, fz, lf, ld, fi), (nB, fr, tt, ln, wi, sg, pu), (nR, rd, rx, ry, wv, fo), (re, dg), (nP, tp, bt, dp)), (sp, ac, kp, kc, kn, aw, dw, su, ss, sd))))) (gB D (WX cs ad)) (gA (AX ad) sz)) 0 0 (gA (AX ad) sz) := by
  obtain ⟨⟨⟨nN, px, py, pz, fx, fy, fz, lf, ld, fi⟩, ⟨nB, fr, tt, ln, wi, sg, pu⟩, ⟨nR, rd, rx, ry, wv, fo⟩, ⟨re, dg⟩, ⟨nP, tp, bt, dp⟩⟩, ⟨sp, ac, kp, kc, kn, aw, dw, su, ss, sd⟩⟩ := S
  have hnR : nR ≤ 10 := hnR
  have hso : sorted rd nR := hso
  refine gMz (cc := cX5_tell) (maxL := 8) (plainFor_of_name (by decide)) rfl (Nat.le_of_ble_eq_true rfl) ?_
  intro p e s m below meth c Q hx hb hts hown hml hsz hE hret H locs hP hS ls hl
  subst hsz
  have hown : s.vm.findClass RX5 = some m.cls := hown
  have hK : va_K D vwCl (tysX cs) s := hE.1
  have hD : ∀ u, va_D (gA (AX ad) s.heap.size) (WX cs ad u) := fun u => WX_D hd u
  have hl : lv_has ls 8 [(0, .ref (ad 3)), (1, .double (d)), (3, .double (vx)), (5, .double (vy))] := hl
  have f_9 := hts (.fieldLink RX5 9 "NetShapes$Water" "depths" "[D") (by decide +kernel)
  have f_15 := hts (.fieldLink RX5 15 "NetShapes$Water" "towardsX" "[D") (by decide +kernel)
  have f_18 := hts (.fieldLink RX5 18 "NetShapes$Water" "towardsY" "[D") (by decide +kernel)
  have f_21 := hts (.fieldLink RX5 21 "NetShapes$Water" "count" "I") (by decide +kernel)
  refine lv_aload_n hx hb dX5_tell_0 rfl (lv_at hl 0 rfl) ?_
  refine lv_dload_n hx hb dX5_tell_1 rfl (lv_at hl 1 rfl) ?_
  refine gci (va_runV (As := [.double (d)]) (rest := []) ⟨hx, hb, hml, hown, hts⟩ (kX5_rowAtOrAbove l D cs ad hd H.size (((nN, px, py, pz, fx, fy, fz, lf, ld, fi), (nB, fr, tt, ln, wi, sg, pu), (nR, rd, rx, ry, wv, fo), (re, dg), (nP, tp, bt, dp)), (sp, ac, kp, kc, kn, aw, dw, su, ss, sd)) (show nR ≤ 10 by omega) d) (cwV 1 hts gX5_tell_X5_rowAtOrAbove rfl rfl rfl (by decide +kernel) ⟨Nat.le_of_ble_eq_true rfl, Nat.le_of_ble_eq_true rfl⟩) (gPreV (EX_bl) (va_recv hK hP (ci := 5) (q0 := 3) rfl rfl) hP (fun U _ hW => EX_warm hW hE)) rfl rfl hl.1 rfl (lv_room (Nat.le_of_ble_eq_true rfl)) dX5_tell_2 ⟨Nat.zero_le _, Nat.zero_le _⟩) hS (fun r_ u_ H locs hw hP hS => ?_)
  obtain ⟨rfl, c, hC, rfl⟩ := hw
  have hC : isC rd d nR c := hC
  have hcn := hC.1
  rcases c with _ | c
  · skip
    refine W.eq (g2 := F0 m 5 ls (.int ((-1 : Int32)) :: [])) rfl ?_
    refine lv_istore (lv' := [(7, .int ((-1 : Int32))), (0, .ref (ad 3)), (1, .double (d)), (3, .double (vx)), (5, .double (vy))]) hx hb dX5_tell_5 hl (by decide) rfl (fun ls hl => ?_)
    refine lv_iload hx hb dX5_tell_7 (lv_at hl 0 rfl) ?_
    refine lv_iconst (v := (-1 : Int32)) hx hb dX5_tell_9 (by decide) ?_
    refine lv_icmp_eq (tgt := 25) hx hb dX5_tell_10 (by decide) (fun _ => ?_) (fun c_10_1 => absurd c_10_1 (by decide))
    refine lv_aload_n hx hb dX5_tell_25 rfl (lv_at hl 1 rfl) ?_
    refine va_get (D := D) (ci := 5) (v := .int (nI nR)) (C := RX5) (T := TX5) (N := 6) hx hb hts iX5_tell_X5 hown hK hP 3 rfl rfl 3 (by decide) f_21 (fun _ h9 => h9) rfl dX5_tell_26 ?_
    refine lv_bipush (v := nI 10) hx hb dX5_tell_29 (by decide) ?_
    refine lv_icmp_lt (tgt := 36) hx hb dX5_tell_31 (by decide) (fun c_31_2 => ?_) (fun c_31_2 => ?_)
    · skip
      have c_31_2 : nR < 10 := (nI_ltI (a := nR) (b := 10) (by omega) (by omega)).mp c_31_2
      refine lv_iinc (v := nI 0) (lv' := [(7, .int (nI 0)), (0, .ref (ad 3)), (1, .double (d)), (3, .double (vx)), (5, .double (vy))]) hx hb dX5_tell_36 hl (k := 0) rfl (by decide) (by decide) rfl (fun ls hl => ?_)
      refine lv_aload_n hx hb dX5_tell_39 rfl (lv_at hl 1 rfl) ?_
      refine lv_iload hx hb dX5_tell_40 (lv_at hl 0 rfl) ?_
      refine gcv (va_runV (As := [.int (nI 0)]) (rest := []) ⟨hx, hb, hml, hown, hts⟩ (kX5_makeRoomAt l D cs ad hd H.size (((nN, px, py, pz, fx, fy, fz, lf, ld, fi), (nB, fr, tt, ln, wi, sg, pu), (nR, rd, rx, ry, wv, fo), (re, dg), (nP, tp, bt, dp)), (sp, ac, kp, kc, kn, aw, dw, su, ss, sd)) (show nR < 10 by omega) 0 (show 0 ≤ nR by omega)) (cwV 1 hts gX5_tell_X5_makeRoomAt rfl rfl rfl (by decide +kernel) ⟨Nat.le_of_ble_eq_true rfl, Nat.le_of_ble_eq_true rfl⟩) (gPreV (EX_bl) (va_recv hK hP (ci := 5) (q0 := 3) rfl rfl) hP (fun U _ hW => EX_warm hW hE)) rfl rfl hl.1 rfl (lv_room (Nat.le_of_ble_eq_true rfl)) dX5_tell_42 ⟨Nat.zero_le _, Nat.zero_le _⟩) hS (fun u_ H locs hw hP hS => ?_)
      obtain rfl := hw
      have hP : va_P D vwCl (WX cs ad (((nN, px, py, pz, fx, fy, fz, lf, ld, fi), (nB, fr, tt, ln, wi, sg, pu), ((nR + 1), (shf rd nR (nR - 0)), (shf rx nR (nR - 0)), (shf ry nR (nR - 0)), wv, fo), (re, dg), (nP, tp, bt, dp)), (sp, ac, kp, kc, kn, aw, dw, su, ss, sd))) H := hP
      refine lv_aload_n hx hb dX5_tell_45 rfl (lv_at hl 1 rfl) ?_
      refine va_get (D := D) (ci := 5) (v := .ref (ad 18)) (C := RX5) (T := TX5) (N := 6) hx hb hts iX5_tell_X5 hown hK hP 3 rfl rfl 0 (by decide) f_9 (fun _ h9 => h9) rfl dX5_tell_46 ?_
      refine lv_iload hx hb dX5_tell_49 (lv_at hl 0 rfl) ?_
      refine lv_dload_n hx hb dX5_tell_51 rfl (lv_at hl 2 rfl) ?_
      refine xds hx hb hK hD hP hS 18 0 (((nN, px, py, pz, fx, fy, fz, lf, ld, fi), (nB, fr, tt, ln, wi, sg, pu), ((nR + 1), (vf_upd (shf rd nR (nR - 0)) 0 d), (shf rx nR (nR - 0)), (shf ry nR (nR - 0)), wv, fo), (re, dg), (nP, tp, bt, dp)), (sp, ac, kp, kc, kn, aw, dw, su, ss, sd)) rfl rfl (j := 0) (by decide) (by decide) rfl dX5_tell_52 (fun H locs hP hS => ?_)
      refine lv_aload_n hx hb dX5_tell_53 rfl (lv_at hl 1 rfl) ?_
      refine va_get (D := D) (ci := 5) (v := .ref (ad 19)) (C := RX5) (T := TX5) (N := 6) hx hb hts iX5_tell_X5 hown hK hP 3 rfl rfl 1 (by decide) f_15 (fun _ h9 => h9) rfl dX5_tell_54 ?_
      refine lv_iload hx hb dX5_tell_57 (lv_at hl 0 rfl) ?_
      refine lv_dload_n hx hb dX5_tell_59 rfl (lv_at hl 3 rfl) ?_
      refine xds hx hb hK hD hP hS 19 0 (((nN, px, py, pz, fx, fy, fz, lf, ld, fi), (nB, fr, tt, ln, wi, sg, pu), ((nR + 1), (vf_upd (shf rd nR (nR - 0)) 0 d), (vf_upd (shf rx nR (nR - 0)) 0 vx), (shf ry nR (nR - 0)), wv, fo), (re, dg), (nP, tp, bt, dp)), (sp, ac, kp, kc, kn, aw, dw, su, ss, sd)) rfl rfl (j := 0) (by decide) (by decide) rfl dX5_tell_60 (fun H locs hP hS => ?_)
      refine lv_aload_n hx hb dX5_tell_61 rfl (lv_at hl 1 rfl) ?_
      refine va_get (D := D) (ci := 5) (v := .ref (ad 20)) (C := RX5) (T := TX5) (N := 6) hx hb hts iX5_tell_X5 hown hK hP 3 rfl rfl 2 (by decide) f_18 (fun _ h9 => h9) rfl dX5_tell_62 ?_
      refine lv_iload hx hb dX5_tell_65 (lv_at hl 0 rfl) ?_
      refine lv_dload hx hb dX5_tell_67 (lv_at hl 4 rfl) ?_
      refine xds hx hb hK hD hP hS 20 0 (((nN, px, py, pz, fx, fy, fz, lf, ld, fi), (nB, fr, tt, ln, wi, sg, pu), ((nR + 1), (vf_upd (shf rd nR (nR - 0)) 0 d), (vf_upd (shf rx nR (nR - 0)) 0 vx), (vf_upd (shf ry nR (nR - 0)) 0 vy), wv, fo), (re, dg), (nP, tp, bt, dp)), (sp, ac, kp, kc, kn, aw, dw, su, ss, sd)) rfl rfl (j := 0) (by decide) (by decide) rfl dX5_tell_69 (fun H locs hP hS => ?_)
      refine lv_iconst (v := nI 1) hx hb dX5_tell_70 (by decide) ?_
      exact hret hS hP dX5_tell_71 (Or.inr rfl) (⟨0, (isA_ne (c := 0) hso hC (fun k q => absurd q (by omega))).1, Or.inr (Or.inl ⟨(isA_ne (c := 0) hso hC (fun k q => absurd q (by omega))).2, by omega, rfl, rfl⟩)⟩)
    · skip
      have c_31_2 : ¬ (nR < 10) := fun q => c_31_2 ((nI_ltI (a := nR) (b := 10) (by omega) (by omega)).mpr q)
      refine lv_iconst (v := nI 0) hx hb dX5_tell_34 (by decide) ?_
      exact hret hS hP dX5_tell_35 (Or.inl rfl) (⟨0, (isA_ne (c := 0) hso hC (fun k q => absurd q (by omega))).1, Or.inr (Or.inr ⟨(isA_ne (c := 0) hso hC (fun k q => absurd q (by omega))).2, by omega, rfl, rfl⟩)⟩)
  · skip
    refine W.eq (g2 := F0 m 5 ls (.int (nI c) :: [])) rfl ?_
    refine lv_istore (lv' := [(7, .int (nI c)), (0, .ref (ad 3)), (1, .double (d)), (3, .double (vx)), (5, .double (vy))]) hx hb dX5_tell_5 hl (by decide) rfl (fun ls hl => ?_)
    refine lv_iload hx hb dX5_tell_7 (lv_at hl 0 rfl) ?_
    refine lv_iconst (v := (-1 : Int32)) hx hb dX5_tell_9 (by decide) ?_
    refine lv_icmp_eq (tgt := 25) hx hb dX5_tell_10 (by decide) (fun c9 => absurd c9 (nI_m1 (by omega))) (fun _ => ?_)
    refine lv_aload_n hx hb dX5_tell_13 rfl (lv_at hl 1 rfl) ?_
    refine va_get (D := D) (ci := 5) (v := .ref (ad 18)) (C := RX5) (T := TX5) (N := 6) hx hb hts iX5_tell_X5 hown hK hP 3 rfl rfl 0 (by decide) f_9 (fun _ h9 => h9) rfl dX5_tell_14 ?_
    refine lv_iload hx hb dX5_tell_17 (lv_at hl 0 rfl) ?_
    refine xdl hx hb hK hP 18 0 rfl rfl (j := c) (by decide) (by omega) dX5_tell_19 ?_
    refine lv_dload_n hx hb dX5_tell_20 rfl (lv_at hl 2 rfl) ?_
    refine xc_lne (tgt := 45) hx hb dX5_tell_21 dX5_tell_22 (by decide) (fun c_21_4 => ?_) (fun c_21_4 => ?_)
    · skip
      refine lv_aload_n hx hb dX5_tell_45 rfl (lv_at hl 1 rfl) ?_
      refine va_get (D := D) (ci := 5) (v := .ref (ad 18)) (C := RX5) (T := TX5) (N := 6) hx hb hts iX5_tell_X5 hown hK hP 3 rfl rfl 0 (by decide) f_9 (fun _ h9 => h9) rfl dX5_tell_46 ?_
      refine lv_iload hx hb dX5_tell_49 (lv_at hl 0 rfl) ?_
      refine lv_dload_n hx hb dX5_tell_51 rfl (lv_at hl 2 rfl) ?_
      refine xds hx hb hK hD hP hS 18 0 (((nN, px, py, pz, fx, fy, fz, lf, ld, fi), (nB, fr, tt, ln, wi, sg, pu), (nR, (vf_upd rd c d), rx, ry, wv, fo), (re, dg), (nP, tp, bt, dp)), (sp, ac, kp, kc, kn, aw, dw, su, ss, sd)) rfl rfl (j := c) (by decide) (by omega) rfl dX5_tell_52 (fun H locs hP hS => ?_)
      refine lv_aload_n hx hb dX5_tell_53 rfl (lv_at hl 1 rfl) ?_
      refine va_get (D := D) (ci := 5) (v := .ref (ad 19)) (C := RX5) (T := TX5) (N := 6) hx hb hts iX5_tell_X5 hown hK hP 3 rfl rfl 1 (by decide) f_15 (fun _ h9 => h9) rfl dX5_tell_54 ?_
      refine lv_iload hx hb dX5_tell_57 (lv_at hl 0 rfl) ?_
      refine lv_dload_n hx hb dX5_tell_59 rfl (lv_at hl 3 rfl) ?_
      refine xds hx hb hK hD hP hS 19 0 (((nN, px, py, pz, fx, fy, fz, lf, ld, fi), (nB, fr, tt, ln, wi, sg, pu), (nR, (vf_upd rd c d), (vf_upd rx c vx), ry, wv, fo), (re, dg), (nP, tp, bt, dp)), (sp, ac, kp, kc, kn, aw, dw, su, ss, sd)) rfl rfl (j := c) (by decide) (by omega) rfl dX5_tell_60 (fun H locs hP hS => ?_)
      refine lv_aload_n hx hb dX5_tell_61 rfl (lv_at hl 1 rfl) ?_
      refine va_get (D := D) (ci := 5) (v := .ref (ad 20)) (C := RX5) (T := TX5) (N := 6) hx hb hts iX5_tell_X5 hown hK hP 3 rfl rfl 2 (by decide) f_18 (fun _ h9 => h9) rfl dX5_tell_62 ?_
      refine lv_iload hx hb dX5_tell_65 (lv_at hl 0 rfl) ?_
      refine lv_dload hx hb dX5_tell_67 (lv_at hl 4 rfl) ?_
      refine xds hx hb hK hD hP hS 20 0 (((nN, px, py, pz, fx, fy, fz, lf, ld, fi), (nB, fr, tt, ln, wi, sg, pu), (nR, (vf_upd rd c d), (vf_upd rx c vx), (vf_upd ry c vy), wv, fo), (re, dg), (nP, tp, bt, dp)), (sp, ac, kp, kc, kn, aw, dw, su, ss, sd)) rfl rfl (j := c) (by decide) (by omega) rfl dX5_tell_69 (fun H locs hP hS => ?_)
      refine lv_iconst (v := nI 1) hx hb dX5_tell_70 (by decide) ?_
      exact hret hS hP dX5_tell_71 (Or.inr rfl) (⟨c, isA_eq hso hC c_21_4, Or.inl ⟨⟨show c < nR by omega, c_21_4⟩, rfl, rfl⟩⟩)
    · skip
      refine lv_aload_n hx hb dX5_tell_25 rfl (lv_at hl 1 rfl) ?_
      refine va_get (D := D) (ci := 5) (v := .int (nI nR)) (C := RX5) (T := TX5) (N := 6) hx hb hts iX5_tell_X5 hown hK hP 3 rfl rfl 3 (by decide) f_21 (fun _ h9 => h9) rfl dX5_tell_26 ?_
      refine lv_bipush (v := nI 10) hx hb dX5_tell_29 (by decide) ?_
      refine lv_icmp_lt (tgt := 36) hx hb dX5_tell_31 (by decide) (fun c_31_5 => ?_) (fun c_31_5 => ?_)
      · skip
        have c_31_5 : nR < 10 := (nI_ltI (a := nR) (b := 10) (by omega) (by omega)).mp c_31_5
        refine lv_iinc (v := nI (c + 1)) (lv' := [(7, .int (nI (c + 1))), (0, .ref (ad 3)), (1, .double (d)), (3, .double (vx)), (5, .double (vy))]) hx hb dX5_tell_36 hl (k := 0) rfl (nI_add _ _) (by decide) rfl (fun ls hl => ?_)
        refine lv_aload_n hx hb dX5_tell_39 rfl (lv_at hl 1 rfl) ?_
        refine lv_iload hx hb dX5_tell_40 (lv_at hl 0 rfl) ?_
        refine gcv (va_runV (As := [.int (nI (c + 1))]) (rest := []) ⟨hx, hb, hml, hown, hts⟩ (kX5_makeRoomAt l D cs ad hd H.size (((nN, px, py, pz, fx, fy, fz, lf, ld, fi), (nB, fr, tt, ln, wi, sg, pu), (nR, rd, rx, ry, wv, fo), (re, dg), (nP, tp, bt, dp)), (sp, ac, kp, kc, kn, aw, dw, su, ss, sd)) (show nR < 10 by omega) (c + 1) (show c + 1 ≤ nR by omega)) (cwV 1 hts gX5_tell_X5_makeRoomAt rfl rfl rfl (by decide +kernel) ⟨Nat.le_of_ble_eq_true rfl, Nat.le_of_ble_eq_true rfl⟩) (gPreV (EX_bl) (va_recv hK hP (ci := 5) (q0 := 3) rfl rfl) hP (fun U _ hW => EX_warm hW hE)) rfl rfl hl.1 rfl (lv_room (Nat.le_of_ble_eq_true rfl)) dX5_tell_42 ⟨Nat.zero_le _, Nat.zero_le _⟩) hS (fun u_ H locs hw hP hS => ?_)
        obtain rfl := hw
        have hP : va_P D vwCl (WX cs ad (((nN, px, py, pz, fx, fy, fz, lf, ld, fi), (nB, fr, tt, ln, wi, sg, pu), ((nR + 1), (shf rd nR (nR - (c + 1))), (shf rx nR (nR - (c + 1))), (shf ry nR (nR - (c + 1))), wv, fo), (re, dg), (nP, tp, bt, dp)), (sp, ac, kp, kc, kn, aw, dw, su, ss, sd))) H := hP
        refine lv_aload_n hx hb dX5_tell_45 rfl (lv_at hl 1 rfl) ?_
        refine va_get (D := D) (ci := 5) (v := .ref (ad 18)) (C := RX5) (T := TX5) (N := 6) hx hb hts iX5_tell_X5 hown hK hP 3 rfl rfl 0 (by decide) f_9 (fun _ h9 => h9) rfl dX5_tell_46 ?_
        refine lv_iload hx hb dX5_tell_49 (lv_at hl 0 rfl) ?_
        refine lv_dload_n hx hb dX5_tell_51 rfl (lv_at hl 2 rfl) ?_
        refine xds hx hb hK hD hP hS 18 0 (((nN, px, py, pz, fx, fy, fz, lf, ld, fi), (nB, fr, tt, ln, wi, sg, pu), ((nR + 1), (vf_upd (shf rd nR (nR - (c + 1))) (c + 1) d), (shf rx nR (nR - (c + 1))), (shf ry nR (nR - (c + 1))), wv, fo), (re, dg), (nP, tp, bt, dp)), (sp, ac, kp, kc, kn, aw, dw, su, ss, sd)) rfl rfl (j := c + 1) (by decide) (by omega) rfl dX5_tell_52 (fun H locs hP hS => ?_)
        refine lv_aload_n hx hb dX5_tell_53 rfl (lv_at hl 1 rfl) ?_
        refine va_get (D := D) (ci := 5) (v := .ref (ad 19)) (C := RX5) (T := TX5) (N := 6) hx hb hts iX5_tell_X5 hown hK hP 3 rfl rfl 1 (by decide) f_15 (fun _ h9 => h9) rfl dX5_tell_54 ?_
        refine lv_iload hx hb dX5_tell_57 (lv_at hl 0 rfl) ?_
        refine lv_dload_n hx hb dX5_tell_59 rfl (lv_at hl 3 rfl) ?_
        refine xds hx hb hK hD hP hS 19 0 (((nN, px, py, pz, fx, fy, fz, lf, ld, fi), (nB, fr, tt, ln, wi, sg, pu), ((nR + 1), (vf_upd (shf rd nR (nR - (c + 1))) (c + 1) d), (vf_upd (shf rx nR (nR - (c + 1))) (c + 1) vx), (shf ry nR (nR - (c + 1))), wv, fo), (re, dg), (nP, tp, bt, dp)), (sp, ac, kp, kc, kn, aw, dw, su, ss, sd)) rfl rfl (j := c + 1) (by decide) (by omega) rfl dX5_tell_60 (fun H locs hP hS => ?_)
        refine lv_aload_n hx hb dX5_tell_61 rfl (lv_at hl 1 rfl) ?_
        refine va_get (D := D) (ci := 5) (v := .ref (ad 20)) (C := RX5) (T := TX5) (N := 6) hx hb hts iX5_tell_X5 hown hK hP 3 rfl rfl 2 (by decide) f_18 (fun _ h9 => h9) rfl dX5_tell_62 ?_
        refine lv_iload hx hb dX5_tell_65 (lv_at hl 0 rfl) ?_
        refine lv_dload hx hb dX5_tell_67 (lv_at hl 4 rfl) ?_
        refine xds hx hb hK hD hP hS 20 0 (((nN, px, py, pz, fx, fy, fz, lf, ld, fi), (nB, fr, tt, ln, wi, sg, pu), ((nR + 1), (vf_upd (shf rd nR (nR - (c + 1))) (c + 1) d), (vf_upd (shf rx nR (nR - (c + 1))) (c + 1) vx), (vf_upd (shf ry nR (nR - (c + 1))) (c + 1) vy), wv, fo), (re, dg), (nP, tp, bt, dp)), (sp, ac, kp, kc, kn, aw, dw, su, ss, sd)) rfl rfl (j := c + 1) (by decide) (by omega) rfl dX5_tell_69 (fun H locs hP hS => ?_)
        refine lv_iconst (v := nI 1) hx hb dX5_tell_70 (by decide) ?_
        exact hret hS hP dX5_tell_71 (Or.inr rfl) (⟨c + 1, (isA_ne (c := c + 1) hso hC (fun k q => by rw [show k = c by omega]; exact c_21_4)).1, Or.inr (Or.inl ⟨(isA_ne (c := c + 1) hso hC (fun k q => by rw [show k = c by omega]; exact c_21_4)).2, by omega, rfl, rfl⟩)⟩)
      · skip
        have c_31_5 : ¬ (nR < 10) := fun q => c_31_5 ((nI_ltI (a := nR) (b := 10) (by omega) (by omega)).mpr q)
        refine lv_iconst (v := nI 0) hx hb dX5_tell_34 (by decide) ?_
        exact hret hS hP dX5_tell_35 (Or.inl rfl) (⟨c + 1, (isA_ne (c := c + 1) hso hC (fun k q => by rw [show k = c by omega]; exact c_21_4)).1, Or.inr (Or.inr ⟨(isA_ne (c := c + 1) hso hC (fun k q => by rw [show k = c by omega]; exact c_21_4)).2, by omega, rfl, rfl⟩)⟩)
theorem iX6_current_X6 : ∀ w ∈ u_ws RX6 TX6 6, w ∈ wsX6_current := by decide +kernel
set_option maxHeartbeats 4000000 in
set_option maxRecDepth 100000 in
theorem kX6_current (l : Launch) (D : va_G) (cs : Nat → ClassId) (ad : Nat → Nat) (hd : distX ad) (sz : Nat) (S : XS) (hnR : S.1.2.2.1.1 ≤ 10) (hso : sorted (S.1.2.2.1.2.1) (S.1.2.2.1.1)) (d sp_ di : UInt64) : Met l yX6_current wsX6_current ({ frames := 2, cells := 0, slots := 0, locals := 51 } : Room) (gP D (WX cs ad) (EX D cs) S sz ([.ref (ad 0), .double (d), .double (sp_), .double (di)] : List Value)) (va_Qi (fun r u => q_current S.1 d sp_ di r u.1 ∧ u.2 = S.2) (gB D (WX cs ad)) (gA (AX ad) sz)) 0 0 (gA (AX ad) sz) := by
  obtain ⟨⟨⟨nN, px, py, pz, fx, fy, fz, lf, ld, fi⟩, ⟨nB, fr, tt, ln, wi, sg, pu⟩, ⟨nR, rd, rx, ry, wv, fo⟩, ⟨re, dg⟩, ⟨nP, tp, bt, dp⟩⟩, ⟨sp, ac, kp, kc, kn, aw, dw, su, ss, sd⟩⟩ := S
  have hnR : nR ≤ 10 := hnR
  have hso : sorted rd nR := hso
  refine gMz (cc := cX6_current) (maxL := 9) (plainFor_of_name (by decide)) rfl (Nat.le_of_ble_eq_true rfl) ?_
  intro p e s m below meth c Q hx hb hts hown hml hsz hE hret H locs hP hS ls hl
  subst hsz
  have hown : s.vm.findClass RX6 = some m.cls := hown
  have hK : va_K D vwCl (tysX cs) s := hE.1
  have hD : ∀ u, va_D (gA (AX ad) s.heap.size) (WX cs ad u) := fun u => WX_D hd u
  have hl : lv_has ls 9 [(0, .ref (ad 0)), (1, .double (d)), (3, .double (sp_)), (5, .double (di))] := hl
  have c_78 := hts (.constantDouble RX6 78 4621819117588971520) (by decide +kernel)
  have f_26 := hts (.fieldLink RX6 26 "NetShapes" "water" "LNetShapes$Water;") (by decide +kernel)
  refine lv_dload hx hb dX6_current_0 (lv_at hl 3 rfl) ?_
  refine g0i (va_runS (As := [.double (di)]) (rest := []) ⟨hx, hb, hml, hown, hts⟩ (kX6_eighthOfTurn l D H.size di) (va_cwS 1 hts gX6_current_X6_eighthOfTurn rfl rfl rfl (by decide +kernel) ⟨Nat.le_of_ble_eq_true rfl, Nat.le_of_ble_eq_true rfl⟩) (gPreS (eT_bl) w0_P (fun _ _ _ => trivial)) rfl rfl hl.1 rfl (lv_room (Nat.le_of_ble_eq_true rfl)) dX6_current_2 ⟨Nat.zero_le _, Nat.zero_le _⟩) hP hS (fun r_ H locs hw hP hS => ?_)
  rcases hw with ⟨e, he, hdir, rfl⟩ | ⟨hnd, rfl⟩
  · skip
    refine lv_istore (lv' := [(7, .int (nI e)), (0, .ref (ad 0)), (1, .double (d)), (3, .double (sp_)), (5, .double (di))]) hx hb dX6_current_5 hl (by decide) rfl (fun ls hl => ?_)
    refine lv_dload_n hx hb dX6_current_7 rfl (lv_at hl 2 rfl) ?_
    refine g0i (va_runS (As := [.double (d)]) (rest := []) ⟨hx, hb, hml, hown, hts⟩ (kX6_isPlace l D H.size d) (va_cwS 1 hts gX6_current_X6_isPlace rfl rfl rfl (by decide +kernel) ⟨Nat.le_of_ble_eq_true rfl, Nat.le_of_ble_eq_true rfl⟩) (gPreS (eT_bl) w0_P (fun _ _ _ => trivial)) rfl rfl hl.1 rfl (lv_room (Nat.le_of_ble_eq_true rfl)) dX6_current_8 ⟨Nat.zero_le _, Nat.zero_le _⟩) hP hS (fun r_ H locs hw hP hS => ?_)
    rcases hw with ⟨rfl, b_1⟩ | ⟨rfl, b_1⟩
    · skip
      have b_1 : inR (d) 13875379345695965184 4652007308841189376 := b_1
      refine lv_if_eq (tgt := 31) hx hb dX6_current_11 (by decide) (fun c_11_2 => absurd c_11_2 (by decide)) (fun _ => ?_)
      refine lv_dload_n hx hb dX6_current_14 rfl (lv_at hl 3 rfl) ?_
      refine lv_dconst0 hx hb dX6_current_15 ?_
      refine lv_ldc2d hx hb hown c_78 dX6_current_16 ?_
      refine g0i (va_runS (As := [.double (sp_), .double (FP.dconst0), .double (4621819117588971520)]) (rest := []) ⟨hx, hb, hml, hown, hts⟩ (kX6_within l D H.size sp_ FP.dconst0 4621819117588971520) (va_cwS 3 hts gX6_current_X6_within rfl rfl rfl (by decide +kernel) ⟨Nat.le_of_ble_eq_true rfl, Nat.le_of_ble_eq_true rfl⟩) (gPreS (eT_bl) w0_P (fun _ _ _ => trivial)) rfl rfl hl.1 rfl (lv_room (Nat.le_of_ble_eq_true rfl)) dX6_current_19 ⟨Nat.zero_le _, Nat.zero_le _⟩) hP hS (fun r_ H locs hw hP hS => ?_)
      rcases hw with ⟨rfl, b_3⟩ | ⟨rfl, b_3⟩
      · skip
        have b_3 : inR (sp_) (FP.dconst0) (4621819117588971520) := b_3
        have hsp := inR_fB (K := 1027) b_3 (fB_mono fB_c0 (by decide)) (fB_lit (by decide +kernel))
        refine lv_if_eq (tgt := 31) hx hb dX6_current_22 (by decide) (fun c_22_4 => absurd c_22_4 (by decide)) (fun _ => ?_)
        refine lv_iload hx hb dX6_current_25 (lv_at hl 0 rfl) ?_
        refine lv_iconst (v := (-1 : Int32)) hx hb dX6_current_27 (by decide) ?_
        refine lv_icmp_ne (tgt := 33) hx hb dX6_current_28 (by decide) (fun _ => ?_) (fun c9 => absurd c9 (nI_m1 (by omega)))
        refine lv_iload hx hb dX6_current_33 (lv_at hl 0 rfl) ?_
        refine lv_bipush (v := nI 6) hx hb dX6_current_35 (by decide) ?_
        refine xia hx hb (e + 6) dX6_current_37 rfl ?_
        refine lv_bipush (v := nI 8) hx hb dX6_current_38 (by decide) ?_
        refine lv_irem hx hb dX6_current_40 (by decide) ?_
        refine lv_topi (fun t_6 et_6 => ?_)
        have et_6 : t_6 = nI ((e + 6) % 8) := et_6.trans (pk_rem (by omega) (by decide) (by decide))
        subst et_6
        refine lv_istore (lv' := [(8, .int (nI ((e + 6) % 8))), (7, .int (nI e)), (0, .ref (ad 0)), (1, .double (d)), (3, .double (sp_)), (5, .double (di))]) hx hb dX6_current_41 hl (by decide) rfl (fun ls hl => ?_)
        refine lv_aload_n hx hb dX6_current_43 rfl (lv_at hl 2 rfl) ?_
        refine va_get (D := D) (ci := 6) (v := .ref (ad 3)) (C := RX6) (T := TX6) (N := 6) hx hb hts iX6_current_X6 hown hK hP 0 rfl rfl 2 (by decide) f_26 (fun _ h9 => h9) rfl dX6_current_44 ?_
        refine lv_dload_n hx hb dX6_current_47 rfl (lv_at hl 3 rfl) ?_
        refine lv_dload_n hx hb dX6_current_48 rfl (lv_at hl 4 rfl) ?_
        refine lv_iload hx hb dX6_current_49 (lv_at hl 1 rfl) ?_
        refine g0d (va_runS (As := [.double (sp_), .int (nI e)]) (rest := [.double (d), .ref (ad 3)]) ⟨hx, hb, hml, hown, hts⟩ (kX6_partTowardsX l D H.size sp_ hsp e (by omega)) (va_cwS 2 hts gX6_current_X6_partTowardsX rfl rfl rfl (by decide +kernel) ⟨Nat.le_of_ble_eq_true rfl, Nat.le_of_ble_eq_true rfl⟩) (gPreS (eT_bl) w0_P (fun _ _ _ => trivial)) rfl rfl hl.1 rfl (lv_room (Nat.le_of_ble_eq_true rfl)) dX6_current_51 ⟨Nat.zero_le _, Nat.zero_le _⟩) hP hS (fun r_ H locs hw hP hS => ?_)
        obtain ⟨v_7, ev_7⟩ : ∃ z, z = r_ := ⟨r_, rfl⟩
        rw [← ev_7] at hw ⊢
        clear ev_7
        have ev_7 : v_7 = dX sp_ e := hw
        refine lv_dload_n hx hb dX6_current_54 rfl (lv_at hl 4 rfl) ?_
        refine lv_iload hx hb dX6_current_55 (lv_at hl 0 rfl) ?_
        refine g0d (va_runS (As := [.double (sp_), .int (nI ((e + 6) % 8))]) (rest := [.double (v_7), .double (d), .ref (ad 3)]) ⟨hx, hb, hml, hown, hts⟩ (kX6_partTowardsX l D H.size sp_ hsp ((e + 6) % 8) (by omega)) (va_cwS 2 hts gX6_current_X6_partTowardsX rfl rfl rfl (by decide +kernel) ⟨Nat.le_of_ble_eq_true rfl, Nat.le_of_ble_eq_true rfl⟩) (gPreS (eT_bl) w0_P (fun _ _ _ => trivial)) rfl rfl hl.1 rfl (lv_room (Nat.le_of_ble_eq_true rfl)) dX6_current_57 ⟨Nat.zero_le _, Nat.zero_le _⟩) hP hS (fun r_ H locs hw hP hS => ?_)
        obtain ⟨v_8, ev_8⟩ : ∃ z, z = r_ := ⟨r_, rfl⟩
        rw [← ev_8] at hw ⊢
        clear ev_8
        have ev_8 : v_8 = dX sp_ ((e + 6) % 8) := hw
        refine gci (va_runV (As := [.double (d), .double (v_7), .double (v_8)]) (rest := []) ⟨hx, hb, hml, hown, hts⟩ (kX5_tell l D cs ad hd H.size (((nN, px, py, pz, fx, fy, fz, lf, ld, fi), (nB, fr, tt, ln, wi, sg, pu), (nR, rd, rx, ry, wv, fo), (re, dg), (nP, tp, bt, dp)), (sp, ac, kp, kc, kn, aw, dw, su, ss, sd)) hnR hso d v_7 v_8) (cwV 3 hts gX6_current_X5_tell rfl rfl rfl (by decide +kernel) ⟨Nat.le_of_ble_eq_true rfl, Nat.le_of_ble_eq_true rfl⟩) (gPreV (EX_bl) (va_recv hK hP (ci := 5) (q0 := 3) rfl rfl) hP (fun U _ hW => EX_warm hW hE)) rfl rfl hl.1 rfl (lv_room (Nat.le_of_ble_eq_true rfl)) dX6_current_60 ⟨Nat.zero_le _, Nat.zero_le _⟩) hS (fun r_ u_ H locs hw hP hS => ?_)
        obtain ⟨a, hA, hw⟩ := hw
        rcases hw with ⟨h1, rfl, rfl⟩ | ⟨h1, h2, rfl, rfl⟩ | ⟨h1, h2, rfl, rfl⟩
        · skip
          exact hret hS hP dX6_current_63 (Or.inr rfl) (⟨Or.inl ⟨e, a, he, b_1, b_3, hdir, hA, Or.inl ⟨h1, rfl, by rw [ev_7, ev_8]⟩⟩, rfl⟩)
        · skip
          exact hret hS hP dX6_current_63 (Or.inr rfl) (⟨Or.inl ⟨e, a, he, b_1, b_3, hdir, hA, Or.inr (Or.inl ⟨h1, h2, rfl, by rw [ev_7, ev_8]⟩)⟩, rfl⟩)
        · skip
          exact hret hS hP dX6_current_63 (Or.inl rfl) (⟨Or.inl ⟨e, a, he, b_1, b_3, hdir, hA, Or.inr (Or.inr ⟨h1, h2, rfl, rfl⟩)⟩, rfl⟩)
      · skip
        have b_3 : ¬ (inR (sp_) (FP.dconst0) (4621819117588971520)) := b_3
        refine lv_if_eq (tgt := 31) hx hb dX6_current_22 (by decide) (fun _ => ?_) (fun c_22_9 => absurd c_22_9 (by decide))
        refine lv_iconst (v := nI 0) hx hb dX6_current_31 (by decide) ?_
        exact hret hS hP dX6_current_32 (Or.inl rfl) (⟨Or.inr ⟨fun q => absurd q.2.1 b_3, rfl, rfl⟩, rfl⟩)
    · skip
      have b_1 : ¬ (inR (d) 13875379345695965184 4652007308841189376) := b_1
      refine lv_if_eq (tgt := 31) hx hb dX6_current_11 (by decide) (fun _ => ?_) (fun c_11_10 => absurd c_11_10 (by decide))
      refine lv_iconst (v := nI 0) hx hb dX6_current_31 (by decide) ?_
      exact hret hS hP dX6_current_32 (Or.inl rfl) (⟨Or.inr ⟨fun q => absurd q.1 b_1, rfl, rfl⟩, rfl⟩)
  · skip
    refine lv_istore (lv' := [(7, .int ((-1 : Int32))), (0, .ref (ad 0)), (1, .double (d)), (3, .double (sp_)), (5, .double (di))]) hx hb dX6_current_5 hl (by decide) rfl (fun ls hl => ?_)
    refine lv_dload_n hx hb dX6_current_7 rfl (lv_at hl 2 rfl) ?_
    refine g0i (va_runS (As := [.double (d)]) (rest := []) ⟨hx, hb, hml, hown, hts⟩ (kX6_isPlace l D H.size d) (va_cwS 1 hts gX6_current_X6_isPlace rfl rfl rfl (by decide +kernel) ⟨Nat.le_of_ble_eq_true rfl, Nat.le_of_ble_eq_true rfl⟩) (gPreS (eT_bl) w0_P (fun _ _ _ => trivial)) rfl rfl hl.1 rfl (lv_room (Nat.le_of_ble_eq_true rfl)) dX6_current_8 ⟨Nat.zero_le _, Nat.zero_le _⟩) hP hS (fun r_ H locs hw hP hS => ?_)
    rcases hw with ⟨rfl, b_11⟩ | ⟨rfl, b_11⟩
    · skip
      have b_11 : inR (d) 13875379345695965184 4652007308841189376 := b_11
      refine lv_if_eq (tgt := 31) hx hb dX6_current_11 (by decide) (fun c_11_12 => absurd c_11_12 (by decide)) (fun _ => ?_)
      refine lv_dload_n hx hb dX6_current_14 rfl (lv_at hl 3 rfl) ?_
      refine lv_dconst0 hx hb dX6_current_15 ?_
      refine lv_ldc2d hx hb hown c_78 dX6_current_16 ?_
      refine g0i (va_runS (As := [.double (sp_), .double (FP.dconst0), .double (4621819117588971520)]) (rest := []) ⟨hx, hb, hml, hown, hts⟩ (kX6_within l D H.size sp_ FP.dconst0 4621819117588971520) (va_cwS 3 hts gX6_current_X6_within rfl rfl rfl (by decide +kernel) ⟨Nat.le_of_ble_eq_true rfl, Nat.le_of_ble_eq_true rfl⟩) (gPreS (eT_bl) w0_P (fun _ _ _ => trivial)) rfl rfl hl.1 rfl (lv_room (Nat.le_of_ble_eq_true rfl)) dX6_current_19 ⟨Nat.zero_le _, Nat.zero_le _⟩) hP hS (fun r_ H locs hw hP hS => ?_)
      rcases hw with ⟨rfl, b_13⟩ | ⟨rfl, b_13⟩
      · skip
        have b_13 : inR (sp_) (FP.dconst0) (4621819117588971520) := b_13
        have hsp := inR_fB (K := 1027) b_13 (fB_mono fB_c0 (by decide)) (fB_lit (by decide +kernel))
        refine lv_if_eq (tgt := 31) hx hb dX6_current_22 (by decide) (fun c_22_14 => absurd c_22_14 (by decide)) (fun _ => ?_)
        refine lv_iload hx hb dX6_current_25 (lv_at hl 0 rfl) ?_
        refine lv_iconst (v := (-1 : Int32)) hx hb dX6_current_27 (by decide) ?_
        refine lv_icmp_ne (tgt := 33) hx hb dX6_current_28 (by decide) (fun c_28_15 => absurd c_28_15 (by decide)) (fun _ => ?_)
        refine lv_iconst (v := nI 0) hx hb dX6_current_31 (by decide) ?_
        exact hret hS hP dX6_current_32 (Or.inl rfl) (⟨Or.inr ⟨fun ⟨_, _, e, he, q⟩ => hnd e he q, rfl, rfl⟩, rfl⟩)
      · skip
        have b_13 : ¬ (inR (sp_) (FP.dconst0) (4621819117588971520)) := b_13
        refine lv_if_eq (tgt := 31) hx hb dX6_current_22 (by decide) (fun _ => ?_) (fun c_22_16 => absurd c_22_16 (by decide))
        refine lv_iconst (v := nI 0) hx hb dX6_current_31 (by decide) ?_
        exact hret hS hP dX6_current_32 (Or.inl rfl) (⟨Or.inr ⟨fun q => absurd q.2.1 b_13, rfl, rfl⟩, rfl⟩)
    · skip
      have b_11 : ¬ (inR (d) 13875379345695965184 4652007308841189376) := b_11
      refine lv_if_eq (tgt := 31) hx hb dX6_current_11 (by decide) (fun _ => ?_) (fun c_11_17 => absurd c_11_17 (by decide))
      refine lv_iconst (v := nI 0) hx hb dX6_current_31 (by decide) ?_
      exact hret hS hP dX6_current_32 (Or.inl rfl) (⟨Or.inr ⟨fun q => absurd q.1 b_11, rfl, rfl⟩, rfl⟩)
theorem iX7_current_X7 : ∀ w ∈ u_ws RX7 TX7 31, w ∈ wsX7_current := by decide +kernel
set_option maxHeartbeats 4000000 in
set_option maxRecDepth 100000 in
theorem kX7_current (l : Launch) (D : va_G) (cs : Nat → ClassId) (ad : Nat → Nat) (hd : distM ad) (sz : Nat) (S : MS) (hnR : S.1.2.2.1.1 ≤ 10) (d sp_ : UInt64) (nd : Int32) : Met l yX7_current wsX7_current ({ frames := 1, cells := 0, slots := 0, locals := 25 } : Room) (gP D (WM cs ad) (EM D cs) S sz ([.ref (ad 0), .double (d), .double (sp_), .double (e8 nd)] : List Value)) (va_Qi (fun r u => q_current S.1 d sp_ (e8 nd) r u.1 ∧ u.2 = S.2) (gB D (WM cs ad)) (gA (AM ad) sz)) 0 0 (gA (AM ad) sz) := by
  obtain ⟨⟨⟨nN, px, py, pz, fx, fy, fz, lf, ld, fi⟩, ⟨nB, fr, tt, ln, wi, sg, pu⟩, ⟨nR, rd, rx, ry, wv, fo⟩, ⟨re, dg⟩, ⟨nP, tp, bt, dp⟩⟩, ⟨nQ, fu⟩⟩ := S
  have hnR : nR ≤ 10 := hnR
  refine gMz (cc := cX7_current) (maxL := 11) (plainFor_of_name (by decide)) rfl (Nat.le_of_ble_eq_true rfl) ?_
  intro p e s m below meth c Q hx hb hts hown hml hsz hE hret H locs hP hS ls hl
  subst hsz
  have hown : s.vm.findClass RX7 = some m.cls := hown
  have hK : va_K D vwCl (tysX cs) s := hE.1
  have hD : ∀ u, va_D (gA (AM ad) s.heap.size) (WM cs ad u) := fun u => WM_D hd u
  have hl : lv_has ls 11 [(0, .ref (ad 0)), (1, .double (d)), (3, .double (sp_)), (5, .double (e8 nd))] := hl
  have c_93 := hts (.constantDouble RX7 93 13875379345695965184) (by decide +kernel)
  have c_95 := hts (.constantDouble RX7 95 4652007308841189376) (by decide +kernel)
  have c_110 := hts (.constantDouble RX7 110 4621819117588971520) (by decide +kernel)
  have c_135 := hts (.constantDouble RX7 135 4631530004285489152) (by decide +kernel)
  have c_137 := hts (.constantDouble RX7 137 4644249154795601920) (by decide +kernel)
  have c_139 := hts (.constantDouble RX7 139 4604544271217802189) (by decide +kernel)
  have f_57 := hts (.fieldLink RX7 57 "NetShapesModel" "rowDepth" "[D") (by decide +kernel)
  have f_60 := hts (.fieldLink RX7 60 "NetShapesModel" "rowX" "[D") (by decide +kernel)
  have f_63 := hts (.fieldLink RX7 63 "NetShapesModel" "rowY" "[D") (by decide +kernel)
  have f_132 := hts (.fieldLink RX7 132 "NetShapesModel" "rows" "I") (by decide +kernel)
  refine lv_dload hx hb dX7_current_0 (lv_at hl 3 rfl) ?_
  refine lv_ldc2d hx hb hown c_135 dX7_current_2 ?_
  have h_2 : fB (1051) (FP.ddiv (e8 nd) (4631530004285489152)) := fB_div (e8_fB nd) (fL_lit (K := 1028) (a := 4631530004285489152) (by decide +kernel)) (fB_mono (fB_lit (K := 1029) (a := 4631530004285489152) (by decide +kernel)) (by omega)) (by omega) (by omega) (by omega)
  refine lv_ddiv hx hb dX7_current_5 (fB_ne h_2 (by omega)) ?_
  refine lv_d2i hx hb dX7_current_6 ?_
  refine lv_istore (lv' := [(7, .int (FP.d2i (FP.ddiv (e8 nd) (4631530004285489152)))), (0, .ref (ad 0)), (1, .double (d)), (3, .double (sp_)), (5, .double (e8 nd))]) hx hb dX7_current_7 hl (by decide) rfl (fun ls hl => ?_)
  refine lv_dload_n hx hb dX7_current_9 rfl (lv_at hl 2 rfl) ?_
  refine lv_ldc2d hx hb hown c_93 dX7_current_10 ?_
  refine lv_ldc2d hx hb hown c_95 dX7_current_13 ?_
  refine g0i (va_runS (As := [.double (d), .double (13875379345695965184), .double (4652007308841189376)]) (rest := []) ⟨hx, hb, hml, hown, hts⟩ (kX7_isIn l D H.size d 13875379345695965184 4652007308841189376) (va_cwS 3 hts gX7_current_X7_isIn rfl rfl rfl (by decide +kernel) ⟨Nat.le_of_ble_eq_true rfl, Nat.le_of_ble_eq_true rfl⟩) (gPreS (eT_bl) w0_P (fun _ _ _ => trivial)) rfl rfl hl.1 rfl (lv_room (Nat.le_of_ble_eq_true rfl)) dX7_current_16 ⟨Nat.zero_le _, Nat.zero_le _⟩) hP hS (fun r_ H locs hw hP hS => ?_)
  rcases hw with ⟨rfl, b_3⟩ | ⟨rfl, b_3⟩
  · skip
    have b_3 : inR (d) (13875379345695965184) (4652007308841189376) := b_3
    refine lv_if_eq (tgt := 58) hx hb dX7_current_19 (by decide) (fun c_19_4 => absurd c_19_4 (by decide)) (fun _ => ?_)
    refine lv_dload_n hx hb dX7_current_22 rfl (lv_at hl 3 rfl) ?_
    refine lv_dconst0 hx hb dX7_current_23 ?_
    refine lv_ldc2d hx hb hown c_110 dX7_current_24 ?_
    refine g0i (va_runS (As := [.double (sp_), .double (FP.dconst0), .double (4621819117588971520)]) (rest := []) ⟨hx, hb, hml, hown, hts⟩ (kX7_isIn l D H.size sp_ FP.dconst0 4621819117588971520) (va_cwS 3 hts gX7_current_X7_isIn rfl rfl rfl (by decide +kernel) ⟨Nat.le_of_ble_eq_true rfl, Nat.le_of_ble_eq_true rfl⟩) (gPreS (eT_bl) w0_P (fun _ _ _ => trivial)) rfl rfl hl.1 rfl (lv_room (Nat.le_of_ble_eq_true rfl)) dX7_current_27 ⟨Nat.zero_le _, Nat.zero_le _⟩) hP hS (fun r_ H locs hw hP hS => ?_)
    rcases hw with ⟨rfl, b_5⟩ | ⟨rfl, b_5⟩
    · skip
      have b_5 : inR (sp_) (FP.dconst0) (4621819117588971520) := b_5
      refine lv_if_eq (tgt := 58) hx hb dX7_current_30 (by decide) (fun c_30_6 => absurd c_30_6 (by decide)) (fun _ => ?_)
      refine lv_dload hx hb dX7_current_33 (lv_at hl 4 rfl) ?_
      refine lv_dconst0 hx hb dX7_current_35 ?_
      refine lv_ldc2d hx hb hown c_137 dX7_current_36 ?_
      refine g0i (va_runS (As := [.double (e8 nd), .double (FP.dconst0), .double (4644249154795601920)]) (rest := []) ⟨hx, hb, hml, hown, hts⟩ (kX7_isIn l D H.size (e8 nd) FP.dconst0 4644249154795601920) (va_cwS 3 hts gX7_current_X7_isIn rfl rfl rfl (by decide +kernel) ⟨Nat.le_of_ble_eq_true rfl, Nat.le_of_ble_eq_true rfl⟩) (gPreS (eT_bl) w0_P (fun _ _ _ => trivial)) rfl rfl hl.1 rfl (lv_room (Nat.le_of_ble_eq_true rfl)) dX7_current_39 ⟨Nat.zero_le _, Nat.zero_le _⟩) hP hS (fun r_ H locs hw hP hS => ?_)
      rcases hw with ⟨rfl, b_7⟩ | ⟨rfl, b_7⟩
      · skip
        have b_7 : inR (e8 nd) (FP.dconst0) (4644249154795601920) := b_7
        refine lv_if_eq (tgt := 58) hx hb dX7_current_42 (by decide) (fun c_42_8 => absurd c_42_8 (by decide)) (fun _ => ?_)
        refine lv_iload hx hb dX7_current_45 (lv_at hl 0 rfl) ?_
        refine lv_i2d hx hb dX7_current_47 ?_
        refine lv_ldc2d hx hb hown c_135 dX7_current_48 ?_
        have h_10 : fB (1063) (FP.dmul (FP.i2d (FP.d2i (FP.ddiv (e8 nd) (4631530004285489152)))) (4631530004285489152)) := fB_mul (fB_i2d (FP.d2i (FP.ddiv (e8 nd) (4631530004285489152)))) (fB_lit (K := 1029) (a := 4631530004285489152) (by decide +kernel)) (by omega) (by omega) (by omega)
        refine lv_dmul hx hb dX7_current_51 (fB_ne h_10 (by omega)) ?_
        refine lv_dload hx hb dX7_current_52 (lv_at hl 4 rfl) ?_
        refine xc_lne (tgt := 60) hx hb dX7_current_54 dX7_current_55 (by decide) (fun c_54_11 => ?_) (fun c_54_11 => ?_)
        · skip
          obtain ⟨ei, he, ee, hdir⟩ := dir_yes b_7 c_54_11
          rw [ee] at hl
          have hsp := inR_fB (K := 1027) b_5 (fB_mono fB_c0 (by decide)) (fB_lit (by decide +kernel))
          refine lv_iconst (v := nI 0) hx hb dX7_current_60 (by decide) ?_
          refine lv_istore (lv' := [(8, .int (nI 0)), (7, .int (nI ei)), (0, .ref (ad 0)), (1, .double (d)), (3, .double (sp_)), (5, .double (e8 nd))]) hx hb dX7_current_61 hl (by decide) rfl (fun ls hl => ?_)
          have L_63_12 : ∀ (n_63 a : Nat) , (nR + 1 ≤ a + n_63) → (a ≤ nR) → (∀ k, k < a → dlt (rd k) d) → ∀ (H : Heap) (locs : List Loc), va_P D vwCl (WM cs ad (((nN, px, py, pz, fx, fy, fz, lf, ld, fi), (nB, fr, tt, ln, wi, sg, pu), (nR, rd, rx, ry, wv, fo), (re, dg), (nP, tp, bt, dp)), (nQ, fu))) H → va_S (gA (AM ad) s.heap.size) s.heap H locs → ∀ (ls : Array Slot), lv_has ls 11 [(8, .int (nI a)), (7, .int (nI ei)), (0, .ref (ad 0)), (1, .double (d)), (3, .double (sp_)), (5, .double (e8 nd))] → W p l e ({ frames := 1, cells := 0, slots := 0, locals := 25 } : Room) s m ([.ref (ad 0), .double (d), .double (sp_), .double (e8 nd)] : List Value).toArray below meth c H locs 0 0 Q (F0 m 63 ls []) := by
            intro n_63; induction n_63 with
            | zero => intro a hf_63 ha hlt H locs hP hS ls hl; exact absurd hf_63 (by omega)
            | succ n_63 ih_63 =>
              intro a hf_63 ha hlt H locs hP hS ls hl
              refine lv_iload hx hb dX7_current_63 (lv_at hl 0 rfl) ?_
              refine lv_aload_n hx hb dX7_current_65 rfl (lv_at hl 2 rfl) ?_
              refine va_get (D := D) (ci := 7) (v := .int (nI nR)) (C := RX7) (T := TX7) (N := 31) hx hb hts iX7_current_X7 hown hK hP 0 rfl rfl 17 (by decide) f_132 (fun _ h9 => h9) rfl dX7_current_66 ?_
              refine lv_icmp_ge (tgt := 90) hx hb dX7_current_69 (by decide) (fun c_69_13 => ?_) (fun c_69_13 => ?_)
              · skip
                have c_69_13 : nR ≤ a := (nI_leI (a := nR) (b := a) (by omega) (by omega)).mp c_69_13
                have hA : isA rd d nR a := ⟨by omega, hlt, fun q => absurd q (by omega)⟩
                refine lv_iload hx hb dX7_current_90 (lv_at hl 0 rfl) ?_
                refine lv_aload_n hx hb dX7_current_92 rfl (lv_at hl 2 rfl) ?_
                refine va_get (D := D) (ci := 7) (v := .int (nI nR)) (C := RX7) (T := TX7) (N := 31) hx hb hts iX7_current_X7 hown hK hP 0 rfl rfl 17 (by decide) f_132 (fun _ h9 => h9) rfl dX7_current_93 ?_
                refine lv_icmp_eq (tgt := 111) hx hb dX7_current_96 (by decide) (fun c_96_14 => ?_) (fun c_96_14 => ?_)
                · skip
                  have c_96_14 : a = nR := (nI_eq (a := a) (b := nR) (by omega) (by omega)).mp c_96_14
                  refine lv_aload_n hx hb dX7_current_111 rfl (lv_at hl 2 rfl) ?_
                  refine va_get (D := D) (ci := 7) (v := .int (nI nR)) (C := RX7) (T := TX7) (N := 31) hx hb hts iX7_current_X7 hown hK hP 0 rfl rfl 17 (by decide) f_132 (fun _ h9 => h9) rfl dX7_current_112 ?_
                  refine lv_bipush (v := nI 10) hx hb dX7_current_115 (by decide) ?_
                  refine lv_icmp_ne (tgt := 122) hx hb dX7_current_117 (by decide) (fun c_117_15 => ?_) (fun c_117_15 => ?_)
                  · skip
                    have c_117_15 : ¬ (nR = 10) := fun q => c_117_15 ((nI_eq (a := nR) (b := 10) (by omega) (by omega)).mpr q)
                    refine lv_aload_n hx hb dX7_current_122 rfl (lv_at hl 2 rfl) ?_
                    refine va_get (D := D) (ci := 7) (v := .int (nI nR)) (C := RX7) (T := TX7) (N := 31) hx hb hts iX7_current_X7 hown hK hP 0 rfl rfl 17 (by decide) f_132 (fun _ h9 => h9) rfl dX7_current_123 ?_
                    refine lv_istore (lv' := [(9, .int (nI nR)), (8, .int (nI a)), (7, .int (nI ei)), (0, .ref (ad 0)), (1, .double (d)), (3, .double (sp_)), (5, .double (e8 nd))]) hx hb dX7_current_126 hl (by decide) rfl (fun ls hl => ?_)
                    have L_128_16 : ∀ (n_128 t : Nat) , (nR + 1 ≤ t + n_128) → (a + t ≤ nR) → ∀ (H : Heap) (locs : List Loc), va_P D vwCl (WM cs ad (((nN, px, py, pz, fx, fy, fz, lf, ld, fi), (nB, fr, tt, ln, wi, sg, pu), (nR, (shf rd nR t), (shf rx nR t), (shf ry nR t), wv, fo), (re, dg), (nP, tp, bt, dp)), (nQ, fu))) H → va_S (gA (AM ad) s.heap.size) s.heap H locs → ∀ (ls : Array Slot), lv_has ls 11 [(9, .int (nI (nR - t))), (8, .int (nI a)), (7, .int (nI ei)), (0, .ref (ad 0)), (1, .double (d)), (3, .double (sp_)), (5, .double (e8 nd))] → W p l e ({ frames := 1, cells := 0, slots := 0, locals := 25 } : Room) s m ([.ref (ad 0), .double (d), .double (sp_), .double (e8 nd)] : List Value).toArray below meth c H locs 0 0 Q (F0 m 128 ls []) := by
                      intro n_128; induction n_128 with
                      | zero => intro t hf_128 ht H locs hP hS ls hl; exact absurd hf_128 (by omega)
                      | succ n_128 ih_128 =>
                        intro t hf_128 ht H locs hP hS ls hl
                        refine lv_iload hx hb dX7_current_128 (lv_at hl 0 rfl) ?_
                        refine lv_iload hx hb dX7_current_130 (lv_at hl 1 rfl) ?_
                        refine lv_icmp_le (tgt := 189) hx hb dX7_current_132 (by decide) (fun c_132_17 => ?_) (fun c_132_17 => ?_)
                        · skip
                          have c_132_17 : nR - t ≤ a := (nI_leI (a := nR - t) (b := a) (by omega) (by omega)).mp c_132_17
                          have et : t = nR - a := by omega
                          subst et
                          refine lv_aload_n hx hb dX7_current_189 rfl (lv_at hl 3 rfl) ?_
                          refine lv_dup hx hb dX7_current_190 rfl ?_
                          refine va_get (D := D) (ci := 7) (v := .int (nI nR)) (C := RX7) (T := TX7) (N := 31) hx hb hts iX7_current_X7 hown hK hP 0 rfl rfl 17 (by decide) f_132 (fun _ h9 => h9) rfl dX7_current_191 ?_
                          refine lv_iconst (v := nI 1) hx hb dX7_current_194 (by decide) ?_
                          refine xia hx hb (nR + 1) dX7_current_195 rfl ?_
                          refine xput (D := D) (ci := 7) (v := .int (nI (nR + 1))) (ty := .int) (C := RX7) (T := TX7) (N := 31) hx hb hts iX7_current_X7 tyX7 tyX7_ok nmX7 hown hK hD hP hS 0 (((nN, px, py, pz, fx, fy, fz, lf, ld, fi), (nB, fr, tt, ln, wi, sg, pu), ((nR + 1), (shf rd nR (nR - a)), (shf rx nR (nR - a)), (shf ry nR (nR - a)), wv, fo), (re, dg), (nP, tp, bt, dp)), (nQ, fu)) rfl rfl 17 (by decide) f_132 (fun _ h9 => h9) rfl (by decide +kernel) rfl rfl (Nat.le_of_ble_eq_true rfl) rfl dX7_current_196 (fun H locs hP hS => ?_)
                          rcases (show ei = 0 ∨ ei = 1 ∨ ei = 2 ∨ ei = 3 ∨ ei = 4 ∨ ei = 5 ∨ ei = 6 ∨ ei = 7 by omega) with rfl | rfl | rfl | rfl | rfl | rfl | rfl | rfl
                          · skip
                            refine lv_dload_n hx hb dX7_current_199 rfl (lv_at hl 5 rfl) ?_
                            refine lv_ldc2d hx hb hown c_139 dX7_current_200 ?_
                            have h_19 : fB (1028) (FP.dmul (sp_) (4604544271217802189)) := fB_mul hsp (fB_lit (K := 1023) (a := 4604544271217802189) (by decide +kernel)) (by omega) (by omega) (by omega)
                            refine lv_dmul hx hb dX7_current_203 (fB_ne h_19 (by omega)) ?_
                            refine lv_dstore (lv' := [(9, .double (FP.dmul (sp_) (4604544271217802189))), (8, .int (nI a)), (7, .int (nI 0)), (0, .ref (ad 0)), (1, .double (d)), (3, .double (sp_)), (5, .double (e8 nd))]) hx hb dX7_current_204 hl (by decide) rfl (fun ls hl => ?_)
                            refine lv_aload_n hx hb dX7_current_206 rfl (lv_at hl 3 rfl) ?_
                            refine va_get (D := D) (ci := 7) (v := .ref (ad 16)) (C := RX7) (T := TX7) (N := 31) hx hb hts iX7_current_X7 hown hK hP 0 rfl rfl 18 (by decide) f_57 (fun _ h9 => h9) rfl dX7_current_207 ?_
                            refine lv_iload hx hb dX7_current_210 (lv_at hl 1 rfl) ?_
                            refine lv_dload_n hx hb dX7_current_212 rfl (lv_at hl 4 rfl) ?_
                            refine xds hx hb hK hD hP hS 16 0 (((nN, px, py, pz, fx, fy, fz, lf, ld, fi), (nB, fr, tt, ln, wi, sg, pu), ((nR + 1), (vf_upd (shf rd nR (nR - a)) a d), (shf rx nR (nR - a)), (shf ry nR (nR - a)), wv, fo), (re, dg), (nP, tp, bt, dp)), (nQ, fu)) rfl rfl (j := a) (by decide) (by omega) rfl dX7_current_213 (fun H locs hP hS => ?_)
                            refine lv_aload_n hx hb dX7_current_214 rfl (lv_at hl 3 rfl) ?_
                            refine va_get (D := D) (ci := 7) (v := .ref (ad 17)) (C := RX7) (T := TX7) (N := 31) hx hb hts iX7_current_X7 hown hK hP 0 rfl rfl 19 (by decide) f_60 (fun _ h9 => h9) rfl dX7_current_215 ?_
                            refine lv_iload hx hb dX7_current_218 (lv_at hl 1 rfl) ?_
                            refine lv_iload hx hb dX7_current_220 (lv_at hl 2 rfl) ?_
                            refine lv_if_ne (tgt := 229) hx hb dX7_current_222 (by decide) (fun c_222_20 => absurd c_222_20 (by decide)) (fun _ => ?_)
                            refine lv_dload_n hx hb dX7_current_225 rfl (lv_at hl 5 rfl) ?_
                            refine lv_goto (tgt := 280) hx hb dX7_current_226 (by decide) ?_
                            refine xds hx hb hK hD hP hS 17 0 (((nN, px, py, pz, fx, fy, fz, lf, ld, fi), (nB, fr, tt, ln, wi, sg, pu), ((nR + 1), (vf_upd (shf rd nR (nR - a)) a d), (vf_upd (shf rx nR (nR - a)) a sp_), (shf ry nR (nR - a)), wv, fo), (re, dg), (nP, tp, bt, dp)), (nQ, fu)) rfl rfl (j := a) (by decide) (by omega) rfl dX7_current_280 (fun H locs hP hS => ?_)
                            refine lv_aload_n hx hb dX7_current_281 rfl (lv_at hl 3 rfl) ?_
                            refine va_get (D := D) (ci := 7) (v := .ref (ad 18)) (C := RX7) (T := TX7) (N := 31) hx hb hts iX7_current_X7 hown hK hP 0 rfl rfl 20 (by decide) f_63 (fun _ h9 => h9) rfl dX7_current_282 ?_
                            refine lv_iload hx hb dX7_current_285 (lv_at hl 1 rfl) ?_
                            refine lv_iload hx hb dX7_current_287 (lv_at hl 2 rfl) ?_
                            refine lv_iconst (v := nI 2) hx hb dX7_current_289 (by decide) ?_
                            refine lv_icmp_ne (tgt := 297) hx hb dX7_current_290 (by decide) (fun _ => ?_) (fun c_290_21 => absurd c_290_21 (by decide))
                            refine lv_iload hx hb dX7_current_297 (lv_at hl 2 rfl) ?_
                            refine lv_iconst (v := nI 1) hx hb dX7_current_299 (by decide) ?_
                            refine lv_icmp_eq (tgt := 309) hx hb dX7_current_300 (by decide) (fun c_300_22 => absurd c_300_22 (by decide)) (fun _ => ?_)
                            refine lv_iload hx hb dX7_current_303 (lv_at hl 2 rfl) ?_
                            refine lv_iconst (v := nI 3) hx hb dX7_current_305 (by decide) ?_
                            refine lv_icmp_ne (tgt := 314) hx hb dX7_current_306 (by decide) (fun _ => ?_) (fun c_306_23 => absurd c_306_23 (by decide))
                            refine lv_iload hx hb dX7_current_314 (lv_at hl 2 rfl) ?_
                            refine lv_if_eq (tgt := 325) hx hb dX7_current_316 (by decide) (fun _ => ?_) (fun c_316_24 => absurd c_316_24 (by decide))
                            refine lv_dconst0 hx hb dX7_current_325 ?_
                            refine lv_goto (tgt := 346) hx hb dX7_current_326 (by decide) ?_
                            refine xds hx hb hK hD hP hS 18 0 (((nN, px, py, pz, fx, fy, fz, lf, ld, fi), (nB, fr, tt, ln, wi, sg, pu), ((nR + 1), (vf_upd (shf rd nR (nR - a)) a d), (vf_upd (shf rx nR (nR - a)) a sp_), (vf_upd (shf ry nR (nR - a)) a FP.dconst0), wv, fo), (re, dg), (nP, tp, bt, dp)), (nQ, fu)) rfl rfl (j := a) (by decide) (by omega) rfl dX7_current_346 (fun H locs hP hS => ?_)
                            refine lv_iconst (v := nI 1) hx hb dX7_current_347 (by decide) ?_
                            exact hret hS hP dX7_current_348 (Or.inr rfl) (⟨Or.inl ⟨0, a, he, b_3, b_5, hdir, hA, Or.inr (Or.inl ⟨fun q => absurd q.1 (by omega), by omega, rfl, rfl⟩)⟩, rfl⟩)
                          · skip
                            refine lv_dload_n hx hb dX7_current_199 rfl (lv_at hl 5 rfl) ?_
                            refine lv_ldc2d hx hb hown c_139 dX7_current_200 ?_
                            have h_26 : fB (1028) (FP.dmul (sp_) (4604544271217802189)) := fB_mul hsp (fB_lit (K := 1023) (a := 4604544271217802189) (by decide +kernel)) (by omega) (by omega) (by omega)
                            refine lv_dmul hx hb dX7_current_203 (fB_ne h_26 (by omega)) ?_
                            refine lv_dstore (lv' := [(9, .double (FP.dmul (sp_) (4604544271217802189))), (8, .int (nI a)), (7, .int (nI 1)), (0, .ref (ad 0)), (1, .double (d)), (3, .double (sp_)), (5, .double (e8 nd))]) hx hb dX7_current_204 hl (by decide) rfl (fun ls hl => ?_)
                            refine lv_aload_n hx hb dX7_current_206 rfl (lv_at hl 3 rfl) ?_
                            refine va_get (D := D) (ci := 7) (v := .ref (ad 16)) (C := RX7) (T := TX7) (N := 31) hx hb hts iX7_current_X7 hown hK hP 0 rfl rfl 18 (by decide) f_57 (fun _ h9 => h9) rfl dX7_current_207 ?_
                            refine lv_iload hx hb dX7_current_210 (lv_at hl 1 rfl) ?_
                            refine lv_dload_n hx hb dX7_current_212 rfl (lv_at hl 4 rfl) ?_
                            refine xds hx hb hK hD hP hS 16 0 (((nN, px, py, pz, fx, fy, fz, lf, ld, fi), (nB, fr, tt, ln, wi, sg, pu), ((nR + 1), (vf_upd (shf rd nR (nR - a)) a d), (shf rx nR (nR - a)), (shf ry nR (nR - a)), wv, fo), (re, dg), (nP, tp, bt, dp)), (nQ, fu)) rfl rfl (j := a) (by decide) (by omega) rfl dX7_current_213 (fun H locs hP hS => ?_)
                            refine lv_aload_n hx hb dX7_current_214 rfl (lv_at hl 3 rfl) ?_
                            refine va_get (D := D) (ci := 7) (v := .ref (ad 17)) (C := RX7) (T := TX7) (N := 31) hx hb hts iX7_current_X7 hown hK hP 0 rfl rfl 19 (by decide) f_60 (fun _ h9 => h9) rfl dX7_current_215 ?_
                            refine lv_iload hx hb dX7_current_218 (lv_at hl 1 rfl) ?_
                            refine lv_iload hx hb dX7_current_220 (lv_at hl 2 rfl) ?_
                            refine lv_if_ne (tgt := 229) hx hb dX7_current_222 (by decide) (fun _ => ?_) (fun c_222_27 => absurd c_222_27 (by decide))
                            refine lv_iload hx hb dX7_current_229 (lv_at hl 2 rfl) ?_
                            refine lv_iconst (v := nI 1) hx hb dX7_current_231 (by decide) ?_
                            refine lv_icmp_eq (tgt := 242) hx hb dX7_current_232 (by decide) (fun _ => ?_) (fun c_232_28 => absurd c_232_28 (by decide))
                            refine lv_dload hx hb dX7_current_242 (lv_at hl 0 rfl) ?_
                            refine lv_goto (tgt := 280) hx hb dX7_current_244 (by decide) ?_
                            refine xds hx hb hK hD hP hS 17 0 (((nN, px, py, pz, fx, fy, fz, lf, ld, fi), (nB, fr, tt, ln, wi, sg, pu), ((nR + 1), (vf_upd (shf rd nR (nR - a)) a d), (vf_upd (shf rx nR (nR - a)) a (FP.dmul (sp_) (4604544271217802189))), (shf ry nR (nR - a)), wv, fo), (re, dg), (nP, tp, bt, dp)), (nQ, fu)) rfl rfl (j := a) (by decide) (by omega) rfl dX7_current_280 (fun H locs hP hS => ?_)
                            refine lv_aload_n hx hb dX7_current_281 rfl (lv_at hl 3 rfl) ?_
                            refine va_get (D := D) (ci := 7) (v := .ref (ad 18)) (C := RX7) (T := TX7) (N := 31) hx hb hts iX7_current_X7 hown hK hP 0 rfl rfl 20 (by decide) f_63 (fun _ h9 => h9) rfl dX7_current_282 ?_
                            refine lv_iload hx hb dX7_current_285 (lv_at hl 1 rfl) ?_
                            refine lv_iload hx hb dX7_current_287 (lv_at hl 2 rfl) ?_
                            refine lv_iconst (v := nI 2) hx hb dX7_current_289 (by decide) ?_
                            refine lv_icmp_ne (tgt := 297) hx hb dX7_current_290 (by decide) (fun _ => ?_) (fun c_290_29 => absurd c_290_29 (by decide))
                            refine lv_iload hx hb dX7_current_297 (lv_at hl 2 rfl) ?_
                            refine lv_iconst (v := nI 1) hx hb dX7_current_299 (by decide) ?_
                            refine lv_icmp_eq (tgt := 309) hx hb dX7_current_300 (by decide) (fun _ => ?_) (fun c_300_30 => absurd c_300_30 (by decide))
                            refine lv_dload hx hb dX7_current_309 (lv_at hl 0 rfl) ?_
                            refine lv_goto (tgt := 346) hx hb dX7_current_311 (by decide) ?_
                            refine xds hx hb hK hD hP hS 18 0 (((nN, px, py, pz, fx, fy, fz, lf, ld, fi), (nB, fr, tt, ln, wi, sg, pu), ((nR + 1), (vf_upd (shf rd nR (nR - a)) a d), (vf_upd (shf rx nR (nR - a)) a (FP.dmul (sp_) (4604544271217802189))), (vf_upd (shf ry nR (nR - a)) a (FP.dmul (sp_) (4604544271217802189))), wv, fo), (re, dg), (nP, tp, bt, dp)), (nQ, fu)) rfl rfl (j := a) (by decide) (by omega) rfl dX7_current_346 (fun H locs hP hS => ?_)
                            refine lv_iconst (v := nI 1) hx hb dX7_current_347 (by decide) ?_
                            exact hret hS hP dX7_current_348 (Or.inr rfl) (⟨Or.inl ⟨1, a, he, b_3, b_5, hdir, hA, Or.inr (Or.inl ⟨fun q => absurd q.1 (by omega), by omega, rfl, rfl⟩)⟩, rfl⟩)
                          · skip
                            refine lv_dload_n hx hb dX7_current_199 rfl (lv_at hl 5 rfl) ?_
                            refine lv_ldc2d hx hb hown c_139 dX7_current_200 ?_
                            have h_32 : fB (1028) (FP.dmul (sp_) (4604544271217802189)) := fB_mul hsp (fB_lit (K := 1023) (a := 4604544271217802189) (by decide +kernel)) (by omega) (by omega) (by omega)
                            refine lv_dmul hx hb dX7_current_203 (fB_ne h_32 (by omega)) ?_
                            refine lv_dstore (lv' := [(9, .double (FP.dmul (sp_) (4604544271217802189))), (8, .int (nI a)), (7, .int (nI 2)), (0, .ref (ad 0)), (1, .double (d)), (3, .double (sp_)), (5, .double (e8 nd))]) hx hb dX7_current_204 hl (by decide) rfl (fun ls hl => ?_)
                            refine lv_aload_n hx hb dX7_current_206 rfl (lv_at hl 3 rfl) ?_
                            refine va_get (D := D) (ci := 7) (v := .ref (ad 16)) (C := RX7) (T := TX7) (N := 31) hx hb hts iX7_current_X7 hown hK hP 0 rfl rfl 18 (by decide) f_57 (fun _ h9 => h9) rfl dX7_current_207 ?_
                            refine lv_iload hx hb dX7_current_210 (lv_at hl 1 rfl) ?_
                            refine lv_dload_n hx hb dX7_current_212 rfl (lv_at hl 4 rfl) ?_
                            refine xds hx hb hK hD hP hS 16 0 (((nN, px, py, pz, fx, fy, fz, lf, ld, fi), (nB, fr, tt, ln, wi, sg, pu), ((nR + 1), (vf_upd (shf rd nR (nR - a)) a d), (shf rx nR (nR - a)), (shf ry nR (nR - a)), wv, fo), (re, dg), (nP, tp, bt, dp)), (nQ, fu)) rfl rfl (j := a) (by decide) (by omega) rfl dX7_current_213 (fun H locs hP hS => ?_)
                            refine lv_aload_n hx hb dX7_current_214 rfl (lv_at hl 3 rfl) ?_
                            refine va_get (D := D) (ci := 7) (v := .ref (ad 17)) (C := RX7) (T := TX7) (N := 31) hx hb hts iX7_current_X7 hown hK hP 0 rfl rfl 19 (by decide) f_60 (fun _ h9 => h9) rfl dX7_current_215 ?_
                            refine lv_iload hx hb dX7_current_218 (lv_at hl 1 rfl) ?_
                            refine lv_iload hx hb dX7_current_220 (lv_at hl 2 rfl) ?_
                            refine lv_if_ne (tgt := 229) hx hb dX7_current_222 (by decide) (fun _ => ?_) (fun c_222_33 => absurd c_222_33 (by decide))
                            refine lv_iload hx hb dX7_current_229 (lv_at hl 2 rfl) ?_
                            refine lv_iconst (v := nI 1) hx hb dX7_current_231 (by decide) ?_
                            refine lv_icmp_eq (tgt := 242) hx hb dX7_current_232 (by decide) (fun c_232_34 => absurd c_232_34 (by decide)) (fun _ => ?_)
                            refine lv_iload hx hb dX7_current_235 (lv_at hl 2 rfl) ?_
                            refine lv_bipush (v := nI 7) hx hb dX7_current_237 (by decide) ?_
                            refine lv_icmp_ne (tgt := 247) hx hb dX7_current_239 (by decide) (fun _ => ?_) (fun c_239_35 => absurd c_239_35 (by decide))
                            refine lv_iload hx hb dX7_current_247 (lv_at hl 2 rfl) ?_
                            refine lv_iconst (v := nI 2) hx hb dX7_current_249 (by decide) ?_
                            refine lv_icmp_eq (tgt := 260) hx hb dX7_current_250 (by decide) (fun _ => ?_) (fun c_250_36 => absurd c_250_36 (by decide))
                            refine lv_dconst0 hx hb dX7_current_260 ?_
                            refine lv_goto (tgt := 280) hx hb dX7_current_261 (by decide) ?_
                            refine xds hx hb hK hD hP hS 17 0 (((nN, px, py, pz, fx, fy, fz, lf, ld, fi), (nB, fr, tt, ln, wi, sg, pu), ((nR + 1), (vf_upd (shf rd nR (nR - a)) a d), (vf_upd (shf rx nR (nR - a)) a FP.dconst0), (shf ry nR (nR - a)), wv, fo), (re, dg), (nP, tp, bt, dp)), (nQ, fu)) rfl rfl (j := a) (by decide) (by omega) rfl dX7_current_280 (fun H locs hP hS => ?_)
                            refine lv_aload_n hx hb dX7_current_281 rfl (lv_at hl 3 rfl) ?_
                            refine va_get (D := D) (ci := 7) (v := .ref (ad 18)) (C := RX7) (T := TX7) (N := 31) hx hb hts iX7_current_X7 hown hK hP 0 rfl rfl 20 (by decide) f_63 (fun _ h9 => h9) rfl dX7_current_282 ?_
                            refine lv_iload hx hb dX7_current_285 (lv_at hl 1 rfl) ?_
                            refine lv_iload hx hb dX7_current_287 (lv_at hl 2 rfl) ?_
                            refine lv_iconst (v := nI 2) hx hb dX7_current_289 (by decide) ?_
                            refine lv_icmp_ne (tgt := 297) hx hb dX7_current_290 (by decide) (fun c_290_37 => absurd c_290_37 (by decide)) (fun _ => ?_)
                            refine lv_dload_n hx hb dX7_current_293 rfl (lv_at hl 5 rfl) ?_
                            refine lv_goto (tgt := 346) hx hb dX7_current_294 (by decide) ?_
                            refine xds hx hb hK hD hP hS 18 0 (((nN, px, py, pz, fx, fy, fz, lf, ld, fi), (nB, fr, tt, ln, wi, sg, pu), ((nR + 1), (vf_upd (shf rd nR (nR - a)) a d), (vf_upd (shf rx nR (nR - a)) a FP.dconst0), (vf_upd (shf ry nR (nR - a)) a sp_), wv, fo), (re, dg), (nP, tp, bt, dp)), (nQ, fu)) rfl rfl (j := a) (by decide) (by omega) rfl dX7_current_346 (fun H locs hP hS => ?_)
                            refine lv_iconst (v := nI 1) hx hb dX7_current_347 (by decide) ?_
                            exact hret hS hP dX7_current_348 (Or.inr rfl) (⟨Or.inl ⟨2, a, he, b_3, b_5, hdir, hA, Or.inr (Or.inl ⟨fun q => absurd q.1 (by omega), by omega, rfl, rfl⟩)⟩, rfl⟩)
                          · skip
                            refine lv_dload_n hx hb dX7_current_199 rfl (lv_at hl 5 rfl) ?_
                            refine lv_ldc2d hx hb hown c_139 dX7_current_200 ?_
                            have h_39 : fB (1028) (FP.dmul (sp_) (4604544271217802189)) := fB_mul hsp (fB_lit (K := 1023) (a := 4604544271217802189) (by decide +kernel)) (by omega) (by omega) (by omega)
                            refine lv_dmul hx hb dX7_current_203 (fB_ne h_39 (by omega)) ?_
                            refine lv_dstore (lv' := [(9, .double (FP.dmul (sp_) (4604544271217802189))), (8, .int (nI a)), (7, .int (nI 3)), (0, .ref (ad 0)), (1, .double (d)), (3, .double (sp_)), (5, .double (e8 nd))]) hx hb dX7_current_204 hl (by decide) rfl (fun ls hl => ?_)
                            refine lv_aload_n hx hb dX7_current_206 rfl (lv_at hl 3 rfl) ?_
                            refine va_get (D := D) (ci := 7) (v := .ref (ad 16)) (C := RX7) (T := TX7) (N := 31) hx hb hts iX7_current_X7 hown hK hP 0 rfl rfl 18 (by decide) f_57 (fun _ h9 => h9) rfl dX7_current_207 ?_
                            refine lv_iload hx hb dX7_current_210 (lv_at hl 1 rfl) ?_
                            refine lv_dload_n hx hb dX7_current_212 rfl (lv_at hl 4 rfl) ?_
                            refine xds hx hb hK hD hP hS 16 0 (((nN, px, py, pz, fx, fy, fz, lf, ld, fi), (nB, fr, tt, ln, wi, sg, pu), ((nR + 1), (vf_upd (shf rd nR (nR - a)) a d), (shf rx nR (nR - a)), (shf ry nR (nR - a)), wv, fo), (re, dg), (nP, tp, bt, dp)), (nQ, fu)) rfl rfl (j := a) (by decide) (by omega) rfl dX7_current_213 (fun H locs hP hS => ?_)
                            refine lv_aload_n hx hb dX7_current_214 rfl (lv_at hl 3 rfl) ?_
                            refine va_get (D := D) (ci := 7) (v := .ref (ad 17)) (C := RX7) (T := TX7) (N := 31) hx hb hts iX7_current_X7 hown hK hP 0 rfl rfl 19 (by decide) f_60 (fun _ h9 => h9) rfl dX7_current_215 ?_
                            refine lv_iload hx hb dX7_current_218 (lv_at hl 1 rfl) ?_
                            refine lv_iload hx hb dX7_current_220 (lv_at hl 2 rfl) ?_
                            refine lv_if_ne (tgt := 229) hx hb dX7_current_222 (by decide) (fun _ => ?_) (fun c_222_40 => absurd c_222_40 (by decide))
                            refine lv_iload hx hb dX7_current_229 (lv_at hl 2 rfl) ?_
                            refine lv_iconst (v := nI 1) hx hb dX7_current_231 (by decide) ?_
                            refine lv_icmp_eq (tgt := 242) hx hb dX7_current_232 (by decide) (fun c_232_41 => absurd c_232_41 (by decide)) (fun _ => ?_)
                            refine lv_iload hx hb dX7_current_235 (lv_at hl 2 rfl) ?_
                            refine lv_bipush (v := nI 7) hx hb dX7_current_237 (by decide) ?_
                            refine lv_icmp_ne (tgt := 247) hx hb dX7_current_239 (by decide) (fun _ => ?_) (fun c_239_42 => absurd c_239_42 (by decide))
                            refine lv_iload hx hb dX7_current_247 (lv_at hl 2 rfl) ?_
                            refine lv_iconst (v := nI 2) hx hb dX7_current_249 (by decide) ?_
                            refine lv_icmp_eq (tgt := 260) hx hb dX7_current_250 (by decide) (fun c_250_43 => absurd c_250_43 (by decide)) (fun _ => ?_)
                            refine lv_iload hx hb dX7_current_253 (lv_at hl 2 rfl) ?_
                            refine lv_bipush (v := nI 6) hx hb dX7_current_255 (by decide) ?_
                            refine lv_icmp_ne (tgt := 264) hx hb dX7_current_257 (by decide) (fun _ => ?_) (fun c_257_44 => absurd c_257_44 (by decide))
                            refine lv_iload hx hb dX7_current_264 (lv_at hl 2 rfl) ?_
                            refine lv_iconst (v := nI 4) hx hb dX7_current_266 (by decide) ?_
                            refine lv_icmp_ne (tgt := 276) hx hb dX7_current_267 (by decide) (fun _ => ?_) (fun c_267_45 => absurd c_267_45 (by decide))
                            refine lv_dconst0 hx hb dX7_current_276 ?_
                            refine lv_dload hx hb dX7_current_277 (lv_at hl 0 rfl) ?_
                            have h_47 : fB (1030) (FP.dsub (FP.dconst0) (FP.dmul (sp_) (4604544271217802189))) := fB_sub (M := 1028) fB_c0 h_39 (by omega) (by omega) (by omega)
                            refine lv_dsub hx hb dX7_current_279 (fB_ne h_47 (by omega)) ?_
                            refine xds hx hb hK hD hP hS 17 0 (((nN, px, py, pz, fx, fy, fz, lf, ld, fi), (nB, fr, tt, ln, wi, sg, pu), ((nR + 1), (vf_upd (shf rd nR (nR - a)) a d), (vf_upd (shf rx nR (nR - a)) a (FP.dsub (FP.dconst0) (FP.dmul (sp_) (4604544271217802189)))), (shf ry nR (nR - a)), wv, fo), (re, dg), (nP, tp, bt, dp)), (nQ, fu)) rfl rfl (j := a) (by decide) (by omega) rfl dX7_current_280 (fun H locs hP hS => ?_)
                            refine lv_aload_n hx hb dX7_current_281 rfl (lv_at hl 3 rfl) ?_
                            refine va_get (D := D) (ci := 7) (v := .ref (ad 18)) (C := RX7) (T := TX7) (N := 31) hx hb hts iX7_current_X7 hown hK hP 0 rfl rfl 20 (by decide) f_63 (fun _ h9 => h9) rfl dX7_current_282 ?_
                            refine lv_iload hx hb dX7_current_285 (lv_at hl 1 rfl) ?_
                            refine lv_iload hx hb dX7_current_287 (lv_at hl 2 rfl) ?_
                            refine lv_iconst (v := nI 2) hx hb dX7_current_289 (by decide) ?_
                            refine lv_icmp_ne (tgt := 297) hx hb dX7_current_290 (by decide) (fun _ => ?_) (fun c_290_48 => absurd c_290_48 (by decide))
                            refine lv_iload hx hb dX7_current_297 (lv_at hl 2 rfl) ?_
                            refine lv_iconst (v := nI 1) hx hb dX7_current_299 (by decide) ?_
                            refine lv_icmp_eq (tgt := 309) hx hb dX7_current_300 (by decide) (fun c_300_49 => absurd c_300_49 (by decide)) (fun _ => ?_)
                            refine lv_iload hx hb dX7_current_303 (lv_at hl 2 rfl) ?_
                            refine lv_iconst (v := nI 3) hx hb dX7_current_305 (by decide) ?_
                            refine lv_icmp_ne (tgt := 314) hx hb dX7_current_306 (by decide) (fun c_306_50 => absurd c_306_50 (by decide)) (fun _ => ?_)
                            refine lv_dload hx hb dX7_current_309 (lv_at hl 0 rfl) ?_
                            refine lv_goto (tgt := 346) hx hb dX7_current_311 (by decide) ?_
                            refine xds hx hb hK hD hP hS 18 0 (((nN, px, py, pz, fx, fy, fz, lf, ld, fi), (nB, fr, tt, ln, wi, sg, pu), ((nR + 1), (vf_upd (shf rd nR (nR - a)) a d), (vf_upd (shf rx nR (nR - a)) a (FP.dsub (FP.dconst0) (FP.dmul (sp_) (4604544271217802189)))), (vf_upd (shf ry nR (nR - a)) a (FP.dmul (sp_) (4604544271217802189))), wv, fo), (re, dg), (nP, tp, bt, dp)), (nQ, fu)) rfl rfl (j := a) (by decide) (by omega) rfl dX7_current_346 (fun H locs hP hS => ?_)
                            refine lv_iconst (v := nI 1) hx hb dX7_current_347 (by decide) ?_
                            exact hret hS hP dX7_current_348 (Or.inr rfl) (⟨Or.inl ⟨3, a, he, b_3, b_5, hdir, hA, Or.inr (Or.inl ⟨fun q => absurd q.1 (by omega), by omega, rfl, rfl⟩)⟩, rfl⟩)
                          · skip
                            refine lv_dload_n hx hb dX7_current_199 rfl (lv_at hl 5 rfl) ?_
                            refine lv_ldc2d hx hb hown c_139 dX7_current_200 ?_
                            have h_52 : fB (1028) (FP.dmul (sp_) (4604544271217802189)) := fB_mul hsp (fB_lit (K := 1023) (a := 4604544271217802189) (by decide +kernel)) (by omega) (by omega) (by omega)
                            refine lv_dmul hx hb dX7_current_203 (fB_ne h_52 (by omega)) ?_
                            refine lv_dstore (lv' := [(9, .double (FP.dmul (sp_) (4604544271217802189))), (8, .int (nI a)), (7, .int (nI 4)), (0, .ref (ad 0)), (1, .double (d)), (3, .double (sp_)), (5, .double (e8 nd))]) hx hb dX7_current_204 hl (by decide) rfl (fun ls hl => ?_)
                            refine lv_aload_n hx hb dX7_current_206 rfl (lv_at hl 3 rfl) ?_
                            refine va_get (D := D) (ci := 7) (v := .ref (ad 16)) (C := RX7) (T := TX7) (N := 31) hx hb hts iX7_current_X7 hown hK hP 0 rfl rfl 18 (by decide) f_57 (fun _ h9 => h9) rfl dX7_current_207 ?_
                            refine lv_iload hx hb dX7_current_210 (lv_at hl 1 rfl) ?_
                            refine lv_dload_n hx hb dX7_current_212 rfl (lv_at hl 4 rfl) ?_
                            refine xds hx hb hK hD hP hS 16 0 (((nN, px, py, pz, fx, fy, fz, lf, ld, fi), (nB, fr, tt, ln, wi, sg, pu), ((nR + 1), (vf_upd (shf rd nR (nR - a)) a d), (shf rx nR (nR - a)), (shf ry nR (nR - a)), wv, fo), (re, dg), (nP, tp, bt, dp)), (nQ, fu)) rfl rfl (j := a) (by decide) (by omega) rfl dX7_current_213 (fun H locs hP hS => ?_)
                            refine lv_aload_n hx hb dX7_current_214 rfl (lv_at hl 3 rfl) ?_
                            refine va_get (D := D) (ci := 7) (v := .ref (ad 17)) (C := RX7) (T := TX7) (N := 31) hx hb hts iX7_current_X7 hown hK hP 0 rfl rfl 19 (by decide) f_60 (fun _ h9 => h9) rfl dX7_current_215 ?_
                            refine lv_iload hx hb dX7_current_218 (lv_at hl 1 rfl) ?_
                            refine lv_iload hx hb dX7_current_220 (lv_at hl 2 rfl) ?_
                            refine lv_if_ne (tgt := 229) hx hb dX7_current_222 (by decide) (fun _ => ?_) (fun c_222_53 => absurd c_222_53 (by decide))
                            refine lv_iload hx hb dX7_current_229 (lv_at hl 2 rfl) ?_
                            refine lv_iconst (v := nI 1) hx hb dX7_current_231 (by decide) ?_
                            refine lv_icmp_eq (tgt := 242) hx hb dX7_current_232 (by decide) (fun c_232_54 => absurd c_232_54 (by decide)) (fun _ => ?_)
                            refine lv_iload hx hb dX7_current_235 (lv_at hl 2 rfl) ?_
                            refine lv_bipush (v := nI 7) hx hb dX7_current_237 (by decide) ?_
                            refine lv_icmp_ne (tgt := 247) hx hb dX7_current_239 (by decide) (fun _ => ?_) (fun c_239_55 => absurd c_239_55 (by decide))
                            refine lv_iload hx hb dX7_current_247 (lv_at hl 2 rfl) ?_
                            refine lv_iconst (v := nI 2) hx hb dX7_current_249 (by decide) ?_
                            refine lv_icmp_eq (tgt := 260) hx hb dX7_current_250 (by decide) (fun c_250_56 => absurd c_250_56 (by decide)) (fun _ => ?_)
                            refine lv_iload hx hb dX7_current_253 (lv_at hl 2 rfl) ?_
                            refine lv_bipush (v := nI 6) hx hb dX7_current_255 (by decide) ?_
                            refine lv_icmp_ne (tgt := 264) hx hb dX7_current_257 (by decide) (fun _ => ?_) (fun c_257_57 => absurd c_257_57 (by decide))
                            refine lv_iload hx hb dX7_current_264 (lv_at hl 2 rfl) ?_
                            refine lv_iconst (v := nI 4) hx hb dX7_current_266 (by decide) ?_
                            refine lv_icmp_ne (tgt := 276) hx hb dX7_current_267 (by decide) (fun c_267_58 => absurd c_267_58 (by decide)) (fun _ => ?_)
                            refine lv_dconst0 hx hb dX7_current_270 ?_
                            refine lv_dload_n hx hb dX7_current_271 rfl (lv_at hl 5 rfl) ?_
                            have h_60 : fB (1029) (FP.dsub (FP.dconst0) (sp_)) := fB_sub (M := 1027) fB_c0 hsp (by omega) (by omega) (by omega)
                            refine lv_dsub hx hb dX7_current_272 (fB_ne h_60 (by omega)) ?_
                            refine lv_goto (tgt := 280) hx hb dX7_current_273 (by decide) ?_
                            refine xds hx hb hK hD hP hS 17 0 (((nN, px, py, pz, fx, fy, fz, lf, ld, fi), (nB, fr, tt, ln, wi, sg, pu), ((nR + 1), (vf_upd (shf rd nR (nR - a)) a d), (vf_upd (shf rx nR (nR - a)) a (FP.dsub (FP.dconst0) (sp_))), (shf ry nR (nR - a)), wv, fo), (re, dg), (nP, tp, bt, dp)), (nQ, fu)) rfl rfl (j := a) (by decide) (by omega) rfl dX7_current_280 (fun H locs hP hS => ?_)
                            refine lv_aload_n hx hb dX7_current_281 rfl (lv_at hl 3 rfl) ?_
                            refine va_get (D := D) (ci := 7) (v := .ref (ad 18)) (C := RX7) (T := TX7) (N := 31) hx hb hts iX7_current_X7 hown hK hP 0 rfl rfl 20 (by decide) f_63 (fun _ h9 => h9) rfl dX7_current_282 ?_
                            refine lv_iload hx hb dX7_current_285 (lv_at hl 1 rfl) ?_
                            refine lv_iload hx hb dX7_current_287 (lv_at hl 2 rfl) ?_
                            refine lv_iconst (v := nI 2) hx hb dX7_current_289 (by decide) ?_
                            refine lv_icmp_ne (tgt := 297) hx hb dX7_current_290 (by decide) (fun _ => ?_) (fun c_290_61 => absurd c_290_61 (by decide))
                            refine lv_iload hx hb dX7_current_297 (lv_at hl 2 rfl) ?_
                            refine lv_iconst (v := nI 1) hx hb dX7_current_299 (by decide) ?_
                            refine lv_icmp_eq (tgt := 309) hx hb dX7_current_300 (by decide) (fun c_300_62 => absurd c_300_62 (by decide)) (fun _ => ?_)
                            refine lv_iload hx hb dX7_current_303 (lv_at hl 2 rfl) ?_
                            refine lv_iconst (v := nI 3) hx hb dX7_current_305 (by decide) ?_
                            refine lv_icmp_ne (tgt := 314) hx hb dX7_current_306 (by decide) (fun _ => ?_) (fun c_306_63 => absurd c_306_63 (by decide))
                            refine lv_iload hx hb dX7_current_314 (lv_at hl 2 rfl) ?_
                            refine lv_if_eq (tgt := 325) hx hb dX7_current_316 (by decide) (fun c_316_64 => absurd c_316_64 (by decide)) (fun _ => ?_)
                            refine lv_iload hx hb dX7_current_319 (lv_at hl 2 rfl) ?_
                            refine lv_iconst (v := nI 4) hx hb dX7_current_321 (by decide) ?_
                            refine lv_icmp_ne (tgt := 329) hx hb dX7_current_322 (by decide) (fun c_322_65 => absurd c_322_65 (by decide)) (fun _ => ?_)
                            refine lv_dconst0 hx hb dX7_current_325 ?_
                            refine lv_goto (tgt := 346) hx hb dX7_current_326 (by decide) ?_
                            refine xds hx hb hK hD hP hS 18 0 (((nN, px, py, pz, fx, fy, fz, lf, ld, fi), (nB, fr, tt, ln, wi, sg, pu), ((nR + 1), (vf_upd (shf rd nR (nR - a)) a d), (vf_upd (shf rx nR (nR - a)) a (FP.dsub (FP.dconst0) (sp_))), (vf_upd (shf ry nR (nR - a)) a FP.dconst0), wv, fo), (re, dg), (nP, tp, bt, dp)), (nQ, fu)) rfl rfl (j := a) (by decide) (by omega) rfl dX7_current_346 (fun H locs hP hS => ?_)
                            refine lv_iconst (v := nI 1) hx hb dX7_current_347 (by decide) ?_
                            exact hret hS hP dX7_current_348 (Or.inr rfl) (⟨Or.inl ⟨4, a, he, b_3, b_5, hdir, hA, Or.inr (Or.inl ⟨fun q => absurd q.1 (by omega), by omega, rfl, rfl⟩)⟩, rfl⟩)
                          · skip
                            refine lv_dload_n hx hb dX7_current_199 rfl (lv_at hl 5 rfl) ?_
                            refine lv_ldc2d hx hb hown c_139 dX7_current_200 ?_
                            have h_67 : fB (1028) (FP.dmul (sp_) (4604544271217802189)) := fB_mul hsp (fB_lit (K := 1023) (a := 4604544271217802189) (by decide +kernel)) (by omega) (by omega) (by omega)
                            refine lv_dmul hx hb dX7_current_203 (fB_ne h_67 (by omega)) ?_
                            refine lv_dstore (lv' := [(9, .double (FP.dmul (sp_) (4604544271217802189))), (8, .int (nI a)), (7, .int (nI 5)), (0, .ref (ad 0)), (1, .double (d)), (3, .double (sp_)), (5, .double (e8 nd))]) hx hb dX7_current_204 hl (by decide) rfl (fun ls hl => ?_)
                            refine lv_aload_n hx hb dX7_current_206 rfl (lv_at hl 3 rfl) ?_
                            refine va_get (D := D) (ci := 7) (v := .ref (ad 16)) (C := RX7) (T := TX7) (N := 31) hx hb hts iX7_current_X7 hown hK hP 0 rfl rfl 18 (by decide) f_57 (fun _ h9 => h9) rfl dX7_current_207 ?_
                            refine lv_iload hx hb dX7_current_210 (lv_at hl 1 rfl) ?_
                            refine lv_dload_n hx hb dX7_current_212 rfl (lv_at hl 4 rfl) ?_
                            refine xds hx hb hK hD hP hS 16 0 (((nN, px, py, pz, fx, fy, fz, lf, ld, fi), (nB, fr, tt, ln, wi, sg, pu), ((nR + 1), (vf_upd (shf rd nR (nR - a)) a d), (shf rx nR (nR - a)), (shf ry nR (nR - a)), wv, fo), (re, dg), (nP, tp, bt, dp)), (nQ, fu)) rfl rfl (j := a) (by decide) (by omega) rfl dX7_current_213 (fun H locs hP hS => ?_)
                            refine lv_aload_n hx hb dX7_current_214 rfl (lv_at hl 3 rfl) ?_
                            refine va_get (D := D) (ci := 7) (v := .ref (ad 17)) (C := RX7) (T := TX7) (N := 31) hx hb hts iX7_current_X7 hown hK hP 0 rfl rfl 19 (by decide) f_60 (fun _ h9 => h9) rfl dX7_current_215 ?_
                            refine lv_iload hx hb dX7_current_218 (lv_at hl 1 rfl) ?_
                            refine lv_iload hx hb dX7_current_220 (lv_at hl 2 rfl) ?_
                            refine lv_if_ne (tgt := 229) hx hb dX7_current_222 (by decide) (fun _ => ?_) (fun c_222_68 => absurd c_222_68 (by decide))
                            refine lv_iload hx hb dX7_current_229 (lv_at hl 2 rfl) ?_
                            refine lv_iconst (v := nI 1) hx hb dX7_current_231 (by decide) ?_
                            refine lv_icmp_eq (tgt := 242) hx hb dX7_current_232 (by decide) (fun c_232_69 => absurd c_232_69 (by decide)) (fun _ => ?_)
                            refine lv_iload hx hb dX7_current_235 (lv_at hl 2 rfl) ?_
                            refine lv_bipush (v := nI 7) hx hb dX7_current_237 (by decide) ?_
                            refine lv_icmp_ne (tgt := 247) hx hb dX7_current_239 (by decide) (fun _ => ?_) (fun c_239_70 => absurd c_239_70 (by decide))
                            refine lv_iload hx hb dX7_current_247 (lv_at hl 2 rfl) ?_
                            refine lv_iconst (v := nI 2) hx hb dX7_current_249 (by decide) ?_
                            refine lv_icmp_eq (tgt := 260) hx hb dX7_current_250 (by decide) (fun c_250_71 => absurd c_250_71 (by decide)) (fun _ => ?_)
                            refine lv_iload hx hb dX7_current_253 (lv_at hl 2 rfl) ?_
                            refine lv_bipush (v := nI 6) hx hb dX7_current_255 (by decide) ?_
                            refine lv_icmp_ne (tgt := 264) hx hb dX7_current_257 (by decide) (fun _ => ?_) (fun c_257_72 => absurd c_257_72 (by decide))
                            refine lv_iload hx hb dX7_current_264 (lv_at hl 2 rfl) ?_
                            refine lv_iconst (v := nI 4) hx hb dX7_current_266 (by decide) ?_
                            refine lv_icmp_ne (tgt := 276) hx hb dX7_current_267 (by decide) (fun _ => ?_) (fun c_267_73 => absurd c_267_73 (by decide))
                            refine lv_dconst0 hx hb dX7_current_276 ?_
                            refine lv_dload hx hb dX7_current_277 (lv_at hl 0 rfl) ?_
                            have h_75 : fB (1030) (FP.dsub (FP.dconst0) (FP.dmul (sp_) (4604544271217802189))) := fB_sub (M := 1028) fB_c0 h_67 (by omega) (by omega) (by omega)
                            refine lv_dsub hx hb dX7_current_279 (fB_ne h_75 (by omega)) ?_
                            refine xds hx hb hK hD hP hS 17 0 (((nN, px, py, pz, fx, fy, fz, lf, ld, fi), (nB, fr, tt, ln, wi, sg, pu), ((nR + 1), (vf_upd (shf rd nR (nR - a)) a d), (vf_upd (shf rx nR (nR - a)) a (FP.dsub (FP.dconst0) (FP.dmul (sp_) (4604544271217802189)))), (shf ry nR (nR - a)), wv, fo), (re, dg), (nP, tp, bt, dp)), (nQ, fu)) rfl rfl (j := a) (by decide) (by omega) rfl dX7_current_280 (fun H locs hP hS => ?_)
                            refine lv_aload_n hx hb dX7_current_281 rfl (lv_at hl 3 rfl) ?_
                            refine va_get (D := D) (ci := 7) (v := .ref (ad 18)) (C := RX7) (T := TX7) (N := 31) hx hb hts iX7_current_X7 hown hK hP 0 rfl rfl 20 (by decide) f_63 (fun _ h9 => h9) rfl dX7_current_282 ?_
                            refine lv_iload hx hb dX7_current_285 (lv_at hl 1 rfl) ?_
                            refine lv_iload hx hb dX7_current_287 (lv_at hl 2 rfl) ?_
                            refine lv_iconst (v := nI 2) hx hb dX7_current_289 (by decide) ?_
                            refine lv_icmp_ne (tgt := 297) hx hb dX7_current_290 (by decide) (fun _ => ?_) (fun c_290_76 => absurd c_290_76 (by decide))
                            refine lv_iload hx hb dX7_current_297 (lv_at hl 2 rfl) ?_
                            refine lv_iconst (v := nI 1) hx hb dX7_current_299 (by decide) ?_
                            refine lv_icmp_eq (tgt := 309) hx hb dX7_current_300 (by decide) (fun c_300_77 => absurd c_300_77 (by decide)) (fun _ => ?_)
                            refine lv_iload hx hb dX7_current_303 (lv_at hl 2 rfl) ?_
                            refine lv_iconst (v := nI 3) hx hb dX7_current_305 (by decide) ?_
                            refine lv_icmp_ne (tgt := 314) hx hb dX7_current_306 (by decide) (fun _ => ?_) (fun c_306_78 => absurd c_306_78 (by decide))
                            refine lv_iload hx hb dX7_current_314 (lv_at hl 2 rfl) ?_
                            refine lv_if_eq (tgt := 325) hx hb dX7_current_316 (by decide) (fun c_316_79 => absurd c_316_79 (by decide)) (fun _ => ?_)
                            refine lv_iload hx hb dX7_current_319 (lv_at hl 2 rfl) ?_
                            refine lv_iconst (v := nI 4) hx hb dX7_current_321 (by decide) ?_
                            refine lv_icmp_ne (tgt := 329) hx hb dX7_current_322 (by decide) (fun _ => ?_) (fun c_322_80 => absurd c_322_80 (by decide))
                            refine lv_iload hx hb dX7_current_329 (lv_at hl 2 rfl) ?_
                            refine lv_bipush (v := nI 6) hx hb dX7_current_331 (by decide) ?_
                            refine lv_icmp_ne (tgt := 342) hx hb dX7_current_333 (by decide) (fun _ => ?_) (fun c_333_81 => absurd c_333_81 (by decide))
                            refine lv_dconst0 hx hb dX7_current_342 ?_
                            refine lv_dload hx hb dX7_current_343 (lv_at hl 0 rfl) ?_
                            have h_83 : fB (1030) (FP.dsub (FP.dconst0) (FP.dmul (sp_) (4604544271217802189))) := fB_sub (M := 1028) fB_c0 h_67 (by omega) (by omega) (by omega)
                            refine lv_dsub hx hb dX7_current_345 (fB_ne h_83 (by omega)) ?_
                            refine xds hx hb hK hD hP hS 18 0 (((nN, px, py, pz, fx, fy, fz, lf, ld, fi), (nB, fr, tt, ln, wi, sg, pu), ((nR + 1), (vf_upd (shf rd nR (nR - a)) a d), (vf_upd (shf rx nR (nR - a)) a (FP.dsub (FP.dconst0) (FP.dmul (sp_) (4604544271217802189)))), (vf_upd (shf ry nR (nR - a)) a (FP.dsub (FP.dconst0) (FP.dmul (sp_) (4604544271217802189)))), wv, fo), (re, dg), (nP, tp, bt, dp)), (nQ, fu)) rfl rfl (j := a) (by decide) (by omega) rfl dX7_current_346 (fun H locs hP hS => ?_)
                            refine lv_iconst (v := nI 1) hx hb dX7_current_347 (by decide) ?_
                            exact hret hS hP dX7_current_348 (Or.inr rfl) (⟨Or.inl ⟨5, a, he, b_3, b_5, hdir, hA, Or.inr (Or.inl ⟨fun q => absurd q.1 (by omega), by omega, rfl, rfl⟩)⟩, rfl⟩)
                          · skip
                            refine lv_dload_n hx hb dX7_current_199 rfl (lv_at hl 5 rfl) ?_
                            refine lv_ldc2d hx hb hown c_139 dX7_current_200 ?_
                            have h_85 : fB (1028) (FP.dmul (sp_) (4604544271217802189)) := fB_mul hsp (fB_lit (K := 1023) (a := 4604544271217802189) (by decide +kernel)) (by omega) (by omega) (by omega)
                            refine lv_dmul hx hb dX7_current_203 (fB_ne h_85 (by omega)) ?_
                            refine lv_dstore (lv' := [(9, .double (FP.dmul (sp_) (4604544271217802189))), (8, .int (nI a)), (7, .int (nI 6)), (0, .ref (ad 0)), (1, .double (d)), (3, .double (sp_)), (5, .double (e8 nd))]) hx hb dX7_current_204 hl (by decide) rfl (fun ls hl => ?_)
                            refine lv_aload_n hx hb dX7_current_206 rfl (lv_at hl 3 rfl) ?_
                            refine va_get (D := D) (ci := 7) (v := .ref (ad 16)) (C := RX7) (T := TX7) (N := 31) hx hb hts iX7_current_X7 hown hK hP 0 rfl rfl 18 (by decide) f_57 (fun _ h9 => h9) rfl dX7_current_207 ?_
                            refine lv_iload hx hb dX7_current_210 (lv_at hl 1 rfl) ?_
                            refine lv_dload_n hx hb dX7_current_212 rfl (lv_at hl 4 rfl) ?_
                            refine xds hx hb hK hD hP hS 16 0 (((nN, px, py, pz, fx, fy, fz, lf, ld, fi), (nB, fr, tt, ln, wi, sg, pu), ((nR + 1), (vf_upd (shf rd nR (nR - a)) a d), (shf rx nR (nR - a)), (shf ry nR (nR - a)), wv, fo), (re, dg), (nP, tp, bt, dp)), (nQ, fu)) rfl rfl (j := a) (by decide) (by omega) rfl dX7_current_213 (fun H locs hP hS => ?_)
                            refine lv_aload_n hx hb dX7_current_214 rfl (lv_at hl 3 rfl) ?_
                            refine va_get (D := D) (ci := 7) (v := .ref (ad 17)) (C := RX7) (T := TX7) (N := 31) hx hb hts iX7_current_X7 hown hK hP 0 rfl rfl 19 (by decide) f_60 (fun _ h9 => h9) rfl dX7_current_215 ?_
                            refine lv_iload hx hb dX7_current_218 (lv_at hl 1 rfl) ?_
                            refine lv_iload hx hb dX7_current_220 (lv_at hl 2 rfl) ?_
                            refine lv_if_ne (tgt := 229) hx hb dX7_current_222 (by decide) (fun _ => ?_) (fun c_222_86 => absurd c_222_86 (by decide))
                            refine lv_iload hx hb dX7_current_229 (lv_at hl 2 rfl) ?_
                            refine lv_iconst (v := nI 1) hx hb dX7_current_231 (by decide) ?_
                            refine lv_icmp_eq (tgt := 242) hx hb dX7_current_232 (by decide) (fun c_232_87 => absurd c_232_87 (by decide)) (fun _ => ?_)
                            refine lv_iload hx hb dX7_current_235 (lv_at hl 2 rfl) ?_
                            refine lv_bipush (v := nI 7) hx hb dX7_current_237 (by decide) ?_
                            refine lv_icmp_ne (tgt := 247) hx hb dX7_current_239 (by decide) (fun _ => ?_) (fun c_239_88 => absurd c_239_88 (by decide))
                            refine lv_iload hx hb dX7_current_247 (lv_at hl 2 rfl) ?_
                            refine lv_iconst (v := nI 2) hx hb dX7_current_249 (by decide) ?_
                            refine lv_icmp_eq (tgt := 260) hx hb dX7_current_250 (by decide) (fun c_250_89 => absurd c_250_89 (by decide)) (fun _ => ?_)
                            refine lv_iload hx hb dX7_current_253 (lv_at hl 2 rfl) ?_
                            refine lv_bipush (v := nI 6) hx hb dX7_current_255 (by decide) ?_
                            refine lv_icmp_ne (tgt := 264) hx hb dX7_current_257 (by decide) (fun c_257_90 => absurd c_257_90 (by decide)) (fun _ => ?_)
                            refine lv_dconst0 hx hb dX7_current_260 ?_
                            refine lv_goto (tgt := 280) hx hb dX7_current_261 (by decide) ?_
                            refine xds hx hb hK hD hP hS 17 0 (((nN, px, py, pz, fx, fy, fz, lf, ld, fi), (nB, fr, tt, ln, wi, sg, pu), ((nR + 1), (vf_upd (shf rd nR (nR - a)) a d), (vf_upd (shf rx nR (nR - a)) a FP.dconst0), (shf ry nR (nR - a)), wv, fo), (re, dg), (nP, tp, bt, dp)), (nQ, fu)) rfl rfl (j := a) (by decide) (by omega) rfl dX7_current_280 (fun H locs hP hS => ?_)
                            refine lv_aload_n hx hb dX7_current_281 rfl (lv_at hl 3 rfl) ?_
                            refine va_get (D := D) (ci := 7) (v := .ref (ad 18)) (C := RX7) (T := TX7) (N := 31) hx hb hts iX7_current_X7 hown hK hP 0 rfl rfl 20 (by decide) f_63 (fun _ h9 => h9) rfl dX7_current_282 ?_
                            refine lv_iload hx hb dX7_current_285 (lv_at hl 1 rfl) ?_
                            refine lv_iload hx hb dX7_current_287 (lv_at hl 2 rfl) ?_
                            refine lv_iconst (v := nI 2) hx hb dX7_current_289 (by decide) ?_
                            refine lv_icmp_ne (tgt := 297) hx hb dX7_current_290 (by decide) (fun _ => ?_) (fun c_290_91 => absurd c_290_91 (by decide))
                            refine lv_iload hx hb dX7_current_297 (lv_at hl 2 rfl) ?_
                            refine lv_iconst (v := nI 1) hx hb dX7_current_299 (by decide) ?_
                            refine lv_icmp_eq (tgt := 309) hx hb dX7_current_300 (by decide) (fun c_300_92 => absurd c_300_92 (by decide)) (fun _ => ?_)
                            refine lv_iload hx hb dX7_current_303 (lv_at hl 2 rfl) ?_
                            refine lv_iconst (v := nI 3) hx hb dX7_current_305 (by decide) ?_
                            refine lv_icmp_ne (tgt := 314) hx hb dX7_current_306 (by decide) (fun _ => ?_) (fun c_306_93 => absurd c_306_93 (by decide))
                            refine lv_iload hx hb dX7_current_314 (lv_at hl 2 rfl) ?_
                            refine lv_if_eq (tgt := 325) hx hb dX7_current_316 (by decide) (fun c_316_94 => absurd c_316_94 (by decide)) (fun _ => ?_)
                            refine lv_iload hx hb dX7_current_319 (lv_at hl 2 rfl) ?_
                            refine lv_iconst (v := nI 4) hx hb dX7_current_321 (by decide) ?_
                            refine lv_icmp_ne (tgt := 329) hx hb dX7_current_322 (by decide) (fun _ => ?_) (fun c_322_95 => absurd c_322_95 (by decide))
                            refine lv_iload hx hb dX7_current_329 (lv_at hl 2 rfl) ?_
                            refine lv_bipush (v := nI 6) hx hb dX7_current_331 (by decide) ?_
                            refine lv_icmp_ne (tgt := 342) hx hb dX7_current_333 (by decide) (fun c_333_96 => absurd c_333_96 (by decide)) (fun _ => ?_)
                            refine lv_dconst0 hx hb dX7_current_336 ?_
                            refine lv_dload_n hx hb dX7_current_337 rfl (lv_at hl 5 rfl) ?_
                            have h_98 : fB (1029) (FP.dsub (FP.dconst0) (sp_)) := fB_sub (M := 1027) fB_c0 hsp (by omega) (by omega) (by omega)
                            refine lv_dsub hx hb dX7_current_338 (fB_ne h_98 (by omega)) ?_
                            refine lv_goto (tgt := 346) hx hb dX7_current_339 (by decide) ?_
                            refine xds hx hb hK hD hP hS 18 0 (((nN, px, py, pz, fx, fy, fz, lf, ld, fi), (nB, fr, tt, ln, wi, sg, pu), ((nR + 1), (vf_upd (shf rd nR (nR - a)) a d), (vf_upd (shf rx nR (nR - a)) a FP.dconst0), (vf_upd (shf ry nR (nR - a)) a (FP.dsub (FP.dconst0) (sp_))), wv, fo), (re, dg), (nP, tp, bt, dp)), (nQ, fu)) rfl rfl (j := a) (by decide) (by omega) rfl dX7_current_346 (fun H locs hP hS => ?_)
                            refine lv_iconst (v := nI 1) hx hb dX7_current_347 (by decide) ?_
                            exact hret hS hP dX7_current_348 (Or.inr rfl) (⟨Or.inl ⟨6, a, he, b_3, b_5, hdir, hA, Or.inr (Or.inl ⟨fun q => absurd q.1 (by omega), by omega, rfl, rfl⟩)⟩, rfl⟩)
                          · skip
                            refine lv_dload_n hx hb dX7_current_199 rfl (lv_at hl 5 rfl) ?_
                            refine lv_ldc2d hx hb hown c_139 dX7_current_200 ?_
                            have h_100 : fB (1028) (FP.dmul (sp_) (4604544271217802189)) := fB_mul hsp (fB_lit (K := 1023) (a := 4604544271217802189) (by decide +kernel)) (by omega) (by omega) (by omega)
                            refine lv_dmul hx hb dX7_current_203 (fB_ne h_100 (by omega)) ?_
                            refine lv_dstore (lv' := [(9, .double (FP.dmul (sp_) (4604544271217802189))), (8, .int (nI a)), (7, .int (nI 7)), (0, .ref (ad 0)), (1, .double (d)), (3, .double (sp_)), (5, .double (e8 nd))]) hx hb dX7_current_204 hl (by decide) rfl (fun ls hl => ?_)
                            refine lv_aload_n hx hb dX7_current_206 rfl (lv_at hl 3 rfl) ?_
                            refine va_get (D := D) (ci := 7) (v := .ref (ad 16)) (C := RX7) (T := TX7) (N := 31) hx hb hts iX7_current_X7 hown hK hP 0 rfl rfl 18 (by decide) f_57 (fun _ h9 => h9) rfl dX7_current_207 ?_
                            refine lv_iload hx hb dX7_current_210 (lv_at hl 1 rfl) ?_
                            refine lv_dload_n hx hb dX7_current_212 rfl (lv_at hl 4 rfl) ?_
                            refine xds hx hb hK hD hP hS 16 0 (((nN, px, py, pz, fx, fy, fz, lf, ld, fi), (nB, fr, tt, ln, wi, sg, pu), ((nR + 1), (vf_upd (shf rd nR (nR - a)) a d), (shf rx nR (nR - a)), (shf ry nR (nR - a)), wv, fo), (re, dg), (nP, tp, bt, dp)), (nQ, fu)) rfl rfl (j := a) (by decide) (by omega) rfl dX7_current_213 (fun H locs hP hS => ?_)
                            refine lv_aload_n hx hb dX7_current_214 rfl (lv_at hl 3 rfl) ?_
                            refine va_get (D := D) (ci := 7) (v := .ref (ad 17)) (C := RX7) (T := TX7) (N := 31) hx hb hts iX7_current_X7 hown hK hP 0 rfl rfl 19 (by decide) f_60 (fun _ h9 => h9) rfl dX7_current_215 ?_
                            refine lv_iload hx hb dX7_current_218 (lv_at hl 1 rfl) ?_
                            refine lv_iload hx hb dX7_current_220 (lv_at hl 2 rfl) ?_
                            refine lv_if_ne (tgt := 229) hx hb dX7_current_222 (by decide) (fun _ => ?_) (fun c_222_101 => absurd c_222_101 (by decide))
                            refine lv_iload hx hb dX7_current_229 (lv_at hl 2 rfl) ?_
                            refine lv_iconst (v := nI 1) hx hb dX7_current_231 (by decide) ?_
                            refine lv_icmp_eq (tgt := 242) hx hb dX7_current_232 (by decide) (fun c_232_102 => absurd c_232_102 (by decide)) (fun _ => ?_)
                            refine lv_iload hx hb dX7_current_235 (lv_at hl 2 rfl) ?_
                            refine lv_bipush (v := nI 7) hx hb dX7_current_237 (by decide) ?_
                            refine lv_icmp_ne (tgt := 247) hx hb dX7_current_239 (by decide) (fun c_239_103 => absurd c_239_103 (by decide)) (fun _ => ?_)
                            refine lv_dload hx hb dX7_current_242 (lv_at hl 0 rfl) ?_
                            refine lv_goto (tgt := 280) hx hb dX7_current_244 (by decide) ?_
                            refine xds hx hb hK hD hP hS 17 0 (((nN, px, py, pz, fx, fy, fz, lf, ld, fi), (nB, fr, tt, ln, wi, sg, pu), ((nR + 1), (vf_upd (shf rd nR (nR - a)) a d), (vf_upd (shf rx nR (nR - a)) a (FP.dmul (sp_) (4604544271217802189))), (shf ry nR (nR - a)), wv, fo), (re, dg), (nP, tp, bt, dp)), (nQ, fu)) rfl rfl (j := a) (by decide) (by omega) rfl dX7_current_280 (fun H locs hP hS => ?_)
                            refine lv_aload_n hx hb dX7_current_281 rfl (lv_at hl 3 rfl) ?_
                            refine va_get (D := D) (ci := 7) (v := .ref (ad 18)) (C := RX7) (T := TX7) (N := 31) hx hb hts iX7_current_X7 hown hK hP 0 rfl rfl 20 (by decide) f_63 (fun _ h9 => h9) rfl dX7_current_282 ?_
                            refine lv_iload hx hb dX7_current_285 (lv_at hl 1 rfl) ?_
                            refine lv_iload hx hb dX7_current_287 (lv_at hl 2 rfl) ?_
                            refine lv_iconst (v := nI 2) hx hb dX7_current_289 (by decide) ?_
                            refine lv_icmp_ne (tgt := 297) hx hb dX7_current_290 (by decide) (fun _ => ?_) (fun c_290_104 => absurd c_290_104 (by decide))
                            refine lv_iload hx hb dX7_current_297 (lv_at hl 2 rfl) ?_
                            refine lv_iconst (v := nI 1) hx hb dX7_current_299 (by decide) ?_
                            refine lv_icmp_eq (tgt := 309) hx hb dX7_current_300 (by decide) (fun c_300_105 => absurd c_300_105 (by decide)) (fun _ => ?_)
                            refine lv_iload hx hb dX7_current_303 (lv_at hl 2 rfl) ?_
                            refine lv_iconst (v := nI 3) hx hb dX7_current_305 (by decide) ?_
                            refine lv_icmp_ne (tgt := 314) hx hb dX7_current_306 (by decide) (fun _ => ?_) (fun c_306_106 => absurd c_306_106 (by decide))
                            refine lv_iload hx hb dX7_current_314 (lv_at hl 2 rfl) ?_
                            refine lv_if_eq (tgt := 325) hx hb dX7_current_316 (by decide) (fun c_316_107 => absurd c_316_107 (by decide)) (fun _ => ?_)
                            refine lv_iload hx hb dX7_current_319 (lv_at hl 2 rfl) ?_
                            refine lv_iconst (v := nI 4) hx hb dX7_current_321 (by decide) ?_
                            refine lv_icmp_ne (tgt := 329) hx hb dX7_current_322 (by decide) (fun _ => ?_) (fun c_322_108 => absurd c_322_108 (by decide))
                            refine lv_iload hx hb dX7_current_329 (lv_at hl 2 rfl) ?_
                            refine lv_bipush (v := nI 6) hx hb dX7_current_331 (by decide) ?_
                            refine lv_icmp_ne (tgt := 342) hx hb dX7_current_333 (by decide) (fun _ => ?_) (fun c_333_109 => absurd c_333_109 (by decide))
                            refine lv_dconst0 hx hb dX7_current_342 ?_
                            refine lv_dload hx hb dX7_current_343 (lv_at hl 0 rfl) ?_
                            have h_111 : fB (1030) (FP.dsub (FP.dconst0) (FP.dmul (sp_) (4604544271217802189))) := fB_sub (M := 1028) fB_c0 h_100 (by omega) (by omega) (by omega)
                            refine lv_dsub hx hb dX7_current_345 (fB_ne h_111 (by omega)) ?_
                            refine xds hx hb hK hD hP hS 18 0 (((nN, px, py, pz, fx, fy, fz, lf, ld, fi), (nB, fr, tt, ln, wi, sg, pu), ((nR + 1), (vf_upd (shf rd nR (nR - a)) a d), (vf_upd (shf rx nR (nR - a)) a (FP.dmul (sp_) (4604544271217802189))), (vf_upd (shf ry nR (nR - a)) a (FP.dsub (FP.dconst0) (FP.dmul (sp_) (4604544271217802189)))), wv, fo), (re, dg), (nP, tp, bt, dp)), (nQ, fu)) rfl rfl (j := a) (by decide) (by omega) rfl dX7_current_346 (fun H locs hP hS => ?_)
                            refine lv_iconst (v := nI 1) hx hb dX7_current_347 (by decide) ?_
                            exact hret hS hP dX7_current_348 (Or.inr rfl) (⟨Or.inl ⟨7, a, he, b_3, b_5, hdir, hA, Or.inr (Or.inl ⟨fun q => absurd q.1 (by omega), by omega, rfl, rfl⟩)⟩, rfl⟩)
                        · skip
                          have c_132_17 : ¬ (nR - t ≤ a) := fun q => c_132_17 ((nI_leI (a := nR - t) (b := a) (by omega) (by omega)).mpr q)
                          refine lv_aload_n hx hb dX7_current_135 rfl (lv_at hl 3 rfl) ?_
                          refine va_get (D := D) (ci := 7) (v := .ref (ad 16)) (C := RX7) (T := TX7) (N := 31) hx hb hts iX7_current_X7 hown hK hP 0 rfl rfl 18 (by decide) f_57 (fun _ h9 => h9) rfl dX7_current_136 ?_
                          refine lv_iload hx hb dX7_current_139 (lv_at hl 0 rfl) ?_
                          refine lv_aload_n hx hb dX7_current_141 rfl (lv_at hl 3 rfl) ?_
                          refine va_get (D := D) (ci := 7) (v := .ref (ad 16)) (C := RX7) (T := TX7) (N := 31) hx hb hts iX7_current_X7 hown hK hP 0 rfl rfl 18 (by decide) f_57 (fun _ h9 => h9) rfl dX7_current_142 ?_
                          refine lv_iload hx hb dX7_current_145 (lv_at hl 0 rfl) ?_
                          refine lv_iconst (v := nI 1) hx hb dX7_current_147 (by decide) ?_
                          refine xib hx hb (nR - t - 1) dX7_current_148 (by omega) ?_
                          refine xdl hx hb hK hP 16 0 rfl rfl (j := nR - t - 1) (by decide) (by omega) dX7_current_149 ?_
                          refine xds hx hb hK hD hP hS 16 0 (((nN, px, py, pz, fx, fy, fz, lf, ld, fi), (nB, fr, tt, ln, wi, sg, pu), (nR, (vf_upd (shf rd nR t) (nR - t) ((shf rd nR t) (nR - t - 1))), (shf rx nR t), (shf ry nR t), wv, fo), (re, dg), (nP, tp, bt, dp)), (nQ, fu)) rfl rfl (j := nR - t) (by decide) (by omega) rfl dX7_current_150 (fun H locs hP hS => ?_)
                          refine lv_aload_n hx hb dX7_current_151 rfl (lv_at hl 3 rfl) ?_
                          refine va_get (D := D) (ci := 7) (v := .ref (ad 17)) (C := RX7) (T := TX7) (N := 31) hx hb hts iX7_current_X7 hown hK hP 0 rfl rfl 19 (by decide) f_60 (fun _ h9 => h9) rfl dX7_current_152 ?_
                          refine lv_iload hx hb dX7_current_155 (lv_at hl 0 rfl) ?_
                          refine lv_aload_n hx hb dX7_current_157 rfl (lv_at hl 3 rfl) ?_
                          refine va_get (D := D) (ci := 7) (v := .ref (ad 17)) (C := RX7) (T := TX7) (N := 31) hx hb hts iX7_current_X7 hown hK hP 0 rfl rfl 19 (by decide) f_60 (fun _ h9 => h9) rfl dX7_current_158 ?_
                          refine lv_iload hx hb dX7_current_161 (lv_at hl 0 rfl) ?_
                          refine lv_iconst (v := nI 1) hx hb dX7_current_163 (by decide) ?_
                          refine xib hx hb (nR - t - 1) dX7_current_164 (by omega) ?_
                          refine xdl hx hb hK hP 17 0 rfl rfl (j := nR - t - 1) (by decide) (by omega) dX7_current_165 ?_
                          refine xds hx hb hK hD hP hS 17 0 (((nN, px, py, pz, fx, fy, fz, lf, ld, fi), (nB, fr, tt, ln, wi, sg, pu), (nR, (vf_upd (shf rd nR t) (nR - t) ((shf rd nR t) (nR - t - 1))), (vf_upd (shf rx nR t) (nR - t) ((shf rx nR t) (nR - t - 1))), (shf ry nR t), wv, fo), (re, dg), (nP, tp, bt, dp)), (nQ, fu)) rfl rfl (j := nR - t) (by decide) (by omega) rfl dX7_current_166 (fun H locs hP hS => ?_)
                          refine lv_aload_n hx hb dX7_current_167 rfl (lv_at hl 3 rfl) ?_
                          refine va_get (D := D) (ci := 7) (v := .ref (ad 18)) (C := RX7) (T := TX7) (N := 31) hx hb hts iX7_current_X7 hown hK hP 0 rfl rfl 20 (by decide) f_63 (fun _ h9 => h9) rfl dX7_current_168 ?_
                          refine lv_iload hx hb dX7_current_171 (lv_at hl 0 rfl) ?_
                          refine lv_aload_n hx hb dX7_current_173 rfl (lv_at hl 3 rfl) ?_
                          refine va_get (D := D) (ci := 7) (v := .ref (ad 18)) (C := RX7) (T := TX7) (N := 31) hx hb hts iX7_current_X7 hown hK hP 0 rfl rfl 20 (by decide) f_63 (fun _ h9 => h9) rfl dX7_current_174 ?_
                          refine lv_iload hx hb dX7_current_177 (lv_at hl 0 rfl) ?_
                          refine lv_iconst (v := nI 1) hx hb dX7_current_179 (by decide) ?_
                          refine xib hx hb (nR - t - 1) dX7_current_180 (by omega) ?_
                          refine xdl hx hb hK hP 18 0 rfl rfl (j := nR - t - 1) (by decide) (by omega) dX7_current_181 ?_
                          refine xds hx hb hK hD hP hS 18 0 (((nN, px, py, pz, fx, fy, fz, lf, ld, fi), (nB, fr, tt, ln, wi, sg, pu), (nR, (vf_upd (shf rd nR t) (nR - t) ((shf rd nR t) (nR - t - 1))), (vf_upd (shf rx nR t) (nR - t) ((shf rx nR t) (nR - t - 1))), (vf_upd (shf ry nR t) (nR - t) ((shf ry nR t) (nR - t - 1))), wv, fo), (re, dg), (nP, tp, bt, dp)), (nQ, fu)) rfl rfl (j := nR - t) (by decide) (by omega) rfl dX7_current_182 (fun H locs hP hS => ?_)
                          refine lv_iinc (v := nI (nR - (t + 1))) (lv' := [(9, .int (nI (nR - (t + 1)))), (8, .int (nI a)), (7, .int (nI ei)), (0, .ref (ad 0)), (1, .double (d)), (3, .double (sp_)), (5, .double (e8 nd))]) hx hb dX7_current_183 hl (k := 0) rfl (pm1 (by omega)) (by decide) rfl (fun ls hl => ?_)
                          refine lv_goto (tgt := 128) hx hb dX7_current_186 (by decide) ?_
                          exact ih_128 (t + 1)  (by omega) (by omega) _ _ hP hS ls (lv_sub hl [0, 1, 2, 3, 4, 5, 6] rfl)
                    exact L_128_16 (nR + 1) (0)  (by omega) (by omega) _ _ hP hS ls (lv_sub hl [0, 1, 2, 3, 4, 5, 6] rfl)
                  · skip
                    have c_117_15 : nR = 10 := (nI_eq (a := nR) (b := 10) (by omega) (by omega)).mp c_117_15
                    refine lv_iconst (v := nI 0) hx hb dX7_current_120 (by decide) ?_
                    exact hret hS hP dX7_current_121 (Or.inl rfl) (⟨Or.inl ⟨ei, a, he, b_3, b_5, hdir, hA, Or.inr (Or.inr ⟨fun q => absurd q.1 (by omega), by omega, rfl, rfl⟩)⟩, rfl⟩)
                · skip
                  have c_96_14 : ¬ (a = nR) := fun q => c_96_14 ((nI_eq (a := a) (b := nR) (by omega) (by omega)).mpr q)
                  refine lv_aload_n hx hb dX7_current_99 rfl (lv_at hl 2 rfl) ?_
                  refine va_get (D := D) (ci := 7) (v := .ref (ad 16)) (C := RX7) (T := TX7) (N := 31) hx hb hts iX7_current_X7 hown hK hP 0 rfl rfl 18 (by decide) f_57 (fun _ h9 => h9) rfl dX7_current_100 ?_
                  refine lv_iload hx hb dX7_current_103 (lv_at hl 0 rfl) ?_
                  refine xdl hx hb hK hP 16 0 rfl rfl (j := a) (by decide) (by omega) dX7_current_105 ?_
                  refine lv_dload_n hx hb dX7_current_106 rfl (lv_at hl 3 rfl) ?_
                  refine xc_lne (tgt := 199) hx hb dX7_current_107 dX7_current_108 (by decide) (fun c_107_112 => ?_) (fun c_107_112 => ?_)
                  · skip
                    rcases (show ei = 0 ∨ ei = 1 ∨ ei = 2 ∨ ei = 3 ∨ ei = 4 ∨ ei = 5 ∨ ei = 6 ∨ ei = 7 by omega) with rfl | rfl | rfl | rfl | rfl | rfl | rfl | rfl
                    · skip
                      refine lv_dload_n hx hb dX7_current_199 rfl (lv_at hl 4 rfl) ?_
                      refine lv_ldc2d hx hb hown c_139 dX7_current_200 ?_
                      have h_114 : fB (1028) (FP.dmul (sp_) (4604544271217802189)) := fB_mul hsp (fB_lit (K := 1023) (a := 4604544271217802189) (by decide +kernel)) (by omega) (by omega) (by omega)
                      refine lv_dmul hx hb dX7_current_203 (fB_ne h_114 (by omega)) ?_
                      refine lv_dstore (lv' := [(9, .double (FP.dmul (sp_) (4604544271217802189))), (8, .int (nI a)), (7, .int (nI 0)), (0, .ref (ad 0)), (1, .double (d)), (3, .double (sp_)), (5, .double (e8 nd))]) hx hb dX7_current_204 hl (by decide) rfl (fun ls hl => ?_)
                      refine lv_aload_n hx hb dX7_current_206 rfl (lv_at hl 3 rfl) ?_
                      refine va_get (D := D) (ci := 7) (v := .ref (ad 16)) (C := RX7) (T := TX7) (N := 31) hx hb hts iX7_current_X7 hown hK hP 0 rfl rfl 18 (by decide) f_57 (fun _ h9 => h9) rfl dX7_current_207 ?_
                      refine lv_iload hx hb dX7_current_210 (lv_at hl 1 rfl) ?_
                      refine lv_dload_n hx hb dX7_current_212 rfl (lv_at hl 4 rfl) ?_
                      refine xds hx hb hK hD hP hS 16 0 (((nN, px, py, pz, fx, fy, fz, lf, ld, fi), (nB, fr, tt, ln, wi, sg, pu), (nR, (vf_upd rd a d), rx, ry, wv, fo), (re, dg), (nP, tp, bt, dp)), (nQ, fu)) rfl rfl (j := a) (by decide) (by omega) rfl dX7_current_213 (fun H locs hP hS => ?_)
                      refine lv_aload_n hx hb dX7_current_214 rfl (lv_at hl 3 rfl) ?_
                      refine va_get (D := D) (ci := 7) (v := .ref (ad 17)) (C := RX7) (T := TX7) (N := 31) hx hb hts iX7_current_X7 hown hK hP 0 rfl rfl 19 (by decide) f_60 (fun _ h9 => h9) rfl dX7_current_215 ?_
                      refine lv_iload hx hb dX7_current_218 (lv_at hl 1 rfl) ?_
                      refine lv_iload hx hb dX7_current_220 (lv_at hl 2 rfl) ?_
                      refine lv_if_ne (tgt := 229) hx hb dX7_current_222 (by decide) (fun c_222_115 => absurd c_222_115 (by decide)) (fun _ => ?_)
                      refine lv_dload_n hx hb dX7_current_225 rfl (lv_at hl 5 rfl) ?_
                      refine lv_goto (tgt := 280) hx hb dX7_current_226 (by decide) ?_
                      refine xds hx hb hK hD hP hS 17 0 (((nN, px, py, pz, fx, fy, fz, lf, ld, fi), (nB, fr, tt, ln, wi, sg, pu), (nR, (vf_upd rd a d), (vf_upd rx a sp_), ry, wv, fo), (re, dg), (nP, tp, bt, dp)), (nQ, fu)) rfl rfl (j := a) (by decide) (by omega) rfl dX7_current_280 (fun H locs hP hS => ?_)
                      refine lv_aload_n hx hb dX7_current_281 rfl (lv_at hl 3 rfl) ?_
                      refine va_get (D := D) (ci := 7) (v := .ref (ad 18)) (C := RX7) (T := TX7) (N := 31) hx hb hts iX7_current_X7 hown hK hP 0 rfl rfl 20 (by decide) f_63 (fun _ h9 => h9) rfl dX7_current_282 ?_
                      refine lv_iload hx hb dX7_current_285 (lv_at hl 1 rfl) ?_
                      refine lv_iload hx hb dX7_current_287 (lv_at hl 2 rfl) ?_
                      refine lv_iconst (v := nI 2) hx hb dX7_current_289 (by decide) ?_
                      refine lv_icmp_ne (tgt := 297) hx hb dX7_current_290 (by decide) (fun _ => ?_) (fun c_290_116 => absurd c_290_116 (by decide))
                      refine lv_iload hx hb dX7_current_297 (lv_at hl 2 rfl) ?_
                      refine lv_iconst (v := nI 1) hx hb dX7_current_299 (by decide) ?_
                      refine lv_icmp_eq (tgt := 309) hx hb dX7_current_300 (by decide) (fun c_300_117 => absurd c_300_117 (by decide)) (fun _ => ?_)
                      refine lv_iload hx hb dX7_current_303 (lv_at hl 2 rfl) ?_
                      refine lv_iconst (v := nI 3) hx hb dX7_current_305 (by decide) ?_
                      refine lv_icmp_ne (tgt := 314) hx hb dX7_current_306 (by decide) (fun _ => ?_) (fun c_306_118 => absurd c_306_118 (by decide))
                      refine lv_iload hx hb dX7_current_314 (lv_at hl 2 rfl) ?_
                      refine lv_if_eq (tgt := 325) hx hb dX7_current_316 (by decide) (fun _ => ?_) (fun c_316_119 => absurd c_316_119 (by decide))
                      refine lv_dconst0 hx hb dX7_current_325 ?_
                      refine lv_goto (tgt := 346) hx hb dX7_current_326 (by decide) ?_
                      refine xds hx hb hK hD hP hS 18 0 (((nN, px, py, pz, fx, fy, fz, lf, ld, fi), (nB, fr, tt, ln, wi, sg, pu), (nR, (vf_upd rd a d), (vf_upd rx a sp_), (vf_upd ry a FP.dconst0), wv, fo), (re, dg), (nP, tp, bt, dp)), (nQ, fu)) rfl rfl (j := a) (by decide) (by omega) rfl dX7_current_346 (fun H locs hP hS => ?_)
                      refine lv_iconst (v := nI 1) hx hb dX7_current_347 (by decide) ?_
                      exact hret hS hP dX7_current_348 (Or.inr rfl) (⟨Or.inl ⟨0, a, he, b_3, b_5, hdir, hA, Or.inl ⟨⟨by omega, c_107_112⟩, rfl, rfl⟩⟩, rfl⟩)
                    · skip
                      refine lv_dload_n hx hb dX7_current_199 rfl (lv_at hl 4 rfl) ?_
                      refine lv_ldc2d hx hb hown c_139 dX7_current_200 ?_
                      have h_121 : fB (1028) (FP.dmul (sp_) (4604544271217802189)) := fB_mul hsp (fB_lit (K := 1023) (a := 4604544271217802189) (by decide +kernel)) (by omega) (by omega) (by omega)
                      refine lv_dmul hx hb dX7_current_203 (fB_ne h_121 (by omega)) ?_
                      refine lv_dstore (lv' := [(9, .double (FP.dmul (sp_) (4604544271217802189))), (8, .int (nI a)), (7, .int (nI 1)), (0, .ref (ad 0)), (1, .double (d)), (3, .double (sp_)), (5, .double (e8 nd))]) hx hb dX7_current_204 hl (by decide) rfl (fun ls hl => ?_)
                      refine lv_aload_n hx hb dX7_current_206 rfl (lv_at hl 3 rfl) ?_
                      refine va_get (D := D) (ci := 7) (v := .ref (ad 16)) (C := RX7) (T := TX7) (N := 31) hx hb hts iX7_current_X7 hown hK hP 0 rfl rfl 18 (by decide) f_57 (fun _ h9 => h9) rfl dX7_current_207 ?_
                      refine lv_iload hx hb dX7_current_210 (lv_at hl 1 rfl) ?_
                      refine lv_dload_n hx hb dX7_current_212 rfl (lv_at hl 4 rfl) ?_
                      refine xds hx hb hK hD hP hS 16 0 (((nN, px, py, pz, fx, fy, fz, lf, ld, fi), (nB, fr, tt, ln, wi, sg, pu), (nR, (vf_upd rd a d), rx, ry, wv, fo), (re, dg), (nP, tp, bt, dp)), (nQ, fu)) rfl rfl (j := a) (by decide) (by omega) rfl dX7_current_213 (fun H locs hP hS => ?_)
                      refine lv_aload_n hx hb dX7_current_214 rfl (lv_at hl 3 rfl) ?_
                      refine va_get (D := D) (ci := 7) (v := .ref (ad 17)) (C := RX7) (T := TX7) (N := 31) hx hb hts iX7_current_X7 hown hK hP 0 rfl rfl 19 (by decide) f_60 (fun _ h9 => h9) rfl dX7_current_215 ?_
                      refine lv_iload hx hb dX7_current_218 (lv_at hl 1 rfl) ?_
                      refine lv_iload hx hb dX7_current_220 (lv_at hl 2 rfl) ?_
                      refine lv_if_ne (tgt := 229) hx hb dX7_current_222 (by decide) (fun _ => ?_) (fun c_222_122 => absurd c_222_122 (by decide))
                      refine lv_iload hx hb dX7_current_229 (lv_at hl 2 rfl) ?_
                      refine lv_iconst (v := nI 1) hx hb dX7_current_231 (by decide) ?_
                      refine lv_icmp_eq (tgt := 242) hx hb dX7_current_232 (by decide) (fun _ => ?_) (fun c_232_123 => absurd c_232_123 (by decide))
                      refine lv_dload hx hb dX7_current_242 (lv_at hl 0 rfl) ?_
                      refine lv_goto (tgt := 280) hx hb dX7_current_244 (by decide) ?_
                      refine xds hx hb hK hD hP hS 17 0 (((nN, px, py, pz, fx, fy, fz, lf, ld, fi), (nB, fr, tt, ln, wi, sg, pu), (nR, (vf_upd rd a d), (vf_upd rx a (FP.dmul (sp_) (4604544271217802189))), ry, wv, fo), (re, dg), (nP, tp, bt, dp)), (nQ, fu)) rfl rfl (j := a) (by decide) (by omega) rfl dX7_current_280 (fun H locs hP hS => ?_)
                      refine lv_aload_n hx hb dX7_current_281 rfl (lv_at hl 3 rfl) ?_
                      refine va_get (D := D) (ci := 7) (v := .ref (ad 18)) (C := RX7) (T := TX7) (N := 31) hx hb hts iX7_current_X7 hown hK hP 0 rfl rfl 20 (by decide) f_63 (fun _ h9 => h9) rfl dX7_current_282 ?_
                      refine lv_iload hx hb dX7_current_285 (lv_at hl 1 rfl) ?_
                      refine lv_iload hx hb dX7_current_287 (lv_at hl 2 rfl) ?_
                      refine lv_iconst (v := nI 2) hx hb dX7_current_289 (by decide) ?_
                      refine lv_icmp_ne (tgt := 297) hx hb dX7_current_290 (by decide) (fun _ => ?_) (fun c_290_124 => absurd c_290_124 (by decide))
                      refine lv_iload hx hb dX7_current_297 (lv_at hl 2 rfl) ?_
                      refine lv_iconst (v := nI 1) hx hb dX7_current_299 (by decide) ?_
                      refine lv_icmp_eq (tgt := 309) hx hb dX7_current_300 (by decide) (fun _ => ?_) (fun c_300_125 => absurd c_300_125 (by decide))
                      refine lv_dload hx hb dX7_current_309 (lv_at hl 0 rfl) ?_
                      refine lv_goto (tgt := 346) hx hb dX7_current_311 (by decide) ?_
                      refine xds hx hb hK hD hP hS 18 0 (((nN, px, py, pz, fx, fy, fz, lf, ld, fi), (nB, fr, tt, ln, wi, sg, pu), (nR, (vf_upd rd a d), (vf_upd rx a (FP.dmul (sp_) (4604544271217802189))), (vf_upd ry a (FP.dmul (sp_) (4604544271217802189))), wv, fo), (re, dg), (nP, tp, bt, dp)), (nQ, fu)) rfl rfl (j := a) (by decide) (by omega) rfl dX7_current_346 (fun H locs hP hS => ?_)
                      refine lv_iconst (v := nI 1) hx hb dX7_current_347 (by decide) ?_
                      exact hret hS hP dX7_current_348 (Or.inr rfl) (⟨Or.inl ⟨1, a, he, b_3, b_5, hdir, hA, Or.inl ⟨⟨by omega, c_107_112⟩, rfl, rfl⟩⟩, rfl⟩)
                    · skip
                      refine lv_dload_n hx hb dX7_current_199 rfl (lv_at hl 4 rfl) ?_
                      refine lv_ldc2d hx hb hown c_139 dX7_current_200 ?_
                      have h_127 : fB (1028) (FP.dmul (sp_) (4604544271217802189)) := fB_mul hsp (fB_lit (K := 1023) (a := 4604544271217802189) (by decide +kernel)) (by omega) (by omega) (by omega)
                      refine lv_dmul hx hb dX7_current_203 (fB_ne h_127 (by omega)) ?_
                      refine lv_dstore (lv' := [(9, .double (FP.dmul (sp_) (4604544271217802189))), (8, .int (nI a)), (7, .int (nI 2)), (0, .ref (ad 0)), (1, .double (d)), (3, .double (sp_)), (5, .double (e8 nd))]) hx hb dX7_current_204 hl (by decide) rfl (fun ls hl => ?_)
                      refine lv_aload_n hx hb dX7_current_206 rfl (lv_at hl 3 rfl) ?_
                      refine va_get (D := D) (ci := 7) (v := .ref (ad 16)) (C := RX7) (T := TX7) (N := 31) hx hb hts iX7_current_X7 hown hK hP 0 rfl rfl 18 (by decide) f_57 (fun _ h9 => h9) rfl dX7_current_207 ?_
                      refine lv_iload hx hb dX7_current_210 (lv_at hl 1 rfl) ?_
                      refine lv_dload_n hx hb dX7_current_212 rfl (lv_at hl 4 rfl) ?_
                      refine xds hx hb hK hD hP hS 16 0 (((nN, px, py, pz, fx, fy, fz, lf, ld, fi), (nB, fr, tt, ln, wi, sg, pu), (nR, (vf_upd rd a d), rx, ry, wv, fo), (re, dg), (nP, tp, bt, dp)), (nQ, fu)) rfl rfl (j := a) (by decide) (by omega) rfl dX7_current_213 (fun H locs hP hS => ?_)
                      refine lv_aload_n hx hb dX7_current_214 rfl (lv_at hl 3 rfl) ?_
                      refine va_get (D := D) (ci := 7) (v := .ref (ad 17)) (C := RX7) (T := TX7) (N := 31) hx hb hts iX7_current_X7 hown hK hP 0 rfl rfl 19 (by decide) f_60 (fun _ h9 => h9) rfl dX7_current_215 ?_
                      refine lv_iload hx hb dX7_current_218 (lv_at hl 1 rfl) ?_
                      refine lv_iload hx hb dX7_current_220 (lv_at hl 2 rfl) ?_
                      refine lv_if_ne (tgt := 229) hx hb dX7_current_222 (by decide) (fun _ => ?_) (fun c_222_128 => absurd c_222_128 (by decide))
                      refine lv_iload hx hb dX7_current_229 (lv_at hl 2 rfl) ?_
                      refine lv_iconst (v := nI 1) hx hb dX7_current_231 (by decide) ?_
                      refine lv_icmp_eq (tgt := 242) hx hb dX7_current_232 (by decide) (fun c_232_129 => absurd c_232_129 (by decide)) (fun _ => ?_)
                      refine lv_iload hx hb dX7_current_235 (lv_at hl 2 rfl) ?_
                      refine lv_bipush (v := nI 7) hx hb dX7_current_237 (by decide) ?_
                      refine lv_icmp_ne (tgt := 247) hx hb dX7_current_239 (by decide) (fun _ => ?_) (fun c_239_130 => absurd c_239_130 (by decide))
                      refine lv_iload hx hb dX7_current_247 (lv_at hl 2 rfl) ?_
                      refine lv_iconst (v := nI 2) hx hb dX7_current_249 (by decide) ?_
                      refine lv_icmp_eq (tgt := 260) hx hb dX7_current_250 (by decide) (fun _ => ?_) (fun c_250_131 => absurd c_250_131 (by decide))
                      refine lv_dconst0 hx hb dX7_current_260 ?_
                      refine lv_goto (tgt := 280) hx hb dX7_current_261 (by decide) ?_
                      refine xds hx hb hK hD hP hS 17 0 (((nN, px, py, pz, fx, fy, fz, lf, ld, fi), (nB, fr, tt, ln, wi, sg, pu), (nR, (vf_upd rd a d), (vf_upd rx a FP.dconst0), ry, wv, fo), (re, dg), (nP, tp, bt, dp)), (nQ, fu)) rfl rfl (j := a) (by decide) (by omega) rfl dX7_current_280 (fun H locs hP hS => ?_)
                      refine lv_aload_n hx hb dX7_current_281 rfl (lv_at hl 3 rfl) ?_
                      refine va_get (D := D) (ci := 7) (v := .ref (ad 18)) (C := RX7) (T := TX7) (N := 31) hx hb hts iX7_current_X7 hown hK hP 0 rfl rfl 20 (by decide) f_63 (fun _ h9 => h9) rfl dX7_current_282 ?_
                      refine lv_iload hx hb dX7_current_285 (lv_at hl 1 rfl) ?_
                      refine lv_iload hx hb dX7_current_287 (lv_at hl 2 rfl) ?_
                      refine lv_iconst (v := nI 2) hx hb dX7_current_289 (by decide) ?_
                      refine lv_icmp_ne (tgt := 297) hx hb dX7_current_290 (by decide) (fun c_290_132 => absurd c_290_132 (by decide)) (fun _ => ?_)
                      refine lv_dload_n hx hb dX7_current_293 rfl (lv_at hl 5 rfl) ?_
                      refine lv_goto (tgt := 346) hx hb dX7_current_294 (by decide) ?_
                      refine xds hx hb hK hD hP hS 18 0 (((nN, px, py, pz, fx, fy, fz, lf, ld, fi), (nB, fr, tt, ln, wi, sg, pu), (nR, (vf_upd rd a d), (vf_upd rx a FP.dconst0), (vf_upd ry a sp_), wv, fo), (re, dg), (nP, tp, bt, dp)), (nQ, fu)) rfl rfl (j := a) (by decide) (by omega) rfl dX7_current_346 (fun H locs hP hS => ?_)
                      refine lv_iconst (v := nI 1) hx hb dX7_current_347 (by decide) ?_
                      exact hret hS hP dX7_current_348 (Or.inr rfl) (⟨Or.inl ⟨2, a, he, b_3, b_5, hdir, hA, Or.inl ⟨⟨by omega, c_107_112⟩, rfl, rfl⟩⟩, rfl⟩)
                    · skip
                      refine lv_dload_n hx hb dX7_current_199 rfl (lv_at hl 4 rfl) ?_
                      refine lv_ldc2d hx hb hown c_139 dX7_current_200 ?_
                      have h_134 : fB (1028) (FP.dmul (sp_) (4604544271217802189)) := fB_mul hsp (fB_lit (K := 1023) (a := 4604544271217802189) (by decide +kernel)) (by omega) (by omega) (by omega)
                      refine lv_dmul hx hb dX7_current_203 (fB_ne h_134 (by omega)) ?_
                      refine lv_dstore (lv' := [(9, .double (FP.dmul (sp_) (4604544271217802189))), (8, .int (nI a)), (7, .int (nI 3)), (0, .ref (ad 0)), (1, .double (d)), (3, .double (sp_)), (5, .double (e8 nd))]) hx hb dX7_current_204 hl (by decide) rfl (fun ls hl => ?_)
                      refine lv_aload_n hx hb dX7_current_206 rfl (lv_at hl 3 rfl) ?_
                      refine va_get (D := D) (ci := 7) (v := .ref (ad 16)) (C := RX7) (T := TX7) (N := 31) hx hb hts iX7_current_X7 hown hK hP 0 rfl rfl 18 (by decide) f_57 (fun _ h9 => h9) rfl dX7_current_207 ?_
                      refine lv_iload hx hb dX7_current_210 (lv_at hl 1 rfl) ?_
                      refine lv_dload_n hx hb dX7_current_212 rfl (lv_at hl 4 rfl) ?_
                      refine xds hx hb hK hD hP hS 16 0 (((nN, px, py, pz, fx, fy, fz, lf, ld, fi), (nB, fr, tt, ln, wi, sg, pu), (nR, (vf_upd rd a d), rx, ry, wv, fo), (re, dg), (nP, tp, bt, dp)), (nQ, fu)) rfl rfl (j := a) (by decide) (by omega) rfl dX7_current_213 (fun H locs hP hS => ?_)
                      refine lv_aload_n hx hb dX7_current_214 rfl (lv_at hl 3 rfl) ?_
                      refine va_get (D := D) (ci := 7) (v := .ref (ad 17)) (C := RX7) (T := TX7) (N := 31) hx hb hts iX7_current_X7 hown hK hP 0 rfl rfl 19 (by decide) f_60 (fun _ h9 => h9) rfl dX7_current_215 ?_
                      refine lv_iload hx hb dX7_current_218 (lv_at hl 1 rfl) ?_
                      refine lv_iload hx hb dX7_current_220 (lv_at hl 2 rfl) ?_
                      refine lv_if_ne (tgt := 229) hx hb dX7_current_222 (by decide) (fun _ => ?_) (fun c_222_135 => absurd c_222_135 (by decide))
                      refine lv_iload hx hb dX7_current_229 (lv_at hl 2 rfl) ?_
                      refine lv_iconst (v := nI 1) hx hb dX7_current_231 (by decide) ?_
                      refine lv_icmp_eq (tgt := 242) hx hb dX7_current_232 (by decide) (fun c_232_136 => absurd c_232_136 (by decide)) (fun _ => ?_)
                      refine lv_iload hx hb dX7_current_235 (lv_at hl 2 rfl) ?_
                      refine lv_bipush (v := nI 7) hx hb dX7_current_237 (by decide) ?_
                      refine lv_icmp_ne (tgt := 247) hx hb dX7_current_239 (by decide) (fun _ => ?_) (fun c_239_137 => absurd c_239_137 (by decide))
                      refine lv_iload hx hb dX7_current_247 (lv_at hl 2 rfl) ?_
                      refine lv_iconst (v := nI 2) hx hb dX7_current_249 (by decide) ?_
                      refine lv_icmp_eq (tgt := 260) hx hb dX7_current_250 (by decide) (fun c_250_138 => absurd c_250_138 (by decide)) (fun _ => ?_)
                      refine lv_iload hx hb dX7_current_253 (lv_at hl 2 rfl) ?_
                      refine lv_bipush (v := nI 6) hx hb dX7_current_255 (by decide) ?_
                      refine lv_icmp_ne (tgt := 264) hx hb dX7_current_257 (by decide) (fun _ => ?_) (fun c_257_139 => absurd c_257_139 (by decide))
                      refine lv_iload hx hb dX7_current_264 (lv_at hl 2 rfl) ?_
                      refine lv_iconst (v := nI 4) hx hb dX7_current_266 (by decide) ?_
                      refine lv_icmp_ne (tgt := 276) hx hb dX7_current_267 (by decide) (fun _ => ?_) (fun c_267_140 => absurd c_267_140 (by decide))
                      refine lv_dconst0 hx hb dX7_current_276 ?_
                      refine lv_dload hx hb dX7_current_277 (lv_at hl 0 rfl) ?_
                      have h_142 : fB (1030) (FP.dsub (FP.dconst0) (FP.dmul (sp_) (4604544271217802189))) := fB_sub (M := 1028) fB_c0 h_134 (by omega) (by omega) (by omega)
                      refine lv_dsub hx hb dX7_current_279 (fB_ne h_142 (by omega)) ?_
                      refine xds hx hb hK hD hP hS 17 0 (((nN, px, py, pz, fx, fy, fz, lf, ld, fi), (nB, fr, tt, ln, wi, sg, pu), (nR, (vf_upd rd a d), (vf_upd rx a (FP.dsub (FP.dconst0) (FP.dmul (sp_) (4604544271217802189)))), ry, wv, fo), (re, dg), (nP, tp, bt, dp)), (nQ, fu)) rfl rfl (j := a) (by decide) (by omega) rfl dX7_current_280 (fun H locs hP hS => ?_)
                      refine lv_aload_n hx hb dX7_current_281 rfl (lv_at hl 3 rfl) ?_
                      refine va_get (D := D) (ci := 7) (v := .ref (ad 18)) (C := RX7) (T := TX7) (N := 31) hx hb hts iX7_current_X7 hown hK hP 0 rfl rfl 20 (by decide) f_63 (fun _ h9 => h9) rfl dX7_current_282 ?_
                      refine lv_iload hx hb dX7_current_285 (lv_at hl 1 rfl) ?_
                      refine lv_iload hx hb dX7_current_287 (lv_at hl 2 rfl) ?_
                      refine lv_iconst (v := nI 2) hx hb dX7_current_289 (by decide) ?_
                      refine lv_icmp_ne (tgt := 297) hx hb dX7_current_290 (by decide) (fun _ => ?_) (fun c_290_143 => absurd c_290_143 (by decide))
                      refine lv_iload hx hb dX7_current_297 (lv_at hl 2 rfl) ?_
                      refine lv_iconst (v := nI 1) hx hb dX7_current_299 (by decide) ?_
                      refine lv_icmp_eq (tgt := 309) hx hb dX7_current_300 (by decide) (fun c_300_144 => absurd c_300_144 (by decide)) (fun _ => ?_)
                      refine lv_iload hx hb dX7_current_303 (lv_at hl 2 rfl) ?_
                      refine lv_iconst (v := nI 3) hx hb dX7_current_305 (by decide) ?_
                      refine lv_icmp_ne (tgt := 314) hx hb dX7_current_306 (by decide) (fun c_306_145 => absurd c_306_145 (by decide)) (fun _ => ?_)
                      refine lv_dload hx hb dX7_current_309 (lv_at hl 0 rfl) ?_
                      refine lv_goto (tgt := 346) hx hb dX7_current_311 (by decide) ?_
                      refine xds hx hb hK hD hP hS 18 0 (((nN, px, py, pz, fx, fy, fz, lf, ld, fi), (nB, fr, tt, ln, wi, sg, pu), (nR, (vf_upd rd a d), (vf_upd rx a (FP.dsub (FP.dconst0) (FP.dmul (sp_) (4604544271217802189)))), (vf_upd ry a (FP.dmul (sp_) (4604544271217802189))), wv, fo), (re, dg), (nP, tp, bt, dp)), (nQ, fu)) rfl rfl (j := a) (by decide) (by omega) rfl dX7_current_346 (fun H locs hP hS => ?_)
                      refine lv_iconst (v := nI 1) hx hb dX7_current_347 (by decide) ?_
                      exact hret hS hP dX7_current_348 (Or.inr rfl) (⟨Or.inl ⟨3, a, he, b_3, b_5, hdir, hA, Or.inl ⟨⟨by omega, c_107_112⟩, rfl, rfl⟩⟩, rfl⟩)
                    · skip
                      refine lv_dload_n hx hb dX7_current_199 rfl (lv_at hl 4 rfl) ?_
                      refine lv_ldc2d hx hb hown c_139 dX7_current_200 ?_
                      have h_147 : fB (1028) (FP.dmul (sp_) (4604544271217802189)) := fB_mul hsp (fB_lit (K := 1023) (a := 4604544271217802189) (by decide +kernel)) (by omega) (by omega) (by omega)
                      refine lv_dmul hx hb dX7_current_203 (fB_ne h_147 (by omega)) ?_
                      refine lv_dstore (lv' := [(9, .double (FP.dmul (sp_) (4604544271217802189))), (8, .int (nI a)), (7, .int (nI 4)), (0, .ref (ad 0)), (1, .double (d)), (3, .double (sp_)), (5, .double (e8 nd))]) hx hb dX7_current_204 hl (by decide) rfl (fun ls hl => ?_)
                      refine lv_aload_n hx hb dX7_current_206 rfl (lv_at hl 3 rfl) ?_
                      refine va_get (D := D) (ci := 7) (v := .ref (ad 16)) (C := RX7) (T := TX7) (N := 31) hx hb hts iX7_current_X7 hown hK hP 0 rfl rfl 18 (by decide) f_57 (fun _ h9 => h9) rfl dX7_current_207 ?_
                      refine lv_iload hx hb dX7_current_210 (lv_at hl 1 rfl) ?_
                      refine lv_dload_n hx hb dX7_current_212 rfl (lv_at hl 4 rfl) ?_
                      refine xds hx hb hK hD hP hS 16 0 (((nN, px, py, pz, fx, fy, fz, lf, ld, fi), (nB, fr, tt, ln, wi, sg, pu), (nR, (vf_upd rd a d), rx, ry, wv, fo), (re, dg), (nP, tp, bt, dp)), (nQ, fu)) rfl rfl (j := a) (by decide) (by omega) rfl dX7_current_213 (fun H locs hP hS => ?_)
                      refine lv_aload_n hx hb dX7_current_214 rfl (lv_at hl 3 rfl) ?_
                      refine va_get (D := D) (ci := 7) (v := .ref (ad 17)) (C := RX7) (T := TX7) (N := 31) hx hb hts iX7_current_X7 hown hK hP 0 rfl rfl 19 (by decide) f_60 (fun _ h9 => h9) rfl dX7_current_215 ?_
                      refine lv_iload hx hb dX7_current_218 (lv_at hl 1 rfl) ?_
                      refine lv_iload hx hb dX7_current_220 (lv_at hl 2 rfl) ?_
                      refine lv_if_ne (tgt := 229) hx hb dX7_current_222 (by decide) (fun _ => ?_) (fun c_222_148 => absurd c_222_148 (by decide))
                      refine lv_iload hx hb dX7_current_229 (lv_at hl 2 rfl) ?_
                      refine lv_iconst (v := nI 1) hx hb dX7_current_231 (by decide) ?_
                      refine lv_icmp_eq (tgt := 242) hx hb dX7_current_232 (by decide) (fun c_232_149 => absurd c_232_149 (by decide)) (fun _ => ?_)
                      refine lv_iload hx hb dX7_current_235 (lv_at hl 2 rfl) ?_
                      refine lv_bipush (v := nI 7) hx hb dX7_current_237 (by decide) ?_
                      refine lv_icmp_ne (tgt := 247) hx hb dX7_current_239 (by decide) (fun _ => ?_) (fun c_239_150 => absurd c_239_150 (by decide))
                      refine lv_iload hx hb dX7_current_247 (lv_at hl 2 rfl) ?_
                      refine lv_iconst (v := nI 2) hx hb dX7_current_249 (by decide) ?_
                      refine lv_icmp_eq (tgt := 260) hx hb dX7_current_250 (by decide) (fun c_250_151 => absurd c_250_151 (by decide)) (fun _ => ?_)
                      refine lv_iload hx hb dX7_current_253 (lv_at hl 2 rfl) ?_
                      refine lv_bipush (v := nI 6) hx hb dX7_current_255 (by decide) ?_
                      refine lv_icmp_ne (tgt := 264) hx hb dX7_current_257 (by decide) (fun _ => ?_) (fun c_257_152 => absurd c_257_152 (by decide))
                      refine lv_iload hx hb dX7_current_264 (lv_at hl 2 rfl) ?_
                      refine lv_iconst (v := nI 4) hx hb dX7_current_266 (by decide) ?_
                      refine lv_icmp_ne (tgt := 276) hx hb dX7_current_267 (by decide) (fun c_267_153 => absurd c_267_153 (by decide)) (fun _ => ?_)
                      refine lv_dconst0 hx hb dX7_current_270 ?_
                      refine lv_dload_n hx hb dX7_current_271 rfl (lv_at hl 5 rfl) ?_
                      have h_155 : fB (1029) (FP.dsub (FP.dconst0) (sp_)) := fB_sub (M := 1027) fB_c0 hsp (by omega) (by omega) (by omega)
                      refine lv_dsub hx hb dX7_current_272 (fB_ne h_155 (by omega)) ?_
                      refine lv_goto (tgt := 280) hx hb dX7_current_273 (by decide) ?_
                      refine xds hx hb hK hD hP hS 17 0 (((nN, px, py, pz, fx, fy, fz, lf, ld, fi), (nB, fr, tt, ln, wi, sg, pu), (nR, (vf_upd rd a d), (vf_upd rx a (FP.dsub (FP.dconst0) (sp_))), ry, wv, fo), (re, dg), (nP, tp, bt, dp)), (nQ, fu)) rfl rfl (j := a) (by decide) (by omega) rfl dX7_current_280 (fun H locs hP hS => ?_)
                      refine lv_aload_n hx hb dX7_current_281 rfl (lv_at hl 3 rfl) ?_
                      refine va_get (D := D) (ci := 7) (v := .ref (ad 18)) (C := RX7) (T := TX7) (N := 31) hx hb hts iX7_current_X7 hown hK hP 0 rfl rfl 20 (by decide) f_63 (fun _ h9 => h9) rfl dX7_current_282 ?_
                      refine lv_iload hx hb dX7_current_285 (lv_at hl 1 rfl) ?_
                      refine lv_iload hx hb dX7_current_287 (lv_at hl 2 rfl) ?_
                      refine lv_iconst (v := nI 2) hx hb dX7_current_289 (by decide) ?_
                      refine lv_icmp_ne (tgt := 297) hx hb dX7_current_290 (by decide) (fun _ => ?_) (fun c_290_156 => absurd c_290_156 (by decide))
                      refine lv_iload hx hb dX7_current_297 (lv_at hl 2 rfl) ?_
                      refine lv_iconst (v := nI 1) hx hb dX7_current_299 (by decide) ?_
                      refine lv_icmp_eq (tgt := 309) hx hb dX7_current_300 (by decide) (fun c_300_157 => absurd c_300_157 (by decide)) (fun _ => ?_)
                      refine lv_iload hx hb dX7_current_303 (lv_at hl 2 rfl) ?_
                      refine lv_iconst (v := nI 3) hx hb dX7_current_305 (by decide) ?_
                      refine lv_icmp_ne (tgt := 314) hx hb dX7_current_306 (by decide) (fun _ => ?_) (fun c_306_158 => absurd c_306_158 (by decide))
                      refine lv_iload hx hb dX7_current_314 (lv_at hl 2 rfl) ?_
                      refine lv_if_eq (tgt := 325) hx hb dX7_current_316 (by decide) (fun c_316_159 => absurd c_316_159 (by decide)) (fun _ => ?_)
                      refine lv_iload hx hb dX7_current_319 (lv_at hl 2 rfl) ?_
                      refine lv_iconst (v := nI 4) hx hb dX7_current_321 (by decide) ?_
                      refine lv_icmp_ne (tgt := 329) hx hb dX7_current_322 (by decide) (fun c_322_160 => absurd c_322_160 (by decide)) (fun _ => ?_)
                      refine lv_dconst0 hx hb dX7_current_325 ?_
                      refine lv_goto (tgt := 346) hx hb dX7_current_326 (by decide) ?_
                      refine xds hx hb hK hD hP hS 18 0 (((nN, px, py, pz, fx, fy, fz, lf, ld, fi), (nB, fr, tt, ln, wi, sg, pu), (nR, (vf_upd rd a d), (vf_upd rx a (FP.dsub (FP.dconst0) (sp_))), (vf_upd ry a FP.dconst0), wv, fo), (re, dg), (nP, tp, bt, dp)), (nQ, fu)) rfl rfl (j := a) (by decide) (by omega) rfl dX7_current_346 (fun H locs hP hS => ?_)
                      refine lv_iconst (v := nI 1) hx hb dX7_current_347 (by decide) ?_
                      exact hret hS hP dX7_current_348 (Or.inr rfl) (⟨Or.inl ⟨4, a, he, b_3, b_5, hdir, hA, Or.inl ⟨⟨by omega, c_107_112⟩, rfl, rfl⟩⟩, rfl⟩)
                    · skip
                      refine lv_dload_n hx hb dX7_current_199 rfl (lv_at hl 4 rfl) ?_
                      refine lv_ldc2d hx hb hown c_139 dX7_current_200 ?_
                      have h_162 : fB (1028) (FP.dmul (sp_) (4604544271217802189)) := fB_mul hsp (fB_lit (K := 1023) (a := 4604544271217802189) (by decide +kernel)) (by omega) (by omega) (by omega)
                      refine lv_dmul hx hb dX7_current_203 (fB_ne h_162 (by omega)) ?_
                      refine lv_dstore (lv' := [(9, .double (FP.dmul (sp_) (4604544271217802189))), (8, .int (nI a)), (7, .int (nI 5)), (0, .ref (ad 0)), (1, .double (d)), (3, .double (sp_)), (5, .double (e8 nd))]) hx hb dX7_current_204 hl (by decide) rfl (fun ls hl => ?_)
                      refine lv_aload_n hx hb dX7_current_206 rfl (lv_at hl 3 rfl) ?_
                      refine va_get (D := D) (ci := 7) (v := .ref (ad 16)) (C := RX7) (T := TX7) (N := 31) hx hb hts iX7_current_X7 hown hK hP 0 rfl rfl 18 (by decide) f_57 (fun _ h9 => h9) rfl dX7_current_207 ?_
                      refine lv_iload hx hb dX7_current_210 (lv_at hl 1 rfl) ?_
                      refine lv_dload_n hx hb dX7_current_212 rfl (lv_at hl 4 rfl) ?_
                      refine xds hx hb hK hD hP hS 16 0 (((nN, px, py, pz, fx, fy, fz, lf, ld, fi), (nB, fr, tt, ln, wi, sg, pu), (nR, (vf_upd rd a d), rx, ry, wv, fo), (re, dg), (nP, tp, bt, dp)), (nQ, fu)) rfl rfl (j := a) (by decide) (by omega) rfl dX7_current_213 (fun H locs hP hS => ?_)
                      refine lv_aload_n hx hb dX7_current_214 rfl (lv_at hl 3 rfl) ?_
                      refine va_get (D := D) (ci := 7) (v := .ref (ad 17)) (C := RX7) (T := TX7) (N := 31) hx hb hts iX7_current_X7 hown hK hP 0 rfl rfl 19 (by decide) f_60 (fun _ h9 => h9) rfl dX7_current_215 ?_
                      refine lv_iload hx hb dX7_current_218 (lv_at hl 1 rfl) ?_
                      refine lv_iload hx hb dX7_current_220 (lv_at hl 2 rfl) ?_
                      refine lv_if_ne (tgt := 229) hx hb dX7_current_222 (by decide) (fun _ => ?_) (fun c_222_163 => absurd c_222_163 (by decide))
                      refine lv_iload hx hb dX7_current_229 (lv_at hl 2 rfl) ?_
                      refine lv_iconst (v := nI 1) hx hb dX7_current_231 (by decide) ?_
                      refine lv_icmp_eq (tgt := 242) hx hb dX7_current_232 (by decide) (fun c_232_164 => absurd c_232_164 (by decide)) (fun _ => ?_)
                      refine lv_iload hx hb dX7_current_235 (lv_at hl 2 rfl) ?_
                      refine lv_bipush (v := nI 7) hx hb dX7_current_237 (by decide) ?_
                      refine lv_icmp_ne (tgt := 247) hx hb dX7_current_239 (by decide) (fun _ => ?_) (fun c_239_165 => absurd c_239_165 (by decide))
                      refine lv_iload hx hb dX7_current_247 (lv_at hl 2 rfl) ?_
                      refine lv_iconst (v := nI 2) hx hb dX7_current_249 (by decide) ?_
                      refine lv_icmp_eq (tgt := 260) hx hb dX7_current_250 (by decide) (fun c_250_166 => absurd c_250_166 (by decide)) (fun _ => ?_)
                      refine lv_iload hx hb dX7_current_253 (lv_at hl 2 rfl) ?_
                      refine lv_bipush (v := nI 6) hx hb dX7_current_255 (by decide) ?_
                      refine lv_icmp_ne (tgt := 264) hx hb dX7_current_257 (by decide) (fun _ => ?_) (fun c_257_167 => absurd c_257_167 (by decide))
                      refine lv_iload hx hb dX7_current_264 (lv_at hl 2 rfl) ?_
                      refine lv_iconst (v := nI 4) hx hb dX7_current_266 (by decide) ?_
                      refine lv_icmp_ne (tgt := 276) hx hb dX7_current_267 (by decide) (fun _ => ?_) (fun c_267_168 => absurd c_267_168 (by decide))
                      refine lv_dconst0 hx hb dX7_current_276 ?_
                      refine lv_dload hx hb dX7_current_277 (lv_at hl 0 rfl) ?_
                      have h_170 : fB (1030) (FP.dsub (FP.dconst0) (FP.dmul (sp_) (4604544271217802189))) := fB_sub (M := 1028) fB_c0 h_162 (by omega) (by omega) (by omega)
                      refine lv_dsub hx hb dX7_current_279 (fB_ne h_170 (by omega)) ?_
                      refine xds hx hb hK hD hP hS 17 0 (((nN, px, py, pz, fx, fy, fz, lf, ld, fi), (nB, fr, tt, ln, wi, sg, pu), (nR, (vf_upd rd a d), (vf_upd rx a (FP.dsub (FP.dconst0) (FP.dmul (sp_) (4604544271217802189)))), ry, wv, fo), (re, dg), (nP, tp, bt, dp)), (nQ, fu)) rfl rfl (j := a) (by decide) (by omega) rfl dX7_current_280 (fun H locs hP hS => ?_)
                      refine lv_aload_n hx hb dX7_current_281 rfl (lv_at hl 3 rfl) ?_
                      refine va_get (D := D) (ci := 7) (v := .ref (ad 18)) (C := RX7) (T := TX7) (N := 31) hx hb hts iX7_current_X7 hown hK hP 0 rfl rfl 20 (by decide) f_63 (fun _ h9 => h9) rfl dX7_current_282 ?_
                      refine lv_iload hx hb dX7_current_285 (lv_at hl 1 rfl) ?_
                      refine lv_iload hx hb dX7_current_287 (lv_at hl 2 rfl) ?_
                      refine lv_iconst (v := nI 2) hx hb dX7_current_289 (by decide) ?_
                      refine lv_icmp_ne (tgt := 297) hx hb dX7_current_290 (by decide) (fun _ => ?_) (fun c_290_171 => absurd c_290_171 (by decide))
                      refine lv_iload hx hb dX7_current_297 (lv_at hl 2 rfl) ?_
                      refine lv_iconst (v := nI 1) hx hb dX7_current_299 (by decide) ?_
                      refine lv_icmp_eq (tgt := 309) hx hb dX7_current_300 (by decide) (fun c_300_172 => absurd c_300_172 (by decide)) (fun _ => ?_)
                      refine lv_iload hx hb dX7_current_303 (lv_at hl 2 rfl) ?_
                      refine lv_iconst (v := nI 3) hx hb dX7_current_305 (by decide) ?_
                      refine lv_icmp_ne (tgt := 314) hx hb dX7_current_306 (by decide) (fun _ => ?_) (fun c_306_173 => absurd c_306_173 (by decide))
                      refine lv_iload hx hb dX7_current_314 (lv_at hl 2 rfl) ?_
                      refine lv_if_eq (tgt := 325) hx hb dX7_current_316 (by decide) (fun c_316_174 => absurd c_316_174 (by decide)) (fun _ => ?_)
                      refine lv_iload hx hb dX7_current_319 (lv_at hl 2 rfl) ?_
                      refine lv_iconst (v := nI 4) hx hb dX7_current_321 (by decide) ?_
                      refine lv_icmp_ne (tgt := 329) hx hb dX7_current_322 (by decide) (fun _ => ?_) (fun c_322_175 => absurd c_322_175 (by decide))
                      refine lv_iload hx hb dX7_current_329 (lv_at hl 2 rfl) ?_
                      refine lv_bipush (v := nI 6) hx hb dX7_current_331 (by decide) ?_
                      refine lv_icmp_ne (tgt := 342) hx hb dX7_current_333 (by decide) (fun _ => ?_) (fun c_333_176 => absurd c_333_176 (by decide))
                      refine lv_dconst0 hx hb dX7_current_342 ?_
                      refine lv_dload hx hb dX7_current_343 (lv_at hl 0 rfl) ?_
                      have h_178 : fB (1030) (FP.dsub (FP.dconst0) (FP.dmul (sp_) (4604544271217802189))) := fB_sub (M := 1028) fB_c0 h_162 (by omega) (by omega) (by omega)
                      refine lv_dsub hx hb dX7_current_345 (fB_ne h_178 (by omega)) ?_
                      refine xds hx hb hK hD hP hS 18 0 (((nN, px, py, pz, fx, fy, fz, lf, ld, fi), (nB, fr, tt, ln, wi, sg, pu), (nR, (vf_upd rd a d), (vf_upd rx a (FP.dsub (FP.dconst0) (FP.dmul (sp_) (4604544271217802189)))), (vf_upd ry a (FP.dsub (FP.dconst0) (FP.dmul (sp_) (4604544271217802189)))), wv, fo), (re, dg), (nP, tp, bt, dp)), (nQ, fu)) rfl rfl (j := a) (by decide) (by omega) rfl dX7_current_346 (fun H locs hP hS => ?_)
                      refine lv_iconst (v := nI 1) hx hb dX7_current_347 (by decide) ?_
                      exact hret hS hP dX7_current_348 (Or.inr rfl) (⟨Or.inl ⟨5, a, he, b_3, b_5, hdir, hA, Or.inl ⟨⟨by omega, c_107_112⟩, rfl, rfl⟩⟩, rfl⟩)
                    · skip
                      refine lv_dload_n hx hb dX7_current_199 rfl (lv_at hl 4 rfl) ?_
                      refine lv_ldc2d hx hb hown c_139 dX7_current_200 ?_
                      have h_180 : fB (1028) (FP.dmul (sp_) (4604544271217802189)) := fB_mul hsp (fB_lit (K := 1023) (a := 4604544271217802189) (by decide +kernel)) (by omega) (by omega) (by omega)
                      refine lv_dmul hx hb dX7_current_203 (fB_ne h_180 (by omega)) ?_
                      refine lv_dstore (lv' := [(9, .double (FP.dmul (sp_) (4604544271217802189))), (8, .int (nI a)), (7, .int (nI 6)), (0, .ref (ad 0)), (1, .double (d)), (3, .double (sp_)), (5, .double (e8 nd))]) hx hb dX7_current_204 hl (by decide) rfl (fun ls hl => ?_)
                      refine lv_aload_n hx hb dX7_current_206 rfl (lv_at hl 3 rfl) ?_
                      refine va_get (D := D) (ci := 7) (v := .ref (ad 16)) (C := RX7) (T := TX7) (N := 31) hx hb hts iX7_current_X7 hown hK hP 0 rfl rfl 18 (by decide) f_57 (fun _ h9 => h9) rfl dX7_current_207 ?_
                      refine lv_iload hx hb dX7_current_210 (lv_at hl 1 rfl) ?_
                      refine lv_dload_n hx hb dX7_current_212 rfl (lv_at hl 4 rfl) ?_
                      refine xds hx hb hK hD hP hS 16 0 (((nN, px, py, pz, fx, fy, fz, lf, ld, fi), (nB, fr, tt, ln, wi, sg, pu), (nR, (vf_upd rd a d), rx, ry, wv, fo), (re, dg), (nP, tp, bt, dp)), (nQ, fu)) rfl rfl (j := a) (by decide) (by omega) rfl dX7_current_213 (fun H locs hP hS => ?_)
                      refine lv_aload_n hx hb dX7_current_214 rfl (lv_at hl 3 rfl) ?_
                      refine va_get (D := D) (ci := 7) (v := .ref (ad 17)) (C := RX7) (T := TX7) (N := 31) hx hb hts iX7_current_X7 hown hK hP 0 rfl rfl 19 (by decide) f_60 (fun _ h9 => h9) rfl dX7_current_215 ?_
                      refine lv_iload hx hb dX7_current_218 (lv_at hl 1 rfl) ?_
                      refine lv_iload hx hb dX7_current_220 (lv_at hl 2 rfl) ?_
                      refine lv_if_ne (tgt := 229) hx hb dX7_current_222 (by decide) (fun _ => ?_) (fun c_222_181 => absurd c_222_181 (by decide))
                      refine lv_iload hx hb dX7_current_229 (lv_at hl 2 rfl) ?_
                      refine lv_iconst (v := nI 1) hx hb dX7_current_231 (by decide) ?_
                      refine lv_icmp_eq (tgt := 242) hx hb dX7_current_232 (by decide) (fun c_232_182 => absurd c_232_182 (by decide)) (fun _ => ?_)
                      refine lv_iload hx hb dX7_current_235 (lv_at hl 2 rfl) ?_
                      refine lv_bipush (v := nI 7) hx hb dX7_current_237 (by decide) ?_
                      refine lv_icmp_ne (tgt := 247) hx hb dX7_current_239 (by decide) (fun _ => ?_) (fun c_239_183 => absurd c_239_183 (by decide))
                      refine lv_iload hx hb dX7_current_247 (lv_at hl 2 rfl) ?_
                      refine lv_iconst (v := nI 2) hx hb dX7_current_249 (by decide) ?_
                      refine lv_icmp_eq (tgt := 260) hx hb dX7_current_250 (by decide) (fun c_250_184 => absurd c_250_184 (by decide)) (fun _ => ?_)
                      refine lv_iload hx hb dX7_current_253 (lv_at hl 2 rfl) ?_
                      refine lv_bipush (v := nI 6) hx hb dX7_current_255 (by decide) ?_
                      refine lv_icmp_ne (tgt := 264) hx hb dX7_current_257 (by decide) (fun c_257_185 => absurd c_257_185 (by decide)) (fun _ => ?_)
                      refine lv_dconst0 hx hb dX7_current_260 ?_
                      refine lv_goto (tgt := 280) hx hb dX7_current_261 (by decide) ?_
                      refine xds hx hb hK hD hP hS 17 0 (((nN, px, py, pz, fx, fy, fz, lf, ld, fi), (nB, fr, tt, ln, wi, sg, pu), (nR, (vf_upd rd a d), (vf_upd rx a FP.dconst0), ry, wv, fo), (re, dg), (nP, tp, bt, dp)), (nQ, fu)) rfl rfl (j := a) (by decide) (by omega) rfl dX7_current_280 (fun H locs hP hS => ?_)
                      refine lv_aload_n hx hb dX7_current_281 rfl (lv_at hl 3 rfl) ?_
                      refine va_get (D := D) (ci := 7) (v := .ref (ad 18)) (C := RX7) (T := TX7) (N := 31) hx hb hts iX7_current_X7 hown hK hP 0 rfl rfl 20 (by decide) f_63 (fun _ h9 => h9) rfl dX7_current_282 ?_
                      refine lv_iload hx hb dX7_current_285 (lv_at hl 1 rfl) ?_
                      refine lv_iload hx hb dX7_current_287 (lv_at hl 2 rfl) ?_
                      refine lv_iconst (v := nI 2) hx hb dX7_current_289 (by decide) ?_
                      refine lv_icmp_ne (tgt := 297) hx hb dX7_current_290 (by decide) (fun _ => ?_) (fun c_290_186 => absurd c_290_186 (by decide))
                      refine lv_iload hx hb dX7_current_297 (lv_at hl 2 rfl) ?_
                      refine lv_iconst (v := nI 1) hx hb dX7_current_299 (by decide) ?_
                      refine lv_icmp_eq (tgt := 309) hx hb dX7_current_300 (by decide) (fun c_300_187 => absurd c_300_187 (by decide)) (fun _ => ?_)
                      refine lv_iload hx hb dX7_current_303 (lv_at hl 2 rfl) ?_
                      refine lv_iconst (v := nI 3) hx hb dX7_current_305 (by decide) ?_
                      refine lv_icmp_ne (tgt := 314) hx hb dX7_current_306 (by decide) (fun _ => ?_) (fun c_306_188 => absurd c_306_188 (by decide))
                      refine lv_iload hx hb dX7_current_314 (lv_at hl 2 rfl) ?_
                      refine lv_if_eq (tgt := 325) hx hb dX7_current_316 (by decide) (fun c_316_189 => absurd c_316_189 (by decide)) (fun _ => ?_)
                      refine lv_iload hx hb dX7_current_319 (lv_at hl 2 rfl) ?_
                      refine lv_iconst (v := nI 4) hx hb dX7_current_321 (by decide) ?_
                      refine lv_icmp_ne (tgt := 329) hx hb dX7_current_322 (by decide) (fun _ => ?_) (fun c_322_190 => absurd c_322_190 (by decide))
                      refine lv_iload hx hb dX7_current_329 (lv_at hl 2 rfl) ?_
                      refine lv_bipush (v := nI 6) hx hb dX7_current_331 (by decide) ?_
                      refine lv_icmp_ne (tgt := 342) hx hb dX7_current_333 (by decide) (fun c_333_191 => absurd c_333_191 (by decide)) (fun _ => ?_)
                      refine lv_dconst0 hx hb dX7_current_336 ?_
                      refine lv_dload_n hx hb dX7_current_337 rfl (lv_at hl 5 rfl) ?_
                      have h_193 : fB (1029) (FP.dsub (FP.dconst0) (sp_)) := fB_sub (M := 1027) fB_c0 hsp (by omega) (by omega) (by omega)
                      refine lv_dsub hx hb dX7_current_338 (fB_ne h_193 (by omega)) ?_
                      refine lv_goto (tgt := 346) hx hb dX7_current_339 (by decide) ?_
                      refine xds hx hb hK hD hP hS 18 0 (((nN, px, py, pz, fx, fy, fz, lf, ld, fi), (nB, fr, tt, ln, wi, sg, pu), (nR, (vf_upd rd a d), (vf_upd rx a FP.dconst0), (vf_upd ry a (FP.dsub (FP.dconst0) (sp_))), wv, fo), (re, dg), (nP, tp, bt, dp)), (nQ, fu)) rfl rfl (j := a) (by decide) (by omega) rfl dX7_current_346 (fun H locs hP hS => ?_)
                      refine lv_iconst (v := nI 1) hx hb dX7_current_347 (by decide) ?_
                      exact hret hS hP dX7_current_348 (Or.inr rfl) (⟨Or.inl ⟨6, a, he, b_3, b_5, hdir, hA, Or.inl ⟨⟨by omega, c_107_112⟩, rfl, rfl⟩⟩, rfl⟩)
                    · skip
                      refine lv_dload_n hx hb dX7_current_199 rfl (lv_at hl 4 rfl) ?_
                      refine lv_ldc2d hx hb hown c_139 dX7_current_200 ?_
                      have h_195 : fB (1028) (FP.dmul (sp_) (4604544271217802189)) := fB_mul hsp (fB_lit (K := 1023) (a := 4604544271217802189) (by decide +kernel)) (by omega) (by omega) (by omega)
                      refine lv_dmul hx hb dX7_current_203 (fB_ne h_195 (by omega)) ?_
                      refine lv_dstore (lv' := [(9, .double (FP.dmul (sp_) (4604544271217802189))), (8, .int (nI a)), (7, .int (nI 7)), (0, .ref (ad 0)), (1, .double (d)), (3, .double (sp_)), (5, .double (e8 nd))]) hx hb dX7_current_204 hl (by decide) rfl (fun ls hl => ?_)
                      refine lv_aload_n hx hb dX7_current_206 rfl (lv_at hl 3 rfl) ?_
                      refine va_get (D := D) (ci := 7) (v := .ref (ad 16)) (C := RX7) (T := TX7) (N := 31) hx hb hts iX7_current_X7 hown hK hP 0 rfl rfl 18 (by decide) f_57 (fun _ h9 => h9) rfl dX7_current_207 ?_
                      refine lv_iload hx hb dX7_current_210 (lv_at hl 1 rfl) ?_
                      refine lv_dload_n hx hb dX7_current_212 rfl (lv_at hl 4 rfl) ?_
                      refine xds hx hb hK hD hP hS 16 0 (((nN, px, py, pz, fx, fy, fz, lf, ld, fi), (nB, fr, tt, ln, wi, sg, pu), (nR, (vf_upd rd a d), rx, ry, wv, fo), (re, dg), (nP, tp, bt, dp)), (nQ, fu)) rfl rfl (j := a) (by decide) (by omega) rfl dX7_current_213 (fun H locs hP hS => ?_)
                      refine lv_aload_n hx hb dX7_current_214 rfl (lv_at hl 3 rfl) ?_
                      refine va_get (D := D) (ci := 7) (v := .ref (ad 17)) (C := RX7) (T := TX7) (N := 31) hx hb hts iX7_current_X7 hown hK hP 0 rfl rfl 19 (by decide) f_60 (fun _ h9 => h9) rfl dX7_current_215 ?_
                      refine lv_iload hx hb dX7_current_218 (lv_at hl 1 rfl) ?_
                      refine lv_iload hx hb dX7_current_220 (lv_at hl 2 rfl) ?_
                      refine lv_if_ne (tgt := 229) hx hb dX7_current_222 (by decide) (fun _ => ?_) (fun c_222_196 => absurd c_222_196 (by decide))
                      refine lv_iload hx hb dX7_current_229 (lv_at hl 2 rfl) ?_
                      refine lv_iconst (v := nI 1) hx hb dX7_current_231 (by decide) ?_
                      refine lv_icmp_eq (tgt := 242) hx hb dX7_current_232 (by decide) (fun c_232_197 => absurd c_232_197 (by decide)) (fun _ => ?_)
                      refine lv_iload hx hb dX7_current_235 (lv_at hl 2 rfl) ?_
                      refine lv_bipush (v := nI 7) hx hb dX7_current_237 (by decide) ?_
                      refine lv_icmp_ne (tgt := 247) hx hb dX7_current_239 (by decide) (fun c_239_198 => absurd c_239_198 (by decide)) (fun _ => ?_)
                      refine lv_dload hx hb dX7_current_242 (lv_at hl 0 rfl) ?_
                      refine lv_goto (tgt := 280) hx hb dX7_current_244 (by decide) ?_
                      refine xds hx hb hK hD hP hS 17 0 (((nN, px, py, pz, fx, fy, fz, lf, ld, fi), (nB, fr, tt, ln, wi, sg, pu), (nR, (vf_upd rd a d), (vf_upd rx a (FP.dmul (sp_) (4604544271217802189))), ry, wv, fo), (re, dg), (nP, tp, bt, dp)), (nQ, fu)) rfl rfl (j := a) (by decide) (by omega) rfl dX7_current_280 (fun H locs hP hS => ?_)
                      refine lv_aload_n hx hb dX7_current_281 rfl (lv_at hl 3 rfl) ?_
                      refine va_get (D := D) (ci := 7) (v := .ref (ad 18)) (C := RX7) (T := TX7) (N := 31) hx hb hts iX7_current_X7 hown hK hP 0 rfl rfl 20 (by decide) f_63 (fun _ h9 => h9) rfl dX7_current_282 ?_
                      refine lv_iload hx hb dX7_current_285 (lv_at hl 1 rfl) ?_
                      refine lv_iload hx hb dX7_current_287 (lv_at hl 2 rfl) ?_
                      refine lv_iconst (v := nI 2) hx hb dX7_current_289 (by decide) ?_
                      refine lv_icmp_ne (tgt := 297) hx hb dX7_current_290 (by decide) (fun _ => ?_) (fun c_290_199 => absurd c_290_199 (by decide))
                      refine lv_iload hx hb dX7_current_297 (lv_at hl 2 rfl) ?_
                      refine lv_iconst (v := nI 1) hx hb dX7_current_299 (by decide) ?_
                      refine lv_icmp_eq (tgt := 309) hx hb dX7_current_300 (by decide) (fun c_300_200 => absurd c_300_200 (by decide)) (fun _ => ?_)
                      refine lv_iload hx hb dX7_current_303 (lv_at hl 2 rfl) ?_
                      refine lv_iconst (v := nI 3) hx hb dX7_current_305 (by decide) ?_
                      refine lv_icmp_ne (tgt := 314) hx hb dX7_current_306 (by decide) (fun _ => ?_) (fun c_306_201 => absurd c_306_201 (by decide))
                      refine lv_iload hx hb dX7_current_314 (lv_at hl 2 rfl) ?_
                      refine lv_if_eq (tgt := 325) hx hb dX7_current_316 (by decide) (fun c_316_202 => absurd c_316_202 (by decide)) (fun _ => ?_)
                      refine lv_iload hx hb dX7_current_319 (lv_at hl 2 rfl) ?_
                      refine lv_iconst (v := nI 4) hx hb dX7_current_321 (by decide) ?_
                      refine lv_icmp_ne (tgt := 329) hx hb dX7_current_322 (by decide) (fun _ => ?_) (fun c_322_203 => absurd c_322_203 (by decide))
                      refine lv_iload hx hb dX7_current_329 (lv_at hl 2 rfl) ?_
                      refine lv_bipush (v := nI 6) hx hb dX7_current_331 (by decide) ?_
                      refine lv_icmp_ne (tgt := 342) hx hb dX7_current_333 (by decide) (fun _ => ?_) (fun c_333_204 => absurd c_333_204 (by decide))
                      refine lv_dconst0 hx hb dX7_current_342 ?_
                      refine lv_dload hx hb dX7_current_343 (lv_at hl 0 rfl) ?_
                      have h_206 : fB (1030) (FP.dsub (FP.dconst0) (FP.dmul (sp_) (4604544271217802189))) := fB_sub (M := 1028) fB_c0 h_195 (by omega) (by omega) (by omega)
                      refine lv_dsub hx hb dX7_current_345 (fB_ne h_206 (by omega)) ?_
                      refine xds hx hb hK hD hP hS 18 0 (((nN, px, py, pz, fx, fy, fz, lf, ld, fi), (nB, fr, tt, ln, wi, sg, pu), (nR, (vf_upd rd a d), (vf_upd rx a (FP.dmul (sp_) (4604544271217802189))), (vf_upd ry a (FP.dsub (FP.dconst0) (FP.dmul (sp_) (4604544271217802189)))), wv, fo), (re, dg), (nP, tp, bt, dp)), (nQ, fu)) rfl rfl (j := a) (by decide) (by omega) rfl dX7_current_346 (fun H locs hP hS => ?_)
                      refine lv_iconst (v := nI 1) hx hb dX7_current_347 (by decide) ?_
                      exact hret hS hP dX7_current_348 (Or.inr rfl) (⟨Or.inl ⟨7, a, he, b_3, b_5, hdir, hA, Or.inl ⟨⟨by omega, c_107_112⟩, rfl, rfl⟩⟩, rfl⟩)
                  · skip
                    refine lv_aload_n hx hb dX7_current_111 rfl (lv_at hl 2 rfl) ?_
                    refine va_get (D := D) (ci := 7) (v := .int (nI nR)) (C := RX7) (T := TX7) (N := 31) hx hb hts iX7_current_X7 hown hK hP 0 rfl rfl 17 (by decide) f_132 (fun _ h9 => h9) rfl dX7_current_112 ?_
                    refine lv_bipush (v := nI 10) hx hb dX7_current_115 (by decide) ?_
                    refine lv_icmp_ne (tgt := 122) hx hb dX7_current_117 (by decide) (fun c_117_207 => ?_) (fun c_117_207 => ?_)
                    · skip
                      have c_117_207 : ¬ (nR = 10) := fun q => c_117_207 ((nI_eq (a := nR) (b := 10) (by omega) (by omega)).mpr q)
                      refine lv_aload_n hx hb dX7_current_122 rfl (lv_at hl 2 rfl) ?_
                      refine va_get (D := D) (ci := 7) (v := .int (nI nR)) (C := RX7) (T := TX7) (N := 31) hx hb hts iX7_current_X7 hown hK hP 0 rfl rfl 17 (by decide) f_132 (fun _ h9 => h9) rfl dX7_current_123 ?_
                      refine lv_istore (lv' := [(9, .int (nI nR)), (8, .int (nI a)), (7, .int (nI ei)), (0, .ref (ad 0)), (1, .double (d)), (3, .double (sp_)), (5, .double (e8 nd))]) hx hb dX7_current_126 hl (by decide) rfl (fun ls hl => ?_)
                      have L_128_208 : ∀ (n_128 t : Nat) , (nR + 1 ≤ t + n_128) → (a + t ≤ nR) → ∀ (H : Heap) (locs : List Loc), va_P D vwCl (WM cs ad (((nN, px, py, pz, fx, fy, fz, lf, ld, fi), (nB, fr, tt, ln, wi, sg, pu), (nR, (shf rd nR t), (shf rx nR t), (shf ry nR t), wv, fo), (re, dg), (nP, tp, bt, dp)), (nQ, fu))) H → va_S (gA (AM ad) s.heap.size) s.heap H locs → ∀ (ls : Array Slot), lv_has ls 11 [(9, .int (nI (nR - t))), (8, .int (nI a)), (7, .int (nI ei)), (0, .ref (ad 0)), (1, .double (d)), (3, .double (sp_)), (5, .double (e8 nd))] → W p l e ({ frames := 1, cells := 0, slots := 0, locals := 25 } : Room) s m ([.ref (ad 0), .double (d), .double (sp_), .double (e8 nd)] : List Value).toArray below meth c H locs 0 0 Q (F0 m 128 ls []) := by
                        intro n_128; induction n_128 with
                        | zero => intro t hf_128 ht H locs hP hS ls hl; exact absurd hf_128 (by omega)
                        | succ n_128 ih_128 =>
                          intro t hf_128 ht H locs hP hS ls hl
                          refine lv_iload hx hb dX7_current_128 (lv_at hl 0 rfl) ?_
                          refine lv_iload hx hb dX7_current_130 (lv_at hl 1 rfl) ?_
                          refine lv_icmp_le (tgt := 189) hx hb dX7_current_132 (by decide) (fun c_132_209 => ?_) (fun c_132_209 => ?_)
                          · skip
                            have c_132_209 : nR - t ≤ a := (nI_leI (a := nR - t) (b := a) (by omega) (by omega)).mp c_132_209
                            have et : t = nR - a := by omega
                            subst et
                            refine lv_aload_n hx hb dX7_current_189 rfl (lv_at hl 3 rfl) ?_
                            refine lv_dup hx hb dX7_current_190 rfl ?_
                            refine va_get (D := D) (ci := 7) (v := .int (nI nR)) (C := RX7) (T := TX7) (N := 31) hx hb hts iX7_current_X7 hown hK hP 0 rfl rfl 17 (by decide) f_132 (fun _ h9 => h9) rfl dX7_current_191 ?_
                            refine lv_iconst (v := nI 1) hx hb dX7_current_194 (by decide) ?_
                            refine xia hx hb (nR + 1) dX7_current_195 rfl ?_
                            refine xput (D := D) (ci := 7) (v := .int (nI (nR + 1))) (ty := .int) (C := RX7) (T := TX7) (N := 31) hx hb hts iX7_current_X7 tyX7 tyX7_ok nmX7 hown hK hD hP hS 0 (((nN, px, py, pz, fx, fy, fz, lf, ld, fi), (nB, fr, tt, ln, wi, sg, pu), ((nR + 1), (shf rd nR (nR - a)), (shf rx nR (nR - a)), (shf ry nR (nR - a)), wv, fo), (re, dg), (nP, tp, bt, dp)), (nQ, fu)) rfl rfl 17 (by decide) f_132 (fun _ h9 => h9) rfl (by decide +kernel) rfl rfl (Nat.le_of_ble_eq_true rfl) rfl dX7_current_196 (fun H locs hP hS => ?_)
                            rcases (show ei = 0 ∨ ei = 1 ∨ ei = 2 ∨ ei = 3 ∨ ei = 4 ∨ ei = 5 ∨ ei = 6 ∨ ei = 7 by omega) with rfl | rfl | rfl | rfl | rfl | rfl | rfl | rfl
                            · skip
                              refine lv_dload_n hx hb dX7_current_199 rfl (lv_at hl 5 rfl) ?_
                              refine lv_ldc2d hx hb hown c_139 dX7_current_200 ?_
                              have h_211 : fB (1028) (FP.dmul (sp_) (4604544271217802189)) := fB_mul hsp (fB_lit (K := 1023) (a := 4604544271217802189) (by decide +kernel)) (by omega) (by omega) (by omega)
                              refine lv_dmul hx hb dX7_current_203 (fB_ne h_211 (by omega)) ?_
                              refine lv_dstore (lv' := [(9, .double (FP.dmul (sp_) (4604544271217802189))), (8, .int (nI a)), (7, .int (nI 0)), (0, .ref (ad 0)), (1, .double (d)), (3, .double (sp_)), (5, .double (e8 nd))]) hx hb dX7_current_204 hl (by decide) rfl (fun ls hl => ?_)
                              refine lv_aload_n hx hb dX7_current_206 rfl (lv_at hl 3 rfl) ?_
                              refine va_get (D := D) (ci := 7) (v := .ref (ad 16)) (C := RX7) (T := TX7) (N := 31) hx hb hts iX7_current_X7 hown hK hP 0 rfl rfl 18 (by decide) f_57 (fun _ h9 => h9) rfl dX7_current_207 ?_
                              refine lv_iload hx hb dX7_current_210 (lv_at hl 1 rfl) ?_
                              refine lv_dload_n hx hb dX7_current_212 rfl (lv_at hl 4 rfl) ?_
                              refine xds hx hb hK hD hP hS 16 0 (((nN, px, py, pz, fx, fy, fz, lf, ld, fi), (nB, fr, tt, ln, wi, sg, pu), ((nR + 1), (vf_upd (shf rd nR (nR - a)) a d), (shf rx nR (nR - a)), (shf ry nR (nR - a)), wv, fo), (re, dg), (nP, tp, bt, dp)), (nQ, fu)) rfl rfl (j := a) (by decide) (by omega) rfl dX7_current_213 (fun H locs hP hS => ?_)
                              refine lv_aload_n hx hb dX7_current_214 rfl (lv_at hl 3 rfl) ?_
                              refine va_get (D := D) (ci := 7) (v := .ref (ad 17)) (C := RX7) (T := TX7) (N := 31) hx hb hts iX7_current_X7 hown hK hP 0 rfl rfl 19 (by decide) f_60 (fun _ h9 => h9) rfl dX7_current_215 ?_
                              refine lv_iload hx hb dX7_current_218 (lv_at hl 1 rfl) ?_
                              refine lv_iload hx hb dX7_current_220 (lv_at hl 2 rfl) ?_
                              refine lv_if_ne (tgt := 229) hx hb dX7_current_222 (by decide) (fun c_222_212 => absurd c_222_212 (by decide)) (fun _ => ?_)
                              refine lv_dload_n hx hb dX7_current_225 rfl (lv_at hl 5 rfl) ?_
                              refine lv_goto (tgt := 280) hx hb dX7_current_226 (by decide) ?_
                              refine xds hx hb hK hD hP hS 17 0 (((nN, px, py, pz, fx, fy, fz, lf, ld, fi), (nB, fr, tt, ln, wi, sg, pu), ((nR + 1), (vf_upd (shf rd nR (nR - a)) a d), (vf_upd (shf rx nR (nR - a)) a sp_), (shf ry nR (nR - a)), wv, fo), (re, dg), (nP, tp, bt, dp)), (nQ, fu)) rfl rfl (j := a) (by decide) (by omega) rfl dX7_current_280 (fun H locs hP hS => ?_)
                              refine lv_aload_n hx hb dX7_current_281 rfl (lv_at hl 3 rfl) ?_
                              refine va_get (D := D) (ci := 7) (v := .ref (ad 18)) (C := RX7) (T := TX7) (N := 31) hx hb hts iX7_current_X7 hown hK hP 0 rfl rfl 20 (by decide) f_63 (fun _ h9 => h9) rfl dX7_current_282 ?_
                              refine lv_iload hx hb dX7_current_285 (lv_at hl 1 rfl) ?_
                              refine lv_iload hx hb dX7_current_287 (lv_at hl 2 rfl) ?_
                              refine lv_iconst (v := nI 2) hx hb dX7_current_289 (by decide) ?_
                              refine lv_icmp_ne (tgt := 297) hx hb dX7_current_290 (by decide) (fun _ => ?_) (fun c_290_213 => absurd c_290_213 (by decide))
                              refine lv_iload hx hb dX7_current_297 (lv_at hl 2 rfl) ?_
                              refine lv_iconst (v := nI 1) hx hb dX7_current_299 (by decide) ?_
                              refine lv_icmp_eq (tgt := 309) hx hb dX7_current_300 (by decide) (fun c_300_214 => absurd c_300_214 (by decide)) (fun _ => ?_)
                              refine lv_iload hx hb dX7_current_303 (lv_at hl 2 rfl) ?_
                              refine lv_iconst (v := nI 3) hx hb dX7_current_305 (by decide) ?_
                              refine lv_icmp_ne (tgt := 314) hx hb dX7_current_306 (by decide) (fun _ => ?_) (fun c_306_215 => absurd c_306_215 (by decide))
                              refine lv_iload hx hb dX7_current_314 (lv_at hl 2 rfl) ?_
                              refine lv_if_eq (tgt := 325) hx hb dX7_current_316 (by decide) (fun _ => ?_) (fun c_316_216 => absurd c_316_216 (by decide))
                              refine lv_dconst0 hx hb dX7_current_325 ?_
                              refine lv_goto (tgt := 346) hx hb dX7_current_326 (by decide) ?_
                              refine xds hx hb hK hD hP hS 18 0 (((nN, px, py, pz, fx, fy, fz, lf, ld, fi), (nB, fr, tt, ln, wi, sg, pu), ((nR + 1), (vf_upd (shf rd nR (nR - a)) a d), (vf_upd (shf rx nR (nR - a)) a sp_), (vf_upd (shf ry nR (nR - a)) a FP.dconst0), wv, fo), (re, dg), (nP, tp, bt, dp)), (nQ, fu)) rfl rfl (j := a) (by decide) (by omega) rfl dX7_current_346 (fun H locs hP hS => ?_)
                              refine lv_iconst (v := nI 1) hx hb dX7_current_347 (by decide) ?_
                              exact hret hS hP dX7_current_348 (Or.inr rfl) (⟨Or.inl ⟨0, a, he, b_3, b_5, hdir, hA, Or.inr (Or.inl ⟨fun q => absurd q.2 c_107_112, by omega, rfl, rfl⟩)⟩, rfl⟩)
                            · skip
                              refine lv_dload_n hx hb dX7_current_199 rfl (lv_at hl 5 rfl) ?_
                              refine lv_ldc2d hx hb hown c_139 dX7_current_200 ?_
                              have h_218 : fB (1028) (FP.dmul (sp_) (4604544271217802189)) := fB_mul hsp (fB_lit (K := 1023) (a := 4604544271217802189) (by decide +kernel)) (by omega) (by omega) (by omega)
                              refine lv_dmul hx hb dX7_current_203 (fB_ne h_218 (by omega)) ?_
                              refine lv_dstore (lv' := [(9, .double (FP.dmul (sp_) (4604544271217802189))), (8, .int (nI a)), (7, .int (nI 1)), (0, .ref (ad 0)), (1, .double (d)), (3, .double (sp_)), (5, .double (e8 nd))]) hx hb dX7_current_204 hl (by decide) rfl (fun ls hl => ?_)
                              refine lv_aload_n hx hb dX7_current_206 rfl (lv_at hl 3 rfl) ?_
                              refine va_get (D := D) (ci := 7) (v := .ref (ad 16)) (C := RX7) (T := TX7) (N := 31) hx hb hts iX7_current_X7 hown hK hP 0 rfl rfl 18 (by decide) f_57 (fun _ h9 => h9) rfl dX7_current_207 ?_
                              refine lv_iload hx hb dX7_current_210 (lv_at hl 1 rfl) ?_
                              refine lv_dload_n hx hb dX7_current_212 rfl (lv_at hl 4 rfl) ?_
                              refine xds hx hb hK hD hP hS 16 0 (((nN, px, py, pz, fx, fy, fz, lf, ld, fi), (nB, fr, tt, ln, wi, sg, pu), ((nR + 1), (vf_upd (shf rd nR (nR - a)) a d), (shf rx nR (nR - a)), (shf ry nR (nR - a)), wv, fo), (re, dg), (nP, tp, bt, dp)), (nQ, fu)) rfl rfl (j := a) (by decide) (by omega) rfl dX7_current_213 (fun H locs hP hS => ?_)
                              refine lv_aload_n hx hb dX7_current_214 rfl (lv_at hl 3 rfl) ?_
                              refine va_get (D := D) (ci := 7) (v := .ref (ad 17)) (C := RX7) (T := TX7) (N := 31) hx hb hts iX7_current_X7 hown hK hP 0 rfl rfl 19 (by decide) f_60 (fun _ h9 => h9) rfl dX7_current_215 ?_
                              refine lv_iload hx hb dX7_current_218 (lv_at hl 1 rfl) ?_
                              refine lv_iload hx hb dX7_current_220 (lv_at hl 2 rfl) ?_
                              refine lv_if_ne (tgt := 229) hx hb dX7_current_222 (by decide) (fun _ => ?_) (fun c_222_219 => absurd c_222_219 (by decide))
                              refine lv_iload hx hb dX7_current_229 (lv_at hl 2 rfl) ?_
                              refine lv_iconst (v := nI 1) hx hb dX7_current_231 (by decide) ?_
                              refine lv_icmp_eq (tgt := 242) hx hb dX7_current_232 (by decide) (fun _ => ?_) (fun c_232_220 => absurd c_232_220 (by decide))
                              refine lv_dload hx hb dX7_current_242 (lv_at hl 0 rfl) ?_
                              refine lv_goto (tgt := 280) hx hb dX7_current_244 (by decide) ?_
                              refine xds hx hb hK hD hP hS 17 0 (((nN, px, py, pz, fx, fy, fz, lf, ld, fi), (nB, fr, tt, ln, wi, sg, pu), ((nR + 1), (vf_upd (shf rd nR (nR - a)) a d), (vf_upd (shf rx nR (nR - a)) a (FP.dmul (sp_) (4604544271217802189))), (shf ry nR (nR - a)), wv, fo), (re, dg), (nP, tp, bt, dp)), (nQ, fu)) rfl rfl (j := a) (by decide) (by omega) rfl dX7_current_280 (fun H locs hP hS => ?_)
                              refine lv_aload_n hx hb dX7_current_281 rfl (lv_at hl 3 rfl) ?_
                              refine va_get (D := D) (ci := 7) (v := .ref (ad 18)) (C := RX7) (T := TX7) (N := 31) hx hb hts iX7_current_X7 hown hK hP 0 rfl rfl 20 (by decide) f_63 (fun _ h9 => h9) rfl dX7_current_282 ?_
                              refine lv_iload hx hb dX7_current_285 (lv_at hl 1 rfl) ?_
                              refine lv_iload hx hb dX7_current_287 (lv_at hl 2 rfl) ?_
                              refine lv_iconst (v := nI 2) hx hb dX7_current_289 (by decide) ?_
                              refine lv_icmp_ne (tgt := 297) hx hb dX7_current_290 (by decide) (fun _ => ?_) (fun c_290_221 => absurd c_290_221 (by decide))
                              refine lv_iload hx hb dX7_current_297 (lv_at hl 2 rfl) ?_
                              refine lv_iconst (v := nI 1) hx hb dX7_current_299 (by decide) ?_
                              refine lv_icmp_eq (tgt := 309) hx hb dX7_current_300 (by decide) (fun _ => ?_) (fun c_300_222 => absurd c_300_222 (by decide))
                              refine lv_dload hx hb dX7_current_309 (lv_at hl 0 rfl) ?_
                              refine lv_goto (tgt := 346) hx hb dX7_current_311 (by decide) ?_
                              refine xds hx hb hK hD hP hS 18 0 (((nN, px, py, pz, fx, fy, fz, lf, ld, fi), (nB, fr, tt, ln, wi, sg, pu), ((nR + 1), (vf_upd (shf rd nR (nR - a)) a d), (vf_upd (shf rx nR (nR - a)) a (FP.dmul (sp_) (4604544271217802189))), (vf_upd (shf ry nR (nR - a)) a (FP.dmul (sp_) (4604544271217802189))), wv, fo), (re, dg), (nP, tp, bt, dp)), (nQ, fu)) rfl rfl (j := a) (by decide) (by omega) rfl dX7_current_346 (fun H locs hP hS => ?_)
                              refine lv_iconst (v := nI 1) hx hb dX7_current_347 (by decide) ?_
                              exact hret hS hP dX7_current_348 (Or.inr rfl) (⟨Or.inl ⟨1, a, he, b_3, b_5, hdir, hA, Or.inr (Or.inl ⟨fun q => absurd q.2 c_107_112, by omega, rfl, rfl⟩)⟩, rfl⟩)
                            · skip
                              refine lv_dload_n hx hb dX7_current_199 rfl (lv_at hl 5 rfl) ?_
                              refine lv_ldc2d hx hb hown c_139 dX7_current_200 ?_
                              have h_224 : fB (1028) (FP.dmul (sp_) (4604544271217802189)) := fB_mul hsp (fB_lit (K := 1023) (a := 4604544271217802189) (by decide +kernel)) (by omega) (by omega) (by omega)
                              refine lv_dmul hx hb dX7_current_203 (fB_ne h_224 (by omega)) ?_
                              refine lv_dstore (lv' := [(9, .double (FP.dmul (sp_) (4604544271217802189))), (8, .int (nI a)), (7, .int (nI 2)), (0, .ref (ad 0)), (1, .double (d)), (3, .double (sp_)), (5, .double (e8 nd))]) hx hb dX7_current_204 hl (by decide) rfl (fun ls hl => ?_)
                              refine lv_aload_n hx hb dX7_current_206 rfl (lv_at hl 3 rfl) ?_
                              refine va_get (D := D) (ci := 7) (v := .ref (ad 16)) (C := RX7) (T := TX7) (N := 31) hx hb hts iX7_current_X7 hown hK hP 0 rfl rfl 18 (by decide) f_57 (fun _ h9 => h9) rfl dX7_current_207 ?_
                              refine lv_iload hx hb dX7_current_210 (lv_at hl 1 rfl) ?_
                              refine lv_dload_n hx hb dX7_current_212 rfl (lv_at hl 4 rfl) ?_
                              refine xds hx hb hK hD hP hS 16 0 (((nN, px, py, pz, fx, fy, fz, lf, ld, fi), (nB, fr, tt, ln, wi, sg, pu), ((nR + 1), (vf_upd (shf rd nR (nR - a)) a d), (shf rx nR (nR - a)), (shf ry nR (nR - a)), wv, fo), (re, dg), (nP, tp, bt, dp)), (nQ, fu)) rfl rfl (j := a) (by decide) (by omega) rfl dX7_current_213 (fun H locs hP hS => ?_)
                              refine lv_aload_n hx hb dX7_current_214 rfl (lv_at hl 3 rfl) ?_
                              refine va_get (D := D) (ci := 7) (v := .ref (ad 17)) (C := RX7) (T := TX7) (N := 31) hx hb hts iX7_current_X7 hown hK hP 0 rfl rfl 19 (by decide) f_60 (fun _ h9 => h9) rfl dX7_current_215 ?_
                              refine lv_iload hx hb dX7_current_218 (lv_at hl 1 rfl) ?_
                              refine lv_iload hx hb dX7_current_220 (lv_at hl 2 rfl) ?_
                              refine lv_if_ne (tgt := 229) hx hb dX7_current_222 (by decide) (fun _ => ?_) (fun c_222_225 => absurd c_222_225 (by decide))
                              refine lv_iload hx hb dX7_current_229 (lv_at hl 2 rfl) ?_
                              refine lv_iconst (v := nI 1) hx hb dX7_current_231 (by decide) ?_
                              refine lv_icmp_eq (tgt := 242) hx hb dX7_current_232 (by decide) (fun c_232_226 => absurd c_232_226 (by decide)) (fun _ => ?_)
                              refine lv_iload hx hb dX7_current_235 (lv_at hl 2 rfl) ?_
                              refine lv_bipush (v := nI 7) hx hb dX7_current_237 (by decide) ?_
                              refine lv_icmp_ne (tgt := 247) hx hb dX7_current_239 (by decide) (fun _ => ?_) (fun c_239_227 => absurd c_239_227 (by decide))
                              refine lv_iload hx hb dX7_current_247 (lv_at hl 2 rfl) ?_
                              refine lv_iconst (v := nI 2) hx hb dX7_current_249 (by decide) ?_
                              refine lv_icmp_eq (tgt := 260) hx hb dX7_current_250 (by decide) (fun _ => ?_) (fun c_250_228 => absurd c_250_228 (by decide))
                              refine lv_dconst0 hx hb dX7_current_260 ?_
                              refine lv_goto (tgt := 280) hx hb dX7_current_261 (by decide) ?_
                              refine xds hx hb hK hD hP hS 17 0 (((nN, px, py, pz, fx, fy, fz, lf, ld, fi), (nB, fr, tt, ln, wi, sg, pu), ((nR + 1), (vf_upd (shf rd nR (nR - a)) a d), (vf_upd (shf rx nR (nR - a)) a FP.dconst0), (shf ry nR (nR - a)), wv, fo), (re, dg), (nP, tp, bt, dp)), (nQ, fu)) rfl rfl (j := a) (by decide) (by omega) rfl dX7_current_280 (fun H locs hP hS => ?_)
                              refine lv_aload_n hx hb dX7_current_281 rfl (lv_at hl 3 rfl) ?_
                              refine va_get (D := D) (ci := 7) (v := .ref (ad 18)) (C := RX7) (T := TX7) (N := 31) hx hb hts iX7_current_X7 hown hK hP 0 rfl rfl 20 (by decide) f_63 (fun _ h9 => h9) rfl dX7_current_282 ?_
                              refine lv_iload hx hb dX7_current_285 (lv_at hl 1 rfl) ?_
                              refine lv_iload hx hb dX7_current_287 (lv_at hl 2 rfl) ?_
                              refine lv_iconst (v := nI 2) hx hb dX7_current_289 (by decide) ?_
                              refine lv_icmp_ne (tgt := 297) hx hb dX7_current_290 (by decide) (fun c_290_229 => absurd c_290_229 (by decide)) (fun _ => ?_)
                              refine lv_dload_n hx hb dX7_current_293 rfl (lv_at hl 5 rfl) ?_
                              refine lv_goto (tgt := 346) hx hb dX7_current_294 (by decide) ?_
                              refine xds hx hb hK hD hP hS 18 0 (((nN, px, py, pz, fx, fy, fz, lf, ld, fi), (nB, fr, tt, ln, wi, sg, pu), ((nR + 1), (vf_upd (shf rd nR (nR - a)) a d), (vf_upd (shf rx nR (nR - a)) a FP.dconst0), (vf_upd (shf ry nR (nR - a)) a sp_), wv, fo), (re, dg), (nP, tp, bt, dp)), (nQ, fu)) rfl rfl (j := a) (by decide) (by omega) rfl dX7_current_346 (fun H locs hP hS => ?_)
                              refine lv_iconst (v := nI 1) hx hb dX7_current_347 (by decide) ?_
                              exact hret hS hP dX7_current_348 (Or.inr rfl) (⟨Or.inl ⟨2, a, he, b_3, b_5, hdir, hA, Or.inr (Or.inl ⟨fun q => absurd q.2 c_107_112, by omega, rfl, rfl⟩)⟩, rfl⟩)
                            · skip
                              refine lv_dload_n hx hb dX7_current_199 rfl (lv_at hl 5 rfl) ?_
                              refine lv_ldc2d hx hb hown c_139 dX7_current_200 ?_
                              have h_231 : fB (1028) (FP.dmul (sp_) (4604544271217802189)) := fB_mul hsp (fB_lit (K := 1023) (a := 4604544271217802189) (by decide +kernel)) (by omega) (by omega) (by omega)
                              refine lv_dmul hx hb dX7_current_203 (fB_ne h_231 (by omega)) ?_
                              refine lv_dstore (lv' := [(9, .double (FP.dmul (sp_) (4604544271217802189))), (8, .int (nI a)), (7, .int (nI 3)), (0, .ref (ad 0)), (1, .double (d)), (3, .double (sp_)), (5, .double (e8 nd))]) hx hb dX7_current_204 hl (by decide) rfl (fun ls hl => ?_)
                              refine lv_aload_n hx hb dX7_current_206 rfl (lv_at hl 3 rfl) ?_
                              refine va_get (D := D) (ci := 7) (v := .ref (ad 16)) (C := RX7) (T := TX7) (N := 31) hx hb hts iX7_current_X7 hown hK hP 0 rfl rfl 18 (by decide) f_57 (fun _ h9 => h9) rfl dX7_current_207 ?_
                              refine lv_iload hx hb dX7_current_210 (lv_at hl 1 rfl) ?_
                              refine lv_dload_n hx hb dX7_current_212 rfl (lv_at hl 4 rfl) ?_
                              refine xds hx hb hK hD hP hS 16 0 (((nN, px, py, pz, fx, fy, fz, lf, ld, fi), (nB, fr, tt, ln, wi, sg, pu), ((nR + 1), (vf_upd (shf rd nR (nR - a)) a d), (shf rx nR (nR - a)), (shf ry nR (nR - a)), wv, fo), (re, dg), (nP, tp, bt, dp)), (nQ, fu)) rfl rfl (j := a) (by decide) (by omega) rfl dX7_current_213 (fun H locs hP hS => ?_)
                              refine lv_aload_n hx hb dX7_current_214 rfl (lv_at hl 3 rfl) ?_
                              refine va_get (D := D) (ci := 7) (v := .ref (ad 17)) (C := RX7) (T := TX7) (N := 31) hx hb hts iX7_current_X7 hown hK hP 0 rfl rfl 19 (by decide) f_60 (fun _ h9 => h9) rfl dX7_current_215 ?_
                              refine lv_iload hx hb dX7_current_218 (lv_at hl 1 rfl) ?_
                              refine lv_iload hx hb dX7_current_220 (lv_at hl 2 rfl) ?_
                              refine lv_if_ne (tgt := 229) hx hb dX7_current_222 (by decide) (fun _ => ?_) (fun c_222_232 => absurd c_222_232 (by decide))
                              refine lv_iload hx hb dX7_current_229 (lv_at hl 2 rfl) ?_
                              refine lv_iconst (v := nI 1) hx hb dX7_current_231 (by decide) ?_
                              refine lv_icmp_eq (tgt := 242) hx hb dX7_current_232 (by decide) (fun c_232_233 => absurd c_232_233 (by decide)) (fun _ => ?_)
                              refine lv_iload hx hb dX7_current_235 (lv_at hl 2 rfl) ?_
                              refine lv_bipush (v := nI 7) hx hb dX7_current_237 (by decide) ?_
                              refine lv_icmp_ne (tgt := 247) hx hb dX7_current_239 (by decide) (fun _ => ?_) (fun c_239_234 => absurd c_239_234 (by decide))
                              refine lv_iload hx hb dX7_current_247 (lv_at hl 2 rfl) ?_
                              refine lv_iconst (v := nI 2) hx hb dX7_current_249 (by decide) ?_
                              refine lv_icmp_eq (tgt := 260) hx hb dX7_current_250 (by decide) (fun c_250_235 => absurd c_250_235 (by decide)) (fun _ => ?_)
                              refine lv_iload hx hb dX7_current_253 (lv_at hl 2 rfl) ?_
                              refine lv_bipush (v := nI 6) hx hb dX7_current_255 (by decide) ?_
                              refine lv_icmp_ne (tgt := 264) hx hb dX7_current_257 (by decide) (fun _ => ?_) (fun c_257_236 => absurd c_257_236 (by decide))
                              refine lv_iload hx hb dX7_current_264 (lv_at hl 2 rfl) ?_
                              refine lv_iconst (v := nI 4) hx hb dX7_current_266 (by decide) ?_
                              refine lv_icmp_ne (tgt := 276) hx hb dX7_current_267 (by decide) (fun _ => ?_) (fun c_267_237 => absurd c_267_237 (by decide))
                              refine lv_dconst0 hx hb dX7_current_276 ?_
                              refine lv_dload hx hb dX7_current_277 (lv_at hl 0 rfl) ?_
                              have h_239 : fB (1030) (FP.dsub (FP.dconst0) (FP.dmul (sp_) (4604544271217802189))) := fB_sub (M := 1028) fB_c0 h_231 (by omega) (by omega) (by omega)
                              refine lv_dsub hx hb dX7_current_279 (fB_ne h_239 (by omega)) ?_
                              refine xds hx hb hK hD hP hS 17 0 (((nN, px, py, pz, fx, fy, fz, lf, ld, fi), (nB, fr, tt, ln, wi, sg, pu), ((nR + 1), (vf_upd (shf rd nR (nR - a)) a d), (vf_upd (shf rx nR (nR - a)) a (FP.dsub (FP.dconst0) (FP.dmul (sp_) (4604544271217802189)))), (shf ry nR (nR - a)), wv, fo), (re, dg), (nP, tp, bt, dp)), (nQ, fu)) rfl rfl (j := a) (by decide) (by omega) rfl dX7_current_280 (fun H locs hP hS => ?_)
                              refine lv_aload_n hx hb dX7_current_281 rfl (lv_at hl 3 rfl) ?_
                              refine va_get (D := D) (ci := 7) (v := .ref (ad 18)) (C := RX7) (T := TX7) (N := 31) hx hb hts iX7_current_X7 hown hK hP 0 rfl rfl 20 (by decide) f_63 (fun _ h9 => h9) rfl dX7_current_282 ?_
                              refine lv_iload hx hb dX7_current_285 (lv_at hl 1 rfl) ?_
                              refine lv_iload hx hb dX7_current_287 (lv_at hl 2 rfl) ?_
                              refine lv_iconst (v := nI 2) hx hb dX7_current_289 (by decide) ?_
                              refine lv_icmp_ne (tgt := 297) hx hb dX7_current_290 (by decide) (fun _ => ?_) (fun c_290_240 => absurd c_290_240 (by decide))
                              refine lv_iload hx hb dX7_current_297 (lv_at hl 2 rfl) ?_
                              refine lv_iconst (v := nI 1) hx hb dX7_current_299 (by decide) ?_
                              refine lv_icmp_eq (tgt := 309) hx hb dX7_current_300 (by decide) (fun c_300_241 => absurd c_300_241 (by decide)) (fun _ => ?_)
                              refine lv_iload hx hb dX7_current_303 (lv_at hl 2 rfl) ?_
                              refine lv_iconst (v := nI 3) hx hb dX7_current_305 (by decide) ?_
                              refine lv_icmp_ne (tgt := 314) hx hb dX7_current_306 (by decide) (fun c_306_242 => absurd c_306_242 (by decide)) (fun _ => ?_)
                              refine lv_dload hx hb dX7_current_309 (lv_at hl 0 rfl) ?_
                              refine lv_goto (tgt := 346) hx hb dX7_current_311 (by decide) ?_
                              refine xds hx hb hK hD hP hS 18 0 (((nN, px, py, pz, fx, fy, fz, lf, ld, fi), (nB, fr, tt, ln, wi, sg, pu), ((nR + 1), (vf_upd (shf rd nR (nR - a)) a d), (vf_upd (shf rx nR (nR - a)) a (FP.dsub (FP.dconst0) (FP.dmul (sp_) (4604544271217802189)))), (vf_upd (shf ry nR (nR - a)) a (FP.dmul (sp_) (4604544271217802189))), wv, fo), (re, dg), (nP, tp, bt, dp)), (nQ, fu)) rfl rfl (j := a) (by decide) (by omega) rfl dX7_current_346 (fun H locs hP hS => ?_)
                              refine lv_iconst (v := nI 1) hx hb dX7_current_347 (by decide) ?_
                              exact hret hS hP dX7_current_348 (Or.inr rfl) (⟨Or.inl ⟨3, a, he, b_3, b_5, hdir, hA, Or.inr (Or.inl ⟨fun q => absurd q.2 c_107_112, by omega, rfl, rfl⟩)⟩, rfl⟩)
                            · skip
                              refine lv_dload_n hx hb dX7_current_199 rfl (lv_at hl 5 rfl) ?_
                              refine lv_ldc2d hx hb hown c_139 dX7_current_200 ?_
                              have h_244 : fB (1028) (FP.dmul (sp_) (4604544271217802189)) := fB_mul hsp (fB_lit (K := 1023) (a := 4604544271217802189) (by decide +kernel)) (by omega) (by omega) (by omega)
                              refine lv_dmul hx hb dX7_current_203 (fB_ne h_244 (by omega)) ?_
                              refine lv_dstore (lv' := [(9, .double (FP.dmul (sp_) (4604544271217802189))), (8, .int (nI a)), (7, .int (nI 4)), (0, .ref (ad 0)), (1, .double (d)), (3, .double (sp_)), (5, .double (e8 nd))]) hx hb dX7_current_204 hl (by decide) rfl (fun ls hl => ?_)
                              refine lv_aload_n hx hb dX7_current_206 rfl (lv_at hl 3 rfl) ?_
                              refine va_get (D := D) (ci := 7) (v := .ref (ad 16)) (C := RX7) (T := TX7) (N := 31) hx hb hts iX7_current_X7 hown hK hP 0 rfl rfl 18 (by decide) f_57 (fun _ h9 => h9) rfl dX7_current_207 ?_
                              refine lv_iload hx hb dX7_current_210 (lv_at hl 1 rfl) ?_
                              refine lv_dload_n hx hb dX7_current_212 rfl (lv_at hl 4 rfl) ?_
                              refine xds hx hb hK hD hP hS 16 0 (((nN, px, py, pz, fx, fy, fz, lf, ld, fi), (nB, fr, tt, ln, wi, sg, pu), ((nR + 1), (vf_upd (shf rd nR (nR - a)) a d), (shf rx nR (nR - a)), (shf ry nR (nR - a)), wv, fo), (re, dg), (nP, tp, bt, dp)), (nQ, fu)) rfl rfl (j := a) (by decide) (by omega) rfl dX7_current_213 (fun H locs hP hS => ?_)
                              refine lv_aload_n hx hb dX7_current_214 rfl (lv_at hl 3 rfl) ?_
                              refine va_get (D := D) (ci := 7) (v := .ref (ad 17)) (C := RX7) (T := TX7) (N := 31) hx hb hts iX7_current_X7 hown hK hP 0 rfl rfl 19 (by decide) f_60 (fun _ h9 => h9) rfl dX7_current_215 ?_
                              refine lv_iload hx hb dX7_current_218 (lv_at hl 1 rfl) ?_
                              refine lv_iload hx hb dX7_current_220 (lv_at hl 2 rfl) ?_
                              refine lv_if_ne (tgt := 229) hx hb dX7_current_222 (by decide) (fun _ => ?_) (fun c_222_245 => absurd c_222_245 (by decide))
                              refine lv_iload hx hb dX7_current_229 (lv_at hl 2 rfl) ?_
                              refine lv_iconst (v := nI 1) hx hb dX7_current_231 (by decide) ?_
                              refine lv_icmp_eq (tgt := 242) hx hb dX7_current_232 (by decide) (fun c_232_246 => absurd c_232_246 (by decide)) (fun _ => ?_)
                              refine lv_iload hx hb dX7_current_235 (lv_at hl 2 rfl) ?_
                              refine lv_bipush (v := nI 7) hx hb dX7_current_237 (by decide) ?_
                              refine lv_icmp_ne (tgt := 247) hx hb dX7_current_239 (by decide) (fun _ => ?_) (fun c_239_247 => absurd c_239_247 (by decide))
                              refine lv_iload hx hb dX7_current_247 (lv_at hl 2 rfl) ?_
                              refine lv_iconst (v := nI 2) hx hb dX7_current_249 (by decide) ?_
                              refine lv_icmp_eq (tgt := 260) hx hb dX7_current_250 (by decide) (fun c_250_248 => absurd c_250_248 (by decide)) (fun _ => ?_)
                              refine lv_iload hx hb dX7_current_253 (lv_at hl 2 rfl) ?_
                              refine lv_bipush (v := nI 6) hx hb dX7_current_255 (by decide) ?_
                              refine lv_icmp_ne (tgt := 264) hx hb dX7_current_257 (by decide) (fun _ => ?_) (fun c_257_249 => absurd c_257_249 (by decide))
                              refine lv_iload hx hb dX7_current_264 (lv_at hl 2 rfl) ?_
                              refine lv_iconst (v := nI 4) hx hb dX7_current_266 (by decide) ?_
                              refine lv_icmp_ne (tgt := 276) hx hb dX7_current_267 (by decide) (fun c_267_250 => absurd c_267_250 (by decide)) (fun _ => ?_)
                              refine lv_dconst0 hx hb dX7_current_270 ?_
                              refine lv_dload_n hx hb dX7_current_271 rfl (lv_at hl 5 rfl) ?_
                              have h_252 : fB (1029) (FP.dsub (FP.dconst0) (sp_)) := fB_sub (M := 1027) fB_c0 hsp (by omega) (by omega) (by omega)
                              refine lv_dsub hx hb dX7_current_272 (fB_ne h_252 (by omega)) ?_
                              refine lv_goto (tgt := 280) hx hb dX7_current_273 (by decide) ?_
                              refine xds hx hb hK hD hP hS 17 0 (((nN, px, py, pz, fx, fy, fz, lf, ld, fi), (nB, fr, tt, ln, wi, sg, pu), ((nR + 1), (vf_upd (shf rd nR (nR - a)) a d), (vf_upd (shf rx nR (nR - a)) a (FP.dsub (FP.dconst0) (sp_))), (shf ry nR (nR - a)), wv, fo), (re, dg), (nP, tp, bt, dp)), (nQ, fu)) rfl rfl (j := a) (by decide) (by omega) rfl dX7_current_280 (fun H locs hP hS => ?_)
                              refine lv_aload_n hx hb dX7_current_281 rfl (lv_at hl 3 rfl) ?_
                              refine va_get (D := D) (ci := 7) (v := .ref (ad 18)) (C := RX7) (T := TX7) (N := 31) hx hb hts iX7_current_X7 hown hK hP 0 rfl rfl 20 (by decide) f_63 (fun _ h9 => h9) rfl dX7_current_282 ?_
                              refine lv_iload hx hb dX7_current_285 (lv_at hl 1 rfl) ?_
                              refine lv_iload hx hb dX7_current_287 (lv_at hl 2 rfl) ?_
                              refine lv_iconst (v := nI 2) hx hb dX7_current_289 (by decide) ?_
                              refine lv_icmp_ne (tgt := 297) hx hb dX7_current_290 (by decide) (fun _ => ?_) (fun c_290_253 => absurd c_290_253 (by decide))
                              refine lv_iload hx hb dX7_current_297 (lv_at hl 2 rfl) ?_
                              refine lv_iconst (v := nI 1) hx hb dX7_current_299 (by decide) ?_
                              refine lv_icmp_eq (tgt := 309) hx hb dX7_current_300 (by decide) (fun c_300_254 => absurd c_300_254 (by decide)) (fun _ => ?_)
                              refine lv_iload hx hb dX7_current_303 (lv_at hl 2 rfl) ?_
                              refine lv_iconst (v := nI 3) hx hb dX7_current_305 (by decide) ?_
                              refine lv_icmp_ne (tgt := 314) hx hb dX7_current_306 (by decide) (fun _ => ?_) (fun c_306_255 => absurd c_306_255 (by decide))
                              refine lv_iload hx hb dX7_current_314 (lv_at hl 2 rfl) ?_
                              refine lv_if_eq (tgt := 325) hx hb dX7_current_316 (by decide) (fun c_316_256 => absurd c_316_256 (by decide)) (fun _ => ?_)
                              refine lv_iload hx hb dX7_current_319 (lv_at hl 2 rfl) ?_
                              refine lv_iconst (v := nI 4) hx hb dX7_current_321 (by decide) ?_
                              refine lv_icmp_ne (tgt := 329) hx hb dX7_current_322 (by decide) (fun c_322_257 => absurd c_322_257 (by decide)) (fun _ => ?_)
                              refine lv_dconst0 hx hb dX7_current_325 ?_
                              refine lv_goto (tgt := 346) hx hb dX7_current_326 (by decide) ?_
                              refine xds hx hb hK hD hP hS 18 0 (((nN, px, py, pz, fx, fy, fz, lf, ld, fi), (nB, fr, tt, ln, wi, sg, pu), ((nR + 1), (vf_upd (shf rd nR (nR - a)) a d), (vf_upd (shf rx nR (nR - a)) a (FP.dsub (FP.dconst0) (sp_))), (vf_upd (shf ry nR (nR - a)) a FP.dconst0), wv, fo), (re, dg), (nP, tp, bt, dp)), (nQ, fu)) rfl rfl (j := a) (by decide) (by omega) rfl dX7_current_346 (fun H locs hP hS => ?_)
                              refine lv_iconst (v := nI 1) hx hb dX7_current_347 (by decide) ?_
                              exact hret hS hP dX7_current_348 (Or.inr rfl) (⟨Or.inl ⟨4, a, he, b_3, b_5, hdir, hA, Or.inr (Or.inl ⟨fun q => absurd q.2 c_107_112, by omega, rfl, rfl⟩)⟩, rfl⟩)
                            · skip
                              refine lv_dload_n hx hb dX7_current_199 rfl (lv_at hl 5 rfl) ?_
                              refine lv_ldc2d hx hb hown c_139 dX7_current_200 ?_
                              have h_259 : fB (1028) (FP.dmul (sp_) (4604544271217802189)) := fB_mul hsp (fB_lit (K := 1023) (a := 4604544271217802189) (by decide +kernel)) (by omega) (by omega) (by omega)
                              refine lv_dmul hx hb dX7_current_203 (fB_ne h_259 (by omega)) ?_
                              refine lv_dstore (lv' := [(9, .double (FP.dmul (sp_) (4604544271217802189))), (8, .int (nI a)), (7, .int (nI 5)), (0, .ref (ad 0)), (1, .double (d)), (3, .double (sp_)), (5, .double (e8 nd))]) hx hb dX7_current_204 hl (by decide) rfl (fun ls hl => ?_)
                              refine lv_aload_n hx hb dX7_current_206 rfl (lv_at hl 3 rfl) ?_
                              refine va_get (D := D) (ci := 7) (v := .ref (ad 16)) (C := RX7) (T := TX7) (N := 31) hx hb hts iX7_current_X7 hown hK hP 0 rfl rfl 18 (by decide) f_57 (fun _ h9 => h9) rfl dX7_current_207 ?_
                              refine lv_iload hx hb dX7_current_210 (lv_at hl 1 rfl) ?_
                              refine lv_dload_n hx hb dX7_current_212 rfl (lv_at hl 4 rfl) ?_
                              refine xds hx hb hK hD hP hS 16 0 (((nN, px, py, pz, fx, fy, fz, lf, ld, fi), (nB, fr, tt, ln, wi, sg, pu), ((nR + 1), (vf_upd (shf rd nR (nR - a)) a d), (shf rx nR (nR - a)), (shf ry nR (nR - a)), wv, fo), (re, dg), (nP, tp, bt, dp)), (nQ, fu)) rfl rfl (j := a) (by decide) (by omega) rfl dX7_current_213 (fun H locs hP hS => ?_)
                              refine lv_aload_n hx hb dX7_current_214 rfl (lv_at hl 3 rfl) ?_
                              refine va_get (D := D) (ci := 7) (v := .ref (ad 17)) (C := RX7) (T := TX7) (N := 31) hx hb hts iX7_current_X7 hown hK hP 0 rfl rfl 19 (by decide) f_60 (fun _ h9 => h9) rfl dX7_current_215 ?_
                              refine lv_iload hx hb dX7_current_218 (lv_at hl 1 rfl) ?_
                              refine lv_iload hx hb dX7_current_220 (lv_at hl 2 rfl) ?_
                              refine lv_if_ne (tgt := 229) hx hb dX7_current_222 (by decide) (fun _ => ?_) (fun c_222_260 => absurd c_222_260 (by decide))
                              refine lv_iload hx hb dX7_current_229 (lv_at hl 2 rfl) ?_
                              refine lv_iconst (v := nI 1) hx hb dX7_current_231 (by decide) ?_
                              refine lv_icmp_eq (tgt := 242) hx hb dX7_current_232 (by decide) (fun c_232_261 => absurd c_232_261 (by decide)) (fun _ => ?_)
                              refine lv_iload hx hb dX7_current_235 (lv_at hl 2 rfl) ?_
                              refine lv_bipush (v := nI 7) hx hb dX7_current_237 (by decide) ?_
                              refine lv_icmp_ne (tgt := 247) hx hb dX7_current_239 (by decide) (fun _ => ?_) (fun c_239_262 => absurd c_239_262 (by decide))
                              refine lv_iload hx hb dX7_current_247 (lv_at hl 2 rfl) ?_
                              refine lv_iconst (v := nI 2) hx hb dX7_current_249 (by decide) ?_
                              refine lv_icmp_eq (tgt := 260) hx hb dX7_current_250 (by decide) (fun c_250_263 => absurd c_250_263 (by decide)) (fun _ => ?_)
                              refine lv_iload hx hb dX7_current_253 (lv_at hl 2 rfl) ?_
                              refine lv_bipush (v := nI 6) hx hb dX7_current_255 (by decide) ?_
                              refine lv_icmp_ne (tgt := 264) hx hb dX7_current_257 (by decide) (fun _ => ?_) (fun c_257_264 => absurd c_257_264 (by decide))
                              refine lv_iload hx hb dX7_current_264 (lv_at hl 2 rfl) ?_
                              refine lv_iconst (v := nI 4) hx hb dX7_current_266 (by decide) ?_
                              refine lv_icmp_ne (tgt := 276) hx hb dX7_current_267 (by decide) (fun _ => ?_) (fun c_267_265 => absurd c_267_265 (by decide))
                              refine lv_dconst0 hx hb dX7_current_276 ?_
                              refine lv_dload hx hb dX7_current_277 (lv_at hl 0 rfl) ?_
                              have h_267 : fB (1030) (FP.dsub (FP.dconst0) (FP.dmul (sp_) (4604544271217802189))) := fB_sub (M := 1028) fB_c0 h_259 (by omega) (by omega) (by omega)
                              refine lv_dsub hx hb dX7_current_279 (fB_ne h_267 (by omega)) ?_
                              refine xds hx hb hK hD hP hS 17 0 (((nN, px, py, pz, fx, fy, fz, lf, ld, fi), (nB, fr, tt, ln, wi, sg, pu), ((nR + 1), (vf_upd (shf rd nR (nR - a)) a d), (vf_upd (shf rx nR (nR - a)) a (FP.dsub (FP.dconst0) (FP.dmul (sp_) (4604544271217802189)))), (shf ry nR (nR - a)), wv, fo), (re, dg), (nP, tp, bt, dp)), (nQ, fu)) rfl rfl (j := a) (by decide) (by omega) rfl dX7_current_280 (fun H locs hP hS => ?_)
                              refine lv_aload_n hx hb dX7_current_281 rfl (lv_at hl 3 rfl) ?_
                              refine va_get (D := D) (ci := 7) (v := .ref (ad 18)) (C := RX7) (T := TX7) (N := 31) hx hb hts iX7_current_X7 hown hK hP 0 rfl rfl 20 (by decide) f_63 (fun _ h9 => h9) rfl dX7_current_282 ?_
                              refine lv_iload hx hb dX7_current_285 (lv_at hl 1 rfl) ?_
                              refine lv_iload hx hb dX7_current_287 (lv_at hl 2 rfl) ?_
                              refine lv_iconst (v := nI 2) hx hb dX7_current_289 (by decide) ?_
                              refine lv_icmp_ne (tgt := 297) hx hb dX7_current_290 (by decide) (fun _ => ?_) (fun c_290_268 => absurd c_290_268 (by decide))
                              refine lv_iload hx hb dX7_current_297 (lv_at hl 2 rfl) ?_
                              refine lv_iconst (v := nI 1) hx hb dX7_current_299 (by decide) ?_
                              refine lv_icmp_eq (tgt := 309) hx hb dX7_current_300 (by decide) (fun c_300_269 => absurd c_300_269 (by decide)) (fun _ => ?_)
                              refine lv_iload hx hb dX7_current_303 (lv_at hl 2 rfl) ?_
                              refine lv_iconst (v := nI 3) hx hb dX7_current_305 (by decide) ?_
                              refine lv_icmp_ne (tgt := 314) hx hb dX7_current_306 (by decide) (fun _ => ?_) (fun c_306_270 => absurd c_306_270 (by decide))
                              refine lv_iload hx hb dX7_current_314 (lv_at hl 2 rfl) ?_
                              refine lv_if_eq (tgt := 325) hx hb dX7_current_316 (by decide) (fun c_316_271 => absurd c_316_271 (by decide)) (fun _ => ?_)
                              refine lv_iload hx hb dX7_current_319 (lv_at hl 2 rfl) ?_
                              refine lv_iconst (v := nI 4) hx hb dX7_current_321 (by decide) ?_
                              refine lv_icmp_ne (tgt := 329) hx hb dX7_current_322 (by decide) (fun _ => ?_) (fun c_322_272 => absurd c_322_272 (by decide))
                              refine lv_iload hx hb dX7_current_329 (lv_at hl 2 rfl) ?_
                              refine lv_bipush (v := nI 6) hx hb dX7_current_331 (by decide) ?_
                              refine lv_icmp_ne (tgt := 342) hx hb dX7_current_333 (by decide) (fun _ => ?_) (fun c_333_273 => absurd c_333_273 (by decide))
                              refine lv_dconst0 hx hb dX7_current_342 ?_
                              refine lv_dload hx hb dX7_current_343 (lv_at hl 0 rfl) ?_
                              have h_275 : fB (1030) (FP.dsub (FP.dconst0) (FP.dmul (sp_) (4604544271217802189))) := fB_sub (M := 1028) fB_c0 h_259 (by omega) (by omega) (by omega)
                              refine lv_dsub hx hb dX7_current_345 (fB_ne h_275 (by omega)) ?_
                              refine xds hx hb hK hD hP hS 18 0 (((nN, px, py, pz, fx, fy, fz, lf, ld, fi), (nB, fr, tt, ln, wi, sg, pu), ((nR + 1), (vf_upd (shf rd nR (nR - a)) a d), (vf_upd (shf rx nR (nR - a)) a (FP.dsub (FP.dconst0) (FP.dmul (sp_) (4604544271217802189)))), (vf_upd (shf ry nR (nR - a)) a (FP.dsub (FP.dconst0) (FP.dmul (sp_) (4604544271217802189)))), wv, fo), (re, dg), (nP, tp, bt, dp)), (nQ, fu)) rfl rfl (j := a) (by decide) (by omega) rfl dX7_current_346 (fun H locs hP hS => ?_)
                              refine lv_iconst (v := nI 1) hx hb dX7_current_347 (by decide) ?_
                              exact hret hS hP dX7_current_348 (Or.inr rfl) (⟨Or.inl ⟨5, a, he, b_3, b_5, hdir, hA, Or.inr (Or.inl ⟨fun q => absurd q.2 c_107_112, by omega, rfl, rfl⟩)⟩, rfl⟩)
                            · skip
                              refine lv_dload_n hx hb dX7_current_199 rfl (lv_at hl 5 rfl) ?_
                              refine lv_ldc2d hx hb hown c_139 dX7_current_200 ?_
                              have h_277 : fB (1028) (FP.dmul (sp_) (4604544271217802189)) := fB_mul hsp (fB_lit (K := 1023) (a := 4604544271217802189) (by decide +kernel)) (by omega) (by omega) (by omega)
                              refine lv_dmul hx hb dX7_current_203 (fB_ne h_277 (by omega)) ?_
                              refine lv_dstore (lv' := [(9, .double (FP.dmul (sp_) (4604544271217802189))), (8, .int (nI a)), (7, .int (nI 6)), (0, .ref (ad 0)), (1, .double (d)), (3, .double (sp_)), (5, .double (e8 nd))]) hx hb dX7_current_204 hl (by decide) rfl (fun ls hl => ?_)
                              refine lv_aload_n hx hb dX7_current_206 rfl (lv_at hl 3 rfl) ?_
                              refine va_get (D := D) (ci := 7) (v := .ref (ad 16)) (C := RX7) (T := TX7) (N := 31) hx hb hts iX7_current_X7 hown hK hP 0 rfl rfl 18 (by decide) f_57 (fun _ h9 => h9) rfl dX7_current_207 ?_
                              refine lv_iload hx hb dX7_current_210 (lv_at hl 1 rfl) ?_
                              refine lv_dload_n hx hb dX7_current_212 rfl (lv_at hl 4 rfl) ?_
                              refine xds hx hb hK hD hP hS 16 0 (((nN, px, py, pz, fx, fy, fz, lf, ld, fi), (nB, fr, tt, ln, wi, sg, pu), ((nR + 1), (vf_upd (shf rd nR (nR - a)) a d), (shf rx nR (nR - a)), (shf ry nR (nR - a)), wv, fo), (re, dg), (nP, tp, bt, dp)), (nQ, fu)) rfl rfl (j := a) (by decide) (by omega) rfl dX7_current_213 (fun H locs hP hS => ?_)
                              refine lv_aload_n hx hb dX7_current_214 rfl (lv_at hl 3 rfl) ?_
                              refine va_get (D := D) (ci := 7) (v := .ref (ad 17)) (C := RX7) (T := TX7) (N := 31) hx hb hts iX7_current_X7 hown hK hP 0 rfl rfl 19 (by decide) f_60 (fun _ h9 => h9) rfl dX7_current_215 ?_
                              refine lv_iload hx hb dX7_current_218 (lv_at hl 1 rfl) ?_
                              refine lv_iload hx hb dX7_current_220 (lv_at hl 2 rfl) ?_
                              refine lv_if_ne (tgt := 229) hx hb dX7_current_222 (by decide) (fun _ => ?_) (fun c_222_278 => absurd c_222_278 (by decide))
                              refine lv_iload hx hb dX7_current_229 (lv_at hl 2 rfl) ?_
                              refine lv_iconst (v := nI 1) hx hb dX7_current_231 (by decide) ?_
                              refine lv_icmp_eq (tgt := 242) hx hb dX7_current_232 (by decide) (fun c_232_279 => absurd c_232_279 (by decide)) (fun _ => ?_)
                              refine lv_iload hx hb dX7_current_235 (lv_at hl 2 rfl) ?_
                              refine lv_bipush (v := nI 7) hx hb dX7_current_237 (by decide) ?_
                              refine lv_icmp_ne (tgt := 247) hx hb dX7_current_239 (by decide) (fun _ => ?_) (fun c_239_280 => absurd c_239_280 (by decide))
                              refine lv_iload hx hb dX7_current_247 (lv_at hl 2 rfl) ?_
                              refine lv_iconst (v := nI 2) hx hb dX7_current_249 (by decide) ?_
                              refine lv_icmp_eq (tgt := 260) hx hb dX7_current_250 (by decide) (fun c_250_281 => absurd c_250_281 (by decide)) (fun _ => ?_)
                              refine lv_iload hx hb dX7_current_253 (lv_at hl 2 rfl) ?_
                              refine lv_bipush (v := nI 6) hx hb dX7_current_255 (by decide) ?_
                              refine lv_icmp_ne (tgt := 264) hx hb dX7_current_257 (by decide) (fun c_257_282 => absurd c_257_282 (by decide)) (fun _ => ?_)
                              refine lv_dconst0 hx hb dX7_current_260 ?_
                              refine lv_goto (tgt := 280) hx hb dX7_current_261 (by decide) ?_
                              refine xds hx hb hK hD hP hS 17 0 (((nN, px, py, pz, fx, fy, fz, lf, ld, fi), (nB, fr, tt, ln, wi, sg, pu), ((nR + 1), (vf_upd (shf rd nR (nR - a)) a d), (vf_upd (shf rx nR (nR - a)) a FP.dconst0), (shf ry nR (nR - a)), wv, fo), (re, dg), (nP, tp, bt, dp)), (nQ, fu)) rfl rfl (j := a) (by decide) (by omega) rfl dX7_current_280 (fun H locs hP hS => ?_)
                              refine lv_aload_n hx hb dX7_current_281 rfl (lv_at hl 3 rfl) ?_
                              refine va_get (D := D) (ci := 7) (v := .ref (ad 18)) (C := RX7) (T := TX7) (N := 31) hx hb hts iX7_current_X7 hown hK hP 0 rfl rfl 20 (by decide) f_63 (fun _ h9 => h9) rfl dX7_current_282 ?_
                              refine lv_iload hx hb dX7_current_285 (lv_at hl 1 rfl) ?_
                              refine lv_iload hx hb dX7_current_287 (lv_at hl 2 rfl) ?_
                              refine lv_iconst (v := nI 2) hx hb dX7_current_289 (by decide) ?_
                              refine lv_icmp_ne (tgt := 297) hx hb dX7_current_290 (by decide) (fun _ => ?_) (fun c_290_283 => absurd c_290_283 (by decide))
                              refine lv_iload hx hb dX7_current_297 (lv_at hl 2 rfl) ?_
                              refine lv_iconst (v := nI 1) hx hb dX7_current_299 (by decide) ?_
                              refine lv_icmp_eq (tgt := 309) hx hb dX7_current_300 (by decide) (fun c_300_284 => absurd c_300_284 (by decide)) (fun _ => ?_)
                              refine lv_iload hx hb dX7_current_303 (lv_at hl 2 rfl) ?_
                              refine lv_iconst (v := nI 3) hx hb dX7_current_305 (by decide) ?_
                              refine lv_icmp_ne (tgt := 314) hx hb dX7_current_306 (by decide) (fun _ => ?_) (fun c_306_285 => absurd c_306_285 (by decide))
                              refine lv_iload hx hb dX7_current_314 (lv_at hl 2 rfl) ?_
                              refine lv_if_eq (tgt := 325) hx hb dX7_current_316 (by decide) (fun c_316_286 => absurd c_316_286 (by decide)) (fun _ => ?_)
                              refine lv_iload hx hb dX7_current_319 (lv_at hl 2 rfl) ?_
                              refine lv_iconst (v := nI 4) hx hb dX7_current_321 (by decide) ?_
                              refine lv_icmp_ne (tgt := 329) hx hb dX7_current_322 (by decide) (fun _ => ?_) (fun c_322_287 => absurd c_322_287 (by decide))
                              refine lv_iload hx hb dX7_current_329 (lv_at hl 2 rfl) ?_
                              refine lv_bipush (v := nI 6) hx hb dX7_current_331 (by decide) ?_
                              refine lv_icmp_ne (tgt := 342) hx hb dX7_current_333 (by decide) (fun c_333_288 => absurd c_333_288 (by decide)) (fun _ => ?_)
                              refine lv_dconst0 hx hb dX7_current_336 ?_
                              refine lv_dload_n hx hb dX7_current_337 rfl (lv_at hl 5 rfl) ?_
                              have h_290 : fB (1029) (FP.dsub (FP.dconst0) (sp_)) := fB_sub (M := 1027) fB_c0 hsp (by omega) (by omega) (by omega)
                              refine lv_dsub hx hb dX7_current_338 (fB_ne h_290 (by omega)) ?_
                              refine lv_goto (tgt := 346) hx hb dX7_current_339 (by decide) ?_
                              refine xds hx hb hK hD hP hS 18 0 (((nN, px, py, pz, fx, fy, fz, lf, ld, fi), (nB, fr, tt, ln, wi, sg, pu), ((nR + 1), (vf_upd (shf rd nR (nR - a)) a d), (vf_upd (shf rx nR (nR - a)) a FP.dconst0), (vf_upd (shf ry nR (nR - a)) a (FP.dsub (FP.dconst0) (sp_))), wv, fo), (re, dg), (nP, tp, bt, dp)), (nQ, fu)) rfl rfl (j := a) (by decide) (by omega) rfl dX7_current_346 (fun H locs hP hS => ?_)
                              refine lv_iconst (v := nI 1) hx hb dX7_current_347 (by decide) ?_
                              exact hret hS hP dX7_current_348 (Or.inr rfl) (⟨Or.inl ⟨6, a, he, b_3, b_5, hdir, hA, Or.inr (Or.inl ⟨fun q => absurd q.2 c_107_112, by omega, rfl, rfl⟩)⟩, rfl⟩)
                            · skip
                              refine lv_dload_n hx hb dX7_current_199 rfl (lv_at hl 5 rfl) ?_
                              refine lv_ldc2d hx hb hown c_139 dX7_current_200 ?_
                              have h_292 : fB (1028) (FP.dmul (sp_) (4604544271217802189)) := fB_mul hsp (fB_lit (K := 1023) (a := 4604544271217802189) (by decide +kernel)) (by omega) (by omega) (by omega)
                              refine lv_dmul hx hb dX7_current_203 (fB_ne h_292 (by omega)) ?_
                              refine lv_dstore (lv' := [(9, .double (FP.dmul (sp_) (4604544271217802189))), (8, .int (nI a)), (7, .int (nI 7)), (0, .ref (ad 0)), (1, .double (d)), (3, .double (sp_)), (5, .double (e8 nd))]) hx hb dX7_current_204 hl (by decide) rfl (fun ls hl => ?_)
                              refine lv_aload_n hx hb dX7_current_206 rfl (lv_at hl 3 rfl) ?_
                              refine va_get (D := D) (ci := 7) (v := .ref (ad 16)) (C := RX7) (T := TX7) (N := 31) hx hb hts iX7_current_X7 hown hK hP 0 rfl rfl 18 (by decide) f_57 (fun _ h9 => h9) rfl dX7_current_207 ?_
                              refine lv_iload hx hb dX7_current_210 (lv_at hl 1 rfl) ?_
                              refine lv_dload_n hx hb dX7_current_212 rfl (lv_at hl 4 rfl) ?_
                              refine xds hx hb hK hD hP hS 16 0 (((nN, px, py, pz, fx, fy, fz, lf, ld, fi), (nB, fr, tt, ln, wi, sg, pu), ((nR + 1), (vf_upd (shf rd nR (nR - a)) a d), (shf rx nR (nR - a)), (shf ry nR (nR - a)), wv, fo), (re, dg), (nP, tp, bt, dp)), (nQ, fu)) rfl rfl (j := a) (by decide) (by omega) rfl dX7_current_213 (fun H locs hP hS => ?_)
                              refine lv_aload_n hx hb dX7_current_214 rfl (lv_at hl 3 rfl) ?_
                              refine va_get (D := D) (ci := 7) (v := .ref (ad 17)) (C := RX7) (T := TX7) (N := 31) hx hb hts iX7_current_X7 hown hK hP 0 rfl rfl 19 (by decide) f_60 (fun _ h9 => h9) rfl dX7_current_215 ?_
                              refine lv_iload hx hb dX7_current_218 (lv_at hl 1 rfl) ?_
                              refine lv_iload hx hb dX7_current_220 (lv_at hl 2 rfl) ?_
                              refine lv_if_ne (tgt := 229) hx hb dX7_current_222 (by decide) (fun _ => ?_) (fun c_222_293 => absurd c_222_293 (by decide))
                              refine lv_iload hx hb dX7_current_229 (lv_at hl 2 rfl) ?_
                              refine lv_iconst (v := nI 1) hx hb dX7_current_231 (by decide) ?_
                              refine lv_icmp_eq (tgt := 242) hx hb dX7_current_232 (by decide) (fun c_232_294 => absurd c_232_294 (by decide)) (fun _ => ?_)
                              refine lv_iload hx hb dX7_current_235 (lv_at hl 2 rfl) ?_
                              refine lv_bipush (v := nI 7) hx hb dX7_current_237 (by decide) ?_
                              refine lv_icmp_ne (tgt := 247) hx hb dX7_current_239 (by decide) (fun c_239_295 => absurd c_239_295 (by decide)) (fun _ => ?_)
                              refine lv_dload hx hb dX7_current_242 (lv_at hl 0 rfl) ?_
                              refine lv_goto (tgt := 280) hx hb dX7_current_244 (by decide) ?_
                              refine xds hx hb hK hD hP hS 17 0 (((nN, px, py, pz, fx, fy, fz, lf, ld, fi), (nB, fr, tt, ln, wi, sg, pu), ((nR + 1), (vf_upd (shf rd nR (nR - a)) a d), (vf_upd (shf rx nR (nR - a)) a (FP.dmul (sp_) (4604544271217802189))), (shf ry nR (nR - a)), wv, fo), (re, dg), (nP, tp, bt, dp)), (nQ, fu)) rfl rfl (j := a) (by decide) (by omega) rfl dX7_current_280 (fun H locs hP hS => ?_)
                              refine lv_aload_n hx hb dX7_current_281 rfl (lv_at hl 3 rfl) ?_
                              refine va_get (D := D) (ci := 7) (v := .ref (ad 18)) (C := RX7) (T := TX7) (N := 31) hx hb hts iX7_current_X7 hown hK hP 0 rfl rfl 20 (by decide) f_63 (fun _ h9 => h9) rfl dX7_current_282 ?_
                              refine lv_iload hx hb dX7_current_285 (lv_at hl 1 rfl) ?_
                              refine lv_iload hx hb dX7_current_287 (lv_at hl 2 rfl) ?_
                              refine lv_iconst (v := nI 2) hx hb dX7_current_289 (by decide) ?_
                              refine lv_icmp_ne (tgt := 297) hx hb dX7_current_290 (by decide) (fun _ => ?_) (fun c_290_296 => absurd c_290_296 (by decide))
                              refine lv_iload hx hb dX7_current_297 (lv_at hl 2 rfl) ?_
                              refine lv_iconst (v := nI 1) hx hb dX7_current_299 (by decide) ?_
                              refine lv_icmp_eq (tgt := 309) hx hb dX7_current_300 (by decide) (fun c_300_297 => absurd c_300_297 (by decide)) (fun _ => ?_)
                              refine lv_iload hx hb dX7_current_303 (lv_at hl 2 rfl) ?_
                              refine lv_iconst (v := nI 3) hx hb dX7_current_305 (by decide) ?_
                              refine lv_icmp_ne (tgt := 314) hx hb dX7_current_306 (by decide) (fun _ => ?_) (fun c_306_298 => absurd c_306_298 (by decide))
                              refine lv_iload hx hb dX7_current_314 (lv_at hl 2 rfl) ?_
                              refine lv_if_eq (tgt := 325) hx hb dX7_current_316 (by decide) (fun c_316_299 => absurd c_316_299 (by decide)) (fun _ => ?_)
                              refine lv_iload hx hb dX7_current_319 (lv_at hl 2 rfl) ?_
                              refine lv_iconst (v := nI 4) hx hb dX7_current_321 (by decide) ?_
                              refine lv_icmp_ne (tgt := 329) hx hb dX7_current_322 (by decide) (fun _ => ?_) (fun c_322_300 => absurd c_322_300 (by decide))
                              refine lv_iload hx hb dX7_current_329 (lv_at hl 2 rfl) ?_
                              refine lv_bipush (v := nI 6) hx hb dX7_current_331 (by decide) ?_
                              refine lv_icmp_ne (tgt := 342) hx hb dX7_current_333 (by decide) (fun _ => ?_) (fun c_333_301 => absurd c_333_301 (by decide))
                              refine lv_dconst0 hx hb dX7_current_342 ?_
                              refine lv_dload hx hb dX7_current_343 (lv_at hl 0 rfl) ?_
                              have h_303 : fB (1030) (FP.dsub (FP.dconst0) (FP.dmul (sp_) (4604544271217802189))) := fB_sub (M := 1028) fB_c0 h_292 (by omega) (by omega) (by omega)
                              refine lv_dsub hx hb dX7_current_345 (fB_ne h_303 (by omega)) ?_
                              refine xds hx hb hK hD hP hS 18 0 (((nN, px, py, pz, fx, fy, fz, lf, ld, fi), (nB, fr, tt, ln, wi, sg, pu), ((nR + 1), (vf_upd (shf rd nR (nR - a)) a d), (vf_upd (shf rx nR (nR - a)) a (FP.dmul (sp_) (4604544271217802189))), (vf_upd (shf ry nR (nR - a)) a (FP.dsub (FP.dconst0) (FP.dmul (sp_) (4604544271217802189)))), wv, fo), (re, dg), (nP, tp, bt, dp)), (nQ, fu)) rfl rfl (j := a) (by decide) (by omega) rfl dX7_current_346 (fun H locs hP hS => ?_)
                              refine lv_iconst (v := nI 1) hx hb dX7_current_347 (by decide) ?_
                              exact hret hS hP dX7_current_348 (Or.inr rfl) (⟨Or.inl ⟨7, a, he, b_3, b_5, hdir, hA, Or.inr (Or.inl ⟨fun q => absurd q.2 c_107_112, by omega, rfl, rfl⟩)⟩, rfl⟩)
                          · skip
                            have c_132_209 : ¬ (nR - t ≤ a) := fun q => c_132_209 ((nI_leI (a := nR - t) (b := a) (by omega) (by omega)).mpr q)
                            refine lv_aload_n hx hb dX7_current_135 rfl (lv_at hl 3 rfl) ?_
                            refine va_get (D := D) (ci := 7) (v := .ref (ad 16)) (C := RX7) (T := TX7) (N := 31) hx hb hts iX7_current_X7 hown hK hP 0 rfl rfl 18 (by decide) f_57 (fun _ h9 => h9) rfl dX7_current_136 ?_
                            refine lv_iload hx hb dX7_current_139 (lv_at hl 0 rfl) ?_
                            refine lv_aload_n hx hb dX7_current_141 rfl (lv_at hl 3 rfl) ?_
                            refine va_get (D := D) (ci := 7) (v := .ref (ad 16)) (C := RX7) (T := TX7) (N := 31) hx hb hts iX7_current_X7 hown hK hP 0 rfl rfl 18 (by decide) f_57 (fun _ h9 => h9) rfl dX7_current_142 ?_
                            refine lv_iload hx hb dX7_current_145 (lv_at hl 0 rfl) ?_
                            refine lv_iconst (v := nI 1) hx hb dX7_current_147 (by decide) ?_
                            refine xib hx hb (nR - t - 1) dX7_current_148 (by omega) ?_
                            refine xdl hx hb hK hP 16 0 rfl rfl (j := nR - t - 1) (by decide) (by omega) dX7_current_149 ?_
                            refine xds hx hb hK hD hP hS 16 0 (((nN, px, py, pz, fx, fy, fz, lf, ld, fi), (nB, fr, tt, ln, wi, sg, pu), (nR, (vf_upd (shf rd nR t) (nR - t) ((shf rd nR t) (nR - t - 1))), (shf rx nR t), (shf ry nR t), wv, fo), (re, dg), (nP, tp, bt, dp)), (nQ, fu)) rfl rfl (j := nR - t) (by decide) (by omega) rfl dX7_current_150 (fun H locs hP hS => ?_)
                            refine lv_aload_n hx hb dX7_current_151 rfl (lv_at hl 3 rfl) ?_
                            refine va_get (D := D) (ci := 7) (v := .ref (ad 17)) (C := RX7) (T := TX7) (N := 31) hx hb hts iX7_current_X7 hown hK hP 0 rfl rfl 19 (by decide) f_60 (fun _ h9 => h9) rfl dX7_current_152 ?_
                            refine lv_iload hx hb dX7_current_155 (lv_at hl 0 rfl) ?_
                            refine lv_aload_n hx hb dX7_current_157 rfl (lv_at hl 3 rfl) ?_
                            refine va_get (D := D) (ci := 7) (v := .ref (ad 17)) (C := RX7) (T := TX7) (N := 31) hx hb hts iX7_current_X7 hown hK hP 0 rfl rfl 19 (by decide) f_60 (fun _ h9 => h9) rfl dX7_current_158 ?_
                            refine lv_iload hx hb dX7_current_161 (lv_at hl 0 rfl) ?_
                            refine lv_iconst (v := nI 1) hx hb dX7_current_163 (by decide) ?_
                            refine xib hx hb (nR - t - 1) dX7_current_164 (by omega) ?_
                            refine xdl hx hb hK hP 17 0 rfl rfl (j := nR - t - 1) (by decide) (by omega) dX7_current_165 ?_
                            refine xds hx hb hK hD hP hS 17 0 (((nN, px, py, pz, fx, fy, fz, lf, ld, fi), (nB, fr, tt, ln, wi, sg, pu), (nR, (vf_upd (shf rd nR t) (nR - t) ((shf rd nR t) (nR - t - 1))), (vf_upd (shf rx nR t) (nR - t) ((shf rx nR t) (nR - t - 1))), (shf ry nR t), wv, fo), (re, dg), (nP, tp, bt, dp)), (nQ, fu)) rfl rfl (j := nR - t) (by decide) (by omega) rfl dX7_current_166 (fun H locs hP hS => ?_)
                            refine lv_aload_n hx hb dX7_current_167 rfl (lv_at hl 3 rfl) ?_
                            refine va_get (D := D) (ci := 7) (v := .ref (ad 18)) (C := RX7) (T := TX7) (N := 31) hx hb hts iX7_current_X7 hown hK hP 0 rfl rfl 20 (by decide) f_63 (fun _ h9 => h9) rfl dX7_current_168 ?_
                            refine lv_iload hx hb dX7_current_171 (lv_at hl 0 rfl) ?_
                            refine lv_aload_n hx hb dX7_current_173 rfl (lv_at hl 3 rfl) ?_
                            refine va_get (D := D) (ci := 7) (v := .ref (ad 18)) (C := RX7) (T := TX7) (N := 31) hx hb hts iX7_current_X7 hown hK hP 0 rfl rfl 20 (by decide) f_63 (fun _ h9 => h9) rfl dX7_current_174 ?_
                            refine lv_iload hx hb dX7_current_177 (lv_at hl 0 rfl) ?_
                            refine lv_iconst (v := nI 1) hx hb dX7_current_179 (by decide) ?_
                            refine xib hx hb (nR - t - 1) dX7_current_180 (by omega) ?_
                            refine xdl hx hb hK hP 18 0 rfl rfl (j := nR - t - 1) (by decide) (by omega) dX7_current_181 ?_
                            refine xds hx hb hK hD hP hS 18 0 (((nN, px, py, pz, fx, fy, fz, lf, ld, fi), (nB, fr, tt, ln, wi, sg, pu), (nR, (vf_upd (shf rd nR t) (nR - t) ((shf rd nR t) (nR - t - 1))), (vf_upd (shf rx nR t) (nR - t) ((shf rx nR t) (nR - t - 1))), (vf_upd (shf ry nR t) (nR - t) ((shf ry nR t) (nR - t - 1))), wv, fo), (re, dg), (nP, tp, bt, dp)), (nQ, fu)) rfl rfl (j := nR - t) (by decide) (by omega) rfl dX7_current_182 (fun H locs hP hS => ?_)
                            refine lv_iinc (v := nI (nR - (t + 1))) (lv' := [(9, .int (nI (nR - (t + 1)))), (8, .int (nI a)), (7, .int (nI ei)), (0, .ref (ad 0)), (1, .double (d)), (3, .double (sp_)), (5, .double (e8 nd))]) hx hb dX7_current_183 hl (k := 0) rfl (pm1 (by omega)) (by decide) rfl (fun ls hl => ?_)
                            refine lv_goto (tgt := 128) hx hb dX7_current_186 (by decide) ?_
                            exact ih_128 (t + 1)  (by omega) (by omega) _ _ hP hS ls (lv_sub hl [0, 1, 2, 3, 4, 5, 6] rfl)
                      exact L_128_208 (nR + 1) (0)  (by omega) (by omega) _ _ hP hS ls (lv_sub hl [0, 1, 2, 3, 4, 5, 6] rfl)
                    · skip
                      have c_117_207 : nR = 10 := (nI_eq (a := nR) (b := 10) (by omega) (by omega)).mp c_117_207
                      refine lv_iconst (v := nI 0) hx hb dX7_current_120 (by decide) ?_
                      exact hret hS hP dX7_current_121 (Or.inl rfl) (⟨Or.inl ⟨ei, a, he, b_3, b_5, hdir, hA, Or.inr (Or.inr ⟨fun q => absurd q.2 c_107_112, by omega, rfl, rfl⟩)⟩, rfl⟩)
              · skip
                have c_69_13 : ¬ (nR ≤ a) := fun q => c_69_13 ((nI_leI (a := nR) (b := a) (by omega) (by omega)).mpr q)
                refine lv_aload_n hx hb dX7_current_72 rfl (lv_at hl 2 rfl) ?_
                refine va_get (D := D) (ci := 7) (v := .ref (ad 16)) (C := RX7) (T := TX7) (N := 31) hx hb hts iX7_current_X7 hown hK hP 0 rfl rfl 18 (by decide) f_57 (fun _ h9 => h9) rfl dX7_current_73 ?_
                refine lv_iload hx hb dX7_current_76 (lv_at hl 0 rfl) ?_
                refine xdl hx hb hK hP 16 0 rfl rfl (j := a) (by decide) (by omega) dX7_current_78 ?_
                refine lv_dload_n hx hb dX7_current_79 rfl (lv_at hl 3 rfl) ?_
                refine xc_glt (tgt := 90) hx hb dX7_current_80 dX7_current_81 (by decide) (fun c_80_304 => ?_) (fun c_80_304 => ?_)
                · skip
                  have hA : isA rd d nR a := ⟨by omega, hlt, fun _ => c_80_304⟩
                  refine lv_iload hx hb dX7_current_90 (lv_at hl 0 rfl) ?_
                  refine lv_aload_n hx hb dX7_current_92 rfl (lv_at hl 2 rfl) ?_
                  refine va_get (D := D) (ci := 7) (v := .int (nI nR)) (C := RX7) (T := TX7) (N := 31) hx hb hts iX7_current_X7 hown hK hP 0 rfl rfl 17 (by decide) f_132 (fun _ h9 => h9) rfl dX7_current_93 ?_
                  refine lv_icmp_eq (tgt := 111) hx hb dX7_current_96 (by decide) (fun c_96_305 => ?_) (fun c_96_305 => ?_)
                  · skip
                    have c_96_305 : a = nR := (nI_eq (a := a) (b := nR) (by omega) (by omega)).mp c_96_305
                    refine lv_aload_n hx hb dX7_current_111 rfl (lv_at hl 2 rfl) ?_
                    refine va_get (D := D) (ci := 7) (v := .int (nI nR)) (C := RX7) (T := TX7) (N := 31) hx hb hts iX7_current_X7 hown hK hP 0 rfl rfl 17 (by decide) f_132 (fun _ h9 => h9) rfl dX7_current_112 ?_
                    refine lv_bipush (v := nI 10) hx hb dX7_current_115 (by decide) ?_
                    refine lv_icmp_ne (tgt := 122) hx hb dX7_current_117 (by decide) (fun c_117_306 => ?_) (fun c_117_306 => ?_)
                    · skip
                      have c_117_306 : ¬ (nR = 10) := fun q => c_117_306 ((nI_eq (a := nR) (b := 10) (by omega) (by omega)).mpr q)
                      refine lv_aload_n hx hb dX7_current_122 rfl (lv_at hl 2 rfl) ?_
                      refine va_get (D := D) (ci := 7) (v := .int (nI nR)) (C := RX7) (T := TX7) (N := 31) hx hb hts iX7_current_X7 hown hK hP 0 rfl rfl 17 (by decide) f_132 (fun _ h9 => h9) rfl dX7_current_123 ?_
                      refine lv_istore (lv' := [(9, .int (nI nR)), (8, .int (nI a)), (7, .int (nI ei)), (0, .ref (ad 0)), (1, .double (d)), (3, .double (sp_)), (5, .double (e8 nd))]) hx hb dX7_current_126 hl (by decide) rfl (fun ls hl => ?_)
                      have L_128_307 : ∀ (n_128 t : Nat) , (nR + 1 ≤ t + n_128) → (a + t ≤ nR) → ∀ (H : Heap) (locs : List Loc), va_P D vwCl (WM cs ad (((nN, px, py, pz, fx, fy, fz, lf, ld, fi), (nB, fr, tt, ln, wi, sg, pu), (nR, (shf rd nR t), (shf rx nR t), (shf ry nR t), wv, fo), (re, dg), (nP, tp, bt, dp)), (nQ, fu))) H → va_S (gA (AM ad) s.heap.size) s.heap H locs → ∀ (ls : Array Slot), lv_has ls 11 [(9, .int (nI (nR - t))), (8, .int (nI a)), (7, .int (nI ei)), (0, .ref (ad 0)), (1, .double (d)), (3, .double (sp_)), (5, .double (e8 nd))] → W p l e ({ frames := 1, cells := 0, slots := 0, locals := 25 } : Room) s m ([.ref (ad 0), .double (d), .double (sp_), .double (e8 nd)] : List Value).toArray below meth c H locs 0 0 Q (F0 m 128 ls []) := by
                        intro n_128; induction n_128 with
                        | zero => intro t hf_128 ht H locs hP hS ls hl; exact absurd hf_128 (by omega)
                        | succ n_128 ih_128 =>
                          intro t hf_128 ht H locs hP hS ls hl
                          refine lv_iload hx hb dX7_current_128 (lv_at hl 0 rfl) ?_
                          refine lv_iload hx hb dX7_current_130 (lv_at hl 1 rfl) ?_
                          refine lv_icmp_le (tgt := 189) hx hb dX7_current_132 (by decide) (fun c_132_308 => ?_) (fun c_132_308 => ?_)
                          · skip
                            have c_132_308 : nR - t ≤ a := (nI_leI (a := nR - t) (b := a) (by omega) (by omega)).mp c_132_308
                            have et : t = nR - a := by omega
                            subst et
                            refine lv_aload_n hx hb dX7_current_189 rfl (lv_at hl 3 rfl) ?_
                            refine lv_dup hx hb dX7_current_190 rfl ?_
                            refine va_get (D := D) (ci := 7) (v := .int (nI nR)) (C := RX7) (T := TX7) (N := 31) hx hb hts iX7_current_X7 hown hK hP 0 rfl rfl 17 (by decide) f_132 (fun _ h9 => h9) rfl dX7_current_191 ?_
                            refine lv_iconst (v := nI 1) hx hb dX7_current_194 (by decide) ?_
                            refine xia hx hb (nR + 1) dX7_current_195 rfl ?_
                            refine xput (D := D) (ci := 7) (v := .int (nI (nR + 1))) (ty := .int) (C := RX7) (T := TX7) (N := 31) hx hb hts iX7_current_X7 tyX7 tyX7_ok nmX7 hown hK hD hP hS 0 (((nN, px, py, pz, fx, fy, fz, lf, ld, fi), (nB, fr, tt, ln, wi, sg, pu), ((nR + 1), (shf rd nR (nR - a)), (shf rx nR (nR - a)), (shf ry nR (nR - a)), wv, fo), (re, dg), (nP, tp, bt, dp)), (nQ, fu)) rfl rfl 17 (by decide) f_132 (fun _ h9 => h9) rfl (by decide +kernel) rfl rfl (Nat.le_of_ble_eq_true rfl) rfl dX7_current_196 (fun H locs hP hS => ?_)
                            rcases (show ei = 0 ∨ ei = 1 ∨ ei = 2 ∨ ei = 3 ∨ ei = 4 ∨ ei = 5 ∨ ei = 6 ∨ ei = 7 by omega) with rfl | rfl | rfl | rfl | rfl | rfl | rfl | rfl
                            · skip
                              refine lv_dload_n hx hb dX7_current_199 rfl (lv_at hl 5 rfl) ?_
                              refine lv_ldc2d hx hb hown c_139 dX7_current_200 ?_
                              have h_310 : fB (1028) (FP.dmul (sp_) (4604544271217802189)) := fB_mul hsp (fB_lit (K := 1023) (a := 4604544271217802189) (by decide +kernel)) (by omega) (by omega) (by omega)
                              refine lv_dmul hx hb dX7_current_203 (fB_ne h_310 (by omega)) ?_
                              refine lv_dstore (lv' := [(9, .double (FP.dmul (sp_) (4604544271217802189))), (8, .int (nI a)), (7, .int (nI 0)), (0, .ref (ad 0)), (1, .double (d)), (3, .double (sp_)), (5, .double (e8 nd))]) hx hb dX7_current_204 hl (by decide) rfl (fun ls hl => ?_)
                              refine lv_aload_n hx hb dX7_current_206 rfl (lv_at hl 3 rfl) ?_
                              refine va_get (D := D) (ci := 7) (v := .ref (ad 16)) (C := RX7) (T := TX7) (N := 31) hx hb hts iX7_current_X7 hown hK hP 0 rfl rfl 18 (by decide) f_57 (fun _ h9 => h9) rfl dX7_current_207 ?_
                              refine lv_iload hx hb dX7_current_210 (lv_at hl 1 rfl) ?_
                              refine lv_dload_n hx hb dX7_current_212 rfl (lv_at hl 4 rfl) ?_
                              refine xds hx hb hK hD hP hS 16 0 (((nN, px, py, pz, fx, fy, fz, lf, ld, fi), (nB, fr, tt, ln, wi, sg, pu), ((nR + 1), (vf_upd (shf rd nR (nR - a)) a d), (shf rx nR (nR - a)), (shf ry nR (nR - a)), wv, fo), (re, dg), (nP, tp, bt, dp)), (nQ, fu)) rfl rfl (j := a) (by decide) (by omega) rfl dX7_current_213 (fun H locs hP hS => ?_)
                              refine lv_aload_n hx hb dX7_current_214 rfl (lv_at hl 3 rfl) ?_
                              refine va_get (D := D) (ci := 7) (v := .ref (ad 17)) (C := RX7) (T := TX7) (N := 31) hx hb hts iX7_current_X7 hown hK hP 0 rfl rfl 19 (by decide) f_60 (fun _ h9 => h9) rfl dX7_current_215 ?_
                              refine lv_iload hx hb dX7_current_218 (lv_at hl 1 rfl) ?_
                              refine lv_iload hx hb dX7_current_220 (lv_at hl 2 rfl) ?_
                              refine lv_if_ne (tgt := 229) hx hb dX7_current_222 (by decide) (fun c_222_311 => absurd c_222_311 (by decide)) (fun _ => ?_)
                              refine lv_dload_n hx hb dX7_current_225 rfl (lv_at hl 5 rfl) ?_
                              refine lv_goto (tgt := 280) hx hb dX7_current_226 (by decide) ?_
                              refine xds hx hb hK hD hP hS 17 0 (((nN, px, py, pz, fx, fy, fz, lf, ld, fi), (nB, fr, tt, ln, wi, sg, pu), ((nR + 1), (vf_upd (shf rd nR (nR - a)) a d), (vf_upd (shf rx nR (nR - a)) a sp_), (shf ry nR (nR - a)), wv, fo), (re, dg), (nP, tp, bt, dp)), (nQ, fu)) rfl rfl (j := a) (by decide) (by omega) rfl dX7_current_280 (fun H locs hP hS => ?_)
                              refine lv_aload_n hx hb dX7_current_281 rfl (lv_at hl 3 rfl) ?_
                              refine va_get (D := D) (ci := 7) (v := .ref (ad 18)) (C := RX7) (T := TX7) (N := 31) hx hb hts iX7_current_X7 hown hK hP 0 rfl rfl 20 (by decide) f_63 (fun _ h9 => h9) rfl dX7_current_282 ?_
                              refine lv_iload hx hb dX7_current_285 (lv_at hl 1 rfl) ?_
                              refine lv_iload hx hb dX7_current_287 (lv_at hl 2 rfl) ?_
                              refine lv_iconst (v := nI 2) hx hb dX7_current_289 (by decide) ?_
                              refine lv_icmp_ne (tgt := 297) hx hb dX7_current_290 (by decide) (fun _ => ?_) (fun c_290_312 => absurd c_290_312 (by decide))
                              refine lv_iload hx hb dX7_current_297 (lv_at hl 2 rfl) ?_
                              refine lv_iconst (v := nI 1) hx hb dX7_current_299 (by decide) ?_
                              refine lv_icmp_eq (tgt := 309) hx hb dX7_current_300 (by decide) (fun c_300_313 => absurd c_300_313 (by decide)) (fun _ => ?_)
                              refine lv_iload hx hb dX7_current_303 (lv_at hl 2 rfl) ?_
                              refine lv_iconst (v := nI 3) hx hb dX7_current_305 (by decide) ?_
                              refine lv_icmp_ne (tgt := 314) hx hb dX7_current_306 (by decide) (fun _ => ?_) (fun c_306_314 => absurd c_306_314 (by decide))
                              refine lv_iload hx hb dX7_current_314 (lv_at hl 2 rfl) ?_
                              refine lv_if_eq (tgt := 325) hx hb dX7_current_316 (by decide) (fun _ => ?_) (fun c_316_315 => absurd c_316_315 (by decide))
                              refine lv_dconst0 hx hb dX7_current_325 ?_
                              refine lv_goto (tgt := 346) hx hb dX7_current_326 (by decide) ?_
                              refine xds hx hb hK hD hP hS 18 0 (((nN, px, py, pz, fx, fy, fz, lf, ld, fi), (nB, fr, tt, ln, wi, sg, pu), ((nR + 1), (vf_upd (shf rd nR (nR - a)) a d), (vf_upd (shf rx nR (nR - a)) a sp_), (vf_upd (shf ry nR (nR - a)) a FP.dconst0), wv, fo), (re, dg), (nP, tp, bt, dp)), (nQ, fu)) rfl rfl (j := a) (by decide) (by omega) rfl dX7_current_346 (fun H locs hP hS => ?_)
                              refine lv_iconst (v := nI 1) hx hb dX7_current_347 (by decide) ?_
                              exact hret hS hP dX7_current_348 (Or.inr rfl) (⟨Or.inl ⟨0, a, he, b_3, b_5, hdir, hA, Or.inr (Or.inl ⟨fun q => absurd q.1 (by omega), by omega, rfl, rfl⟩)⟩, rfl⟩)
                            · skip
                              refine lv_dload_n hx hb dX7_current_199 rfl (lv_at hl 5 rfl) ?_
                              refine lv_ldc2d hx hb hown c_139 dX7_current_200 ?_
                              have h_317 : fB (1028) (FP.dmul (sp_) (4604544271217802189)) := fB_mul hsp (fB_lit (K := 1023) (a := 4604544271217802189) (by decide +kernel)) (by omega) (by omega) (by omega)
                              refine lv_dmul hx hb dX7_current_203 (fB_ne h_317 (by omega)) ?_
                              refine lv_dstore (lv' := [(9, .double (FP.dmul (sp_) (4604544271217802189))), (8, .int (nI a)), (7, .int (nI 1)), (0, .ref (ad 0)), (1, .double (d)), (3, .double (sp_)), (5, .double (e8 nd))]) hx hb dX7_current_204 hl (by decide) rfl (fun ls hl => ?_)
                              refine lv_aload_n hx hb dX7_current_206 rfl (lv_at hl 3 rfl) ?_
                              refine va_get (D := D) (ci := 7) (v := .ref (ad 16)) (C := RX7) (T := TX7) (N := 31) hx hb hts iX7_current_X7 hown hK hP 0 rfl rfl 18 (by decide) f_57 (fun _ h9 => h9) rfl dX7_current_207 ?_
                              refine lv_iload hx hb dX7_current_210 (lv_at hl 1 rfl) ?_
                              refine lv_dload_n hx hb dX7_current_212 rfl (lv_at hl 4 rfl) ?_
                              refine xds hx hb hK hD hP hS 16 0 (((nN, px, py, pz, fx, fy, fz, lf, ld, fi), (nB, fr, tt, ln, wi, sg, pu), ((nR + 1), (vf_upd (shf rd nR (nR - a)) a d), (shf rx nR (nR - a)), (shf ry nR (nR - a)), wv, fo), (re, dg), (nP, tp, bt, dp)), (nQ, fu)) rfl rfl (j := a) (by decide) (by omega) rfl dX7_current_213 (fun H locs hP hS => ?_)
                              refine lv_aload_n hx hb dX7_current_214 rfl (lv_at hl 3 rfl) ?_
                              refine va_get (D := D) (ci := 7) (v := .ref (ad 17)) (C := RX7) (T := TX7) (N := 31) hx hb hts iX7_current_X7 hown hK hP 0 rfl rfl 19 (by decide) f_60 (fun _ h9 => h9) rfl dX7_current_215 ?_
                              refine lv_iload hx hb dX7_current_218 (lv_at hl 1 rfl) ?_
                              refine lv_iload hx hb dX7_current_220 (lv_at hl 2 rfl) ?_
                              refine lv_if_ne (tgt := 229) hx hb dX7_current_222 (by decide) (fun _ => ?_) (fun c_222_318 => absurd c_222_318 (by decide))
                              refine lv_iload hx hb dX7_current_229 (lv_at hl 2 rfl) ?_
                              refine lv_iconst (v := nI 1) hx hb dX7_current_231 (by decide) ?_
                              refine lv_icmp_eq (tgt := 242) hx hb dX7_current_232 (by decide) (fun _ => ?_) (fun c_232_319 => absurd c_232_319 (by decide))
                              refine lv_dload hx hb dX7_current_242 (lv_at hl 0 rfl) ?_
                              refine lv_goto (tgt := 280) hx hb dX7_current_244 (by decide) ?_
                              refine xds hx hb hK hD hP hS 17 0 (((nN, px, py, pz, fx, fy, fz, lf, ld, fi), (nB, fr, tt, ln, wi, sg, pu), ((nR + 1), (vf_upd (shf rd nR (nR - a)) a d), (vf_upd (shf rx nR (nR - a)) a (FP.dmul (sp_) (4604544271217802189))), (shf ry nR (nR - a)), wv, fo), (re, dg), (nP, tp, bt, dp)), (nQ, fu)) rfl rfl (j := a) (by decide) (by omega) rfl dX7_current_280 (fun H locs hP hS => ?_)
                              refine lv_aload_n hx hb dX7_current_281 rfl (lv_at hl 3 rfl) ?_
                              refine va_get (D := D) (ci := 7) (v := .ref (ad 18)) (C := RX7) (T := TX7) (N := 31) hx hb hts iX7_current_X7 hown hK hP 0 rfl rfl 20 (by decide) f_63 (fun _ h9 => h9) rfl dX7_current_282 ?_
                              refine lv_iload hx hb dX7_current_285 (lv_at hl 1 rfl) ?_
                              refine lv_iload hx hb dX7_current_287 (lv_at hl 2 rfl) ?_
                              refine lv_iconst (v := nI 2) hx hb dX7_current_289 (by decide) ?_
                              refine lv_icmp_ne (tgt := 297) hx hb dX7_current_290 (by decide) (fun _ => ?_) (fun c_290_320 => absurd c_290_320 (by decide))
                              refine lv_iload hx hb dX7_current_297 (lv_at hl 2 rfl) ?_
                              refine lv_iconst (v := nI 1) hx hb dX7_current_299 (by decide) ?_
                              refine lv_icmp_eq (tgt := 309) hx hb dX7_current_300 (by decide) (fun _ => ?_) (fun c_300_321 => absurd c_300_321 (by decide))
                              refine lv_dload hx hb dX7_current_309 (lv_at hl 0 rfl) ?_
                              refine lv_goto (tgt := 346) hx hb dX7_current_311 (by decide) ?_
                              refine xds hx hb hK hD hP hS 18 0 (((nN, px, py, pz, fx, fy, fz, lf, ld, fi), (nB, fr, tt, ln, wi, sg, pu), ((nR + 1), (vf_upd (shf rd nR (nR - a)) a d), (vf_upd (shf rx nR (nR - a)) a (FP.dmul (sp_) (4604544271217802189))), (vf_upd (shf ry nR (nR - a)) a (FP.dmul (sp_) (4604544271217802189))), wv, fo), (re, dg), (nP, tp, bt, dp)), (nQ, fu)) rfl rfl (j := a) (by decide) (by omega) rfl dX7_current_346 (fun H locs hP hS => ?_)
                              refine lv_iconst (v := nI 1) hx hb dX7_current_347 (by decide) ?_
                              exact hret hS hP dX7_current_348 (Or.inr rfl) (⟨Or.inl ⟨1, a, he, b_3, b_5, hdir, hA, Or.inr (Or.inl ⟨fun q => absurd q.1 (by omega), by omega, rfl, rfl⟩)⟩, rfl⟩)
                            · skip
                              refine lv_dload_n hx hb dX7_current_199 rfl (lv_at hl 5 rfl) ?_
                              refine lv_ldc2d hx hb hown c_139 dX7_current_200 ?_
                              have h_323 : fB (1028) (FP.dmul (sp_) (4604544271217802189)) := fB_mul hsp (fB_lit (K := 1023) (a := 4604544271217802189) (by decide +kernel)) (by omega) (by omega) (by omega)
                              refine lv_dmul hx hb dX7_current_203 (fB_ne h_323 (by omega)) ?_
                              refine lv_dstore (lv' := [(9, .double (FP.dmul (sp_) (4604544271217802189))), (8, .int (nI a)), (7, .int (nI 2)), (0, .ref (ad 0)), (1, .double (d)), (3, .double (sp_)), (5, .double (e8 nd))]) hx hb dX7_current_204 hl (by decide) rfl (fun ls hl => ?_)
                              refine lv_aload_n hx hb dX7_current_206 rfl (lv_at hl 3 rfl) ?_
                              refine va_get (D := D) (ci := 7) (v := .ref (ad 16)) (C := RX7) (T := TX7) (N := 31) hx hb hts iX7_current_X7 hown hK hP 0 rfl rfl 18 (by decide) f_57 (fun _ h9 => h9) rfl dX7_current_207 ?_
                              refine lv_iload hx hb dX7_current_210 (lv_at hl 1 rfl) ?_
                              refine lv_dload_n hx hb dX7_current_212 rfl (lv_at hl 4 rfl) ?_
                              refine xds hx hb hK hD hP hS 16 0 (((nN, px, py, pz, fx, fy, fz, lf, ld, fi), (nB, fr, tt, ln, wi, sg, pu), ((nR + 1), (vf_upd (shf rd nR (nR - a)) a d), (shf rx nR (nR - a)), (shf ry nR (nR - a)), wv, fo), (re, dg), (nP, tp, bt, dp)), (nQ, fu)) rfl rfl (j := a) (by decide) (by omega) rfl dX7_current_213 (fun H locs hP hS => ?_)
                              refine lv_aload_n hx hb dX7_current_214 rfl (lv_at hl 3 rfl) ?_
                              refine va_get (D := D) (ci := 7) (v := .ref (ad 17)) (C := RX7) (T := TX7) (N := 31) hx hb hts iX7_current_X7 hown hK hP 0 rfl rfl 19 (by decide) f_60 (fun _ h9 => h9) rfl dX7_current_215 ?_
                              refine lv_iload hx hb dX7_current_218 (lv_at hl 1 rfl) ?_
                              refine lv_iload hx hb dX7_current_220 (lv_at hl 2 rfl) ?_
                              refine lv_if_ne (tgt := 229) hx hb dX7_current_222 (by decide) (fun _ => ?_) (fun c_222_324 => absurd c_222_324 (by decide))
                              refine lv_iload hx hb dX7_current_229 (lv_at hl 2 rfl) ?_
                              refine lv_iconst (v := nI 1) hx hb dX7_current_231 (by decide) ?_
                              refine lv_icmp_eq (tgt := 242) hx hb dX7_current_232 (by decide) (fun c_232_325 => absurd c_232_325 (by decide)) (fun _ => ?_)
                              refine lv_iload hx hb dX7_current_235 (lv_at hl 2 rfl) ?_
                              refine lv_bipush (v := nI 7) hx hb dX7_current_237 (by decide) ?_
                              refine lv_icmp_ne (tgt := 247) hx hb dX7_current_239 (by decide) (fun _ => ?_) (fun c_239_326 => absurd c_239_326 (by decide))
                              refine lv_iload hx hb dX7_current_247 (lv_at hl 2 rfl) ?_
                              refine lv_iconst (v := nI 2) hx hb dX7_current_249 (by decide) ?_
                              refine lv_icmp_eq (tgt := 260) hx hb dX7_current_250 (by decide) (fun _ => ?_) (fun c_250_327 => absurd c_250_327 (by decide))
                              refine lv_dconst0 hx hb dX7_current_260 ?_
                              refine lv_goto (tgt := 280) hx hb dX7_current_261 (by decide) ?_
                              refine xds hx hb hK hD hP hS 17 0 (((nN, px, py, pz, fx, fy, fz, lf, ld, fi), (nB, fr, tt, ln, wi, sg, pu), ((nR + 1), (vf_upd (shf rd nR (nR - a)) a d), (vf_upd (shf rx nR (nR - a)) a FP.dconst0), (shf ry nR (nR - a)), wv, fo), (re, dg), (nP, tp, bt, dp)), (nQ, fu)) rfl rfl (j := a) (by decide) (by omega) rfl dX7_current_280 (fun H locs hP hS => ?_)
                              refine lv_aload_n hx hb dX7_current_281 rfl (lv_at hl 3 rfl) ?_
                              refine va_get (D := D) (ci := 7) (v := .ref (ad 18)) (C := RX7) (T := TX7) (N := 31) hx hb hts iX7_current_X7 hown hK hP 0 rfl rfl 20 (by decide) f_63 (fun _ h9 => h9) rfl dX7_current_282 ?_
                              refine lv_iload hx hb dX7_current_285 (lv_at hl 1 rfl) ?_
                              refine lv_iload hx hb dX7_current_287 (lv_at hl 2 rfl) ?_
                              refine lv_iconst (v := nI 2) hx hb dX7_current_289 (by decide) ?_
                              refine lv_icmp_ne (tgt := 297) hx hb dX7_current_290 (by decide) (fun c_290_328 => absurd c_290_328 (by decide)) (fun _ => ?_)
                              refine lv_dload_n hx hb dX7_current_293 rfl (lv_at hl 5 rfl) ?_
                              refine lv_goto (tgt := 346) hx hb dX7_current_294 (by decide) ?_
                              refine xds hx hb hK hD hP hS 18 0 (((nN, px, py, pz, fx, fy, fz, lf, ld, fi), (nB, fr, tt, ln, wi, sg, pu), ((nR + 1), (vf_upd (shf rd nR (nR - a)) a d), (vf_upd (shf rx nR (nR - a)) a FP.dconst0), (vf_upd (shf ry nR (nR - a)) a sp_), wv, fo), (re, dg), (nP, tp, bt, dp)), (nQ, fu)) rfl rfl (j := a) (by decide) (by omega) rfl dX7_current_346 (fun H locs hP hS => ?_)
                              refine lv_iconst (v := nI 1) hx hb dX7_current_347 (by decide) ?_
                              exact hret hS hP dX7_current_348 (Or.inr rfl) (⟨Or.inl ⟨2, a, he, b_3, b_5, hdir, hA, Or.inr (Or.inl ⟨fun q => absurd q.1 (by omega), by omega, rfl, rfl⟩)⟩, rfl⟩)
                            · skip
                              refine lv_dload_n hx hb dX7_current_199 rfl (lv_at hl 5 rfl) ?_
                              refine lv_ldc2d hx hb hown c_139 dX7_current_200 ?_
                              have h_330 : fB (1028) (FP.dmul (sp_) (4604544271217802189)) := fB_mul hsp (fB_lit (K := 1023) (a := 4604544271217802189) (by decide +kernel)) (by omega) (by omega) (by omega)
                              refine lv_dmul hx hb dX7_current_203 (fB_ne h_330 (by omega)) ?_
                              refine lv_dstore (lv' := [(9, .double (FP.dmul (sp_) (4604544271217802189))), (8, .int (nI a)), (7, .int (nI 3)), (0, .ref (ad 0)), (1, .double (d)), (3, .double (sp_)), (5, .double (e8 nd))]) hx hb dX7_current_204 hl (by decide) rfl (fun ls hl => ?_)
                              refine lv_aload_n hx hb dX7_current_206 rfl (lv_at hl 3 rfl) ?_
                              refine va_get (D := D) (ci := 7) (v := .ref (ad 16)) (C := RX7) (T := TX7) (N := 31) hx hb hts iX7_current_X7 hown hK hP 0 rfl rfl 18 (by decide) f_57 (fun _ h9 => h9) rfl dX7_current_207 ?_
                              refine lv_iload hx hb dX7_current_210 (lv_at hl 1 rfl) ?_
                              refine lv_dload_n hx hb dX7_current_212 rfl (lv_at hl 4 rfl) ?_
                              refine xds hx hb hK hD hP hS 16 0 (((nN, px, py, pz, fx, fy, fz, lf, ld, fi), (nB, fr, tt, ln, wi, sg, pu), ((nR + 1), (vf_upd (shf rd nR (nR - a)) a d), (shf rx nR (nR - a)), (shf ry nR (nR - a)), wv, fo), (re, dg), (nP, tp, bt, dp)), (nQ, fu)) rfl rfl (j := a) (by decide) (by omega) rfl dX7_current_213 (fun H locs hP hS => ?_)
                              refine lv_aload_n hx hb dX7_current_214 rfl (lv_at hl 3 rfl) ?_
                              refine va_get (D := D) (ci := 7) (v := .ref (ad 17)) (C := RX7) (T := TX7) (N := 31) hx hb hts iX7_current_X7 hown hK hP 0 rfl rfl 19 (by decide) f_60 (fun _ h9 => h9) rfl dX7_current_215 ?_
                              refine lv_iload hx hb dX7_current_218 (lv_at hl 1 rfl) ?_
                              refine lv_iload hx hb dX7_current_220 (lv_at hl 2 rfl) ?_
                              refine lv_if_ne (tgt := 229) hx hb dX7_current_222 (by decide) (fun _ => ?_) (fun c_222_331 => absurd c_222_331 (by decide))
                              refine lv_iload hx hb dX7_current_229 (lv_at hl 2 rfl) ?_
                              refine lv_iconst (v := nI 1) hx hb dX7_current_231 (by decide) ?_
                              refine lv_icmp_eq (tgt := 242) hx hb dX7_current_232 (by decide) (fun c_232_332 => absurd c_232_332 (by decide)) (fun _ => ?_)
                              refine lv_iload hx hb dX7_current_235 (lv_at hl 2 rfl) ?_
                              refine lv_bipush (v := nI 7) hx hb dX7_current_237 (by decide) ?_
                              refine lv_icmp_ne (tgt := 247) hx hb dX7_current_239 (by decide) (fun _ => ?_) (fun c_239_333 => absurd c_239_333 (by decide))
                              refine lv_iload hx hb dX7_current_247 (lv_at hl 2 rfl) ?_
                              refine lv_iconst (v := nI 2) hx hb dX7_current_249 (by decide) ?_
                              refine lv_icmp_eq (tgt := 260) hx hb dX7_current_250 (by decide) (fun c_250_334 => absurd c_250_334 (by decide)) (fun _ => ?_)
                              refine lv_iload hx hb dX7_current_253 (lv_at hl 2 rfl) ?_
                              refine lv_bipush (v := nI 6) hx hb dX7_current_255 (by decide) ?_
                              refine lv_icmp_ne (tgt := 264) hx hb dX7_current_257 (by decide) (fun _ => ?_) (fun c_257_335 => absurd c_257_335 (by decide))
                              refine lv_iload hx hb dX7_current_264 (lv_at hl 2 rfl) ?_
                              refine lv_iconst (v := nI 4) hx hb dX7_current_266 (by decide) ?_
                              refine lv_icmp_ne (tgt := 276) hx hb dX7_current_267 (by decide) (fun _ => ?_) (fun c_267_336 => absurd c_267_336 (by decide))
                              refine lv_dconst0 hx hb dX7_current_276 ?_
                              refine lv_dload hx hb dX7_current_277 (lv_at hl 0 rfl) ?_
                              have h_338 : fB (1030) (FP.dsub (FP.dconst0) (FP.dmul (sp_) (4604544271217802189))) := fB_sub (M := 1028) fB_c0 h_330 (by omega) (by omega) (by omega)
                              refine lv_dsub hx hb dX7_current_279 (fB_ne h_338 (by omega)) ?_
                              refine xds hx hb hK hD hP hS 17 0 (((nN, px, py, pz, fx, fy, fz, lf, ld, fi), (nB, fr, tt, ln, wi, sg, pu), ((nR + 1), (vf_upd (shf rd nR (nR - a)) a d), (vf_upd (shf rx nR (nR - a)) a (FP.dsub (FP.dconst0) (FP.dmul (sp_) (4604544271217802189)))), (shf ry nR (nR - a)), wv, fo), (re, dg), (nP, tp, bt, dp)), (nQ, fu)) rfl rfl (j := a) (by decide) (by omega) rfl dX7_current_280 (fun H locs hP hS => ?_)
                              refine lv_aload_n hx hb dX7_current_281 rfl (lv_at hl 3 rfl) ?_
                              refine va_get (D := D) (ci := 7) (v := .ref (ad 18)) (C := RX7) (T := TX7) (N := 31) hx hb hts iX7_current_X7 hown hK hP 0 rfl rfl 20 (by decide) f_63 (fun _ h9 => h9) rfl dX7_current_282 ?_
                              refine lv_iload hx hb dX7_current_285 (lv_at hl 1 rfl) ?_
                              refine lv_iload hx hb dX7_current_287 (lv_at hl 2 rfl) ?_
                              refine lv_iconst (v := nI 2) hx hb dX7_current_289 (by decide) ?_
                              refine lv_icmp_ne (tgt := 297) hx hb dX7_current_290 (by decide) (fun _ => ?_) (fun c_290_339 => absurd c_290_339 (by decide))
                              refine lv_iload hx hb dX7_current_297 (lv_at hl 2 rfl) ?_
                              refine lv_iconst (v := nI 1) hx hb dX7_current_299 (by decide) ?_
                              refine lv_icmp_eq (tgt := 309) hx hb dX7_current_300 (by decide) (fun c_300_340 => absurd c_300_340 (by decide)) (fun _ => ?_)
                              refine lv_iload hx hb dX7_current_303 (lv_at hl 2 rfl) ?_
                              refine lv_iconst (v := nI 3) hx hb dX7_current_305 (by decide) ?_
                              refine lv_icmp_ne (tgt := 314) hx hb dX7_current_306 (by decide) (fun c_306_341 => absurd c_306_341 (by decide)) (fun _ => ?_)
                              refine lv_dload hx hb dX7_current_309 (lv_at hl 0 rfl) ?_
                              refine lv_goto (tgt := 346) hx hb dX7_current_311 (by decide) ?_
                              refine xds hx hb hK hD hP hS 18 0 (((nN, px, py, pz, fx, fy, fz, lf, ld, fi), (nB, fr, tt, ln, wi, sg, pu), ((nR + 1), (vf_upd (shf rd nR (nR - a)) a d), (vf_upd (shf rx nR (nR - a)) a (FP.dsub (FP.dconst0) (FP.dmul (sp_) (4604544271217802189)))), (vf_upd (shf ry nR (nR - a)) a (FP.dmul (sp_) (4604544271217802189))), wv, fo), (re, dg), (nP, tp, bt, dp)), (nQ, fu)) rfl rfl (j := a) (by decide) (by omega) rfl dX7_current_346 (fun H locs hP hS => ?_)
                              refine lv_iconst (v := nI 1) hx hb dX7_current_347 (by decide) ?_
                              exact hret hS hP dX7_current_348 (Or.inr rfl) (⟨Or.inl ⟨3, a, he, b_3, b_5, hdir, hA, Or.inr (Or.inl ⟨fun q => absurd q.1 (by omega), by omega, rfl, rfl⟩)⟩, rfl⟩)
                            · skip
                              refine lv_dload_n hx hb dX7_current_199 rfl (lv_at hl 5 rfl) ?_
                              refine lv_ldc2d hx hb hown c_139 dX7_current_200 ?_
                              have h_343 : fB (1028) (FP.dmul (sp_) (4604544271217802189)) := fB_mul hsp (fB_lit (K := 1023) (a := 4604544271217802189) (by decide +kernel)) (by omega) (by omega) (by omega)
                              refine lv_dmul hx hb dX7_current_203 (fB_ne h_343 (by omega)) ?_
                              refine lv_dstore (lv' := [(9, .double (FP.dmul (sp_) (4604544271217802189))), (8, .int (nI a)), (7, .int (nI 4)), (0, .ref (ad 0)), (1, .double (d)), (3, .double (sp_)), (5, .double (e8 nd))]) hx hb dX7_current_204 hl (by decide) rfl (fun ls hl => ?_)
                              refine lv_aload_n hx hb dX7_current_206 rfl (lv_at hl 3 rfl) ?_
                              refine va_get (D := D) (ci := 7) (v := .ref (ad 16)) (C := RX7) (T := TX7) (N := 31) hx hb hts iX7_current_X7 hown hK hP 0 rfl rfl 18 (by decide) f_57 (fun _ h9 => h9) rfl dX7_current_207 ?_
                              refine lv_iload hx hb dX7_current_210 (lv_at hl 1 rfl) ?_
                              refine lv_dload_n hx hb dX7_current_212 rfl (lv_at hl 4 rfl) ?_
                              refine xds hx hb hK hD hP hS 16 0 (((nN, px, py, pz, fx, fy, fz, lf, ld, fi), (nB, fr, tt, ln, wi, sg, pu), ((nR + 1), (vf_upd (shf rd nR (nR - a)) a d), (shf rx nR (nR - a)), (shf ry nR (nR - a)), wv, fo), (re, dg), (nP, tp, bt, dp)), (nQ, fu)) rfl rfl (j := a) (by decide) (by omega) rfl dX7_current_213 (fun H locs hP hS => ?_)
                              refine lv_aload_n hx hb dX7_current_214 rfl (lv_at hl 3 rfl) ?_
                              refine va_get (D := D) (ci := 7) (v := .ref (ad 17)) (C := RX7) (T := TX7) (N := 31) hx hb hts iX7_current_X7 hown hK hP 0 rfl rfl 19 (by decide) f_60 (fun _ h9 => h9) rfl dX7_current_215 ?_
                              refine lv_iload hx hb dX7_current_218 (lv_at hl 1 rfl) ?_
                              refine lv_iload hx hb dX7_current_220 (lv_at hl 2 rfl) ?_
                              refine lv_if_ne (tgt := 229) hx hb dX7_current_222 (by decide) (fun _ => ?_) (fun c_222_344 => absurd c_222_344 (by decide))
                              refine lv_iload hx hb dX7_current_229 (lv_at hl 2 rfl) ?_
                              refine lv_iconst (v := nI 1) hx hb dX7_current_231 (by decide) ?_
                              refine lv_icmp_eq (tgt := 242) hx hb dX7_current_232 (by decide) (fun c_232_345 => absurd c_232_345 (by decide)) (fun _ => ?_)
                              refine lv_iload hx hb dX7_current_235 (lv_at hl 2 rfl) ?_
                              refine lv_bipush (v := nI 7) hx hb dX7_current_237 (by decide) ?_
                              refine lv_icmp_ne (tgt := 247) hx hb dX7_current_239 (by decide) (fun _ => ?_) (fun c_239_346 => absurd c_239_346 (by decide))
                              refine lv_iload hx hb dX7_current_247 (lv_at hl 2 rfl) ?_
                              refine lv_iconst (v := nI 2) hx hb dX7_current_249 (by decide) ?_
                              refine lv_icmp_eq (tgt := 260) hx hb dX7_current_250 (by decide) (fun c_250_347 => absurd c_250_347 (by decide)) (fun _ => ?_)
                              refine lv_iload hx hb dX7_current_253 (lv_at hl 2 rfl) ?_
                              refine lv_bipush (v := nI 6) hx hb dX7_current_255 (by decide) ?_
                              refine lv_icmp_ne (tgt := 264) hx hb dX7_current_257 (by decide) (fun _ => ?_) (fun c_257_348 => absurd c_257_348 (by decide))
                              refine lv_iload hx hb dX7_current_264 (lv_at hl 2 rfl) ?_
                              refine lv_iconst (v := nI 4) hx hb dX7_current_266 (by decide) ?_
                              refine lv_icmp_ne (tgt := 276) hx hb dX7_current_267 (by decide) (fun c_267_349 => absurd c_267_349 (by decide)) (fun _ => ?_)
                              refine lv_dconst0 hx hb dX7_current_270 ?_
                              refine lv_dload_n hx hb dX7_current_271 rfl (lv_at hl 5 rfl) ?_
                              have h_351 : fB (1029) (FP.dsub (FP.dconst0) (sp_)) := fB_sub (M := 1027) fB_c0 hsp (by omega) (by omega) (by omega)
                              refine lv_dsub hx hb dX7_current_272 (fB_ne h_351 (by omega)) ?_
                              refine lv_goto (tgt := 280) hx hb dX7_current_273 (by decide) ?_
                              refine xds hx hb hK hD hP hS 17 0 (((nN, px, py, pz, fx, fy, fz, lf, ld, fi), (nB, fr, tt, ln, wi, sg, pu), ((nR + 1), (vf_upd (shf rd nR (nR - a)) a d), (vf_upd (shf rx nR (nR - a)) a (FP.dsub (FP.dconst0) (sp_))), (shf ry nR (nR - a)), wv, fo), (re, dg), (nP, tp, bt, dp)), (nQ, fu)) rfl rfl (j := a) (by decide) (by omega) rfl dX7_current_280 (fun H locs hP hS => ?_)
                              refine lv_aload_n hx hb dX7_current_281 rfl (lv_at hl 3 rfl) ?_
                              refine va_get (D := D) (ci := 7) (v := .ref (ad 18)) (C := RX7) (T := TX7) (N := 31) hx hb hts iX7_current_X7 hown hK hP 0 rfl rfl 20 (by decide) f_63 (fun _ h9 => h9) rfl dX7_current_282 ?_
                              refine lv_iload hx hb dX7_current_285 (lv_at hl 1 rfl) ?_
                              refine lv_iload hx hb dX7_current_287 (lv_at hl 2 rfl) ?_
                              refine lv_iconst (v := nI 2) hx hb dX7_current_289 (by decide) ?_
                              refine lv_icmp_ne (tgt := 297) hx hb dX7_current_290 (by decide) (fun _ => ?_) (fun c_290_352 => absurd c_290_352 (by decide))
                              refine lv_iload hx hb dX7_current_297 (lv_at hl 2 rfl) ?_
                              refine lv_iconst (v := nI 1) hx hb dX7_current_299 (by decide) ?_
                              refine lv_icmp_eq (tgt := 309) hx hb dX7_current_300 (by decide) (fun c_300_353 => absurd c_300_353 (by decide)) (fun _ => ?_)
                              refine lv_iload hx hb dX7_current_303 (lv_at hl 2 rfl) ?_
                              refine lv_iconst (v := nI 3) hx hb dX7_current_305 (by decide) ?_
                              refine lv_icmp_ne (tgt := 314) hx hb dX7_current_306 (by decide) (fun _ => ?_) (fun c_306_354 => absurd c_306_354 (by decide))
                              refine lv_iload hx hb dX7_current_314 (lv_at hl 2 rfl) ?_
                              refine lv_if_eq (tgt := 325) hx hb dX7_current_316 (by decide) (fun c_316_355 => absurd c_316_355 (by decide)) (fun _ => ?_)
                              refine lv_iload hx hb dX7_current_319 (lv_at hl 2 rfl) ?_
                              refine lv_iconst (v := nI 4) hx hb dX7_current_321 (by decide) ?_
                              refine lv_icmp_ne (tgt := 329) hx hb dX7_current_322 (by decide) (fun c_322_356 => absurd c_322_356 (by decide)) (fun _ => ?_)
                              refine lv_dconst0 hx hb dX7_current_325 ?_
                              refine lv_goto (tgt := 346) hx hb dX7_current_326 (by decide) ?_
                              refine xds hx hb hK hD hP hS 18 0 (((nN, px, py, pz, fx, fy, fz, lf, ld, fi), (nB, fr, tt, ln, wi, sg, pu), ((nR + 1), (vf_upd (shf rd nR (nR - a)) a d), (vf_upd (shf rx nR (nR - a)) a (FP.dsub (FP.dconst0) (sp_))), (vf_upd (shf ry nR (nR - a)) a FP.dconst0), wv, fo), (re, dg), (nP, tp, bt, dp)), (nQ, fu)) rfl rfl (j := a) (by decide) (by omega) rfl dX7_current_346 (fun H locs hP hS => ?_)
                              refine lv_iconst (v := nI 1) hx hb dX7_current_347 (by decide) ?_
                              exact hret hS hP dX7_current_348 (Or.inr rfl) (⟨Or.inl ⟨4, a, he, b_3, b_5, hdir, hA, Or.inr (Or.inl ⟨fun q => absurd q.1 (by omega), by omega, rfl, rfl⟩)⟩, rfl⟩)
                            · skip
                              refine lv_dload_n hx hb dX7_current_199 rfl (lv_at hl 5 rfl) ?_
                              refine lv_ldc2d hx hb hown c_139 dX7_current_200 ?_
                              have h_358 : fB (1028) (FP.dmul (sp_) (4604544271217802189)) := fB_mul hsp (fB_lit (K := 1023) (a := 4604544271217802189) (by decide +kernel)) (by omega) (by omega) (by omega)
                              refine lv_dmul hx hb dX7_current_203 (fB_ne h_358 (by omega)) ?_
                              refine lv_dstore (lv' := [(9, .double (FP.dmul (sp_) (4604544271217802189))), (8, .int (nI a)), (7, .int (nI 5)), (0, .ref (ad 0)), (1, .double (d)), (3, .double (sp_)), (5, .double (e8 nd))]) hx hb dX7_current_204 hl (by decide) rfl (fun ls hl => ?_)
                              refine lv_aload_n hx hb dX7_current_206 rfl (lv_at hl 3 rfl) ?_
                              refine va_get (D := D) (ci := 7) (v := .ref (ad 16)) (C := RX7) (T := TX7) (N := 31) hx hb hts iX7_current_X7 hown hK hP 0 rfl rfl 18 (by decide) f_57 (fun _ h9 => h9) rfl dX7_current_207 ?_
                              refine lv_iload hx hb dX7_current_210 (lv_at hl 1 rfl) ?_
                              refine lv_dload_n hx hb dX7_current_212 rfl (lv_at hl 4 rfl) ?_
                              refine xds hx hb hK hD hP hS 16 0 (((nN, px, py, pz, fx, fy, fz, lf, ld, fi), (nB, fr, tt, ln, wi, sg, pu), ((nR + 1), (vf_upd (shf rd nR (nR - a)) a d), (shf rx nR (nR - a)), (shf ry nR (nR - a)), wv, fo), (re, dg), (nP, tp, bt, dp)), (nQ, fu)) rfl rfl (j := a) (by decide) (by omega) rfl dX7_current_213 (fun H locs hP hS => ?_)
                              refine lv_aload_n hx hb dX7_current_214 rfl (lv_at hl 3 rfl) ?_
                              refine va_get (D := D) (ci := 7) (v := .ref (ad 17)) (C := RX7) (T := TX7) (N := 31) hx hb hts iX7_current_X7 hown hK hP 0 rfl rfl 19 (by decide) f_60 (fun _ h9 => h9) rfl dX7_current_215 ?_
                              refine lv_iload hx hb dX7_current_218 (lv_at hl 1 rfl) ?_
                              refine lv_iload hx hb dX7_current_220 (lv_at hl 2 rfl) ?_
                              refine lv_if_ne (tgt := 229) hx hb dX7_current_222 (by decide) (fun _ => ?_) (fun c_222_359 => absurd c_222_359 (by decide))
                              refine lv_iload hx hb dX7_current_229 (lv_at hl 2 rfl) ?_
                              refine lv_iconst (v := nI 1) hx hb dX7_current_231 (by decide) ?_
                              refine lv_icmp_eq (tgt := 242) hx hb dX7_current_232 (by decide) (fun c_232_360 => absurd c_232_360 (by decide)) (fun _ => ?_)
                              refine lv_iload hx hb dX7_current_235 (lv_at hl 2 rfl) ?_
                              refine lv_bipush (v := nI 7) hx hb dX7_current_237 (by decide) ?_
                              refine lv_icmp_ne (tgt := 247) hx hb dX7_current_239 (by decide) (fun _ => ?_) (fun c_239_361 => absurd c_239_361 (by decide))
                              refine lv_iload hx hb dX7_current_247 (lv_at hl 2 rfl) ?_
                              refine lv_iconst (v := nI 2) hx hb dX7_current_249 (by decide) ?_
                              refine lv_icmp_eq (tgt := 260) hx hb dX7_current_250 (by decide) (fun c_250_362 => absurd c_250_362 (by decide)) (fun _ => ?_)
                              refine lv_iload hx hb dX7_current_253 (lv_at hl 2 rfl) ?_
                              refine lv_bipush (v := nI 6) hx hb dX7_current_255 (by decide) ?_
                              refine lv_icmp_ne (tgt := 264) hx hb dX7_current_257 (by decide) (fun _ => ?_) (fun c_257_363 => absurd c_257_363 (by decide))
                              refine lv_iload hx hb dX7_current_264 (lv_at hl 2 rfl) ?_
                              refine lv_iconst (v := nI 4) hx hb dX7_current_266 (by decide) ?_
                              refine lv_icmp_ne (tgt := 276) hx hb dX7_current_267 (by decide) (fun _ => ?_) (fun c_267_364 => absurd c_267_364 (by decide))
                              refine lv_dconst0 hx hb dX7_current_276 ?_
                              refine lv_dload hx hb dX7_current_277 (lv_at hl 0 rfl) ?_
                              have h_366 : fB (1030) (FP.dsub (FP.dconst0) (FP.dmul (sp_) (4604544271217802189))) := fB_sub (M := 1028) fB_c0 h_358 (by omega) (by omega) (by omega)
                              refine lv_dsub hx hb dX7_current_279 (fB_ne h_366 (by omega)) ?_
                              refine xds hx hb hK hD hP hS 17 0 (((nN, px, py, pz, fx, fy, fz, lf, ld, fi), (nB, fr, tt, ln, wi, sg, pu), ((nR + 1), (vf_upd (shf rd nR (nR - a)) a d), (vf_upd (shf rx nR (nR - a)) a (FP.dsub (FP.dconst0) (FP.dmul (sp_) (4604544271217802189)))), (shf ry nR (nR - a)), wv, fo), (re, dg), (nP, tp, bt, dp)), (nQ, fu)) rfl rfl (j := a) (by decide) (by omega) rfl dX7_current_280 (fun H locs hP hS => ?_)
                              refine lv_aload_n hx hb dX7_current_281 rfl (lv_at hl 3 rfl) ?_
                              refine va_get (D := D) (ci := 7) (v := .ref (ad 18)) (C := RX7) (T := TX7) (N := 31) hx hb hts iX7_current_X7 hown hK hP 0 rfl rfl 20 (by decide) f_63 (fun _ h9 => h9) rfl dX7_current_282 ?_
                              refine lv_iload hx hb dX7_current_285 (lv_at hl 1 rfl) ?_
                              refine lv_iload hx hb dX7_current_287 (lv_at hl 2 rfl) ?_
                              refine lv_iconst (v := nI 2) hx hb dX7_current_289 (by decide) ?_
                              refine lv_icmp_ne (tgt := 297) hx hb dX7_current_290 (by decide) (fun _ => ?_) (fun c_290_367 => absurd c_290_367 (by decide))
                              refine lv_iload hx hb dX7_current_297 (lv_at hl 2 rfl) ?_
                              refine lv_iconst (v := nI 1) hx hb dX7_current_299 (by decide) ?_
                              refine lv_icmp_eq (tgt := 309) hx hb dX7_current_300 (by decide) (fun c_300_368 => absurd c_300_368 (by decide)) (fun _ => ?_)
                              refine lv_iload hx hb dX7_current_303 (lv_at hl 2 rfl) ?_
                              refine lv_iconst (v := nI 3) hx hb dX7_current_305 (by decide) ?_
                              refine lv_icmp_ne (tgt := 314) hx hb dX7_current_306 (by decide) (fun _ => ?_) (fun c_306_369 => absurd c_306_369 (by decide))
                              refine lv_iload hx hb dX7_current_314 (lv_at hl 2 rfl) ?_
                              refine lv_if_eq (tgt := 325) hx hb dX7_current_316 (by decide) (fun c_316_370 => absurd c_316_370 (by decide)) (fun _ => ?_)
                              refine lv_iload hx hb dX7_current_319 (lv_at hl 2 rfl) ?_
                              refine lv_iconst (v := nI 4) hx hb dX7_current_321 (by decide) ?_
                              refine lv_icmp_ne (tgt := 329) hx hb dX7_current_322 (by decide) (fun _ => ?_) (fun c_322_371 => absurd c_322_371 (by decide))
                              refine lv_iload hx hb dX7_current_329 (lv_at hl 2 rfl) ?_
                              refine lv_bipush (v := nI 6) hx hb dX7_current_331 (by decide) ?_
                              refine lv_icmp_ne (tgt := 342) hx hb dX7_current_333 (by decide) (fun _ => ?_) (fun c_333_372 => absurd c_333_372 (by decide))
                              refine lv_dconst0 hx hb dX7_current_342 ?_
                              refine lv_dload hx hb dX7_current_343 (lv_at hl 0 rfl) ?_
                              have h_374 : fB (1030) (FP.dsub (FP.dconst0) (FP.dmul (sp_) (4604544271217802189))) := fB_sub (M := 1028) fB_c0 h_358 (by omega) (by omega) (by omega)
                              refine lv_dsub hx hb dX7_current_345 (fB_ne h_374 (by omega)) ?_
                              refine xds hx hb hK hD hP hS 18 0 (((nN, px, py, pz, fx, fy, fz, lf, ld, fi), (nB, fr, tt, ln, wi, sg, pu), ((nR + 1), (vf_upd (shf rd nR (nR - a)) a d), (vf_upd (shf rx nR (nR - a)) a (FP.dsub (FP.dconst0) (FP.dmul (sp_) (4604544271217802189)))), (vf_upd (shf ry nR (nR - a)) a (FP.dsub (FP.dconst0) (FP.dmul (sp_) (4604544271217802189)))), wv, fo), (re, dg), (nP, tp, bt, dp)), (nQ, fu)) rfl rfl (j := a) (by decide) (by omega) rfl dX7_current_346 (fun H locs hP hS => ?_)
                              refine lv_iconst (v := nI 1) hx hb dX7_current_347 (by decide) ?_
                              exact hret hS hP dX7_current_348 (Or.inr rfl) (⟨Or.inl ⟨5, a, he, b_3, b_5, hdir, hA, Or.inr (Or.inl ⟨fun q => absurd q.1 (by omega), by omega, rfl, rfl⟩)⟩, rfl⟩)
                            · skip
                              refine lv_dload_n hx hb dX7_current_199 rfl (lv_at hl 5 rfl) ?_
                              refine lv_ldc2d hx hb hown c_139 dX7_current_200 ?_
                              have h_376 : fB (1028) (FP.dmul (sp_) (4604544271217802189)) := fB_mul hsp (fB_lit (K := 1023) (a := 4604544271217802189) (by decide +kernel)) (by omega) (by omega) (by omega)
                              refine lv_dmul hx hb dX7_current_203 (fB_ne h_376 (by omega)) ?_
                              refine lv_dstore (lv' := [(9, .double (FP.dmul (sp_) (4604544271217802189))), (8, .int (nI a)), (7, .int (nI 6)), (0, .ref (ad 0)), (1, .double (d)), (3, .double (sp_)), (5, .double (e8 nd))]) hx hb dX7_current_204 hl (by decide) rfl (fun ls hl => ?_)
                              refine lv_aload_n hx hb dX7_current_206 rfl (lv_at hl 3 rfl) ?_
                              refine va_get (D := D) (ci := 7) (v := .ref (ad 16)) (C := RX7) (T := TX7) (N := 31) hx hb hts iX7_current_X7 hown hK hP 0 rfl rfl 18 (by decide) f_57 (fun _ h9 => h9) rfl dX7_current_207 ?_
                              refine lv_iload hx hb dX7_current_210 (lv_at hl 1 rfl) ?_
                              refine lv_dload_n hx hb dX7_current_212 rfl (lv_at hl 4 rfl) ?_
                              refine xds hx hb hK hD hP hS 16 0 (((nN, px, py, pz, fx, fy, fz, lf, ld, fi), (nB, fr, tt, ln, wi, sg, pu), ((nR + 1), (vf_upd (shf rd nR (nR - a)) a d), (shf rx nR (nR - a)), (shf ry nR (nR - a)), wv, fo), (re, dg), (nP, tp, bt, dp)), (nQ, fu)) rfl rfl (j := a) (by decide) (by omega) rfl dX7_current_213 (fun H locs hP hS => ?_)
                              refine lv_aload_n hx hb dX7_current_214 rfl (lv_at hl 3 rfl) ?_
                              refine va_get (D := D) (ci := 7) (v := .ref (ad 17)) (C := RX7) (T := TX7) (N := 31) hx hb hts iX7_current_X7 hown hK hP 0 rfl rfl 19 (by decide) f_60 (fun _ h9 => h9) rfl dX7_current_215 ?_
                              refine lv_iload hx hb dX7_current_218 (lv_at hl 1 rfl) ?_
                              refine lv_iload hx hb dX7_current_220 (lv_at hl 2 rfl) ?_
                              refine lv_if_ne (tgt := 229) hx hb dX7_current_222 (by decide) (fun _ => ?_) (fun c_222_377 => absurd c_222_377 (by decide))
                              refine lv_iload hx hb dX7_current_229 (lv_at hl 2 rfl) ?_
                              refine lv_iconst (v := nI 1) hx hb dX7_current_231 (by decide) ?_
                              refine lv_icmp_eq (tgt := 242) hx hb dX7_current_232 (by decide) (fun c_232_378 => absurd c_232_378 (by decide)) (fun _ => ?_)
                              refine lv_iload hx hb dX7_current_235 (lv_at hl 2 rfl) ?_
                              refine lv_bipush (v := nI 7) hx hb dX7_current_237 (by decide) ?_
                              refine lv_icmp_ne (tgt := 247) hx hb dX7_current_239 (by decide) (fun _ => ?_) (fun c_239_379 => absurd c_239_379 (by decide))
                              refine lv_iload hx hb dX7_current_247 (lv_at hl 2 rfl) ?_
                              refine lv_iconst (v := nI 2) hx hb dX7_current_249 (by decide) ?_
                              refine lv_icmp_eq (tgt := 260) hx hb dX7_current_250 (by decide) (fun c_250_380 => absurd c_250_380 (by decide)) (fun _ => ?_)
                              refine lv_iload hx hb dX7_current_253 (lv_at hl 2 rfl) ?_
                              refine lv_bipush (v := nI 6) hx hb dX7_current_255 (by decide) ?_
                              refine lv_icmp_ne (tgt := 264) hx hb dX7_current_257 (by decide) (fun c_257_381 => absurd c_257_381 (by decide)) (fun _ => ?_)
                              refine lv_dconst0 hx hb dX7_current_260 ?_
                              refine lv_goto (tgt := 280) hx hb dX7_current_261 (by decide) ?_
                              refine xds hx hb hK hD hP hS 17 0 (((nN, px, py, pz, fx, fy, fz, lf, ld, fi), (nB, fr, tt, ln, wi, sg, pu), ((nR + 1), (vf_upd (shf rd nR (nR - a)) a d), (vf_upd (shf rx nR (nR - a)) a FP.dconst0), (shf ry nR (nR - a)), wv, fo), (re, dg), (nP, tp, bt, dp)), (nQ, fu)) rfl rfl (j := a) (by decide) (by omega) rfl dX7_current_280 (fun H locs hP hS => ?_)
                              refine lv_aload_n hx hb dX7_current_281 rfl (lv_at hl 3 rfl) ?_
                              refine va_get (D := D) (ci := 7) (v := .ref (ad 18)) (C := RX7) (T := TX7) (N := 31) hx hb hts iX7_current_X7 hown hK hP 0 rfl rfl 20 (by decide) f_63 (fun _ h9 => h9) rfl dX7_current_282 ?_
                              refine lv_iload hx hb dX7_current_285 (lv_at hl 1 rfl) ?_
                              refine lv_iload hx hb dX7_current_287 (lv_at hl 2 rfl) ?_
                              refine lv_iconst (v := nI 2) hx hb dX7_current_289 (by decide) ?_
                              refine lv_icmp_ne (tgt := 297) hx hb dX7_current_290 (by decide) (fun _ => ?_) (fun c_290_382 => absurd c_290_382 (by decide))
                              refine lv_iload hx hb dX7_current_297 (lv_at hl 2 rfl) ?_
                              refine lv_iconst (v := nI 1) hx hb dX7_current_299 (by decide) ?_
                              refine lv_icmp_eq (tgt := 309) hx hb dX7_current_300 (by decide) (fun c_300_383 => absurd c_300_383 (by decide)) (fun _ => ?_)
                              refine lv_iload hx hb dX7_current_303 (lv_at hl 2 rfl) ?_
                              refine lv_iconst (v := nI 3) hx hb dX7_current_305 (by decide) ?_
                              refine lv_icmp_ne (tgt := 314) hx hb dX7_current_306 (by decide) (fun _ => ?_) (fun c_306_384 => absurd c_306_384 (by decide))
                              refine lv_iload hx hb dX7_current_314 (lv_at hl 2 rfl) ?_
                              refine lv_if_eq (tgt := 325) hx hb dX7_current_316 (by decide) (fun c_316_385 => absurd c_316_385 (by decide)) (fun _ => ?_)
                              refine lv_iload hx hb dX7_current_319 (lv_at hl 2 rfl) ?_
                              refine lv_iconst (v := nI 4) hx hb dX7_current_321 (by decide) ?_
                              refine lv_icmp_ne (tgt := 329) hx hb dX7_current_322 (by decide) (fun _ => ?_) (fun c_322_386 => absurd c_322_386 (by decide))
                              refine lv_iload hx hb dX7_current_329 (lv_at hl 2 rfl) ?_
                              refine lv_bipush (v := nI 6) hx hb dX7_current_331 (by decide) ?_
                              refine lv_icmp_ne (tgt := 342) hx hb dX7_current_333 (by decide) (fun c_333_387 => absurd c_333_387 (by decide)) (fun _ => ?_)
                              refine lv_dconst0 hx hb dX7_current_336 ?_
                              refine lv_dload_n hx hb dX7_current_337 rfl (lv_at hl 5 rfl) ?_
                              have h_389 : fB (1029) (FP.dsub (FP.dconst0) (sp_)) := fB_sub (M := 1027) fB_c0 hsp (by omega) (by omega) (by omega)
                              refine lv_dsub hx hb dX7_current_338 (fB_ne h_389 (by omega)) ?_
                              refine lv_goto (tgt := 346) hx hb dX7_current_339 (by decide) ?_
                              refine xds hx hb hK hD hP hS 18 0 (((nN, px, py, pz, fx, fy, fz, lf, ld, fi), (nB, fr, tt, ln, wi, sg, pu), ((nR + 1), (vf_upd (shf rd nR (nR - a)) a d), (vf_upd (shf rx nR (nR - a)) a FP.dconst0), (vf_upd (shf ry nR (nR - a)) a (FP.dsub (FP.dconst0) (sp_))), wv, fo), (re, dg), (nP, tp, bt, dp)), (nQ, fu)) rfl rfl (j := a) (by decide) (by omega) rfl dX7_current_346 (fun H locs hP hS => ?_)
                              refine lv_iconst (v := nI 1) hx hb dX7_current_347 (by decide) ?_
                              exact hret hS hP dX7_current_348 (Or.inr rfl) (⟨Or.inl ⟨6, a, he, b_3, b_5, hdir, hA, Or.inr (Or.inl ⟨fun q => absurd q.1 (by omega), by omega, rfl, rfl⟩)⟩, rfl⟩)
                            · skip
                              refine lv_dload_n hx hb dX7_current_199 rfl (lv_at hl 5 rfl) ?_
                              refine lv_ldc2d hx hb hown c_139 dX7_current_200 ?_
                              have h_391 : fB (1028) (FP.dmul (sp_) (4604544271217802189)) := fB_mul hsp (fB_lit (K := 1023) (a := 4604544271217802189) (by decide +kernel)) (by omega) (by omega) (by omega)
                              refine lv_dmul hx hb dX7_current_203 (fB_ne h_391 (by omega)) ?_
                              refine lv_dstore (lv' := [(9, .double (FP.dmul (sp_) (4604544271217802189))), (8, .int (nI a)), (7, .int (nI 7)), (0, .ref (ad 0)), (1, .double (d)), (3, .double (sp_)), (5, .double (e8 nd))]) hx hb dX7_current_204 hl (by decide) rfl (fun ls hl => ?_)
                              refine lv_aload_n hx hb dX7_current_206 rfl (lv_at hl 3 rfl) ?_
                              refine va_get (D := D) (ci := 7) (v := .ref (ad 16)) (C := RX7) (T := TX7) (N := 31) hx hb hts iX7_current_X7 hown hK hP 0 rfl rfl 18 (by decide) f_57 (fun _ h9 => h9) rfl dX7_current_207 ?_
                              refine lv_iload hx hb dX7_current_210 (lv_at hl 1 rfl) ?_
                              refine lv_dload_n hx hb dX7_current_212 rfl (lv_at hl 4 rfl) ?_
                              refine xds hx hb hK hD hP hS 16 0 (((nN, px, py, pz, fx, fy, fz, lf, ld, fi), (nB, fr, tt, ln, wi, sg, pu), ((nR + 1), (vf_upd (shf rd nR (nR - a)) a d), (shf rx nR (nR - a)), (shf ry nR (nR - a)), wv, fo), (re, dg), (nP, tp, bt, dp)), (nQ, fu)) rfl rfl (j := a) (by decide) (by omega) rfl dX7_current_213 (fun H locs hP hS => ?_)
                              refine lv_aload_n hx hb dX7_current_214 rfl (lv_at hl 3 rfl) ?_
                              refine va_get (D := D) (ci := 7) (v := .ref (ad 17)) (C := RX7) (T := TX7) (N := 31) hx hb hts iX7_current_X7 hown hK hP 0 rfl rfl 19 (by decide) f_60 (fun _ h9 => h9) rfl dX7_current_215 ?_
                              refine lv_iload hx hb dX7_current_218 (lv_at hl 1 rfl) ?_
                              refine lv_iload hx hb dX7_current_220 (lv_at hl 2 rfl) ?_
                              refine lv_if_ne (tgt := 229) hx hb dX7_current_222 (by decide) (fun _ => ?_) (fun c_222_392 => absurd c_222_392 (by decide))
                              refine lv_iload hx hb dX7_current_229 (lv_at hl 2 rfl) ?_
                              refine lv_iconst (v := nI 1) hx hb dX7_current_231 (by decide) ?_
                              refine lv_icmp_eq (tgt := 242) hx hb dX7_current_232 (by decide) (fun c_232_393 => absurd c_232_393 (by decide)) (fun _ => ?_)
                              refine lv_iload hx hb dX7_current_235 (lv_at hl 2 rfl) ?_
                              refine lv_bipush (v := nI 7) hx hb dX7_current_237 (by decide) ?_
                              refine lv_icmp_ne (tgt := 247) hx hb dX7_current_239 (by decide) (fun c_239_394 => absurd c_239_394 (by decide)) (fun _ => ?_)
                              refine lv_dload hx hb dX7_current_242 (lv_at hl 0 rfl) ?_
                              refine lv_goto (tgt := 280) hx hb dX7_current_244 (by decide) ?_
                              refine xds hx hb hK hD hP hS 17 0 (((nN, px, py, pz, fx, fy, fz, lf, ld, fi), (nB, fr, tt, ln, wi, sg, pu), ((nR + 1), (vf_upd (shf rd nR (nR - a)) a d), (vf_upd (shf rx nR (nR - a)) a (FP.dmul (sp_) (4604544271217802189))), (shf ry nR (nR - a)), wv, fo), (re, dg), (nP, tp, bt, dp)), (nQ, fu)) rfl rfl (j := a) (by decide) (by omega) rfl dX7_current_280 (fun H locs hP hS => ?_)
                              refine lv_aload_n hx hb dX7_current_281 rfl (lv_at hl 3 rfl) ?_
                              refine va_get (D := D) (ci := 7) (v := .ref (ad 18)) (C := RX7) (T := TX7) (N := 31) hx hb hts iX7_current_X7 hown hK hP 0 rfl rfl 20 (by decide) f_63 (fun _ h9 => h9) rfl dX7_current_282 ?_
                              refine lv_iload hx hb dX7_current_285 (lv_at hl 1 rfl) ?_
                              refine lv_iload hx hb dX7_current_287 (lv_at hl 2 rfl) ?_
                              refine lv_iconst (v := nI 2) hx hb dX7_current_289 (by decide) ?_
                              refine lv_icmp_ne (tgt := 297) hx hb dX7_current_290 (by decide) (fun _ => ?_) (fun c_290_395 => absurd c_290_395 (by decide))
                              refine lv_iload hx hb dX7_current_297 (lv_at hl 2 rfl) ?_
                              refine lv_iconst (v := nI 1) hx hb dX7_current_299 (by decide) ?_
                              refine lv_icmp_eq (tgt := 309) hx hb dX7_current_300 (by decide) (fun c_300_396 => absurd c_300_396 (by decide)) (fun _ => ?_)
                              refine lv_iload hx hb dX7_current_303 (lv_at hl 2 rfl) ?_
                              refine lv_iconst (v := nI 3) hx hb dX7_current_305 (by decide) ?_
                              refine lv_icmp_ne (tgt := 314) hx hb dX7_current_306 (by decide) (fun _ => ?_) (fun c_306_397 => absurd c_306_397 (by decide))
                              refine lv_iload hx hb dX7_current_314 (lv_at hl 2 rfl) ?_
                              refine lv_if_eq (tgt := 325) hx hb dX7_current_316 (by decide) (fun c_316_398 => absurd c_316_398 (by decide)) (fun _ => ?_)
                              refine lv_iload hx hb dX7_current_319 (lv_at hl 2 rfl) ?_
                              refine lv_iconst (v := nI 4) hx hb dX7_current_321 (by decide) ?_
                              refine lv_icmp_ne (tgt := 329) hx hb dX7_current_322 (by decide) (fun _ => ?_) (fun c_322_399 => absurd c_322_399 (by decide))
                              refine lv_iload hx hb dX7_current_329 (lv_at hl 2 rfl) ?_
                              refine lv_bipush (v := nI 6) hx hb dX7_current_331 (by decide) ?_
                              refine lv_icmp_ne (tgt := 342) hx hb dX7_current_333 (by decide) (fun _ => ?_) (fun c_333_400 => absurd c_333_400 (by decide))
                              refine lv_dconst0 hx hb dX7_current_342 ?_
                              refine lv_dload hx hb dX7_current_343 (lv_at hl 0 rfl) ?_
                              have h_402 : fB (1030) (FP.dsub (FP.dconst0) (FP.dmul (sp_) (4604544271217802189))) := fB_sub (M := 1028) fB_c0 h_391 (by omega) (by omega) (by omega)
                              refine lv_dsub hx hb dX7_current_345 (fB_ne h_402 (by omega)) ?_
                              refine xds hx hb hK hD hP hS 18 0 (((nN, px, py, pz, fx, fy, fz, lf, ld, fi), (nB, fr, tt, ln, wi, sg, pu), ((nR + 1), (vf_upd (shf rd nR (nR - a)) a d), (vf_upd (shf rx nR (nR - a)) a (FP.dmul (sp_) (4604544271217802189))), (vf_upd (shf ry nR (nR - a)) a (FP.dsub (FP.dconst0) (FP.dmul (sp_) (4604544271217802189)))), wv, fo), (re, dg), (nP, tp, bt, dp)), (nQ, fu)) rfl rfl (j := a) (by decide) (by omega) rfl dX7_current_346 (fun H locs hP hS => ?_)
                              refine lv_iconst (v := nI 1) hx hb dX7_current_347 (by decide) ?_
                              exact hret hS hP dX7_current_348 (Or.inr rfl) (⟨Or.inl ⟨7, a, he, b_3, b_5, hdir, hA, Or.inr (Or.inl ⟨fun q => absurd q.1 (by omega), by omega, rfl, rfl⟩)⟩, rfl⟩)
                          · skip
                            have c_132_308 : ¬ (nR - t ≤ a) := fun q => c_132_308 ((nI_leI (a := nR - t) (b := a) (by omega) (by omega)).mpr q)
                            refine lv_aload_n hx hb dX7_current_135 rfl (lv_at hl 3 rfl) ?_
                            refine va_get (D := D) (ci := 7) (v := .ref (ad 16)) (C := RX7) (T := TX7) (N := 31) hx hb hts iX7_current_X7 hown hK hP 0 rfl rfl 18 (by decide) f_57 (fun _ h9 => h9) rfl dX7_current_136 ?_
                            refine lv_iload hx hb dX7_current_139 (lv_at hl 0 rfl) ?_
                            refine lv_aload_n hx hb dX7_current_141 rfl (lv_at hl 3 rfl) ?_
                            refine va_get (D := D) (ci := 7) (v := .ref (ad 16)) (C := RX7) (T := TX7) (N := 31) hx hb hts iX7_current_X7 hown hK hP 0 rfl rfl 18 (by decide) f_57 (fun _ h9 => h9) rfl dX7_current_142 ?_
                            refine lv_iload hx hb dX7_current_145 (lv_at hl 0 rfl) ?_
                            refine lv_iconst (v := nI 1) hx hb dX7_current_147 (by decide) ?_
                            refine xib hx hb (nR - t - 1) dX7_current_148 (by omega) ?_
                            refine xdl hx hb hK hP 16 0 rfl rfl (j := nR - t - 1) (by decide) (by omega) dX7_current_149 ?_
                            refine xds hx hb hK hD hP hS 16 0 (((nN, px, py, pz, fx, fy, fz, lf, ld, fi), (nB, fr, tt, ln, wi, sg, pu), (nR, (vf_upd (shf rd nR t) (nR - t) ((shf rd nR t) (nR - t - 1))), (shf rx nR t), (shf ry nR t), wv, fo), (re, dg), (nP, tp, bt, dp)), (nQ, fu)) rfl rfl (j := nR - t) (by decide) (by omega) rfl dX7_current_150 (fun H locs hP hS => ?_)
                            refine lv_aload_n hx hb dX7_current_151 rfl (lv_at hl 3 rfl) ?_
                            refine va_get (D := D) (ci := 7) (v := .ref (ad 17)) (C := RX7) (T := TX7) (N := 31) hx hb hts iX7_current_X7 hown hK hP 0 rfl rfl 19 (by decide) f_60 (fun _ h9 => h9) rfl dX7_current_152 ?_
                            refine lv_iload hx hb dX7_current_155 (lv_at hl 0 rfl) ?_
                            refine lv_aload_n hx hb dX7_current_157 rfl (lv_at hl 3 rfl) ?_
                            refine va_get (D := D) (ci := 7) (v := .ref (ad 17)) (C := RX7) (T := TX7) (N := 31) hx hb hts iX7_current_X7 hown hK hP 0 rfl rfl 19 (by decide) f_60 (fun _ h9 => h9) rfl dX7_current_158 ?_
                            refine lv_iload hx hb dX7_current_161 (lv_at hl 0 rfl) ?_
                            refine lv_iconst (v := nI 1) hx hb dX7_current_163 (by decide) ?_
                            refine xib hx hb (nR - t - 1) dX7_current_164 (by omega) ?_
                            refine xdl hx hb hK hP 17 0 rfl rfl (j := nR - t - 1) (by decide) (by omega) dX7_current_165 ?_
                            refine xds hx hb hK hD hP hS 17 0 (((nN, px, py, pz, fx, fy, fz, lf, ld, fi), (nB, fr, tt, ln, wi, sg, pu), (nR, (vf_upd (shf rd nR t) (nR - t) ((shf rd nR t) (nR - t - 1))), (vf_upd (shf rx nR t) (nR - t) ((shf rx nR t) (nR - t - 1))), (shf ry nR t), wv, fo), (re, dg), (nP, tp, bt, dp)), (nQ, fu)) rfl rfl (j := nR - t) (by decide) (by omega) rfl dX7_current_166 (fun H locs hP hS => ?_)
                            refine lv_aload_n hx hb dX7_current_167 rfl (lv_at hl 3 rfl) ?_
                            refine va_get (D := D) (ci := 7) (v := .ref (ad 18)) (C := RX7) (T := TX7) (N := 31) hx hb hts iX7_current_X7 hown hK hP 0 rfl rfl 20 (by decide) f_63 (fun _ h9 => h9) rfl dX7_current_168 ?_
                            refine lv_iload hx hb dX7_current_171 (lv_at hl 0 rfl) ?_
                            refine lv_aload_n hx hb dX7_current_173 rfl (lv_at hl 3 rfl) ?_
                            refine va_get (D := D) (ci := 7) (v := .ref (ad 18)) (C := RX7) (T := TX7) (N := 31) hx hb hts iX7_current_X7 hown hK hP 0 rfl rfl 20 (by decide) f_63 (fun _ h9 => h9) rfl dX7_current_174 ?_
                            refine lv_iload hx hb dX7_current_177 (lv_at hl 0 rfl) ?_
                            refine lv_iconst (v := nI 1) hx hb dX7_current_179 (by decide) ?_
                            refine xib hx hb (nR - t - 1) dX7_current_180 (by omega) ?_
                            refine xdl hx hb hK hP 18 0 rfl rfl (j := nR - t - 1) (by decide) (by omega) dX7_current_181 ?_
                            refine xds hx hb hK hD hP hS 18 0 (((nN, px, py, pz, fx, fy, fz, lf, ld, fi), (nB, fr, tt, ln, wi, sg, pu), (nR, (vf_upd (shf rd nR t) (nR - t) ((shf rd nR t) (nR - t - 1))), (vf_upd (shf rx nR t) (nR - t) ((shf rx nR t) (nR - t - 1))), (vf_upd (shf ry nR t) (nR - t) ((shf ry nR t) (nR - t - 1))), wv, fo), (re, dg), (nP, tp, bt, dp)), (nQ, fu)) rfl rfl (j := nR - t) (by decide) (by omega) rfl dX7_current_182 (fun H locs hP hS => ?_)
                            refine lv_iinc (v := nI (nR - (t + 1))) (lv' := [(9, .int (nI (nR - (t + 1)))), (8, .int (nI a)), (7, .int (nI ei)), (0, .ref (ad 0)), (1, .double (d)), (3, .double (sp_)), (5, .double (e8 nd))]) hx hb dX7_current_183 hl (k := 0) rfl (pm1 (by omega)) (by decide) rfl (fun ls hl => ?_)
                            refine lv_goto (tgt := 128) hx hb dX7_current_186 (by decide) ?_
                            exact ih_128 (t + 1)  (by omega) (by omega) _ _ hP hS ls (lv_sub hl [0, 1, 2, 3, 4, 5, 6] rfl)
                      exact L_128_307 (nR + 1) (0)  (by omega) (by omega) _ _ hP hS ls (lv_sub hl [0, 1, 2, 3, 4, 5, 6] rfl)
                    · skip
                      have c_117_306 : nR = 10 := (nI_eq (a := nR) (b := 10) (by omega) (by omega)).mp c_117_306
                      refine lv_iconst (v := nI 0) hx hb dX7_current_120 (by decide) ?_
                      exact hret hS hP dX7_current_121 (Or.inl rfl) (⟨Or.inl ⟨ei, a, he, b_3, b_5, hdir, hA, Or.inr (Or.inr ⟨fun q => absurd q.1 (by omega), by omega, rfl, rfl⟩)⟩, rfl⟩)
                  · skip
                    have c_96_305 : ¬ (a = nR) := fun q => c_96_305 ((nI_eq (a := a) (b := nR) (by omega) (by omega)).mpr q)
                    refine lv_aload_n hx hb dX7_current_99 rfl (lv_at hl 2 rfl) ?_
                    refine va_get (D := D) (ci := 7) (v := .ref (ad 16)) (C := RX7) (T := TX7) (N := 31) hx hb hts iX7_current_X7 hown hK hP 0 rfl rfl 18 (by decide) f_57 (fun _ h9 => h9) rfl dX7_current_100 ?_
                    refine lv_iload hx hb dX7_current_103 (lv_at hl 0 rfl) ?_
                    refine xdl hx hb hK hP 16 0 rfl rfl (j := a) (by decide) (by omega) dX7_current_105 ?_
                    refine lv_dload_n hx hb dX7_current_106 rfl (lv_at hl 3 rfl) ?_
                    refine xc_lne (tgt := 199) hx hb dX7_current_107 dX7_current_108 (by decide) (fun c_107_403 => ?_) (fun c_107_403 => ?_)
                    · skip
                      rcases (show ei = 0 ∨ ei = 1 ∨ ei = 2 ∨ ei = 3 ∨ ei = 4 ∨ ei = 5 ∨ ei = 6 ∨ ei = 7 by omega) with rfl | rfl | rfl | rfl | rfl | rfl | rfl | rfl
                      · skip
                        refine lv_dload_n hx hb dX7_current_199 rfl (lv_at hl 4 rfl) ?_
                        refine lv_ldc2d hx hb hown c_139 dX7_current_200 ?_
                        have h_405 : fB (1028) (FP.dmul (sp_) (4604544271217802189)) := fB_mul hsp (fB_lit (K := 1023) (a := 4604544271217802189) (by decide +kernel)) (by omega) (by omega) (by omega)
                        refine lv_dmul hx hb dX7_current_203 (fB_ne h_405 (by omega)) ?_
                        refine lv_dstore (lv' := [(9, .double (FP.dmul (sp_) (4604544271217802189))), (8, .int (nI a)), (7, .int (nI 0)), (0, .ref (ad 0)), (1, .double (d)), (3, .double (sp_)), (5, .double (e8 nd))]) hx hb dX7_current_204 hl (by decide) rfl (fun ls hl => ?_)
                        refine lv_aload_n hx hb dX7_current_206 rfl (lv_at hl 3 rfl) ?_
                        refine va_get (D := D) (ci := 7) (v := .ref (ad 16)) (C := RX7) (T := TX7) (N := 31) hx hb hts iX7_current_X7 hown hK hP 0 rfl rfl 18 (by decide) f_57 (fun _ h9 => h9) rfl dX7_current_207 ?_
                        refine lv_iload hx hb dX7_current_210 (lv_at hl 1 rfl) ?_
                        refine lv_dload_n hx hb dX7_current_212 rfl (lv_at hl 4 rfl) ?_
                        refine xds hx hb hK hD hP hS 16 0 (((nN, px, py, pz, fx, fy, fz, lf, ld, fi), (nB, fr, tt, ln, wi, sg, pu), (nR, (vf_upd rd a d), rx, ry, wv, fo), (re, dg), (nP, tp, bt, dp)), (nQ, fu)) rfl rfl (j := a) (by decide) (by omega) rfl dX7_current_213 (fun H locs hP hS => ?_)
                        refine lv_aload_n hx hb dX7_current_214 rfl (lv_at hl 3 rfl) ?_
                        refine va_get (D := D) (ci := 7) (v := .ref (ad 17)) (C := RX7) (T := TX7) (N := 31) hx hb hts iX7_current_X7 hown hK hP 0 rfl rfl 19 (by decide) f_60 (fun _ h9 => h9) rfl dX7_current_215 ?_
                        refine lv_iload hx hb dX7_current_218 (lv_at hl 1 rfl) ?_
                        refine lv_iload hx hb dX7_current_220 (lv_at hl 2 rfl) ?_
                        refine lv_if_ne (tgt := 229) hx hb dX7_current_222 (by decide) (fun c_222_406 => absurd c_222_406 (by decide)) (fun _ => ?_)
                        refine lv_dload_n hx hb dX7_current_225 rfl (lv_at hl 5 rfl) ?_
                        refine lv_goto (tgt := 280) hx hb dX7_current_226 (by decide) ?_
                        refine xds hx hb hK hD hP hS 17 0 (((nN, px, py, pz, fx, fy, fz, lf, ld, fi), (nB, fr, tt, ln, wi, sg, pu), (nR, (vf_upd rd a d), (vf_upd rx a sp_), ry, wv, fo), (re, dg), (nP, tp, bt, dp)), (nQ, fu)) rfl rfl (j := a) (by decide) (by omega) rfl dX7_current_280 (fun H locs hP hS => ?_)
                        refine lv_aload_n hx hb dX7_current_281 rfl (lv_at hl 3 rfl) ?_
                        refine va_get (D := D) (ci := 7) (v := .ref (ad 18)) (C := RX7) (T := TX7) (N := 31) hx hb hts iX7_current_X7 hown hK hP 0 rfl rfl 20 (by decide) f_63 (fun _ h9 => h9) rfl dX7_current_282 ?_
                        refine lv_iload hx hb dX7_current_285 (lv_at hl 1 rfl) ?_
                        refine lv_iload hx hb dX7_current_287 (lv_at hl 2 rfl) ?_
                        refine lv_iconst (v := nI 2) hx hb dX7_current_289 (by decide) ?_
                        refine lv_icmp_ne (tgt := 297) hx hb dX7_current_290 (by decide) (fun _ => ?_) (fun c_290_407 => absurd c_290_407 (by decide))
                        refine lv_iload hx hb dX7_current_297 (lv_at hl 2 rfl) ?_
                        refine lv_iconst (v := nI 1) hx hb dX7_current_299 (by decide) ?_
                        refine lv_icmp_eq (tgt := 309) hx hb dX7_current_300 (by decide) (fun c_300_408 => absurd c_300_408 (by decide)) (fun _ => ?_)
                        refine lv_iload hx hb dX7_current_303 (lv_at hl 2 rfl) ?_
                        refine lv_iconst (v := nI 3) hx hb dX7_current_305 (by decide) ?_
                        refine lv_icmp_ne (tgt := 314) hx hb dX7_current_306 (by decide) (fun _ => ?_) (fun c_306_409 => absurd c_306_409 (by decide))
                        refine lv_iload hx hb dX7_current_314 (lv_at hl 2 rfl) ?_
                        refine lv_if_eq (tgt := 325) hx hb dX7_current_316 (by decide) (fun _ => ?_) (fun c_316_410 => absurd c_316_410 (by decide))
                        refine lv_dconst0 hx hb dX7_current_325 ?_
                        refine lv_goto (tgt := 346) hx hb dX7_current_326 (by decide) ?_
                        refine xds hx hb hK hD hP hS 18 0 (((nN, px, py, pz, fx, fy, fz, lf, ld, fi), (nB, fr, tt, ln, wi, sg, pu), (nR, (vf_upd rd a d), (vf_upd rx a sp_), (vf_upd ry a FP.dconst0), wv, fo), (re, dg), (nP, tp, bt, dp)), (nQ, fu)) rfl rfl (j := a) (by decide) (by omega) rfl dX7_current_346 (fun H locs hP hS => ?_)
                        refine lv_iconst (v := nI 1) hx hb dX7_current_347 (by decide) ?_
                        exact hret hS hP dX7_current_348 (Or.inr rfl) (⟨Or.inl ⟨0, a, he, b_3, b_5, hdir, hA, Or.inl ⟨⟨by omega, c_107_403⟩, rfl, rfl⟩⟩, rfl⟩)
                      · skip
                        refine lv_dload_n hx hb dX7_current_199 rfl (lv_at hl 4 rfl) ?_
                        refine lv_ldc2d hx hb hown c_139 dX7_current_200 ?_
                        have h_412 : fB (1028) (FP.dmul (sp_) (4604544271217802189)) := fB_mul hsp (fB_lit (K := 1023) (a := 4604544271217802189) (by decide +kernel)) (by omega) (by omega) (by omega)
                        refine lv_dmul hx hb dX7_current_203 (fB_ne h_412 (by omega)) ?_
                        refine lv_dstore (lv' := [(9, .double (FP.dmul (sp_) (4604544271217802189))), (8, .int (nI a)), (7, .int (nI 1)), (0, .ref (ad 0)), (1, .double (d)), (3, .double (sp_)), (5, .double (e8 nd))]) hx hb dX7_current_204 hl (by decide) rfl (fun ls hl => ?_)
                        refine lv_aload_n hx hb dX7_current_206 rfl (lv_at hl 3 rfl) ?_
                        refine va_get (D := D) (ci := 7) (v := .ref (ad 16)) (C := RX7) (T := TX7) (N := 31) hx hb hts iX7_current_X7 hown hK hP 0 rfl rfl 18 (by decide) f_57 (fun _ h9 => h9) rfl dX7_current_207 ?_
                        refine lv_iload hx hb dX7_current_210 (lv_at hl 1 rfl) ?_
                        refine lv_dload_n hx hb dX7_current_212 rfl (lv_at hl 4 rfl) ?_
                        refine xds hx hb hK hD hP hS 16 0 (((nN, px, py, pz, fx, fy, fz, lf, ld, fi), (nB, fr, tt, ln, wi, sg, pu), (nR, (vf_upd rd a d), rx, ry, wv, fo), (re, dg), (nP, tp, bt, dp)), (nQ, fu)) rfl rfl (j := a) (by decide) (by omega) rfl dX7_current_213 (fun H locs hP hS => ?_)
                        refine lv_aload_n hx hb dX7_current_214 rfl (lv_at hl 3 rfl) ?_
                        refine va_get (D := D) (ci := 7) (v := .ref (ad 17)) (C := RX7) (T := TX7) (N := 31) hx hb hts iX7_current_X7 hown hK hP 0 rfl rfl 19 (by decide) f_60 (fun _ h9 => h9) rfl dX7_current_215 ?_
                        refine lv_iload hx hb dX7_current_218 (lv_at hl 1 rfl) ?_
                        refine lv_iload hx hb dX7_current_220 (lv_at hl 2 rfl) ?_
                        refine lv_if_ne (tgt := 229) hx hb dX7_current_222 (by decide) (fun _ => ?_) (fun c_222_413 => absurd c_222_413 (by decide))
                        refine lv_iload hx hb dX7_current_229 (lv_at hl 2 rfl) ?_
                        refine lv_iconst (v := nI 1) hx hb dX7_current_231 (by decide) ?_
                        refine lv_icmp_eq (tgt := 242) hx hb dX7_current_232 (by decide) (fun _ => ?_) (fun c_232_414 => absurd c_232_414 (by decide))
                        refine lv_dload hx hb dX7_current_242 (lv_at hl 0 rfl) ?_
                        refine lv_goto (tgt := 280) hx hb dX7_current_244 (by decide) ?_
                        refine xds hx hb hK hD hP hS 17 0 (((nN, px, py, pz, fx, fy, fz, lf, ld, fi), (nB, fr, tt, ln, wi, sg, pu), (nR, (vf_upd rd a d), (vf_upd rx a (FP.dmul (sp_) (4604544271217802189))), ry, wv, fo), (re, dg), (nP, tp, bt, dp)), (nQ, fu)) rfl rfl (j := a) (by decide) (by omega) rfl dX7_current_280 (fun H locs hP hS => ?_)
                        refine lv_aload_n hx hb dX7_current_281 rfl (lv_at hl 3 rfl) ?_
                        refine va_get (D := D) (ci := 7) (v := .ref (ad 18)) (C := RX7) (T := TX7) (N := 31) hx hb hts iX7_current_X7 hown hK hP 0 rfl rfl 20 (by decide) f_63 (fun _ h9 => h9) rfl dX7_current_282 ?_
                        refine lv_iload hx hb dX7_current_285 (lv_at hl 1 rfl) ?_
                        refine lv_iload hx hb dX7_current_287 (lv_at hl 2 rfl) ?_
                        refine lv_iconst (v := nI 2) hx hb dX7_current_289 (by decide) ?_
                        refine lv_icmp_ne (tgt := 297) hx hb dX7_current_290 (by decide) (fun _ => ?_) (fun c_290_415 => absurd c_290_415 (by decide))
                        refine lv_iload hx hb dX7_current_297 (lv_at hl 2 rfl) ?_
                        refine lv_iconst (v := nI 1) hx hb dX7_current_299 (by decide) ?_
                        refine lv_icmp_eq (tgt := 309) hx hb dX7_current_300 (by decide) (fun _ => ?_) (fun c_300_416 => absurd c_300_416 (by decide))
                        refine lv_dload hx hb dX7_current_309 (lv_at hl 0 rfl) ?_
                        refine lv_goto (tgt := 346) hx hb dX7_current_311 (by decide) ?_
                        refine xds hx hb hK hD hP hS 18 0 (((nN, px, py, pz, fx, fy, fz, lf, ld, fi), (nB, fr, tt, ln, wi, sg, pu), (nR, (vf_upd rd a d), (vf_upd rx a (FP.dmul (sp_) (4604544271217802189))), (vf_upd ry a (FP.dmul (sp_) (4604544271217802189))), wv, fo), (re, dg), (nP, tp, bt, dp)), (nQ, fu)) rfl rfl (j := a) (by decide) (by omega) rfl dX7_current_346 (fun H locs hP hS => ?_)
                        refine lv_iconst (v := nI 1) hx hb dX7_current_347 (by decide) ?_
                        exact hret hS hP dX7_current_348 (Or.inr rfl) (⟨Or.inl ⟨1, a, he, b_3, b_5, hdir, hA, Or.inl ⟨⟨by omega, c_107_403⟩, rfl, rfl⟩⟩, rfl⟩)
                      · skip
                        refine lv_dload_n hx hb dX7_current_199 rfl (lv_at hl 4 rfl) ?_
                        refine lv_ldc2d hx hb hown c_139 dX7_current_200 ?_
                        have h_418 : fB (1028) (FP.dmul (sp_) (4604544271217802189)) := fB_mul hsp (fB_lit (K := 1023) (a := 4604544271217802189) (by decide +kernel)) (by omega) (by omega) (by omega)
                        refine lv_dmul hx hb dX7_current_203 (fB_ne h_418 (by omega)) ?_
                        refine lv_dstore (lv' := [(9, .double (FP.dmul (sp_) (4604544271217802189))), (8, .int (nI a)), (7, .int (nI 2)), (0, .ref (ad 0)), (1, .double (d)), (3, .double (sp_)), (5, .double (e8 nd))]) hx hb dX7_current_204 hl (by decide) rfl (fun ls hl => ?_)
                        refine lv_aload_n hx hb dX7_current_206 rfl (lv_at hl 3 rfl) ?_
                        refine va_get (D := D) (ci := 7) (v := .ref (ad 16)) (C := RX7) (T := TX7) (N := 31) hx hb hts iX7_current_X7 hown hK hP 0 rfl rfl 18 (by decide) f_57 (fun _ h9 => h9) rfl dX7_current_207 ?_
                        refine lv_iload hx hb dX7_current_210 (lv_at hl 1 rfl) ?_
                        refine lv_dload_n hx hb dX7_current_212 rfl (lv_at hl 4 rfl) ?_
                        refine xds hx hb hK hD hP hS 16 0 (((nN, px, py, pz, fx, fy, fz, lf, ld, fi), (nB, fr, tt, ln, wi, sg, pu), (nR, (vf_upd rd a d), rx, ry, wv, fo), (re, dg), (nP, tp, bt, dp)), (nQ, fu)) rfl rfl (j := a) (by decide) (by omega) rfl dX7_current_213 (fun H locs hP hS => ?_)
                        refine lv_aload_n hx hb dX7_current_214 rfl (lv_at hl 3 rfl) ?_
                        refine va_get (D := D) (ci := 7) (v := .ref (ad 17)) (C := RX7) (T := TX7) (N := 31) hx hb hts iX7_current_X7 hown hK hP 0 rfl rfl 19 (by decide) f_60 (fun _ h9 => h9) rfl dX7_current_215 ?_
                        refine lv_iload hx hb dX7_current_218 (lv_at hl 1 rfl) ?_
                        refine lv_iload hx hb dX7_current_220 (lv_at hl 2 rfl) ?_
                        refine lv_if_ne (tgt := 229) hx hb dX7_current_222 (by decide) (fun _ => ?_) (fun c_222_419 => absurd c_222_419 (by decide))
                        refine lv_iload hx hb dX7_current_229 (lv_at hl 2 rfl) ?_
                        refine lv_iconst (v := nI 1) hx hb dX7_current_231 (by decide) ?_
                        refine lv_icmp_eq (tgt := 242) hx hb dX7_current_232 (by decide) (fun c_232_420 => absurd c_232_420 (by decide)) (fun _ => ?_)
                        refine lv_iload hx hb dX7_current_235 (lv_at hl 2 rfl) ?_
                        refine lv_bipush (v := nI 7) hx hb dX7_current_237 (by decide) ?_
                        refine lv_icmp_ne (tgt := 247) hx hb dX7_current_239 (by decide) (fun _ => ?_) (fun c_239_421 => absurd c_239_421 (by decide))
                        refine lv_iload hx hb dX7_current_247 (lv_at hl 2 rfl) ?_
                        refine lv_iconst (v := nI 2) hx hb dX7_current_249 (by decide) ?_
                        refine lv_icmp_eq (tgt := 260) hx hb dX7_current_250 (by decide) (fun _ => ?_) (fun c_250_422 => absurd c_250_422 (by decide))
                        refine lv_dconst0 hx hb dX7_current_260 ?_
                        refine lv_goto (tgt := 280) hx hb dX7_current_261 (by decide) ?_
                        refine xds hx hb hK hD hP hS 17 0 (((nN, px, py, pz, fx, fy, fz, lf, ld, fi), (nB, fr, tt, ln, wi, sg, pu), (nR, (vf_upd rd a d), (vf_upd rx a FP.dconst0), ry, wv, fo), (re, dg), (nP, tp, bt, dp)), (nQ, fu)) rfl rfl (j := a) (by decide) (by omega) rfl dX7_current_280 (fun H locs hP hS => ?_)
                        refine lv_aload_n hx hb dX7_current_281 rfl (lv_at hl 3 rfl) ?_
                        refine va_get (D := D) (ci := 7) (v := .ref (ad 18)) (C := RX7) (T := TX7) (N := 31) hx hb hts iX7_current_X7 hown hK hP 0 rfl rfl 20 (by decide) f_63 (fun _ h9 => h9) rfl dX7_current_282 ?_
                        refine lv_iload hx hb dX7_current_285 (lv_at hl 1 rfl) ?_
                        refine lv_iload hx hb dX7_current_287 (lv_at hl 2 rfl) ?_
                        refine lv_iconst (v := nI 2) hx hb dX7_current_289 (by decide) ?_
                        refine lv_icmp_ne (tgt := 297) hx hb dX7_current_290 (by decide) (fun c_290_423 => absurd c_290_423 (by decide)) (fun _ => ?_)
                        refine lv_dload_n hx hb dX7_current_293 rfl (lv_at hl 5 rfl) ?_
                        refine lv_goto (tgt := 346) hx hb dX7_current_294 (by decide) ?_
                        refine xds hx hb hK hD hP hS 18 0 (((nN, px, py, pz, fx, fy, fz, lf, ld, fi), (nB, fr, tt, ln, wi, sg, pu), (nR, (vf_upd rd a d), (vf_upd rx a FP.dconst0), (vf_upd ry a sp_), wv, fo), (re, dg), (nP, tp, bt, dp)), (nQ, fu)) rfl rfl (j := a) (by decide) (by omega) rfl dX7_current_346 (fun H locs hP hS => ?_)
                        refine lv_iconst (v := nI 1) hx hb dX7_current_347 (by decide) ?_
                        exact hret hS hP dX7_current_348 (Or.inr rfl) (⟨Or.inl ⟨2, a, he, b_3, b_5, hdir, hA, Or.inl ⟨⟨by omega, c_107_403⟩, rfl, rfl⟩⟩, rfl⟩)
                      · skip
                        refine lv_dload_n hx hb dX7_current_199 rfl (lv_at hl 4 rfl) ?_
                        refine lv_ldc2d hx hb hown c_139 dX7_current_200 ?_
                        have h_425 : fB (1028) (FP.dmul (sp_) (4604544271217802189)) := fB_mul hsp (fB_lit (K := 1023) (a := 4604544271217802189) (by decide +kernel)) (by omega) (by omega) (by omega)
                        refine lv_dmul hx hb dX7_current_203 (fB_ne h_425 (by omega)) ?_
                        refine lv_dstore (lv' := [(9, .double (FP.dmul (sp_) (4604544271217802189))), (8, .int (nI a)), (7, .int (nI 3)), (0, .ref (ad 0)), (1, .double (d)), (3, .double (sp_)), (5, .double (e8 nd))]) hx hb dX7_current_204 hl (by decide) rfl (fun ls hl => ?_)
                        refine lv_aload_n hx hb dX7_current_206 rfl (lv_at hl 3 rfl) ?_
                        refine va_get (D := D) (ci := 7) (v := .ref (ad 16)) (C := RX7) (T := TX7) (N := 31) hx hb hts iX7_current_X7 hown hK hP 0 rfl rfl 18 (by decide) f_57 (fun _ h9 => h9) rfl dX7_current_207 ?_
                        refine lv_iload hx hb dX7_current_210 (lv_at hl 1 rfl) ?_
                        refine lv_dload_n hx hb dX7_current_212 rfl (lv_at hl 4 rfl) ?_
                        refine xds hx hb hK hD hP hS 16 0 (((nN, px, py, pz, fx, fy, fz, lf, ld, fi), (nB, fr, tt, ln, wi, sg, pu), (nR, (vf_upd rd a d), rx, ry, wv, fo), (re, dg), (nP, tp, bt, dp)), (nQ, fu)) rfl rfl (j := a) (by decide) (by omega) rfl dX7_current_213 (fun H locs hP hS => ?_)
                        refine lv_aload_n hx hb dX7_current_214 rfl (lv_at hl 3 rfl) ?_
                        refine va_get (D := D) (ci := 7) (v := .ref (ad 17)) (C := RX7) (T := TX7) (N := 31) hx hb hts iX7_current_X7 hown hK hP 0 rfl rfl 19 (by decide) f_60 (fun _ h9 => h9) rfl dX7_current_215 ?_
                        refine lv_iload hx hb dX7_current_218 (lv_at hl 1 rfl) ?_
                        refine lv_iload hx hb dX7_current_220 (lv_at hl 2 rfl) ?_
                        refine lv_if_ne (tgt := 229) hx hb dX7_current_222 (by decide) (fun _ => ?_) (fun c_222_426 => absurd c_222_426 (by decide))
                        refine lv_iload hx hb dX7_current_229 (lv_at hl 2 rfl) ?_
                        refine lv_iconst (v := nI 1) hx hb dX7_current_231 (by decide) ?_
                        refine lv_icmp_eq (tgt := 242) hx hb dX7_current_232 (by decide) (fun c_232_427 => absurd c_232_427 (by decide)) (fun _ => ?_)
                        refine lv_iload hx hb dX7_current_235 (lv_at hl 2 rfl) ?_
                        refine lv_bipush (v := nI 7) hx hb dX7_current_237 (by decide) ?_
                        refine lv_icmp_ne (tgt := 247) hx hb dX7_current_239 (by decide) (fun _ => ?_) (fun c_239_428 => absurd c_239_428 (by decide))
                        refine lv_iload hx hb dX7_current_247 (lv_at hl 2 rfl) ?_
                        refine lv_iconst (v := nI 2) hx hb dX7_current_249 (by decide) ?_
                        refine lv_icmp_eq (tgt := 260) hx hb dX7_current_250 (by decide) (fun c_250_429 => absurd c_250_429 (by decide)) (fun _ => ?_)
                        refine lv_iload hx hb dX7_current_253 (lv_at hl 2 rfl) ?_
                        refine lv_bipush (v := nI 6) hx hb dX7_current_255 (by decide) ?_
                        refine lv_icmp_ne (tgt := 264) hx hb dX7_current_257 (by decide) (fun _ => ?_) (fun c_257_430 => absurd c_257_430 (by decide))
                        refine lv_iload hx hb dX7_current_264 (lv_at hl 2 rfl) ?_
                        refine lv_iconst (v := nI 4) hx hb dX7_current_266 (by decide) ?_
                        refine lv_icmp_ne (tgt := 276) hx hb dX7_current_267 (by decide) (fun _ => ?_) (fun c_267_431 => absurd c_267_431 (by decide))
                        refine lv_dconst0 hx hb dX7_current_276 ?_
                        refine lv_dload hx hb dX7_current_277 (lv_at hl 0 rfl) ?_
                        have h_433 : fB (1030) (FP.dsub (FP.dconst0) (FP.dmul (sp_) (4604544271217802189))) := fB_sub (M := 1028) fB_c0 h_425 (by omega) (by omega) (by omega)
                        refine lv_dsub hx hb dX7_current_279 (fB_ne h_433 (by omega)) ?_
                        refine xds hx hb hK hD hP hS 17 0 (((nN, px, py, pz, fx, fy, fz, lf, ld, fi), (nB, fr, tt, ln, wi, sg, pu), (nR, (vf_upd rd a d), (vf_upd rx a (FP.dsub (FP.dconst0) (FP.dmul (sp_) (4604544271217802189)))), ry, wv, fo), (re, dg), (nP, tp, bt, dp)), (nQ, fu)) rfl rfl (j := a) (by decide) (by omega) rfl dX7_current_280 (fun H locs hP hS => ?_)
                        refine lv_aload_n hx hb dX7_current_281 rfl (lv_at hl 3 rfl) ?_
                        refine va_get (D := D) (ci := 7) (v := .ref (ad 18)) (C := RX7) (T := TX7) (N := 31) hx hb hts iX7_current_X7 hown hK hP 0 rfl rfl 20 (by decide) f_63 (fun _ h9 => h9) rfl dX7_current_282 ?_
                        refine lv_iload hx hb dX7_current_285 (lv_at hl 1 rfl) ?_
                        refine lv_iload hx hb dX7_current_287 (lv_at hl 2 rfl) ?_
                        refine lv_iconst (v := nI 2) hx hb dX7_current_289 (by decide) ?_
                        refine lv_icmp_ne (tgt := 297) hx hb dX7_current_290 (by decide) (fun _ => ?_) (fun c_290_434 => absurd c_290_434 (by decide))
                        refine lv_iload hx hb dX7_current_297 (lv_at hl 2 rfl) ?_
                        refine lv_iconst (v := nI 1) hx hb dX7_current_299 (by decide) ?_
                        refine lv_icmp_eq (tgt := 309) hx hb dX7_current_300 (by decide) (fun c_300_435 => absurd c_300_435 (by decide)) (fun _ => ?_)
                        refine lv_iload hx hb dX7_current_303 (lv_at hl 2 rfl) ?_
                        refine lv_iconst (v := nI 3) hx hb dX7_current_305 (by decide) ?_
                        refine lv_icmp_ne (tgt := 314) hx hb dX7_current_306 (by decide) (fun c_306_436 => absurd c_306_436 (by decide)) (fun _ => ?_)
                        refine lv_dload hx hb dX7_current_309 (lv_at hl 0 rfl) ?_
                        refine lv_goto (tgt := 346) hx hb dX7_current_311 (by decide) ?_
                        refine xds hx hb hK hD hP hS 18 0 (((nN, px, py, pz, fx, fy, fz, lf, ld, fi), (nB, fr, tt, ln, wi, sg, pu), (nR, (vf_upd rd a d), (vf_upd rx a (FP.dsub (FP.dconst0) (FP.dmul (sp_) (4604544271217802189)))), (vf_upd ry a (FP.dmul (sp_) (4604544271217802189))), wv, fo), (re, dg), (nP, tp, bt, dp)), (nQ, fu)) rfl rfl (j := a) (by decide) (by omega) rfl dX7_current_346 (fun H locs hP hS => ?_)
                        refine lv_iconst (v := nI 1) hx hb dX7_current_347 (by decide) ?_
                        exact hret hS hP dX7_current_348 (Or.inr rfl) (⟨Or.inl ⟨3, a, he, b_3, b_5, hdir, hA, Or.inl ⟨⟨by omega, c_107_403⟩, rfl, rfl⟩⟩, rfl⟩)
                      · skip
                        refine lv_dload_n hx hb dX7_current_199 rfl (lv_at hl 4 rfl) ?_
                        refine lv_ldc2d hx hb hown c_139 dX7_current_200 ?_
                        have h_438 : fB (1028) (FP.dmul (sp_) (4604544271217802189)) := fB_mul hsp (fB_lit (K := 1023) (a := 4604544271217802189) (by decide +kernel)) (by omega) (by omega) (by omega)
                        refine lv_dmul hx hb dX7_current_203 (fB_ne h_438 (by omega)) ?_
                        refine lv_dstore (lv' := [(9, .double (FP.dmul (sp_) (4604544271217802189))), (8, .int (nI a)), (7, .int (nI 4)), (0, .ref (ad 0)), (1, .double (d)), (3, .double (sp_)), (5, .double (e8 nd))]) hx hb dX7_current_204 hl (by decide) rfl (fun ls hl => ?_)
                        refine lv_aload_n hx hb dX7_current_206 rfl (lv_at hl 3 rfl) ?_
                        refine va_get (D := D) (ci := 7) (v := .ref (ad 16)) (C := RX7) (T := TX7) (N := 31) hx hb hts iX7_current_X7 hown hK hP 0 rfl rfl 18 (by decide) f_57 (fun _ h9 => h9) rfl dX7_current_207 ?_
                        refine lv_iload hx hb dX7_current_210 (lv_at hl 1 rfl) ?_
                        refine lv_dload_n hx hb dX7_current_212 rfl (lv_at hl 4 rfl) ?_
                        refine xds hx hb hK hD hP hS 16 0 (((nN, px, py, pz, fx, fy, fz, lf, ld, fi), (nB, fr, tt, ln, wi, sg, pu), (nR, (vf_upd rd a d), rx, ry, wv, fo), (re, dg), (nP, tp, bt, dp)), (nQ, fu)) rfl rfl (j := a) (by decide) (by omega) rfl dX7_current_213 (fun H locs hP hS => ?_)
                        refine lv_aload_n hx hb dX7_current_214 rfl (lv_at hl 3 rfl) ?_
                        refine va_get (D := D) (ci := 7) (v := .ref (ad 17)) (C := RX7) (T := TX7) (N := 31) hx hb hts iX7_current_X7 hown hK hP 0 rfl rfl 19 (by decide) f_60 (fun _ h9 => h9) rfl dX7_current_215 ?_
                        refine lv_iload hx hb dX7_current_218 (lv_at hl 1 rfl) ?_
                        refine lv_iload hx hb dX7_current_220 (lv_at hl 2 rfl) ?_
                        refine lv_if_ne (tgt := 229) hx hb dX7_current_222 (by decide) (fun _ => ?_) (fun c_222_439 => absurd c_222_439 (by decide))
                        refine lv_iload hx hb dX7_current_229 (lv_at hl 2 rfl) ?_
                        refine lv_iconst (v := nI 1) hx hb dX7_current_231 (by decide) ?_
                        refine lv_icmp_eq (tgt := 242) hx hb dX7_current_232 (by decide) (fun c_232_440 => absurd c_232_440 (by decide)) (fun _ => ?_)
                        refine lv_iload hx hb dX7_current_235 (lv_at hl 2 rfl) ?_
                        refine lv_bipush (v := nI 7) hx hb dX7_current_237 (by decide) ?_
                        refine lv_icmp_ne (tgt := 247) hx hb dX7_current_239 (by decide) (fun _ => ?_) (fun c_239_441 => absurd c_239_441 (by decide))
                        refine lv_iload hx hb dX7_current_247 (lv_at hl 2 rfl) ?_
                        refine lv_iconst (v := nI 2) hx hb dX7_current_249 (by decide) ?_
                        refine lv_icmp_eq (tgt := 260) hx hb dX7_current_250 (by decide) (fun c_250_442 => absurd c_250_442 (by decide)) (fun _ => ?_)
                        refine lv_iload hx hb dX7_current_253 (lv_at hl 2 rfl) ?_
                        refine lv_bipush (v := nI 6) hx hb dX7_current_255 (by decide) ?_
                        refine lv_icmp_ne (tgt := 264) hx hb dX7_current_257 (by decide) (fun _ => ?_) (fun c_257_443 => absurd c_257_443 (by decide))
                        refine lv_iload hx hb dX7_current_264 (lv_at hl 2 rfl) ?_
                        refine lv_iconst (v := nI 4) hx hb dX7_current_266 (by decide) ?_
                        refine lv_icmp_ne (tgt := 276) hx hb dX7_current_267 (by decide) (fun c_267_444 => absurd c_267_444 (by decide)) (fun _ => ?_)
                        refine lv_dconst0 hx hb dX7_current_270 ?_
                        refine lv_dload_n hx hb dX7_current_271 rfl (lv_at hl 5 rfl) ?_
                        have h_446 : fB (1029) (FP.dsub (FP.dconst0) (sp_)) := fB_sub (M := 1027) fB_c0 hsp (by omega) (by omega) (by omega)
                        refine lv_dsub hx hb dX7_current_272 (fB_ne h_446 (by omega)) ?_
                        refine lv_goto (tgt := 280) hx hb dX7_current_273 (by decide) ?_
                        refine xds hx hb hK hD hP hS 17 0 (((nN, px, py, pz, fx, fy, fz, lf, ld, fi), (nB, fr, tt, ln, wi, sg, pu), (nR, (vf_upd rd a d), (vf_upd rx a (FP.dsub (FP.dconst0) (sp_))), ry, wv, fo), (re, dg), (nP, tp, bt, dp)), (nQ, fu)) rfl rfl (j := a) (by decide) (by omega) rfl dX7_current_280 (fun H locs hP hS => ?_)
                        refine lv_aload_n hx hb dX7_current_281 rfl (lv_at hl 3 rfl) ?_
                        refine va_get (D := D) (ci := 7) (v := .ref (ad 18)) (C := RX7) (T := TX7) (N := 31) hx hb hts iX7_current_X7 hown hK hP 0 rfl rfl 20 (by decide) f_63 (fun _ h9 => h9) rfl dX7_current_282 ?_
                        refine lv_iload hx hb dX7_current_285 (lv_at hl 1 rfl) ?_
                        refine lv_iload hx hb dX7_current_287 (lv_at hl 2 rfl) ?_
                        refine lv_iconst (v := nI 2) hx hb dX7_current_289 (by decide) ?_
                        refine lv_icmp_ne (tgt := 297) hx hb dX7_current_290 (by decide) (fun _ => ?_) (fun c_290_447 => absurd c_290_447 (by decide))
                        refine lv_iload hx hb dX7_current_297 (lv_at hl 2 rfl) ?_
                        refine lv_iconst (v := nI 1) hx hb dX7_current_299 (by decide) ?_
                        refine lv_icmp_eq (tgt := 309) hx hb dX7_current_300 (by decide) (fun c_300_448 => absurd c_300_448 (by decide)) (fun _ => ?_)
                        refine lv_iload hx hb dX7_current_303 (lv_at hl 2 rfl) ?_
                        refine lv_iconst (v := nI 3) hx hb dX7_current_305 (by decide) ?_
                        refine lv_icmp_ne (tgt := 314) hx hb dX7_current_306 (by decide) (fun _ => ?_) (fun c_306_449 => absurd c_306_449 (by decide))
                        refine lv_iload hx hb dX7_current_314 (lv_at hl 2 rfl) ?_
                        refine lv_if_eq (tgt := 325) hx hb dX7_current_316 (by decide) (fun c_316_450 => absurd c_316_450 (by decide)) (fun _ => ?_)
                        refine lv_iload hx hb dX7_current_319 (lv_at hl 2 rfl) ?_
                        refine lv_iconst (v := nI 4) hx hb dX7_current_321 (by decide) ?_
                        refine lv_icmp_ne (tgt := 329) hx hb dX7_current_322 (by decide) (fun c_322_451 => absurd c_322_451 (by decide)) (fun _ => ?_)
                        refine lv_dconst0 hx hb dX7_current_325 ?_
                        refine lv_goto (tgt := 346) hx hb dX7_current_326 (by decide) ?_
                        refine xds hx hb hK hD hP hS 18 0 (((nN, px, py, pz, fx, fy, fz, lf, ld, fi), (nB, fr, tt, ln, wi, sg, pu), (nR, (vf_upd rd a d), (vf_upd rx a (FP.dsub (FP.dconst0) (sp_))), (vf_upd ry a FP.dconst0), wv, fo), (re, dg), (nP, tp, bt, dp)), (nQ, fu)) rfl rfl (j := a) (by decide) (by omega) rfl dX7_current_346 (fun H locs hP hS => ?_)
                        refine lv_iconst (v := nI 1) hx hb dX7_current_347 (by decide) ?_
                        exact hret hS hP dX7_current_348 (Or.inr rfl) (⟨Or.inl ⟨4, a, he, b_3, b_5, hdir, hA, Or.inl ⟨⟨by omega, c_107_403⟩, rfl, rfl⟩⟩, rfl⟩)
                      · skip
                        refine lv_dload_n hx hb dX7_current_199 rfl (lv_at hl 4 rfl) ?_
                        refine lv_ldc2d hx hb hown c_139 dX7_current_200 ?_
                        have h_453 : fB (1028) (FP.dmul (sp_) (4604544271217802189)) := fB_mul hsp (fB_lit (K := 1023) (a := 4604544271217802189) (by decide +kernel)) (by omega) (by omega) (by omega)
                        refine lv_dmul hx hb dX7_current_203 (fB_ne h_453 (by omega)) ?_
                        refine lv_dstore (lv' := [(9, .double (FP.dmul (sp_) (4604544271217802189))), (8, .int (nI a)), (7, .int (nI 5)), (0, .ref (ad 0)), (1, .double (d)), (3, .double (sp_)), (5, .double (e8 nd))]) hx hb dX7_current_204 hl (by decide) rfl (fun ls hl => ?_)
                        refine lv_aload_n hx hb dX7_current_206 rfl (lv_at hl 3 rfl) ?_
                        refine va_get (D := D) (ci := 7) (v := .ref (ad 16)) (C := RX7) (T := TX7) (N := 31) hx hb hts iX7_current_X7 hown hK hP 0 rfl rfl 18 (by decide) f_57 (fun _ h9 => h9) rfl dX7_current_207 ?_
                        refine lv_iload hx hb dX7_current_210 (lv_at hl 1 rfl) ?_
                        refine lv_dload_n hx hb dX7_current_212 rfl (lv_at hl 4 rfl) ?_
                        refine xds hx hb hK hD hP hS 16 0 (((nN, px, py, pz, fx, fy, fz, lf, ld, fi), (nB, fr, tt, ln, wi, sg, pu), (nR, (vf_upd rd a d), rx, ry, wv, fo), (re, dg), (nP, tp, bt, dp)), (nQ, fu)) rfl rfl (j := a) (by decide) (by omega) rfl dX7_current_213 (fun H locs hP hS => ?_)
                        refine lv_aload_n hx hb dX7_current_214 rfl (lv_at hl 3 rfl) ?_
                        refine va_get (D := D) (ci := 7) (v := .ref (ad 17)) (C := RX7) (T := TX7) (N := 31) hx hb hts iX7_current_X7 hown hK hP 0 rfl rfl 19 (by decide) f_60 (fun _ h9 => h9) rfl dX7_current_215 ?_
                        refine lv_iload hx hb dX7_current_218 (lv_at hl 1 rfl) ?_
                        refine lv_iload hx hb dX7_current_220 (lv_at hl 2 rfl) ?_
                        refine lv_if_ne (tgt := 229) hx hb dX7_current_222 (by decide) (fun _ => ?_) (fun c_222_454 => absurd c_222_454 (by decide))
                        refine lv_iload hx hb dX7_current_229 (lv_at hl 2 rfl) ?_
                        refine lv_iconst (v := nI 1) hx hb dX7_current_231 (by decide) ?_
                        refine lv_icmp_eq (tgt := 242) hx hb dX7_current_232 (by decide) (fun c_232_455 => absurd c_232_455 (by decide)) (fun _ => ?_)
                        refine lv_iload hx hb dX7_current_235 (lv_at hl 2 rfl) ?_
                        refine lv_bipush (v := nI 7) hx hb dX7_current_237 (by decide) ?_
                        refine lv_icmp_ne (tgt := 247) hx hb dX7_current_239 (by decide) (fun _ => ?_) (fun c_239_456 => absurd c_239_456 (by decide))
                        refine lv_iload hx hb dX7_current_247 (lv_at hl 2 rfl) ?_
                        refine lv_iconst (v := nI 2) hx hb dX7_current_249 (by decide) ?_
                        refine lv_icmp_eq (tgt := 260) hx hb dX7_current_250 (by decide) (fun c_250_457 => absurd c_250_457 (by decide)) (fun _ => ?_)
                        refine lv_iload hx hb dX7_current_253 (lv_at hl 2 rfl) ?_
                        refine lv_bipush (v := nI 6) hx hb dX7_current_255 (by decide) ?_
                        refine lv_icmp_ne (tgt := 264) hx hb dX7_current_257 (by decide) (fun _ => ?_) (fun c_257_458 => absurd c_257_458 (by decide))
                        refine lv_iload hx hb dX7_current_264 (lv_at hl 2 rfl) ?_
                        refine lv_iconst (v := nI 4) hx hb dX7_current_266 (by decide) ?_
                        refine lv_icmp_ne (tgt := 276) hx hb dX7_current_267 (by decide) (fun _ => ?_) (fun c_267_459 => absurd c_267_459 (by decide))
                        refine lv_dconst0 hx hb dX7_current_276 ?_
                        refine lv_dload hx hb dX7_current_277 (lv_at hl 0 rfl) ?_
                        have h_461 : fB (1030) (FP.dsub (FP.dconst0) (FP.dmul (sp_) (4604544271217802189))) := fB_sub (M := 1028) fB_c0 h_453 (by omega) (by omega) (by omega)
                        refine lv_dsub hx hb dX7_current_279 (fB_ne h_461 (by omega)) ?_
                        refine xds hx hb hK hD hP hS 17 0 (((nN, px, py, pz, fx, fy, fz, lf, ld, fi), (nB, fr, tt, ln, wi, sg, pu), (nR, (vf_upd rd a d), (vf_upd rx a (FP.dsub (FP.dconst0) (FP.dmul (sp_) (4604544271217802189)))), ry, wv, fo), (re, dg), (nP, tp, bt, dp)), (nQ, fu)) rfl rfl (j := a) (by decide) (by omega) rfl dX7_current_280 (fun H locs hP hS => ?_)
                        refine lv_aload_n hx hb dX7_current_281 rfl (lv_at hl 3 rfl) ?_
                        refine va_get (D := D) (ci := 7) (v := .ref (ad 18)) (C := RX7) (T := TX7) (N := 31) hx hb hts iX7_current_X7 hown hK hP 0 rfl rfl 20 (by decide) f_63 (fun _ h9 => h9) rfl dX7_current_282 ?_
                        refine lv_iload hx hb dX7_current_285 (lv_at hl 1 rfl) ?_
                        refine lv_iload hx hb dX7_current_287 (lv_at hl 2 rfl) ?_
                        refine lv_iconst (v := nI 2) hx hb dX7_current_289 (by decide) ?_
                        refine lv_icmp_ne (tgt := 297) hx hb dX7_current_290 (by decide) (fun _ => ?_) (fun c_290_462 => absurd c_290_462 (by decide))
                        refine lv_iload hx hb dX7_current_297 (lv_at hl 2 rfl) ?_
                        refine lv_iconst (v := nI 1) hx hb dX7_current_299 (by decide) ?_
                        refine lv_icmp_eq (tgt := 309) hx hb dX7_current_300 (by decide) (fun c_300_463 => absurd c_300_463 (by decide)) (fun _ => ?_)
                        refine lv_iload hx hb dX7_current_303 (lv_at hl 2 rfl) ?_
                        refine lv_iconst (v := nI 3) hx hb dX7_current_305 (by decide) ?_
                        refine lv_icmp_ne (tgt := 314) hx hb dX7_current_306 (by decide) (fun _ => ?_) (fun c_306_464 => absurd c_306_464 (by decide))
                        refine lv_iload hx hb dX7_current_314 (lv_at hl 2 rfl) ?_
                        refine lv_if_eq (tgt := 325) hx hb dX7_current_316 (by decide) (fun c_316_465 => absurd c_316_465 (by decide)) (fun _ => ?_)
                        refine lv_iload hx hb dX7_current_319 (lv_at hl 2 rfl) ?_
                        refine lv_iconst (v := nI 4) hx hb dX7_current_321 (by decide) ?_
                        refine lv_icmp_ne (tgt := 329) hx hb dX7_current_322 (by decide) (fun _ => ?_) (fun c_322_466 => absurd c_322_466 (by decide))
                        refine lv_iload hx hb dX7_current_329 (lv_at hl 2 rfl) ?_
                        refine lv_bipush (v := nI 6) hx hb dX7_current_331 (by decide) ?_
                        refine lv_icmp_ne (tgt := 342) hx hb dX7_current_333 (by decide) (fun _ => ?_) (fun c_333_467 => absurd c_333_467 (by decide))
                        refine lv_dconst0 hx hb dX7_current_342 ?_
                        refine lv_dload hx hb dX7_current_343 (lv_at hl 0 rfl) ?_
                        have h_469 : fB (1030) (FP.dsub (FP.dconst0) (FP.dmul (sp_) (4604544271217802189))) := fB_sub (M := 1028) fB_c0 h_453 (by omega) (by omega) (by omega)
                        refine lv_dsub hx hb dX7_current_345 (fB_ne h_469 (by omega)) ?_
                        refine xds hx hb hK hD hP hS 18 0 (((nN, px, py, pz, fx, fy, fz, lf, ld, fi), (nB, fr, tt, ln, wi, sg, pu), (nR, (vf_upd rd a d), (vf_upd rx a (FP.dsub (FP.dconst0) (FP.dmul (sp_) (4604544271217802189)))), (vf_upd ry a (FP.dsub (FP.dconst0) (FP.dmul (sp_) (4604544271217802189)))), wv, fo), (re, dg), (nP, tp, bt, dp)), (nQ, fu)) rfl rfl (j := a) (by decide) (by omega) rfl dX7_current_346 (fun H locs hP hS => ?_)
                        refine lv_iconst (v := nI 1) hx hb dX7_current_347 (by decide) ?_
                        exact hret hS hP dX7_current_348 (Or.inr rfl) (⟨Or.inl ⟨5, a, he, b_3, b_5, hdir, hA, Or.inl ⟨⟨by omega, c_107_403⟩, rfl, rfl⟩⟩, rfl⟩)
                      · skip
                        refine lv_dload_n hx hb dX7_current_199 rfl (lv_at hl 4 rfl) ?_
                        refine lv_ldc2d hx hb hown c_139 dX7_current_200 ?_
                        have h_471 : fB (1028) (FP.dmul (sp_) (4604544271217802189)) := fB_mul hsp (fB_lit (K := 1023) (a := 4604544271217802189) (by decide +kernel)) (by omega) (by omega) (by omega)
                        refine lv_dmul hx hb dX7_current_203 (fB_ne h_471 (by omega)) ?_
                        refine lv_dstore (lv' := [(9, .double (FP.dmul (sp_) (4604544271217802189))), (8, .int (nI a)), (7, .int (nI 6)), (0, .ref (ad 0)), (1, .double (d)), (3, .double (sp_)), (5, .double (e8 nd))]) hx hb dX7_current_204 hl (by decide) rfl (fun ls hl => ?_)
                        refine lv_aload_n hx hb dX7_current_206 rfl (lv_at hl 3 rfl) ?_
                        refine va_get (D := D) (ci := 7) (v := .ref (ad 16)) (C := RX7) (T := TX7) (N := 31) hx hb hts iX7_current_X7 hown hK hP 0 rfl rfl 18 (by decide) f_57 (fun _ h9 => h9) rfl dX7_current_207 ?_
                        refine lv_iload hx hb dX7_current_210 (lv_at hl 1 rfl) ?_
                        refine lv_dload_n hx hb dX7_current_212 rfl (lv_at hl 4 rfl) ?_
                        refine xds hx hb hK hD hP hS 16 0 (((nN, px, py, pz, fx, fy, fz, lf, ld, fi), (nB, fr, tt, ln, wi, sg, pu), (nR, (vf_upd rd a d), rx, ry, wv, fo), (re, dg), (nP, tp, bt, dp)), (nQ, fu)) rfl rfl (j := a) (by decide) (by omega) rfl dX7_current_213 (fun H locs hP hS => ?_)
                        refine lv_aload_n hx hb dX7_current_214 rfl (lv_at hl 3 rfl) ?_
                        refine va_get (D := D) (ci := 7) (v := .ref (ad 17)) (C := RX7) (T := TX7) (N := 31) hx hb hts iX7_current_X7 hown hK hP 0 rfl rfl 19 (by decide) f_60 (fun _ h9 => h9) rfl dX7_current_215 ?_
                        refine lv_iload hx hb dX7_current_218 (lv_at hl 1 rfl) ?_
                        refine lv_iload hx hb dX7_current_220 (lv_at hl 2 rfl) ?_
                        refine lv_if_ne (tgt := 229) hx hb dX7_current_222 (by decide) (fun _ => ?_) (fun c_222_472 => absurd c_222_472 (by decide))
                        refine lv_iload hx hb dX7_current_229 (lv_at hl 2 rfl) ?_
                        refine lv_iconst (v := nI 1) hx hb dX7_current_231 (by decide) ?_
                        refine lv_icmp_eq (tgt := 242) hx hb dX7_current_232 (by decide) (fun c_232_473 => absurd c_232_473 (by decide)) (fun _ => ?_)
                        refine lv_iload hx hb dX7_current_235 (lv_at hl 2 rfl) ?_
                        refine lv_bipush (v := nI 7) hx hb dX7_current_237 (by decide) ?_
                        refine lv_icmp_ne (tgt := 247) hx hb dX7_current_239 (by decide) (fun _ => ?_) (fun c_239_474 => absurd c_239_474 (by decide))
                        refine lv_iload hx hb dX7_current_247 (lv_at hl 2 rfl) ?_
                        refine lv_iconst (v := nI 2) hx hb dX7_current_249 (by decide) ?_
                        refine lv_icmp_eq (tgt := 260) hx hb dX7_current_250 (by decide) (fun c_250_475 => absurd c_250_475 (by decide)) (fun _ => ?_)
                        refine lv_iload hx hb dX7_current_253 (lv_at hl 2 rfl) ?_
                        refine lv_bipush (v := nI 6) hx hb dX7_current_255 (by decide) ?_
                        refine lv_icmp_ne (tgt := 264) hx hb dX7_current_257 (by decide) (fun c_257_476 => absurd c_257_476 (by decide)) (fun _ => ?_)
                        refine lv_dconst0 hx hb dX7_current_260 ?_
                        refine lv_goto (tgt := 280) hx hb dX7_current_261 (by decide) ?_
                        refine xds hx hb hK hD hP hS 17 0 (((nN, px, py, pz, fx, fy, fz, lf, ld, fi), (nB, fr, tt, ln, wi, sg, pu), (nR, (vf_upd rd a d), (vf_upd rx a FP.dconst0), ry, wv, fo), (re, dg), (nP, tp, bt, dp)), (nQ, fu)) rfl rfl (j := a) (by decide) (by omega) rfl dX7_current_280 (fun H locs hP hS => ?_)
                        refine lv_aload_n hx hb dX7_current_281 rfl (lv_at hl 3 rfl) ?_
                        refine va_get (D := D) (ci := 7) (v := .ref (ad 18)) (C := RX7) (T := TX7) (N := 31) hx hb hts iX7_current_X7 hown hK hP 0 rfl rfl 20 (by decide) f_63 (fun _ h9 => h9) rfl dX7_current_282 ?_
                        refine lv_iload hx hb dX7_current_285 (lv_at hl 1 rfl) ?_
                        refine lv_iload hx hb dX7_current_287 (lv_at hl 2 rfl) ?_
                        refine lv_iconst (v := nI 2) hx hb dX7_current_289 (by decide) ?_
                        refine lv_icmp_ne (tgt := 297) hx hb dX7_current_290 (by decide) (fun _ => ?_) (fun c_290_477 => absurd c_290_477 (by decide))
                        refine lv_iload hx hb dX7_current_297 (lv_at hl 2 rfl) ?_
                        refine lv_iconst (v := nI 1) hx hb dX7_current_299 (by decide) ?_
                        refine lv_icmp_eq (tgt := 309) hx hb dX7_current_300 (by decide) (fun c_300_478 => absurd c_300_478 (by decide)) (fun _ => ?_)
                        refine lv_iload hx hb dX7_current_303 (lv_at hl 2 rfl) ?_
                        refine lv_iconst (v := nI 3) hx hb dX7_current_305 (by decide) ?_
                        refine lv_icmp_ne (tgt := 314) hx hb dX7_current_306 (by decide) (fun _ => ?_) (fun c_306_479 => absurd c_306_479 (by decide))
                        refine lv_iload hx hb dX7_current_314 (lv_at hl 2 rfl) ?_
                        refine lv_if_eq (tgt := 325) hx hb dX7_current_316 (by decide) (fun c_316_480 => absurd c_316_480 (by decide)) (fun _ => ?_)
                        refine lv_iload hx hb dX7_current_319 (lv_at hl 2 rfl) ?_
                        refine lv_iconst (v := nI 4) hx hb dX7_current_321 (by decide) ?_
                        refine lv_icmp_ne (tgt := 329) hx hb dX7_current_322 (by decide) (fun _ => ?_) (fun c_322_481 => absurd c_322_481 (by decide))
                        refine lv_iload hx hb dX7_current_329 (lv_at hl 2 rfl) ?_
                        refine lv_bipush (v := nI 6) hx hb dX7_current_331 (by decide) ?_
                        refine lv_icmp_ne (tgt := 342) hx hb dX7_current_333 (by decide) (fun c_333_482 => absurd c_333_482 (by decide)) (fun _ => ?_)
                        refine lv_dconst0 hx hb dX7_current_336 ?_
                        refine lv_dload_n hx hb dX7_current_337 rfl (lv_at hl 5 rfl) ?_
                        have h_484 : fB (1029) (FP.dsub (FP.dconst0) (sp_)) := fB_sub (M := 1027) fB_c0 hsp (by omega) (by omega) (by omega)
                        refine lv_dsub hx hb dX7_current_338 (fB_ne h_484 (by omega)) ?_
                        refine lv_goto (tgt := 346) hx hb dX7_current_339 (by decide) ?_
                        refine xds hx hb hK hD hP hS 18 0 (((nN, px, py, pz, fx, fy, fz, lf, ld, fi), (nB, fr, tt, ln, wi, sg, pu), (nR, (vf_upd rd a d), (vf_upd rx a FP.dconst0), (vf_upd ry a (FP.dsub (FP.dconst0) (sp_))), wv, fo), (re, dg), (nP, tp, bt, dp)), (nQ, fu)) rfl rfl (j := a) (by decide) (by omega) rfl dX7_current_346 (fun H locs hP hS => ?_)
                        refine lv_iconst (v := nI 1) hx hb dX7_current_347 (by decide) ?_
                        exact hret hS hP dX7_current_348 (Or.inr rfl) (⟨Or.inl ⟨6, a, he, b_3, b_5, hdir, hA, Or.inl ⟨⟨by omega, c_107_403⟩, rfl, rfl⟩⟩, rfl⟩)
                      · skip
                        refine lv_dload_n hx hb dX7_current_199 rfl (lv_at hl 4 rfl) ?_
                        refine lv_ldc2d hx hb hown c_139 dX7_current_200 ?_
                        have h_486 : fB (1028) (FP.dmul (sp_) (4604544271217802189)) := fB_mul hsp (fB_lit (K := 1023) (a := 4604544271217802189) (by decide +kernel)) (by omega) (by omega) (by omega)
                        refine lv_dmul hx hb dX7_current_203 (fB_ne h_486 (by omega)) ?_
                        refine lv_dstore (lv' := [(9, .double (FP.dmul (sp_) (4604544271217802189))), (8, .int (nI a)), (7, .int (nI 7)), (0, .ref (ad 0)), (1, .double (d)), (3, .double (sp_)), (5, .double (e8 nd))]) hx hb dX7_current_204 hl (by decide) rfl (fun ls hl => ?_)
                        refine lv_aload_n hx hb dX7_current_206 rfl (lv_at hl 3 rfl) ?_
                        refine va_get (D := D) (ci := 7) (v := .ref (ad 16)) (C := RX7) (T := TX7) (N := 31) hx hb hts iX7_current_X7 hown hK hP 0 rfl rfl 18 (by decide) f_57 (fun _ h9 => h9) rfl dX7_current_207 ?_
                        refine lv_iload hx hb dX7_current_210 (lv_at hl 1 rfl) ?_
                        refine lv_dload_n hx hb dX7_current_212 rfl (lv_at hl 4 rfl) ?_
                        refine xds hx hb hK hD hP hS 16 0 (((nN, px, py, pz, fx, fy, fz, lf, ld, fi), (nB, fr, tt, ln, wi, sg, pu), (nR, (vf_upd rd a d), rx, ry, wv, fo), (re, dg), (nP, tp, bt, dp)), (nQ, fu)) rfl rfl (j := a) (by decide) (by omega) rfl dX7_current_213 (fun H locs hP hS => ?_)
                        refine lv_aload_n hx hb dX7_current_214 rfl (lv_at hl 3 rfl) ?_
                        refine va_get (D := D) (ci := 7) (v := .ref (ad 17)) (C := RX7) (T := TX7) (N := 31) hx hb hts iX7_current_X7 hown hK hP 0 rfl rfl 19 (by decide) f_60 (fun _ h9 => h9) rfl dX7_current_215 ?_
                        refine lv_iload hx hb dX7_current_218 (lv_at hl 1 rfl) ?_
                        refine lv_iload hx hb dX7_current_220 (lv_at hl 2 rfl) ?_
                        refine lv_if_ne (tgt := 229) hx hb dX7_current_222 (by decide) (fun _ => ?_) (fun c_222_487 => absurd c_222_487 (by decide))
                        refine lv_iload hx hb dX7_current_229 (lv_at hl 2 rfl) ?_
                        refine lv_iconst (v := nI 1) hx hb dX7_current_231 (by decide) ?_
                        refine lv_icmp_eq (tgt := 242) hx hb dX7_current_232 (by decide) (fun c_232_488 => absurd c_232_488 (by decide)) (fun _ => ?_)
                        refine lv_iload hx hb dX7_current_235 (lv_at hl 2 rfl) ?_
                        refine lv_bipush (v := nI 7) hx hb dX7_current_237 (by decide) ?_
                        refine lv_icmp_ne (tgt := 247) hx hb dX7_current_239 (by decide) (fun c_239_489 => absurd c_239_489 (by decide)) (fun _ => ?_)
                        refine lv_dload hx hb dX7_current_242 (lv_at hl 0 rfl) ?_
                        refine lv_goto (tgt := 280) hx hb dX7_current_244 (by decide) ?_
                        refine xds hx hb hK hD hP hS 17 0 (((nN, px, py, pz, fx, fy, fz, lf, ld, fi), (nB, fr, tt, ln, wi, sg, pu), (nR, (vf_upd rd a d), (vf_upd rx a (FP.dmul (sp_) (4604544271217802189))), ry, wv, fo), (re, dg), (nP, tp, bt, dp)), (nQ, fu)) rfl rfl (j := a) (by decide) (by omega) rfl dX7_current_280 (fun H locs hP hS => ?_)
                        refine lv_aload_n hx hb dX7_current_281 rfl (lv_at hl 3 rfl) ?_
                        refine va_get (D := D) (ci := 7) (v := .ref (ad 18)) (C := RX7) (T := TX7) (N := 31) hx hb hts iX7_current_X7 hown hK hP 0 rfl rfl 20 (by decide) f_63 (fun _ h9 => h9) rfl dX7_current_282 ?_
                        refine lv_iload hx hb dX7_current_285 (lv_at hl 1 rfl) ?_
                        refine lv_iload hx hb dX7_current_287 (lv_at hl 2 rfl) ?_
                        refine lv_iconst (v := nI 2) hx hb dX7_current_289 (by decide) ?_
                        refine lv_icmp_ne (tgt := 297) hx hb dX7_current_290 (by decide) (fun _ => ?_) (fun c_290_490 => absurd c_290_490 (by decide))
                        refine lv_iload hx hb dX7_current_297 (lv_at hl 2 rfl) ?_
                        refine lv_iconst (v := nI 1) hx hb dX7_current_299 (by decide) ?_
                        refine lv_icmp_eq (tgt := 309) hx hb dX7_current_300 (by decide) (fun c_300_491 => absurd c_300_491 (by decide)) (fun _ => ?_)
                        refine lv_iload hx hb dX7_current_303 (lv_at hl 2 rfl) ?_
                        refine lv_iconst (v := nI 3) hx hb dX7_current_305 (by decide) ?_
                        refine lv_icmp_ne (tgt := 314) hx hb dX7_current_306 (by decide) (fun _ => ?_) (fun c_306_492 => absurd c_306_492 (by decide))
                        refine lv_iload hx hb dX7_current_314 (lv_at hl 2 rfl) ?_
                        refine lv_if_eq (tgt := 325) hx hb dX7_current_316 (by decide) (fun c_316_493 => absurd c_316_493 (by decide)) (fun _ => ?_)
                        refine lv_iload hx hb dX7_current_319 (lv_at hl 2 rfl) ?_
                        refine lv_iconst (v := nI 4) hx hb dX7_current_321 (by decide) ?_
                        refine lv_icmp_ne (tgt := 329) hx hb dX7_current_322 (by decide) (fun _ => ?_) (fun c_322_494 => absurd c_322_494 (by decide))
                        refine lv_iload hx hb dX7_current_329 (lv_at hl 2 rfl) ?_
                        refine lv_bipush (v := nI 6) hx hb dX7_current_331 (by decide) ?_
                        refine lv_icmp_ne (tgt := 342) hx hb dX7_current_333 (by decide) (fun _ => ?_) (fun c_333_495 => absurd c_333_495 (by decide))
                        refine lv_dconst0 hx hb dX7_current_342 ?_
                        refine lv_dload hx hb dX7_current_343 (lv_at hl 0 rfl) ?_
                        have h_497 : fB (1030) (FP.dsub (FP.dconst0) (FP.dmul (sp_) (4604544271217802189))) := fB_sub (M := 1028) fB_c0 h_486 (by omega) (by omega) (by omega)
                        refine lv_dsub hx hb dX7_current_345 (fB_ne h_497 (by omega)) ?_
                        refine xds hx hb hK hD hP hS 18 0 (((nN, px, py, pz, fx, fy, fz, lf, ld, fi), (nB, fr, tt, ln, wi, sg, pu), (nR, (vf_upd rd a d), (vf_upd rx a (FP.dmul (sp_) (4604544271217802189))), (vf_upd ry a (FP.dsub (FP.dconst0) (FP.dmul (sp_) (4604544271217802189)))), wv, fo), (re, dg), (nP, tp, bt, dp)), (nQ, fu)) rfl rfl (j := a) (by decide) (by omega) rfl dX7_current_346 (fun H locs hP hS => ?_)
                        refine lv_iconst (v := nI 1) hx hb dX7_current_347 (by decide) ?_
                        exact hret hS hP dX7_current_348 (Or.inr rfl) (⟨Or.inl ⟨7, a, he, b_3, b_5, hdir, hA, Or.inl ⟨⟨by omega, c_107_403⟩, rfl, rfl⟩⟩, rfl⟩)
                    · skip
                      refine lv_aload_n hx hb dX7_current_111 rfl (lv_at hl 2 rfl) ?_
                      refine va_get (D := D) (ci := 7) (v := .int (nI nR)) (C := RX7) (T := TX7) (N := 31) hx hb hts iX7_current_X7 hown hK hP 0 rfl rfl 17 (by decide) f_132 (fun _ h9 => h9) rfl dX7_current_112 ?_
                      refine lv_bipush (v := nI 10) hx hb dX7_current_115 (by decide) ?_
                      refine lv_icmp_ne (tgt := 122) hx hb dX7_current_117 (by decide) (fun c_117_498 => ?_) (fun c_117_498 => ?_)
                      · skip
                        have c_117_498 : ¬ (nR = 10) := fun q => c_117_498 ((nI_eq (a := nR) (b := 10) (by omega) (by omega)).mpr q)
                        refine lv_aload_n hx hb dX7_current_122 rfl (lv_at hl 2 rfl) ?_
                        refine va_get (D := D) (ci := 7) (v := .int (nI nR)) (C := RX7) (T := TX7) (N := 31) hx hb hts iX7_current_X7 hown hK hP 0 rfl rfl 17 (by decide) f_132 (fun _ h9 => h9) rfl dX7_current_123 ?_
                        refine lv_istore (lv' := [(9, .int (nI nR)), (8, .int (nI a)), (7, .int (nI ei)), (0, .ref (ad 0)), (1, .double (d)), (3, .double (sp_)), (5, .double (e8 nd))]) hx hb dX7_current_126 hl (by decide) rfl (fun ls hl => ?_)
                        have L_128_499 : ∀ (n_128 t : Nat) , (nR + 1 ≤ t + n_128) → (a + t ≤ nR) → ∀ (H : Heap) (locs : List Loc), va_P D vwCl (WM cs ad (((nN, px, py, pz, fx, fy, fz, lf, ld, fi), (nB, fr, tt, ln, wi, sg, pu), (nR, (shf rd nR t), (shf rx nR t), (shf ry nR t), wv, fo), (re, dg), (nP, tp, bt, dp)), (nQ, fu))) H → va_S (gA (AM ad) s.heap.size) s.heap H locs → ∀ (ls : Array Slot), lv_has ls 11 [(9, .int (nI (nR - t))), (8, .int (nI a)), (7, .int (nI ei)), (0, .ref (ad 0)), (1, .double (d)), (3, .double (sp_)), (5, .double (e8 nd))] → W p l e ({ frames := 1, cells := 0, slots := 0, locals := 25 } : Room) s m ([.ref (ad 0), .double (d), .double (sp_), .double (e8 nd)] : List Value).toArray below meth c H locs 0 0 Q (F0 m 128 ls []) := by
                          intro n_128; induction n_128 with
                          | zero => intro t hf_128 ht H locs hP hS ls hl; exact absurd hf_128 (by omega)
                          | succ n_128 ih_128 =>
                            intro t hf_128 ht H locs hP hS ls hl
                            refine lv_iload hx hb dX7_current_128 (lv_at hl 0 rfl) ?_
                            refine lv_iload hx hb dX7_current_130 (lv_at hl 1 rfl) ?_
                            refine lv_icmp_le (tgt := 189) hx hb dX7_current_132 (by decide) (fun c_132_500 => ?_) (fun c_132_500 => ?_)
                            · skip
                              have c_132_500 : nR - t ≤ a := (nI_leI (a := nR - t) (b := a) (by omega) (by omega)).mp c_132_500
                              have et : t = nR - a := by omega
                              subst et
                              refine lv_aload_n hx hb dX7_current_189 rfl (lv_at hl 3 rfl) ?_
                              refine lv_dup hx hb dX7_current_190 rfl ?_
                              refine va_get (D := D) (ci := 7) (v := .int (nI nR)) (C := RX7) (T := TX7) (N := 31) hx hb hts iX7_current_X7 hown hK hP 0 rfl rfl 17 (by decide) f_132 (fun _ h9 => h9) rfl dX7_current_191 ?_
                              refine lv_iconst (v := nI 1) hx hb dX7_current_194 (by decide) ?_
                              refine xia hx hb (nR + 1) dX7_current_195 rfl ?_
                              refine xput (D := D) (ci := 7) (v := .int (nI (nR + 1))) (ty := .int) (C := RX7) (T := TX7) (N := 31) hx hb hts iX7_current_X7 tyX7 tyX7_ok nmX7 hown hK hD hP hS 0 (((nN, px, py, pz, fx, fy, fz, lf, ld, fi), (nB, fr, tt, ln, wi, sg, pu), ((nR + 1), (shf rd nR (nR - a)), (shf rx nR (nR - a)), (shf ry nR (nR - a)), wv, fo), (re, dg), (nP, tp, bt, dp)), (nQ, fu)) rfl rfl 17 (by decide) f_132 (fun _ h9 => h9) rfl (by decide +kernel) rfl rfl (Nat.le_of_ble_eq_true rfl) rfl dX7_current_196 (fun H locs hP hS => ?_)
                              rcases (show ei = 0 ∨ ei = 1 ∨ ei = 2 ∨ ei = 3 ∨ ei = 4 ∨ ei = 5 ∨ ei = 6 ∨ ei = 7 by omega) with rfl | rfl | rfl | rfl | rfl | rfl | rfl | rfl
                              · skip
                                refine lv_dload_n hx hb dX7_current_199 rfl (lv_at hl 5 rfl) ?_
                                refine lv_ldc2d hx hb hown c_139 dX7_current_200 ?_
                                have h_502 : fB (1028) (FP.dmul (sp_) (4604544271217802189)) := fB_mul hsp (fB_lit (K := 1023) (a := 4604544271217802189) (by decide +kernel)) (by omega) (by omega) (by omega)
                                refine lv_dmul hx hb dX7_current_203 (fB_ne h_502 (by omega)) ?_
                                refine lv_dstore (lv' := [(9, .double (FP.dmul (sp_) (4604544271217802189))), (8, .int (nI a)), (7, .int (nI 0)), (0, .ref (ad 0)), (1, .double (d)), (3, .double (sp_)), (5, .double (e8 nd))]) hx hb dX7_current_204 hl (by decide) rfl (fun ls hl => ?_)
                                refine lv_aload_n hx hb dX7_current_206 rfl (lv_at hl 3 rfl) ?_
                                refine va_get (D := D) (ci := 7) (v := .ref (ad 16)) (C := RX7) (T := TX7) (N := 31) hx hb hts iX7_current_X7 hown hK hP 0 rfl rfl 18 (by decide) f_57 (fun _ h9 => h9) rfl dX7_current_207 ?_
                                refine lv_iload hx hb dX7_current_210 (lv_at hl 1 rfl) ?_
                                refine lv_dload_n hx hb dX7_current_212 rfl (lv_at hl 4 rfl) ?_
                                refine xds hx hb hK hD hP hS 16 0 (((nN, px, py, pz, fx, fy, fz, lf, ld, fi), (nB, fr, tt, ln, wi, sg, pu), ((nR + 1), (vf_upd (shf rd nR (nR - a)) a d), (shf rx nR (nR - a)), (shf ry nR (nR - a)), wv, fo), (re, dg), (nP, tp, bt, dp)), (nQ, fu)) rfl rfl (j := a) (by decide) (by omega) rfl dX7_current_213 (fun H locs hP hS => ?_)
                                refine lv_aload_n hx hb dX7_current_214 rfl (lv_at hl 3 rfl) ?_
                                refine va_get (D := D) (ci := 7) (v := .ref (ad 17)) (C := RX7) (T := TX7) (N := 31) hx hb hts iX7_current_X7 hown hK hP 0 rfl rfl 19 (by decide) f_60 (fun _ h9 => h9) rfl dX7_current_215 ?_
                                refine lv_iload hx hb dX7_current_218 (lv_at hl 1 rfl) ?_
                                refine lv_iload hx hb dX7_current_220 (lv_at hl 2 rfl) ?_
                                refine lv_if_ne (tgt := 229) hx hb dX7_current_222 (by decide) (fun c_222_503 => absurd c_222_503 (by decide)) (fun _ => ?_)
                                refine lv_dload_n hx hb dX7_current_225 rfl (lv_at hl 5 rfl) ?_
                                refine lv_goto (tgt := 280) hx hb dX7_current_226 (by decide) ?_
                                refine xds hx hb hK hD hP hS 17 0 (((nN, px, py, pz, fx, fy, fz, lf, ld, fi), (nB, fr, tt, ln, wi, sg, pu), ((nR + 1), (vf_upd (shf rd nR (nR - a)) a d), (vf_upd (shf rx nR (nR - a)) a sp_), (shf ry nR (nR - a)), wv, fo), (re, dg), (nP, tp, bt, dp)), (nQ, fu)) rfl rfl (j := a) (by decide) (by omega) rfl dX7_current_280 (fun H locs hP hS => ?_)
                                refine lv_aload_n hx hb dX7_current_281 rfl (lv_at hl 3 rfl) ?_
                                refine va_get (D := D) (ci := 7) (v := .ref (ad 18)) (C := RX7) (T := TX7) (N := 31) hx hb hts iX7_current_X7 hown hK hP 0 rfl rfl 20 (by decide) f_63 (fun _ h9 => h9) rfl dX7_current_282 ?_
                                refine lv_iload hx hb dX7_current_285 (lv_at hl 1 rfl) ?_
                                refine lv_iload hx hb dX7_current_287 (lv_at hl 2 rfl) ?_
                                refine lv_iconst (v := nI 2) hx hb dX7_current_289 (by decide) ?_
                                refine lv_icmp_ne (tgt := 297) hx hb dX7_current_290 (by decide) (fun _ => ?_) (fun c_290_504 => absurd c_290_504 (by decide))
                                refine lv_iload hx hb dX7_current_297 (lv_at hl 2 rfl) ?_
                                refine lv_iconst (v := nI 1) hx hb dX7_current_299 (by decide) ?_
                                refine lv_icmp_eq (tgt := 309) hx hb dX7_current_300 (by decide) (fun c_300_505 => absurd c_300_505 (by decide)) (fun _ => ?_)
                                refine lv_iload hx hb dX7_current_303 (lv_at hl 2 rfl) ?_
                                refine lv_iconst (v := nI 3) hx hb dX7_current_305 (by decide) ?_
                                refine lv_icmp_ne (tgt := 314) hx hb dX7_current_306 (by decide) (fun _ => ?_) (fun c_306_506 => absurd c_306_506 (by decide))
                                refine lv_iload hx hb dX7_current_314 (lv_at hl 2 rfl) ?_
                                refine lv_if_eq (tgt := 325) hx hb dX7_current_316 (by decide) (fun _ => ?_) (fun c_316_507 => absurd c_316_507 (by decide))
                                refine lv_dconst0 hx hb dX7_current_325 ?_
                                refine lv_goto (tgt := 346) hx hb dX7_current_326 (by decide) ?_
                                refine xds hx hb hK hD hP hS 18 0 (((nN, px, py, pz, fx, fy, fz, lf, ld, fi), (nB, fr, tt, ln, wi, sg, pu), ((nR + 1), (vf_upd (shf rd nR (nR - a)) a d), (vf_upd (shf rx nR (nR - a)) a sp_), (vf_upd (shf ry nR (nR - a)) a FP.dconst0), wv, fo), (re, dg), (nP, tp, bt, dp)), (nQ, fu)) rfl rfl (j := a) (by decide) (by omega) rfl dX7_current_346 (fun H locs hP hS => ?_)
                                refine lv_iconst (v := nI 1) hx hb dX7_current_347 (by decide) ?_
                                exact hret hS hP dX7_current_348 (Or.inr rfl) (⟨Or.inl ⟨0, a, he, b_3, b_5, hdir, hA, Or.inr (Or.inl ⟨fun q => absurd q.2 c_107_403, by omega, rfl, rfl⟩)⟩, rfl⟩)
                              · skip
                                refine lv_dload_n hx hb dX7_current_199 rfl (lv_at hl 5 rfl) ?_
                                refine lv_ldc2d hx hb hown c_139 dX7_current_200 ?_
                                have h_509 : fB (1028) (FP.dmul (sp_) (4604544271217802189)) := fB_mul hsp (fB_lit (K := 1023) (a := 4604544271217802189) (by decide +kernel)) (by omega) (by omega) (by omega)
                                refine lv_dmul hx hb dX7_current_203 (fB_ne h_509 (by omega)) ?_
                                refine lv_dstore (lv' := [(9, .double (FP.dmul (sp_) (4604544271217802189))), (8, .int (nI a)), (7, .int (nI 1)), (0, .ref (ad 0)), (1, .double (d)), (3, .double (sp_)), (5, .double (e8 nd))]) hx hb dX7_current_204 hl (by decide) rfl (fun ls hl => ?_)
                                refine lv_aload_n hx hb dX7_current_206 rfl (lv_at hl 3 rfl) ?_
                                refine va_get (D := D) (ci := 7) (v := .ref (ad 16)) (C := RX7) (T := TX7) (N := 31) hx hb hts iX7_current_X7 hown hK hP 0 rfl rfl 18 (by decide) f_57 (fun _ h9 => h9) rfl dX7_current_207 ?_
                                refine lv_iload hx hb dX7_current_210 (lv_at hl 1 rfl) ?_
                                refine lv_dload_n hx hb dX7_current_212 rfl (lv_at hl 4 rfl) ?_
                                refine xds hx hb hK hD hP hS 16 0 (((nN, px, py, pz, fx, fy, fz, lf, ld, fi), (nB, fr, tt, ln, wi, sg, pu), ((nR + 1), (vf_upd (shf rd nR (nR - a)) a d), (shf rx nR (nR - a)), (shf ry nR (nR - a)), wv, fo), (re, dg), (nP, tp, bt, dp)), (nQ, fu)) rfl rfl (j := a) (by decide) (by omega) rfl dX7_current_213 (fun H locs hP hS => ?_)
                                refine lv_aload_n hx hb dX7_current_214 rfl (lv_at hl 3 rfl) ?_
                                refine va_get (D := D) (ci := 7) (v := .ref (ad 17)) (C := RX7) (T := TX7) (N := 31) hx hb hts iX7_current_X7 hown hK hP 0 rfl rfl 19 (by decide) f_60 (fun _ h9 => h9) rfl dX7_current_215 ?_
                                refine lv_iload hx hb dX7_current_218 (lv_at hl 1 rfl) ?_
                                refine lv_iload hx hb dX7_current_220 (lv_at hl 2 rfl) ?_
                                refine lv_if_ne (tgt := 229) hx hb dX7_current_222 (by decide) (fun _ => ?_) (fun c_222_510 => absurd c_222_510 (by decide))
                                refine lv_iload hx hb dX7_current_229 (lv_at hl 2 rfl) ?_
                                refine lv_iconst (v := nI 1) hx hb dX7_current_231 (by decide) ?_
                                refine lv_icmp_eq (tgt := 242) hx hb dX7_current_232 (by decide) (fun _ => ?_) (fun c_232_511 => absurd c_232_511 (by decide))
                                refine lv_dload hx hb dX7_current_242 (lv_at hl 0 rfl) ?_
                                refine lv_goto (tgt := 280) hx hb dX7_current_244 (by decide) ?_
                                refine xds hx hb hK hD hP hS 17 0 (((nN, px, py, pz, fx, fy, fz, lf, ld, fi), (nB, fr, tt, ln, wi, sg, pu), ((nR + 1), (vf_upd (shf rd nR (nR - a)) a d), (vf_upd (shf rx nR (nR - a)) a (FP.dmul (sp_) (4604544271217802189))), (shf ry nR (nR - a)), wv, fo), (re, dg), (nP, tp, bt, dp)), (nQ, fu)) rfl rfl (j := a) (by decide) (by omega) rfl dX7_current_280 (fun H locs hP hS => ?_)
                                refine lv_aload_n hx hb dX7_current_281 rfl (lv_at hl 3 rfl) ?_
                                refine va_get (D := D) (ci := 7) (v := .ref (ad 18)) (C := RX7) (T := TX7) (N := 31) hx hb hts iX7_current_X7 hown hK hP 0 rfl rfl 20 (by decide) f_63 (fun _ h9 => h9) rfl dX7_current_282 ?_
                                refine lv_iload hx hb dX7_current_285 (lv_at hl 1 rfl) ?_
                                refine lv_iload hx hb dX7_current_287 (lv_at hl 2 rfl) ?_
                                refine lv_iconst (v := nI 2) hx hb dX7_current_289 (by decide) ?_
                                refine lv_icmp_ne (tgt := 297) hx hb dX7_current_290 (by decide) (fun _ => ?_) (fun c_290_512 => absurd c_290_512 (by decide))
                                refine lv_iload hx hb dX7_current_297 (lv_at hl 2 rfl) ?_
                                refine lv_iconst (v := nI 1) hx hb dX7_current_299 (by decide) ?_
                                refine lv_icmp_eq (tgt := 309) hx hb dX7_current_300 (by decide) (fun _ => ?_) (fun c_300_513 => absurd c_300_513 (by decide))
                                refine lv_dload hx hb dX7_current_309 (lv_at hl 0 rfl) ?_
                                refine lv_goto (tgt := 346) hx hb dX7_current_311 (by decide) ?_
                                refine xds hx hb hK hD hP hS 18 0 (((nN, px, py, pz, fx, fy, fz, lf, ld, fi), (nB, fr, tt, ln, wi, sg, pu), ((nR + 1), (vf_upd (shf rd nR (nR - a)) a d), (vf_upd (shf rx nR (nR - a)) a (FP.dmul (sp_) (4604544271217802189))), (vf_upd (shf ry nR (nR - a)) a (FP.dmul (sp_) (4604544271217802189))), wv, fo), (re, dg), (nP, tp, bt, dp)), (nQ, fu)) rfl rfl (j := a) (by decide) (by omega) rfl dX7_current_346 (fun H locs hP hS => ?_)
                                refine lv_iconst (v := nI 1) hx hb dX7_current_347 (by decide) ?_
                                exact hret hS hP dX7_current_348 (Or.inr rfl) (⟨Or.inl ⟨1, a, he, b_3, b_5, hdir, hA, Or.inr (Or.inl ⟨fun q => absurd q.2 c_107_403, by omega, rfl, rfl⟩)⟩, rfl⟩)
                              · skip
                                refine lv_dload_n hx hb dX7_current_199 rfl (lv_at hl 5 rfl) ?_
                                refine lv_ldc2d hx hb hown c_139 dX7_current_200 ?_
                                have h_515 : fB (1028) (FP.dmul (sp_) (4604544271217802189)) := fB_mul hsp (fB_lit (K := 1023) (a := 4604544271217802189) (by decide +kernel)) (by omega) (by omega) (by omega)
                                refine lv_dmul hx hb dX7_current_203 (fB_ne h_515 (by omega)) ?_
                                refine lv_dstore (lv' := [(9, .double (FP.dmul (sp_) (4604544271217802189))), (8, .int (nI a)), (7, .int (nI 2)), (0, .ref (ad 0)), (1, .double (d)), (3, .double (sp_)), (5, .double (e8 nd))]) hx hb dX7_current_204 hl (by decide) rfl (fun ls hl => ?_)
                                refine lv_aload_n hx hb dX7_current_206 rfl (lv_at hl 3 rfl) ?_
                                refine va_get (D := D) (ci := 7) (v := .ref (ad 16)) (C := RX7) (T := TX7) (N := 31) hx hb hts iX7_current_X7 hown hK hP 0 rfl rfl 18 (by decide) f_57 (fun _ h9 => h9) rfl dX7_current_207 ?_
                                refine lv_iload hx hb dX7_current_210 (lv_at hl 1 rfl) ?_
                                refine lv_dload_n hx hb dX7_current_212 rfl (lv_at hl 4 rfl) ?_
                                refine xds hx hb hK hD hP hS 16 0 (((nN, px, py, pz, fx, fy, fz, lf, ld, fi), (nB, fr, tt, ln, wi, sg, pu), ((nR + 1), (vf_upd (shf rd nR (nR - a)) a d), (shf rx nR (nR - a)), (shf ry nR (nR - a)), wv, fo), (re, dg), (nP, tp, bt, dp)), (nQ, fu)) rfl rfl (j := a) (by decide) (by omega) rfl dX7_current_213 (fun H locs hP hS => ?_)
                                refine lv_aload_n hx hb dX7_current_214 rfl (lv_at hl 3 rfl) ?_
                                refine va_get (D := D) (ci := 7) (v := .ref (ad 17)) (C := RX7) (T := TX7) (N := 31) hx hb hts iX7_current_X7 hown hK hP 0 rfl rfl 19 (by decide) f_60 (fun _ h9 => h9) rfl dX7_current_215 ?_
                                refine lv_iload hx hb dX7_current_218 (lv_at hl 1 rfl) ?_
                                refine lv_iload hx hb dX7_current_220 (lv_at hl 2 rfl) ?_
                                refine lv_if_ne (tgt := 229) hx hb dX7_current_222 (by decide) (fun _ => ?_) (fun c_222_516 => absurd c_222_516 (by decide))
                                refine lv_iload hx hb dX7_current_229 (lv_at hl 2 rfl) ?_
                                refine lv_iconst (v := nI 1) hx hb dX7_current_231 (by decide) ?_
                                refine lv_icmp_eq (tgt := 242) hx hb dX7_current_232 (by decide) (fun c_232_517 => absurd c_232_517 (by decide)) (fun _ => ?_)
                                refine lv_iload hx hb dX7_current_235 (lv_at hl 2 rfl) ?_
                                refine lv_bipush (v := nI 7) hx hb dX7_current_237 (by decide) ?_
                                refine lv_icmp_ne (tgt := 247) hx hb dX7_current_239 (by decide) (fun _ => ?_) (fun c_239_518 => absurd c_239_518 (by decide))
                                refine lv_iload hx hb dX7_current_247 (lv_at hl 2 rfl) ?_
                                refine lv_iconst (v := nI 2) hx hb dX7_current_249 (by decide) ?_
                                refine lv_icmp_eq (tgt := 260) hx hb dX7_current_250 (by decide) (fun _ => ?_) (fun c_250_519 => absurd c_250_519 (by decide))
                                refine lv_dconst0 hx hb dX7_current_260 ?_
                                refine lv_goto (tgt := 280) hx hb dX7_current_261 (by decide) ?_
                                refine xds hx hb hK hD hP hS 17 0 (((nN, px, py, pz, fx, fy, fz, lf, ld, fi), (nB, fr, tt, ln, wi, sg, pu), ((nR + 1), (vf_upd (shf rd nR (nR - a)) a d), (vf_upd (shf rx nR (nR - a)) a FP.dconst0), (shf ry nR (nR - a)), wv, fo), (re, dg), (nP, tp, bt, dp)), (nQ, fu)) rfl rfl (j := a) (by decide) (by omega) rfl dX7_current_280 (fun H locs hP hS => ?_)
                                refine lv_aload_n hx hb dX7_current_281 rfl (lv_at hl 3 rfl) ?_
                                refine va_get (D := D) (ci := 7) (v := .ref (ad 18)) (C := RX7) (T := TX7) (N := 31) hx hb hts iX7_current_X7 hown hK hP 0 rfl rfl 20 (by decide) f_63 (fun _ h9 => h9) rfl dX7_current_282 ?_
                                refine lv_iload hx hb dX7_current_285 (lv_at hl 1 rfl) ?_
                                refine lv_iload hx hb dX7_current_287 (lv_at hl 2 rfl) ?_
                                refine lv_iconst (v := nI 2) hx hb dX7_current_289 (by decide) ?_
                                refine lv_icmp_ne (tgt := 297) hx hb dX7_current_290 (by decide) (fun c_290_520 => absurd c_290_520 (by decide)) (fun _ => ?_)
                                refine lv_dload_n hx hb dX7_current_293 rfl (lv_at hl 5 rfl) ?_
                                refine lv_goto (tgt := 346) hx hb dX7_current_294 (by decide) ?_
                                refine xds hx hb hK hD hP hS 18 0 (((nN, px, py, pz, fx, fy, fz, lf, ld, fi), (nB, fr, tt, ln, wi, sg, pu), ((nR + 1), (vf_upd (shf rd nR (nR - a)) a d), (vf_upd (shf rx nR (nR - a)) a FP.dconst0), (vf_upd (shf ry nR (nR - a)) a sp_), wv, fo), (re, dg), (nP, tp, bt, dp)), (nQ, fu)) rfl rfl (j := a) (by decide) (by omega) rfl dX7_current_346 (fun H locs hP hS => ?_)
                                refine lv_iconst (v := nI 1) hx hb dX7_current_347 (by decide) ?_
                                exact hret hS hP dX7_current_348 (Or.inr rfl) (⟨Or.inl ⟨2, a, he, b_3, b_5, hdir, hA, Or.inr (Or.inl ⟨fun q => absurd q.2 c_107_403, by omega, rfl, rfl⟩)⟩, rfl⟩)
                              · skip
                                refine lv_dload_n hx hb dX7_current_199 rfl (lv_at hl 5 rfl) ?_
                                refine lv_ldc2d hx hb hown c_139 dX7_current_200 ?_
                                have h_522 : fB (1028) (FP.dmul (sp_) (4604544271217802189)) := fB_mul hsp (fB_lit (K := 1023) (a := 4604544271217802189) (by decide +kernel)) (by omega) (by omega) (by omega)
                                refine lv_dmul hx hb dX7_current_203 (fB_ne h_522 (by omega)) ?_
                                refine lv_dstore (lv' := [(9, .double (FP.dmul (sp_) (4604544271217802189))), (8, .int (nI a)), (7, .int (nI 3)), (0, .ref (ad 0)), (1, .double (d)), (3, .double (sp_)), (5, .double (e8 nd))]) hx hb dX7_current_204 hl (by decide) rfl (fun ls hl => ?_)
                                refine lv_aload_n hx hb dX7_current_206 rfl (lv_at hl 3 rfl) ?_
                                refine va_get (D := D) (ci := 7) (v := .ref (ad 16)) (C := RX7) (T := TX7) (N := 31) hx hb hts iX7_current_X7 hown hK hP 0 rfl rfl 18 (by decide) f_57 (fun _ h9 => h9) rfl dX7_current_207 ?_
                                refine lv_iload hx hb dX7_current_210 (lv_at hl 1 rfl) ?_
                                refine lv_dload_n hx hb dX7_current_212 rfl (lv_at hl 4 rfl) ?_
                                refine xds hx hb hK hD hP hS 16 0 (((nN, px, py, pz, fx, fy, fz, lf, ld, fi), (nB, fr, tt, ln, wi, sg, pu), ((nR + 1), (vf_upd (shf rd nR (nR - a)) a d), (shf rx nR (nR - a)), (shf ry nR (nR - a)), wv, fo), (re, dg), (nP, tp, bt, dp)), (nQ, fu)) rfl rfl (j := a) (by decide) (by omega) rfl dX7_current_213 (fun H locs hP hS => ?_)
                                refine lv_aload_n hx hb dX7_current_214 rfl (lv_at hl 3 rfl) ?_
                                refine va_get (D := D) (ci := 7) (v := .ref (ad 17)) (C := RX7) (T := TX7) (N := 31) hx hb hts iX7_current_X7 hown hK hP 0 rfl rfl 19 (by decide) f_60 (fun _ h9 => h9) rfl dX7_current_215 ?_
                                refine lv_iload hx hb dX7_current_218 (lv_at hl 1 rfl) ?_
                                refine lv_iload hx hb dX7_current_220 (lv_at hl 2 rfl) ?_
                                refine lv_if_ne (tgt := 229) hx hb dX7_current_222 (by decide) (fun _ => ?_) (fun c_222_523 => absurd c_222_523 (by decide))
                                refine lv_iload hx hb dX7_current_229 (lv_at hl 2 rfl) ?_
                                refine lv_iconst (v := nI 1) hx hb dX7_current_231 (by decide) ?_
                                refine lv_icmp_eq (tgt := 242) hx hb dX7_current_232 (by decide) (fun c_232_524 => absurd c_232_524 (by decide)) (fun _ => ?_)
                                refine lv_iload hx hb dX7_current_235 (lv_at hl 2 rfl) ?_
                                refine lv_bipush (v := nI 7) hx hb dX7_current_237 (by decide) ?_
                                refine lv_icmp_ne (tgt := 247) hx hb dX7_current_239 (by decide) (fun _ => ?_) (fun c_239_525 => absurd c_239_525 (by decide))
                                refine lv_iload hx hb dX7_current_247 (lv_at hl 2 rfl) ?_
                                refine lv_iconst (v := nI 2) hx hb dX7_current_249 (by decide) ?_
                                refine lv_icmp_eq (tgt := 260) hx hb dX7_current_250 (by decide) (fun c_250_526 => absurd c_250_526 (by decide)) (fun _ => ?_)
                                refine lv_iload hx hb dX7_current_253 (lv_at hl 2 rfl) ?_
                                refine lv_bipush (v := nI 6) hx hb dX7_current_255 (by decide) ?_
                                refine lv_icmp_ne (tgt := 264) hx hb dX7_current_257 (by decide) (fun _ => ?_) (fun c_257_527 => absurd c_257_527 (by decide))
                                refine lv_iload hx hb dX7_current_264 (lv_at hl 2 rfl) ?_
                                refine lv_iconst (v := nI 4) hx hb dX7_current_266 (by decide) ?_
                                refine lv_icmp_ne (tgt := 276) hx hb dX7_current_267 (by decide) (fun _ => ?_) (fun c_267_528 => absurd c_267_528 (by decide))
                                refine lv_dconst0 hx hb dX7_current_276 ?_
                                refine lv_dload hx hb dX7_current_277 (lv_at hl 0 rfl) ?_
                                have h_530 : fB (1030) (FP.dsub (FP.dconst0) (FP.dmul (sp_) (4604544271217802189))) := fB_sub (M := 1028) fB_c0 h_522 (by omega) (by omega) (by omega)
                                refine lv_dsub hx hb dX7_current_279 (fB_ne h_530 (by omega)) ?_
                                refine xds hx hb hK hD hP hS 17 0 (((nN, px, py, pz, fx, fy, fz, lf, ld, fi), (nB, fr, tt, ln, wi, sg, pu), ((nR + 1), (vf_upd (shf rd nR (nR - a)) a d), (vf_upd (shf rx nR (nR - a)) a (FP.dsub (FP.dconst0) (FP.dmul (sp_) (4604544271217802189)))), (shf ry nR (nR - a)), wv, fo), (re, dg), (nP, tp, bt, dp)), (nQ, fu)) rfl rfl (j := a) (by decide) (by omega) rfl dX7_current_280 (fun H locs hP hS => ?_)
                                refine lv_aload_n hx hb dX7_current_281 rfl (lv_at hl 3 rfl) ?_
                                refine va_get (D := D) (ci := 7) (v := .ref (ad 18)) (C := RX7) (T := TX7) (N := 31) hx hb hts iX7_current_X7 hown hK hP 0 rfl rfl 20 (by decide) f_63 (fun _ h9 => h9) rfl dX7_current_282 ?_
                                refine lv_iload hx hb dX7_current_285 (lv_at hl 1 rfl) ?_
                                refine lv_iload hx hb dX7_current_287 (lv_at hl 2 rfl) ?_
                                refine lv_iconst (v := nI 2) hx hb dX7_current_289 (by decide) ?_
                                refine lv_icmp_ne (tgt := 297) hx hb dX7_current_290 (by decide) (fun _ => ?_) (fun c_290_531 => absurd c_290_531 (by decide))
                                refine lv_iload hx hb dX7_current_297 (lv_at hl 2 rfl) ?_
                                refine lv_iconst (v := nI 1) hx hb dX7_current_299 (by decide) ?_
                                refine lv_icmp_eq (tgt := 309) hx hb dX7_current_300 (by decide) (fun c_300_532 => absurd c_300_532 (by decide)) (fun _ => ?_)
                                refine lv_iload hx hb dX7_current_303 (lv_at hl 2 rfl) ?_
                                refine lv_iconst (v := nI 3) hx hb dX7_current_305 (by decide) ?_
                                refine lv_icmp_ne (tgt := 314) hx hb dX7_current_306 (by decide) (fun c_306_533 => absurd c_306_533 (by decide)) (fun _ => ?_)
                                refine lv_dload hx hb dX7_current_309 (lv_at hl 0 rfl) ?_
                                refine lv_goto (tgt := 346) hx hb dX7_current_311 (by decide) ?_
                                refine xds hx hb hK hD hP hS 18 0 (((nN, px, py, pz, fx, fy, fz, lf, ld, fi), (nB, fr, tt, ln, wi, sg, pu), ((nR + 1), (vf_upd (shf rd nR (nR - a)) a d), (vf_upd (shf rx nR (nR - a)) a (FP.dsub (FP.dconst0) (FP.dmul (sp_) (4604544271217802189)))), (vf_upd (shf ry nR (nR - a)) a (FP.dmul (sp_) (4604544271217802189))), wv, fo), (re, dg), (nP, tp, bt, dp)), (nQ, fu)) rfl rfl (j := a) (by decide) (by omega) rfl dX7_current_346 (fun H locs hP hS => ?_)
                                refine lv_iconst (v := nI 1) hx hb dX7_current_347 (by decide) ?_
                                exact hret hS hP dX7_current_348 (Or.inr rfl) (⟨Or.inl ⟨3, a, he, b_3, b_5, hdir, hA, Or.inr (Or.inl ⟨fun q => absurd q.2 c_107_403, by omega, rfl, rfl⟩)⟩, rfl⟩)
                              · skip
                                refine lv_dload_n hx hb dX7_current_199 rfl (lv_at hl 5 rfl) ?_
                                refine lv_ldc2d hx hb hown c_139 dX7_current_200 ?_
                                have h_535 : fB (1028) (FP.dmul (sp_) (4604544271217802189)) := fB_mul hsp (fB_lit (K := 1023) (a := 4604544271217802189) (by decide +kernel)) (by omega) (by omega) (by omega)
                                refine lv_dmul hx hb dX7_current_203 (fB_ne h_535 (by omega)) ?_
                                refine lv_dstore (lv' := [(9, .double (FP.dmul (sp_) (4604544271217802189))), (8, .int (nI a)), (7, .int (nI 4)), (0, .ref (ad 0)), (1, .double (d)), (3, .double (sp_)), (5, .double (e8 nd))]) hx hb dX7_current_204 hl (by decide) rfl (fun ls hl => ?_)
                                refine lv_aload_n hx hb dX7_current_206 rfl (lv_at hl 3 rfl) ?_
                                refine va_get (D := D) (ci := 7) (v := .ref (ad 16)) (C := RX7) (T := TX7) (N := 31) hx hb hts iX7_current_X7 hown hK hP 0 rfl rfl 18 (by decide) f_57 (fun _ h9 => h9) rfl dX7_current_207 ?_
                                refine lv_iload hx hb dX7_current_210 (lv_at hl 1 rfl) ?_
                                refine lv_dload_n hx hb dX7_current_212 rfl (lv_at hl 4 rfl) ?_
                                refine xds hx hb hK hD hP hS 16 0 (((nN, px, py, pz, fx, fy, fz, lf, ld, fi), (nB, fr, tt, ln, wi, sg, pu), ((nR + 1), (vf_upd (shf rd nR (nR - a)) a d), (shf rx nR (nR - a)), (shf ry nR (nR - a)), wv, fo), (re, dg), (nP, tp, bt, dp)), (nQ, fu)) rfl rfl (j := a) (by decide) (by omega) rfl dX7_current_213 (fun H locs hP hS => ?_)
                                refine lv_aload_n hx hb dX7_current_214 rfl (lv_at hl 3 rfl) ?_
                                refine va_get (D := D) (ci := 7) (v := .ref (ad 17)) (C := RX7) (T := TX7) (N := 31) hx hb hts iX7_current_X7 hown hK hP 0 rfl rfl 19 (by decide) f_60 (fun _ h9 => h9) rfl dX7_current_215 ?_
                                refine lv_iload hx hb dX7_current_218 (lv_at hl 1 rfl) ?_
                                refine lv_iload hx hb dX7_current_220 (lv_at hl 2 rfl) ?_
                                refine lv_if_ne (tgt := 229) hx hb dX7_current_222 (by decide) (fun _ => ?_) (fun c_222_536 => absurd c_222_536 (by decide))
                                refine lv_iload hx hb dX7_current_229 (lv_at hl 2 rfl) ?_
                                refine lv_iconst (v := nI 1) hx hb dX7_current_231 (by decide) ?_
                                refine lv_icmp_eq (tgt := 242) hx hb dX7_current_232 (by decide) (fun c_232_537 => absurd c_232_537 (by decide)) (fun _ => ?_)
                                refine lv_iload hx hb dX7_current_235 (lv_at hl 2 rfl) ?_
                                refine lv_bipush (v := nI 7) hx hb dX7_current_237 (by decide) ?_
                                refine lv_icmp_ne (tgt := 247) hx hb dX7_current_239 (by decide) (fun _ => ?_) (fun c_239_538 => absurd c_239_538 (by decide))
                                refine lv_iload hx hb dX7_current_247 (lv_at hl 2 rfl) ?_
                                refine lv_iconst (v := nI 2) hx hb dX7_current_249 (by decide) ?_
                                refine lv_icmp_eq (tgt := 260) hx hb dX7_current_250 (by decide) (fun c_250_539 => absurd c_250_539 (by decide)) (fun _ => ?_)
                                refine lv_iload hx hb dX7_current_253 (lv_at hl 2 rfl) ?_
                                refine lv_bipush (v := nI 6) hx hb dX7_current_255 (by decide) ?_
                                refine lv_icmp_ne (tgt := 264) hx hb dX7_current_257 (by decide) (fun _ => ?_) (fun c_257_540 => absurd c_257_540 (by decide))
                                refine lv_iload hx hb dX7_current_264 (lv_at hl 2 rfl) ?_
                                refine lv_iconst (v := nI 4) hx hb dX7_current_266 (by decide) ?_
                                refine lv_icmp_ne (tgt := 276) hx hb dX7_current_267 (by decide) (fun c_267_541 => absurd c_267_541 (by decide)) (fun _ => ?_)
                                refine lv_dconst0 hx hb dX7_current_270 ?_
                                refine lv_dload_n hx hb dX7_current_271 rfl (lv_at hl 5 rfl) ?_
                                have h_543 : fB (1029) (FP.dsub (FP.dconst0) (sp_)) := fB_sub (M := 1027) fB_c0 hsp (by omega) (by omega) (by omega)
                                refine lv_dsub hx hb dX7_current_272 (fB_ne h_543 (by omega)) ?_
                                refine lv_goto (tgt := 280) hx hb dX7_current_273 (by decide) ?_
                                refine xds hx hb hK hD hP hS 17 0 (((nN, px, py, pz, fx, fy, fz, lf, ld, fi), (nB, fr, tt, ln, wi, sg, pu), ((nR + 1), (vf_upd (shf rd nR (nR - a)) a d), (vf_upd (shf rx nR (nR - a)) a (FP.dsub (FP.dconst0) (sp_))), (shf ry nR (nR - a)), wv, fo), (re, dg), (nP, tp, bt, dp)), (nQ, fu)) rfl rfl (j := a) (by decide) (by omega) rfl dX7_current_280 (fun H locs hP hS => ?_)
                                refine lv_aload_n hx hb dX7_current_281 rfl (lv_at hl 3 rfl) ?_
                                refine va_get (D := D) (ci := 7) (v := .ref (ad 18)) (C := RX7) (T := TX7) (N := 31) hx hb hts iX7_current_X7 hown hK hP 0 rfl rfl 20 (by decide) f_63 (fun _ h9 => h9) rfl dX7_current_282 ?_
                                refine lv_iload hx hb dX7_current_285 (lv_at hl 1 rfl) ?_
                                refine lv_iload hx hb dX7_current_287 (lv_at hl 2 rfl) ?_
                                refine lv_iconst (v := nI 2) hx hb dX7_current_289 (by decide) ?_
                                refine lv_icmp_ne (tgt := 297) hx hb dX7_current_290 (by decide) (fun _ => ?_) (fun c_290_544 => absurd c_290_544 (by decide))
                                refine lv_iload hx hb dX7_current_297 (lv_at hl 2 rfl) ?_
                                refine lv_iconst (v := nI 1) hx hb dX7_current_299 (by decide) ?_
                                refine lv_icmp_eq (tgt := 309) hx hb dX7_current_300 (by decide) (fun c_300_545 => absurd c_300_545 (by decide)) (fun _ => ?_)
                                refine lv_iload hx hb dX7_current_303 (lv_at hl 2 rfl) ?_
                                refine lv_iconst (v := nI 3) hx hb dX7_current_305 (by decide) ?_
                                refine lv_icmp_ne (tgt := 314) hx hb dX7_current_306 (by decide) (fun _ => ?_) (fun c_306_546 => absurd c_306_546 (by decide))
                                refine lv_iload hx hb dX7_current_314 (lv_at hl 2 rfl) ?_
                                refine lv_if_eq (tgt := 325) hx hb dX7_current_316 (by decide) (fun c_316_547 => absurd c_316_547 (by decide)) (fun _ => ?_)
                                refine lv_iload hx hb dX7_current_319 (lv_at hl 2 rfl) ?_
                                refine lv_iconst (v := nI 4) hx hb dX7_current_321 (by decide) ?_
                                refine lv_icmp_ne (tgt := 329) hx hb dX7_current_322 (by decide) (fun c_322_548 => absurd c_322_548 (by decide)) (fun _ => ?_)
                                refine lv_dconst0 hx hb dX7_current_325 ?_
                                refine lv_goto (tgt := 346) hx hb dX7_current_326 (by decide) ?_
                                refine xds hx hb hK hD hP hS 18 0 (((nN, px, py, pz, fx, fy, fz, lf, ld, fi), (nB, fr, tt, ln, wi, sg, pu), ((nR + 1), (vf_upd (shf rd nR (nR - a)) a d), (vf_upd (shf rx nR (nR - a)) a (FP.dsub (FP.dconst0) (sp_))), (vf_upd (shf ry nR (nR - a)) a FP.dconst0), wv, fo), (re, dg), (nP, tp, bt, dp)), (nQ, fu)) rfl rfl (j := a) (by decide) (by omega) rfl dX7_current_346 (fun H locs hP hS => ?_)
                                refine lv_iconst (v := nI 1) hx hb dX7_current_347 (by decide) ?_
                                exact hret hS hP dX7_current_348 (Or.inr rfl) (⟨Or.inl ⟨4, a, he, b_3, b_5, hdir, hA, Or.inr (Or.inl ⟨fun q => absurd q.2 c_107_403, by omega, rfl, rfl⟩)⟩, rfl⟩)
                              · skip
                                refine lv_dload_n hx hb dX7_current_199 rfl (lv_at hl 5 rfl) ?_
                                refine lv_ldc2d hx hb hown c_139 dX7_current_200 ?_
                                have h_550 : fB (1028) (FP.dmul (sp_) (4604544271217802189)) := fB_mul hsp (fB_lit (K := 1023) (a := 4604544271217802189) (by decide +kernel)) (by omega) (by omega) (by omega)
                                refine lv_dmul hx hb dX7_current_203 (fB_ne h_550 (by omega)) ?_
                                refine lv_dstore (lv' := [(9, .double (FP.dmul (sp_) (4604544271217802189))), (8, .int (nI a)), (7, .int (nI 5)), (0, .ref (ad 0)), (1, .double (d)), (3, .double (sp_)), (5, .double (e8 nd))]) hx hb dX7_current_204 hl (by decide) rfl (fun ls hl => ?_)
                                refine lv_aload_n hx hb dX7_current_206 rfl (lv_at hl 3 rfl) ?_
                                refine va_get (D := D) (ci := 7) (v := .ref (ad 16)) (C := RX7) (T := TX7) (N := 31) hx hb hts iX7_current_X7 hown hK hP 0 rfl rfl 18 (by decide) f_57 (fun _ h9 => h9) rfl dX7_current_207 ?_
                                refine lv_iload hx hb dX7_current_210 (lv_at hl 1 rfl) ?_
                                refine lv_dload_n hx hb dX7_current_212 rfl (lv_at hl 4 rfl) ?_
                                refine xds hx hb hK hD hP hS 16 0 (((nN, px, py, pz, fx, fy, fz, lf, ld, fi), (nB, fr, tt, ln, wi, sg, pu), ((nR + 1), (vf_upd (shf rd nR (nR - a)) a d), (shf rx nR (nR - a)), (shf ry nR (nR - a)), wv, fo), (re, dg), (nP, tp, bt, dp)), (nQ, fu)) rfl rfl (j := a) (by decide) (by omega) rfl dX7_current_213 (fun H locs hP hS => ?_)
                                refine lv_aload_n hx hb dX7_current_214 rfl (lv_at hl 3 rfl) ?_
                                refine va_get (D := D) (ci := 7) (v := .ref (ad 17)) (C := RX7) (T := TX7) (N := 31) hx hb hts iX7_current_X7 hown hK hP 0 rfl rfl 19 (by decide) f_60 (fun _ h9 => h9) rfl dX7_current_215 ?_
                                refine lv_iload hx hb dX7_current_218 (lv_at hl 1 rfl) ?_
                                refine lv_iload hx hb dX7_current_220 (lv_at hl 2 rfl) ?_
                                refine lv_if_ne (tgt := 229) hx hb dX7_current_222 (by decide) (fun _ => ?_) (fun c_222_551 => absurd c_222_551 (by decide))
                                refine lv_iload hx hb dX7_current_229 (lv_at hl 2 rfl) ?_
                                refine lv_iconst (v := nI 1) hx hb dX7_current_231 (by decide) ?_
                                refine lv_icmp_eq (tgt := 242) hx hb dX7_current_232 (by decide) (fun c_232_552 => absurd c_232_552 (by decide)) (fun _ => ?_)
                                refine lv_iload hx hb dX7_current_235 (lv_at hl 2 rfl) ?_
                                refine lv_bipush (v := nI 7) hx hb dX7_current_237 (by decide) ?_
                                refine lv_icmp_ne (tgt := 247) hx hb dX7_current_239 (by decide) (fun _ => ?_) (fun c_239_553 => absurd c_239_553 (by decide))
                                refine lv_iload hx hb dX7_current_247 (lv_at hl 2 rfl) ?_
                                refine lv_iconst (v := nI 2) hx hb dX7_current_249 (by decide) ?_
                                refine lv_icmp_eq (tgt := 260) hx hb dX7_current_250 (by decide) (fun c_250_554 => absurd c_250_554 (by decide)) (fun _ => ?_)
                                refine lv_iload hx hb dX7_current_253 (lv_at hl 2 rfl) ?_
                                refine lv_bipush (v := nI 6) hx hb dX7_current_255 (by decide) ?_
                                refine lv_icmp_ne (tgt := 264) hx hb dX7_current_257 (by decide) (fun _ => ?_) (fun c_257_555 => absurd c_257_555 (by decide))
                                refine lv_iload hx hb dX7_current_264 (lv_at hl 2 rfl) ?_
                                refine lv_iconst (v := nI 4) hx hb dX7_current_266 (by decide) ?_
                                refine lv_icmp_ne (tgt := 276) hx hb dX7_current_267 (by decide) (fun _ => ?_) (fun c_267_556 => absurd c_267_556 (by decide))
                                refine lv_dconst0 hx hb dX7_current_276 ?_
                                refine lv_dload hx hb dX7_current_277 (lv_at hl 0 rfl) ?_
                                have h_558 : fB (1030) (FP.dsub (FP.dconst0) (FP.dmul (sp_) (4604544271217802189))) := fB_sub (M := 1028) fB_c0 h_550 (by omega) (by omega) (by omega)
                                refine lv_dsub hx hb dX7_current_279 (fB_ne h_558 (by omega)) ?_
                                refine xds hx hb hK hD hP hS 17 0 (((nN, px, py, pz, fx, fy, fz, lf, ld, fi), (nB, fr, tt, ln, wi, sg, pu), ((nR + 1), (vf_upd (shf rd nR (nR - a)) a d), (vf_upd (shf rx nR (nR - a)) a (FP.dsub (FP.dconst0) (FP.dmul (sp_) (4604544271217802189)))), (shf ry nR (nR - a)), wv, fo), (re, dg), (nP, tp, bt, dp)), (nQ, fu)) rfl rfl (j := a) (by decide) (by omega) rfl dX7_current_280 (fun H locs hP hS => ?_)
                                refine lv_aload_n hx hb dX7_current_281 rfl (lv_at hl 3 rfl) ?_
                                refine va_get (D := D) (ci := 7) (v := .ref (ad 18)) (C := RX7) (T := TX7) (N := 31) hx hb hts iX7_current_X7 hown hK hP 0 rfl rfl 20 (by decide) f_63 (fun _ h9 => h9) rfl dX7_current_282 ?_
                                refine lv_iload hx hb dX7_current_285 (lv_at hl 1 rfl) ?_
                                refine lv_iload hx hb dX7_current_287 (lv_at hl 2 rfl) ?_
                                refine lv_iconst (v := nI 2) hx hb dX7_current_289 (by decide) ?_
                                refine lv_icmp_ne (tgt := 297) hx hb dX7_current_290 (by decide) (fun _ => ?_) (fun c_290_559 => absurd c_290_559 (by decide))
                                refine lv_iload hx hb dX7_current_297 (lv_at hl 2 rfl) ?_
                                refine lv_iconst (v := nI 1) hx hb dX7_current_299 (by decide) ?_
                                refine lv_icmp_eq (tgt := 309) hx hb dX7_current_300 (by decide) (fun c_300_560 => absurd c_300_560 (by decide)) (fun _ => ?_)
                                refine lv_iload hx hb dX7_current_303 (lv_at hl 2 rfl) ?_
                                refine lv_iconst (v := nI 3) hx hb dX7_current_305 (by decide) ?_
                                refine lv_icmp_ne (tgt := 314) hx hb dX7_current_306 (by decide) (fun _ => ?_) (fun c_306_561 => absurd c_306_561 (by decide))
                                refine lv_iload hx hb dX7_current_314 (lv_at hl 2 rfl) ?_
                                refine lv_if_eq (tgt := 325) hx hb dX7_current_316 (by decide) (fun c_316_562 => absurd c_316_562 (by decide)) (fun _ => ?_)
                                refine lv_iload hx hb dX7_current_319 (lv_at hl 2 rfl) ?_
                                refine lv_iconst (v := nI 4) hx hb dX7_current_321 (by decide) ?_
                                refine lv_icmp_ne (tgt := 329) hx hb dX7_current_322 (by decide) (fun _ => ?_) (fun c_322_563 => absurd c_322_563 (by decide))
                                refine lv_iload hx hb dX7_current_329 (lv_at hl 2 rfl) ?_
                                refine lv_bipush (v := nI 6) hx hb dX7_current_331 (by decide) ?_
                                refine lv_icmp_ne (tgt := 342) hx hb dX7_current_333 (by decide) (fun _ => ?_) (fun c_333_564 => absurd c_333_564 (by decide))
                                refine lv_dconst0 hx hb dX7_current_342 ?_
                                refine lv_dload hx hb dX7_current_343 (lv_at hl 0 rfl) ?_
                                have h_566 : fB (1030) (FP.dsub (FP.dconst0) (FP.dmul (sp_) (4604544271217802189))) := fB_sub (M := 1028) fB_c0 h_550 (by omega) (by omega) (by omega)
                                refine lv_dsub hx hb dX7_current_345 (fB_ne h_566 (by omega)) ?_
                                refine xds hx hb hK hD hP hS 18 0 (((nN, px, py, pz, fx, fy, fz, lf, ld, fi), (nB, fr, tt, ln, wi, sg, pu), ((nR + 1), (vf_upd (shf rd nR (nR - a)) a d), (vf_upd (shf rx nR (nR - a)) a (FP.dsub (FP.dconst0) (FP.dmul (sp_) (4604544271217802189)))), (vf_upd (shf ry nR (nR - a)) a (FP.dsub (FP.dconst0) (FP.dmul (sp_) (4604544271217802189)))), wv, fo), (re, dg), (nP, tp, bt, dp)), (nQ, fu)) rfl rfl (j := a) (by decide) (by omega) rfl dX7_current_346 (fun H locs hP hS => ?_)
                                refine lv_iconst (v := nI 1) hx hb dX7_current_347 (by decide) ?_
                                exact hret hS hP dX7_current_348 (Or.inr rfl) (⟨Or.inl ⟨5, a, he, b_3, b_5, hdir, hA, Or.inr (Or.inl ⟨fun q => absurd q.2 c_107_403, by omega, rfl, rfl⟩)⟩, rfl⟩)
                              · skip
                                refine lv_dload_n hx hb dX7_current_199 rfl (lv_at hl 5 rfl) ?_
                                refine lv_ldc2d hx hb hown c_139 dX7_current_200 ?_
                                have h_568 : fB (1028) (FP.dmul (sp_) (4604544271217802189)) := fB_mul hsp (fB_lit (K := 1023) (a := 4604544271217802189) (by decide +kernel)) (by omega) (by omega) (by omega)
                                refine lv_dmul hx hb dX7_current_203 (fB_ne h_568 (by omega)) ?_
                                refine lv_dstore (lv' := [(9, .double (FP.dmul (sp_) (4604544271217802189))), (8, .int (nI a)), (7, .int (nI 6)), (0, .ref (ad 0)), (1, .double (d)), (3, .double (sp_)), (5, .double (e8 nd))]) hx hb dX7_current_204 hl (by decide) rfl (fun ls hl => ?_)
                                refine lv_aload_n hx hb dX7_current_206 rfl (lv_at hl 3 rfl) ?_
                                refine va_get (D := D) (ci := 7) (v := .ref (ad 16)) (C := RX7) (T := TX7) (N := 31) hx hb hts iX7_current_X7 hown hK hP 0 rfl rfl 18 (by decide) f_57 (fun _ h9 => h9) rfl dX7_current_207 ?_
                                refine lv_iload hx hb dX7_current_210 (lv_at hl 1 rfl) ?_
                                refine lv_dload_n hx hb dX7_current_212 rfl (lv_at hl 4 rfl) ?_
                                refine xds hx hb hK hD hP hS 16 0 (((nN, px, py, pz, fx, fy, fz, lf, ld, fi), (nB, fr, tt, ln, wi, sg, pu), ((nR + 1), (vf_upd (shf rd nR (nR - a)) a d), (shf rx nR (nR - a)), (shf ry nR (nR - a)), wv, fo), (re, dg), (nP, tp, bt, dp)), (nQ, fu)) rfl rfl (j := a) (by decide) (by omega) rfl dX7_current_213 (fun H locs hP hS => ?_)
                                refine lv_aload_n hx hb dX7_current_214 rfl (lv_at hl 3 rfl) ?_
                                refine va_get (D := D) (ci := 7) (v := .ref (ad 17)) (C := RX7) (T := TX7) (N := 31) hx hb hts iX7_current_X7 hown hK hP 0 rfl rfl 19 (by decide) f_60 (fun _ h9 => h9) rfl dX7_current_215 ?_
                                refine lv_iload hx hb dX7_current_218 (lv_at hl 1 rfl) ?_
                                refine lv_iload hx hb dX7_current_220 (lv_at hl 2 rfl) ?_
                                refine lv_if_ne (tgt := 229) hx hb dX7_current_222 (by decide) (fun _ => ?_) (fun c_222_569 => absurd c_222_569 (by decide))
                                refine lv_iload hx hb dX7_current_229 (lv_at hl 2 rfl) ?_
                                refine lv_iconst (v := nI 1) hx hb dX7_current_231 (by decide) ?_
                                refine lv_icmp_eq (tgt := 242) hx hb dX7_current_232 (by decide) (fun c_232_570 => absurd c_232_570 (by decide)) (fun _ => ?_)
                                refine lv_iload hx hb dX7_current_235 (lv_at hl 2 rfl) ?_
                                refine lv_bipush (v := nI 7) hx hb dX7_current_237 (by decide) ?_
                                refine lv_icmp_ne (tgt := 247) hx hb dX7_current_239 (by decide) (fun _ => ?_) (fun c_239_571 => absurd c_239_571 (by decide))
                                refine lv_iload hx hb dX7_current_247 (lv_at hl 2 rfl) ?_
                                refine lv_iconst (v := nI 2) hx hb dX7_current_249 (by decide) ?_
                                refine lv_icmp_eq (tgt := 260) hx hb dX7_current_250 (by decide) (fun c_250_572 => absurd c_250_572 (by decide)) (fun _ => ?_)
                                refine lv_iload hx hb dX7_current_253 (lv_at hl 2 rfl) ?_
                                refine lv_bipush (v := nI 6) hx hb dX7_current_255 (by decide) ?_
                                refine lv_icmp_ne (tgt := 264) hx hb dX7_current_257 (by decide) (fun c_257_573 => absurd c_257_573 (by decide)) (fun _ => ?_)
                                refine lv_dconst0 hx hb dX7_current_260 ?_
                                refine lv_goto (tgt := 280) hx hb dX7_current_261 (by decide) ?_
                                refine xds hx hb hK hD hP hS 17 0 (((nN, px, py, pz, fx, fy, fz, lf, ld, fi), (nB, fr, tt, ln, wi, sg, pu), ((nR + 1), (vf_upd (shf rd nR (nR - a)) a d), (vf_upd (shf rx nR (nR - a)) a FP.dconst0), (shf ry nR (nR - a)), wv, fo), (re, dg), (nP, tp, bt, dp)), (nQ, fu)) rfl rfl (j := a) (by decide) (by omega) rfl dX7_current_280 (fun H locs hP hS => ?_)
                                refine lv_aload_n hx hb dX7_current_281 rfl (lv_at hl 3 rfl) ?_
                                refine va_get (D := D) (ci := 7) (v := .ref (ad 18)) (C := RX7) (T := TX7) (N := 31) hx hb hts iX7_current_X7 hown hK hP 0 rfl rfl 20 (by decide) f_63 (fun _ h9 => h9) rfl dX7_current_282 ?_
                                refine lv_iload hx hb dX7_current_285 (lv_at hl 1 rfl) ?_
                                refine lv_iload hx hb dX7_current_287 (lv_at hl 2 rfl) ?_
                                refine lv_iconst (v := nI 2) hx hb dX7_current_289 (by decide) ?_
                                refine lv_icmp_ne (tgt := 297) hx hb dX7_current_290 (by decide) (fun _ => ?_) (fun c_290_574 => absurd c_290_574 (by decide))
                                refine lv_iload hx hb dX7_current_297 (lv_at hl 2 rfl) ?_
                                refine lv_iconst (v := nI 1) hx hb dX7_current_299 (by decide) ?_
                                refine lv_icmp_eq (tgt := 309) hx hb dX7_current_300 (by decide) (fun c_300_575 => absurd c_300_575 (by decide)) (fun _ => ?_)
                                refine lv_iload hx hb dX7_current_303 (lv_at hl 2 rfl) ?_
                                refine lv_iconst (v := nI 3) hx hb dX7_current_305 (by decide) ?_
                                refine lv_icmp_ne (tgt := 314) hx hb dX7_current_306 (by decide) (fun _ => ?_) (fun c_306_576 => absurd c_306_576 (by decide))
                                refine lv_iload hx hb dX7_current_314 (lv_at hl 2 rfl) ?_
                                refine lv_if_eq (tgt := 325) hx hb dX7_current_316 (by decide) (fun c_316_577 => absurd c_316_577 (by decide)) (fun _ => ?_)
                                refine lv_iload hx hb dX7_current_319 (lv_at hl 2 rfl) ?_
                                refine lv_iconst (v := nI 4) hx hb dX7_current_321 (by decide) ?_
                                refine lv_icmp_ne (tgt := 329) hx hb dX7_current_322 (by decide) (fun _ => ?_) (fun c_322_578 => absurd c_322_578 (by decide))
                                refine lv_iload hx hb dX7_current_329 (lv_at hl 2 rfl) ?_
                                refine lv_bipush (v := nI 6) hx hb dX7_current_331 (by decide) ?_
                                refine lv_icmp_ne (tgt := 342) hx hb dX7_current_333 (by decide) (fun c_333_579 => absurd c_333_579 (by decide)) (fun _ => ?_)
                                refine lv_dconst0 hx hb dX7_current_336 ?_
                                refine lv_dload_n hx hb dX7_current_337 rfl (lv_at hl 5 rfl) ?_
                                have h_581 : fB (1029) (FP.dsub (FP.dconst0) (sp_)) := fB_sub (M := 1027) fB_c0 hsp (by omega) (by omega) (by omega)
                                refine lv_dsub hx hb dX7_current_338 (fB_ne h_581 (by omega)) ?_
                                refine lv_goto (tgt := 346) hx hb dX7_current_339 (by decide) ?_
                                refine xds hx hb hK hD hP hS 18 0 (((nN, px, py, pz, fx, fy, fz, lf, ld, fi), (nB, fr, tt, ln, wi, sg, pu), ((nR + 1), (vf_upd (shf rd nR (nR - a)) a d), (vf_upd (shf rx nR (nR - a)) a FP.dconst0), (vf_upd (shf ry nR (nR - a)) a (FP.dsub (FP.dconst0) (sp_))), wv, fo), (re, dg), (nP, tp, bt, dp)), (nQ, fu)) rfl rfl (j := a) (by decide) (by omega) rfl dX7_current_346 (fun H locs hP hS => ?_)
                                refine lv_iconst (v := nI 1) hx hb dX7_current_347 (by decide) ?_
                                exact hret hS hP dX7_current_348 (Or.inr rfl) (⟨Or.inl ⟨6, a, he, b_3, b_5, hdir, hA, Or.inr (Or.inl ⟨fun q => absurd q.2 c_107_403, by omega, rfl, rfl⟩)⟩, rfl⟩)
                              · skip
                                refine lv_dload_n hx hb dX7_current_199 rfl (lv_at hl 5 rfl) ?_
                                refine lv_ldc2d hx hb hown c_139 dX7_current_200 ?_
                                have h_583 : fB (1028) (FP.dmul (sp_) (4604544271217802189)) := fB_mul hsp (fB_lit (K := 1023) (a := 4604544271217802189) (by decide +kernel)) (by omega) (by omega) (by omega)
                                refine lv_dmul hx hb dX7_current_203 (fB_ne h_583 (by omega)) ?_
                                refine lv_dstore (lv' := [(9, .double (FP.dmul (sp_) (4604544271217802189))), (8, .int (nI a)), (7, .int (nI 7)), (0, .ref (ad 0)), (1, .double (d)), (3, .double (sp_)), (5, .double (e8 nd))]) hx hb dX7_current_204 hl (by decide) rfl (fun ls hl => ?_)
                                refine lv_aload_n hx hb dX7_current_206 rfl (lv_at hl 3 rfl) ?_
                                refine va_get (D := D) (ci := 7) (v := .ref (ad 16)) (C := RX7) (T := TX7) (N := 31) hx hb hts iX7_current_X7 hown hK hP 0 rfl rfl 18 (by decide) f_57 (fun _ h9 => h9) rfl dX7_current_207 ?_
                                refine lv_iload hx hb dX7_current_210 (lv_at hl 1 rfl) ?_
                                refine lv_dload_n hx hb dX7_current_212 rfl (lv_at hl 4 rfl) ?_
                                refine xds hx hb hK hD hP hS 16 0 (((nN, px, py, pz, fx, fy, fz, lf, ld, fi), (nB, fr, tt, ln, wi, sg, pu), ((nR + 1), (vf_upd (shf rd nR (nR - a)) a d), (shf rx nR (nR - a)), (shf ry nR (nR - a)), wv, fo), (re, dg), (nP, tp, bt, dp)), (nQ, fu)) rfl rfl (j := a) (by decide) (by omega) rfl dX7_current_213 (fun H locs hP hS => ?_)
                                refine lv_aload_n hx hb dX7_current_214 rfl (lv_at hl 3 rfl) ?_
                                refine va_get (D := D) (ci := 7) (v := .ref (ad 17)) (C := RX7) (T := TX7) (N := 31) hx hb hts iX7_current_X7 hown hK hP 0 rfl rfl 19 (by decide) f_60 (fun _ h9 => h9) rfl dX7_current_215 ?_
                                refine lv_iload hx hb dX7_current_218 (lv_at hl 1 rfl) ?_
                                refine lv_iload hx hb dX7_current_220 (lv_at hl 2 rfl) ?_
                                refine lv_if_ne (tgt := 229) hx hb dX7_current_222 (by decide) (fun _ => ?_) (fun c_222_584 => absurd c_222_584 (by decide))
                                refine lv_iload hx hb dX7_current_229 (lv_at hl 2 rfl) ?_
                                refine lv_iconst (v := nI 1) hx hb dX7_current_231 (by decide) ?_
                                refine lv_icmp_eq (tgt := 242) hx hb dX7_current_232 (by decide) (fun c_232_585 => absurd c_232_585 (by decide)) (fun _ => ?_)
                                refine lv_iload hx hb dX7_current_235 (lv_at hl 2 rfl) ?_
                                refine lv_bipush (v := nI 7) hx hb dX7_current_237 (by decide) ?_
                                refine lv_icmp_ne (tgt := 247) hx hb dX7_current_239 (by decide) (fun c_239_586 => absurd c_239_586 (by decide)) (fun _ => ?_)
                                refine lv_dload hx hb dX7_current_242 (lv_at hl 0 rfl) ?_
                                refine lv_goto (tgt := 280) hx hb dX7_current_244 (by decide) ?_
                                refine xds hx hb hK hD hP hS 17 0 (((nN, px, py, pz, fx, fy, fz, lf, ld, fi), (nB, fr, tt, ln, wi, sg, pu), ((nR + 1), (vf_upd (shf rd nR (nR - a)) a d), (vf_upd (shf rx nR (nR - a)) a (FP.dmul (sp_) (4604544271217802189))), (shf ry nR (nR - a)), wv, fo), (re, dg), (nP, tp, bt, dp)), (nQ, fu)) rfl rfl (j := a) (by decide) (by omega) rfl dX7_current_280 (fun H locs hP hS => ?_)
                                refine lv_aload_n hx hb dX7_current_281 rfl (lv_at hl 3 rfl) ?_
                                refine va_get (D := D) (ci := 7) (v := .ref (ad 18)) (C := RX7) (T := TX7) (N := 31) hx hb hts iX7_current_X7 hown hK hP 0 rfl rfl 20 (by decide) f_63 (fun _ h9 => h9) rfl dX7_current_282 ?_
                                refine lv_iload hx hb dX7_current_285 (lv_at hl 1 rfl) ?_
                                refine lv_iload hx hb dX7_current_287 (lv_at hl 2 rfl) ?_
                                refine lv_iconst (v := nI 2) hx hb dX7_current_289 (by decide) ?_
                                refine lv_icmp_ne (tgt := 297) hx hb dX7_current_290 (by decide) (fun _ => ?_) (fun c_290_587 => absurd c_290_587 (by decide))
                                refine lv_iload hx hb dX7_current_297 (lv_at hl 2 rfl) ?_
                                refine lv_iconst (v := nI 1) hx hb dX7_current_299 (by decide) ?_
                                refine lv_icmp_eq (tgt := 309) hx hb dX7_current_300 (by decide) (fun c_300_588 => absurd c_300_588 (by decide)) (fun _ => ?_)
                                refine lv_iload hx hb dX7_current_303 (lv_at hl 2 rfl) ?_
                                refine lv_iconst (v := nI 3) hx hb dX7_current_305 (by decide) ?_
                                refine lv_icmp_ne (tgt := 314) hx hb dX7_current_306 (by decide) (fun _ => ?_) (fun c_306_589 => absurd c_306_589 (by decide))
                                refine lv_iload hx hb dX7_current_314 (lv_at hl 2 rfl) ?_
                                refine lv_if_eq (tgt := 325) hx hb dX7_current_316 (by decide) (fun c_316_590 => absurd c_316_590 (by decide)) (fun _ => ?_)
                                refine lv_iload hx hb dX7_current_319 (lv_at hl 2 rfl) ?_
                                refine lv_iconst (v := nI 4) hx hb dX7_current_321 (by decide) ?_
                                refine lv_icmp_ne (tgt := 329) hx hb dX7_current_322 (by decide) (fun _ => ?_) (fun c_322_591 => absurd c_322_591 (by decide))
                                refine lv_iload hx hb dX7_current_329 (lv_at hl 2 rfl) ?_
                                refine lv_bipush (v := nI 6) hx hb dX7_current_331 (by decide) ?_
                                refine lv_icmp_ne (tgt := 342) hx hb dX7_current_333 (by decide) (fun _ => ?_) (fun c_333_592 => absurd c_333_592 (by decide))
                                refine lv_dconst0 hx hb dX7_current_342 ?_
                                refine lv_dload hx hb dX7_current_343 (lv_at hl 0 rfl) ?_
                                have h_594 : fB (1030) (FP.dsub (FP.dconst0) (FP.dmul (sp_) (4604544271217802189))) := fB_sub (M := 1028) fB_c0 h_583 (by omega) (by omega) (by omega)
                                refine lv_dsub hx hb dX7_current_345 (fB_ne h_594 (by omega)) ?_
                                refine xds hx hb hK hD hP hS 18 0 (((nN, px, py, pz, fx, fy, fz, lf, ld, fi), (nB, fr, tt, ln, wi, sg, pu), ((nR + 1), (vf_upd (shf rd nR (nR - a)) a d), (vf_upd (shf rx nR (nR - a)) a (FP.dmul (sp_) (4604544271217802189))), (vf_upd (shf ry nR (nR - a)) a (FP.dsub (FP.dconst0) (FP.dmul (sp_) (4604544271217802189)))), wv, fo), (re, dg), (nP, tp, bt, dp)), (nQ, fu)) rfl rfl (j := a) (by decide) (by omega) rfl dX7_current_346 (fun H locs hP hS => ?_)
                                refine lv_iconst (v := nI 1) hx hb dX7_current_347 (by decide) ?_
                                exact hret hS hP dX7_current_348 (Or.inr rfl) (⟨Or.inl ⟨7, a, he, b_3, b_5, hdir, hA, Or.inr (Or.inl ⟨fun q => absurd q.2 c_107_403, by omega, rfl, rfl⟩)⟩, rfl⟩)
                            · skip
                              have c_132_500 : ¬ (nR - t ≤ a) := fun q => c_132_500 ((nI_leI (a := nR - t) (b := a) (by omega) (by omega)).mpr q)
                              refine lv_aload_n hx hb dX7_current_135 rfl (lv_at hl 3 rfl) ?_
                              refine va_get (D := D) (ci := 7) (v := .ref (ad 16)) (C := RX7) (T := TX7) (N := 31) hx hb hts iX7_current_X7 hown hK hP 0 rfl rfl 18 (by decide) f_57 (fun _ h9 => h9) rfl dX7_current_136 ?_
                              refine lv_iload hx hb dX7_current_139 (lv_at hl 0 rfl) ?_
                              refine lv_aload_n hx hb dX7_current_141 rfl (lv_at hl 3 rfl) ?_
                              refine va_get (D := D) (ci := 7) (v := .ref (ad 16)) (C := RX7) (T := TX7) (N := 31) hx hb hts iX7_current_X7 hown hK hP 0 rfl rfl 18 (by decide) f_57 (fun _ h9 => h9) rfl dX7_current_142 ?_
                              refine lv_iload hx hb dX7_current_145 (lv_at hl 0 rfl) ?_
                              refine lv_iconst (v := nI 1) hx hb dX7_current_147 (by decide) ?_
                              refine xib hx hb (nR - t - 1) dX7_current_148 (by omega) ?_
                              refine xdl hx hb hK hP 16 0 rfl rfl (j := nR - t - 1) (by decide) (by omega) dX7_current_149 ?_
                              refine xds hx hb hK hD hP hS 16 0 (((nN, px, py, pz, fx, fy, fz, lf, ld, fi), (nB, fr, tt, ln, wi, sg, pu), (nR, (vf_upd (shf rd nR t) (nR - t) ((shf rd nR t) (nR - t - 1))), (shf rx nR t), (shf ry nR t), wv, fo), (re, dg), (nP, tp, bt, dp)), (nQ, fu)) rfl rfl (j := nR - t) (by decide) (by omega) rfl dX7_current_150 (fun H locs hP hS => ?_)
                              refine lv_aload_n hx hb dX7_current_151 rfl (lv_at hl 3 rfl) ?_
                              refine va_get (D := D) (ci := 7) (v := .ref (ad 17)) (C := RX7) (T := TX7) (N := 31) hx hb hts iX7_current_X7 hown hK hP 0 rfl rfl 19 (by decide) f_60 (fun _ h9 => h9) rfl dX7_current_152 ?_
                              refine lv_iload hx hb dX7_current_155 (lv_at hl 0 rfl) ?_
                              refine lv_aload_n hx hb dX7_current_157 rfl (lv_at hl 3 rfl) ?_
                              refine va_get (D := D) (ci := 7) (v := .ref (ad 17)) (C := RX7) (T := TX7) (N := 31) hx hb hts iX7_current_X7 hown hK hP 0 rfl rfl 19 (by decide) f_60 (fun _ h9 => h9) rfl dX7_current_158 ?_
                              refine lv_iload hx hb dX7_current_161 (lv_at hl 0 rfl) ?_
                              refine lv_iconst (v := nI 1) hx hb dX7_current_163 (by decide) ?_
                              refine xib hx hb (nR - t - 1) dX7_current_164 (by omega) ?_
                              refine xdl hx hb hK hP 17 0 rfl rfl (j := nR - t - 1) (by decide) (by omega) dX7_current_165 ?_
                              refine xds hx hb hK hD hP hS 17 0 (((nN, px, py, pz, fx, fy, fz, lf, ld, fi), (nB, fr, tt, ln, wi, sg, pu), (nR, (vf_upd (shf rd nR t) (nR - t) ((shf rd nR t) (nR - t - 1))), (vf_upd (shf rx nR t) (nR - t) ((shf rx nR t) (nR - t - 1))), (shf ry nR t), wv, fo), (re, dg), (nP, tp, bt, dp)), (nQ, fu)) rfl rfl (j := nR - t) (by decide) (by omega) rfl dX7_current_166 (fun H locs hP hS => ?_)
                              refine lv_aload_n hx hb dX7_current_167 rfl (lv_at hl 3 rfl) ?_
                              refine va_get (D := D) (ci := 7) (v := .ref (ad 18)) (C := RX7) (T := TX7) (N := 31) hx hb hts iX7_current_X7 hown hK hP 0 rfl rfl 20 (by decide) f_63 (fun _ h9 => h9) rfl dX7_current_168 ?_
                              refine lv_iload hx hb dX7_current_171 (lv_at hl 0 rfl) ?_
                              refine lv_aload_n hx hb dX7_current_173 rfl (lv_at hl 3 rfl) ?_
                              refine va_get (D := D) (ci := 7) (v := .ref (ad 18)) (C := RX7) (T := TX7) (N := 31) hx hb hts iX7_current_X7 hown hK hP 0 rfl rfl 20 (by decide) f_63 (fun _ h9 => h9) rfl dX7_current_174 ?_
                              refine lv_iload hx hb dX7_current_177 (lv_at hl 0 rfl) ?_
                              refine lv_iconst (v := nI 1) hx hb dX7_current_179 (by decide) ?_
                              refine xib hx hb (nR - t - 1) dX7_current_180 (by omega) ?_
                              refine xdl hx hb hK hP 18 0 rfl rfl (j := nR - t - 1) (by decide) (by omega) dX7_current_181 ?_
                              refine xds hx hb hK hD hP hS 18 0 (((nN, px, py, pz, fx, fy, fz, lf, ld, fi), (nB, fr, tt, ln, wi, sg, pu), (nR, (vf_upd (shf rd nR t) (nR - t) ((shf rd nR t) (nR - t - 1))), (vf_upd (shf rx nR t) (nR - t) ((shf rx nR t) (nR - t - 1))), (vf_upd (shf ry nR t) (nR - t) ((shf ry nR t) (nR - t - 1))), wv, fo), (re, dg), (nP, tp, bt, dp)), (nQ, fu)) rfl rfl (j := nR - t) (by decide) (by omega) rfl dX7_current_182 (fun H locs hP hS => ?_)
                              refine lv_iinc (v := nI (nR - (t + 1))) (lv' := [(9, .int (nI (nR - (t + 1)))), (8, .int (nI a)), (7, .int (nI ei)), (0, .ref (ad 0)), (1, .double (d)), (3, .double (sp_)), (5, .double (e8 nd))]) hx hb dX7_current_183 hl (k := 0) rfl (pm1 (by omega)) (by decide) rfl (fun ls hl => ?_)
                              refine lv_goto (tgt := 128) hx hb dX7_current_186 (by decide) ?_
                              exact ih_128 (t + 1)  (by omega) (by omega) _ _ hP hS ls (lv_sub hl [0, 1, 2, 3, 4, 5, 6] rfl)
                        exact L_128_499 (nR + 1) (0)  (by omega) (by omega) _ _ hP hS ls (lv_sub hl [0, 1, 2, 3, 4, 5, 6] rfl)
                      · skip
                        have c_117_498 : nR = 10 := (nI_eq (a := nR) (b := 10) (by omega) (by omega)).mp c_117_498
                        refine lv_iconst (v := nI 0) hx hb dX7_current_120 (by decide) ?_
                        exact hret hS hP dX7_current_121 (Or.inl rfl) (⟨Or.inl ⟨ei, a, he, b_3, b_5, hdir, hA, Or.inr (Or.inr ⟨fun q => absurd q.2 c_107_403, by omega, rfl, rfl⟩)⟩, rfl⟩)
                · skip
                  refine lv_iinc (v := nI (a + 1)) (lv' := [(8, .int (nI (a + 1))), (7, .int (nI ei)), (0, .ref (ad 0)), (1, .double (d)), (3, .double (sp_)), (5, .double (e8 nd))]) hx hb dX7_current_84 hl (k := 0) rfl (nI_add _ _) (by decide) rfl (fun ls hl => ?_)
                  refine lv_goto (tgt := 63) hx hb dX7_current_87 (by decide) ?_
                  exact ih_63 (a + 1)  (by omega) (by omega) (fun k hk => by by_cases q : k = a; (rw [q]; exact c_80_304); exact hlt k (by omega)) _ _ hP hS ls (lv_sub hl [0, 1, 2, 3, 4, 5] rfl)
          exact L_63_12 (nR + 1) (0)  (by omega) (by omega) (fun k hk => absurd hk (by omega)) _ _ hP hS ls (lv_sub hl [0, 1, 2, 3, 4, 5] rfl)
        · skip
          refine lv_iconst (v := nI 0) hx hb dX7_current_58 (by decide) ?_
          exact hret hS hP dX7_current_59 (Or.inl rfl) (⟨Or.inr ⟨fun ⟨_, _, e, he, q⟩ => c_54_11 (dir_no he q), rfl, rfl⟩, rfl⟩)
      · skip
        have b_7 : ¬ (inR (e8 nd) (FP.dconst0) (4644249154795601920)) := b_7
        refine lv_if_eq (tgt := 58) hx hb dX7_current_42 (by decide) (fun _ => ?_) (fun c_42_595 => absurd c_42_595 (by decide))
        refine lv_iconst (v := nI 0) hx hb dX7_current_58 (by decide) ?_
        exact hret hS hP dX7_current_59 (Or.inl rfl) (⟨Or.inr ⟨fun ⟨_, _, e, he, q⟩ => b_7 (dir_in he q), rfl, rfl⟩, rfl⟩)
    · skip
      have b_5 : ¬ (inR (sp_) (FP.dconst0) (4621819117588971520)) := b_5
      refine lv_if_eq (tgt := 58) hx hb dX7_current_30 (by decide) (fun _ => ?_) (fun c_30_596 => absurd c_30_596 (by decide))
      refine lv_iconst (v := nI 0) hx hb dX7_current_58 (by decide) ?_
      exact hret hS hP dX7_current_59 (Or.inl rfl) (⟨Or.inr ⟨fun q => absurd q.2.1 b_5, rfl, rfl⟩, rfl⟩)
  · skip
    have b_3 : ¬ (inR (d) (13875379345695965184) (4652007308841189376)) := b_3
    refine lv_if_eq (tgt := 58) hx hb dX7_current_19 (by decide) (fun _ => ?_) (fun c_19_597 => absurd c_19_597 (by decide))
    refine lv_iconst (v := nI 0) hx hb dX7_current_58 (by decide) ?_
    exact hret hS hP dX7_current_59 (Or.inl rfl) (⟨Or.inr ⟨fun q => absurd q.1 b_3, rfl, rfl⟩, rfl⟩)
