/-! over, open, mirrored, best -/
def ovc (pu sg : DF) : Nat → Nat
  | 0 => 0
  | i + 1 => if dgt (pu i) (sg i) then ovc pu sg i + 1 else ovc pu sg i
theorem ovc_p {pu sg : DF} {i : Nat} (h : dgt (pu i) (sg i)) : ovc pu sg (i + 1) = ovc pu sg i + 1 := if_pos h
theorem ovc_n {pu sg : DF} {i : Nat} (h : ¬ dgt (pu i) (sg i)) : ovc pu sg (i + 1) = ovc pu sg i := if_neg h
/-- no NaN, not too large for what comes of it, and not -0 -/
def pOK (x : UInt64) : Prop := fB 1039 x ∧ x ≠ 9223372036854775808
theorem pOK_nn {x : UInt64} (h : pOK x) : nn x := fB_nn h.1 (by decide)
def posOK (n : Nat) (px py pz : DF) : Prop := ∀ j, j < n → pOK (px j) ∧ pOK (py j) ∧ pOK (pz j)
def mnF (f : DF) : Nat → UInt64
  | 0 => f 0
  | k + 1 => if dlt (f (k + 1)) (mnF f k) then f (k + 1) else mnF f k
def mxF (f : DF) : Nat → UInt64
  | 0 => f 0
  | k + 1 => if dgt (f (k + 1)) (mxF f k) then f (k + 1) else mxF f k
theorem mn_p {f : DF} {k : Nat} (h : dlt (f (k + 1)) (mnF f k)) : mnF f (k + 1) = f (k + 1) := if_pos h
theorem mn_n {f : DF} {k : Nat} (h : ¬ dlt (f (k + 1)) (mnF f k)) : mnF f (k + 1) = mnF f k := if_neg h
theorem mx_p {f : DF} {k : Nat} (h : dgt (f (k + 1)) (mxF f k)) : mxF f (k + 1) = f (k + 1) := if_pos h
theorem mx_n {f : DF} {k : Nat} (h : ¬ dgt (f (k + 1)) (mxF f k)) : mxF f (k + 1) = mxF f k := if_neg h
theorem mn_ok {f : DF} {n : Nat} (h : ∀ j, j < n → pOK (f j)) : ∀ k, k < n → pOK (mnF f k)
  | 0, hk => h 0 hk
  | k + 1, hk => by
    by_cases c : dlt (f (k + 1)) (mnF f k)
    · rw [mn_p c]; exact h _ hk
    · rw [mn_n c]; exact mn_ok h k (by omega)
theorem mx_ok {f : DF} {n : Nat} (h : ∀ j, j < n → pOK (f j)) : ∀ k, k < n → pOK (mxF f k)
  | 0, hk => h 0 hk
  | k + 1, hk => by
    by_cases c : dgt (f (k + 1)) (mxF f k)
    · rw [mx_p c]; exact h _ hk
    · rw [mx_n c]; exact mx_ok h k (by omega)
theorem minF_eq {a b : UInt64} (na : nn a) (nb : nn b) : minF a b = if dlt b a then b else a := by
  have sw := FP.Core.dcmp_swap a b
  unfold minF
  rcases dcmp_3 na nb with q | q | q
  · have q2 : FP.dcmp b a = some .gt := by rw [show FP.dcmp b a = FP.Core.dcmp b a from rfl, sw, show FP.Core.dcmp a b = some .lt from q]; rfl
    simp [dle, dlt, q, q2]
  · have q2 : FP.dcmp b a = some .eq := by rw [show FP.dcmp b a = FP.Core.dcmp b a from rfl, sw, show FP.Core.dcmp a b = some .eq from q]; rfl
    simp [dle, dlt, q, q2]
  · have q2 : FP.dcmp b a = some .lt := by rw [show FP.dcmp b a = FP.Core.dcmp b a from rfl, sw, show FP.Core.dcmp a b = some .gt from q]; rfl
    simp [dle, dlt, q, q2]
theorem maxF_eq {a b : UInt64} (na : nn a) (nb : nn b) : maxF a b = if dgt b a then b else a := by
  have sw := FP.Core.dcmp_swap a b
  unfold maxF
  rcases dcmp_3 na nb with q | q | q
  · have q2 : FP.dcmp b a = some .gt := by rw [show FP.dcmp b a = FP.Core.dcmp b a from rfl, sw, show FP.Core.dcmp a b = some .lt from q]; rfl
    simp [dge, dgt, q, q2]
  · have q2 : FP.dcmp b a = some .eq := by rw [show FP.dcmp b a = FP.Core.dcmp b a from rfl, sw, show FP.Core.dcmp a b = some .eq from q]; rfl
    simp [dge, dgt, q, q2]
  · have q2 : FP.dcmp b a = some .lt := by rw [show FP.dcmp b a = FP.Core.dcmp b a from rfl, sw, show FP.Core.dcmp a b = some .gt from q]; rfl
    simp [dge, dgt, q, q2]
theorem mn_min {f : DF} {n k : Nat} (h : ∀ j, j < n → pOK (f j)) (hk : k + 1 < n) : minF (mnF f k) (f (k + 1)) = mnF f (k + 1) := minF_eq (pOK_nn (mn_ok h k (by omega))) (pOK_nn (h _ hk))
theorem mx_max {f : DF} {n k : Nat} (h : ∀ j, j < n → pOK (f j)) (hk : k + 1 < n) : maxF (mxF f k) (f (k + 1)) = mxF f (k + 1) := maxF_eq (pOK_nn (mx_ok h k (by omega))) (pOK_nn (h _ hk))
def spF (f : DF) (n : Nat) : UInt64 := FP.dsub (mxF f (n - 1)) (mnF f (n - 1))
theorem sp_n {f : DF} {n k : Nat} (h : ∀ j, j < n → pOK (f j)) (hk : k < n) : fB 1041 (FP.dsub (mxF f k) (mnF f k)) := fB_sub (M := 1039) (mx_ok h k hk).1 (mn_ok h k hk).1 (by omega) (by omega) (by omega)
def mir1 (px py pz : DF) (i j : Nat) : Prop := deq (px j) (FP.dsub FP.dconst0 (px i)) ∧ deq (py j) (py i) ∧ deq (pz j) (pz i)
def hasM (n : Nat) (px py pz : DF) (i : Nat) : Prop := ∃ j, j < n ∧ mir1 px py pz i j
def inM (b : Int32) (P : Prop) : Prop := (b = nI 1 ∧ P) ∨ (b = nI 0 ∧ ¬ P)
theorem inM_01 {b : Int32} {P : Prop} (h : inM b P) : b = nI 0 ∨ b = nI 1 := h.elim (fun q => Or.inr q.1) (fun q => Or.inl q.1)
theorem inM_y {b : Int32} {P : Prop} (h : inM b P) (hb : ¬ b = 0) : P := h.elim (fun q => q.2) (fun q => absurd q.1 hb)
theorem inM_n {b : Int32} {P : Prop} (h : inM b P) (hb : b = 0) : ¬ P := h.elim (fun q => by rw [q.1] at hb; exact absurd hb (by decide)) (fun q => q.2)
theorem ex_keep {P : Nat → Prop} {j : Nat} (h : ∃ k, k < j ∧ P k) : inM (nI 1) (∃ k, k < j + 1 ∧ P k) := by
  obtain ⟨k, hk, q⟩ := h
  exact Or.inl ⟨rfl, k, by omega, q⟩
theorem ex_yes {P : Nat → Prop} {j : Nat} (h : P j) : inM (nI 1) (∃ k, k < j + 1 ∧ P k) := Or.inl ⟨rfl, j, by omega, h⟩
theorem ex_no {P : Nat → Prop} {j : Nat} (h : ¬ ∃ k, k < j ∧ P k) (c : ¬ P j) : inM (nI 0) (∃ k, k < j + 1 ∧ P k) := Or.inr ⟨rfl, fun ⟨k, hk, q⟩ => by
  by_cases e : k = j
  · rw [e] at q; exact c q
  · exact h ⟨k, by omega, q⟩⟩
theorem al_yes {P : Nat → Prop} {j : Nat} (h : ∀ k, k < j → P k) (c : P j) : inM (nI 1) (∀ k, k < j + 1 → P k) := Or.inl ⟨rfl, fun k hk => by
  by_cases e : k = j
  · rw [e]; exact c
  · exact h k (by omega)⟩
theorem al_no1 {P : Nat → Prop} {j : Nat} (h : ¬ ∀ k, k < j → P k) : inM (nI 0) (∀ k, k < j + 1 → P k) := Or.inr ⟨rfl, fun q => h (fun k hk => q k (by omega))⟩
theorem al_no2 {P : Nat → Prop} {j : Nat} (c : ¬ P j) : inM (nI 0) (∀ k, k < j + 1 → P k) := Or.inr ⟨rfl, fun q => c (q j (by omega))⟩
/-- of the n latest, the b-th of them g b: the least, of the same the later one -/
def bestF (g : DF) : Nat → Nat
  | 0 => 0
  | k + 1 => if dlt (g (k + 1)) (g (bestF g k)) then k + 1 else bestF g k
theorem be_p {g : DF} {k : Nat} (h : dlt (g (k + 1)) (g (bestF g k))) : bestF g (k + 1) = k + 1 := if_pos h
theorem be_n {g : DF} {k : Nat} (h : ¬ dlt (g (k + 1)) (g (bestF g k))) : bestF g (k + 1) = bestF g k := if_neg h
theorem be_le (g : DF) : ∀ k, bestF g k ≤ k
  | 0 => Nat.le_refl 0
  | k + 1 => by
    by_cases c : dlt (g (k + 1)) (g (bestF g k))
    · rw [be_p c]; exact Nat.le_refl _
    · rw [be_n c]; have := be_le g k; omega
def ringF (kp : DF) (kn : Nat) : DF := fun b => kp ((kn + 19 - b) % 20)
theorem ov_back {pu sg : DF} {i : Nat} {k : Int32} (h : ∀ j, j < i → dgt (pu j) (sg j) → ¬ nI (ovc pu sg j) = k) (c : dgt (pu i) (sg i) → ¬ nI (ovc pu sg i) = k) : ∀ j, j < i + 1 → dgt (pu j) (sg j) → ¬ nI (ovc pu sg j) = k := fun j hj q => by
  by_cases e : j = i
  · rw [e] at q ⊢; exact c q
  · exact h j (by omega) q
theorem ovc_le (pu sg : DF) : ∀ k, ovc pu sg k ≤ k
  | 0 => Nat.le_refl 0
  | k + 1 => by
    by_cases c : dgt (pu k) (sg k)
    · rw [ovc_p c]; have := ovc_le pu sg k; omega
    · rw [ovc_n c]; have := ovc_le pu sg k; omega
theorem ovc_lt {pu sg : DF} {n j : Nat} (hn : n ≤ 60) (hj : j < n) : ovc pu sg j < 2 ^ 31 := by
  have := ovc_le pu sg j
  omega
theorem at_0 {nN nB nR nP : Nat} {px py pz fx fy fz lf ld ln wi sg pu rd rx ry dg : DF} {fi fr tt tp bt dp : IF} {wv fo re : UInt64} {k : Nat} {r : UInt64} (hN : nN ≤ 30) (hk : k < nN) (h : q_at ((nN, px, py, pz, fx, fy, fz, lf, ld, fi), (nB, fr, tt, ln, wi, sg, pu), (nR, rd, rx, ry, wv, fo), (re, dg), (nP, tp, bt, dp)) (nI k) (nI 0) r) : r = px k := by
  rcases h with ⟨j, hj, e, h⟩ | ⟨h, -⟩
  · have e := (nI_eq (by omega) (by omega)).mp e
    subst e
    rcases h with ⟨q, e⟩ | ⟨q, e⟩ | ⟨q, e⟩
    · exact e
    · exact absurd q (by decide)
    · exact absurd q (by decide)
  · exact absurd ⟨⟨k, hk, rfl⟩, ⟨0, by decide, rfl⟩⟩ h
theorem at_1 {nN nB nR nP : Nat} {px py pz fx fy fz lf ld ln wi sg pu rd rx ry dg : DF} {fi fr tt tp bt dp : IF} {wv fo re : UInt64} {k : Nat} {r : UInt64} (hN : nN ≤ 30) (hk : k < nN) (h : q_at ((nN, px, py, pz, fx, fy, fz, lf, ld, fi), (nB, fr, tt, ln, wi, sg, pu), (nR, rd, rx, ry, wv, fo), (re, dg), (nP, tp, bt, dp)) (nI k) (nI 1) r) : r = py k := by
  rcases h with ⟨j, hj, e, h⟩ | ⟨h, -⟩
  · have e := (nI_eq (by omega) (by omega)).mp e
    subst e
    rcases h with ⟨q, e⟩ | ⟨q, e⟩ | ⟨q, e⟩
    · exact absurd q (by decide)
    · exact e
    · exact absurd q (by decide)
  · exact absurd ⟨⟨k, hk, rfl⟩, ⟨1, by decide, rfl⟩⟩ h
theorem at_2 {nN nB nR nP : Nat} {px py pz fx fy fz lf ld ln wi sg pu rd rx ry dg : DF} {fi fr tt tp bt dp : IF} {wv fo re : UInt64} {k : Nat} {r : UInt64} (hN : nN ≤ 30) (hk : k < nN) (h : q_at ((nN, px, py, pz, fx, fy, fz, lf, ld, fi), (nB, fr, tt, ln, wi, sg, pu), (nR, rd, rx, ry, wv, fo), (re, dg), (nP, tp, bt, dp)) (nI k) (nI 2) r) : r = pz k := by
  rcases h with ⟨j, hj, e, h⟩ | ⟨h, -⟩
  · have e := (nI_eq (by omega) (by omega)).mp e
    subst e
    rcases h with ⟨q, e⟩ | ⟨q, e⟩ | ⟨q, e⟩
    · exact absurd q (by decide)
    · exact absurd q (by decide)
    · exact e
  · exact absurd ⟨⟨k, hk, rfl⟩, ⟨2, by decide, rfl⟩⟩ h
def q_over (G : GS) (k : Int32) (r : Int32) : Prop := match G with
  | ((nN, px, py, pz, fx, fy, fz, lf, ld, fi), (nB, fr, tt, ln, wi, sg, pu), (nR, rd, rx, ry, wv, fo), (re, dg), (nP, tp, bt, dp)) => (∃ i, i < nB ∧ dgt (pu i) (sg i) ∧ nI (ovc pu sg i) = k ∧ r = nI i) ∨ ((∀ i, i < nB → dgt (pu i) (sg i) → ¬ nI (ovc pu sg i) = k) ∧ r = (-1 : Int32))
def q_open (G : GS) (k : Int32) (r : UInt64) : Prop := match G with
  | ((nN, px, py, pz, fx, fy, fz, lf, ld, fi), (nB, fr, tt, ln, wi, sg, pu), (nR, rd, rx, ry, wv, fo), (re, dg), (nP, tp, bt, dp)) => (¬ nN = 0 ∧ ((k = nI 0 ∧ r = spF px nN) ∨ (k = nI 1 ∧ r = spF py nN) ∨ (k = nI 2 ∧ r = spF pz nN))) ∨ (¬ (¬ nN = 0 ∧ inN 3 k) ∧ r = 13830554455654793216)
def q_mir (G : GS)  (r : Int32) : Prop := match G with
  | ((nN, px, py, pz, fx, fy, fz, lf, ld, fi), (nB, fr, tt, ln, wi, sg, pu), (nR, rd, rx, ry, wv, fo), (re, dg), (nP, tp, bt, dp)) => inM r (∀ i, i < nN → hasM nN px py pz i)
theorem iX1_overloaded_X1 : ∀ w ∈ u_ws RX1 TX1 7, w ∈ wsX1_overloaded := by decide +kernel
set_option maxHeartbeats 4000000 in
set_option maxRecDepth 100000 in
theorem kX1_overloaded (l : Launch) (D : va_G) (cs : Nat → ClassId) (ad : Nat → Nat) (hd : distX ad) (sz : Nat) (S : XS) (hnB : S.1.2.1.1 ≤ 60) (k : Int32) : Met l yX1_overloaded wsX1_overloaded ({ frames := 0, cells := 0, slots := 0, locals := 0 } : Room) (gP D (WX cs ad) (EX D cs) S sz ([.ref (ad 2), .int (k)] : List Value)) (va_Qi (fun r u => q_over S.1 k r ∧ u = S) (gB D (WX cs ad)) (gA (AX ad) sz)) 0 0 (gA (AX ad) sz) := by
  obtain ⟨⟨⟨nN, px, py, pz, fx, fy, fz, lf, ld, fi⟩, ⟨nB, fr, tt, ln, wi, sg, pu⟩, ⟨nR, rd, rx, ry, wv, fo⟩, ⟨re, dg⟩, ⟨nP, tp, bt, dp⟩⟩, ⟨sp, ac, kp, kc, kn, aw, dw, su, ss, sd⟩⟩ := S
  have hnB : nB ≤ 60 := hnB
  refine gMi (cc := cX1_overloaded) (maxL := 4) (plainFor_of_name (by decide)) rfl (Nat.le_of_ble_eq_true rfl) ?_
  intro p e s m below meth c Q hx hb hts hown hml hsz hE hret H locs hP hS ls hl
  subst hsz
  have hown : s.vm.findClass RX1 = some m.cls := hown
  have hK : va_K D vwCl (tysX cs) s := hE.1
  have hD : ∀ u, va_D (gA (AX ad) s.heap.size) (WX cs ad u) := fun u => WX_D hd u
  have hl : lv_has ls 4 [(0, .ref (ad 2)), (1, .int (k))] := hl
  have f_25 := hts (.fieldLink RX1 25 "NetShapes$Bars" "strength" "[D") (by decide +kernel)
  have f_28 := hts (.fieldLink RX1 28 "NetShapes$Bars" "pulls" "[D") (by decide +kernel)
  have f_31 := hts (.fieldLink RX1 31 "NetShapes$Bars" "count" "I") (by decide +kernel)
  refine lv_iconst (v := nI 0) hx hb dX1_overloaded_0 (by decide) ?_
  refine lv_istore_n (lv' := [(2, .int (nI 0)), (0, .ref (ad 2)), (1, .int (k))]) hx hb dX1_overloaded_1 rfl hl (by decide) rfl (fun ls hl => ?_)
  refine lv_iconst (v := nI 0) hx hb dX1_overloaded_2 (by decide) ?_
  refine lv_istore_n (lv' := [(3, .int (nI 0)), (2, .int (nI 0)), (0, .ref (ad 2)), (1, .int (k))]) hx hb dX1_overloaded_3 rfl hl (by decide) rfl (fun ls hl => ?_)
  have L_4_1 : ∀ (n_4 i : Nat) (n : Nat), (nB + 1 ≤ i + n_4) → (i ≤ nB) → (n = ovc pu sg i) → (∀ j, j < i → dgt (pu j) (sg j) → ¬ nI (ovc pu sg j) = k) → ∀ (H : Heap) (locs : List Loc), va_P D vwCl (WX cs ad (((nN, px, py, pz, fx, fy, fz, lf, ld, fi), (nB, fr, tt, ln, wi, sg, pu), (nR, rd, rx, ry, wv, fo), (re, dg), (nP, tp, bt, dp)), (sp, ac, kp, kc, kn, aw, dw, su, ss, sd))) H → va_S (gA (AX ad) s.heap.size) s.heap H locs → ∀ (ls : Array Slot), lv_has ls 4 [(3, .int (nI i)), (2, .int (nI n)), (0, .ref (ad 2)), (1, .int (k))] → W p l e ({ frames := 0, cells := 0, slots := 0, locals := 0 } : Room) s m ([.ref (ad 2), .int (k)] : List Value).toArray below meth c H locs 0 0 Q (F0 m 4 ls []) := by
    intro n_4; induction n_4 with
    | zero => intro i n hf_4 hi hn ho H locs hP hS ls hl; exact absurd hf_4 (by omega)
    | succ n_4 ih_4 =>
      intro i n hf_4 hi hn ho H locs hP hS ls hl
      refine lv_iload_n hx hb dX1_overloaded_4 rfl (lv_at hl 0 rfl) ?_
      refine lv_aload_n hx hb dX1_overloaded_5 rfl (lv_at hl 2 rfl) ?_
      refine va_get (D := D) (ci := 1) (v := .int (nI nB)) (C := RX1) (T := TX1) (N := 7) hx hb hts iX1_overloaded_X1 hown hK hP 2 rfl rfl 6 (by decide) f_31 (fun _ h9 => h9) rfl dX1_overloaded_6 ?_
      refine lv_icmp_ge (tgt := 44) hx hb dX1_overloaded_9 (by decide) (fun c_9_2 => ?_) (fun c_9_2 => ?_)
      · skip
        have c_9_2 : nB ≤ i := (nI_leI (a := nB) (b := i) (by omega) (by omega)).mp c_9_2
        refine lv_iconst (v := (-1 : Int32)) hx hb dX1_overloaded_44 (by decide) ?_
        exact hret hS hP dX1_overloaded_45 (⟨Or.inr ⟨fun j hj => ho j (by omega), rfl⟩, rfl⟩)
      · skip
        have c_9_2 : ¬ (nB ≤ i) := fun q => c_9_2 ((nI_leI (a := nB) (b := i) (by omega) (by omega)).mpr q)
        refine lv_aload_n hx hb dX1_overloaded_12 rfl (lv_at hl 2 rfl) ?_
        refine va_get (D := D) (ci := 1) (v := .ref (ad 17)) (C := RX1) (T := TX1) (N := 7) hx hb hts iX1_overloaded_X1 hown hK hP 2 rfl rfl 5 (by decide) f_28 (fun _ h9 => h9) rfl dX1_overloaded_13 ?_
        refine lv_iload_n hx hb dX1_overloaded_16 rfl (lv_at hl 0 rfl) ?_
        refine xdl hx hb hK hP 17 0 rfl rfl (j := i) (by decide) (by omega) dX1_overloaded_17 ?_
        refine lv_aload_n hx hb dX1_overloaded_18 rfl (lv_at hl 2 rfl) ?_
        refine va_get (D := D) (ci := 1) (v := .ref (ad 16)) (C := RX1) (T := TX1) (N := 7) hx hb hts iX1_overloaded_X1 hown hK hP 2 rfl rfl 4 (by decide) f_25 (fun _ h9 => h9) rfl dX1_overloaded_19 ?_
        refine lv_iload_n hx hb dX1_overloaded_22 rfl (lv_at hl 0 rfl) ?_
        refine xdl hx hb hK hP 16 0 rfl rfl (j := i) (by decide) (by omega) dX1_overloaded_23 ?_
        refine xc_lgt (tgt := 38) hx hb dX1_overloaded_24 dX1_overloaded_25 (by decide) (fun c_24_3 => ?_) (fun c_24_3 => ?_)
        · skip
          refine lv_iinc (v := nI (i + 1)) (lv' := [(3, .int (nI (i + 1))), (2, .int (nI n)), (0, .ref (ad 2)), (1, .int (k))]) hx hb dX1_overloaded_38 hl (k := 0) rfl (nI_add _ _) (by decide) rfl (fun ls hl => ?_)
          refine lv_goto (tgt := 4) hx hb dX1_overloaded_41 (by decide) ?_
          exact ih_4 (i + 1) (n) (by omega) (by omega) (by rw [ovc_n c_24_3, ← hn]) (ov_back ho (fun q => absurd q c_24_3)) _ _ hP hS ls (lv_sub hl [0, 1, 2, 3] rfl)
        · skip
          refine lv_iload_n hx hb dX1_overloaded_28 rfl (lv_at hl 1 rfl) ?_
          refine lv_iload_n hx hb dX1_overloaded_29 rfl (lv_at hl 3 rfl) ?_
          refine lv_icmp_ne (tgt := 35) hx hb dX1_overloaded_30 (by decide) (fun c_30_4 => ?_) (fun c_30_4 => ?_)
          · skip
            refine lv_iinc (v := nI (n + 1)) (lv' := [(2, .int (nI (n + 1))), (3, .int (nI i)), (0, .ref (ad 2)), (1, .int (k))]) hx hb dX1_overloaded_35 hl (k := 1) rfl (nI_add _ _) (by decide) rfl (fun ls hl => ?_)
            refine lv_iinc (v := nI (i + 1)) (lv' := [(3, .int (nI (i + 1))), (2, .int (nI (n + 1))), (0, .ref (ad 2)), (1, .int (k))]) hx hb dX1_overloaded_38 hl (k := 1) rfl (nI_add _ _) (by decide) rfl (fun ls hl => ?_)
            refine lv_goto (tgt := 4) hx hb dX1_overloaded_41 (by decide) ?_
            exact ih_4 (i + 1) (n + 1) (by omega) (by omega) (by rw [ovc_p c_24_3, ← hn]) (ov_back ho (fun _ => by rw [← hn]; exact c_30_4)) _ _ hP hS ls (lv_sub hl [0, 1, 2, 3] rfl)
          · skip
            refine lv_iload_n hx hb dX1_overloaded_33 rfl (lv_at hl 0 rfl) ?_
            exact hret hS hP dX1_overloaded_34 (⟨Or.inl ⟨i, by omega, c_24_3, by rw [← hn]; exact c_30_4, rfl⟩, rfl⟩)
  exact L_4_1 (nB + 1) (0) (0) (by omega) (by omega) rfl (fun j hj => absurd hj (by omega)) _ _ hP hS ls (lv_sub hl [0, 1, 2, 3] rfl)
theorem iX7_over_X7 : ∀ w ∈ u_ws RX7 TX7 31, w ∈ wsX7_over := by decide +kernel
set_option maxHeartbeats 4000000 in
set_option maxRecDepth 100000 in
theorem kX7_over (l : Launch) (D : va_G) (cs : Nat → ClassId) (ad : Nat → Nat) (hd : distM ad) (sz : Nat) (S : MS) (hnB : S.1.2.1.1 ≤ 60) (k : Int32) : Met l yX7_over wsX7_over ({ frames := 0, cells := 0, slots := 0, locals := 0 } : Room) (gP D (WM cs ad) (EM D cs) S sz ([.ref (ad 0), .int (k)] : List Value)) (va_Qi (fun r u => q_over S.1 k r ∧ u = S) (gB D (WM cs ad)) (gA (AM ad) sz)) 0 0 (gA (AM ad) sz) := by
  obtain ⟨⟨⟨nN, px, py, pz, fx, fy, fz, lf, ld, fi⟩, ⟨nB, fr, tt, ln, wi, sg, pu⟩, ⟨nR, rd, rx, ry, wv, fo⟩, ⟨re, dg⟩, ⟨nP, tp, bt, dp⟩⟩, ⟨nQ, fu⟩⟩ := S
  have hnB : nB ≤ 60 := hnB
  refine gMi (cc := cX7_over) (maxL := 4) (plainFor_of_name (by decide)) rfl (Nat.le_of_ble_eq_true rfl) ?_
  intro p e s m below meth c Q hx hb hts hown hml hsz hE hret H locs hP hS ls hl
  subst hsz
  have hown : s.vm.findClass RX7 = some m.cls := hown
  have hK : va_K D vwCl (tysX cs) s := hE.1
  have hD : ∀ u, va_D (gA (AM ad) s.heap.size) (WM cs ad u) := fun u => WM_D hd u
  have hl : lv_has ls 4 [(0, .ref (ad 0)), (1, .int (k))] := hl
  have f_51 := hts (.fieldLink RX7 51 "NetShapesModel" "strong" "[D") (by decide +kernel)
  have f_54 := hts (.fieldLink RX7 54 "NetShapesModel" "pulls" "[D") (by decide +kernel)
  have f_105 := hts (.fieldLink RX7 105 "NetShapesModel" "bars" "I") (by decide +kernel)
  refine lv_iconst (v := nI 0) hx hb dX7_over_0 (by decide) ?_
  refine lv_istore_n (lv' := [(2, .int (nI 0)), (0, .ref (ad 0)), (1, .int (k))]) hx hb dX7_over_1 rfl hl (by decide) rfl (fun ls hl => ?_)
  refine lv_iconst (v := nI 0) hx hb dX7_over_2 (by decide) ?_
  refine lv_istore_n (lv' := [(3, .int (nI 0)), (2, .int (nI 0)), (0, .ref (ad 0)), (1, .int (k))]) hx hb dX7_over_3 rfl hl (by decide) rfl (fun ls hl => ?_)
  have L_4_1 : ∀ (n_4 i : Nat) (n : Nat), (nB + 1 ≤ i + n_4) → (i ≤ nB) → (n = ovc pu sg i) → (∀ j, j < i → dgt (pu j) (sg j) → ¬ nI (ovc pu sg j) = k) → ∀ (H : Heap) (locs : List Loc), va_P D vwCl (WM cs ad (((nN, px, py, pz, fx, fy, fz, lf, ld, fi), (nB, fr, tt, ln, wi, sg, pu), (nR, rd, rx, ry, wv, fo), (re, dg), (nP, tp, bt, dp)), (nQ, fu))) H → va_S (gA (AM ad) s.heap.size) s.heap H locs → ∀ (ls : Array Slot), lv_has ls 4 [(3, .int (nI i)), (2, .int (nI n)), (0, .ref (ad 0)), (1, .int (k))] → W p l e ({ frames := 0, cells := 0, slots := 0, locals := 0 } : Room) s m ([.ref (ad 0), .int (k)] : List Value).toArray below meth c H locs 0 0 Q (F0 m 4 ls []) := by
    intro n_4; induction n_4 with
    | zero => intro i n hf_4 hi hn ho H locs hP hS ls hl; exact absurd hf_4 (by omega)
    | succ n_4 ih_4 =>
      intro i n hf_4 hi hn ho H locs hP hS ls hl
      refine lv_iload_n hx hb dX7_over_4 rfl (lv_at hl 0 rfl) ?_
      refine lv_aload_n hx hb dX7_over_5 rfl (lv_at hl 2 rfl) ?_
      refine va_get (D := D) (ci := 7) (v := .int (nI nB)) (C := RX7) (T := TX7) (N := 31) hx hb hts iX7_over_X7 hown hK hP 0 rfl rfl 10 (by decide) f_105 (fun _ h9 => h9) rfl dX7_over_6 ?_
      refine lv_icmp_ge (tgt := 44) hx hb dX7_over_9 (by decide) (fun c_9_2 => ?_) (fun c_9_2 => ?_)
      · skip
        have c_9_2 : nB ≤ i := (nI_leI (a := nB) (b := i) (by omega) (by omega)).mp c_9_2
        refine lv_iconst (v := (-1 : Int32)) hx hb dX7_over_44 (by decide) ?_
        exact hret hS hP dX7_over_45 (⟨Or.inr ⟨fun j hj => ho j (by omega), rfl⟩, rfl⟩)
      · skip
        have c_9_2 : ¬ (nB ≤ i) := fun q => c_9_2 ((nI_leI (a := nB) (b := i) (by omega) (by omega)).mpr q)
        refine lv_aload_n hx hb dX7_over_12 rfl (lv_at hl 2 rfl) ?_
        refine va_get (D := D) (ci := 7) (v := .ref (ad 15)) (C := RX7) (T := TX7) (N := 31) hx hb hts iX7_over_X7 hown hK hP 0 rfl rfl 16 (by decide) f_54 (fun _ h9 => h9) rfl dX7_over_13 ?_
        refine lv_iload_n hx hb dX7_over_16 rfl (lv_at hl 0 rfl) ?_
        refine xdl hx hb hK hP 15 0 rfl rfl (j := i) (by decide) (by omega) dX7_over_17 ?_
        refine lv_aload_n hx hb dX7_over_18 rfl (lv_at hl 2 rfl) ?_
        refine va_get (D := D) (ci := 7) (v := .ref (ad 14)) (C := RX7) (T := TX7) (N := 31) hx hb hts iX7_over_X7 hown hK hP 0 rfl rfl 15 (by decide) f_51 (fun _ h9 => h9) rfl dX7_over_19 ?_
        refine lv_iload_n hx hb dX7_over_22 rfl (lv_at hl 0 rfl) ?_
        refine xdl hx hb hK hP 14 0 rfl rfl (j := i) (by decide) (by omega) dX7_over_23 ?_
        refine xc_lgt (tgt := 38) hx hb dX7_over_24 dX7_over_25 (by decide) (fun c_24_3 => ?_) (fun c_24_3 => ?_)
        · skip
          refine lv_iinc (v := nI (i + 1)) (lv' := [(3, .int (nI (i + 1))), (2, .int (nI n)), (0, .ref (ad 0)), (1, .int (k))]) hx hb dX7_over_38 hl (k := 0) rfl (nI_add _ _) (by decide) rfl (fun ls hl => ?_)
          refine lv_goto (tgt := 4) hx hb dX7_over_41 (by decide) ?_
          exact ih_4 (i + 1) (n) (by omega) (by omega) (by rw [ovc_n c_24_3, ← hn]) (ov_back ho (fun q => absurd q c_24_3)) _ _ hP hS ls (lv_sub hl [0, 1, 2, 3] rfl)
        · skip
          refine lv_iload_n hx hb dX7_over_28 rfl (lv_at hl 1 rfl) ?_
          refine lv_iload_n hx hb dX7_over_29 rfl (lv_at hl 3 rfl) ?_
          refine lv_icmp_ne (tgt := 35) hx hb dX7_over_30 (by decide) (fun c_30_4 => ?_) (fun c_30_4 => ?_)
          · skip
            refine lv_iinc (v := nI (n + 1)) (lv' := [(2, .int (nI (n + 1))), (3, .int (nI i)), (0, .ref (ad 0)), (1, .int (k))]) hx hb dX7_over_35 hl (k := 1) rfl (nI_add _ _) (by decide) rfl (fun ls hl => ?_)
            refine lv_iinc (v := nI (i + 1)) (lv' := [(3, .int (nI (i + 1))), (2, .int (nI (n + 1))), (0, .ref (ad 0)), (1, .int (k))]) hx hb dX7_over_38 hl (k := 1) rfl (nI_add _ _) (by decide) rfl (fun ls hl => ?_)
            refine lv_goto (tgt := 4) hx hb dX7_over_41 (by decide) ?_
            exact ih_4 (i + 1) (n + 1) (by omega) (by omega) (by rw [ovc_p c_24_3, ← hn]) (ov_back ho (fun _ => by rw [← hn]; exact c_30_4)) _ _ hP hS ls (lv_sub hl [0, 1, 2, 3] rfl)
          · skip
            refine lv_iload_n hx hb dX7_over_33 rfl (lv_at hl 0 rfl) ?_
            exact hret hS hP dX7_over_34 (⟨Or.inl ⟨i, by omega, c_24_3, by rw [← hn]; exact c_30_4, rfl⟩, rfl⟩)
  exact L_4_1 (nB + 1) (0) (0) (by omega) (by omega) rfl (fun j hj => absurd hj (by omega)) _ _ hP hS ls (lv_sub hl [0, 1, 2, 3] rfl)
theorem iX6_over_X6 : ∀ w ∈ u_ws RX6 TX6 6, w ∈ wsX6_over := by decide +kernel
set_option maxHeartbeats 4000000 in
set_option maxRecDepth 100000 in
theorem kX6_over (l : Launch) (D : va_G) (cs : Nat → ClassId) (ad : Nat → Nat) (hd : distX ad) (sz : Nat) (S : XS) (hnB : S.1.2.1.1 ≤ 60) (k : Int32) : Met l yX6_over wsX6_over ({ frames := 1, cells := 0, slots := 0, locals := 23 } : Room) (gP D (WX cs ad) (EX D cs) S sz ([.ref (ad 0), .int (k)] : List Value)) (va_Qi (fun r u => q_over S.1 k r ∧ u = S) (gB D (WX cs ad)) (gA (AX ad) sz)) 0 0 (gA (AX ad) sz) := by
  obtain ⟨⟨⟨nN, px, py, pz, fx, fy, fz, lf, ld, fi⟩, ⟨nB, fr, tt, ln, wi, sg, pu⟩, ⟨nR, rd, rx, ry, wv, fo⟩, ⟨re, dg⟩, ⟨nP, tp, bt, dp⟩⟩, ⟨sp, ac, kp, kc, kn, aw, dw, su, ss, sd⟩⟩ := S
  have hnB : nB ≤ 60 := hnB
  refine gMi (cc := cX6_over) (maxL := 2) (plainFor_of_name (by decide)) rfl (Nat.le_of_ble_eq_true rfl) ?_
  intro p e s m below meth c Q hx hb hts hown hml hsz hE hret H locs hP hS ls hl
  subst hsz
  have hown : s.vm.findClass RX6 = some m.cls := hown
  have hK : va_K D vwCl (tysX cs) s := hE.1
  have hD : ∀ u, va_D (gA (AX ad) s.heap.size) (WX cs ad u) := fun u => WX_D hd u
  have hl : lv_has ls 2 [(0, .ref (ad 0)), (1, .int (k))] := hl
  have f_19 := hts (.fieldLink RX6 19 "NetShapes" "bars" "LNetShapes$Bars;") (by decide +kernel)
  refine lv_iload_n hx hb dX6_over_0 rfl (lv_at hl 1 rfl) ?_
  refine lv_if_ge (tgt := 8) hx hb dX6_over_1 (by decide) (fun c_1_1 => ?_) (fun c_1_1 => ?_)
  · skip
    refine lv_aload_n hx hb dX6_over_8 rfl (lv_at hl 0 rfl) ?_
    refine va_get (D := D) (ci := 6) (v := .ref (ad 2)) (C := RX6) (T := TX6) (N := 6) hx hb hts iX6_over_X6 hown hK hP 0 rfl rfl 1 (by decide) f_19 (fun _ h9 => h9) rfl dX6_over_9 ?_
    refine lv_iload_n hx hb dX6_over_12 rfl (lv_at hl 1 rfl) ?_
    refine gci (va_runV (As := [.int (k)]) (rest := []) ⟨hx, hb, hml, hown, hts⟩ (kX1_overloaded l D cs ad hd H.size (((nN, px, py, pz, fx, fy, fz, lf, ld, fi), (nB, fr, tt, ln, wi, sg, pu), (nR, rd, rx, ry, wv, fo), (re, dg), (nP, tp, bt, dp)), (sp, ac, kp, kc, kn, aw, dw, su, ss, sd)) hnB k) (cwV 1 hts gX6_over_X1_overloaded rfl rfl rfl (by decide +kernel) ⟨Nat.le_of_ble_eq_true rfl, Nat.le_of_ble_eq_true rfl⟩) (gPreV (EX_bl) (va_recv hK hP (ci := 1) (q0 := 2) rfl rfl) hP (fun U _ hW => EX_warm hW hE)) rfl rfl hl.1 rfl (lv_room (Nat.le_of_ble_eq_true rfl)) dX6_over_13 ⟨Nat.zero_le _, Nat.zero_le _⟩) hS (fun v_2 u_ H locs hw hP hS => ?_)
    obtain ⟨hv_2, rfl⟩ := hw
    exact hret hS hP dX6_over_16 (⟨hv_2, rfl⟩)
  · skip
    refine lv_iconst (v := (-1 : Int32)) hx hb dX6_over_4 (by decide) ?_
    refine lv_goto (tgt := 16) hx hb dX6_over_5 (by decide) ?_
    exact hret hS hP dX6_over_16 (⟨Or.inr ⟨fun j hj _ q => absurd (q ▸ nI_pos' (n := ovc pu sg j) (ovc_lt hnB hj)) c_1_1, rfl⟩, rfl⟩)
theorem iX3_spread_X3 : ∀ w ∈ u_ws RX3 TX3 6, w ∈ wsX3_spread := by decide +kernel
set_option maxHeartbeats 4000000 in
set_option maxRecDepth 100000 in
theorem kX3_spread_0 (l : Launch) (D : va_G) (cs : Nat → ClassId) (ad : Nat → Nat) (hd : distX ad) (sz : Nat) (S : XS) (hnN : S.1.1.1 ≤ 30) (hn0 : ¬ S.1.1.1 = 0) (hpos : posOK (S.1.1.1) (S.1.1.2.1) (S.1.1.2.2.1) (S.1.1.2.2.2.1)) : Met l yX3_spread wsX3_spread ({ frames := 0, cells := 0, slots := 0, locals := 0 } : Room) (gP D (WX cs ad) (EX D cs) S sz ([.ref (ad 1), .int (nI 0)] : List Value)) (va_Qd (fun r u => u = S ∧ r = spF (S.1.1.2.1) (S.1.1.1)) (gB D (WX cs ad)) (gA (AX ad) sz)) 0 0 (gA (AX ad) sz) := by
  obtain ⟨⟨⟨nN, px, py, pz, fx, fy, fz, lf, ld, fi⟩, ⟨nB, fr, tt, ln, wi, sg, pu⟩, ⟨nR, rd, rx, ry, wv, fo⟩, ⟨re, dg⟩, ⟨nP, tp, bt, dp⟩⟩, ⟨sp, ac, kp, kc, kn, aw, dw, su, ss, sd⟩⟩ := S
  have hnN : nN ≤ 30 := hnN
  have hn0 : ¬ nN = 0 := hn0
  have hpos : ∀ j, j < nN → pOK (px j) ∧ pOK (py j) ∧ pOK (pz j) := hpos
  have hp0 : ∀ j, j < nN → pOK (px j) := fun j hj => (hpos j hj).1
  have hp1 : ∀ j, j < nN → pOK (py j) := fun j hj => (hpos j hj).2.1
  have hp2 : ∀ j, j < nN → pOK (pz j) := fun j hj => (hpos j hj).2.2
  refine gMd (cc := cX3_spread) (maxL := 8) (plainFor_of_name (by decide)) rfl (Nat.le_of_ble_eq_true rfl) ?_
  intro p e s m below meth c Q hx hb hts hown hml hsz hE hret H locs hP hS ls hl
  subst hsz
  have hown : s.vm.findClass RX3 = some m.cls := hown
  have hK : va_K D vwCl (tysX cs) s := hE.1
  have hD : ∀ u, va_D (gA (AX ad) s.heap.size) (WX cs ad u) := fun u => WX_D hd u
  have hl : lv_has ls 8 [(0, .ref (ad 1)), (1, .int (nI 0))] := hl
  have f_11 := hts (.fieldLink RX3 11 "NetShapes$Nodes" "places" "[[D") (by decide +kernel)
  have f_30 := hts (.fieldLink RX3 30 "NetShapes$Nodes" "count" "I") (by decide +kernel)
  refine lv_aload_n hx hb dX3_spread_0 rfl (lv_at hl 0 rfl) ?_
  refine va_get (D := D) (ci := 3) (v := .ref (ad 7)) (C := RX3) (T := TX3) (N := 6) hx hb hts iX3_spread_X3 hown hK hP 1 rfl rfl 0 (by decide) f_11 (fun _ h9 => h9) rfl dX3_spread_1 ?_
  refine lv_iload_n hx hb dX3_spread_4 rfl (lv_at hl 1 rfl) ?_
  refine xal hx hb hK hP 7 3 rfl rfl (j := 0) (v := ad 30) (by decide) (by decide) rfl dX3_spread_5 ?_
  refine lv_astore_n (lv' := [(2, .ref (ad 30)), (0, .ref (ad 1)), (1, .int (nI 0))]) hx hb dX3_spread_6 rfl hl (by decide) rfl (fun ls hl => ?_)
  refine lv_aload_n hx hb dX3_spread_7 rfl (lv_at hl 0 rfl) ?_
  refine lv_iconst (v := nI 0) hx hb dX3_spread_8 (by decide) ?_
  refine xdl hx hb hK hP 30 0 rfl rfl (j := 0) (by decide) (by decide) dX3_spread_9 ?_
  refine lv_dstore_n (lv' := [(3, .double (px 0)), (2, .ref (ad 30)), (0, .ref (ad 1)), (1, .int (nI 0))]) hx hb dX3_spread_10 rfl hl (by decide) rfl (fun ls hl => ?_)
  refine lv_aload_n hx hb dX3_spread_11 rfl (lv_at hl 1 rfl) ?_
  refine lv_iconst (v := nI 0) hx hb dX3_spread_12 (by decide) ?_
  refine xdl hx hb hK hP 30 0 rfl rfl (j := 0) (by decide) (by decide) dX3_spread_13 ?_
  refine lv_dstore (lv' := [(5, .double (px 0)), (3, .double (px 0)), (2, .ref (ad 30)), (0, .ref (ad 1)), (1, .int (nI 0))]) hx hb dX3_spread_14 hl (by decide) rfl (fun ls hl => ?_)
  refine lv_iconst (v := nI 1) hx hb dX3_spread_16 (by decide) ?_
  refine lv_istore (lv' := [(7, .int (nI 1)), (5, .double (px 0)), (3, .double (px 0)), (2, .ref (ad 30)), (0, .ref (ad 1)), (1, .int (nI 0))]) hx hb dX3_spread_17 hl (by decide) rfl (fun ls hl => ?_)
  have L_19_1 : ∀ (n_19 i : Nat) (m_ : UInt64) (M_ : UInt64), (nN + 1 ≤ i + n_19) → (i + 1 ≤ nN) → (m_ = mnF px i) → (M_ = mxF px i) → ∀ (H : Heap) (locs : List Loc), va_P D vwCl (WX cs ad (((nN, px, py, pz, fx, fy, fz, lf, ld, fi), (nB, fr, tt, ln, wi, sg, pu), (nR, rd, rx, ry, wv, fo), (re, dg), (nP, tp, bt, dp)), (sp, ac, kp, kc, kn, aw, dw, su, ss, sd))) H → va_S (gA (AX ad) s.heap.size) s.heap H locs → ∀ (ls : Array Slot), lv_has ls 8 [(7, .int (nI (i + 1))), (5, .double (M_)), (3, .double (m_)), (2, .ref (ad 30)), (0, .ref (ad 1)), (1, .int (nI 0))] → W p l e ({ frames := 0, cells := 0, slots := 0, locals := 0 } : Room) s m ([.ref (ad 1), .int (nI 0)] : List Value).toArray below meth c H locs 0 0 Q (F0 m 19 ls []) := by
    intro n_19; induction n_19 with
    | zero => intro i m_ M_ hf_19 hi hm hM H locs hP hS ls hl; exact absurd hf_19 (by omega)
    | succ n_19 ih_19 =>
      intro i m_ M_ hf_19 hi hm hM H locs hP hS ls hl
      refine lv_iload hx hb dX3_spread_19 (lv_at hl 0 rfl) ?_
      refine lv_aload_n hx hb dX3_spread_21 rfl (lv_at hl 4 rfl) ?_
      refine va_get (D := D) (ci := 3) (v := .int (nI nN)) (C := RX3) (T := TX3) (N := 6) hx hb hts iX3_spread_X3 hown hK hP 1 rfl rfl 5 (by decide) f_30 (fun _ h9 => h9) rfl dX3_spread_22 ?_
      refine lv_icmp_ge (tgt := 73) hx hb dX3_spread_25 (by decide) (fun c_25_2 => ?_) (fun c_25_2 => ?_)
      · skip
        have c_25_2 : nN ≤ i + 1 := (nI_leI (a := nN) (b := i + 1) (by omega) (by omega)).mp c_25_2
        refine lv_dload hx hb dX3_spread_73 (lv_at hl 1 rfl) ?_
        refine lv_dload_n hx hb dX3_spread_75 rfl (lv_at hl 2 rfl) ?_
        refine lv_dsub hx hb dX3_spread_76 (by rw [hm, hM]; exact fB_ne (sp_n hp0 (by omega)) (by decide)) ?_
        exact hret hS hP dX3_spread_77 (⟨rfl, by rw [hm, hM, show i = nN - 1 by omega]; rfl⟩)
      · skip
        have c_25_2 : ¬ (nN ≤ i + 1) := fun q => c_25_2 ((nI_leI (a := nN) (b := i + 1) (by omega) (by omega)).mpr q)
        refine lv_aload_n hx hb dX3_spread_28 rfl (lv_at hl 3 rfl) ?_
        refine lv_iload hx hb dX3_spread_29 (lv_at hl 0 rfl) ?_
        refine xdl hx hb hK hP 30 0 rfl rfl (j := i + 1) (by decide) (by omega) dX3_spread_31 ?_
        refine lv_dload_n hx hb dX3_spread_32 rfl (lv_at hl 2 rfl) ?_
        refine xc_glt (tgt := 44) hx hb dX3_spread_33 dX3_spread_34 (by decide) (fun c_33_5 => ?_) (fun c_33_5 => ?_)
        · skip
          refine lv_dload_n hx hb dX3_spread_44 rfl (lv_at hl 2 rfl) ?_
          refine lv_dstore_n (lv' := [(3, .double (m_)), (7, .int (nI (i + 1))), (5, .double (M_)), (2, .ref (ad 30)), (0, .ref (ad 1)), (1, .int (nI 0))]) hx hb dX3_spread_45 rfl hl (by decide) rfl (fun ls hl => ?_)
          refine lv_aload_n hx hb dX3_spread_46 rfl (lv_at hl 3 rfl) ?_
          refine lv_iload hx hb dX3_spread_47 (lv_at hl 1 rfl) ?_
          refine xdl hx hb hK hP 30 0 rfl rfl (j := i + 1) (by decide) (by omega) dX3_spread_49 ?_
          refine lv_dload hx hb dX3_spread_50 (lv_at hl 2 rfl) ?_
          refine xc_lgt (tgt := 63) hx hb dX3_spread_52 dX3_spread_53 (by decide) (fun c_52_6 => ?_) (fun c_52_6 => ?_)
          · skip
            refine lv_dload hx hb dX3_spread_63 (lv_at hl 2 rfl) ?_
            refine lv_dstore (lv' := [(5, .double (M_)), (3, .double (m_)), (7, .int (nI (i + 1))), (2, .ref (ad 30)), (0, .ref (ad 1)), (1, .int (nI 0))]) hx hb dX3_spread_65 hl (by decide) rfl (fun ls hl => ?_)
            refine lv_iinc (v := nI (i + 1 + 1)) (lv' := [(7, .int (nI (i + 1 + 1))), (5, .double (M_)), (3, .double (m_)), (2, .ref (ad 30)), (0, .ref (ad 1)), (1, .int (nI 0))]) hx hb dX3_spread_67 hl (k := 2) rfl (nI_add _ _) (by decide) rfl (fun ls hl => ?_)
            refine lv_goto (tgt := 19) hx hb dX3_spread_70 (by decide) ?_
            exact ih_19 (i + 1) (m_) (M_) (by omega) (by omega) (by rw [mn_n (by rw [← hm]; exact c_33_5), ← hm]) (by rw [mx_n (by rw [← hM]; exact c_52_6), ← hM]) _ _ hP hS ls (lv_sub hl [0, 1, 2, 3, 4, 5] rfl)
          · skip
            refine lv_aload_n hx hb dX3_spread_56 rfl (lv_at hl 3 rfl) ?_
            refine lv_iload hx hb dX3_spread_57 (lv_at hl 1 rfl) ?_
            refine xdl hx hb hK hP 30 0 rfl rfl (j := i + 1) (by decide) (by omega) dX3_spread_59 ?_
            refine lv_goto (tgt := 65) hx hb dX3_spread_60 (by decide) ?_
            refine lv_dstore (lv' := [(5, .double (px (i + 1))), (3, .double (m_)), (7, .int (nI (i + 1))), (2, .ref (ad 30)), (0, .ref (ad 1)), (1, .int (nI 0))]) hx hb dX3_spread_65 hl (by decide) rfl (fun ls hl => ?_)
            refine lv_iinc (v := nI (i + 1 + 1)) (lv' := [(7, .int (nI (i + 1 + 1))), (5, .double (px (i + 1))), (3, .double (m_)), (2, .ref (ad 30)), (0, .ref (ad 1)), (1, .int (nI 0))]) hx hb dX3_spread_67 hl (k := 2) rfl (nI_add _ _) (by decide) rfl (fun ls hl => ?_)
            refine lv_goto (tgt := 19) hx hb dX3_spread_70 (by decide) ?_
            exact ih_19 (i + 1) (m_) (px (i + 1)) (by omega) (by omega) (by rw [mn_n (by rw [← hm]; exact c_33_5), ← hm]) (by rw [mx_p (by rw [← hM]; exact c_52_6)]) _ _ hP hS ls (lv_sub hl [0, 1, 2, 3, 4, 5] rfl)
        · skip
          refine lv_aload_n hx hb dX3_spread_37 rfl (lv_at hl 3 rfl) ?_
          refine lv_iload hx hb dX3_spread_38 (lv_at hl 0 rfl) ?_
          refine xdl hx hb hK hP 30 0 rfl rfl (j := i + 1) (by decide) (by omega) dX3_spread_40 ?_
          refine lv_goto (tgt := 45) hx hb dX3_spread_41 (by decide) ?_
          refine lv_dstore_n (lv' := [(3, .double (px (i + 1))), (7, .int (nI (i + 1))), (5, .double (M_)), (2, .ref (ad 30)), (0, .ref (ad 1)), (1, .int (nI 0))]) hx hb dX3_spread_45 rfl hl (by decide) rfl (fun ls hl => ?_)
          refine lv_aload_n hx hb dX3_spread_46 rfl (lv_at hl 3 rfl) ?_
          refine lv_iload hx hb dX3_spread_47 (lv_at hl 1 rfl) ?_
          refine xdl hx hb hK hP 30 0 rfl rfl (j := i + 1) (by decide) (by omega) dX3_spread_49 ?_
          refine lv_dload hx hb dX3_spread_50 (lv_at hl 2 rfl) ?_
          refine xc_lgt (tgt := 63) hx hb dX3_spread_52 dX3_spread_53 (by decide) (fun c_52_7 => ?_) (fun c_52_7 => ?_)
          · skip
            refine lv_dload hx hb dX3_spread_63 (lv_at hl 2 rfl) ?_
            refine lv_dstore (lv' := [(5, .double (M_)), (3, .double (px (i + 1))), (7, .int (nI (i + 1))), (2, .ref (ad 30)), (0, .ref (ad 1)), (1, .int (nI 0))]) hx hb dX3_spread_65 hl (by decide) rfl (fun ls hl => ?_)
            refine lv_iinc (v := nI (i + 1 + 1)) (lv' := [(7, .int (nI (i + 1 + 1))), (5, .double (M_)), (3, .double (px (i + 1))), (2, .ref (ad 30)), (0, .ref (ad 1)), (1, .int (nI 0))]) hx hb dX3_spread_67 hl (k := 2) rfl (nI_add _ _) (by decide) rfl (fun ls hl => ?_)
            refine lv_goto (tgt := 19) hx hb dX3_spread_70 (by decide) ?_
            exact ih_19 (i + 1) (px (i + 1)) (M_) (by omega) (by omega) (by rw [mn_p (by rw [← hm]; exact c_33_5)]) (by rw [mx_n (by rw [← hM]; exact c_52_7), ← hM]) _ _ hP hS ls (lv_sub hl [0, 1, 2, 3, 4, 5] rfl)
          · skip
            refine lv_aload_n hx hb dX3_spread_56 rfl (lv_at hl 3 rfl) ?_
            refine lv_iload hx hb dX3_spread_57 (lv_at hl 1 rfl) ?_
            refine xdl hx hb hK hP 30 0 rfl rfl (j := i + 1) (by decide) (by omega) dX3_spread_59 ?_
            refine lv_goto (tgt := 65) hx hb dX3_spread_60 (by decide) ?_
            refine lv_dstore (lv' := [(5, .double (px (i + 1))), (3, .double (px (i + 1))), (7, .int (nI (i + 1))), (2, .ref (ad 30)), (0, .ref (ad 1)), (1, .int (nI 0))]) hx hb dX3_spread_65 hl (by decide) rfl (fun ls hl => ?_)
            refine lv_iinc (v := nI (i + 1 + 1)) (lv' := [(7, .int (nI (i + 1 + 1))), (5, .double (px (i + 1))), (3, .double (px (i + 1))), (2, .ref (ad 30)), (0, .ref (ad 1)), (1, .int (nI 0))]) hx hb dX3_spread_67 hl (k := 2) rfl (nI_add _ _) (by decide) rfl (fun ls hl => ?_)
            refine lv_goto (tgt := 19) hx hb dX3_spread_70 (by decide) ?_
            exact ih_19 (i + 1) (px (i + 1)) (px (i + 1)) (by omega) (by omega) (by rw [mn_p (by rw [← hm]; exact c_33_5)]) (by rw [mx_p (by rw [← hM]; exact c_52_7)]) _ _ hP hS ls (lv_sub hl [0, 1, 2, 3, 4, 5] rfl)
  exact L_19_1 (nN + 1) (0) (px 0) (px 0) (by omega) (by omega) rfl rfl _ _ hP hS ls (lv_sub hl [0, 1, 2, 3, 4, 5] rfl)
set_option maxHeartbeats 4000000 in
set_option maxRecDepth 100000 in
theorem kX3_spread_1 (l : Launch) (D : va_G) (cs : Nat → ClassId) (ad : Nat → Nat) (hd : distX ad) (sz : Nat) (S : XS) (hnN : S.1.1.1 ≤ 30) (hn0 : ¬ S.1.1.1 = 0) (hpos : posOK (S.1.1.1) (S.1.1.2.1) (S.1.1.2.2.1) (S.1.1.2.2.2.1)) : Met l yX3_spread wsX3_spread ({ frames := 0, cells := 0, slots := 0, locals := 0 } : Room) (gP D (WX cs ad) (EX D cs) S sz ([.ref (ad 1), .int (nI 1)] : List Value)) (va_Qd (fun r u => u = S ∧ r = spF (S.1.1.2.2.1) (S.1.1.1)) (gB D (WX cs ad)) (gA (AX ad) sz)) 0 0 (gA (AX ad) sz) := by
  obtain ⟨⟨⟨nN, px, py, pz, fx, fy, fz, lf, ld, fi⟩, ⟨nB, fr, tt, ln, wi, sg, pu⟩, ⟨nR, rd, rx, ry, wv, fo⟩, ⟨re, dg⟩, ⟨nP, tp, bt, dp⟩⟩, ⟨sp, ac, kp, kc, kn, aw, dw, su, ss, sd⟩⟩ := S
  have hnN : nN ≤ 30 := hnN
  have hn0 : ¬ nN = 0 := hn0
  have hpos : ∀ j, j < nN → pOK (px j) ∧ pOK (py j) ∧ pOK (pz j) := hpos
  have hp0 : ∀ j, j < nN → pOK (px j) := fun j hj => (hpos j hj).1
  have hp1 : ∀ j, j < nN → pOK (py j) := fun j hj => (hpos j hj).2.1
  have hp2 : ∀ j, j < nN → pOK (pz j) := fun j hj => (hpos j hj).2.2
  refine gMd (cc := cX3_spread) (maxL := 8) (plainFor_of_name (by decide)) rfl (Nat.le_of_ble_eq_true rfl) ?_
  intro p e s m below meth c Q hx hb hts hown hml hsz hE hret H locs hP hS ls hl
  subst hsz
  have hown : s.vm.findClass RX3 = some m.cls := hown
  have hK : va_K D vwCl (tysX cs) s := hE.1
  have hD : ∀ u, va_D (gA (AX ad) s.heap.size) (WX cs ad u) := fun u => WX_D hd u
  have hl : lv_has ls 8 [(0, .ref (ad 1)), (1, .int (nI 1))] := hl
  have f_11 := hts (.fieldLink RX3 11 "NetShapes$Nodes" "places" "[[D") (by decide +kernel)
  have f_30 := hts (.fieldLink RX3 30 "NetShapes$Nodes" "count" "I") (by decide +kernel)
  refine lv_aload_n hx hb dX3_spread_0 rfl (lv_at hl 0 rfl) ?_
  refine va_get (D := D) (ci := 3) (v := .ref (ad 7)) (C := RX3) (T := TX3) (N := 6) hx hb hts iX3_spread_X3 hown hK hP 1 rfl rfl 0 (by decide) f_11 (fun _ h9 => h9) rfl dX3_spread_1 ?_
  refine lv_iload_n hx hb dX3_spread_4 rfl (lv_at hl 1 rfl) ?_
  refine xal hx hb hK hP 7 3 rfl rfl (j := 1) (v := ad 31) (by decide) (by decide) rfl dX3_spread_5 ?_
  refine lv_astore_n (lv' := [(2, .ref (ad 31)), (0, .ref (ad 1)), (1, .int (nI 1))]) hx hb dX3_spread_6 rfl hl (by decide) rfl (fun ls hl => ?_)
  refine lv_aload_n hx hb dX3_spread_7 rfl (lv_at hl 0 rfl) ?_
  refine lv_iconst (v := nI 0) hx hb dX3_spread_8 (by decide) ?_
  refine xdl hx hb hK hP 31 0 rfl rfl (j := 0) (by decide) (by decide) dX3_spread_9 ?_
  refine lv_dstore_n (lv' := [(3, .double (py 0)), (2, .ref (ad 31)), (0, .ref (ad 1)), (1, .int (nI 1))]) hx hb dX3_spread_10 rfl hl (by decide) rfl (fun ls hl => ?_)
  refine lv_aload_n hx hb dX3_spread_11 rfl (lv_at hl 1 rfl) ?_
  refine lv_iconst (v := nI 0) hx hb dX3_spread_12 (by decide) ?_
  refine xdl hx hb hK hP 31 0 rfl rfl (j := 0) (by decide) (by decide) dX3_spread_13 ?_
  refine lv_dstore (lv' := [(5, .double (py 0)), (3, .double (py 0)), (2, .ref (ad 31)), (0, .ref (ad 1)), (1, .int (nI 1))]) hx hb dX3_spread_14 hl (by decide) rfl (fun ls hl => ?_)
  refine lv_iconst (v := nI 1) hx hb dX3_spread_16 (by decide) ?_
  refine lv_istore (lv' := [(7, .int (nI 1)), (5, .double (py 0)), (3, .double (py 0)), (2, .ref (ad 31)), (0, .ref (ad 1)), (1, .int (nI 1))]) hx hb dX3_spread_17 hl (by decide) rfl (fun ls hl => ?_)
  have L_19_1 : ∀ (n_19 i : Nat) (m_ : UInt64) (M_ : UInt64), (nN + 1 ≤ i + n_19) → (i + 1 ≤ nN) → (m_ = mnF py i) → (M_ = mxF py i) → ∀ (H : Heap) (locs : List Loc), va_P D vwCl (WX cs ad (((nN, px, py, pz, fx, fy, fz, lf, ld, fi), (nB, fr, tt, ln, wi, sg, pu), (nR, rd, rx, ry, wv, fo), (re, dg), (nP, tp, bt, dp)), (sp, ac, kp, kc, kn, aw, dw, su, ss, sd))) H → va_S (gA (AX ad) s.heap.size) s.heap H locs → ∀ (ls : Array Slot), lv_has ls 8 [(7, .int (nI (i + 1))), (5, .double (M_)), (3, .double (m_)), (2, .ref (ad 31)), (0, .ref (ad 1)), (1, .int (nI 1))] → W p l e ({ frames := 0, cells := 0, slots := 0, locals := 0 } : Room) s m ([.ref (ad 1), .int (nI 1)] : List Value).toArray below meth c H locs 0 0 Q (F0 m 19 ls []) := by
    intro n_19; induction n_19 with
    | zero => intro i m_ M_ hf_19 hi hm hM H locs hP hS ls hl; exact absurd hf_19 (by omega)
    | succ n_19 ih_19 =>
      intro i m_ M_ hf_19 hi hm hM H locs hP hS ls hl
      refine lv_iload hx hb dX3_spread_19 (lv_at hl 0 rfl) ?_
      refine lv_aload_n hx hb dX3_spread_21 rfl (lv_at hl 4 rfl) ?_
      refine va_get (D := D) (ci := 3) (v := .int (nI nN)) (C := RX3) (T := TX3) (N := 6) hx hb hts iX3_spread_X3 hown hK hP 1 rfl rfl 5 (by decide) f_30 (fun _ h9 => h9) rfl dX3_spread_22 ?_
      refine lv_icmp_ge (tgt := 73) hx hb dX3_spread_25 (by decide) (fun c_25_2 => ?_) (fun c_25_2 => ?_)
      · skip
        have c_25_2 : nN ≤ i + 1 := (nI_leI (a := nN) (b := i + 1) (by omega) (by omega)).mp c_25_2
        refine lv_dload hx hb dX3_spread_73 (lv_at hl 1 rfl) ?_
        refine lv_dload_n hx hb dX3_spread_75 rfl (lv_at hl 2 rfl) ?_
        refine lv_dsub hx hb dX3_spread_76 (by rw [hm, hM]; exact fB_ne (sp_n hp1 (by omega)) (by decide)) ?_
        exact hret hS hP dX3_spread_77 (⟨rfl, by rw [hm, hM, show i = nN - 1 by omega]; rfl⟩)
      · skip
        have c_25_2 : ¬ (nN ≤ i + 1) := fun q => c_25_2 ((nI_leI (a := nN) (b := i + 1) (by omega) (by omega)).mpr q)
        refine lv_aload_n hx hb dX3_spread_28 rfl (lv_at hl 3 rfl) ?_
        refine lv_iload hx hb dX3_spread_29 (lv_at hl 0 rfl) ?_
        refine xdl hx hb hK hP 31 0 rfl rfl (j := i + 1) (by decide) (by omega) dX3_spread_31 ?_
        refine lv_dload_n hx hb dX3_spread_32 rfl (lv_at hl 2 rfl) ?_
        refine xc_glt (tgt := 44) hx hb dX3_spread_33 dX3_spread_34 (by decide) (fun c_33_5 => ?_) (fun c_33_5 => ?_)
        · skip
          refine lv_dload_n hx hb dX3_spread_44 rfl (lv_at hl 2 rfl) ?_
          refine lv_dstore_n (lv' := [(3, .double (m_)), (7, .int (nI (i + 1))), (5, .double (M_)), (2, .ref (ad 31)), (0, .ref (ad 1)), (1, .int (nI 1))]) hx hb dX3_spread_45 rfl hl (by decide) rfl (fun ls hl => ?_)
          refine lv_aload_n hx hb dX3_spread_46 rfl (lv_at hl 3 rfl) ?_
          refine lv_iload hx hb dX3_spread_47 (lv_at hl 1 rfl) ?_
          refine xdl hx hb hK hP 31 0 rfl rfl (j := i + 1) (by decide) (by omega) dX3_spread_49 ?_
          refine lv_dload hx hb dX3_spread_50 (lv_at hl 2 rfl) ?_
          refine xc_lgt (tgt := 63) hx hb dX3_spread_52 dX3_spread_53 (by decide) (fun c_52_6 => ?_) (fun c_52_6 => ?_)
          · skip
            refine lv_dload hx hb dX3_spread_63 (lv_at hl 2 rfl) ?_
            refine lv_dstore (lv' := [(5, .double (M_)), (3, .double (m_)), (7, .int (nI (i + 1))), (2, .ref (ad 31)), (0, .ref (ad 1)), (1, .int (nI 1))]) hx hb dX3_spread_65 hl (by decide) rfl (fun ls hl => ?_)
            refine lv_iinc (v := nI (i + 1 + 1)) (lv' := [(7, .int (nI (i + 1 + 1))), (5, .double (M_)), (3, .double (m_)), (2, .ref (ad 31)), (0, .ref (ad 1)), (1, .int (nI 1))]) hx hb dX3_spread_67 hl (k := 2) rfl (nI_add _ _) (by decide) rfl (fun ls hl => ?_)
            refine lv_goto (tgt := 19) hx hb dX3_spread_70 (by decide) ?_
            exact ih_19 (i + 1) (m_) (M_) (by omega) (by omega) (by rw [mn_n (by rw [← hm]; exact c_33_5), ← hm]) (by rw [mx_n (by rw [← hM]; exact c_52_6), ← hM]) _ _ hP hS ls (lv_sub hl [0, 1, 2, 3, 4, 5] rfl)
          · skip
            refine lv_aload_n hx hb dX3_spread_56 rfl (lv_at hl 3 rfl) ?_
            refine lv_iload hx hb dX3_spread_57 (lv_at hl 1 rfl) ?_
            refine xdl hx hb hK hP 31 0 rfl rfl (j := i + 1) (by decide) (by omega) dX3_spread_59 ?_
            refine lv_goto (tgt := 65) hx hb dX3_spread_60 (by decide) ?_
            refine lv_dstore (lv' := [(5, .double (py (i + 1))), (3, .double (m_)), (7, .int (nI (i + 1))), (2, .ref (ad 31)), (0, .ref (ad 1)), (1, .int (nI 1))]) hx hb dX3_spread_65 hl (by decide) rfl (fun ls hl => ?_)
            refine lv_iinc (v := nI (i + 1 + 1)) (lv' := [(7, .int (nI (i + 1 + 1))), (5, .double (py (i + 1))), (3, .double (m_)), (2, .ref (ad 31)), (0, .ref (ad 1)), (1, .int (nI 1))]) hx hb dX3_spread_67 hl (k := 2) rfl (nI_add _ _) (by decide) rfl (fun ls hl => ?_)
            refine lv_goto (tgt := 19) hx hb dX3_spread_70 (by decide) ?_
            exact ih_19 (i + 1) (m_) (py (i + 1)) (by omega) (by omega) (by rw [mn_n (by rw [← hm]; exact c_33_5), ← hm]) (by rw [mx_p (by rw [← hM]; exact c_52_6)]) _ _ hP hS ls (lv_sub hl [0, 1, 2, 3, 4, 5] rfl)
        · skip
          refine lv_aload_n hx hb dX3_spread_37 rfl (lv_at hl 3 rfl) ?_
          refine lv_iload hx hb dX3_spread_38 (lv_at hl 0 rfl) ?_
          refine xdl hx hb hK hP 31 0 rfl rfl (j := i + 1) (by decide) (by omega) dX3_spread_40 ?_
          refine lv_goto (tgt := 45) hx hb dX3_spread_41 (by decide) ?_
          refine lv_dstore_n (lv' := [(3, .double (py (i + 1))), (7, .int (nI (i + 1))), (5, .double (M_)), (2, .ref (ad 31)), (0, .ref (ad 1)), (1, .int (nI 1))]) hx hb dX3_spread_45 rfl hl (by decide) rfl (fun ls hl => ?_)
          refine lv_aload_n hx hb dX3_spread_46 rfl (lv_at hl 3 rfl) ?_
          refine lv_iload hx hb dX3_spread_47 (lv_at hl 1 rfl) ?_
          refine xdl hx hb hK hP 31 0 rfl rfl (j := i + 1) (by decide) (by omega) dX3_spread_49 ?_
          refine lv_dload hx hb dX3_spread_50 (lv_at hl 2 rfl) ?_
          refine xc_lgt (tgt := 63) hx hb dX3_spread_52 dX3_spread_53 (by decide) (fun c_52_7 => ?_) (fun c_52_7 => ?_)
          · skip
            refine lv_dload hx hb dX3_spread_63 (lv_at hl 2 rfl) ?_
            refine lv_dstore (lv' := [(5, .double (M_)), (3, .double (py (i + 1))), (7, .int (nI (i + 1))), (2, .ref (ad 31)), (0, .ref (ad 1)), (1, .int (nI 1))]) hx hb dX3_spread_65 hl (by decide) rfl (fun ls hl => ?_)
            refine lv_iinc (v := nI (i + 1 + 1)) (lv' := [(7, .int (nI (i + 1 + 1))), (5, .double (M_)), (3, .double (py (i + 1))), (2, .ref (ad 31)), (0, .ref (ad 1)), (1, .int (nI 1))]) hx hb dX3_spread_67 hl (k := 2) rfl (nI_add _ _) (by decide) rfl (fun ls hl => ?_)
            refine lv_goto (tgt := 19) hx hb dX3_spread_70 (by decide) ?_
            exact ih_19 (i + 1) (py (i + 1)) (M_) (by omega) (by omega) (by rw [mn_p (by rw [← hm]; exact c_33_5)]) (by rw [mx_n (by rw [← hM]; exact c_52_7), ← hM]) _ _ hP hS ls (lv_sub hl [0, 1, 2, 3, 4, 5] rfl)
          · skip
            refine lv_aload_n hx hb dX3_spread_56 rfl (lv_at hl 3 rfl) ?_
            refine lv_iload hx hb dX3_spread_57 (lv_at hl 1 rfl) ?_
            refine xdl hx hb hK hP 31 0 rfl rfl (j := i + 1) (by decide) (by omega) dX3_spread_59 ?_
            refine lv_goto (tgt := 65) hx hb dX3_spread_60 (by decide) ?_
            refine lv_dstore (lv' := [(5, .double (py (i + 1))), (3, .double (py (i + 1))), (7, .int (nI (i + 1))), (2, .ref (ad 31)), (0, .ref (ad 1)), (1, .int (nI 1))]) hx hb dX3_spread_65 hl (by decide) rfl (fun ls hl => ?_)
            refine lv_iinc (v := nI (i + 1 + 1)) (lv' := [(7, .int (nI (i + 1 + 1))), (5, .double (py (i + 1))), (3, .double (py (i + 1))), (2, .ref (ad 31)), (0, .ref (ad 1)), (1, .int (nI 1))]) hx hb dX3_spread_67 hl (k := 2) rfl (nI_add _ _) (by decide) rfl (fun ls hl => ?_)
            refine lv_goto (tgt := 19) hx hb dX3_spread_70 (by decide) ?_
            exact ih_19 (i + 1) (py (i + 1)) (py (i + 1)) (by omega) (by omega) (by rw [mn_p (by rw [← hm]; exact c_33_5)]) (by rw [mx_p (by rw [← hM]; exact c_52_7)]) _ _ hP hS ls (lv_sub hl [0, 1, 2, 3, 4, 5] rfl)
  exact L_19_1 (nN + 1) (0) (py 0) (py 0) (by omega) (by omega) rfl rfl _ _ hP hS ls (lv_sub hl [0, 1, 2, 3, 4, 5] rfl)
set_option maxHeartbeats 4000000 in
set_option maxRecDepth 100000 in
theorem kX3_spread_2 (l : Launch) (D : va_G) (cs : Nat → ClassId) (ad : Nat → Nat) (hd : distX ad) (sz : Nat) (S : XS) (hnN : S.1.1.1 ≤ 30) (hn0 : ¬ S.1.1.1 = 0) (hpos : posOK (S.1.1.1) (S.1.1.2.1) (S.1.1.2.2.1) (S.1.1.2.2.2.1)) : Met l yX3_spread wsX3_spread ({ frames := 0, cells := 0, slots := 0, locals := 0 } : Room) (gP D (WX cs ad) (EX D cs) S sz ([.ref (ad 1), .int (nI 2)] : List Value)) (va_Qd (fun r u => u = S ∧ r = spF (S.1.1.2.2.2.1) (S.1.1.1)) (gB D (WX cs ad)) (gA (AX ad) sz)) 0 0 (gA (AX ad) sz) := by
  obtain ⟨⟨⟨nN, px, py, pz, fx, fy, fz, lf, ld, fi⟩, ⟨nB, fr, tt, ln, wi, sg, pu⟩, ⟨nR, rd, rx, ry, wv, fo⟩, ⟨re, dg⟩, ⟨nP, tp, bt, dp⟩⟩, ⟨sp, ac, kp, kc, kn, aw, dw, su, ss, sd⟩⟩ := S
  have hnN : nN ≤ 30 := hnN
  have hn0 : ¬ nN = 0 := hn0
  have hpos : ∀ j, j < nN → pOK (px j) ∧ pOK (py j) ∧ pOK (pz j) := hpos
  have hp0 : ∀ j, j < nN → pOK (px j) := fun j hj => (hpos j hj).1
  have hp1 : ∀ j, j < nN → pOK (py j) := fun j hj => (hpos j hj).2.1
  have hp2 : ∀ j, j < nN → pOK (pz j) := fun j hj => (hpos j hj).2.2
  refine gMd (cc := cX3_spread) (maxL := 8) (plainFor_of_name (by decide)) rfl (Nat.le_of_ble_eq_true rfl) ?_
  intro p e s m below meth c Q hx hb hts hown hml hsz hE hret H locs hP hS ls hl
  subst hsz
  have hown : s.vm.findClass RX3 = some m.cls := hown
  have hK : va_K D vwCl (tysX cs) s := hE.1
  have hD : ∀ u, va_D (gA (AX ad) s.heap.size) (WX cs ad u) := fun u => WX_D hd u
  have hl : lv_has ls 8 [(0, .ref (ad 1)), (1, .int (nI 2))] := hl
  have f_11 := hts (.fieldLink RX3 11 "NetShapes$Nodes" "places" "[[D") (by decide +kernel)
  have f_30 := hts (.fieldLink RX3 30 "NetShapes$Nodes" "count" "I") (by decide +kernel)
  refine lv_aload_n hx hb dX3_spread_0 rfl (lv_at hl 0 rfl) ?_
  refine va_get (D := D) (ci := 3) (v := .ref (ad 7)) (C := RX3) (T := TX3) (N := 6) hx hb hts iX3_spread_X3 hown hK hP 1 rfl rfl 0 (by decide) f_11 (fun _ h9 => h9) rfl dX3_spread_1 ?_
  refine lv_iload_n hx hb dX3_spread_4 rfl (lv_at hl 1 rfl) ?_
  refine xal hx hb hK hP 7 3 rfl rfl (j := 2) (v := ad 32) (by decide) (by decide) rfl dX3_spread_5 ?_
  refine lv_astore_n (lv' := [(2, .ref (ad 32)), (0, .ref (ad 1)), (1, .int (nI 2))]) hx hb dX3_spread_6 rfl hl (by decide) rfl (fun ls hl => ?_)
  refine lv_aload_n hx hb dX3_spread_7 rfl (lv_at hl 0 rfl) ?_
  refine lv_iconst (v := nI 0) hx hb dX3_spread_8 (by decide) ?_
  refine xdl hx hb hK hP 32 0 rfl rfl (j := 0) (by decide) (by decide) dX3_spread_9 ?_
  refine lv_dstore_n (lv' := [(3, .double (pz 0)), (2, .ref (ad 32)), (0, .ref (ad 1)), (1, .int (nI 2))]) hx hb dX3_spread_10 rfl hl (by decide) rfl (fun ls hl => ?_)
  refine lv_aload_n hx hb dX3_spread_11 rfl (lv_at hl 1 rfl) ?_
  refine lv_iconst (v := nI 0) hx hb dX3_spread_12 (by decide) ?_
  refine xdl hx hb hK hP 32 0 rfl rfl (j := 0) (by decide) (by decide) dX3_spread_13 ?_
  refine lv_dstore (lv' := [(5, .double (pz 0)), (3, .double (pz 0)), (2, .ref (ad 32)), (0, .ref (ad 1)), (1, .int (nI 2))]) hx hb dX3_spread_14 hl (by decide) rfl (fun ls hl => ?_)
  refine lv_iconst (v := nI 1) hx hb dX3_spread_16 (by decide) ?_
  refine lv_istore (lv' := [(7, .int (nI 1)), (5, .double (pz 0)), (3, .double (pz 0)), (2, .ref (ad 32)), (0, .ref (ad 1)), (1, .int (nI 2))]) hx hb dX3_spread_17 hl (by decide) rfl (fun ls hl => ?_)
  have L_19_1 : ∀ (n_19 i : Nat) (m_ : UInt64) (M_ : UInt64), (nN + 1 ≤ i + n_19) → (i + 1 ≤ nN) → (m_ = mnF pz i) → (M_ = mxF pz i) → ∀ (H : Heap) (locs : List Loc), va_P D vwCl (WX cs ad (((nN, px, py, pz, fx, fy, fz, lf, ld, fi), (nB, fr, tt, ln, wi, sg, pu), (nR, rd, rx, ry, wv, fo), (re, dg), (nP, tp, bt, dp)), (sp, ac, kp, kc, kn, aw, dw, su, ss, sd))) H → va_S (gA (AX ad) s.heap.size) s.heap H locs → ∀ (ls : Array Slot), lv_has ls 8 [(7, .int (nI (i + 1))), (5, .double (M_)), (3, .double (m_)), (2, .ref (ad 32)), (0, .ref (ad 1)), (1, .int (nI 2))] → W p l e ({ frames := 0, cells := 0, slots := 0, locals := 0 } : Room) s m ([.ref (ad 1), .int (nI 2)] : List Value).toArray below meth c H locs 0 0 Q (F0 m 19 ls []) := by
    intro n_19; induction n_19 with
    | zero => intro i m_ M_ hf_19 hi hm hM H locs hP hS ls hl; exact absurd hf_19 (by omega)
    | succ n_19 ih_19 =>
      intro i m_ M_ hf_19 hi hm hM H locs hP hS ls hl
      refine lv_iload hx hb dX3_spread_19 (lv_at hl 0 rfl) ?_
      refine lv_aload_n hx hb dX3_spread_21 rfl (lv_at hl 4 rfl) ?_
      refine va_get (D := D) (ci := 3) (v := .int (nI nN)) (C := RX3) (T := TX3) (N := 6) hx hb hts iX3_spread_X3 hown hK hP 1 rfl rfl 5 (by decide) f_30 (fun _ h9 => h9) rfl dX3_spread_22 ?_
      refine lv_icmp_ge (tgt := 73) hx hb dX3_spread_25 (by decide) (fun c_25_2 => ?_) (fun c_25_2 => ?_)
      · skip
        have c_25_2 : nN ≤ i + 1 := (nI_leI (a := nN) (b := i + 1) (by omega) (by omega)).mp c_25_2
        refine lv_dload hx hb dX3_spread_73 (lv_at hl 1 rfl) ?_
        refine lv_dload_n hx hb dX3_spread_75 rfl (lv_at hl 2 rfl) ?_
        refine lv_dsub hx hb dX3_spread_76 (by rw [hm, hM]; exact fB_ne (sp_n hp2 (by omega)) (by decide)) ?_
        exact hret hS hP dX3_spread_77 (⟨rfl, by rw [hm, hM, show i = nN - 1 by omega]; rfl⟩)
      · skip
        have c_25_2 : ¬ (nN ≤ i + 1) := fun q => c_25_2 ((nI_leI (a := nN) (b := i + 1) (by omega) (by omega)).mpr q)
        refine lv_aload_n hx hb dX3_spread_28 rfl (lv_at hl 3 rfl) ?_
        refine lv_iload hx hb dX3_spread_29 (lv_at hl 0 rfl) ?_
        refine xdl hx hb hK hP 32 0 rfl rfl (j := i + 1) (by decide) (by omega) dX3_spread_31 ?_
        refine lv_dload_n hx hb dX3_spread_32 rfl (lv_at hl 2 rfl) ?_
        refine xc_glt (tgt := 44) hx hb dX3_spread_33 dX3_spread_34 (by decide) (fun c_33_5 => ?_) (fun c_33_5 => ?_)
        · skip
          refine lv_dload_n hx hb dX3_spread_44 rfl (lv_at hl 2 rfl) ?_
          refine lv_dstore_n (lv' := [(3, .double (m_)), (7, .int (nI (i + 1))), (5, .double (M_)), (2, .ref (ad 32)), (0, .ref (ad 1)), (1, .int (nI 2))]) hx hb dX3_spread_45 rfl hl (by decide) rfl (fun ls hl => ?_)
          refine lv_aload_n hx hb dX3_spread_46 rfl (lv_at hl 3 rfl) ?_
          refine lv_iload hx hb dX3_spread_47 (lv_at hl 1 rfl) ?_
          refine xdl hx hb hK hP 32 0 rfl rfl (j := i + 1) (by decide) (by omega) dX3_spread_49 ?_
          refine lv_dload hx hb dX3_spread_50 (lv_at hl 2 rfl) ?_
          refine xc_lgt (tgt := 63) hx hb dX3_spread_52 dX3_spread_53 (by decide) (fun c_52_6 => ?_) (fun c_52_6 => ?_)
          · skip
            refine lv_dload hx hb dX3_spread_63 (lv_at hl 2 rfl) ?_
            refine lv_dstore (lv' := [(5, .double (M_)), (3, .double (m_)), (7, .int (nI (i + 1))), (2, .ref (ad 32)), (0, .ref (ad 1)), (1, .int (nI 2))]) hx hb dX3_spread_65 hl (by decide) rfl (fun ls hl => ?_)
            refine lv_iinc (v := nI (i + 1 + 1)) (lv' := [(7, .int (nI (i + 1 + 1))), (5, .double (M_)), (3, .double (m_)), (2, .ref (ad 32)), (0, .ref (ad 1)), (1, .int (nI 2))]) hx hb dX3_spread_67 hl (k := 2) rfl (nI_add _ _) (by decide) rfl (fun ls hl => ?_)
            refine lv_goto (tgt := 19) hx hb dX3_spread_70 (by decide) ?_
            exact ih_19 (i + 1) (m_) (M_) (by omega) (by omega) (by rw [mn_n (by rw [← hm]; exact c_33_5), ← hm]) (by rw [mx_n (by rw [← hM]; exact c_52_6), ← hM]) _ _ hP hS ls (lv_sub hl [0, 1, 2, 3, 4, 5] rfl)
          · skip
            refine lv_aload_n hx hb dX3_spread_56 rfl (lv_at hl 3 rfl) ?_
            refine lv_iload hx hb dX3_spread_57 (lv_at hl 1 rfl) ?_
            refine xdl hx hb hK hP 32 0 rfl rfl (j := i + 1) (by decide) (by omega) dX3_spread_59 ?_
            refine lv_goto (tgt := 65) hx hb dX3_spread_60 (by decide) ?_
            refine lv_dstore (lv' := [(5, .double (pz (i + 1))), (3, .double (m_)), (7, .int (nI (i + 1))), (2, .ref (ad 32)), (0, .ref (ad 1)), (1, .int (nI 2))]) hx hb dX3_spread_65 hl (by decide) rfl (fun ls hl => ?_)
            refine lv_iinc (v := nI (i + 1 + 1)) (lv' := [(7, .int (nI (i + 1 + 1))), (5, .double (pz (i + 1))), (3, .double (m_)), (2, .ref (ad 32)), (0, .ref (ad 1)), (1, .int (nI 2))]) hx hb dX3_spread_67 hl (k := 2) rfl (nI_add _ _) (by decide) rfl (fun ls hl => ?_)
            refine lv_goto (tgt := 19) hx hb dX3_spread_70 (by decide) ?_
            exact ih_19 (i + 1) (m_) (pz (i + 1)) (by omega) (by omega) (by rw [mn_n (by rw [← hm]; exact c_33_5), ← hm]) (by rw [mx_p (by rw [← hM]; exact c_52_6)]) _ _ hP hS ls (lv_sub hl [0, 1, 2, 3, 4, 5] rfl)
        · skip
          refine lv_aload_n hx hb dX3_spread_37 rfl (lv_at hl 3 rfl) ?_
          refine lv_iload hx hb dX3_spread_38 (lv_at hl 0 rfl) ?_
          refine xdl hx hb hK hP 32 0 rfl rfl (j := i + 1) (by decide) (by omega) dX3_spread_40 ?_
          refine lv_goto (tgt := 45) hx hb dX3_spread_41 (by decide) ?_
          refine lv_dstore_n (lv' := [(3, .double (pz (i + 1))), (7, .int (nI (i + 1))), (5, .double (M_)), (2, .ref (ad 32)), (0, .ref (ad 1)), (1, .int (nI 2))]) hx hb dX3_spread_45 rfl hl (by decide) rfl (fun ls hl => ?_)
          refine lv_aload_n hx hb dX3_spread_46 rfl (lv_at hl 3 rfl) ?_
          refine lv_iload hx hb dX3_spread_47 (lv_at hl 1 rfl) ?_
          refine xdl hx hb hK hP 32 0 rfl rfl (j := i + 1) (by decide) (by omega) dX3_spread_49 ?_
          refine lv_dload hx hb dX3_spread_50 (lv_at hl 2 rfl) ?_
          refine xc_lgt (tgt := 63) hx hb dX3_spread_52 dX3_spread_53 (by decide) (fun c_52_7 => ?_) (fun c_52_7 => ?_)
          · skip
            refine lv_dload hx hb dX3_spread_63 (lv_at hl 2 rfl) ?_
            refine lv_dstore (lv' := [(5, .double (M_)), (3, .double (pz (i + 1))), (7, .int (nI (i + 1))), (2, .ref (ad 32)), (0, .ref (ad 1)), (1, .int (nI 2))]) hx hb dX3_spread_65 hl (by decide) rfl (fun ls hl => ?_)
            refine lv_iinc (v := nI (i + 1 + 1)) (lv' := [(7, .int (nI (i + 1 + 1))), (5, .double (M_)), (3, .double (pz (i + 1))), (2, .ref (ad 32)), (0, .ref (ad 1)), (1, .int (nI 2))]) hx hb dX3_spread_67 hl (k := 2) rfl (nI_add _ _) (by decide) rfl (fun ls hl => ?_)
            refine lv_goto (tgt := 19) hx hb dX3_spread_70 (by decide) ?_
            exact ih_19 (i + 1) (pz (i + 1)) (M_) (by omega) (by omega) (by rw [mn_p (by rw [← hm]; exact c_33_5)]) (by rw [mx_n (by rw [← hM]; exact c_52_7), ← hM]) _ _ hP hS ls (lv_sub hl [0, 1, 2, 3, 4, 5] rfl)
          · skip
            refine lv_aload_n hx hb dX3_spread_56 rfl (lv_at hl 3 rfl) ?_
            refine lv_iload hx hb dX3_spread_57 (lv_at hl 1 rfl) ?_
            refine xdl hx hb hK hP 32 0 rfl rfl (j := i + 1) (by decide) (by omega) dX3_spread_59 ?_
            refine lv_goto (tgt := 65) hx hb dX3_spread_60 (by decide) ?_
            refine lv_dstore (lv' := [(5, .double (pz (i + 1))), (3, .double (pz (i + 1))), (7, .int (nI (i + 1))), (2, .ref (ad 32)), (0, .ref (ad 1)), (1, .int (nI 2))]) hx hb dX3_spread_65 hl (by decide) rfl (fun ls hl => ?_)
            refine lv_iinc (v := nI (i + 1 + 1)) (lv' := [(7, .int (nI (i + 1 + 1))), (5, .double (pz (i + 1))), (3, .double (pz (i + 1))), (2, .ref (ad 32)), (0, .ref (ad 1)), (1, .int (nI 2))]) hx hb dX3_spread_67 hl (k := 2) rfl (nI_add _ _) (by decide) rfl (fun ls hl => ?_)
            refine lv_goto (tgt := 19) hx hb dX3_spread_70 (by decide) ?_
            exact ih_19 (i + 1) (pz (i + 1)) (pz (i + 1)) (by omega) (by omega) (by rw [mn_p (by rw [← hm]; exact c_33_5)]) (by rw [mx_p (by rw [← hM]; exact c_52_7)]) _ _ hP hS ls (lv_sub hl [0, 1, 2, 3, 4, 5] rfl)
  exact L_19_1 (nN + 1) (0) (pz 0) (pz 0) (by omega) (by omega) rfl rfl _ _ hP hS ls (lv_sub hl [0, 1, 2, 3, 4, 5] rfl)
theorem iX6_open_X3 : ∀ w ∈ u_ws RX3 TX3 6, w ∈ wsX6_open := by decide +kernel
theorem iX6_open_X6 : ∀ w ∈ u_ws RX6 TX6 6, w ∈ wsX6_open := by decide +kernel
set_option maxHeartbeats 4000000 in
set_option maxRecDepth 100000 in
theorem kX6_open (l : Launch) (D : va_G) (cs : Nat → ClassId) (ad : Nat → Nat) (hd : distX ad) (sz : Nat) (S : XS) (hnN : S.1.1.1 ≤ 30)(hpos : posOK (S.1.1.1) (S.1.1.2.1) (S.1.1.2.2.1) (S.1.1.2.2.2.1)) (x : Int32) : Met l yX6_open wsX6_open ({ frames := 1, cells := 0, slots := 0, locals := 27 } : Room) (gP D (WX cs ad) (EX D cs) S sz ([.ref (ad 0), .int (x)] : List Value)) (va_Qd (fun r u => q_open S.1 x r ∧ u = S) (gB D (WX cs ad)) (gA (AX ad) sz)) 0 0 (gA (AX ad) sz) := by
  obtain ⟨⟨⟨nN, px, py, pz, fx, fy, fz, lf, ld, fi⟩, ⟨nB, fr, tt, ln, wi, sg, pu⟩, ⟨nR, rd, rx, ry, wv, fo⟩, ⟨re, dg⟩, ⟨nP, tp, bt, dp⟩⟩, ⟨sp, ac, kp, kc, kn, aw, dw, su, ss, sd⟩⟩ := S
  have hnN : nN ≤ 30 := hnN
  have hpos : ∀ j, j < nN → pOK (px j) ∧ pOK (py j) ∧ pOK (pz j) := hpos
  have hp0 : ∀ j, j < nN → pOK (px j) := fun j hj => (hpos j hj).1
  have hp1 : ∀ j, j < nN → pOK (py j) := fun j hj => (hpos j hj).2.1
  have hp2 : ∀ j, j < nN → pOK (pz j) := fun j hj => (hpos j hj).2.2
  refine gMd (cc := cX6_open) (maxL := 2) (plainFor_of_name (by decide)) rfl (Nat.le_of_ble_eq_true rfl) ?_
  intro p e s m below meth c Q hx hb hts hown hml hsz hE hret H locs hP hS ls hl
  subst hsz
  have hown : s.vm.findClass RX6 = some m.cls := hown
  have hK : va_K D vwCl (tysX cs) s := hE.1
  have hD : ∀ u, va_D (gA (AX ad) s.heap.size) (WX cs ad u) := fun u => WX_D hd u
  have hl : lv_has ls 2 [(0, .ref (ad 0)), (1, .int (x))] := hl
  have c_137 := hts (.constantDouble RX6 137 13830554455654793216) (by decide +kernel)
  have f_10 := hts (.fieldLink RX6 10 "NetShapes" "nodes" "LNetShapes$Nodes;") (by decide +kernel)
  have f_53 := hts (.fieldLink RX6 53 "NetShapes$Nodes" "count" "I") (by decide +kernel)
  refine lv_aload_n hx hb dX6_open_0 rfl (lv_at hl 0 rfl) ?_
  refine va_get (D := D) (ci := 6) (v := .ref (ad 1)) (C := RX6) (T := TX6) (N := 6) hx hb hts iX6_open_X6 hown hK hP 0 rfl rfl 0 (by decide) f_10 (fun _ h9 => h9) rfl dX6_open_1 ?_
  refine va_get (D := D) (ci := 3) (v := .int (nI nN)) (C := RX3) (T := TX3) (N := 6) hx hb hts iX6_open_X3 hown hK hP 1 rfl rfl 5 (by decide) f_53 (fun _ h9 => h9) rfl dX6_open_4 ?_
  refine lv_if_eq (tgt := 17) hx hb dX6_open_7 (by decide) (fun c_7_1 => ?_) (fun c_7_1 => ?_)
  · skip
    have c_7_1 : nN = 0 := (nI_eq (a := nN) (b := 0) (by omega) (by omega)).mp c_7_1
    refine lv_ldc2d hx hb hown c_137 dX6_open_17 ?_
    exact hret hS hP dX6_open_20 (⟨Or.inr ⟨fun q => q.1 c_7_1, rfl⟩, rfl⟩)
  · skip
    have c_7_1 : ¬ (nN = 0) := fun q => c_7_1 ((nI_eq (a := nN) (b := 0) (by omega) (by omega)).mpr q)
    refine lv_iload_n hx hb dX6_open_10 rfl (lv_at hl 1 rfl) ?_
    refine g0i (va_runS (As := [.int (x)]) (rest := []) ⟨hx, hb, hml, hown, hts⟩ (kX6_isAxis l D H.size x) (va_cwS 1 hts gX6_open_X6_isAxis rfl rfl rfl (by decide +kernel) ⟨Nat.le_of_ble_eq_true rfl, Nat.le_of_ble_eq_true rfl⟩) (gPreS (eT_bl) w0_P (fun _ _ _ => trivial)) rfl rfl hl.1 rfl (lv_room (Nat.le_of_ble_eq_true rfl)) dX6_open_11 ⟨Nat.zero_le _, Nat.zero_le _⟩) hP hS (fun r_ H locs hw hP hS => ?_)
    rcases hw with ⟨rfl, b_2⟩ | ⟨rfl, b_2⟩
    · skip
      have b_2 : inN 3 (x) := b_2
      obtain ⟨i, hi, rfl⟩ := b_2
      refine lv_if_ne (tgt := 21) hx hb dX6_open_14 (by decide) (fun _ => ?_) (fun c_14_3 => absurd c_14_3 (by decide))
      rcases (show i = 0 ∨ i = 1 ∨ i = 2 by omega) with rfl | rfl | rfl
      · skip
        refine lv_aload_n hx hb dX6_open_21 rfl (lv_at hl 0 rfl) ?_
        refine va_get (D := D) (ci := 6) (v := .ref (ad 1)) (C := RX6) (T := TX6) (N := 6) hx hb hts iX6_open_X6 hown hK hP 0 rfl rfl 0 (by decide) f_10 (fun _ h9 => h9) rfl dX6_open_22 ?_
        refine lv_iload_n hx hb dX6_open_25 rfl (lv_at hl 1 rfl) ?_
        refine gcd (va_runV (As := [.int (nI 0)]) (rest := []) ⟨hx, hb, hml, hown, hts⟩ (kX3_spread_0 l D cs ad hd H.size (((nN, px, py, pz, fx, fy, fz, lf, ld, fi), (nB, fr, tt, ln, wi, sg, pu), (nR, rd, rx, ry, wv, fo), (re, dg), (nP, tp, bt, dp)), (sp, ac, kp, kc, kn, aw, dw, su, ss, sd)) hnN (show ¬ nN = 0 by omega) hpos) (cwV 1 hts gX6_open_X3_spread rfl rfl rfl (by decide +kernel) ⟨Nat.le_of_ble_eq_true rfl, Nat.le_of_ble_eq_true rfl⟩) (gPreV (EX_bl) (va_recv hK hP (ci := 3) (q0 := 1) rfl rfl) hP (fun U _ hW => EX_warm hW hE)) rfl rfl hl.1 rfl (lv_room (Nat.le_of_ble_eq_true rfl)) dX6_open_26 ⟨Nat.zero_le _, Nat.zero_le _⟩) hS (fun r_ u_ H locs hw hP hS => ?_)
        obtain ⟨rfl, hw⟩ := hw
        obtain ⟨v_4, ev_4⟩ : ∃ z, z = r_ := ⟨r_, rfl⟩
        rw [← ev_4] at hw ⊢
        clear ev_4
        have ev_4 : v_4 = spF px nN := hw
        exact hret hS hP dX6_open_29 (⟨Or.inl ⟨by omega, Or.inl ⟨rfl, ev_4⟩⟩, rfl⟩)
      · skip
        refine lv_aload_n hx hb dX6_open_21 rfl (lv_at hl 0 rfl) ?_
        refine va_get (D := D) (ci := 6) (v := .ref (ad 1)) (C := RX6) (T := TX6) (N := 6) hx hb hts iX6_open_X6 hown hK hP 0 rfl rfl 0 (by decide) f_10 (fun _ h9 => h9) rfl dX6_open_22 ?_
        refine lv_iload_n hx hb dX6_open_25 rfl (lv_at hl 1 rfl) ?_
        refine gcd (va_runV (As := [.int (nI 1)]) (rest := []) ⟨hx, hb, hml, hown, hts⟩ (kX3_spread_1 l D cs ad hd H.size (((nN, px, py, pz, fx, fy, fz, lf, ld, fi), (nB, fr, tt, ln, wi, sg, pu), (nR, rd, rx, ry, wv, fo), (re, dg), (nP, tp, bt, dp)), (sp, ac, kp, kc, kn, aw, dw, su, ss, sd)) hnN (show ¬ nN = 0 by omega) hpos) (cwV 1 hts gX6_open_X3_spread rfl rfl rfl (by decide +kernel) ⟨Nat.le_of_ble_eq_true rfl, Nat.le_of_ble_eq_true rfl⟩) (gPreV (EX_bl) (va_recv hK hP (ci := 3) (q0 := 1) rfl rfl) hP (fun U _ hW => EX_warm hW hE)) rfl rfl hl.1 rfl (lv_room (Nat.le_of_ble_eq_true rfl)) dX6_open_26 ⟨Nat.zero_le _, Nat.zero_le _⟩) hS (fun r_ u_ H locs hw hP hS => ?_)
        obtain ⟨rfl, hw⟩ := hw
        obtain ⟨v_5, ev_5⟩ : ∃ z, z = r_ := ⟨r_, rfl⟩
        rw [← ev_5] at hw ⊢
        clear ev_5
        have ev_5 : v_5 = spF py nN := hw
        exact hret hS hP dX6_open_29 (⟨Or.inl ⟨by omega, Or.inr (Or.inl ⟨rfl, ev_5⟩)⟩, rfl⟩)
      · skip
        refine lv_aload_n hx hb dX6_open_21 rfl (lv_at hl 0 rfl) ?_
        refine va_get (D := D) (ci := 6) (v := .ref (ad 1)) (C := RX6) (T := TX6) (N := 6) hx hb hts iX6_open_X6 hown hK hP 0 rfl rfl 0 (by decide) f_10 (fun _ h9 => h9) rfl dX6_open_22 ?_
        refine lv_iload_n hx hb dX6_open_25 rfl (lv_at hl 1 rfl) ?_
        refine gcd (va_runV (As := [.int (nI 2)]) (rest := []) ⟨hx, hb, hml, hown, hts⟩ (kX3_spread_2 l D cs ad hd H.size (((nN, px, py, pz, fx, fy, fz, lf, ld, fi), (nB, fr, tt, ln, wi, sg, pu), (nR, rd, rx, ry, wv, fo), (re, dg), (nP, tp, bt, dp)), (sp, ac, kp, kc, kn, aw, dw, su, ss, sd)) hnN (show ¬ nN = 0 by omega) hpos) (cwV 1 hts gX6_open_X3_spread rfl rfl rfl (by decide +kernel) ⟨Nat.le_of_ble_eq_true rfl, Nat.le_of_ble_eq_true rfl⟩) (gPreV (EX_bl) (va_recv hK hP (ci := 3) (q0 := 1) rfl rfl) hP (fun U _ hW => EX_warm hW hE)) rfl rfl hl.1 rfl (lv_room (Nat.le_of_ble_eq_true rfl)) dX6_open_26 ⟨Nat.zero_le _, Nat.zero_le _⟩) hS (fun r_ u_ H locs hw hP hS => ?_)
        obtain ⟨rfl, hw⟩ := hw
        obtain ⟨v_6, ev_6⟩ : ∃ z, z = r_ := ⟨r_, rfl⟩
        rw [← ev_6] at hw ⊢
        clear ev_6
        have ev_6 : v_6 = spF pz nN := hw
        exact hret hS hP dX6_open_29 (⟨Or.inl ⟨by omega, Or.inr (Or.inr ⟨rfl, ev_6⟩)⟩, rfl⟩)
    · skip
      have b_2 : ¬ (inN 3 (x)) := b_2
      refine lv_if_ne (tgt := 21) hx hb dX6_open_14 (by decide) (fun c_14_7 => absurd c_14_7 (by decide)) (fun _ => ?_)
      refine lv_ldc2d hx hb hown c_137 dX6_open_17 ?_
      exact hret hS hP dX6_open_20 (⟨Or.inr ⟨fun q => b_2 q.2, rfl⟩, rfl⟩)
theorem iX7_open_X7 : ∀ w ∈ u_ws RX7 TX7 31, w ∈ wsX7_open := by decide +kernel
set_option maxHeartbeats 4000000 in
set_option maxRecDepth 100000 in
theorem kX7_open (l : Launch) (D : va_G) (cs : Nat → ClassId) (ad : Nat → Nat) (hd : distM ad) (sz : Nat) (S : MS) (hnN : S.1.1.1 ≤ 30)(hpos : posOK (S.1.1.1) (S.1.1.2.1) (S.1.1.2.2.1) (S.1.1.2.2.2.1)) (x : Int32) : Met l yX7_open wsX7_open ({ frames := 2, cells := 0, slots := 0, locals := 43 } : Room) (gP D (WM cs ad) (EM D cs) S sz ([.ref (ad 0), .int (x)] : List Value)) (va_Qd (fun r u => q_open S.1 x r ∧ u = S) (gB D (WM cs ad)) (gA (AM ad) sz)) 0 0 (gA (AM ad) sz) := by
  obtain ⟨⟨⟨nN, px, py, pz, fx, fy, fz, lf, ld, fi⟩, ⟨nB, fr, tt, ln, wi, sg, pu⟩, ⟨nR, rd, rx, ry, wv, fo⟩, ⟨re, dg⟩, ⟨nP, tp, bt, dp⟩⟩, ⟨nQ, fu⟩⟩ := S
  have hnN : nN ≤ 30 := hnN
  have hpos : ∀ j, j < nN → pOK (px j) ∧ pOK (py j) ∧ pOK (pz j) := hpos
  have hp0 : ∀ j, j < nN → pOK (px j) := fun j hj => (hpos j hj).1
  have hp1 : ∀ j, j < nN → pOK (py j) := fun j hj => (hpos j hj).2.1
  have hp2 : ∀ j, j < nN → pOK (pz j) := fun j hj => (hpos j hj).2.2
  refine gMd (cc := cX7_open) (maxL := 7) (plainFor_of_name (by decide)) rfl (Nat.le_of_ble_eq_true rfl) ?_
  intro p e s m below meth c Q hx hb hts hown hml hsz hE hret H locs hP hS ls hl
  subst hsz
  have hown : s.vm.findClass RX7 = some m.cls := hown
  have hK : va_K D vwCl (tysX cs) s := hE.1
  have hD : ∀ u, va_D (gA (AM ad) s.heap.size) (WM cs ad u) := fun u => WM_D hd u
  have hl : lv_has ls 7 [(0, .ref (ad 0)), (1, .int (x))] := hl
  have c_66 := hts (.constantDouble RX7 66 13830554455654793216) (by decide +kernel)
  have f_89 := hts (.fieldLink RX7 89 "NetShapesModel" "nodes" "I") (by decide +kernel)
  refine lv_aload_n hx hb dX7_open_0 rfl (lv_at hl 0 rfl) ?_
  refine va_get (D := D) (ci := 7) (v := .int (nI nN)) (C := RX7) (T := TX7) (N := 31) hx hb hts iX7_open_X7 hown hK hP 0 rfl rfl 0 (by decide) f_89 (fun _ h9 => h9) rfl dX7_open_1 ?_
  refine lv_if_eq (tgt := 16) hx hb dX7_open_4 (by decide) (fun c_4_1 => ?_) (fun c_4_1 => ?_)
  · skip
    have c_4_1 : nN = 0 := (nI_eq (a := nN) (b := 0) (by omega) (by omega)).mp c_4_1
    refine lv_ldc2d hx hb hown c_66 dX7_open_16 ?_
    exact hret hS hP dX7_open_19 (⟨Or.inr ⟨fun q => q.1 c_4_1, rfl⟩, rfl⟩)
  · skip
    have c_4_1 : ¬ (nN = 0) := fun q => c_4_1 ((nI_eq (a := nN) (b := 0) (by omega) (by omega)).mpr q)
    refine lv_iload_n hx hb dX7_open_7 rfl (lv_at hl 1 rfl) ?_
    refine lv_if_lt (tgt := 16) hx hb dX7_open_8 (by decide) (fun c_8_2 => ?_) (fun c_8_2 => ?_)
    · skip
      refine lv_ldc2d hx hb hown c_66 dX7_open_16 ?_
      exact hret hS hP dX7_open_19 (⟨Or.inr ⟨fun q => inN_neg (by decide) c_8_2 q.2, rfl⟩, rfl⟩)
    · skip
      refine lv_iload_n hx hb dX7_open_11 rfl (lv_at hl 1 rfl) ?_
      refine lv_iconst (v := nI 2) hx hb dX7_open_12 (by decide) ?_
      refine lv_icmp_le (tgt := 20) hx hb dX7_open_13 (by decide) (fun c_13_3 => ?_) (fun c_13_3 => ?_)
      · skip
        obtain ⟨i, hi, rfl⟩ := inN_le (n := 2) (by decide) c_8_2 c_13_3
        rcases (show i = 0 ∨ i = 1 ∨ i = 2 by omega) with rfl | rfl | rfl
        · skip
          refine lv_aload_n hx hb dX7_open_20 rfl (lv_at hl 0 rfl) ?_
          refine lv_iconst (v := nI 0) hx hb dX7_open_21 (by decide) ?_
          refine lv_iload_n hx hb dX7_open_22 rfl (lv_at hl 1 rfl) ?_
          refine gcd (va_runV (As := [.int (nI 0), .int (nI 0)]) (rest := []) ⟨hx, hb, hml, hown, hts⟩ (kX7_at l D cs ad hd H.size (((nN, px, py, pz, fx, fy, fz, lf, ld, fi), (nB, fr, tt, ln, wi, sg, pu), (nR, rd, rx, ry, wv, fo), (re, dg), (nP, tp, bt, dp)), (nQ, fu)) hnN (nI 0) (nI 0)) (cwV 2 hts gX7_open_X7_at rfl rfl rfl (by decide +kernel) ⟨Nat.le_of_ble_eq_true rfl, Nat.le_of_ble_eq_true rfl⟩) (gPreV (EM_bl) (va_recv hK hP (ci := 7) (q0 := 0) rfl rfl) hP (fun U _ hW => EM_warm hW hE)) rfl rfl hl.1 rfl (lv_room (Nat.le_of_ble_eq_true rfl)) dX7_open_23 ⟨Nat.zero_le _, Nat.zero_le _⟩) hS (fun v_4 u_ H locs hw hP hS => ?_)
          obtain ⟨hw, rfl⟩ := hw
          have ev_4 : v_4 = px 0 := at_0 hnN (k := 0) (by omega) hw
          subst ev_4
          refine lv_dstore_n (lv' := [(2, .double (px 0)), (0, .ref (ad 0)), (1, .int (nI 0))]) hx hb dX7_open_26 rfl hl (by decide) rfl (fun ls hl => ?_)
          refine lv_dload_n hx hb dX7_open_27 rfl (lv_at hl 0 rfl) ?_
          refine lv_dstore (lv' := [(4, .double (px 0)), (2, .double (px 0)), (0, .ref (ad 0)), (1, .int (nI 0))]) hx hb dX7_open_28 hl (by decide) rfl (fun ls hl => ?_)
          refine lv_iconst (v := nI 1) hx hb dX7_open_30 (by decide) ?_
          refine lv_istore (lv' := [(6, .int (nI 1)), (4, .double (px 0)), (2, .double (px 0)), (0, .ref (ad 0)), (1, .int (nI 0))]) hx hb dX7_open_31 hl (by decide) rfl (fun ls hl => ?_)
          have L_33_5 : ∀ (n_33 i : Nat) (m_ : UInt64) (M_ : UInt64), (nN + 1 ≤ i + n_33) → (i + 1 ≤ nN) → (m_ = mnF px i) → (M_ = mxF px i) → ∀ (H : Heap) (locs : List Loc), va_P D vwCl (WM cs ad (((nN, px, py, pz, fx, fy, fz, lf, ld, fi), (nB, fr, tt, ln, wi, sg, pu), (nR, rd, rx, ry, wv, fo), (re, dg), (nP, tp, bt, dp)), (nQ, fu))) H → va_S (gA (AM ad) s.heap.size) s.heap H locs → ∀ (ls : Array Slot), lv_has ls 7 [(6, .int (nI (i + 1))), (4, .double (M_)), (2, .double (m_)), (0, .ref (ad 0)), (1, .int (nI 0))] → W p l e ({ frames := 2, cells := 0, slots := 0, locals := 43 } : Room) s m ([.ref (ad 0), .int (nI 0)] : List Value).toArray below meth c H locs 0 0 Q (F0 m 33 ls []) := by
            intro n_33; induction n_33 with
            | zero => intro i m_ M_ hf_33 hi hm hM H locs hP hS ls hl; exact absurd hf_33 (by omega)
            | succ n_33 ih_33 =>
              intro i m_ M_ hf_33 hi hm hM H locs hP hS ls hl
              refine lv_iload hx hb dX7_open_33 (lv_at hl 0 rfl) ?_
              refine lv_aload_n hx hb dX7_open_35 rfl (lv_at hl 3 rfl) ?_
              refine va_get (D := D) (ci := 7) (v := .int (nI nN)) (C := RX7) (T := TX7) (N := 31) hx hb hts iX7_open_X7 hown hK hP 0 rfl rfl 0 (by decide) f_89 (fun _ h9 => h9) rfl dX7_open_36 ?_
              refine lv_icmp_ge (tgt := 74) hx hb dX7_open_39 (by decide) (fun c_39_6 => ?_) (fun c_39_6 => ?_)
              · skip
                have c_39_6 : nN ≤ i + 1 := (nI_leI (a := nN) (b := i + 1) (by omega) (by omega)).mp c_39_6
                refine lv_dload hx hb dX7_open_74 (lv_at hl 1 rfl) ?_
                refine lv_dload_n hx hb dX7_open_76 rfl (lv_at hl 2 rfl) ?_
                refine lv_dsub hx hb dX7_open_77 (by rw [hm, hM]; exact fB_ne (sp_n hp0 (by omega)) (by decide)) ?_
                exact hret hS hP dX7_open_78 (⟨Or.inl ⟨by omega, Or.inl ⟨rfl, by rw [hm, hM, show i = nN - 1 by omega]; rfl⟩⟩, rfl⟩)
              · skip
                have c_39_6 : ¬ (nN ≤ i + 1) := fun q => c_39_6 ((nI_leI (a := nN) (b := i + 1) (by omega) (by omega)).mpr q)
                refine lv_dload_n hx hb dX7_open_42 rfl (lv_at hl 2 rfl) ?_
                refine lv_aload_n hx hb dX7_open_43 rfl (lv_at hl 3 rfl) ?_
                refine lv_iload hx hb dX7_open_44 (lv_at hl 0 rfl) ?_
                refine lv_iload_n hx hb dX7_open_46 rfl (lv_at hl 4 rfl) ?_
                refine gcd (va_runV (As := [.int (nI (i + 1)), .int (nI 0)]) (rest := [.double (m_)]) ⟨hx, hb, hml, hown, hts⟩ (kX7_at l D cs ad hd H.size (((nN, px, py, pz, fx, fy, fz, lf, ld, fi), (nB, fr, tt, ln, wi, sg, pu), (nR, rd, rx, ry, wv, fo), (re, dg), (nP, tp, bt, dp)), (nQ, fu)) hnN (nI (i + 1)) (nI 0)) (cwV 2 hts gX7_open_X7_at rfl rfl rfl (by decide +kernel) ⟨Nat.le_of_ble_eq_true rfl, Nat.le_of_ble_eq_true rfl⟩) (gPreV (EM_bl) (va_recv hK hP (ci := 7) (q0 := 0) rfl rfl) hP (fun U _ hW => EM_warm hW hE)) rfl rfl hl.1 rfl (lv_room (Nat.le_of_ble_eq_true rfl)) dX7_open_47 ⟨Nat.zero_le _, Nat.zero_le _⟩) hS (fun v_9 u_ H locs hw hP hS => ?_)
                obtain ⟨hw, rfl⟩ := hw
                have ev_9 : v_9 = px (i + 1) := at_0 hnN (k := i + 1) (by omega) hw
                subst ev_9
                refine xdmin hx hb (hml.trans hl.1.symm) hown (hts (.methodLink RX7 187 yJ9_min_eb370) (by decide +kernel)) (hts (.static yJ9_min_eb370) (by decide +kernel)) (hts (.initialized RJ9) (by decide +kernel)) (hts _ (List.mem_of_getElem? (i := 18) rfl)) (by decide) (Nat.le_of_ble_eq_true rfl) (Nat.le_of_ble_eq_true rfl) (Nat.zero_le _) (Nat.zero_le _) (by rw [hm]; exact pOK_nn (mn_ok hp0 i (by omega))) (pOK_nn (hp0 _ (by omega))) (by rw [hm]; exact (mn_ok hp0 i (by omega)).2) ((hp0 _ (by omega)).2) dX7_open_50 ?_
                refine lv_dstore_n (lv' := [(2, .double (minF (m_) (px (i + 1)))), (6, .int (nI (i + 1))), (4, .double (M_)), (0, .ref (ad 0)), (1, .int (nI 0))]) hx hb dX7_open_53 rfl hl (by decide) rfl (fun ls hl => ?_)
                refine lv_dload hx hb dX7_open_54 (lv_at hl 2 rfl) ?_
                refine lv_aload_n hx hb dX7_open_56 rfl (lv_at hl 3 rfl) ?_
                refine lv_iload hx hb dX7_open_57 (lv_at hl 1 rfl) ?_
                refine lv_iload_n hx hb dX7_open_59 rfl (lv_at hl 4 rfl) ?_
                refine gcd (va_runV (As := [.int (nI (i + 1)), .int (nI 0)]) (rest := [.double (M_)]) ⟨hx, hb, hml, hown, hts⟩ (kX7_at l D cs ad hd H.size (((nN, px, py, pz, fx, fy, fz, lf, ld, fi), (nB, fr, tt, ln, wi, sg, pu), (nR, rd, rx, ry, wv, fo), (re, dg), (nP, tp, bt, dp)), (nQ, fu)) hnN (nI (i + 1)) (nI 0)) (cwV 2 hts gX7_open_X7_at rfl rfl rfl (by decide +kernel) ⟨Nat.le_of_ble_eq_true rfl, Nat.le_of_ble_eq_true rfl⟩) (gPreV (EM_bl) (va_recv hK hP (ci := 7) (q0 := 0) rfl rfl) hP (fun U _ hW => EM_warm hW hE)) rfl rfl hl.1 rfl (lv_room (Nat.le_of_ble_eq_true rfl)) dX7_open_60 ⟨Nat.zero_le _, Nat.zero_le _⟩) hS (fun v_10 u_ H locs hw hP hS => ?_)
                obtain ⟨hw, rfl⟩ := hw
                have ev_10 : v_10 = px (i + 1) := at_0 hnN (k := i + 1) (by omega) hw
                subst ev_10
                refine xdmax hx hb (hml.trans hl.1.symm) hown (hts (.methodLink RX7 158 yJ9_max_eb370) (by decide +kernel)) (hts (.static yJ9_max_eb370) (by decide +kernel)) (hts (.initialized RJ9) (by decide +kernel)) (hts _ (List.mem_of_getElem? (i := 26) rfl)) (by decide) (Nat.le_of_ble_eq_true rfl) (Nat.le_of_ble_eq_true rfl) (Nat.zero_le _) (Nat.zero_le _) (by rw [hM]; exact pOK_nn (mx_ok hp0 i (by omega))) (pOK_nn (hp0 _ (by omega))) (by rw [hM]; exact (mx_ok hp0 i (by omega)).2) ((hp0 _ (by omega)).2) dX7_open_63 ?_
                refine lv_dstore (lv' := [(4, .double (maxF (M_) (px (i + 1)))), (2, .double (minF (m_) (px (i + 1)))), (6, .int (nI (i + 1))), (0, .ref (ad 0)), (1, .int (nI 0))]) hx hb dX7_open_66 hl (by decide) rfl (fun ls hl => ?_)
                refine lv_iinc (v := nI (i + 1 + 1)) (lv' := [(6, .int (nI (i + 1 + 1))), (4, .double (maxF (M_) (px (i + 1)))), (2, .double (minF (m_) (px (i + 1)))), (0, .ref (ad 0)), (1, .int (nI 0))]) hx hb dX7_open_68 hl (k := 2) rfl (nI_add _ _) (by decide) rfl (fun ls hl => ?_)
                refine lv_goto (tgt := 33) hx hb dX7_open_71 (by decide) ?_
                exact ih_33 (i + 1) (minF (m_) (px (i + 1))) (maxF (M_) (px (i + 1))) (by omega) (by omega) (by rw [hm]; exact mn_min hp0 (by omega)) (by rw [hM]; exact mx_max hp0 (by omega)) _ _ hP hS ls (lv_sub hl [0, 1, 2, 3, 4] rfl)
          exact L_33_5 (nN + 1) (0) (px 0) (px 0) (by omega) (by omega) rfl rfl _ _ hP hS ls (lv_sub hl [0, 1, 2, 3, 4] rfl)
        · skip
          refine lv_aload_n hx hb dX7_open_20 rfl (lv_at hl 0 rfl) ?_
          refine lv_iconst (v := nI 0) hx hb dX7_open_21 (by decide) ?_
          refine lv_iload_n hx hb dX7_open_22 rfl (lv_at hl 1 rfl) ?_
          refine gcd (va_runV (As := [.int (nI 0), .int (nI 1)]) (rest := []) ⟨hx, hb, hml, hown, hts⟩ (kX7_at l D cs ad hd H.size (((nN, px, py, pz, fx, fy, fz, lf, ld, fi), (nB, fr, tt, ln, wi, sg, pu), (nR, rd, rx, ry, wv, fo), (re, dg), (nP, tp, bt, dp)), (nQ, fu)) hnN (nI 0) (nI 1)) (cwV 2 hts gX7_open_X7_at rfl rfl rfl (by decide +kernel) ⟨Nat.le_of_ble_eq_true rfl, Nat.le_of_ble_eq_true rfl⟩) (gPreV (EM_bl) (va_recv hK hP (ci := 7) (q0 := 0) rfl rfl) hP (fun U _ hW => EM_warm hW hE)) rfl rfl hl.1 rfl (lv_room (Nat.le_of_ble_eq_true rfl)) dX7_open_23 ⟨Nat.zero_le _, Nat.zero_le _⟩) hS (fun v_11 u_ H locs hw hP hS => ?_)
          obtain ⟨hw, rfl⟩ := hw
          have ev_11 : v_11 = py 0 := at_1 hnN (k := 0) (by omega) hw
          subst ev_11
          refine lv_dstore_n (lv' := [(2, .double (py 0)), (0, .ref (ad 0)), (1, .int (nI 1))]) hx hb dX7_open_26 rfl hl (by decide) rfl (fun ls hl => ?_)
          refine lv_dload_n hx hb dX7_open_27 rfl (lv_at hl 0 rfl) ?_
          refine lv_dstore (lv' := [(4, .double (py 0)), (2, .double (py 0)), (0, .ref (ad 0)), (1, .int (nI 1))]) hx hb dX7_open_28 hl (by decide) rfl (fun ls hl => ?_)
          refine lv_iconst (v := nI 1) hx hb dX7_open_30 (by decide) ?_
          refine lv_istore (lv' := [(6, .int (nI 1)), (4, .double (py 0)), (2, .double (py 0)), (0, .ref (ad 0)), (1, .int (nI 1))]) hx hb dX7_open_31 hl (by decide) rfl (fun ls hl => ?_)
          have L_33_12 : ∀ (n_33 i : Nat) (m_ : UInt64) (M_ : UInt64), (nN + 1 ≤ i + n_33) → (i + 1 ≤ nN) → (m_ = mnF py i) → (M_ = mxF py i) → ∀ (H : Heap) (locs : List Loc), va_P D vwCl (WM cs ad (((nN, px, py, pz, fx, fy, fz, lf, ld, fi), (nB, fr, tt, ln, wi, sg, pu), (nR, rd, rx, ry, wv, fo), (re, dg), (nP, tp, bt, dp)), (nQ, fu))) H → va_S (gA (AM ad) s.heap.size) s.heap H locs → ∀ (ls : Array Slot), lv_has ls 7 [(6, .int (nI (i + 1))), (4, .double (M_)), (2, .double (m_)), (0, .ref (ad 0)), (1, .int (nI 1))] → W p l e ({ frames := 2, cells := 0, slots := 0, locals := 43 } : Room) s m ([.ref (ad 0), .int (nI 1)] : List Value).toArray below meth c H locs 0 0 Q (F0 m 33 ls []) := by
            intro n_33; induction n_33 with
            | zero => intro i m_ M_ hf_33 hi hm hM H locs hP hS ls hl; exact absurd hf_33 (by omega)
            | succ n_33 ih_33 =>
              intro i m_ M_ hf_33 hi hm hM H locs hP hS ls hl
              refine lv_iload hx hb dX7_open_33 (lv_at hl 0 rfl) ?_
              refine lv_aload_n hx hb dX7_open_35 rfl (lv_at hl 3 rfl) ?_
              refine va_get (D := D) (ci := 7) (v := .int (nI nN)) (C := RX7) (T := TX7) (N := 31) hx hb hts iX7_open_X7 hown hK hP 0 rfl rfl 0 (by decide) f_89 (fun _ h9 => h9) rfl dX7_open_36 ?_
              refine lv_icmp_ge (tgt := 74) hx hb dX7_open_39 (by decide) (fun c_39_13 => ?_) (fun c_39_13 => ?_)
              · skip
                have c_39_13 : nN ≤ i + 1 := (nI_leI (a := nN) (b := i + 1) (by omega) (by omega)).mp c_39_13
                refine lv_dload hx hb dX7_open_74 (lv_at hl 1 rfl) ?_
                refine lv_dload_n hx hb dX7_open_76 rfl (lv_at hl 2 rfl) ?_
                refine lv_dsub hx hb dX7_open_77 (by rw [hm, hM]; exact fB_ne (sp_n hp1 (by omega)) (by decide)) ?_
                exact hret hS hP dX7_open_78 (⟨Or.inl ⟨by omega, Or.inr (Or.inl ⟨rfl, by rw [hm, hM, show i = nN - 1 by omega]; rfl⟩)⟩, rfl⟩)
              · skip
                have c_39_13 : ¬ (nN ≤ i + 1) := fun q => c_39_13 ((nI_leI (a := nN) (b := i + 1) (by omega) (by omega)).mpr q)
                refine lv_dload_n hx hb dX7_open_42 rfl (lv_at hl 2 rfl) ?_
                refine lv_aload_n hx hb dX7_open_43 rfl (lv_at hl 3 rfl) ?_
                refine lv_iload hx hb dX7_open_44 (lv_at hl 0 rfl) ?_
                refine lv_iload_n hx hb dX7_open_46 rfl (lv_at hl 4 rfl) ?_
                refine gcd (va_runV (As := [.int (nI (i + 1)), .int (nI 1)]) (rest := [.double (m_)]) ⟨hx, hb, hml, hown, hts⟩ (kX7_at l D cs ad hd H.size (((nN, px, py, pz, fx, fy, fz, lf, ld, fi), (nB, fr, tt, ln, wi, sg, pu), (nR, rd, rx, ry, wv, fo), (re, dg), (nP, tp, bt, dp)), (nQ, fu)) hnN (nI (i + 1)) (nI 1)) (cwV 2 hts gX7_open_X7_at rfl rfl rfl (by decide +kernel) ⟨Nat.le_of_ble_eq_true rfl, Nat.le_of_ble_eq_true rfl⟩) (gPreV (EM_bl) (va_recv hK hP (ci := 7) (q0 := 0) rfl rfl) hP (fun U _ hW => EM_warm hW hE)) rfl rfl hl.1 rfl (lv_room (Nat.le_of_ble_eq_true rfl)) dX7_open_47 ⟨Nat.zero_le _, Nat.zero_le _⟩) hS (fun v_16 u_ H locs hw hP hS => ?_)
                obtain ⟨hw, rfl⟩ := hw
                have ev_16 : v_16 = py (i + 1) := at_1 hnN (k := i + 1) (by omega) hw
                subst ev_16
                refine xdmin hx hb (hml.trans hl.1.symm) hown (hts (.methodLink RX7 187 yJ9_min_eb370) (by decide +kernel)) (hts (.static yJ9_min_eb370) (by decide +kernel)) (hts (.initialized RJ9) (by decide +kernel)) (hts _ (List.mem_of_getElem? (i := 18) rfl)) (by decide) (Nat.le_of_ble_eq_true rfl) (Nat.le_of_ble_eq_true rfl) (Nat.zero_le _) (Nat.zero_le _) (by rw [hm]; exact pOK_nn (mn_ok hp1 i (by omega))) (pOK_nn (hp1 _ (by omega))) (by rw [hm]; exact (mn_ok hp1 i (by omega)).2) ((hp1 _ (by omega)).2) dX7_open_50 ?_
                refine lv_dstore_n (lv' := [(2, .double (minF (m_) (py (i + 1)))), (6, .int (nI (i + 1))), (4, .double (M_)), (0, .ref (ad 0)), (1, .int (nI 1))]) hx hb dX7_open_53 rfl hl (by decide) rfl (fun ls hl => ?_)
                refine lv_dload hx hb dX7_open_54 (lv_at hl 2 rfl) ?_
                refine lv_aload_n hx hb dX7_open_56 rfl (lv_at hl 3 rfl) ?_
                refine lv_iload hx hb dX7_open_57 (lv_at hl 1 rfl) ?_
                refine lv_iload_n hx hb dX7_open_59 rfl (lv_at hl 4 rfl) ?_
                refine gcd (va_runV (As := [.int (nI (i + 1)), .int (nI 1)]) (rest := [.double (M_)]) ⟨hx, hb, hml, hown, hts⟩ (kX7_at l D cs ad hd H.size (((nN, px, py, pz, fx, fy, fz, lf, ld, fi), (nB, fr, tt, ln, wi, sg, pu), (nR, rd, rx, ry, wv, fo), (re, dg), (nP, tp, bt, dp)), (nQ, fu)) hnN (nI (i + 1)) (nI 1)) (cwV 2 hts gX7_open_X7_at rfl rfl rfl (by decide +kernel) ⟨Nat.le_of_ble_eq_true rfl, Nat.le_of_ble_eq_true rfl⟩) (gPreV (EM_bl) (va_recv hK hP (ci := 7) (q0 := 0) rfl rfl) hP (fun U _ hW => EM_warm hW hE)) rfl rfl hl.1 rfl (lv_room (Nat.le_of_ble_eq_true rfl)) dX7_open_60 ⟨Nat.zero_le _, Nat.zero_le _⟩) hS (fun v_17 u_ H locs hw hP hS => ?_)
                obtain ⟨hw, rfl⟩ := hw
                have ev_17 : v_17 = py (i + 1) := at_1 hnN (k := i + 1) (by omega) hw
                subst ev_17
                refine xdmax hx hb (hml.trans hl.1.symm) hown (hts (.methodLink RX7 158 yJ9_max_eb370) (by decide +kernel)) (hts (.static yJ9_max_eb370) (by decide +kernel)) (hts (.initialized RJ9) (by decide +kernel)) (hts _ (List.mem_of_getElem? (i := 26) rfl)) (by decide) (Nat.le_of_ble_eq_true rfl) (Nat.le_of_ble_eq_true rfl) (Nat.zero_le _) (Nat.zero_le _) (by rw [hM]; exact pOK_nn (mx_ok hp1 i (by omega))) (pOK_nn (hp1 _ (by omega))) (by rw [hM]; exact (mx_ok hp1 i (by omega)).2) ((hp1 _ (by omega)).2) dX7_open_63 ?_
                refine lv_dstore (lv' := [(4, .double (maxF (M_) (py (i + 1)))), (2, .double (minF (m_) (py (i + 1)))), (6, .int (nI (i + 1))), (0, .ref (ad 0)), (1, .int (nI 1))]) hx hb dX7_open_66 hl (by decide) rfl (fun ls hl => ?_)
                refine lv_iinc (v := nI (i + 1 + 1)) (lv' := [(6, .int (nI (i + 1 + 1))), (4, .double (maxF (M_) (py (i + 1)))), (2, .double (minF (m_) (py (i + 1)))), (0, .ref (ad 0)), (1, .int (nI 1))]) hx hb dX7_open_68 hl (k := 2) rfl (nI_add _ _) (by decide) rfl (fun ls hl => ?_)
                refine lv_goto (tgt := 33) hx hb dX7_open_71 (by decide) ?_
                exact ih_33 (i + 1) (minF (m_) (py (i + 1))) (maxF (M_) (py (i + 1))) (by omega) (by omega) (by rw [hm]; exact mn_min hp1 (by omega)) (by rw [hM]; exact mx_max hp1 (by omega)) _ _ hP hS ls (lv_sub hl [0, 1, 2, 3, 4] rfl)
          exact L_33_12 (nN + 1) (0) (py 0) (py 0) (by omega) (by omega) rfl rfl _ _ hP hS ls (lv_sub hl [0, 1, 2, 3, 4] rfl)
        · skip
          refine lv_aload_n hx hb dX7_open_20 rfl (lv_at hl 0 rfl) ?_
          refine lv_iconst (v := nI 0) hx hb dX7_open_21 (by decide) ?_
          refine lv_iload_n hx hb dX7_open_22 rfl (lv_at hl 1 rfl) ?_
          refine gcd (va_runV (As := [.int (nI 0), .int (nI 2)]) (rest := []) ⟨hx, hb, hml, hown, hts⟩ (kX7_at l D cs ad hd H.size (((nN, px, py, pz, fx, fy, fz, lf, ld, fi), (nB, fr, tt, ln, wi, sg, pu), (nR, rd, rx, ry, wv, fo), (re, dg), (nP, tp, bt, dp)), (nQ, fu)) hnN (nI 0) (nI 2)) (cwV 2 hts gX7_open_X7_at rfl rfl rfl (by decide +kernel) ⟨Nat.le_of_ble_eq_true rfl, Nat.le_of_ble_eq_true rfl⟩) (gPreV (EM_bl) (va_recv hK hP (ci := 7) (q0 := 0) rfl rfl) hP (fun U _ hW => EM_warm hW hE)) rfl rfl hl.1 rfl (lv_room (Nat.le_of_ble_eq_true rfl)) dX7_open_23 ⟨Nat.zero_le _, Nat.zero_le _⟩) hS (fun v_18 u_ H locs hw hP hS => ?_)
          obtain ⟨hw, rfl⟩ := hw
          have ev_18 : v_18 = pz 0 := at_2 hnN (k := 0) (by omega) hw
          subst ev_18
          refine lv_dstore_n (lv' := [(2, .double (pz 0)), (0, .ref (ad 0)), (1, .int (nI 2))]) hx hb dX7_open_26 rfl hl (by decide) rfl (fun ls hl => ?_)
          refine lv_dload_n hx hb dX7_open_27 rfl (lv_at hl 0 rfl) ?_
          refine lv_dstore (lv' := [(4, .double (pz 0)), (2, .double (pz 0)), (0, .ref (ad 0)), (1, .int (nI 2))]) hx hb dX7_open_28 hl (by decide) rfl (fun ls hl => ?_)
          refine lv_iconst (v := nI 1) hx hb dX7_open_30 (by decide) ?_
          refine lv_istore (lv' := [(6, .int (nI 1)), (4, .double (pz 0)), (2, .double (pz 0)), (0, .ref (ad 0)), (1, .int (nI 2))]) hx hb dX7_open_31 hl (by decide) rfl (fun ls hl => ?_)
          have L_33_19 : ∀ (n_33 i : Nat) (m_ : UInt64) (M_ : UInt64), (nN + 1 ≤ i + n_33) → (i + 1 ≤ nN) → (m_ = mnF pz i) → (M_ = mxF pz i) → ∀ (H : Heap) (locs : List Loc), va_P D vwCl (WM cs ad (((nN, px, py, pz, fx, fy, fz, lf, ld, fi), (nB, fr, tt, ln, wi, sg, pu), (nR, rd, rx, ry, wv, fo), (re, dg), (nP, tp, bt, dp)), (nQ, fu))) H → va_S (gA (AM ad) s.heap.size) s.heap H locs → ∀ (ls : Array Slot), lv_has ls 7 [(6, .int (nI (i + 1))), (4, .double (M_)), (2, .double (m_)), (0, .ref (ad 0)), (1, .int (nI 2))] → W p l e ({ frames := 2, cells := 0, slots := 0, locals := 43 } : Room) s m ([.ref (ad 0), .int (nI 2)] : List Value).toArray below meth c H locs 0 0 Q (F0 m 33 ls []) := by
            intro n_33; induction n_33 with
            | zero => intro i m_ M_ hf_33 hi hm hM H locs hP hS ls hl; exact absurd hf_33 (by omega)
            | succ n_33 ih_33 =>
              intro i m_ M_ hf_33 hi hm hM H locs hP hS ls hl
              refine lv_iload hx hb dX7_open_33 (lv_at hl 0 rfl) ?_
              refine lv_aload_n hx hb dX7_open_35 rfl (lv_at hl 3 rfl) ?_
              refine va_get (D := D) (ci := 7) (v := .int (nI nN)) (C := RX7) (T := TX7) (N := 31) hx hb hts iX7_open_X7 hown hK hP 0 rfl rfl 0 (by decide) f_89 (fun _ h9 => h9) rfl dX7_open_36 ?_
              refine lv_icmp_ge (tgt := 74) hx hb dX7_open_39 (by decide) (fun c_39_20 => ?_) (fun c_39_20 => ?_)
              · skip
                have c_39_20 : nN ≤ i + 1 := (nI_leI (a := nN) (b := i + 1) (by omega) (by omega)).mp c_39_20
                refine lv_dload hx hb dX7_open_74 (lv_at hl 1 rfl) ?_
                refine lv_dload_n hx hb dX7_open_76 rfl (lv_at hl 2 rfl) ?_
                refine lv_dsub hx hb dX7_open_77 (by rw [hm, hM]; exact fB_ne (sp_n hp2 (by omega)) (by decide)) ?_
                exact hret hS hP dX7_open_78 (⟨Or.inl ⟨by omega, Or.inr (Or.inr ⟨rfl, by rw [hm, hM, show i = nN - 1 by omega]; rfl⟩)⟩, rfl⟩)
              · skip
                have c_39_20 : ¬ (nN ≤ i + 1) := fun q => c_39_20 ((nI_leI (a := nN) (b := i + 1) (by omega) (by omega)).mpr q)
                refine lv_dload_n hx hb dX7_open_42 rfl (lv_at hl 2 rfl) ?_
                refine lv_aload_n hx hb dX7_open_43 rfl (lv_at hl 3 rfl) ?_
                refine lv_iload hx hb dX7_open_44 (lv_at hl 0 rfl) ?_
                refine lv_iload_n hx hb dX7_open_46 rfl (lv_at hl 4 rfl) ?_
                refine gcd (va_runV (As := [.int (nI (i + 1)), .int (nI 2)]) (rest := [.double (m_)]) ⟨hx, hb, hml, hown, hts⟩ (kX7_at l D cs ad hd H.size (((nN, px, py, pz, fx, fy, fz, lf, ld, fi), (nB, fr, tt, ln, wi, sg, pu), (nR, rd, rx, ry, wv, fo), (re, dg), (nP, tp, bt, dp)), (nQ, fu)) hnN (nI (i + 1)) (nI 2)) (cwV 2 hts gX7_open_X7_at rfl rfl rfl (by decide +kernel) ⟨Nat.le_of_ble_eq_true rfl, Nat.le_of_ble_eq_true rfl⟩) (gPreV (EM_bl) (va_recv hK hP (ci := 7) (q0 := 0) rfl rfl) hP (fun U _ hW => EM_warm hW hE)) rfl rfl hl.1 rfl (lv_room (Nat.le_of_ble_eq_true rfl)) dX7_open_47 ⟨Nat.zero_le _, Nat.zero_le _⟩) hS (fun v_23 u_ H locs hw hP hS => ?_)
                obtain ⟨hw, rfl⟩ := hw
                have ev_23 : v_23 = pz (i + 1) := at_2 hnN (k := i + 1) (by omega) hw
                subst ev_23
                refine xdmin hx hb (hml.trans hl.1.symm) hown (hts (.methodLink RX7 187 yJ9_min_eb370) (by decide +kernel)) (hts (.static yJ9_min_eb370) (by decide +kernel)) (hts (.initialized RJ9) (by decide +kernel)) (hts _ (List.mem_of_getElem? (i := 18) rfl)) (by decide) (Nat.le_of_ble_eq_true rfl) (Nat.le_of_ble_eq_true rfl) (Nat.zero_le _) (Nat.zero_le _) (by rw [hm]; exact pOK_nn (mn_ok hp2 i (by omega))) (pOK_nn (hp2 _ (by omega))) (by rw [hm]; exact (mn_ok hp2 i (by omega)).2) ((hp2 _ (by omega)).2) dX7_open_50 ?_
                refine lv_dstore_n (lv' := [(2, .double (minF (m_) (pz (i + 1)))), (6, .int (nI (i + 1))), (4, .double (M_)), (0, .ref (ad 0)), (1, .int (nI 2))]) hx hb dX7_open_53 rfl hl (by decide) rfl (fun ls hl => ?_)
                refine lv_dload hx hb dX7_open_54 (lv_at hl 2 rfl) ?_
                refine lv_aload_n hx hb dX7_open_56 rfl (lv_at hl 3 rfl) ?_
                refine lv_iload hx hb dX7_open_57 (lv_at hl 1 rfl) ?_
                refine lv_iload_n hx hb dX7_open_59 rfl (lv_at hl 4 rfl) ?_
                refine gcd (va_runV (As := [.int (nI (i + 1)), .int (nI 2)]) (rest := [.double (M_)]) ⟨hx, hb, hml, hown, hts⟩ (kX7_at l D cs ad hd H.size (((nN, px, py, pz, fx, fy, fz, lf, ld, fi), (nB, fr, tt, ln, wi, sg, pu), (nR, rd, rx, ry, wv, fo), (re, dg), (nP, tp, bt, dp)), (nQ, fu)) hnN (nI (i + 1)) (nI 2)) (cwV 2 hts gX7_open_X7_at rfl rfl rfl (by decide +kernel) ⟨Nat.le_of_ble_eq_true rfl, Nat.le_of_ble_eq_true rfl⟩) (gPreV (EM_bl) (va_recv hK hP (ci := 7) (q0 := 0) rfl rfl) hP (fun U _ hW => EM_warm hW hE)) rfl rfl hl.1 rfl (lv_room (Nat.le_of_ble_eq_true rfl)) dX7_open_60 ⟨Nat.zero_le _, Nat.zero_le _⟩) hS (fun v_24 u_ H locs hw hP hS => ?_)
                obtain ⟨hw, rfl⟩ := hw
                have ev_24 : v_24 = pz (i + 1) := at_2 hnN (k := i + 1) (by omega) hw
                subst ev_24
                refine xdmax hx hb (hml.trans hl.1.symm) hown (hts (.methodLink RX7 158 yJ9_max_eb370) (by decide +kernel)) (hts (.static yJ9_max_eb370) (by decide +kernel)) (hts (.initialized RJ9) (by decide +kernel)) (hts _ (List.mem_of_getElem? (i := 26) rfl)) (by decide) (Nat.le_of_ble_eq_true rfl) (Nat.le_of_ble_eq_true rfl) (Nat.zero_le _) (Nat.zero_le _) (by rw [hM]; exact pOK_nn (mx_ok hp2 i (by omega))) (pOK_nn (hp2 _ (by omega))) (by rw [hM]; exact (mx_ok hp2 i (by omega)).2) ((hp2 _ (by omega)).2) dX7_open_63 ?_
                refine lv_dstore (lv' := [(4, .double (maxF (M_) (pz (i + 1)))), (2, .double (minF (m_) (pz (i + 1)))), (6, .int (nI (i + 1))), (0, .ref (ad 0)), (1, .int (nI 2))]) hx hb dX7_open_66 hl (by decide) rfl (fun ls hl => ?_)
                refine lv_iinc (v := nI (i + 1 + 1)) (lv' := [(6, .int (nI (i + 1 + 1))), (4, .double (maxF (M_) (pz (i + 1)))), (2, .double (minF (m_) (pz (i + 1)))), (0, .ref (ad 0)), (1, .int (nI 2))]) hx hb dX7_open_68 hl (k := 2) rfl (nI_add _ _) (by decide) rfl (fun ls hl => ?_)
                refine lv_goto (tgt := 33) hx hb dX7_open_71 (by decide) ?_
                exact ih_33 (i + 1) (minF (m_) (pz (i + 1))) (maxF (M_) (pz (i + 1))) (by omega) (by omega) (by rw [hm]; exact mn_min hp2 (by omega)) (by rw [hM]; exact mx_max hp2 (by omega)) _ _ hP hS ls (lv_sub hl [0, 1, 2, 3, 4] rfl)
          exact L_33_19 (nN + 1) (0) (pz 0) (pz 0) (by omega) (by omega) rfl rfl _ _ hP hS ls (lv_sub hl [0, 1, 2, 3, 4] rfl)
      · skip
        refine lv_ldc2d hx hb hown c_66 dX7_open_16 ?_
        exact hret hS hP dX7_open_19 (⟨Or.inr ⟨fun q => inN_nle (by decide) c_13_3 q.2, rfl⟩, rfl⟩)
theorem iX3_hasMirrorImage_X3 : ∀ w ∈ u_ws RX3 TX3 6, w ∈ wsX3_hasMirrorImage := by decide +kernel
set_option maxHeartbeats 4000000 in
set_option maxRecDepth 100000 in
theorem kX3_hasMirrorImage (l : Launch) (D : va_G) (cs : Nat → ClassId) (ad : Nat → Nat) (hd : distX ad) (sz : Nat) (S : XS) (hnN : S.1.1.1 ≤ 30)(hpos : posOK (S.1.1.1) (S.1.1.2.1) (S.1.1.2.2.1) (S.1.1.2.2.2.1)) (j : Nat) (hj : j < S.1.1.1) : Met l yX3_hasMirrorImage wsX3_hasMirrorImage ({ frames := 0, cells := 0, slots := 0, locals := 0 } : Room) (gP D (WX cs ad) (EX D cs) S sz ([.ref (ad 1), .int (nI j)] : List Value)) (va_Qi (fun r u => u = S ∧ ((r = nI 1 ∧ hasM (S.1.1.1) (S.1.1.2.1) (S.1.1.2.2.1) (S.1.1.2.2.2.1) j) ∨ (r = nI 0 ∧ ¬ hasM (S.1.1.1) (S.1.1.2.1) (S.1.1.2.2.1) (S.1.1.2.2.2.1) j))) (gB D (WX cs ad)) (gA (AX ad) sz)) 0 0 (gA (AX ad) sz) := by
  obtain ⟨⟨⟨nN, px, py, pz, fx, fy, fz, lf, ld, fi⟩, ⟨nB, fr, tt, ln, wi, sg, pu⟩, ⟨nR, rd, rx, ry, wv, fo⟩, ⟨re, dg⟩, ⟨nP, tp, bt, dp⟩⟩, ⟨sp, ac, kp, kc, kn, aw, dw, su, ss, sd⟩⟩ := S
  have hnN : nN ≤ 30 := hnN
  have hpos : ∀ j, j < nN → pOK (px j) ∧ pOK (py j) ∧ pOK (pz j) := hpos
  have hp0 : ∀ j, j < nN → pOK (px j) := fun j hj => (hpos j hj).1
  have hp1 : ∀ j, j < nN → pOK (py j) := fun j hj => (hpos j hj).2.1
  have hp2 : ∀ j, j < nN → pOK (pz j) := fun j hj => (hpos j hj).2.2
  have hj : j < nN := hj
  refine gMz (cc := cX3_hasMirrorImage) (maxL := 5) (plainFor_of_name (by decide)) rfl (Nat.le_of_ble_eq_true rfl) ?_
  intro p e s m below meth c Q hx hb hts hown hml hsz hE hret H locs hP hS ls hl
  subst hsz
  have hown : s.vm.findClass RX3 = some m.cls := hown
  have hK : va_K D vwCl (tysX cs) s := hE.1
  have hD : ∀ u, va_D (gA (AX ad) s.heap.size) (WX cs ad u) := fun u => WX_D hd u
  have hl : lv_has ls 5 [(0, .ref (ad 1)), (1, .int (nI j))] := hl
  have f_11 := hts (.fieldLink RX3 11 "NetShapes$Nodes" "places" "[[D") (by decide +kernel)
  have f_30 := hts (.fieldLink RX3 30 "NetShapes$Nodes" "count" "I") (by decide +kernel)
  refine lv_dconst0 hx hb dX3_hasMirrorImage_0 ?_
  refine lv_aload_n hx hb dX3_hasMirrorImage_1 rfl (lv_at hl 0 rfl) ?_
  refine va_get (D := D) (ci := 3) (v := .ref (ad 7)) (C := RX3) (T := TX3) (N := 6) hx hb hts iX3_hasMirrorImage_X3 hown hK hP 1 rfl rfl 0 (by decide) f_11 (fun _ h9 => h9) rfl dX3_hasMirrorImage_2 ?_
  refine lv_iconst (v := nI 0) hx hb dX3_hasMirrorImage_5 (by decide) ?_
  refine xal hx hb hK hP 7 3 rfl rfl (j := 0) (v := ad 30) (by decide) (by decide) rfl dX3_hasMirrorImage_6 ?_
  refine lv_iload_n hx hb dX3_hasMirrorImage_7 rfl (lv_at hl 1 rfl) ?_
  refine xdl hx hb hK hP 30 0 rfl rfl (j := j) (by decide) (by omega) dX3_hasMirrorImage_8 ?_
  refine lv_dsub hx hb dX3_hasMirrorImage_9 (fB_ne (fB_sub (M := 1039) fB_c0 (hp0 _ (by omega)).1 (by omega) (by omega) (by omega)) (by omega)) ?_
  refine lv_dstore_n (lv' := [(2, .double (FP.dsub (FP.dconst0) (px j))), (0, .ref (ad 1)), (1, .int (nI j))]) hx hb dX3_hasMirrorImage_10 rfl hl (by decide) rfl (fun ls hl => ?_)
  refine lv_iconst (v := nI 0) hx hb dX3_hasMirrorImage_11 (by decide) ?_
  refine lv_istore (lv' := [(4, .int (nI 0)), (2, .double (FP.dsub (FP.dconst0) (px j))), (0, .ref (ad 1)), (1, .int (nI j))]) hx hb dX3_hasMirrorImage_12 hl (by decide) rfl (fun ls hl => ?_)
  have L_14_3 : ∀ (n_14 i : Nat) , (nN + 1 ≤ i + n_14) → (i ≤ nN) → (∀ k, k < i → ¬ mir1 px py pz j k) → ∀ (H : Heap) (locs : List Loc), va_P D vwCl (WX cs ad (((nN, px, py, pz, fx, fy, fz, lf, ld, fi), (nB, fr, tt, ln, wi, sg, pu), (nR, rd, rx, ry, wv, fo), (re, dg), (nP, tp, bt, dp)), (sp, ac, kp, kc, kn, aw, dw, su, ss, sd))) H → va_S (gA (AX ad) s.heap.size) s.heap H locs → ∀ (ls : Array Slot), lv_has ls 5 [(4, .int (nI i)), (2, .double (FP.dsub (FP.dconst0) (px j))), (0, .ref (ad 1)), (1, .int (nI j))] → W p l e ({ frames := 0, cells := 0, slots := 0, locals := 0 } : Room) s m ([.ref (ad 1), .int (nI j)] : List Value).toArray below meth c H locs 0 0 Q (F0 m 14 ls []) := by
    intro n_14; induction n_14 with
    | zero => intro i hf_14 hi hno H locs hP hS ls hl; exact absurd hf_14 (by omega)
    | succ n_14 ih_14 =>
      intro i hf_14 hi hno H locs hP hS ls hl
      refine lv_iload hx hb dX3_hasMirrorImage_14 (lv_at hl 0 rfl) ?_
      refine lv_aload_n hx hb dX3_hasMirrorImage_16 rfl (lv_at hl 2 rfl) ?_
      refine va_get (D := D) (ci := 3) (v := .int (nI nN)) (C := RX3) (T := TX3) (N := 6) hx hb hts iX3_hasMirrorImage_X3 hown hK hP 1 rfl rfl 5 (by decide) f_30 (fun _ h9 => h9) rfl dX3_hasMirrorImage_17 ?_
      refine lv_icmp_ge (tgt := 87) hx hb dX3_hasMirrorImage_20 (by decide) (fun c_20_4 => ?_) (fun c_20_4 => ?_)
      · skip
        have c_20_4 : nN ≤ i := (nI_leI (a := nN) (b := i) (by omega) (by omega)).mp c_20_4
        refine lv_iconst (v := nI 0) hx hb dX3_hasMirrorImage_87 (by decide) ?_
        exact hret hS hP dX3_hasMirrorImage_88 (Or.inl rfl) (⟨rfl, Or.inr ⟨rfl, fun ⟨k, hk, q⟩ => hno k (by have hk : k < nN := hk; omega) q⟩⟩)
      · skip
        have c_20_4 : ¬ (nN ≤ i) := fun q => c_20_4 ((nI_leI (a := nN) (b := i) (by omega) (by omega)).mpr q)
        refine lv_aload_n hx hb dX3_hasMirrorImage_23 rfl (lv_at hl 2 rfl) ?_
        refine va_get (D := D) (ci := 3) (v := .ref (ad 7)) (C := RX3) (T := TX3) (N := 6) hx hb hts iX3_hasMirrorImage_X3 hown hK hP 1 rfl rfl 0 (by decide) f_11 (fun _ h9 => h9) rfl dX3_hasMirrorImage_24 ?_
        refine lv_iconst (v := nI 0) hx hb dX3_hasMirrorImage_27 (by decide) ?_
        refine xal hx hb hK hP 7 3 rfl rfl (j := 0) (v := ad 30) (by decide) (by decide) rfl dX3_hasMirrorImage_28 ?_
        refine lv_iload hx hb dX3_hasMirrorImage_29 (lv_at hl 0 rfl) ?_
        refine xdl hx hb hK hP 30 0 rfl rfl (j := i) (by decide) (by omega) dX3_hasMirrorImage_31 ?_
        refine lv_dload_n hx hb dX3_hasMirrorImage_32 rfl (lv_at hl 1 rfl) ?_
        refine xc_leq (tgt := 81) hx hb dX3_hasMirrorImage_33 dX3_hasMirrorImage_34 (by decide) (fun c_33_5 => ?_) (fun c_33_5 => ?_)
        · skip
          refine lv_iinc (v := nI (i + 1)) (lv' := [(4, .int (nI (i + 1))), (2, .double (FP.dsub (FP.dconst0) (px j))), (0, .ref (ad 1)), (1, .int (nI j))]) hx hb dX3_hasMirrorImage_81 hl (k := 0) rfl (nI_add _ _) (by decide) rfl (fun ls hl => ?_)
          refine lv_goto (tgt := 14) hx hb dX3_hasMirrorImage_84 (by decide) ?_
          exact ih_14 (i + 1)  (by omega) (by omega) (fun k hk q => by
                by_cases e : k = i
                · rw [e] at q; exact c_33_5 q.1
                · exact hno k (by omega) q) _ _ hP hS ls (lv_sub hl [0, 1, 2, 3] rfl)
        · skip
          refine lv_aload_n hx hb dX3_hasMirrorImage_37 rfl (lv_at hl 2 rfl) ?_
          refine va_get (D := D) (ci := 3) (v := .ref (ad 7)) (C := RX3) (T := TX3) (N := 6) hx hb hts iX3_hasMirrorImage_X3 hown hK hP 1 rfl rfl 0 (by decide) f_11 (fun _ h9 => h9) rfl dX3_hasMirrorImage_38 ?_
          refine lv_iconst (v := nI 1) hx hb dX3_hasMirrorImage_41 (by decide) ?_
          refine xal hx hb hK hP 7 3 rfl rfl (j := 1) (v := ad 31) (by decide) (by decide) rfl dX3_hasMirrorImage_42 ?_
          refine lv_iload hx hb dX3_hasMirrorImage_43 (lv_at hl 0 rfl) ?_
          refine xdl hx hb hK hP 31 0 rfl rfl (j := i) (by decide) (by omega) dX3_hasMirrorImage_45 ?_
          refine lv_aload_n hx hb dX3_hasMirrorImage_46 rfl (lv_at hl 2 rfl) ?_
          refine va_get (D := D) (ci := 3) (v := .ref (ad 7)) (C := RX3) (T := TX3) (N := 6) hx hb hts iX3_hasMirrorImage_X3 hown hK hP 1 rfl rfl 0 (by decide) f_11 (fun _ h9 => h9) rfl dX3_hasMirrorImage_47 ?_
          refine lv_iconst (v := nI 1) hx hb dX3_hasMirrorImage_50 (by decide) ?_
          refine xal hx hb hK hP 7 3 rfl rfl (j := 1) (v := ad 31) (by decide) (by decide) rfl dX3_hasMirrorImage_51 ?_
          refine lv_iload_n hx hb dX3_hasMirrorImage_52 rfl (lv_at hl 3 rfl) ?_
          refine xdl hx hb hK hP 31 0 rfl rfl (j := j) (by decide) (by omega) dX3_hasMirrorImage_53 ?_
          refine xc_leq (tgt := 81) hx hb dX3_hasMirrorImage_54 dX3_hasMirrorImage_55 (by decide) (fun c_54_6 => ?_) (fun c_54_6 => ?_)
          · skip
            refine lv_iinc (v := nI (i + 1)) (lv' := [(4, .int (nI (i + 1))), (2, .double (FP.dsub (FP.dconst0) (px j))), (0, .ref (ad 1)), (1, .int (nI j))]) hx hb dX3_hasMirrorImage_81 hl (k := 0) rfl (nI_add _ _) (by decide) rfl (fun ls hl => ?_)
            refine lv_goto (tgt := 14) hx hb dX3_hasMirrorImage_84 (by decide) ?_
            exact ih_14 (i + 1)  (by omega) (by omega) (fun k hk q => by
                  by_cases e : k = i
                  · rw [e] at q; exact c_54_6 q.2.1
                  · exact hno k (by omega) q) _ _ hP hS ls (lv_sub hl [0, 1, 2, 3] rfl)
          · skip
            refine lv_aload_n hx hb dX3_hasMirrorImage_58 rfl (lv_at hl 2 rfl) ?_
            refine va_get (D := D) (ci := 3) (v := .ref (ad 7)) (C := RX3) (T := TX3) (N := 6) hx hb hts iX3_hasMirrorImage_X3 hown hK hP 1 rfl rfl 0 (by decide) f_11 (fun _ h9 => h9) rfl dX3_hasMirrorImage_59 ?_
            refine lv_iconst (v := nI 2) hx hb dX3_hasMirrorImage_62 (by decide) ?_
            refine xal hx hb hK hP 7 3 rfl rfl (j := 2) (v := ad 32) (by decide) (by decide) rfl dX3_hasMirrorImage_63 ?_
            refine lv_iload hx hb dX3_hasMirrorImage_64 (lv_at hl 0 rfl) ?_
            refine xdl hx hb hK hP 32 0 rfl rfl (j := i) (by decide) (by omega) dX3_hasMirrorImage_66 ?_
            refine lv_aload_n hx hb dX3_hasMirrorImage_67 rfl (lv_at hl 2 rfl) ?_
            refine va_get (D := D) (ci := 3) (v := .ref (ad 7)) (C := RX3) (T := TX3) (N := 6) hx hb hts iX3_hasMirrorImage_X3 hown hK hP 1 rfl rfl 0 (by decide) f_11 (fun _ h9 => h9) rfl dX3_hasMirrorImage_68 ?_
            refine lv_iconst (v := nI 2) hx hb dX3_hasMirrorImage_71 (by decide) ?_
            refine xal hx hb hK hP 7 3 rfl rfl (j := 2) (v := ad 32) (by decide) (by decide) rfl dX3_hasMirrorImage_72 ?_
            refine lv_iload_n hx hb dX3_hasMirrorImage_73 rfl (lv_at hl 3 rfl) ?_
            refine xdl hx hb hK hP 32 0 rfl rfl (j := j) (by decide) (by omega) dX3_hasMirrorImage_74 ?_
            refine xc_leq (tgt := 81) hx hb dX3_hasMirrorImage_75 dX3_hasMirrorImage_76 (by decide) (fun c_75_7 => ?_) (fun c_75_7 => ?_)
            · skip
              refine lv_iinc (v := nI (i + 1)) (lv' := [(4, .int (nI (i + 1))), (2, .double (FP.dsub (FP.dconst0) (px j))), (0, .ref (ad 1)), (1, .int (nI j))]) hx hb dX3_hasMirrorImage_81 hl (k := 0) rfl (nI_add _ _) (by decide) rfl (fun ls hl => ?_)
              refine lv_goto (tgt := 14) hx hb dX3_hasMirrorImage_84 (by decide) ?_
              exact ih_14 (i + 1)  (by omega) (by omega) (fun k hk q => by
                    by_cases e : k = i
                    · rw [e] at q; exact c_75_7 q.2.2
                    · exact hno k (by omega) q) _ _ hP hS ls (lv_sub hl [0, 1, 2, 3] rfl)
            · skip
              refine lv_iconst (v := nI 1) hx hb dX3_hasMirrorImage_79 (by decide) ?_
              exact hret hS hP dX3_hasMirrorImage_80 (Or.inr rfl) (⟨rfl, Or.inl ⟨rfl, i, (show i < nN by omega), c_33_5, c_54_6, c_75_7⟩⟩)
  exact L_14_3 (nN + 1) (0)  (by omega) (by omega) (fun k hk => absurd hk (by omega)) _ _ hP hS ls (lv_sub hl [0, 1, 2, 3] rfl)
theorem iX6_mirrored_X3 : ∀ w ∈ u_ws RX3 TX3 6, w ∈ wsX6_mirrored := by decide +kernel
theorem iX6_mirrored_X6 : ∀ w ∈ u_ws RX6 TX6 6, w ∈ wsX6_mirrored := by decide +kernel
set_option maxHeartbeats 4000000 in
set_option maxRecDepth 100000 in
theorem kX6_mirrored (l : Launch) (D : va_G) (cs : Nat → ClassId) (ad : Nat → Nat) (hd : distX ad) (sz : Nat) (S : XS) (hnN : S.1.1.1 ≤ 30)(hpos : posOK (S.1.1.1) (S.1.1.2.1) (S.1.1.2.2.1) (S.1.1.2.2.2.1)) : Met l yX6_mirrored wsX6_mirrored ({ frames := 1, cells := 0, slots := 0, locals := 24 } : Room) (gP D (WX cs ad) (EX D cs) S sz ([.ref (ad 0)] : List Value)) (va_Qi (fun r u => q_mir S.1 r ∧ u = S) (gB D (WX cs ad)) (gA (AX ad) sz)) 0 0 (gA (AX ad) sz) := by
  obtain ⟨⟨⟨nN, px, py, pz, fx, fy, fz, lf, ld, fi⟩, ⟨nB, fr, tt, ln, wi, sg, pu⟩, ⟨nR, rd, rx, ry, wv, fo⟩, ⟨re, dg⟩, ⟨nP, tp, bt, dp⟩⟩, ⟨sp, ac, kp, kc, kn, aw, dw, su, ss, sd⟩⟩ := S
  have hnN : nN ≤ 30 := hnN
  have hpos : ∀ j, j < nN → pOK (px j) ∧ pOK (py j) ∧ pOK (pz j) := hpos
  have hp0 : ∀ j, j < nN → pOK (px j) := fun j hj => (hpos j hj).1
  have hp1 : ∀ j, j < nN → pOK (py j) := fun j hj => (hpos j hj).2.1
  have hp2 : ∀ j, j < nN → pOK (pz j) := fun j hj => (hpos j hj).2.2
  refine gMz (cc := cX6_mirrored) (maxL := 2) (plainFor_of_name (by decide)) rfl (Nat.le_of_ble_eq_true rfl) ?_
  intro p e s m below meth c Q hx hb hts hown hml hsz hE hret H locs hP hS ls hl
  subst hsz
  have hown : s.vm.findClass RX6 = some m.cls := hown
  have hK : va_K D vwCl (tysX cs) s := hE.1
  have hD : ∀ u, va_D (gA (AX ad) s.heap.size) (WX cs ad u) := fun u => WX_D hd u
  have hl : lv_has ls 2 [(0, .ref (ad 0))] := hl
  have f_10 := hts (.fieldLink RX6 10 "NetShapes" "nodes" "LNetShapes$Nodes;") (by decide +kernel)
  have f_53 := hts (.fieldLink RX6 53 "NetShapes$Nodes" "count" "I") (by decide +kernel)
  refine lv_iconst (v := nI 0) hx hb dX6_mirrored_0 (by decide) ?_
  refine lv_istore_n (lv' := [(1, .int (nI 0)), (0, .ref (ad 0))]) hx hb dX6_mirrored_1 rfl hl (by decide) rfl (fun ls hl => ?_)
  have L_2_1 : ∀ (n_2 i : Nat) , (nN + 1 ≤ i + n_2) → (i ≤ nN) → (∀ k, k < i → hasM nN px py pz k) → ∀ (H : Heap) (locs : List Loc), va_P D vwCl (WX cs ad (((nN, px, py, pz, fx, fy, fz, lf, ld, fi), (nB, fr, tt, ln, wi, sg, pu), (nR, rd, rx, ry, wv, fo), (re, dg), (nP, tp, bt, dp)), (sp, ac, kp, kc, kn, aw, dw, su, ss, sd))) H → va_S (gA (AX ad) s.heap.size) s.heap H locs → ∀ (ls : Array Slot), lv_has ls 2 [(1, .int (nI i)), (0, .ref (ad 0))] → W p l e ({ frames := 1, cells := 0, slots := 0, locals := 24 } : Room) s m ([.ref (ad 0)] : List Value).toArray below meth c H locs 0 0 Q (F0 m 2 ls []) := by
    intro n_2; induction n_2 with
    | zero => intro i hf_2 hi hal H locs hP hS ls hl; exact absurd hf_2 (by omega)
    | succ n_2 ih_2 =>
      intro i hf_2 hi hal H locs hP hS ls hl
      refine lv_iload_n hx hb dX6_mirrored_2 rfl (lv_at hl 0 rfl) ?_
      refine lv_aload_n hx hb dX6_mirrored_3 rfl (lv_at hl 1 rfl) ?_
      refine va_get (D := D) (ci := 6) (v := .ref (ad 1)) (C := RX6) (T := TX6) (N := 6) hx hb hts iX6_mirrored_X6 hown hK hP 0 rfl rfl 0 (by decide) f_10 (fun _ h9 => h9) rfl dX6_mirrored_4 ?_
      refine va_get (D := D) (ci := 3) (v := .int (nI nN)) (C := RX3) (T := TX3) (N := 6) hx hb hts iX6_mirrored_X3 hown hK hP 1 rfl rfl 5 (by decide) f_53 (fun _ h9 => h9) rfl dX6_mirrored_7 ?_
      refine lv_icmp_ge (tgt := 32) hx hb dX6_mirrored_10 (by decide) (fun c_10_2 => ?_) (fun c_10_2 => ?_)
      · skip
        have c_10_2 : nN ≤ i := (nI_leI (a := nN) (b := i) (by omega) (by omega)).mp c_10_2
        refine lv_iconst (v := nI 1) hx hb dX6_mirrored_32 (by decide) ?_
        exact hret hS hP dX6_mirrored_33 (Or.inr rfl) (⟨Or.inl ⟨rfl, fun k hk => hal k (by omega)⟩, rfl⟩)
      · skip
        have c_10_2 : ¬ (nN ≤ i) := fun q => c_10_2 ((nI_leI (a := nN) (b := i) (by omega) (by omega)).mpr q)
        refine lv_aload_n hx hb dX6_mirrored_13 rfl (lv_at hl 1 rfl) ?_
        refine va_get (D := D) (ci := 6) (v := .ref (ad 1)) (C := RX6) (T := TX6) (N := 6) hx hb hts iX6_mirrored_X6 hown hK hP 0 rfl rfl 0 (by decide) f_10 (fun _ h9 => h9) rfl dX6_mirrored_14 ?_
        refine lv_iload_n hx hb dX6_mirrored_17 rfl (lv_at hl 0 rfl) ?_
        refine gci (va_runV (As := [.int (nI i)]) (rest := []) ⟨hx, hb, hml, hown, hts⟩ (kX3_hasMirrorImage l D cs ad hd H.size (((nN, px, py, pz, fx, fy, fz, lf, ld, fi), (nB, fr, tt, ln, wi, sg, pu), (nR, rd, rx, ry, wv, fo), (re, dg), (nP, tp, bt, dp)), (sp, ac, kp, kc, kn, aw, dw, su, ss, sd)) hnN hpos i (show i < nN by omega)) (cwV 1 hts gX6_mirrored_X3_hasMirrorImage rfl rfl rfl (by decide +kernel) ⟨Nat.le_of_ble_eq_true rfl, Nat.le_of_ble_eq_true rfl⟩) (gPreV (EX_bl) (va_recv hK hP (ci := 3) (q0 := 1) rfl rfl) hP (fun U _ hW => EX_warm hW hE)) rfl rfl hl.1 rfl (lv_room (Nat.le_of_ble_eq_true rfl)) dX6_mirrored_18 ⟨Nat.zero_le _, Nat.zero_le _⟩) hS (fun r_ u_ H locs hw hP hS => ?_)
        obtain ⟨rfl, hw⟩ := hw
        rcases hw with ⟨rfl, b_3⟩ | ⟨rfl, b_3⟩
        · skip
          have b_3 : hasM nN px py pz i := b_3
          refine lv_if_ne (tgt := 26) hx hb dX6_mirrored_21 (by decide) (fun _ => ?_) (fun c_21_4 => absurd c_21_4 (by decide))
          refine lv_iinc (v := nI (i + 1)) (lv' := [(1, .int (nI (i + 1))), (0, .ref (ad 0))]) hx hb dX6_mirrored_26 hl (k := 0) rfl (nI_add _ _) (by decide) rfl (fun ls hl => ?_)
          refine lv_goto (tgt := 2) hx hb dX6_mirrored_29 (by decide) ?_
          exact ih_2 (i + 1)  (by omega) (by omega) (fun k hk => by by_cases e : k = i; (rw [e]; exact b_3); exact hal k (by omega)) _ _ hP hS ls (lv_sub hl [0, 1] rfl)
        · skip
          have b_3 : ¬ (hasM nN px py pz i) := b_3
          refine lv_if_ne (tgt := 26) hx hb dX6_mirrored_21 (by decide) (fun c_21_5 => absurd c_21_5 (by decide)) (fun _ => ?_)
          refine lv_iconst (v := nI 0) hx hb dX6_mirrored_24 (by decide) ?_
          exact hret hS hP dX6_mirrored_25 (Or.inl rfl) (⟨Or.inr ⟨rfl, fun q => b_3 (q i (by omega))⟩, rfl⟩)
  exact L_2_1 (nN + 1) (0)  (by omega) (by omega) (fun k hk => absurd hk (by omega)) _ _ hP hS ls (lv_sub hl [0, 1] rfl)
theorem iX7_mirrored_X7 : ∀ w ∈ u_ws RX7 TX7 31, w ∈ wsX7_mirrored := by decide +kernel
set_option maxHeartbeats 4000000 in
set_option maxRecDepth 100000 in
theorem kX7_mirrored (l : Launch) (D : va_G) (cs : Nat → ClassId) (ad : Nat → Nat) (hd : distM ad) (sz : Nat) (S : MS) (hnN : S.1.1.1 ≤ 30)(hpos : posOK (S.1.1.1) (S.1.1.2.1) (S.1.1.2.2.1) (S.1.1.2.2.2.1)) : Met l yX7_mirrored wsX7_mirrored ({ frames := 0, cells := 0, slots := 0, locals := 0 } : Room) (gP D (WM cs ad) (EM D cs) S sz ([.ref (ad 0)] : List Value)) (va_Qi (fun r u => q_mir S.1 r ∧ u = S) (gB D (WM cs ad)) (gA (AM ad) sz)) 0 0 (gA (AM ad) sz) := by
  obtain ⟨⟨⟨nN, px, py, pz, fx, fy, fz, lf, ld, fi⟩, ⟨nB, fr, tt, ln, wi, sg, pu⟩, ⟨nR, rd, rx, ry, wv, fo⟩, ⟨re, dg⟩, ⟨nP, tp, bt, dp⟩⟩, ⟨nQ, fu⟩⟩ := S
  have hnN : nN ≤ 30 := hnN
  have hpos : ∀ j, j < nN → pOK (px j) ∧ pOK (py j) ∧ pOK (pz j) := hpos
  have hp0 : ∀ j, j < nN → pOK (px j) := fun j hj => (hpos j hj).1
  have hp1 : ∀ j, j < nN → pOK (py j) := fun j hj => (hpos j hj).2.1
  have hp2 : ∀ j, j < nN → pOK (pz j) := fun j hj => (hpos j hj).2.2
  refine gMz (cc := cX7_mirrored) (maxL := 5) (plainFor_of_name (by decide)) rfl (Nat.le_of_ble_eq_true rfl) ?_
  intro p e s m below meth c Q hx hb hts hown hml hsz hE hret H locs hP hS ls hl
  subst hsz
  have hown : s.vm.findClass RX7 = some m.cls := hown
  have hK : va_K D vwCl (tysX cs) s := hE.1
  have hD : ∀ u, va_D (gA (AM ad) s.heap.size) (WM cs ad u) := fun u => WM_D hd u
  have hl : lv_has ls 5 [(0, .ref (ad 0))] := hl
  have f_7 := hts (.fieldLink RX7 7 "NetShapesModel" "x" "[D") (by decide +kernel)
  have f_13 := hts (.fieldLink RX7 13 "NetShapesModel" "y" "[D") (by decide +kernel)
  have f_16 := hts (.fieldLink RX7 16 "NetShapesModel" "z" "[D") (by decide +kernel)
  have f_89 := hts (.fieldLink RX7 89 "NetShapesModel" "nodes" "I") (by decide +kernel)
  refine lv_iconst (v := nI 1) hx hb dX7_mirrored_0 (by decide) ?_
  refine lv_istore_n (lv' := [(1, .int (nI 1)), (0, .ref (ad 0))]) hx hb dX7_mirrored_1 rfl hl (by decide) rfl (fun ls hl => ?_)
  refine lv_iconst (v := nI 0) hx hb dX7_mirrored_2 (by decide) ?_
  refine lv_istore_n (lv' := [(2, .int (nI 0)), (1, .int (nI 1)), (0, .ref (ad 0))]) hx hb dX7_mirrored_3 rfl hl (by decide) rfl (fun ls hl => ?_)
  have L_4_1 : ∀ (n_4 i : Nat) (a_ : Int32), (nN + 1 ≤ i + n_4) → (i ≤ nN) → (inM a_ (∀ k, k < i → hasM nN px py pz k)) → ∀ (H : Heap) (locs : List Loc), va_P D vwCl (WM cs ad (((nN, px, py, pz, fx, fy, fz, lf, ld, fi), (nB, fr, tt, ln, wi, sg, pu), (nR, rd, rx, ry, wv, fo), (re, dg), (nP, tp, bt, dp)), (nQ, fu))) H → va_S (gA (AM ad) s.heap.size) s.heap H locs → ∀ (ls : Array Slot), lv_has ls 5 [(2, .int (nI i)), (1, .int (a_)), (0, .ref (ad 0))] → W p l e ({ frames := 0, cells := 0, slots := 0, locals := 0 } : Room) s m ([.ref (ad 0)] : List Value).toArray below meth c H locs 0 0 Q (F0 m 4 ls []) := by
    intro n_4; induction n_4 with
    | zero => intro i a_ hf_4 hi ha H locs hP hS ls hl; exact absurd hf_4 (by omega)
    | succ n_4 ih_4 =>
      intro i a_ hf_4 hi ha H locs hP hS ls hl
      refine lv_iload_n hx hb dX7_mirrored_4 rfl (lv_at hl 0 rfl) ?_
      refine lv_aload_n hx hb dX7_mirrored_5 rfl (lv_at hl 2 rfl) ?_
      refine va_get (D := D) (ci := 7) (v := .int (nI nN)) (C := RX7) (T := TX7) (N := 31) hx hb hts iX7_mirrored_X7 hown hK hP 0 rfl rfl 0 (by decide) f_89 (fun _ h9 => h9) rfl dX7_mirrored_6 ?_
      refine lv_icmp_ge (tgt := 115) hx hb dX7_mirrored_9 (by decide) (fun c_9_2 => ?_) (fun c_9_2 => ?_)
      · skip
        have c_9_2 : nN ≤ i := (nI_leI (a := nN) (b := i) (by omega) (by omega)).mp c_9_2
        refine lv_iload_n hx hb dX7_mirrored_115 rfl (lv_at hl 1 rfl) ?_
        exact hret hS hP dX7_mirrored_116 (inM_01 ha) (⟨(show i = nN by omega) ▸ ha, rfl⟩)
      · skip
        have c_9_2 : ¬ (nN ≤ i) := fun q => c_9_2 ((nI_leI (a := nN) (b := i) (by omega) (by omega)).mpr q)
        refine lv_iconst (v := nI 0) hx hb dX7_mirrored_12 (by decide) ?_
        refine lv_istore_n (lv' := [(3, .int (nI 0)), (2, .int (nI i)), (1, .int (a_)), (0, .ref (ad 0))]) hx hb dX7_mirrored_13 rfl hl (by decide) rfl (fun ls hl => ?_)
        refine lv_iconst (v := nI 0) hx hb dX7_mirrored_14 (by decide) ?_
        refine lv_istore (lv' := [(4, .int (nI 0)), (3, .int (nI 0)), (2, .int (nI i)), (1, .int (a_)), (0, .ref (ad 0))]) hx hb dX7_mirrored_15 hl (by decide) rfl (fun ls hl => ?_)
        have L_17_3 : ∀ (n_17 j : Nat) (b_ : Int32), (nN + 1 ≤ j + n_17) → (j ≤ nN) → (inM b_ (∃ k, k < j ∧ mir1 px py pz i k)) → ∀ (H : Heap) (locs : List Loc), va_P D vwCl (WM cs ad (((nN, px, py, pz, fx, fy, fz, lf, ld, fi), (nB, fr, tt, ln, wi, sg, pu), (nR, rd, rx, ry, wv, fo), (re, dg), (nP, tp, bt, dp)), (nQ, fu))) H → va_S (gA (AM ad) s.heap.size) s.heap H locs → ∀ (ls : Array Slot), lv_has ls 5 [(4, .int (nI j)), (3, .int (b_)), (2, .int (nI i)), (1, .int (a_)), (0, .ref (ad 0))] → W p l e ({ frames := 0, cells := 0, slots := 0, locals := 0 } : Room) s m ([.ref (ad 0)] : List Value).toArray below meth c H locs 0 0 Q (F0 m 17 ls []) := by
          intro n_17; induction n_17 with
          | zero => intro j b_ hf_17 hj hb_ H locs hP hS ls hl; exact absurd hf_17 (by omega)
          | succ n_17 ih_17 =>
            intro j b_ hf_17 hj hb_ H locs hP hS ls hl
            refine lv_iload hx hb dX7_mirrored_17 (lv_at hl 0 rfl) ?_
            refine lv_aload_n hx hb dX7_mirrored_19 rfl (lv_at hl 4 rfl) ?_
            refine va_get (D := D) (ci := 7) (v := .int (nI nN)) (C := RX7) (T := TX7) (N := 31) hx hb hts iX7_mirrored_X7 hown hK hP 0 rfl rfl 0 (by decide) f_89 (fun _ h9 => h9) rfl dX7_mirrored_20 ?_
            refine lv_icmp_ge (tgt := 95) hx hb dX7_mirrored_23 (by decide) (fun c_23_4 => ?_) (fun c_23_4 => ?_)
            · skip
              have c_23_4 : nN ≤ j := (nI_leI (a := nN) (b := j) (by omega) (by omega)).mp c_23_4
              refine lv_iload_n hx hb dX7_mirrored_95 rfl (lv_at hl 3 rfl) ?_
              refine lv_if_eq (tgt := 107) hx hb dX7_mirrored_96 (by decide) (fun c_96_5 => ?_) (fun c_96_5 => ?_)
              · skip
                refine lv_iconst (v := nI 0) hx hb dX7_mirrored_107 (by decide) ?_
                refine lv_istore_n (lv' := [(1, .int (nI 0)), (4, .int (nI j)), (3, .int (b_)), (2, .int (nI i)), (0, .ref (ad 0))]) hx hb dX7_mirrored_108 rfl hl (by decide) rfl (fun ls hl => ?_)
                refine lv_iinc (v := nI (i + 1)) (lv' := [(2, .int (nI (i + 1))), (1, .int (nI 0)), (4, .int (nI j)), (3, .int (b_)), (0, .ref (ad 0))]) hx hb dX7_mirrored_109 hl (k := 3) rfl (nI_add _ _) (by decide) rfl (fun ls hl => ?_)
                refine lv_goto (tgt := 4) hx hb dX7_mirrored_112 (by decide) ?_
                exact ih_4 (i + 1) (nI 0) (by omega) (by omega) (al_no1 (inM_n ha c_96_5)) _ _ hP hS ls (lv_sub hl [0, 1, 4] rfl)
              · skip
                refine lv_iload_n hx hb dX7_mirrored_99 rfl (lv_at hl 1 rfl) ?_
                refine lv_if_eq (tgt := 107) hx hb dX7_mirrored_100 (by decide) (fun c_100_6 => ?_) (fun c_100_6 => ?_)
                · skip
                  refine lv_iconst (v := nI 0) hx hb dX7_mirrored_107 (by decide) ?_
                  refine lv_istore_n (lv' := [(1, .int (nI 0)), (4, .int (nI j)), (3, .int (b_)), (2, .int (nI i)), (0, .ref (ad 0))]) hx hb dX7_mirrored_108 rfl hl (by decide) rfl (fun ls hl => ?_)
                  refine lv_iinc (v := nI (i + 1)) (lv' := [(2, .int (nI (i + 1))), (1, .int (nI 0)), (4, .int (nI j)), (3, .int (b_)), (0, .ref (ad 0))]) hx hb dX7_mirrored_109 hl (k := 3) rfl (nI_add _ _) (by decide) rfl (fun ls hl => ?_)
                  refine lv_goto (tgt := 4) hx hb dX7_mirrored_112 (by decide) ?_
                  exact ih_4 (i + 1) (nI 0) (by omega) (by omega) (al_no2 (inM_n (P := hasM nN px py pz i) ((show j = nN by omega) ▸ hb_) c_100_6)) _ _ hP hS ls (lv_sub hl [0, 1, 4] rfl)
                · skip
                  refine lv_iconst (v := nI 1) hx hb dX7_mirrored_103 (by decide) ?_
                  refine lv_goto (tgt := 108) hx hb dX7_mirrored_104 (by decide) ?_
                  refine lv_istore_n (lv' := [(1, .int (nI 1)), (4, .int (nI j)), (3, .int (b_)), (2, .int (nI i)), (0, .ref (ad 0))]) hx hb dX7_mirrored_108 rfl hl (by decide) rfl (fun ls hl => ?_)
                  refine lv_iinc (v := nI (i + 1)) (lv' := [(2, .int (nI (i + 1))), (1, .int (nI 1)), (4, .int (nI j)), (3, .int (b_)), (0, .ref (ad 0))]) hx hb dX7_mirrored_109 hl (k := 3) rfl (nI_add _ _) (by decide) rfl (fun ls hl => ?_)
                  refine lv_goto (tgt := 4) hx hb dX7_mirrored_112 (by decide) ?_
                  exact ih_4 (i + 1) (nI 1) (by omega) (by omega) (al_yes (inM_y ha c_96_5) (inM_y (P := hasM nN px py pz i) ((show j = nN by omega) ▸ hb_) c_100_6)) _ _ hP hS ls (lv_sub hl [0, 1, 4] rfl)
            · skip
              have c_23_4 : ¬ (nN ≤ j) := fun q => c_23_4 ((nI_leI (a := nN) (b := j) (by omega) (by omega)).mpr q)
              refine lv_iload_n hx hb dX7_mirrored_26 rfl (lv_at hl 1 rfl) ?_
              refine lv_if_ne (tgt := 83) hx hb dX7_mirrored_27 (by decide) (fun c_27_7 => ?_) (fun c_27_7 => ?_)
              · skip
                refine lv_iconst (v := nI 1) hx hb dX7_mirrored_83 (by decide) ?_
                refine lv_goto (tgt := 88) hx hb dX7_mirrored_84 (by decide) ?_
                refine lv_istore_n (lv' := [(3, .int (nI 1)), (4, .int (nI j)), (2, .int (nI i)), (1, .int (a_)), (0, .ref (ad 0))]) hx hb dX7_mirrored_88 rfl hl (by decide) rfl (fun ls hl => ?_)
                refine lv_iinc (v := nI (j + 1)) (lv' := [(4, .int (nI (j + 1))), (3, .int (nI 1)), (2, .int (nI i)), (1, .int (a_)), (0, .ref (ad 0))]) hx hb dX7_mirrored_89 hl (k := 1) rfl (nI_add _ _) (by decide) rfl (fun ls hl => ?_)
                refine lv_goto (tgt := 17) hx hb dX7_mirrored_92 (by decide) ?_
                exact ih_17 (j + 1) (nI 1) (by omega) (by omega) (ex_keep (inM_y hb_ c_27_7)) _ _ hP hS ls (lv_sub hl [0, 1, 2, 3, 4] rfl)
              · skip
                refine lv_aload_n hx hb dX7_mirrored_30 rfl (lv_at hl 4 rfl) ?_
                refine va_get (D := D) (ci := 7) (v := .ref (ad 1)) (C := RX7) (T := TX7) (N := 31) hx hb hts iX7_mirrored_X7 hown hK hP 0 rfl rfl 1 (by decide) f_7 (fun _ h9 => h9) rfl dX7_mirrored_31 ?_
                refine lv_iload hx hb dX7_mirrored_34 (lv_at hl 0 rfl) ?_
                refine xdl hx hb hK hP 1 0 rfl rfl (j := j) (by decide) (by omega) dX7_mirrored_36 ?_
                refine lv_dconst0 hx hb dX7_mirrored_37 ?_
                refine lv_aload_n hx hb dX7_mirrored_38 rfl (lv_at hl 4 rfl) ?_
                refine va_get (D := D) (ci := 7) (v := .ref (ad 1)) (C := RX7) (T := TX7) (N := 31) hx hb hts iX7_mirrored_X7 hown hK hP 0 rfl rfl 1 (by decide) f_7 (fun _ h9 => h9) rfl dX7_mirrored_39 ?_
                refine lv_iload_n hx hb dX7_mirrored_42 rfl (lv_at hl 2 rfl) ?_
                refine xdl hx hb hK hP 1 0 rfl rfl (j := i) (by decide) (by omega) dX7_mirrored_43 ?_
                refine lv_dsub hx hb dX7_mirrored_44 (fB_ne (fB_sub (M := 1039) fB_c0 (hp0 _ (by omega)).1 (by omega) (by omega) (by omega)) (by omega)) ?_
                refine xc_leq (tgt := 87) hx hb dX7_mirrored_45 dX7_mirrored_46 (by decide) (fun c_45_10 => ?_) (fun c_45_10 => ?_)
                · skip
                  refine lv_iconst (v := nI 0) hx hb dX7_mirrored_87 (by decide) ?_
                  refine lv_istore_n (lv' := [(3, .int (nI 0)), (4, .int (nI j)), (2, .int (nI i)), (1, .int (a_)), (0, .ref (ad 0))]) hx hb dX7_mirrored_88 rfl hl (by decide) rfl (fun ls hl => ?_)
                  refine lv_iinc (v := nI (j + 1)) (lv' := [(4, .int (nI (j + 1))), (3, .int (nI 0)), (2, .int (nI i)), (1, .int (a_)), (0, .ref (ad 0))]) hx hb dX7_mirrored_89 hl (k := 1) rfl (nI_add _ _) (by decide) rfl (fun ls hl => ?_)
                  refine lv_goto (tgt := 17) hx hb dX7_mirrored_92 (by decide) ?_
                  exact ih_17 (j + 1) (nI 0) (by omega) (by omega) (ex_no (inM_n hb_ c_27_7) (fun q => c_45_10 q.1)) _ _ hP hS ls (lv_sub hl [0, 1, 2, 3, 4] rfl)
                · skip
                  refine lv_aload_n hx hb dX7_mirrored_49 rfl (lv_at hl 4 rfl) ?_
                  refine va_get (D := D) (ci := 7) (v := .ref (ad 2)) (C := RX7) (T := TX7) (N := 31) hx hb hts iX7_mirrored_X7 hown hK hP 0 rfl rfl 2 (by decide) f_13 (fun _ h9 => h9) rfl dX7_mirrored_50 ?_
                  refine lv_iload hx hb dX7_mirrored_53 (lv_at hl 0 rfl) ?_
                  refine xdl hx hb hK hP 2 0 rfl rfl (j := j) (by decide) (by omega) dX7_mirrored_55 ?_
                  refine lv_aload_n hx hb dX7_mirrored_56 rfl (lv_at hl 4 rfl) ?_
                  refine va_get (D := D) (ci := 7) (v := .ref (ad 2)) (C := RX7) (T := TX7) (N := 31) hx hb hts iX7_mirrored_X7 hown hK hP 0 rfl rfl 2 (by decide) f_13 (fun _ h9 => h9) rfl dX7_mirrored_57 ?_
                  refine lv_iload_n hx hb dX7_mirrored_60 rfl (lv_at hl 2 rfl) ?_
                  refine xdl hx hb hK hP 2 0 rfl rfl (j := i) (by decide) (by omega) dX7_mirrored_61 ?_
                  refine xc_leq (tgt := 87) hx hb dX7_mirrored_62 dX7_mirrored_63 (by decide) (fun c_62_11 => ?_) (fun c_62_11 => ?_)
                  · skip
                    refine lv_iconst (v := nI 0) hx hb dX7_mirrored_87 (by decide) ?_
                    refine lv_istore_n (lv' := [(3, .int (nI 0)), (4, .int (nI j)), (2, .int (nI i)), (1, .int (a_)), (0, .ref (ad 0))]) hx hb dX7_mirrored_88 rfl hl (by decide) rfl (fun ls hl => ?_)
                    refine lv_iinc (v := nI (j + 1)) (lv' := [(4, .int (nI (j + 1))), (3, .int (nI 0)), (2, .int (nI i)), (1, .int (a_)), (0, .ref (ad 0))]) hx hb dX7_mirrored_89 hl (k := 1) rfl (nI_add _ _) (by decide) rfl (fun ls hl => ?_)
                    refine lv_goto (tgt := 17) hx hb dX7_mirrored_92 (by decide) ?_
                    exact ih_17 (j + 1) (nI 0) (by omega) (by omega) (ex_no (inM_n hb_ c_27_7) (fun q => c_62_11 q.2.1)) _ _ hP hS ls (lv_sub hl [0, 1, 2, 3, 4] rfl)
                  · skip
                    refine lv_aload_n hx hb dX7_mirrored_66 rfl (lv_at hl 4 rfl) ?_
                    refine va_get (D := D) (ci := 7) (v := .ref (ad 3)) (C := RX7) (T := TX7) (N := 31) hx hb hts iX7_mirrored_X7 hown hK hP 0 rfl rfl 3 (by decide) f_16 (fun _ h9 => h9) rfl dX7_mirrored_67 ?_
                    refine lv_iload hx hb dX7_mirrored_70 (lv_at hl 0 rfl) ?_
                    refine xdl hx hb hK hP 3 0 rfl rfl (j := j) (by decide) (by omega) dX7_mirrored_72 ?_
                    refine lv_aload_n hx hb dX7_mirrored_73 rfl (lv_at hl 4 rfl) ?_
                    refine va_get (D := D) (ci := 7) (v := .ref (ad 3)) (C := RX7) (T := TX7) (N := 31) hx hb hts iX7_mirrored_X7 hown hK hP 0 rfl rfl 3 (by decide) f_16 (fun _ h9 => h9) rfl dX7_mirrored_74 ?_
                    refine lv_iload_n hx hb dX7_mirrored_77 rfl (lv_at hl 2 rfl) ?_
                    refine xdl hx hb hK hP 3 0 rfl rfl (j := i) (by decide) (by omega) dX7_mirrored_78 ?_
                    refine xc_leq (tgt := 87) hx hb dX7_mirrored_79 dX7_mirrored_80 (by decide) (fun c_79_12 => ?_) (fun c_79_12 => ?_)
                    · skip
                      refine lv_iconst (v := nI 0) hx hb dX7_mirrored_87 (by decide) ?_
                      refine lv_istore_n (lv' := [(3, .int (nI 0)), (4, .int (nI j)), (2, .int (nI i)), (1, .int (a_)), (0, .ref (ad 0))]) hx hb dX7_mirrored_88 rfl hl (by decide) rfl (fun ls hl => ?_)
                      refine lv_iinc (v := nI (j + 1)) (lv' := [(4, .int (nI (j + 1))), (3, .int (nI 0)), (2, .int (nI i)), (1, .int (a_)), (0, .ref (ad 0))]) hx hb dX7_mirrored_89 hl (k := 1) rfl (nI_add _ _) (by decide) rfl (fun ls hl => ?_)
                      refine lv_goto (tgt := 17) hx hb dX7_mirrored_92 (by decide) ?_
                      exact ih_17 (j + 1) (nI 0) (by omega) (by omega) (ex_no (inM_n hb_ c_27_7) (fun q => c_79_12 q.2.2)) _ _ hP hS ls (lv_sub hl [0, 1, 2, 3, 4] rfl)
                    · skip
                      refine lv_iconst (v := nI 1) hx hb dX7_mirrored_83 (by decide) ?_
                      refine lv_goto (tgt := 88) hx hb dX7_mirrored_84 (by decide) ?_
                      refine lv_istore_n (lv' := [(3, .int (nI 1)), (4, .int (nI j)), (2, .int (nI i)), (1, .int (a_)), (0, .ref (ad 0))]) hx hb dX7_mirrored_88 rfl hl (by decide) rfl (fun ls hl => ?_)
                      refine lv_iinc (v := nI (j + 1)) (lv' := [(4, .int (nI (j + 1))), (3, .int (nI 1)), (2, .int (nI i)), (1, .int (a_)), (0, .ref (ad 0))]) hx hb dX7_mirrored_89 hl (k := 1) rfl (nI_add _ _) (by decide) rfl (fun ls hl => ?_)
                      refine lv_goto (tgt := 17) hx hb dX7_mirrored_92 (by decide) ?_
                      exact ih_17 (j + 1) (nI 1) (by omega) (by omega) (ex_yes ⟨c_45_10, c_62_11, c_79_12⟩) _ _ hP hS ls (lv_sub hl [0, 1, 2, 3, 4] rfl)
        exact L_17_3 (nN + 1) (0) (nI 0) (by omega) (by omega) (Or.inr ⟨rfl, fun ⟨k, hk, _⟩ => absurd hk (by omega)⟩) _ _ hP hS ls (lv_sub hl [0, 1, 2, 3, 4] rfl)
  exact L_4_1 (nN + 1) (0) (nI 1) (by omega) (by omega) (Or.inl ⟨rfl, fun k hk => absurd hk (by omega)⟩) _ _ hP hS ls (lv_sub hl [0, 1, 2] rfl)
