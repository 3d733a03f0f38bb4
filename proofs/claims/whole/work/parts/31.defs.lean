/-! the states of the two sides, their cells, what the tables say of them -/
abbrev DF : Type := Nat → UInt64
abbrev IF : Type := Nat → Int32
abbrev NS : Type := Nat × DF × DF × DF × DF × DF × DF × DF × DF × IF
abbrev BS : Type := Nat × IF × IF × DF × DF × DF × DF
abbrev RS : Type := Nat × DF × DF × DF × UInt64 × UInt64
abbrev OS : Type := UInt64 × DF
abbrev PS : Type := Nat × IF × IF × IF
abbrev CS : Type := DF × DF × DF × Nat × Nat × IF × IF × Int32 × Int32 × Int32
abbrev ES : Type := Nat × DF
abbrev GS : Type := NS × BS × RS × OS × PS
abbrev XS : Type := GS × CS
abbrev MS : Type := GS × ES
def row3 (a b c : Nat) : Nat → Option Nat := fun j => match j with
  | 0 => some a
  | 1 => some b
  | 2 => some c
  | _ => none
def WX (cs : Nat → ClassId) (ad : Nat → Nat) : XS → va_W := fun S => match S with
  | (((nN, px, py, pz, fx, fy, fz, lf, ld, fi), (nB, fr, tt, ln, wi, sg, pu), (nR, rd, rx, ry, wv, fo), (re, dg), (nP, tp, bt, dp)), (sp, ac, kp, kc, kn, aw, dw, su, ss, sd)) => [(ad 0, .inr (6, [.ref (ad 1), .ref (ad 2), .ref (ad 3), .ref (ad 4), .ref (ad 5), .ref (ad 6)])), (ad 1, .inr (3, [.ref (ad 7), .ref (ad 8), .ref (ad 9), .ref (ad 10), .ref (ad 11), .int (nI nN)])), (ad 2, .inr (1, [.ref (ad 12), .ref (ad 13), .ref (ad 14), .ref (ad 15), .ref (ad 16), .ref (ad 17), .int (nI nB)])), (ad 3, .inr (5, [.ref (ad 18), .ref (ad 19), .ref (ad 20), .int (nI nR), .double wv, .double fo])), (ad 4, .inr (0, [.ref (ad 1), .ref (ad 2), .ref (ad 3), .ref (ad 21), .double re, .ref (ad 22), .ref (ad 23)])), (ad 5, .inr (2, [.ref (ad 24), .int (nI kc), .int (nI kn)])), (ad 6, .inr (4, [.ref (ad 25), .ref (ad 26), .ref (ad 27), .ref (ad 28), .ref (ad 29), .int (nI nP), .int su, .int ss, .int sd])), (ad 7, .inl (cs 3, 3, .inr (.inr (.inr (.inr (row3 (ad 30) (ad 31) (ad 32))))))), (ad 8, .inl (cs 3, 3, .inr (.inr (.inr (.inr (row3 (ad 33) (ad 34) (ad 35))))))), (ad 9, .inl (cs 0, 30, .inr (.inr (.inr (.inl lf))))), (ad 10, .inl (cs 0, 30, .inr (.inr (.inr (.inl ld))))), (ad 11, .inl (cs 2, 30, .inl fi)), (ad 12, .inl (cs 1, 60, .inl fr)), (ad 13, .inl (cs 1, 60, .inl tt)), (ad 14, .inl (cs 0, 60, .inr (.inr (.inr (.inl ln))))), (ad 15, .inl (cs 0, 60, .inr (.inr (.inr (.inl wi))))), (ad 16, .inl (cs 0, 60, .inr (.inr (.inr (.inl sg))))), (ad 17, .inl (cs 0, 60, .inr (.inr (.inr (.inl pu))))), (ad 18, .inl (cs 0, 10, .inr (.inr (.inr (.inl rd))))), (ad 19, .inl (cs 0, 10, .inr (.inr (.inr (.inl rx))))), (ad 20, .inl (cs 0, 10, .inr (.inr (.inr (.inl ry))))), (ad 21, .inl (cs 0, 3, .inr (.inr (.inr (.inl dg))))), (ad 22, .inl (cs 0, 3, .inr (.inr (.inr (.inl sp))))), (ad 23, .inl (cs 0, 3, .inr (.inr (.inr (.inl ac))))), (ad 24, .inl (cs 0, 20, .inr (.inr (.inr (.inl kp))))), (ad 25, .inl (cs 1, 30, .inl tp)), (ad 26, .inl (cs 1, 30, .inl bt)), (ad 27, .inl (cs 1, 30, .inl dp)), (ad 28, .inl (cs 1, 30, .inl aw)), (ad 29, .inl (cs 1, 30, .inl dw)), (ad 30, .inl (cs 0, 30, .inr (.inr (.inr (.inl px))))), (ad 31, .inl (cs 0, 30, .inr (.inr (.inr (.inl py))))), (ad 32, .inl (cs 0, 30, .inr (.inr (.inr (.inl pz))))), (ad 33, .inl (cs 0, 30, .inr (.inr (.inr (.inl fx))))), (ad 34, .inl (cs 0, 30, .inr (.inr (.inr (.inl fy))))), (ad 35, .inl (cs 0, 30, .inr (.inr (.inr (.inl fz)))))]
def WM (cs : Nat → ClassId) (ad : Nat → Nat) : MS → va_W := fun S => match S with
  | (((nN, px, py, pz, fx, fy, fz, lf, ld, fi), (nB, fr, tt, ln, wi, sg, pu), (nR, rd, rx, ry, wv, fo), (re, dg), (nP, tp, bt, dp)), (nQ, fu)) => [(ad 0, .inr (7, [.int (nI nN), .ref (ad 1), .ref (ad 2), .ref (ad 3), .ref (ad 4), .ref (ad 5), .ref (ad 6), .ref (ad 7), .ref (ad 8), .ref (ad 9), .int (nI nB), .ref (ad 10), .ref (ad 11), .ref (ad 12), .ref (ad 13), .ref (ad 14), .ref (ad 15), .int (nI nR), .ref (ad 16), .ref (ad 17), .ref (ad 18), .double wv, .double fo, .double re, .ref (ad 19), .int (nI nQ), .ref (ad 20), .int (nI nP), .ref (ad 21), .ref (ad 22), .ref (ad 23)])), (ad 1, .inl (cs 0, 30, .inr (.inr (.inr (.inl px))))), (ad 2, .inl (cs 0, 30, .inr (.inr (.inr (.inl py))))), (ad 3, .inl (cs 0, 30, .inr (.inr (.inr (.inl pz))))), (ad 4, .inl (cs 0, 30, .inr (.inr (.inr (.inl lf))))), (ad 5, .inl (cs 0, 30, .inr (.inr (.inr (.inl ld))))), (ad 6, .inl (cs 2, 30, .inl fi)), (ad 7, .inl (cs 0, 30, .inr (.inr (.inr (.inl fx))))), (ad 8, .inl (cs 0, 30, .inr (.inr (.inr (.inl fy))))), (ad 9, .inl (cs 0, 30, .inr (.inr (.inr (.inl fz))))), (ad 10, .inl (cs 1, 60, .inl fr)), (ad 11, .inl (cs 1, 60, .inl tt)), (ad 12, .inl (cs 0, 60, .inr (.inr (.inr (.inl ln))))), (ad 13, .inl (cs 0, 60, .inr (.inr (.inr (.inl wi))))), (ad 14, .inl (cs 0, 60, .inr (.inr (.inr (.inl sg))))), (ad 15, .inl (cs 0, 60, .inr (.inr (.inr (.inl pu))))), (ad 16, .inl (cs 0, 10, .inr (.inr (.inr (.inl rd))))), (ad 17, .inl (cs 0, 10, .inr (.inr (.inr (.inl rx))))), (ad 18, .inl (cs 0, 10, .inr (.inr (.inr (.inl ry))))), (ad 19, .inl (cs 0, 3, .inr (.inr (.inr (.inl dg))))), (ad 20, .inl (cs 0, 600, .inr (.inr (.inr (.inl fu))))), (ad 21, .inl (cs 1, 30, .inl tp)), (ad 22, .inl (cs 1, 30, .inl bt)), (ad 23, .inl (cs 1, 30, .inl dp))]
def tysX (cs : Nat → ClassId) : List (ClassId × FieldType) := [(cs 0, .double), (cs 1, .int), (cs 2, .boolean), (cs 3, .array .double)]
def distX (ad : Nat → Nat) : Prop := ∀ i j, i < 36 → j < 36 → ad i = ad j → i = j
def distM (ad : Nat → Nat) : Prop := ∀ i j, i < 24 → j < 24 → ad i = ad j → i = j
def AX (ad : Nat → Nat) : Nat → Prop := fun q => ∃ k, k < 36 ∧ q = ad k
def AM (ad : Nat → Nat) : Nat → Prop := fun q => ∃ k, k < 24 ∧ q = ad k
theorem at_map {ad : Nat → Nat} {n k : Nat} {ws : va_W} {q : Nat × va_E} (e : ws.map Prod.fst = (List.range n).map ad) (h : ws[k]? = some q) : k < n ∧ q.1 = ad k := by
  have h2 : ((List.range n).map ad)[k]? = some q.1 := by rw [← e, List.getElem?_map, h]; rfl
  rw [List.getElem?_map] at h2
  by_cases hk : k < n
  · rw [List.getElem?_range hk] at h2
    exact ⟨hk, (Option.some.inj h2).symm⟩
  · rw [List.getElem?_eq_none (by rw [List.length_range]; omega)] at h2
    cases h2
theorem WX_map (cs : Nat → ClassId) (ad : Nat → Nat) (S : XS) : (WX cs ad S).map Prod.fst = (List.range 36).map ad := by
  obtain ⟨⟨⟨nN, px, py, pz, fx, fy, fz, lf, ld, fi⟩, ⟨nB, fr, tt, ln, wi, sg, pu⟩, ⟨nR, rd, rx, ry, wv, fo⟩, ⟨re, dg⟩, ⟨nP, tp, bt, dp⟩⟩, ⟨sp, ac, kp, kc, kn, aw, dw, su, ss, sd⟩⟩ := S
  rfl
theorem WM_map (cs : Nat → ClassId) (ad : Nat → Nat) (S : MS) : (WM cs ad S).map Prod.fst = (List.range 24).map ad := by
  obtain ⟨⟨⟨nN, px, py, pz, fx, fy, fz, lf, ld, fi⟩, ⟨nB, fr, tt, ln, wi, sg, pu⟩, ⟨nR, rd, rx, ry, wv, fo⟩, ⟨re, dg⟩, ⟨nP, tp, bt, dp⟩⟩, ⟨nQ, fu⟩⟩ := S
  rfl
theorem WX_D {cs : Nat → ClassId} {ad : Nat → Nat} {sz : Nat} (hd : distX ad) (u : XS) : va_D (gA (AX ad) sz) (WX cs ad u) := ⟨fun i j p q hi hj e => hd i j (at_map (WX_map cs ad u) hi).1 (at_map (WX_map cs ad u) hj).1 (by rw [← (at_map (WX_map cs ad u) hi).2, ← (at_map (WX_map cs ad u) hj).2]; exact e), fun k q hk => Or.inl ⟨k, at_map (WX_map cs ad u) hk⟩⟩
theorem WM_D {cs : Nat → ClassId} {ad : Nat → Nat} {sz : Nat} (hd : distM ad) (u : MS) : va_D (gA (AM ad) sz) (WM cs ad u) := ⟨fun i j p q hi hj e => hd i j (at_map (WM_map cs ad u) hi).1 (at_map (WM_map cs ad u) hj).1 (by rw [← (at_map (WM_map cs ad u) hi).2, ← (at_map (WM_map cs ad u) hj).2]; exact e), fun k q hk => Or.inl ⟨k, at_map (WM_map cs ad u) hk⟩⟩
def EX (D : va_G) (cs : Nat → ClassId) (U : State) : Prop := va_K D vwCl (tysX cs) U ∧ va_Nw (.methodLinkNest RX0 82 yX6_root RX6) U ∧ va_Nw (.methodLinkNest RX3 34 yX6_size RX6) U
theorem EX_warm {D : va_G} {cs : Nat → ClassId} {s U : State} (hW : s.WarmedH U.vm) (h : EX D cs s) : EX D cs U := ⟨va_K.moved hW.alike h.1, va_Nw.warmM hW h.2.1, va_Nw.warmM hW h.2.2⟩
theorem EX_bl {D : va_G} {cs : Nat → ClassId} : gE (EX D cs) := fun U g mk a h => ⟨va_K.moved (u := U) (U := U.calling g mk a) (Vm.Alike.refl U.vm) h.1, va_Nw.same rfl (u := U) (U := U.calling g mk a) rfl h.2.1, va_Nw.same rfl (u := U) (U := U.calling g mk a) rfl h.2.2⟩
def EM (D : va_G) (cs : Nat → ClassId) (U : State) : Prop := va_K D vwCl (tysX cs) U ∧ True
theorem EM_warm {D : va_G} {cs : Nat → ClassId} {s U : State} (hW : s.WarmedH U.vm) (h : EM D cs s) : EM D cs U := ⟨va_K.moved hW.alike h.1, trivial⟩
theorem EM_bl {D : va_G} {cs : Nat → ClassId} : gE (EM D cs) := fun U g mk a h => ⟨va_K.moved (u := U) (U := U.calling g mk a) (Vm.Alike.refl U.vm) h.1, trivial⟩
/-! small numbers -/
def inN (n : Nat) (x : Int32) : Prop := ∃ j, j < n ∧ x = nI j
def inW (n : Nat) (x : Int32) : Prop := ∃ j, 1 ≤ j ∧ j ≤ n ∧ x = nI j
abbrev inR (v lo hi : UInt64) : Prop := dge v lo ∧ dle v hi
theorem inN_of {n : Nat} {x : Int32} (hn : n < 2 ^ 31) (h0 : ¬ x < 0) (h1 : ¬ nI n ≤ x) : inN n x := by
  obtain ⟨j, hj, rfl⟩ := nI_of h0
  exact ⟨j, Nat.lt_of_not_le (fun q => h1 ((nI_leI hn hj).mpr q)), rfl⟩
theorem inN_neg {n : Nat} {x : Int32} (hn : n < 2 ^ 31) (h : x < 0) : ¬ inN n x := by
  rintro ⟨j, hj, rfl⟩
  exact nI_pos (by omega) h
theorem inN_ge {n : Nat} {x : Int32} (hn : n < 2 ^ 31) (h : nI n ≤ x) : ¬ inN n x := by
  rintro ⟨j, hj, rfl⟩
  have := (nI_leI hn (by omega)).mp h
  omega
theorem inW_of {n : Nat} {x : Int32} (hn : n < 2 ^ 31) (h0 : ¬ x < nI 1) (h1 : ¬ nI n < x) : inW n x := by
  have h0' : ¬ x < 0 := fun q => h0 (by
    rw [Int32.lt_iff_toInt_lt] at q ⊢
    have e1 : (nI 1).toInt = 1 := nI_toInt (by decide)
    have e0 : (0 : Int32).toInt = 0 := rfl
    omega)
  obtain ⟨j, hj, rfl⟩ := nI_of h0'
  exact ⟨j, Nat.le_of_not_lt (fun q => h0 ((nI_ltI hj (by decide)).mpr q)), Nat.le_of_not_lt (fun q => h1 ((nI_ltI hn hj).mpr q)), rfl⟩
theorem inW_lo {n : Nat} {x : Int32} (hn : n < 2 ^ 31) (h : x < nI 1) : ¬ inW n x := by
  rintro ⟨j, h1, h2, rfl⟩
  have := (nI_ltI (by omega) (by decide)).mp h
  omega
theorem inW_hi {n : Nat} {x : Int32} (hn : n < 2 ^ 31) (h : nI n < x) : ¬ inW n x := by
  rintro ⟨j, h1, h2, rfl⟩
  have := (nI_ltI hn (by omega)).mp h
  omega
