/-! eighths, directions, sums that are not -0, places -/
theorem zmul_exact {a b V : UInt64} (ha : FP.Core.DFin a) (hb : FP.Core.DFin b) (hV : nn V) (h : zv V * ((2 ^ 1074 : Nat) : Int) = zv a * zv b) : zv (FP.dmul a b) = zv V := by
  have fa := FP.Core.val64_fits a
  have fb := FP.Core.val64_fits b
  obtain ⟨s, c, q, ea⟩ := ha
  obtain ⟨t, d, r, eb⟩ := hb
  unfold zv at h ⊢
  rw [ea, eb] at h
  rw [ea] at fa
  rw [eb] at fb
  obtain ⟨h1, h2, h3⟩ := FP.Core.product_units fa fb
  rw [show FP.dmul a b = FP.Core.dmul a b from rfl, FP.Core.val64_dmul, ea, eb, h1]
  have e4 : (FP.Core.b64.qmin - 2 * FP.Core.b64.qmin).toNat = 1074 := by decide +kernel
  have e5 : FP.Core.signed (s != t) (FP.Core.inUnits (c * d) (q + r) (2 * FP.Core.b64.qmin)) = FP.Core.zval FP.Core.b64 (FP.Core.val64 V) * ((2 ^ (FP.Core.b64.qmin - 2 * FP.Core.b64.qmin).toNat : Nat) : Int) := by
    rw [h3, FP.Core.signed_xor, e4, h]
    rfl
  refine Int.le_antisymm ?_ ?_
  · exact FP.Core.zval_round_le FP.Core.good_b64 (FP.Core.val64_fits V) hV (e0 := 2 * FP.Core.b64.qmin) (by decide) h2 (Int.le_of_eq e5)
  · exact FP.Core.zval_round_ge FP.Core.good_b64 (FP.Core.val64_fits V) hV (e0 := 2 * FP.Core.b64.qmin) (by decide) h2 (Int.le_of_eq e5.symm)
/-- whole numbers of a unit 2^-q are doubles -/
theorem val_exact (i : Int) (k : Nat) (hi : i.natAbs < 2 ^ 53) (hk : k ≤ 1074) : ∃ V : UInt64, nn V ∧ zv V = i * ((2 ^ (1074 - k) : Nat) : Int) := by
  have h1 : i.natAbs < 2 ^ FP.Core.b64.p := hi
  have hq : FP.Core.b64.qmax = 971 := by decide +kernel
  obtain ⟨c, q, e1, e2⟩ := FP.Core.round_exact FP.Core.good_b64 (decide (i < 0)) (c := i.natAbs) (q := -(k : Int)) h1 (by rw [FP.Core.qmin_b64]; omega) (by rw [hq]; omega)
  have hf := FP.Core.round_fits FP.Core.good_b64 (.fin (decide (i < 0)) i.natAbs (-(k : Int)))
  refine ⟨FP.Core.of64 (FP.Core.round FP.Core.b64 (.fin (decide (i < 0)) i.natAbs (-(k : Int)))), ?_, ?_⟩
  · unfold nn
    rw [FP.Core.val64_of64 hf, e1]
    exact FP.Core.Datum.noConfusion
  · unfold zv
    rw [FP.Core.val64_of64 hf, e1]
    show FP.Core.signed (decide (i < 0)) (FP.Core.inUnits c q FP.Core.b64.qmin) = _
    rw [e2]
    unfold FP.Core.inUnits
    rw [FP.Core.qmin_b64, show (-(k : Int) - (-1074)).toNat = 1074 - k by omega, FP.Core.signed_mul]
    congr 1
    unfold FP.Core.signed
    by_cases c : i < 0
    · simp [c]; omega
    · simp [c]; omega
/-- n eighths -/
def e8 (n : Int32) : UInt64 := FP.dmul (FP.i2d n) 4593671619917905920
theorem e8_fB (n : Int32) : fB 1055 (e8 n) := fB_mul (fB_i2d n) (fB_lit (K := 1021) (a := 4593671619917905920) (by decide +kernel)) (by decide) (by decide) (by decide)
theorem zv_c8 : zv 4593671619917905920 = ((2 ^ 1071 : Nat) : Int) := by decide +kernel
theorem e8_zv (n : Int32) : zv (e8 n) = n.toInt * ((2 ^ 1071 : Nat) : Int) := by
  have ha := FP.Core.int32_abs n
  have h2 : (2 : Nat) ^ 31 < 2 ^ 53 := by decide
  obtain ⟨V, hV, e⟩ := val_exact n.toInt 3 (by omega) (by decide)
  have z1 : zv (FP.i2d n) = n.toInt * ((2 ^ 1074 : Nat) : Int) := FP.Core.DInt_zval (FP.Core.i2d_int n)
  unfold e8
  rw [zmul_exact (FP.Core.i2d_fin n) (fB_fin (K := 1021) (a := 4593671619917905920) (fB_lit (by decide +kernel)) (by decide)) hV ?_, e]
  rw [e, z1, zv_c8]
  generalize ((2 ^ 1074 : Nat) : Int) = x
  show n.toInt * ((2 ^ 1071 : Nat) : Int) * x = _
  generalize ((2 ^ 1071 : Nat) : Int) = y
  rw [Int.mul_assoc, Int.mul_assoc, Int.mul_comm y x]
theorem p1071 : 0 < ((2 ^ 1071 : Nat) : Int) := by decide +kernel
theorem e8_lt {a b : Int32} (h : dlt (e8 a) (e8 b)) : a.toInt < b.toInt := by
  have h1 : zv (e8 a) < zv (e8 b) := (FP.Core.dcmp_lt.mp h).2.2
  rw [e8_zv, e8_zv] at h1
  exact Int.lt_of_mul_lt_mul_right h1 (Int.le_of_lt p1071)
/-- rows of different depths are an eighth apart at least -/
theorem e8_apart {a b : Int32} (h : dlt (e8 a) (e8 b)) : fL 1020 (FP.dsub (e8 b) (e8 a)) := by
  have h1 := e8_lt h
  have hb : fB 1057 (FP.dsub (e8 b) (e8 a)) := fB_sub (M := 1055) (e8_fB b) (e8_fB a) (by decide) (by decide) (by decide)
  refine ((fL_iff (L := 1020) (by decide) (by decide) (fB_nn hb (by decide))).mpr ?_).2
  refine zsub_ge (fB_fin (e8_fB b) (by decide)) (fB_fin (e8_fB a) (by decide)) (vL_nn (by decide)) ?_
  rw [e8_zv, e8_zv, ← Int.sub_mul]
  have e : zv (vL 1020) = 1 * ((2 ^ 1071 : Nat) : Int) := by decide +kernel
  rw [e]
  exact Int.mul_le_mul_of_nonneg_right (by omega) (Int.le_of_lt p1071)
-- directions
def isDir (d : UInt64) (e : Nat) : Prop := deq d (FP.i2d (nI (45 * e)))
def dchk (n : Nat) : Bool := if n % 360 = 0 then decide (deq (FP.dmul (FP.i2d (FP.d2i (FP.ddiv (e8 (nI n)) 4631530004285489152))) 4631530004285489152) (e8 (nI n))) && decide (FP.d2i (FP.ddiv (e8 (nI n)) 4631530004285489152) = nI (n / 360)) && decide (deq (e8 (nI n)) (FP.i2d (nI (45 * (n / 360))))) else decide (¬ deq (FP.dmul (FP.i2d (FP.d2i (FP.ddiv (e8 (nI n)) 4631530004285489152))) 4631530004285489152) (e8 (nI n)))
theorem dchk_all : ∀ a, a < 64 → ∀ b, b < 40 → dchk (40 * a + b) = true := by decide +kernel
theorem dir_range {n : Int32} (h : inR (e8 n) FP.dconst0 4644249154795601920) : ∃ k, k ≤ 2520 ∧ n = nI k := by
  have z1 := (FP.Core.dcmp_ge.mp h.1).2.2
  have z2 := (FP.Core.dcmp_le.mp h.2).2.2
  have e0 : zv FP.dconst0 = 0 * ((2 ^ 1071 : Nat) : Int) := by decide +kernel
  have e3 : zv 4644249154795601920 = 2520 * ((2 ^ 1071 : Nat) : Int) := by decide +kernel
  have z1 : zv FP.dconst0 ≤ zv (e8 n) := z1
  have z2 : zv (e8 n) ≤ zv 4644249154795601920 := z2
  rw [e8_zv, e0] at z1
  rw [e8_zv, e3] at z2
  have q1 := Int.le_of_mul_le_mul_right z1 p1071
  have q2 := Int.le_of_mul_le_mul_right z2 p1071
  refine ⟨n.toInt.toNat, by omega, Int32.toInt.inj ?_⟩
  rw [nI_toInt (by omega)]
  omega
theorem dir_in {d : UInt64} {e : Nat} (he : e < 8) (h : isDir d e) : inR d FP.dconst0 4644249154795601920 := by
  obtain ⟨h1, h2, h3⟩ := FP.Core.dcmp_eq.mp h
  have q : ∀ e, e < 8 → inR (FP.i2d (nI (45 * e))) FP.dconst0 4644249154795601920 := by decide +kernel
  obtain ⟨q1, q2⟩ := q e he
  have z1 := FP.Core.dcmp_ge.mp q1
  have z2 := FP.Core.dcmp_le.mp q2
  exact ⟨FP.Core.dcmp_ge.mpr ⟨h1, z1.2.1, by rw [h3]; exact z1.2.2⟩, FP.Core.dcmp_le.mpr ⟨h1, z2.2.1, by rw [h3]; exact z2.2.2⟩⟩
theorem dir_yes {n : Int32} (h : inR (e8 n) FP.dconst0 4644249154795601920) (c : deq (FP.dmul (FP.i2d (FP.d2i (FP.ddiv (e8 n) 4631530004285489152))) 4631530004285489152) (e8 n)) : ∃ e, e < 8 ∧ FP.d2i (FP.ddiv (e8 n) 4631530004285489152) = nI e ∧ isDir (e8 n) e := by
  obtain ⟨k, hk, rfl⟩ := dir_range h
  have q := dchk_all (k / 40) (by omega) (k % 40) (by omega)
  rw [show 40 * (k / 40) + k % 40 = k by omega] at q
  unfold dchk at q
  by_cases c0 : k % 360 = 0
  · rw [if_pos c0] at q
    simp only [Bool.and_eq_true, decide_eq_true_eq] at q
    exact ⟨k / 360, by omega, q.1.2, q.2⟩
  · rw [if_neg c0] at q
    exact absurd c (of_decide_eq_true q)
theorem dir_no {n : Int32} {e : Nat} (he : e < 8) (h : isDir (e8 n) e) : deq (FP.dmul (FP.i2d (FP.d2i (FP.ddiv (e8 n) 4631530004285489152))) 4631530004285489152) (e8 n) := by
  obtain ⟨k, hk, rfl⟩ := dir_range (dir_in he h)
  have q := dchk_all (k / 40) (by omega) (k % 40) (by omega)
  rw [show 40 * (k / 40) + k % 40 = k by omega] at q
  unfold dchk at q
  by_cases c0 : k % 360 = 0
  · rw [if_pos c0] at q
    simp only [Bool.and_eq_true, decide_eq_true_eq] at q
    exact q.1.1
  · exfalso
    have h3 : zv (e8 (nI k)) = zv (FP.i2d (nI (45 * e))) := (FP.Core.dcmp_eq.mp h).2.2
    have z2 : zv (FP.i2d (nI (45 * e))) = (nI (45 * e)).toInt * ((2 ^ 1074 : Nat) : Int) := FP.Core.DInt_zval (FP.Core.i2d_int _)
    rw [e8_zv, z2, nI_toInt (by omega), nI_toInt (by omega), show ((2 ^ 1074 : Nat) : Int) = 8 * ((2 ^ 1071 : Nat) : Int) by decide +kernel, ← Int.mul_assoc] at h3
    have h4 := Int.eq_of_mul_eq_mul_right (Int.ne_of_gt p1071) h3
    omega
theorem dir_same {d : UInt64} {e f : Nat} (he : e < 8) (hf : f < 8) (h1 : isDir d e) (h2 : isDir d f) : e = f := by
  have z1 : zv d = zv (FP.i2d (nI (45 * e))) := (FP.Core.dcmp_eq.mp h1).2.2
  have z2 : zv d = zv (FP.i2d (nI (45 * f))) := (FP.Core.dcmp_eq.mp h2).2.2
  have y1 : zv (FP.i2d (nI (45 * e))) = (nI (45 * e)).toInt * ((2 ^ 1074 : Nat) : Int) := FP.Core.DInt_zval (FP.Core.i2d_int _)
  have y2 : zv (FP.i2d (nI (45 * f))) = (nI (45 * f)).toInt * ((2 ^ 1074 : Nat) : Int) := FP.Core.DInt_zval (FP.Core.i2d_int _)
  rw [y1, nI_toInt (by omega)] at z1
  rw [y2, nI_toInt (by omega)] at z2
  have h4 := Int.eq_of_mul_eq_mul_right (Int.ne_of_gt (show 0 < ((2 ^ 1074 : Nat) : Int) by decide +kernel)) (z1.symm.trans z2)
  omega
