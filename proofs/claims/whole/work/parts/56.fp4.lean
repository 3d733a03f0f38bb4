/-! doubles: squares, sums that are not -0, sizes, the greatest, places -/
theorem fP_sq {x : UInt64} (hx : FP.Core.DFin x) : fP (FP.dmul x x) := by
  have fx := FP.Core.val64_fits x
  obtain ⟨s, c, q, e⟩ := hx
  rw [e] at fx
  obtain ⟨h1, -, -⟩ := FP.Core.product_units fx fx
  have e2 : FP.Core.val64 (FP.dmul x x) = FP.Core.roundRatio FP.Core.b64 false (c * c) 1 (q + q) := by
    rw [show FP.dmul x x = FP.Core.dmul x x from rfl, FP.Core.val64_dmul, e, h1]
    cases s <;> rfl
  have hn : nn (FP.dmul x x) := by
    unfold nn
    rw [e2]
    exact FP.Core.roundRatio_ne_nan _ _ _ _ _
  exact (sgn_fP hn).mp (by rw [e2, FP.Core.sgn_roundRatio])
theorem fP_add {a b : UInt64} (ha : FP.Core.DFin a) (hb : FP.Core.DFin b) (pa : fP a) (pb : fP b) : fP (FP.dadd a b) := by
  have sa := (sgn_fP (fin_nn ha)).mpr pa
  have sb := (sgn_fP (fin_nn hb)).mpr pb
  obtain ⟨s, c, q, ea⟩ := ha
  obtain ⟨t, d, r, eb⟩ := hb
  rw [ea] at sa
  rw [eb] at sb
  have hs : s = false := sa
  have ht : t = false := sb
  subst hs
  subst ht
  have e2 : FP.Core.val64 (FP.dadd a b) = FP.Core.roundRatio FP.Core.b64 (FP.Core.sumSign false false (FP.Core.sumUnits false c q false d r (min q r))) (FP.Core.sumUnits false c q false d r (min q r)).natAbs 1 (min q r) := by
    rw [show FP.dadd a b = FP.Core.dadd a b from rfl, FP.Core.val64_dadd, ea, eb]
    rfl
  have hs2 : FP.Core.sumSign false false (FP.Core.sumUnits false c q false d r (min q r)) = false := by
    unfold FP.Core.sumSign
    by_cases h0 : FP.Core.sumUnits false c q false d r (min q r) = 0
    · rw [if_pos h0]; rfl
    · rw [if_neg h0]
      unfold FP.Core.sumUnits FP.Core.signed
      simp
      omega
  have hn : nn (FP.dadd a b) := by
    unfold nn
    rw [e2]
    exact FP.Core.roundRatio_ne_nan _ _ _ _ _
  exact (sgn_fP hn).mp (by rw [e2, FP.Core.sgn_roundRatio, hs2])
/-- what is added to something that is not -0 doesn't make it -0 -/
theorem nz_add {a b : UInt64} (ha : FP.Core.DFin a) (hb : FP.Core.DFin b) (hz : a ≠ 9223372036854775808) : FP.dadd a b ≠ 9223372036854775808 := by
  intro h
  have fa := FP.Core.val64_fits a
  have fb := FP.Core.val64_fits b
  obtain ⟨s, c, q, ea⟩ := ha
  obtain ⟨t, d, r, eb⟩ := hb
  rw [ea] at fa
  rw [eb] at fb
  have hq1 := fa.2.1
  have hq2 := fb.2.1
  generalize hv : FP.Core.sumUnits s c q t d r (min q r) = v
  have e2 : FP.Core.val64 (FP.dadd a b) = FP.Core.roundRatio FP.Core.b64 (FP.Core.sumSign s t v) v.natAbs 1 (min q r) := by
    rw [show FP.dadd a b = FP.Core.dadd a b from rfl, FP.Core.val64_dadd, ea, eb, ← hv]
    rfl
  have e3 : FP.Core.val64 (FP.dadd a b) = .fin true 0 FP.Core.b64.qmin := by rw [h]; exact FP.Core.val64_dzeroNeg
  have hsg : FP.Core.sumSign s t v = true := by
    have := FP.Core.sgn_roundRatio FP.Core.b64 (FP.Core.sumSign s t v) v.natAbs 1 (min q r)
    rw [← e2, e3] at this
    exact this.symm
  have hz0 : v.natAbs = 0 := by
    refine Nat.eq_zero_of_not_pos fun hp => ?_
    have hge := FP.Core.zmag_roundRatio_ge FP.Core.good_b64 (s := FP.Core.sumSign s t v) (A := v.natAbs) (B := 1) (e := min q r) (e0 := FP.Core.b64.qmin) (V := FP.Core.val64 1) (by decide) (FP.Core.val64_fits 1) (Int.le_refl _) (by omega) (by
      have z1 : FP.Core.zmag FP.Core.b64 (FP.Core.val64 1) = 1 := by decide +kernel
      rw [z1, Int.sub_self]
      unfold FP.Core.inUnits
      have hm : 1 ≤ v.natAbs * 2 ^ (min q r - FP.Core.b64.qmin).toNat := Nat.mul_pos hp (Nat.two_pow_pos (min q r - FP.Core.b64.qmin).toNat)
      rw [Int.toNat_zero, Nat.pow_zero, Nat.mul_one, Nat.mul_one]
      exact hm)
    rw [← e2, e3] at hge
    exact absurd hge (by decide +kernel)
  have hv0 : v = 0 := Int.natAbs_eq_zero.mp hz0
  unfold FP.Core.sumSign at hsg
  rw [if_pos hv0, Bool.and_eq_true] at hsg
  obtain ⟨rfl, rfl⟩ := hsg
  have hc : c = 0 := by
    rw [hv0] at hv
    unfold FP.Core.sumUnits FP.Core.signed FP.Core.inUnits at hv
    simp only [if_true] at hv
    have h1 : c * 2 ^ (q - min q r).toNat = 0 := by omega
    rcases Nat.mul_eq_zero.mp h1 with h | h
    · exact h
    · exact absurd h (Nat.ne_of_gt (Nat.two_pow_pos _))
  subst hc
  have hq := FP.Core.fits_zero_q FP.Core.good_b64 fa
  exact hz (FP.Core.val64_inj (by rw [ea]; exact FP.Core.Datum.noConfusion) (by rw [ea, hq]; exact FP.Core.val64_dzeroNeg.symm))
theorem nz_sub {a b : UInt64} (ha : FP.Core.DFin a) (hb : FP.Core.DFin b) (hz : a ≠ 9223372036854775808) : FP.dsub a b ≠ 9223372036854775808 := by
  rw [show FP.dsub a b = FP.Core.dsub a b from rfl, FP.Core.dsub_eq]
  exact nz_add ha (fin_neg hb) hz
theorem size_ok {f : UInt64} {K : Nat} (h : fB K f) (hz : f ≠ 9223372036854775808) : fB K (sizeF f) ∧ sizeF f ≠ 9223372036854775808 := by
  unfold sizeF
  by_cases c : dlt f FP.dconst0
  · rw [if_pos c]
    have hlt := f.toNat_lt
    have hx : (FP.dneg f).toNat = f.toNat ^^^ 2 ^ 63 := by
      unfold FP.dneg
      rw [UInt64.toNat_xor]
      rfl
    have hneg : 2 ^ 63 ≤ f.toNat := by
      refine Nat.le_of_not_lt fun q => ?_
      have h1 := FP.Core.zval_nonneg (FP.Core.dcmp_lt.mp c).1 q
      have h2 := (FP.Core.dcmp_lt.mp c).2.2
      have h3 : zv FP.dconst0 = 0 := by decide +kernel
      have h4 : zv f < zv FP.dconst0 := h2
      have h5 : 0 ≤ zv f := h1
      omega
    have hx2 : (FP.dneg f).toNat = f.toNat - 2 ^ 63 := by
      rw [hx]
      exact (FP.xor_top (a := f.toNat) (k := 63) hlt).2 hneg
    constructor
    · unfold fB at h ⊢
      rw [hx2]
      omega
    · intro q
      have h6 : (FP.dneg f).toNat = 9223372036854775808 := by rw [q]; rfl
      omega
  · rw [if_neg c]
    exact ⟨h, hz⟩
theorem key_inj {a b : UInt64} (ha : a ≠ 9223372036854775808) (hb : b ≠ 9223372036854775808) (h : FP.Core.dkey a = FP.Core.dkey b) : a = b := by
  have a1 : a.toNat ≠ 9223372036854775808 := fun q => ha (UInt64.toNat.inj (q.trans (by decide)))
  have b1 : b.toNat ≠ 9223372036854775808 := fun q => hb (UInt64.toNat.inj (q.trans (by decide)))
  have a2 := a.toNat_lt
  have b2 := b.toNat_lt
  unfold FP.Core.dkey at h
  refine UInt64.toNat.inj ?_
  by_cases ca : 2 ^ 63 ≤ a.toNat <;> by_cases cb : 2 ^ 63 ≤ b.toNat
  · rw [if_pos ca, if_pos cb] at h; omega
  · rw [if_pos ca, if_neg cb] at h; omega
  · rw [if_neg ca, if_pos cb] at h; omega
  · rw [if_neg ca, if_neg cb] at h; omega
/-- no NaN and not -0 -/
def zOK (x : UInt64) : Prop := nn x ∧ x ≠ 9223372036854775808
theorem maxF_key {a b : UInt64} (ha : zOK a) (hb : zOK b) : zOK (maxF a b) ∧ FP.Core.dkey (maxF a b) = max (FP.Core.dkey a) (FP.Core.dkey b) := by
  unfold maxF
  by_cases c : dge a b
  · rw [if_pos c]
    have := dge_key c
    exact ⟨ha, by omega⟩
  · rw [if_neg c]
    have : ¬ FP.Core.dkey b ≤ FP.Core.dkey a := fun q => c (FP.Core.dcmp_ge.mpr ⟨ha.1, hb.1, (zle_key hb.1 ha.1).mpr q⟩)
    exact ⟨hb, by omega⟩
theorem maxF_assoc {g a b c : UInt64} (hg : zOK g) (ha : zOK a) (hb : zOK b) (hc : zOK c) : maxF g (maxF a (maxF b c)) = maxF (maxF (maxF g a) b) c := by
  have k1 := maxF_key hb hc
  have k2 := maxF_key ha k1.1
  have k3 := maxF_key hg k2.1
  have k4 := maxF_key hg ha
  have k5 := maxF_key k4.1 hb
  have k6 := maxF_key k5.1 hc
  refine key_inj k3.1.2 k6.1.2 ?_
  rw [k3.2, k2.2, k1.2, k6.2, k5.2, k4.2]
  omega
-- places: at most M quarters from 0
def pP (M : Nat) (x : UInt64) : Prop := nn x ∧ -((M : Int) * ((2 ^ 1072 : Nat) : Int)) ≤ zv x ∧ zv x ≤ (M : Int) * ((2 ^ 1072 : Nat) : Int) ∧ x ≠ 9223372036854775808
theorem p1072 : 0 < ((2 ^ 1072 : Nat) : Int) := by decide +kernel
theorem pP_mono {M M2 : Nat} {x : UInt64} (h : pP M x) (hm : M ≤ M2) : pP M2 x := by
  obtain ⟨h1, h2, h3, h4⟩ := h
  have q : (M : Int) * ((2 ^ 1072 : Nat) : Int) ≤ (M2 : Int) * ((2 ^ 1072 : Nat) : Int) := Int.mul_le_mul_of_nonneg_right (by omega) (Int.le_of_lt p1072)
  exact ⟨h1, by omega, by omega, h4⟩
theorem pP_fB {M : Nat} {x : UInt64} (h : pP M x) (hM : M < 262144) : fB 1039 x := by
  obtain ⟨h1, h2, h3, -⟩ := h
  have q : (M : Int) * ((2 ^ 1072 : Nat) : Int) ≤ 262143 * ((2 ^ 1072 : Nat) : Int) := Int.mul_le_mul_of_nonneg_right (by omega) (Int.le_of_lt p1072)
  have e1 : zv 4679239978478206976 = 262143 * ((2 ^ 1072 : Nat) : Int) := by decide +kernel
  have e2 : zv 13902612015332982784 = -(262143 * ((2 ^ 1072 : Nat) : Int)) := by decide +kernel
  have k1 : inR x 13902612015332982784 4679239978478206976 := by
    refine ⟨FP.Core.dcmp_ge.mpr ⟨h1, by unfold FP.Core.val64; decide +kernel, ?_⟩, FP.Core.dcmp_le.mpr ⟨h1, by unfold FP.Core.val64; decide +kernel, ?_⟩⟩
    · show zv 13902612015332982784 ≤ zv x
      rw [e2]
      omega
    · show zv x ≤ zv 4679239978478206976
      rw [e1]
      omega
  exact inR_fB k1 (fB_lit (by decide +kernel)) (fB_lit (by decide +kernel))
theorem pP_pOK {M : Nat} {x : UInt64} (h : pP M x) (hM : M < 262144) : pOK x := ⟨pP_fB h hM, h.2.2.2⟩
theorem step_ok {f : UInt64} {K : Nat} (hf : fB K f) (hK : K ≤ 2040) : FP.Core.DFin (stepF f) ∧ -((2 ^ 1072 : Nat) : Int) ≤ zv (stepF f) ∧ zv (stepF f) ≤ ((2 ^ 1072 : Nat) : Int) := by
  have hb : fB 2047 (FP.dmul 4557750909289998844 f) := fB_mul (fB_lit (K := 1013) (a := 4557750909289998844) (by decide +kernel)) hf (by omega) (by omega) (by omega)
  have e1 : zv 4598175219545276416 = ((2 ^ 1072 : Nat) : Int) := by decide +kernel
  have e2 : zv 13821547256400052224 = -((2 ^ 1072 : Nat) : Int) := by decide +kernel
  have n1 : nn 4598175219545276416 := by unfold nn; decide +kernel
  have n2 : nn 13821547256400052224 := by unfold nn; decide +kernel
  have n3 := fB_nn hb (by decide)
  unfold stepF
  by_cases c1 : dgt (FP.dmul 4557750909289998844 f) 4598175219545276416
  · rw [if_pos c1]
    have := p1072
    exact ⟨fB_fin (K := 1022) (fB_lit (by decide +kernel)) (by decide), by rw [e1]; omega, by rw [e1]; omega⟩
  · rw [if_neg c1]
    by_cases c2 : dlt (FP.dmul 4557750909289998844 f) 13821547256400052224
    · rw [if_pos c2]
      have := p1072
      exact ⟨fB_fin (K := 1022) (fB_lit (by decide +kernel)) (by decide), by rw [e2]; omega, by rw [e2]; omega⟩
    · rw [if_neg c2]
      refine ⟨fB_fin hb (by decide), ?_, ?_⟩
      · rw [← e2]
        exact Int.not_lt.mp fun q => c2 (FP.Core.dcmp_lt.mpr ⟨n3, n2, q⟩)
      · rw [← e1]
        exact Int.not_lt.mp fun q => c1 (FP.Core.dcmp_gt.mpr ⟨n3, n1, q⟩)
theorem pP_step {M : Nat} {x f : UInt64} {K : Nat} (hx : pP M x) (hM : M < 262143) (hf : fB K f) (hK : K ≤ 2040) : pP (M + 1) (FP.dadd x (stepF f)) := by
  have bx := pP_fB hx (by omega)
  have fx := fB_fin bx (by decide)
  obtain ⟨s1, s2, s3⟩ := step_ok hf hK
  obtain ⟨V, hV, eV⟩ := val_exact ((M : Int) + 1) 2 (by omega) (by decide)
  obtain ⟨U, hU, eU⟩ := val_exact (-((M : Int) + 1)) 2 (by omega) (by decide)
  have e : ((2 ^ (1074 - 2) : Nat) : Int) = ((2 ^ 1072 : Nat) : Int) := rfl
  rw [e] at eV eU
  obtain ⟨h1, h2, h3, h4⟩ := hx
  have q1 : ((M : Int) + 1) * ((2 ^ 1072 : Nat) : Int) = (M : Int) * ((2 ^ 1072 : Nat) : Int) + ((2 ^ 1072 : Nat) : Int) := by rw [Int.add_mul, Int.one_mul]
  have q2 : -((M : Int) + 1) * ((2 ^ 1072 : Nat) : Int) = -((M : Int) * ((2 ^ 1072 : Nat) : Int) + ((2 ^ 1072 : Nat) : Int)) := by rw [Int.neg_mul, q1]
  have z1 := zadd_le fx s1 hV (by rw [eV, q1]; omega)
  have z2 := zadd_ge fx s1 hU (by rw [eU, q2]; omega)
  rw [eV] at z1
  rw [eU, Int.neg_mul] at z2
  have hn : nn (FP.dadd x (stepF f)) := by
    have := FP.Core.dadd_out ((FP.Core.notNaN_iff x).mpr h1) s1
    exact (FP.Core.notNaN_iff _).mp this
  exact ⟨hn, z2, z1, nz_add fx s1 h4⟩
theorem e8_place {n : Int32} (h : inR (e8 n) 13875379345695965184 4652007308841189376) : pP 4000 (e8 n) := by
  have z1 : zv 13875379345695965184 ≤ zv (e8 n) := (FP.Core.dcmp_ge.mp h.1).2.2
  have z2 : zv (e8 n) ≤ zv 4652007308841189376 := (FP.Core.dcmp_le.mp h.2).2.2
  have e1 : zv 13875379345695965184 = -(4000 * ((2 ^ 1072 : Nat) : Int)) := by decide +kernel
  have e2 : zv 4652007308841189376 = 4000 * ((2 ^ 1072 : Nat) : Int) := by decide +kernel
  rw [e1] at z1
  rw [e2] at z2
  refine ⟨fB_nn (e8_fB n) (by decide), z1, z2, fun q => ?_⟩
  have h0 : zv (e8 n) = 0 := by rw [q]; decide +kernel
  rw [e8_zv] at h0
  have h1 : n.toInt = 0 := (Int.mul_eq_zero.mp h0).elim (fun q => q) (fun q => absurd q (Int.ne_of_gt p1071))
  have h2 : n = 0 := Int32.toInt.inj h1
  rw [h2] at q
  exact absurd q (by decide +kernel)
