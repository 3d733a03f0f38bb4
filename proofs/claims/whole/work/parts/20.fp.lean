/-! doubles: bounds by the biased exponent; order -/
abbrev dlt (a b : UInt64) : Prop := FP.dcmp a b = some .lt
abbrev dle (a b : UInt64) : Prop := FP.dcmp a b = some .lt ∨ FP.dcmp a b = some .eq
abbrev dgt (a b : UInt64) : Prop := FP.dcmp a b = some .gt
abbrev dge (a b : UInt64) : Prop := FP.dcmp a b = some .gt ∨ FP.dcmp a b = some .eq
abbrev deq (a b : UInt64) : Prop := FP.dcmp a b = some .eq
/-- below 2^(K-1023) in size -/
def fB (K : Nat) (a : UInt64) : Prop := a.toNat % 2 ^ 63 < K * 2 ^ 52
/-- at least 2^(L-1023) in size -/
def fL (L : Nat) (a : UInt64) : Prop := L * 2 ^ 52 ≤ a.toNat % 2 ^ 63
theorem fB_mono {K L : Nat} {a : UInt64} (h : fB K a) (hl : K ≤ L) : fB L a := Nat.lt_of_lt_of_le h (Nat.mul_le_mul_right _ hl)
theorem fL_mono {K L : Nat} {a : UInt64} (h : fL K a) (hl : L ≤ K) : fL L a := Nat.le_trans (Nat.mul_le_mul_right _ hl) h
theorem fB_ne {K : Nat} {a : UInt64} (h : fB K a) (hK : K ≤ 2047) : vf_n64 a := by
  unfold vf_n64
  rw [UInt64.le_iff_toNat_le, FP.Core.mask_toNat]
  have h1 : a.toNat % 2 ^ 63 < 2047 * 2 ^ 52 := fB_mono h hK
  have h2 : (9218868437227405312 : UInt64).toNat = 2047 * 2 ^ 52 := by decide +kernel
  omega
theorem fB_nn {K : Nat} {a : UInt64} (h : fB K a) (hK : K ≤ 2047) : FP.Core.val64 a ≠ .nan := by
  rw [FP.Core.ne_nan]
  have h1 : a.toNat % 2 ^ 63 < 2047 * 2 ^ 52 := fB_mono h hK
  omega
theorem fB_add {K L M : Nat} {a b : UInt64} (ha : fB K a) (hb : fB L b) (h1 : K ≤ M) (h2 : L ≤ M) (hM : M ≤ 2047) : fB (M + 2) (FP.dadd a b) := FP.Core.dadd_mag (fB_mono ha h1) (fB_mono hb h2) hM
theorem fB_sub {K L M : Nat} {a b : UInt64} (ha : fB K a) (hb : fB L b) (h1 : K ≤ M) (h2 : L ≤ M) (hM : M ≤ 2047) : fB (M + 2) (FP.dsub a b) := FP.Core.dsub_mag (fB_mono ha h1) (fB_mono hb h2) hM
theorem fB_mul {K L M : Nat} {a b : UInt64} (ha : fB K a) (hb : fB L b) (h1 : K ≤ 2047) (h2 : L ≤ 2047) (hM : K + L - 1025 + 3 ≤ M) : fB M (FP.dmul a b) := fB_mono (FP.Core.dmul_mag ha hb h1 h2) hM
theorem fB_div {K L M : Nat} {a b : UInt64} (ha : fB K a) (hb : fL L b) (hb2 : fB 2047 b) (h1 : K ≤ 2047) (h2 : 1 ≤ L) (hM : K + (1074 - 52 - 1) - L + 3 ≤ M) : fB M (FP.ddiv a b) := fB_mono (FP.Core.ddiv_mag ha hb hb2 h1 h2) hM
theorem fB_i2d (v : Int32) : fB 1056 (FP.i2d v) := FP.Core.i2d_mag v
theorem fB_lit {K : Nat} {a : UInt64} (h : decide (a.toNat % 2 ^ 63 < K * 2 ^ 52) = true) : fB K a := by
  unfold fB
  exact of_decide_eq_true h
theorem fL_lit {K : Nat} {a : UInt64} (h : decide (K * 2 ^ 52 ≤ a.toNat % 2 ^ 63) = true) : fL K a := by
  unfold fL
  exact of_decide_eq_true h
theorem fB_half : fB 1023 4602678819172646912 := fB_lit (by decide +kernel)
