/-! doubles: values in units, signs, lower bounds, the document's ROOT -/
abbrev zv (a : UInt64) : Int := FP.Core.zval FP.Core.b64 (FP.Core.val64 a)
abbrev nn (a : UInt64) : Prop := FP.Core.val64 a ≠ .nan
/-- the sign bit is not set -/
def fP (a : UInt64) : Prop := a.toNat < 2 ^ 63
theorem fB_c0 : fB 1 FP.dconst0 := fB_lit (by decide +kernel)
theorem fB_c1 : fB 1024 FP.dconst1 := fB_lit (by decide +kernel)
theorem fB_fin {K : Nat} {a : UInt64} (h : fB K a) (hK : K ≤ 2047) : FP.Core.DFin a := FP.Core.fin_of_lt h hK
theorem fin_fB {a : UInt64} (h : FP.Core.DFin a) : fB 2047 a := (FP.Core.fin_bits a).mp h
theorem fin_nn {a : UInt64} (h : FP.Core.DFin a) : nn a := h.ne_nan
theorem zle_key {a b : UInt64} (ha : nn a) (hb : nn b) : zv a ≤ zv b ↔ FP.Core.dkey a ≤ FP.Core.dkey b := by
  have h := Option.some.inj ((FP.Core.dcmp_zval ha hb).symm.trans (FP.Core.dcmp_key ha hb))
  constructor <;> intro q <;> refine Int.not_lt.mp fun r => ?_
  · have h1 := (FP.Core.compare_gt_iff _ _).mpr r
    rw [← h] at h1
    have h2 : zv b < zv a := (FP.Core.compare_gt_iff _ _).mp h1
    omega
  · have h1 := (FP.Core.compare_gt_iff _ _).mpr r
    rw [h] at h1
    have := (FP.Core.compare_gt_iff _ _).mp h1
    omega
theorem zadd_ge {a b V : UInt64} (ha : FP.Core.DFin a) (hb : FP.Core.DFin b) (hV : nn V) (h : zv V ≤ zv a + zv b) : zv V ≤ zv (FP.dadd a b) := by
  have fa := FP.Core.val64_fits a
  have fb := FP.Core.val64_fits b
  obtain ⟨s, c, q, ea⟩ := ha
  obtain ⟨t, d, r, eb⟩ := hb
  unfold zv at h ⊢
  rw [ea, eb] at h
  rw [ea] at fa
  rw [eb] at fb
  obtain ⟨sg, n, e, h1, h2, h3⟩ := FP.Core.sum_units fa fb
  rw [show FP.dadd a b = FP.Core.dadd a b from rfl, FP.Core.val64_dadd, ea, eb, h1]
  refine FP.Core.zval_round_ge FP.Core.good_b64 (FP.Core.val64_fits V) hV (Int.le_refl _) h2 ?_
  rw [h3, Int.sub_self]
  simpa using h
theorem zadd_le {a b V : UInt64} (ha : FP.Core.DFin a) (hb : FP.Core.DFin b) (hV : nn V) (h : zv a + zv b ≤ zv V) : zv (FP.dadd a b) ≤ zv V := by
  have fa := FP.Core.val64_fits a
  have fb := FP.Core.val64_fits b
  obtain ⟨s, c, q, ea⟩ := ha
  obtain ⟨t, d, r, eb⟩ := hb
  unfold zv at h ⊢
  rw [ea, eb] at h
  rw [ea] at fa
  rw [eb] at fb
  obtain ⟨sg, n, e, h1, h2, h3⟩ := FP.Core.sum_units fa fb
  rw [show FP.dadd a b = FP.Core.dadd a b from rfl, FP.Core.val64_dadd, ea, eb, h1]
  refine FP.Core.zval_round_le FP.Core.good_b64 (FP.Core.val64_fits V) hV (Int.le_refl _) h2 ?_
  rw [h3, Int.sub_self]
  simpa using h
theorem zneg (b : UInt64) : zv (FP.Core.dneg b) = -zv b := by
  unfold zv
  rw [FP.Core.val64_dneg, FP.Core.zval_negate]
theorem fin_neg {b : UInt64} (hb : FP.Core.DFin b) : FP.Core.DFin (FP.Core.dneg b) := by
  obtain ⟨t, d, r, eb⟩ := hb
  exact ⟨!t, d, r, by rw [FP.Core.val64_dneg, eb]; rfl⟩
theorem zsub_ge {a b V : UInt64} (ha : FP.Core.DFin a) (hb : FP.Core.DFin b) (hV : nn V) (h : zv V ≤ zv a - zv b) : zv V ≤ zv (FP.dsub a b) := by
  rw [show FP.dsub a b = FP.Core.dsub a b from rfl, FP.Core.dsub_eq]
  exact zadd_ge ha (fin_neg hb) hV (by rw [zneg]; omega)
theorem zsub_le {a b V : UInt64} (ha : FP.Core.DFin a) (hb : FP.Core.DFin b) (hV : nn V) (h : zv a - zv b ≤ zv V) : zv (FP.dsub a b) ≤ zv V := by
  rw [show FP.dsub a b = FP.Core.dsub a b from rfl, FP.Core.dsub_eq]
  exact zadd_le ha (fin_neg hb) hV (by rw [zneg]; omega)
theorem sgn_fP {a : UInt64} (hn : nn a) : FP.Core.sgn (FP.Core.val64 a) = false ↔ fP a := by
  rw [FP.Core.sgn_bits hn, decide_eq_false_iff_not, Nat.not_le]
  exact Iff.rfl
theorem fP_nonneg {a : UInt64} (hn : nn a) (h : fP a) : 0 ≤ zv a := FP.Core.zval_nonneg hn h
/-- the number 2^(L-1023) -/
def vL (L : Nat) : UInt64 := UInt64.ofNat (L * 2 ^ 52)
theorem vL_nat {L : Nat} (h : L ≤ 2046) : (vL L).toNat = L * 2 ^ 52 := by
  unfold vL
  rw [UInt64.toNat_ofNat']
  exact Nat.mod_eq_of_lt (by omega)
theorem vL_nn {L : Nat} (h : L ≤ 2046) : nn (vL L) := by
  unfold nn
  rw [FP.Core.ne_nan, vL_nat h]
  omega
theorem fL_iff {L : Nat} {a : UInt64} (h1 : 1 ≤ L) (h2 : L ≤ 2046) (hn : nn a) : (fP a ∧ fL L a) ↔ zv (vL L) ≤ zv a := by
  rw [zle_key (vL_nn h2) hn]
  unfold FP.Core.dkey fP fL
  rw [vL_nat h2]
  have ha := a.toNat_lt
  constructor
  · rintro ⟨q1, q2⟩
    rw [if_neg (by omega), if_neg (by omega)]
    omega
  · intro q
    rw [if_neg (by omega)] at q
    by_cases hs : 2 ^ 63 ≤ a.toNat
    · rw [if_pos hs] at q
      omega
    · rw [if_neg hs] at q
      constructor <;> omega
theorem fL_addl {L : Nat} {a b : UInt64} (h1 : 1 ≤ L) (h2 : L ≤ 2046) (ha : FP.Core.DFin a) (hb : FP.Core.DFin b) (pa : fP a) (la : fL L a) (pb : fP b) (hn : nn (FP.dadd a b)) : fP (FP.dadd a b) ∧ fL L (FP.dadd a b) := by
  refine (fL_iff h1 h2 hn).mpr (zadd_ge ha hb (vL_nn h2) ?_)
  have q1 := (fL_iff h1 h2 (fin_nn ha)).mp ⟨pa, la⟩
  have q2 := fP_nonneg (fin_nn hb) pb
  omega
theorem fL_addr {L : Nat} {a b : UInt64} (h1 : 1 ≤ L) (h2 : L ≤ 2046) (ha : FP.Core.DFin a) (hb : FP.Core.DFin b) (pa : fP a) (pb : fP b) (lb : fL L b) (hn : nn (FP.dadd a b)) : fP (FP.dadd a b) ∧ fL L (FP.dadd a b) := by
  refine (fL_iff h1 h2 hn).mpr (zadd_ge ha hb (vL_nn h2) ?_)
  have q1 := (fL_iff h1 h2 (fin_nn hb)).mp ⟨pb, lb⟩
  have q2 := fP_nonneg (fin_nn ha) pa
  omega
theorem zmag_vL {L : Nat} (h1 : 1 ≤ L) (h : L ≤ 2046) : FP.Core.zmag FP.Core.b64 (FP.Core.val64 (vL L)) = 2 ^ 52 * 2 ^ (L - 1) := by
  rw [FP.Core.zmag_bits (vL_nn h), vL_nat h, Nat.mod_eq_of_lt (by omega), ← FP.Core.tails_b64, FP.Core.unitsOf_start h1]
theorem val_half : FP.Core.val64 4602678819172646912 = .fin false (2 ^ 52) (-53) := by decide +kernel
theorem fL_half {L : Nat} {g : UInt64} (h1 : 2 ≤ L) (h2 : L ≤ 2046) (hg : FP.Core.DFin g) (pg : fP g) (lg : fL L g) : fP (FP.dmul 4602678819172646912 g) ∧ fL (L - 1) (FP.dmul 4602678819172646912 g) := by
  have hgn := fin_nn hg
  have fg := FP.Core.val64_fits g
  have fh := FP.Core.val64_fits 4602678819172646912
  have hm : 2 ^ 52 * 2 ^ (L - 1) ≤ FP.Core.zmag FP.Core.b64 (FP.Core.val64 g) := by
    rw [FP.Core.zmag_bits hgn, ← FP.Core.tails_b64, ← FP.Core.unitsOf_start (by omega), FP.Core.tails_b64]
    exact FP.Core.unitsOf_le_iff.mpr lg
  have hsg := (sgn_fP hgn).mpr pg
  obtain ⟨t, d, r, eg⟩ := hg
  rw [eg] at fg hm hsg
  rw [val_half] at fh
  have ht : t = false := hsg
  subst ht
  obtain ⟨p1, p2, p3⟩ := FP.Core.product_units fh fg
  have e : FP.Core.val64 (FP.dmul 4602678819172646912 g) = FP.Core.roundRatio FP.Core.b64 false (2 ^ 52 * d) 1 (-53 + r) := by
    rw [show FP.dmul 4602678819172646912 g = FP.Core.dmul 4602678819172646912 g from rfl, FP.Core.val64_dmul, val_half, eg, p1]
    rfl
  have hn : nn (FP.dmul 4602678819172646912 g) := by
    unfold nn
    rw [e]
    exact FP.Core.roundRatio_ne_nan _ _ _ _ _
  have hp : fP (FP.dmul 4602678819172646912 g) := (sgn_fP hn).mp (by rw [e, FP.Core.sgn_roundRatio])
  have hz : FP.Core.zmag FP.Core.b64 (FP.Core.val64 (vL (L - 1))) ≤ FP.Core.zmag FP.Core.b64 (FP.Core.val64 (FP.dmul 4602678819172646912 g)) := by
    rw [e]
    refine FP.Core.zmag_roundRatio_ge FP.Core.good_b64 (by decide) (FP.Core.val64_fits _) (e0 := 2 * FP.Core.b64.qmin) (by decide) p2 ?_
    rw [p3, zmag_vL (by omega) (by omega), Nat.mul_one]
    have e3 : FP.Core.zmag FP.Core.b64 (.fin false (2 ^ 52) (-53)) = 2 ^ 1073 := by decide +kernel
    have e4 : (FP.Core.b64.qmin - 2 * FP.Core.b64.qmin).toNat = 1074 := by decide +kernel
    rw [e3, e4, show 2 ^ 1074 = 2 ^ 1073 * 2 from Nat.pow_succ 2 1073]
    generalize 2 ^ 1073 = z
    have e5 : ∀ k : Nat, 2 ^ 52 * 2 ^ k * (z * 2) = z * (2 ^ 52 * 2 ^ (k + 1)) := fun k => by
      rw [Nat.pow_succ 2 k]
      generalize 2 ^ 52 = x
      generalize 2 ^ k = y
      ac_rfl
    have e6 : L - 1 = L - 1 - 1 + 1 := by omega
    rw [e5, ← e6]
    exact Nat.mul_le_mul_left _ hm
  refine ⟨hp, ?_⟩
  rw [zmag_vL (by omega) (by omega), FP.Core.zmag_bits hn, ← FP.Core.tails_b64, ← FP.Core.unitsOf_start (by omega)] at hz
  have := FP.Core.unitsOf_le_iff.mp hz
  rw [FP.Core.tails_b64] at this
  exact this
theorem fP_div {a b : UInt64} (ha : FP.Core.DFin a) (hb : FP.Core.DFin b) (hz : b.toNat % 2 ^ 63 ≠ 0) (pa : fP a) (pb : fP b) : fP (FP.ddiv a b) := by
  have sa := (sgn_fP (fin_nn ha)).mpr pa
  have sb := (sgn_fP (fin_nn hb)).mpr pb
  obtain ⟨s, c, q, ea⟩ := ha
  obtain ⟨t, d, r, eb⟩ := hb
  rw [ea] at sa
  rw [eb] at sb
  have hs : s = false := sa
  have ht : t = false := sb
  subst hs
  subst ht
  have hd0 : d ≠ 0 := by
    rintro rfl
    exact hz ((FP.Core.zero_bits2 b).mp ⟨_, r, eb⟩)
  have e : FP.Core.val64 (FP.ddiv a b) = FP.Core.roundRatio FP.Core.b64 false c d (q - r) := by
    rw [show FP.ddiv a b = FP.Core.ddiv a b from rfl, FP.Core.val64_ddiv, ea, eb]
    simp only [FP.Core.quotient, if_neg hd0]
    rfl
  have hn : nn (FP.ddiv a b) := by
    unfold nn
    rw [e]
    exact FP.Core.roundRatio_ne_nan _ _ _ _ _
  exact (sgn_fP hn).mp (by rw [e, FP.Core.sgn_roundRatio])
theorem deq_bits {a b : UInt64} (pa : fP a) (pb : fP b) (h : deq a b) : a = b := by
  obtain ⟨h1, h2, h3⟩ := FP.Core.dcmp_eq.mp h
  have k1 := (zle_key h1 h2).mp (by unfold zv; omega)
  have k2 := (zle_key h2 h1).mp (by unfold zv; omega)
  unfold FP.Core.dkey at k1 k2
  unfold fP at pa pb
  rw [if_neg (by omega), if_neg (by omega)] at k1 k2
  exact UInt64.toNat.inj (by omega)
-- ROOT
def rS (v g : UInt64) : UInt64 := FP.dmul 4602678819172646912 (FP.dadd g (FP.ddiv v g))
def rI (v : UInt64) : Nat → UInt64
  | 0 => FP.dmul 4602678819172646912 (FP.dadd v FP.dconst1)
  | k + 1 => rS v (rI v k)
def rootF (v : UInt64) : UInt64 := if dgt v FP.dconst0 then rI v 30 else FP.dconst0
theorem rI_stop {v : UInt64} {k : Nat} (h : rI v (k + 1) = rI v k) : ∀ j, rI v (k + j) = rI v k
  | 0 => rfl
  | j + 1 => by
    show rS v (rI v (k + j)) = rI v k
    rw [rI_stop h j]
    exact h
theorem rI_0 {v : UInt64} {K : Nat} (hv : fB K v) (h0 : 1024 ≤ K) (hK : K ≤ 1900) (pv : fP v) : fB (K + 2) (FP.dadd v FP.dconst1) ∧ fP (rI v 0) ∧ fL 1022 (rI v 0) ∧ fB (K + 3) (rI v 0) := by
  have b1 : fB (K + 2) (FP.dadd v FP.dconst1) := fB_add (M := K) hv fB_c1 (Nat.le_refl _) h0 (by omega)
  have l1 := fL_addr (L := 1023) (by decide) (by decide) (fB_fin hv (by omega)) (fB_fin fB_c1 (by decide)) pv (b := FP.dconst1) (by unfold fP; decide +kernel) (fL_lit (by decide +kernel)) (fB_nn b1 (by omega))
  have l2 := fL_half (L := 1023) (by decide) (by decide) (fB_fin b1 (by omega)) l1.1 l1.2
  exact ⟨b1, l2.1, l2.2, fB_mul fB_half b1 (by omega) (by omega) (by omega)⟩
theorem rS_ok {v g : UInt64} {K G L : Nat} (hv : fB K v) (h0 : 1024 ≤ K) (hK : K ≤ 1900) (pv : fP v) (hg : fB G g) (pg : fP g) (lg : fL L g) (hL : 992 ≤ L) (hL2 : L ≤ 1022) (hG : G ≤ 2000) (hGK : K + 1024 - L ≤ G) :
    fB G (FP.ddiv v g) ∧ fB (G + 2) (FP.dadd g (FP.ddiv v g)) ∧ fP (rS v g) ∧ fL (L - 1) (rS v g) ∧ fB (G + 3) (rS v g) := by
  have fg := fB_fin hg (by omega)
  have b1 : fB G (FP.ddiv v g) := fB_div hv lg (fB_mono hg (by omega)) (by omega) (by omega) (by omega)
  have b2 : fB (G + 2) (FP.dadd g (FP.ddiv v g)) := fB_add (M := G) hg b1 (Nat.le_refl _) (Nat.le_refl _) (by omega)
  have p1 : fP (FP.ddiv v g) := fP_div (fB_fin hv (by omega)) fg (by unfold fL at lg; omega) pv pg
  have l1 := fL_addl (L := L) (by omega) (by omega) fg (fB_fin b1 (by omega)) pg lg p1 (fB_nn b2 (by omega))
  have l2 := fL_half (L := L) (by omega) (by omega) (fB_fin b2 (by omega)) l1.1 l1.2
  exact ⟨b1, b2, l2.1, l2.2, fB_mul fB_half b2 (by omega) (by omega) (by omega)⟩
theorem rI_ok {v : UInt64} {K : Nat} (hv : fB K v) (h0 : 1024 ≤ K) (hK : K ≤ 1900) (pv : fP v) : ∀ k, k ≤ 30 → fP (rI v k) ∧ fL (1022 - k) (rI v k) ∧ fB (K + 3 * (k + 1)) (rI v k)
  | 0, _ => (rI_0 hv h0 hK pv).2
  | k + 1, h => by
    obtain ⟨q1, q2, q3⟩ := rI_ok hv h0 hK pv k (by omega)
    obtain ⟨-, -, r1, r2, r3⟩ := rS_ok (G := K + 3 * (k + 1)) hv h0 hK pv q3 q1 q2 (by omega) (by omega) (by omega) (by omega)
    refine ⟨r1, ?_, fB_mono r3 (by omega)⟩
    have e : 1022 - (k + 1) = 1022 - k - 1 := by omega
    rw [e]
    exact r2
theorem rI_n {v : UInt64} {K : Nat} (hv : fB K v) (h0 : 1024 ≤ K) (hK : K ≤ 1900) (pv : fP v) {k : Nat} (hk : k < 30) : vf_n64 (FP.ddiv v (rI v k)) ∧ vf_n64 (FP.dadd (rI v k) (FP.ddiv v (rI v k))) ∧ vf_n64 (FP.dmul 4602678819172646912 (FP.dadd (rI v k) (FP.ddiv v (rI v k)))) := by
  obtain ⟨q1, q2, q3⟩ := rI_ok hv h0 hK pv k (by omega)
  obtain ⟨r0, r1, -, -, r3⟩ := rS_ok (G := K + 3 * (k + 1)) hv h0 hK pv q3 q1 q2 (by omega) (by omega) (by omega) (by omega)
  exact ⟨fB_ne r0 (by omega), fB_ne r1 (by omega), fB_ne r3 (by omega)⟩
theorem rootF_ok {v : UInt64} {K : Nat} (hv : fB K v) (h0 : 1024 ≤ K) (hK : K ≤ 1900) (pv : fP v) : fP (rootF v) ∧ fB (K + 93) (rootF v) ∧ (dgt (rootF v) FP.dconst0 → fL 992 (rootF v)) := by
  unfold rootF
  by_cases h : dgt v FP.dconst0
  · rw [if_pos h]
    obtain ⟨q1, q2, q3⟩ := rI_ok hv h0 hK pv 30 (by omega)
    exact ⟨q1, q3, fun _ => q2⟩
  · rw [if_neg h]
    exact ⟨by unfold fP; decide +kernel, fB_mono fB_c0 (by omega), fun q => absurd q (by decide +kernel)⟩
