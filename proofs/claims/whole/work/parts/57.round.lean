/-! a round, as numbers -/
def l2 (x y z : UInt64) : UInt64 := FP.dadd (FP.dadd (FP.dmul x x) (FP.dmul y y)) (FP.dmul z z)
def puF (L n : UInt64) : UInt64 := if dgt L n then FP.ddiv (FP.dmul 4656510908468559872 (FP.dsub L n)) n else FP.dconst0
def tgF (f : DF) (p d : UInt64) (a b : Nat) : DF := vf_upd (vf_upd f a (FP.dadd (f a) (FP.dmul p d))) b (FP.dsub (vf_upd f a (FP.dadd (f a) (FP.dmul p d)) b) (FP.dmul p d))
def wsF (f : DF) (q n : UInt64) (a b : Nat) : DF := vf_upd (vf_upd f a (FP.dadd (f a) (FP.dmul q n))) b (FP.dadd (vf_upd f a (FP.dadd (f a) (FP.dmul q n)) b) (FP.dmul q n))
def dgF (g : DF) (q x y z : UInt64) : DF := vf_upd (vf_upd (vf_upd g 0 (FP.dadd (g 0) (FP.dmul (FP.dmul 4611686018427387904 q) x))) 1 (FP.dadd (g 1) (FP.dmul (FP.dmul 4611686018427387904 q) y))) 2 (FP.dadd (g 2) (FP.dmul (FP.dmul 4611686018427387904 q) z))
def ac3 (f : DF) (x y z : UInt64) : DF := vf_upd (vf_upd (vf_upd f 0 x) 1 y) 2 z
def cF (rd : DF) (d : UInt64) : Nat → Nat
  | 0 => 0
  | n + 1 => if cF rd d n = n ∧ dle (rd n) d then n + 1 else cF rd d n
theorem cF_isC (rd : DF) (d : UInt64) : ∀ n, isC rd d n (cF rd d n)
  | 0 => ⟨Nat.le_refl 0, fun i hi => absurd hi (by simp [cF]), fun h => absurd h (by simp [cF])⟩
  | n + 1 => by
    obtain ⟨h1, h2, h3⟩ := cF_isC rd d n
    by_cases c : cF rd d n = n ∧ dle (rd n) d
    · have e : cF rd d (n + 1) = n + 1 := if_pos c
      rw [e]
      refine ⟨Nat.le_refl _, fun i hi => ?_, fun h => absurd h (by omega)⟩
      by_cases q : i = n
      · rw [q]; exact c.2
      · exact h2 i (by omega)
    · have e : cF rd d (n + 1) = cF rd d n := if_neg c
      rw [e]
      refine ⟨by omega, h2, fun _ q => ?_⟩
      by_cases q2 : cF rd d n = n
      · exact c ⟨q2, by rw [q2] at q; exact q⟩
      · exact h3 (by omega) q
theorem isC_uniq {rd : DF} {d : UInt64} {n a b : Nat} (h1 : isC rd d n a) (h2 : isC rd d n b) : a = b := by
  rcases Nat.lt_trichotomy a b with q | q | q
  · exact absurd (h2.2.1 a q) (h1.2.2 (by have := h2.1; omega))
  · exact q
  · exact absurd (h1.2.1 b q) (h2.2.2 (by have := h1.1; omega))
def spB (rd f : DF) (n : Nat) (d : UInt64) (c : Nat) : UInt64 := if n = 0 then FP.dconst0 else if c = 0 then f 0 else if n ≤ c then f (n - 1) else FP.dadd (f (c - 1)) (FP.dmul (FP.dsub (f c) (f (c - 1))) (FP.ddiv (FP.dsub d (rd (c - 1))) (FP.dsub (rd c) (rd (c - 1)))))
theorem spB_0 {rd f : DF} {n c : Nat} {d : UInt64} (h : n = 0) : spB rd f n d c = FP.dconst0 := if_pos h
theorem spB_1 {rd f : DF} {n : Nat} {d : UInt64} (h : ¬ n = 0) : spB rd f n d 0 = f 0 := by unfold spB; rw [if_neg h, if_pos rfl]
theorem spB_2 {rd f : DF} {n k : Nat} {d : UInt64} (h : ¬ n = 0) (h2 : n ≤ k + 1) : spB rd f n d (k + 1) = f (n - 1) := by unfold spB; rw [if_neg h, if_neg (by omega), if_pos h2]
theorem spB_3 {rd f : DF} {n k : Nat} {d : UInt64} (h2 : ¬ n ≤ k + 1) : spB rd f n d (k + 1) = FP.dadd (f k) (FP.dmul (FP.dsub (f (k + 1)) (f k)) (FP.ddiv (FP.dsub d (rd k)) (FP.dsub (rd (k + 1)) (rd k)))) := by unfold spB; rw [if_neg (by omega), if_neg (by omega), if_neg h2]; rfl
def uF (rd f : DF) (n : Nat) (wv d : UInt64) (c : Nat) : UInt64 := FP.dmul (spB rd f n d c) (FP.dadd FP.dconst1 wv)
def depF (pz : DF) (a b : Nat) : UInt64 := FP.dmul 4602678819172646912 (FP.dadd (pz a) (pz b))
def flU (rd f pz : DF) (n : Nat) (wv : UInt64) (a b : Nat) : UInt64 := uF rd f n wv (depF pz a b) (cF rd (depF pz a b) n)
def flW (u v dx dy L : UInt64) : UInt64 := FP.ddiv (FP.dadd (FP.dmul u dx) (FP.dmul v dy)) L
def flN (u w dx L : UInt64) : UInt64 := FP.dsub u (FP.ddiv (FP.dmul w dx) L)
def qF (w fo ln s : UInt64) : UInt64 := FP.dmul (FP.dmul (FP.dmul (FP.dmul 4638707616191610880 w) (FP.dadd FP.dconst1 fo)) ln) s
def nW (rd rx ry pz : DF) (n : Nat) (wv dx dy L : UInt64) (a b : Nat) : UInt64 := flW (flU rd rx pz n wv a b) (flU rd ry pz n wv a b) dx dy L
def nX (rd rx ry pz : DF) (n : Nat) (wv dx dy L : UInt64) (a b : Nat) : UInt64 := flN (flU rd rx pz n wv a b) (nW rd rx ry pz n wv dx dy L a b) dx L
def nY (rd rx ry pz : DF) (n : Nat) (wv dx dy L : UInt64) (a b : Nat) : UInt64 := flN (flU rd ry pz n wv a b) (nW rd rx ry pz n wv dx dy L a b) dy L
def nZ (rd rx ry pz : DF) (n : Nat) (wv dx dy dz L : UInt64) (a b : Nat) : UInt64 := flN FP.dconst0 (nW rd rx ry pz n wv dx dy L a b) dz L
-- bounds
theorem l2_P {x y z : UInt64} {K : Nat} (hx : fB K x) (hy : fB K y) (hz : fB K z) (h0 : 1024 ≤ K) (hK : K ≤ 1450) : fB (K + K - 1018) (l2 x y z) ∧ fP (l2 x y z) := by
  have bx : fB (K + K - 1022) (FP.dmul x x) := fB_mul hx hx (by omega) (by omega) (by omega)
  have by_ : fB (K + K - 1022) (FP.dmul y y) := fB_mul hy hy (by omega) (by omega) (by omega)
  have bz : fB (K + K - 1022) (FP.dmul z z) := fB_mul hz hz (by omega) (by omega) (by omega)
  have b1 : fB (K + K - 1022 + 2) (FP.dadd (FP.dmul x x) (FP.dmul y y)) := fB_add (M := K + K - 1022) bx by_ (by omega) (by omega) (by omega)
  have b2 : fB (K + K - 1022 + 2 + 2) (l2 x y z) := fB_add (M := K + K - 1022 + 2) b1 bz (by omega) (by omega) (by omega)
  have p1 := fP_add (fB_fin bx (by omega)) (fB_fin by_ (by omega)) (fP_sq (fB_fin hx (by omega))) (fP_sq (fB_fin hy (by omega)))
  exact ⟨fB_mono b2 (by omega), fP_add (fB_fin b1 (by omega)) (fB_fin bz (by omega)) p1 (fP_sq (fB_fin hz (by omega)))⟩
theorem len_ok {x y z : UInt64} {K : Nat} (hx : fB K x) (hy : fB K y) (hz : fB K z) (h0 : 1024 ≤ K) (hK : K ≤ 1450) : fP (rootF (l2 x y z)) ∧ fB (K + K - 925) (rootF (l2 x y z)) ∧ (dgt (rootF (l2 x y z)) FP.dconst0 → fL 992 (rootF (l2 x y z))) := by
  obtain ⟨h1, h2⟩ := l2_P hx hy hz h0 hK
  obtain ⟨q1, q2, q3⟩ := rootF_ok h1 (by omega) (by omega) h2
  exact ⟨q1, fB_mono q2 (by omega), q3⟩
def natOK (n : UInt64) : Prop := fB 1033 n ∧ fL 1020 n ∧ fP n
theorem pu_ok {L n : UInt64} (hL : fB 1157 L) (hn : natOK n) : fB 1175 (puF L n) := by
  unfold puF
  by_cases c : dgt L n
  · rw [if_pos c]
    have b1 : fB 1159 (FP.dsub L n) := fB_sub (M := 1157) hL hn.1 (by decide) (by decide) (by decide)
    have b2 : fB 1171 (FP.dmul 4656510908468559872 (FP.dsub L n)) := fB_mul (fB_lit (K := 1034) (by decide +kernel)) b1 (by decide) (by decide) (by decide)
    exact fB_div b2 hn.2.1 (fB_mono hn.1 (by decide)) (by decide) (by decide) (by decide)
  · rw [if_neg c]
    exact fB_mono fB_c0 (by decide)
theorem gt_0 {L n : UInt64} (h : dgt L n) (hn : fP n) : dgt L FP.dconst0 := by
  obtain ⟨h1, h2, h3⟩ := FP.Core.dcmp_gt.mp h
  refine FP.Core.dcmp_gt.mpr ⟨h1, by decide +kernel, ?_⟩
  have h4 := fP_nonneg h2 hn
  have h5 : zv FP.dconst0 = 0 := by decide +kernel
  have h6 : zv n < zv L := h3
  show zv FP.dconst0 < zv L
  omega
theorem pu_gt {L n : UInt64} (h : dgt (puF L n) FP.dconst0) : dgt L n := by
  by_cases c : dgt L n
  · exact c
  · unfold puF at h
    rw [if_neg c] at h
    exact absurd h (by decide +kernel)
def rowsOK (n : Nat) (rd rx ry : DF) : Prop := sorted rd n ∧ ∀ j, j < n → (∃ k : Int32, rd j = e8 k) ∧ fB 1033 (rd j) ∧ fB 1030 (rx j) ∧ fB 1030 (ry j)
theorem rows_apart {n : Nat} {rd rx ry : DF} (h : rowsOK n rd rx ry) {k : Nat} (hk : k + 1 < n) : fB 1035 (FP.dsub (rd (k + 1)) (rd k)) ∧ fL 1020 (FP.dsub (rd (k + 1)) (rd k)) := by
  obtain ⟨h1, h2⟩ := h
  obtain ⟨⟨a, ea⟩, ba, -⟩ := h2 k (by omega)
  obtain ⟨⟨b, eb⟩, bb, -⟩ := h2 (k + 1) hk
  have hl := h1 k (k + 1) (by omega) hk
  refine ⟨fB_sub (M := 1033) bb ba (by decide) (by decide) (by decide), ?_⟩
  rw [ea, eb] at hl
  rw [ea, eb]
  exact e8_apart hl
theorem spB_ok {n : Nat} {rd rx ry f : DF} {d : UInt64} {c : Nat} (h : rowsOK n rd rx ry) (hf : ∀ j, j < n → fB 1030 (f j)) (hd : fB 1042 d) : fB 1060 (spB rd f n d c) := by
  by_cases c0 : n = 0
  · rw [spB_0 c0]; exact fB_mono fB_c0 (by decide)
  · rcases c with _ | k
    · rw [spB_1 c0]; exact fB_mono (hf 0 (by omega)) (by decide)
    · by_cases c1 : n ≤ k + 1
      · rw [spB_2 c0 c1]; exact fB_mono (hf _ (by omega)) (by decide)
      · rw [spB_3 c1]
        obtain ⟨q1, q2⟩ := rows_apart h (k := k) (by omega)
        have b1 : fB 1044 (FP.dsub d (rd k)) := fB_sub (M := 1042) hd (h.2 k (by omega)).2.1 (by decide) (by decide) (by decide)
        have b2 : fB 1048 (FP.ddiv (FP.dsub d (rd k)) (FP.dsub (rd (k + 1)) (rd k))) := fB_div b1 q2 (fB_mono q1 (by decide)) (by decide) (by decide) (by decide)
        have b3 : fB 1032 (FP.dsub (f (k + 1)) (f k)) := fB_sub (M := 1030) (hf _ (by omega)) (hf _ (by omega)) (by decide) (by decide) (by decide)
        have b4 : fB 1058 (FP.dmul (FP.dsub (f (k + 1)) (f k)) (FP.ddiv (FP.dsub d (rd k)) (FP.dsub (rd (k + 1)) (rd k)))) := fB_mul b3 b2 (by decide) (by decide) (by decide)
        exact fB_add (M := 1058) (hf k (by omega)) b4 (by decide) (by decide) (by decide)
theorem w1_ok {wv : UInt64} (h : fB 1058 wv) : fB 1060 (FP.dadd FP.dconst1 wv) := fB_add (M := 1058) fB_c1 h (by decide) (by decide) (by decide)
theorem u_ok {n : Nat} {rd rx ry f : DF} {d wv : UInt64} {c : Nat} (h : rowsOK n rd rx ry) (hf : ∀ j, j < n → fB 1030 (f j)) (hd : fB 1042 d) (hw : fB 1058 wv) : fB 1098 (uF rd f n wv d c) := fB_mul (spB_ok h hf hd) (w1_ok hw) (by decide) (by decide) (by decide)
theorem dep_ok {pz : DF} {a b : Nat} (ha : fB 1039 (pz a)) (hb : fB 1039 (pz b)) : fB 1042 (depF pz a b) := fB_mul fB_half (fB_add (M := 1039) ha hb (by decide) (by decide) (by decide)) (by decide) (by decide) (by decide)
theorem flU_ok {n : Nat} {rd rx ry f pz : DF} {wv : UInt64} {a b : Nat} (h : rowsOK n rd rx ry) (hf : ∀ j, j < n → fB 1030 (f j)) (ha : fB 1039 (pz a)) (hb : fB 1039 (pz b)) (hw : fB 1058 wv) : fB 1098 (flU rd f pz n wv a b) := u_ok h hf (dep_ok ha hb) hw
theorem flW_ok {u v dx dy L : UInt64} (hu : fB 1098 u) (hv : fB 1098 v) (hx : fB 1041 dx) (hy : fB 1041 dy) (hL : fB 1157 L) (lL : fL 992 L) : fB 1151 (flW u v dx dy L) := by
  have b1 : fB 1117 (FP.dmul u dx) := fB_mul hu hx (by decide) (by decide) (by decide)
  have b2 : fB 1117 (FP.dmul v dy) := fB_mul hv hy (by decide) (by decide) (by decide)
  exact fB_div (fB_add (M := 1117) b1 b2 (by decide) (by decide) (by decide)) lL (fB_mono hL (by decide)) (by decide) (by decide) (by decide)
theorem flN_ok {u w dx L : UInt64} (hu : fB 1098 u) (hw : fB 1151 w) (hx : fB 1041 dx) (hL : fB 1157 L) (lL : fL 992 L) : fB 1204 (flN u w dx L) := by
  have b1 : fB 1170 (FP.dmul w dx) := fB_mul hw hx (by decide) (by decide) (by decide)
  have b2 : fB 1202 (FP.ddiv (FP.dmul w dx) L) := fB_div b1 lL (fB_mono hL (by decide)) (by decide) (by decide) (by decide)
  exact fB_sub (M := 1202) hu b2 (by decide) (by decide) (by decide)
theorem q_ok {w fo ln s : UInt64} (hw : fB 1027 w) (hf : fB 1026 fo) (hn : fB 1033 ln) (hs : fB 1483 s) : fB 1514 (qF w fo ln s) := by
  have b1 : fB 1036 (FP.dmul 4638707616191610880 w) := fB_mul (fB_lit (K := 1031) (by decide +kernel)) hw (by decide) (by decide) (by decide)
  have b2 : fB 1028 (FP.dadd FP.dconst1 fo) := fB_add (M := 1026) fB_c1 hf (by decide) (by decide) (by decide)
  have b3 : fB 1042 (FP.dmul (FP.dmul 4638707616191610880 w) (FP.dadd FP.dconst1 fo)) := fB_mul b1 b2 (by decide) (by decide) (by decide)
  have b4 : fB 1053 (FP.dmul (FP.dmul (FP.dmul 4638707616191610880 w) (FP.dadd FP.dconst1 fo)) ln) := fB_mul b3 hn (by decide) (by decide) (by decide)
  exact fB_mul b4 hs (by decide) (by decide) (by decide)
theorem vf_eq {f : DF} {a : Nat} {x : UInt64} : vf_upd f a x a = x := if_pos rfl
theorem vf_fB {f : DF} {a b K : Nat} {x : UInt64} (hx : fB K x) (hf : fB K (f b)) : fB K (vf_upd f a x b) := by
  unfold vf_upd
  by_cases c : b = a
  · rw [if_pos c]; exact hx
  · rw [if_neg c]; exact hf
/-- forces: bounded, not -0 -/
def fOK (K : Nat) (x : UInt64) : Prop := fB K x ∧ x ≠ 9223372036854775808
theorem vf_fOK {f : DF} {a b K : Nat} {x : UInt64} (hx : fOK K x) (hf : fOK K (f b)) : fOK K (vf_upd f a x b) := by
  unfold vf_upd
  by_cases c : b = a
  · rw [if_pos c]; exact hx
  · rw [if_neg c]; exact hf
theorem fOK_mono {K L : Nat} {x : UInt64} (h : fOK K x) (hl : K ≤ L) : fOK L x := ⟨fB_mono h.1 hl, h.2⟩
theorem fOK_add {K L : Nat} {x y : UInt64} (hx : fOK K x) (hy : fB L y) (hl : L ≤ K) (hK : K ≤ 2040) : fOK (K + 2) (FP.dadd x y) := ⟨fB_add (M := K) hx.1 hy (Nat.le_refl _) hl (by omega), nz_add (fB_fin hx.1 (by omega)) (fB_fin hy (by omega)) hx.2⟩
theorem fOK_sub {K L : Nat} {x y : UInt64} (hx : fOK K x) (hy : fB L y) (hl : L ≤ K) (hK : K ≤ 2040) : fOK (K + 2) (FP.dsub x y) := ⟨fB_sub (M := K) hx.1 hy (Nat.le_refl _) hl (by omega), nz_sub (fB_fin hx.1 (by omega)) (fB_fin hy (by omega)) hx.2⟩
theorem vf_ne {f : DF} {a b : Nat} {x : UInt64} (h : ¬ a = b) : vf_upd f a x b = f b := if_neg (fun q => h q.symm)
theorem tgF_ok {f : DF} {p d : UInt64} {a b n K L : Nat} (hf : ∀ j, j < n → fOK K (f j)) (hp : fB L (FP.dmul p d)) (hl : L ≤ K) (hK : K ≤ 2000) (ha : a < n) (hb : b < n) (hab : ¬ a = b) : ∀ j, j < n → fOK (K + 2) (tgF f p d a b j) := by
  intro j hj
  have q1 : fOK (K + 2) (FP.dadd (f a) (FP.dmul p d)) := fOK_add (hf a ha) hp hl (by omega)
  have q2 : fOK (K + 2) (FP.dsub (f b) (FP.dmul p d)) := fOK_sub (hf b hb) hp hl (by omega)
  unfold tgF
  rw [vf_ne hab]
  exact vf_fOK q2 (vf_fOK q1 (fOK_mono (hf j hj) (by omega)))
theorem wsF_ok {f : DF} {p d : UInt64} {a b n K L : Nat} (hf : ∀ j, j < n → fOK K (f j)) (hp : fB L (FP.dmul p d)) (hl : L ≤ K) (hK : K ≤ 2000) (ha : a < n) (hb : b < n) (hab : ¬ a = b) : ∀ j, j < n → fOK (K + 2) (wsF f p d a b j) := by
  intro j hj
  have q1 : fOK (K + 2) (FP.dadd (f a) (FP.dmul p d)) := fOK_add (hf a ha) hp hl (by omega)
  have q2 : fOK (K + 2) (FP.dadd (f b) (FP.dmul p d)) := fOK_add (hf b hb) hp hl (by omega)
  unfold wsF
  rw [vf_ne hab]
  exact vf_fOK q2 (vf_fOK q1 (fOK_mono (hf j hj) (by omega)))
