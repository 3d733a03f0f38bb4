/-! a round of the balance, as one function of the shape -/
abbrev FS : Type := DF × DF × DF × DF × DF
def fN (f : IF) (i : Nat) : Nat := (f i).toNatClampNeg
def barOK (nN nB : Nat) (fr tt : IF) : Prop := ∀ i, i < nB → fr i = nI (fN fr i) ∧ tt i = nI (fN tt i) ∧ fN fr i < nN ∧ fN tt i < nN ∧ ¬ fN fr i = fN tt i
def dxF (p : DF) (fr tt : IF) (i : Nat) : UInt64 := FP.dsub (p (fN tt i)) (p (fN fr i))
def lenF (px py pz : DF) (fr tt : IF) (i : Nat) : UInt64 := rootF (l2 (dxF px fr tt i) (dxF py fr tt i) (dxF pz fr tt i))
def tgS (L dx dy dz n : UInt64) (a b i : Nat) (F : FS) : FS := match F with
  | (fx, fy, fz, pu, dg) => if dgt (puF L n) FP.dconst0 then (tgF fx (FP.ddiv (puF L n) L) dx a b, tgF fy (FP.ddiv (puF L n) L) dy a b, tgF fz (FP.ddiv (puF L n) L) dz a b, vf_upd pu i (puF L n), dg) else (fx, fy, fz, vf_upd pu i (puF L n), dg)
theorem tgS_p {L dx dy dz n : UInt64} {a b i : Nat} {fx fy fz pu dg : DF} (h : dgt (puF L n) FP.dconst0) : tgS L dx dy dz n a b i (fx, fy, fz, pu, dg) = (tgF fx (FP.ddiv (puF L n) L) dx a b, tgF fy (FP.ddiv (puF L n) L) dy a b, tgF fz (FP.ddiv (puF L n) L) dz a b, vf_upd pu i (puF L n), dg) := if_pos h
theorem tgS_n {L dx dy dz n : UInt64} {a b i : Nat} {fx fy fz pu dg : DF} (h : ¬ dgt (puF L n) FP.dconst0) : tgS L dx dy dz n a b i (fx, fy, fz, pu, dg) = (fx, fy, fz, vf_upd pu i (puF L n), dg) := if_neg h
def wsW (q X Y Z : UInt64) (a b : Nat) (F : FS) : FS := match F with
  | (fx, fy, fz, pu, dg) => (wsF fx q X a b, wsF fy q Y a b, wsF fz q Z a b, pu, dgF dg q X Y Z)
def wshS (L q X Y Z : UInt64) (a b : Nat) (F : FS) : FS := if dgt L FP.dconst0 then wsW q X Y Z a b F else F
theorem wshS_p {L q X Y Z : UInt64} {a b : Nat} {F : FS} (h : dgt L FP.dconst0) : wshS L q X Y Z a b F = wsW q X Y Z a b F := if_pos h
theorem wshS_n {L q X Y Z : UInt64} {a b : Nat} {F : FS} (h : ¬ dgt L FP.dconst0) : wshS L q X Y Z a b F = F := if_neg h
/-- the flow across bar i -/
def bX (px py pz : DF) (fr tt : IF) (nR : Nat) (rd rx ry : DF) (wv : UInt64) (i : Nat) : UInt64 := nX rd rx ry pz nR wv (dxF px fr tt i) (dxF py fr tt i) (lenF px py pz fr tt i) (fN fr i) (fN tt i)
def bY (px py pz : DF) (fr tt : IF) (nR : Nat) (rd rx ry : DF) (wv : UInt64) (i : Nat) : UInt64 := nY rd rx ry pz nR wv (dxF px fr tt i) (dxF py fr tt i) (lenF px py pz fr tt i) (fN fr i) (fN tt i)
def bZ (px py pz : DF) (fr tt : IF) (nR : Nat) (rd rx ry : DF) (wv : UInt64) (i : Nat) : UInt64 := nZ rd rx ry pz nR wv (dxF px fr tt i) (dxF py fr tt i) (dxF pz fr tt i) (lenF px py pz fr tt i) (fN fr i) (fN tt i)
def barS (G : GS) (i : Nat) (F : FS) : FS := match G with
  | ((_, px, py, pz, _, _, _, _, _, _), (_, fr, tt, ln, wi, _, _), (nR, rd, rx, ry, wv, fo), _, _) => wshS (lenF px py pz fr tt i) (qF (wi i) fo (ln i) (rootF (l2 (bX px py pz fr tt nR rd rx ry wv i) (bY px py pz fr tt nR rd rx ry wv i) (bZ px py pz fr tt nR rd rx ry wv i)))) (bX px py pz fr tt nR rd rx ry wv i) (bY px py pz fr tt nR rd rx ry wv i) (bZ px py pz fr tt nR rd rx ry wv i) (fN fr i) (fN tt i)
      (tgS (lenF px py pz fr tt i) (dxF px fr tt i) (dxF py fr tt i) (dxF pz fr tt i) (ln i) (fN fr i) (fN tt i) i F)
def st0 (f : DF) : Nat → DF
  | 0 => f
  | k + 1 => vf_upd (st0 f k) k FP.dconst0
def stz (f ld lf : DF) : Nat → DF
  | 0 => f
  | k + 1 => vf_upd (stz f ld lf k) k (FP.dadd FP.dconst0 (FP.dsub (ld k) (lf k)))
def startF (G : GS) : FS := match G with
  | ((nN, _, _, _, fx, fy, fz, lf, ld, _), (_, _, _, _, _, _, pu), _, (_, dg), _) => (st0 fx nN, st0 fy nN, stz fz ld lf nN, pu, ac3 dg FP.dconst0 FP.dconst0 FP.dconst0)
def barsI (G : GS) : Nat → FS
  | 0 => startF G
  | i + 1 => barS G i (barsI G i)
def up (g f : UInt64) : UInt64 := if dgt (sizeF f) g then sizeF f else g
theorem up_p {g f : UInt64} (h : dgt (sizeF f) g) : up g f = sizeF f := if_pos h
theorem up_n {g f : UInt64} (h : ¬ dgt (sizeF f) g) : up g f = g := if_neg h
def grF (fi : IF) (fx fy fz : DF) : Nat → UInt64
  | 0 => FP.dconst0
  | k + 1 => if fi k = 0 then up (up (up (grF fi fx fy fz k) (fx k)) (fy k)) (fz k) else grF fi fx fy fz k
theorem gr_p {fi : IF} {fx fy fz : DF} {k : Nat} (h : fi k = 0) : grF fi fx fy fz (k + 1) = up (up (up (grF fi fx fy fz k) (fx k)) (fy k)) (fz k) := if_pos h
theorem gr_n {fi : IF} {fx fy fz : DF} {k : Nat} (h : ¬ fi k = 0) : grF fi fx fy fz (k + 1) = grF fi fx fy fz k := if_neg h
def gwF (p f : DF) (fi : IF) : Nat → DF
  | 0 => p
  | k + 1 => if fi k = 0 then vf_upd (gwF p f fi k) k (FP.dadd (gwF p f fi k k) (stepF (f k))) else gwF p f fi k
theorem gw_p {p f : DF} {fi : IF} {k : Nat} (h : fi k = 0) : gwF p f fi (k + 1) = vf_upd (gwF p f fi k) k (FP.dadd (gwF p f fi k k) (stepF (f k))) := if_pos h
theorem gw_n {p f : DF} {fi : IF} {k : Nat} (h : ¬ fi k = 0) : gwF p f fi (k + 1) = gwF p f fi k := if_neg h
theorem gw_ge {p f : DF} {fi : IF} : ∀ {k j : Nat}, k ≤ j → gwF p f fi k j = p j
  | 0, _, _ => rfl
  | k + 1, j, h => by
    by_cases c : fi k = 0
    · rw [gw_p c, vf_ne (by omega)]; exact gw_ge (by omega)
    · rw [gw_n c]; exact gw_ge (by omega)
theorem gw_ok {p f : DF} {fi : IF} {n M K : Nat} (hp : ∀ j, j < n → pP M (p j)) (hM : M < 262143) (hf : ∀ j, j < n → fB K (f j)) (hK : K ≤ 2040) : ∀ k, k ≤ n → ∀ j, j < n → pP (M + 1) (gwF p f fi k j)
  | 0, _, j, hj => pP_mono (hp j hj) (by omega)
  | k + 1, hk, j, hj => by
    by_cases c : fi k = 0
    · rw [gw_p c]
      by_cases e : k = j
      · subst e
        rw [vf_eq, gw_ge (Nat.le_refl _)]
        exact pP_step (hp _ hj) hM (hf _ hj) hK
      · rw [vf_ne e]; exact gw_ok hp hM hf hK k (by omega) j hj
    · rw [gw_n c]; exact gw_ok hp hM hf hK k (by omega) j hj
def balG (G : GS) (F : FS) : GS := match G with
  | ((nN, px, py, pz, _, _, _, lf, ld, fi), (nB, fr, tt, ln, wi, sg, _), rs, _, ps) => ((nN, px, py, pz, F.1, F.2.1, F.2.2.1, lf, ld, fi), (nB, fr, tt, ln, wi, sg, F.2.2.2.1), rs, (grF fi F.1 F.2.1 F.2.2.1 nN, F.2.2.2.2), ps)
def forcesG (G : GS) : GS := balG G (barsI G G.2.1.1)
def moveG (G : GS) : GS := match G with
  | ((nN, px, py, pz, fx, fy, fz, lf, ld, fi), bs, rs, os, ps) => ((nN, gwF px fx fi nN, gwF py fy fi nN, gwF pz fz fi nN, fx, fy, fz, lf, ld, fi), bs, rs, os, ps)
def rndI (G : GS) : Nat → GS
  | 0 => G
  | i + 1 => moveG (forcesG (rndI G i))
def inBal (G : GS) : Prop := dlt (forcesG G).2.2.2.1.1 FP.dconst1
def fuF (G : GS) : UInt64 := FP.ddiv (sizeF (G.2.2.2.1.2 0)) (FP.dadd FP.dconst1 (spF G.1.2.2.1 G.1.1))
/-- what a shape keeps to, for its rounds -/
def envOK (G : GS) : Prop := match G with
  | ((nN, _, _, _, _, _, _, lf, ld, _), (nB, fr, tt, ln, wi, _, _), (nR, rd, rx, ry, wv, fo), _, _) => nN ≤ 30 ∧ nB ≤ 60 ∧ nR ≤ 10 ∧ barOK nN nB fr tt ∧ (∀ i, i < nB → natOK (ln i) ∧ fB 1027 (wi i)) ∧ rowsOK nR rd rx ry ∧ fB 1058 wv ∧ fB 1026 fo ∧ (∀ j, j < nN → fB 1040 (lf j) ∧ fB 1040 (ld j))
def plOK (M : Nat) (G : GS) : Prop := match G with
  | ((nN, px, py, pz, _, _, _, _, _, _), _) => ∀ j, j < nN → pP M (px j) ∧ pP M (py j) ∧ pP M (pz j)
def frOK (K n : Nat) (F : FS) : Prop := match F with
  | (fx, fy, fz, _, dg) => (∀ j, j < n → fOK K (fx j)) ∧ (∀ j, j < n → fOK K (fy j)) ∧ (∀ j, j < n → fOK K (fz j)) ∧ fB K (dg 0) ∧ fB K (dg 1) ∧ fB K (dg 2)
theorem frOK_mono {K L n : Nat} {F : FS} (h : frOK K n F) (hl : K ≤ L) : frOK L n F := by
  obtain ⟨fx, fy, fz, pu, dg⟩ := F
  obtain ⟨h1, h2, h3, h4, h5, h6⟩ := h
  exact ⟨fun j hj => fOK_mono (h1 j hj) hl, fun j hj => fOK_mono (h2 j hj) hl, fun j hj => fOK_mono (h3 j hj) hl, fB_mono h4 hl, fB_mono h5 hl, fB_mono h6 hl⟩
theorem dx_ok {p : DF} {fr tt : IF} {i : Nat} (ha : fB 1039 (p (fN fr i))) (hb : fB 1039 (p (fN tt i))) : fB 1041 (dxF p fr tt i) := fB_sub (M := 1039) hb ha (by decide) (by decide) (by decide)
theorem pd_ok {L n d : UInt64} (hL : fB 1157 L) (lL : fL 992 L) (hn : natOK n) (hd : fB 1041 d) : fB 1226 (FP.dmul (FP.ddiv (puF L n) L) d) := fB_mul (fB_div (pu_ok hL hn) lL (fB_mono hL (by decide)) (by decide) (by decide) (by decide) : fB 1207 _) hd (by decide) (by decide) (by decide)
theorem tgS_ok {L dx dy dz n : UInt64} {a b i K N : Nat} {F : FS} (hL : fB 1157 L) (lL : dgt L FP.dconst0 → fL 992 L) (hn : natOK n) (hx : fB 1041 dx) (hy : fB 1041 dy) (hz : fB 1041 dz) (ha : a < N) (hb : b < N) (hab : ¬ a = b) (hF : frOK K N F) (h0 : 1700 ≤ K) (hK : K ≤ 2000) : frOK (K + 2) N (tgS L dx dy dz n a b i F) := by
  obtain ⟨fx, fy, fz, pu, dg⟩ := F
  by_cases c : dgt (puF L n) FP.dconst0
  · rw [tgS_p c]
    have lL := lL (gt_0 (pu_gt c) hn.2.2)
    obtain ⟨h1, h2, h3, h4, h5, h6⟩ := hF
    exact ⟨tgF_ok h1 (pd_ok hL lL hn hx) (by omega) hK ha hb hab, tgF_ok h2 (pd_ok hL lL hn hy) (by omega) hK ha hb hab, tgF_ok h3 (pd_ok hL lL hn hz) (by omega) hK ha hb hab, fB_mono h4 (by omega), fB_mono h5 (by omega), fB_mono h6 (by omega)⟩
  · rw [tgS_n c]
    exact frOK_mono (F := (fx, fy, fz, pu, dg)) hF (by omega)
theorem wsW_ok {q X Y Z : UInt64} {a b K N : Nat} {F : FS} (hq : fB 1514 q) (hx : fB 1204 X) (hy : fB 1204 Y) (hz : fB 1204 Z) (ha : a < N) (hb : b < N) (hab : ¬ a = b) (hF : frOK K N F) (h0 : 1700 ≤ K) (hK : K ≤ 2000) : frOK (K + 2) N (wsW q X Y Z a b F) := by
  obtain ⟨fx, fy, fz, pu, dg⟩ := F
  obtain ⟨h1, h2, h3, h4, h5, h6⟩ := hF
  have b2 : fB 1517 (FP.dmul 4611686018427387904 q) := fB_mul (fB_lit (K := 1025) (by decide +kernel)) hq (by decide) (by decide) (by decide)
  have m : ∀ {x : UInt64}, fB 1204 x → fB 1696 (FP.dmul q x) := fun h => fB_mul hq h (by decide) (by decide) (by decide)
  have m2 : ∀ {x : UInt64}, fB 1204 x → fB 1699 (FP.dmul (FP.dmul 4611686018427387904 q) x) := fun h => fB_mul b2 h (by decide) (by decide) (by decide)
  exact ⟨wsF_ok h1 (m hx) (by omega) hK ha hb hab, wsF_ok h2 (m hy) (by omega) hK ha hb hab, wsF_ok h3 (m hz) (by omega) hK ha hb hab, fB_add (M := K) h4 (m2 hx) (by omega) (by omega) (by omega), fB_add (M := K) h5 (m2 hy) (by omega) (by omega) (by omega), fB_add (M := K) h6 (m2 hz) (by omega) (by omega) (by omega)⟩
theorem across_ok {nR : Nat} {rd rx ry pz : DF} {wv dx dy dz L : UInt64} {a b : Nat} (hr : rowsOK nR rd rx ry) (ha : fB 1039 (pz a)) (hb : fB 1039 (pz b)) (hw : fB 1058 wv) (hx : fB 1041 dx) (hy : fB 1041 dy) (hz : fB 1041 dz) (hL : fB 1157 L) (lL : fL 992 L) : fB 1204 (nX rd rx ry pz nR wv dx dy L a b) ∧ fB 1204 (nY rd rx ry pz nR wv dx dy L a b) ∧ fB 1204 (nZ rd rx ry pz nR wv dx dy dz L a b) := by
  have hu := flU_ok (f := rx) hr (fun j hj => (hr.2 j hj).2.2.1) ha hb hw
  have hv := flU_ok (f := ry) hr (fun j hj => (hr.2 j hj).2.2.2) ha hb hw
  have w := flW_ok hu hv hx hy hL lL
  exact ⟨flN_ok hu w hx hL lL, flN_ok hv w hy hL lL, flN_ok (fB_mono fB_c0 (by decide)) w hz hL lL⟩
theorem len3_ok {px py pz : DF} {fr tt : IF} {i : Nat} (hx : fB 1041 (dxF px fr tt i)) (hy : fB 1041 (dxF py fr tt i)) (hz : fB 1041 (dxF pz fr tt i)) : fB 1157 (lenF px py pz fr tt i) ∧ (dgt (lenF px py pz fr tt i) FP.dconst0 → fL 992 (lenF px py pz fr tt i)) := ⟨(len_ok hx hy hz (by decide) (by decide)).2.1, (len_ok hx hy hz (by decide) (by decide)).2.2⟩
theorem s_ok {X Y Z : UInt64} (hx : fB 1204 X) (hy : fB 1204 Y) (hz : fB 1204 Z) : fB 1483 (rootF (l2 X Y Z)) := (len_ok hx hy hz (by decide) (by decide)).2.1
theorem bar_ok {G : GS} {M i K : Nat} {F : FS} (hE : envOK G) (hP : plOK M G) (hM : M < 262144) (hi : i < G.2.1.1) (hF : frOK K G.1.1 F) (h0 : 1700 ≤ K) (hK : K ≤ 1990) : frOK (K + 4) G.1.1 (barS G i F) := by
  obtain ⟨⟨nN, px, py, pz, _, _, _, lf, ld, fi⟩, ⟨nB, fr, tt, ln, wi, sg, pu⟩, ⟨nR, rd, rx, ry, wv, fo⟩, os, ps⟩ := G
  obtain ⟨h1, h2, h3, hbar, hlw, hr, hwv, hfo, hll⟩ := hE
  obtain ⟨e1, e2, ha, hb, hab⟩ := hbar i hi
  have pa := hP _ ha
  have pb := hP _ hb
  have hx := dx_ok (pP_fB pa.1 hM) (pP_fB pb.1 hM)
  have hy := dx_ok (pP_fB pa.2.1 hM) (pP_fB pb.2.1 hM)
  have hz := dx_ok (pP_fB pa.2.2 hM) (pP_fB pb.2.2 hM)
  obtain ⟨hL, lL⟩ := len3_ok hx hy hz
  have ht := tgS_ok (i := i) hL lL (hlw i hi).1 hx hy hz ha hb hab hF h0 (by omega)
  by_cases c : dgt (lenF px py pz fr tt i) FP.dconst0
  · obtain ⟨nx, ny, nz⟩ := across_ok hr (pP_fB pa.2.2 hM) (pP_fB pb.2.2 hM) hwv hx hy hz hL (lL c)
    have hq := q_ok (hlw i hi).2 hfo (hlw i hi).1.1 (s_ok nx ny nz)
    show frOK (K + 4) nN (wshS _ _ _ _ _ _ _ _)
    rw [wshS_p c]
    exact wsW_ok hq nx ny nz ha hb hab ht (by omega) (by omega)
  · show frOK (K + 4) nN (wshS _ _ _ _ _ _ _ _)
    rw [wshS_n c]
    exact frOK_mono ht (by omega)
theorem c0_ok {K : Nat} (h : 1 ≤ K) : fOK K FP.dconst0 := ⟨fB_mono fB_c0 h, by decide +kernel⟩
theorem st0_ok {f : DF} {K : Nat} (hK : 1 ≤ K) : ∀ n, ∀ j, j < n → fOK K (st0 f n j)
  | 0, _, h => absurd h (by omega)
  | n + 1, j, h => by
    show fOK K (vf_upd (st0 f n) n FP.dconst0 j)
    by_cases e : n = j
    · subst e; rw [vf_eq]; exact c0_ok hK
    · rw [vf_ne e]; exact st0_ok hK n j (by omega)
theorem sz_ok {a b : UInt64} (ha : fB 1040 a) (hb : fB 1040 b) : fB 1042 (FP.dsub a b) ∧ fOK 1700 (FP.dadd FP.dconst0 (FP.dsub a b)) := by
  have h : fB 1042 (FP.dsub a b) := fB_sub (M := 1040) ha hb (by decide) (by decide) (by decide)
  exact ⟨h, fOK_mono (fOK_add (K := 1042) (c0_ok (by decide)) h (by decide) (by decide)) (by decide)⟩
theorem stz_ok {f ld lf : DF} : ∀ n, (∀ j, j < n → fB 1040 (lf j) ∧ fB 1040 (ld j)) → ∀ j, j < n → fOK 1700 (stz f ld lf n j)
  | 0, _, _, h => absurd h (by omega)
  | n + 1, hl, j, h => by
    show fOK 1700 (vf_upd (stz f ld lf n) n (FP.dadd FP.dconst0 (FP.dsub (ld n) (lf n))) j)
    by_cases e : n = j
    · subst e; rw [vf_eq]; exact (sz_ok (hl _ h).2 (hl _ h).1).2
    · rw [vf_ne e]; exact stz_ok n (fun j hj => hl j (by omega)) j (by omega)
theorem start_ok {G : GS} (hE : envOK G) : frOK 1700 G.1.1 (startF G) := by
  obtain ⟨⟨nN, px, py, pz, _, _, _, lf, ld, fi⟩, ⟨nB, fr, tt, ln, wi, sg, pu⟩, ⟨nR, rd, rx, ry, wv, fo⟩, ⟨re, dg⟩, ps⟩ := G
  obtain ⟨h1, h2, h3, hbar, hlw, hr, hwv, hfo, hll⟩ := hE
  exact ⟨st0_ok (by decide) nN, st0_ok (by decide) nN, stz_ok nN hll, fB_mono fB_c0 (by decide), fB_mono fB_c0 (by decide), fB_mono fB_c0 (by decide)⟩
theorem bars_ok {G : GS} {M : Nat} (hE : envOK G) (hP : plOK M G) (hM : M < 262144) : ∀ i, i ≤ G.2.1.1 → i ≤ 60 → frOK (1700 + 4 * i) G.1.1 (barsI G i)
  | 0, _, _ => start_ok hE
  | i + 1, h, h6 => frOK_mono (bar_ok hE hP hM (by omega) (bars_ok hE hP hM i (by omega) (by omega)) (by omega) (by omega)) (by omega)
theorem env_nB {G : GS} (h : envOK G) : G.2.1.1 ≤ 60 := by
  obtain ⟨⟨nN, px, py, pz, _, _, _, lf, ld, fi⟩, ⟨nB, fr, tt, ln, wi, sg, pu⟩, ⟨nR, rd, rx, ry, wv, fo⟩, ⟨re, dg⟩, ps⟩ := G
  exact h.2.1
theorem env_nN {G : GS} (h : envOK G) : G.1.1 ≤ 30 := by
  obtain ⟨⟨nN, px, py, pz, _, _, _, lf, ld, fi⟩, ⟨nB, fr, tt, ln, wi, sg, pu⟩, ⟨nR, rd, rx, ry, wv, fo⟩, ⟨re, dg⟩, ps⟩ := G
  exact h.1
theorem all_ok {G : GS} {M : Nat} (hE : envOK G) (hP : plOK M G) (hM : M < 262144) : frOK 1940 G.1.1 (barsI G G.2.1.1) := frOK_mono (bars_ok hE hP hM _ (Nat.le_refl _) (env_nB hE)) (by have := env_nB hE; omega)
theorem env_round {G : GS} (h : envOK G) : envOK (moveG (forcesG G)) := by
  obtain ⟨⟨nN, px, py, pz, _, _, _, lf, ld, fi⟩, ⟨nB, fr, tt, ln, wi, sg, pu⟩, ⟨nR, rd, rx, ry, wv, fo⟩, ⟨re, dg⟩, ps⟩ := G
  exact h
theorem env_forces {G : GS} (h : envOK G) : envOK (forcesG G) := by
  obtain ⟨⟨nN, px, py, pz, _, _, _, lf, ld, fi⟩, ⟨nB, fr, tt, ln, wi, sg, pu⟩, ⟨nR, rd, rx, ry, wv, fo⟩, ⟨re, dg⟩, ps⟩ := G
  exact h
theorem pl_forces {G : GS} {M : Nat} (h : plOK M G) : plOK M (forcesG G) := by
  obtain ⟨⟨nN, px, py, pz, _, _, _, lf, ld, fi⟩, ⟨nB, fr, tt, ln, wi, sg, pu⟩, ⟨nR, rd, rx, ry, wv, fo⟩, ⟨re, dg⟩, ps⟩ := G
  exact h
theorem pl_round {G : GS} {M : Nat} (hE : envOK G) (hP : plOK M G) (hM : M < 262143) : plOK (M + 1) (moveG (forcesG G)) := by
  have h := all_ok hE hP (by omega)
  unfold forcesG
  obtain ⟨F, hB⟩ : ∃ F : FS, F = barsI G G.2.1.1 := ⟨_, rfl⟩
  rw [← hB] at h ⊢
  clear hB hE
  obtain ⟨gx, gy, gz, pu2, dg2⟩ := F
  obtain ⟨⟨nN, px, py, pz, _, _, _, lf, ld, fi⟩, ⟨nB, fr, tt, ln, wi, sg, pu⟩, ⟨nR, rd, rx, ry, wv, fo⟩, ⟨re, dg⟩, ps⟩ := G
  obtain ⟨q1, q2, q3, -⟩ := h
  intro j hj
  exact ⟨gw_ok (fun j hj => (hP j hj).1) hM (fun j hj => (q1 j hj).1) (by decide) nN (Nat.le_refl _) j hj, gw_ok (fun j hj => (hP j hj).2.1) hM (fun j hj => (q2 j hj).1) (by decide) nN (Nat.le_refl _) j hj, gw_ok (fun j hj => (hP j hj).2.2) hM (fun j hj => (q3 j hj).1) (by decide) nN (Nat.le_refl _) j hj⟩
theorem rnd_ok {G : GS} {M : Nat} (hE : envOK G) (hP : plOK M G) : ∀ i, M + i < 262144 → envOK (rndI G i) ∧ plOK (M + i) (rndI G i)
  | 0, _ => ⟨hE, hP⟩
  | i + 1, h => by
    obtain ⟨h1, h2⟩ := rnd_ok hE hP i (by omega)
    exact ⟨env_round h1, pl_round (M := M + i) h1 h2 (by omega)⟩
theorem up_ok {g f : UInt64} {K : Nat} (hg : fOK K g) (hf : fOK K f) : fOK K (up g f) := by
  by_cases c : dgt (sizeF f) g
  · rw [up_p c]; exact size_ok hf.1 hf.2
  · rw [up_n c]; exact hg
theorem fOK_z {K : Nat} {x : UInt64} (h : fOK K x) (hK : K ≤ 2046) : zOK x := ⟨fB_nn h.1 (by omega), h.2⟩
theorem up_max {g f : UInt64} {K : Nat} (hg : fOK K g) (hf : fOK K f) (hK : K ≤ 2046) : maxF g (sizeF f) = up g f := maxF_eq (fB_nn hg.1 (by omega)) (fB_nn (size_ok hf.1 hf.2).1 (by omega))
theorem grF_ok {fi : IF} {fx fy fz : DF} {n K : Nat} (hK : 1 ≤ K) (h1 : ∀ j, j < n → fOK K (fx j)) (h2 : ∀ j, j < n → fOK K (fy j)) (h3 : ∀ j, j < n → fOK K (fz j)) : ∀ k, k ≤ n → fOK K (grF fi fx fy fz k)
  | 0, _ => c0_ok hK
  | k + 1, h => by
    have q := grF_ok (fi := fi) hK h1 h2 h3 k (by omega)
    by_cases c : fi k = 0
    · rw [gr_p c]; exact up_ok (up_ok (up_ok q (h1 k (by omega))) (h2 k (by omega))) (h3 k (by omega))
    · rw [gr_n c]; exact q
theorem gr_max {fi : IF} {fx fy fz : DF} {n K k : Nat} (hK : 1 ≤ K) (hK2 : K ≤ 2046) (h1 : ∀ j, j < n → fOK K (fx j)) (h2 : ∀ j, j < n → fOK K (fy j)) (h3 : ∀ j, j < n → fOK K (fz j)) (hk : k < n) (c : fi k = 0) : maxF (grF fi fx fy fz k) (maxF (sizeF (fx k)) (maxF (sizeF (fy k)) (sizeF (fz k)))) = grF fi fx fy fz (k + 1) := by
  have q := grF_ok (fi := fi) hK h1 h2 h3 k (by omega)
  have z : ∀ {x : UInt64}, fOK K x → zOK (sizeF x) := fun h => fOK_z ⟨(size_ok h.1 h.2).1, (size_ok h.1 h.2).2⟩ hK2
  rw [maxF_assoc (fOK_z q hK2) (z (h1 k hk)) (z (h2 k hk)) (z (h3 k hk)), up_max q (h1 k hk) hK2, up_max (up_ok q (h1 k hk)) (h2 k hk) hK2, up_max (up_ok (up_ok q (h1 k hk)) (h2 k hk)) (h3 k hk) hK2, gr_p c]
