/-! values in a range; the public calls' words -/
theorem dge_key {a b : UInt64} (h : dge a b) : FP.Core.dkey b ≤ FP.Core.dkey a := by
  obtain ⟨h1, h2, h3⟩ := FP.Core.dcmp_ge.mp h
  exact (zle_key h2 h1).mp h3
theorem dle_key {a b : UInt64} (h : dle a b) : FP.Core.dkey a ≤ FP.Core.dkey b := by
  obtain ⟨h1, h2, h3⟩ := FP.Core.dcmp_le.mp h
  exact (zle_key h1 h2).mp h3
theorem inR_fB {v lo hi : UInt64} {K : Nat} (h : inR v lo hi) (h1 : fB K lo) (h2 : fB K hi) : fB K v := by
  have k1 := dge_key h.1
  have k2 := dle_key h.2
  unfold FP.Core.dkey at k1 k2
  unfold fB at h1 h2 ⊢
  have a1 := v.toNat_lt
  have a2 := lo.toNat_lt
  have a3 := hi.toNat_lt
  by_cases c1 : 2 ^ 63 ≤ v.toNat <;> by_cases c2 : 2 ^ 63 ≤ lo.toNat <;> by_cases c3 : 2 ^ 63 ≤ hi.toNat <;> simp only [c1, c2, c3, if_true, if_false] at k1 k2 <;> omega
theorem inR_fL {v lo hi : UInt64} {L : Nat} (h : inR v lo hi) (h0 : lo.toNat < 2 ^ 63) (h1 : fL L lo) (hL : 1 ≤ L) : fP v ∧ fL L v := by
  have k1 := dge_key h.1
  unfold FP.Core.dkey at k1
  unfold fL at h1 ⊢
  unfold fP
  have a1 := v.toNat_lt
  rw [if_neg (by omega)] at k1
  by_cases c1 : 2 ^ 63 ≤ v.toNat
  · rw [if_pos c1] at k1
    omega
  · rw [if_neg c1] at k1
    constructor <;> omega
theorem inN_lt {n : Nat} {x : Int32} (hn : n < 2 ^ 31) (h0 : ¬ x < 0) (h1 : x < nI n) : inN n x := by
  obtain ⟨j, hj, rfl⟩ := nI_of h0
  exact ⟨j, (nI_ltI hj hn).mp h1, rfl⟩
theorem inN_nlt {n : Nat} {x : Int32} (hn : n < 2 ^ 31) (h1 : ¬ x < nI n) : ¬ inN n x := by
  rintro ⟨j, hj, rfl⟩
  exact h1 ((nI_ltI (by omega) hn).mpr hj)
theorem inN_le {n : Nat} {x : Int32} (hn : n + 1 < 2 ^ 31) (h0 : ¬ x < 0) (h1 : x ≤ nI n) : inN (n + 1) x := by
  obtain ⟨j, hj, rfl⟩ := nI_of h0
  have := (nI_leI hj (by omega)).mp h1
  exact ⟨j, by omega, rfl⟩
theorem inN_nle {n : Nat} {x : Int32} (hn : n + 1 < 2 ^ 31) (h1 : ¬ x ≤ nI n) : ¬ inN (n + 1) x := by
  rintro ⟨j, hj, rfl⟩
  exact h1 ((nI_leI (by omega) (by omega)).mpr (by omega))
theorem ax_no {x : Int32} (h0 : ¬ x = 0) (h1 : ¬ x = nI 1) (h2 : ¬ x = nI 2) : ¬ inN 3 x := by
  rintro ⟨j, hj, rfl⟩
  rcases (show j = 0 ∨ j = 1 ∨ j = 2 by omega) with rfl | rfl | rfl
  · exact h0 rfl
  · exact h1 rfl
  · exact h2 rfl
def q_node (G : GS) (x : UInt64) (y : UInt64) (z : UInt64) (r : Int32) (G2 : GS) : Prop := match G with
  | ((nN, px, py, pz, fx, fy, fz, lf, ld, fi), (nB, fr, tt, ln, wi, sg, pu), (nR, rd, rx, ry, wv, fo), (re, dg), (nP, tp, bt, dp)) => ((nN < 30 ∧ inR x 13875379345695965184 4652007308841189376 ∧ inR y 13875379345695965184 4652007308841189376 ∧ inR z 13875379345695965184 4652007308841189376) ∧ r = nI nN ∧ G2 = ((nN + 1, vf_upd px nN x, vf_upd py nN y, vf_upd pz nN z, fx, fy, fz, lf, ld, fi), (nB, fr, tt, ln, wi, sg, pu), (nR, rd, rx, ry, wv, fo), (re, dg), (nP, tp, bt, dp))) ∨ (¬ (nN < 30 ∧ inR x 13875379345695965184 4652007308841189376 ∧ inR y 13875379345695965184 4652007308841189376 ∧ inR z 13875379345695965184 4652007308841189376) ∧ r = (-1 : Int32) ∧ G2 = ((nN, px, py, pz, fx, fy, fz, lf, ld, fi), (nB, fr, tt, ln, wi, sg, pu), (nR, rd, rx, ry, wv, fo), (re, dg), (nP, tp, bt, dp)))
theorem q_node_det {G : GS} {x : UInt64} {y : UInt64} {z : UInt64} {r1 r2 : Int32} {G1 G2 : GS} (h1 : q_node G x y z r1 G1) (h2 : q_node G x y z r2 G2) : r1 = r2 ∧ G1 = G2 := by
  obtain ⟨⟨nN, px, py, pz, fx, fy, fz, lf, ld, fi⟩, ⟨nB, fr, tt, ln, wi, sg, pu⟩, ⟨nR, rd, rx, ry, wv, fo⟩, ⟨re, dg⟩, ⟨nP, tp, bt, dp⟩⟩ := G
  rcases h1 with ⟨c1, rfl, rfl⟩ | ⟨c1, rfl, rfl⟩ <;> rcases h2 with ⟨c2, rfl, rfl⟩ | ⟨c2, rfl, rfl⟩ <;> first | exact ⟨rfl, rfl⟩ | exact absurd c1 c2 | exact absurd c2 c1
def q_bar (G : GS) (a : Int32) (b : Int32) (le : UInt64) (wd : UInt64) (sr : UInt64) (r : Int32) (G2 : GS) : Prop := match G with
  | ((nN, px, py, pz, fx, fy, fz, lf, ld, fi), (nB, fr, tt, ln, wi, sg, pu), (nR, rd, rx, ry, wv, fo), (re, dg), (nP, tp, bt, dp)) => ((inN nN a ∧ inN nN b ∧ ¬ a = b ∧ nB < 60 ∧ inR le 4593671619917905920 4652007308841189376 ∧ inR wd FP.dconst0 4621819117588971520 ∧ inR sr FP.dconst0 4696837146684686336) ∧ r = nI nB ∧ G2 = ((nN, px, py, pz, fx, fy, fz, lf, ld, fi), (nB + 1, upd fr nB a, upd tt nB b, vf_upd ln nB le, vf_upd wi nB wd, vf_upd sg nB sr, vf_upd pu nB 13830554455654793216), (nR, rd, rx, ry, wv, fo), (re, dg), (nP, tp, bt, dp))) ∨ (¬ (inN nN a ∧ inN nN b ∧ ¬ a = b ∧ nB < 60 ∧ inR le 4593671619917905920 4652007308841189376 ∧ inR wd FP.dconst0 4621819117588971520 ∧ inR sr FP.dconst0 4696837146684686336) ∧ r = (-1 : Int32) ∧ G2 = ((nN, px, py, pz, fx, fy, fz, lf, ld, fi), (nB, fr, tt, ln, wi, sg, pu), (nR, rd, rx, ry, wv, fo), (re, dg), (nP, tp, bt, dp)))
theorem q_bar_det {G : GS} {a : Int32} {b : Int32} {le : UInt64} {wd : UInt64} {sr : UInt64} {r1 r2 : Int32} {G1 G2 : GS} (h1 : q_bar G a b le wd sr r1 G1) (h2 : q_bar G a b le wd sr r2 G2) : r1 = r2 ∧ G1 = G2 := by
  obtain ⟨⟨nN, px, py, pz, fx, fy, fz, lf, ld, fi⟩, ⟨nB, fr, tt, ln, wi, sg, pu⟩, ⟨nR, rd, rx, ry, wv, fo⟩, ⟨re, dg⟩, ⟨nP, tp, bt, dp⟩⟩ := G
  rcases h1 with ⟨c1, rfl, rfl⟩ | ⟨c1, rfl, rfl⟩ <;> rcases h2 with ⟨c2, rfl, rfl⟩ | ⟨c2, rfl, rfl⟩ <;> first | exact ⟨rfl, rfl⟩ | exact absurd c1 c2 | exact absurd c2 c1
def q_fix (G : GS) (k : Int32)  (r : Int32) (G2 : GS) : Prop := match G with
  | ((nN, px, py, pz, fx, fy, fz, lf, ld, fi), (nB, fr, tt, ln, wi, sg, pu), (nR, rd, rx, ry, wv, fo), (re, dg), (nP, tp, bt, dp)) => (∃ j, j < nN ∧ k = nI j ∧ (True) ∧ r = nI 1 ∧ G2 = ((nN, px, py, pz, fx, fy, fz, lf, ld, upd fi j (nI 1)), (nB, fr, tt, ln, wi, sg, pu), (nR, rd, rx, ry, wv, fo), (re, dg), (nP, tp, bt, dp))) ∨ (¬ (inN nN k ∧ (True)) ∧ r = nI 0 ∧ G2 = ((nN, px, py, pz, fx, fy, fz, lf, ld, fi), (nB, fr, tt, ln, wi, sg, pu), (nR, rd, rx, ry, wv, fo), (re, dg), (nP, tp, bt, dp)))
theorem q_fix_det {G : GS} {k : Int32}  {r1 r2 : Int32} {G1 G2 : GS} (hN : G.1.1 ≤ 30) (h1 : q_fix G k  r1 G1) (h2 : q_fix G k  r2 G2) : r1 = r2 ∧ G1 = G2 := by
  obtain ⟨⟨nN, px, py, pz, fx, fy, fz, lf, ld, fi⟩, ⟨nB, fr, tt, ln, wi, sg, pu⟩, ⟨nR, rd, rx, ry, wv, fo⟩, ⟨re, dg⟩, ⟨nP, tp, bt, dp⟩⟩ := G
  have hN : nN ≤ 30 := hN
  rcases h1 with ⟨j, hj, rfl, c1, rfl, rfl⟩ | ⟨c1, rfl, rfl⟩ <;> rcases h2 with ⟨i, hi, e, c2, rfl, rfl⟩ | ⟨c2, rfl, rfl⟩
  · have e := (nI_eq (by omega) (by omega)).mp e
    subst e
    exact ⟨rfl, rfl⟩
  · exact absurd ⟨⟨j, hj, rfl⟩, c1⟩ c2
  · exact absurd ⟨⟨i, hi, e⟩, c2⟩ c1
  · exact ⟨rfl, rfl⟩
def q_floats (G : GS) (k : Int32) (v : UInt64) (r : Int32) (G2 : GS) : Prop := match G with
  | ((nN, px, py, pz, fx, fy, fz, lf, ld, fi), (nB, fr, tt, ln, wi, sg, pu), (nR, rd, rx, ry, wv, fo), (re, dg), (nP, tp, bt, dp)) => (∃ j, j < nN ∧ k = nI j ∧ (inR v 13904980397738950656 4681608360884174848) ∧ r = nI 1 ∧ G2 = ((nN, px, py, pz, fx, fy, fz, vf_upd lf j v, ld, fi), (nB, fr, tt, ln, wi, sg, pu), (nR, rd, rx, ry, wv, fo), (re, dg), (nP, tp, bt, dp))) ∨ (¬ (inN nN k ∧ (inR v 13904980397738950656 4681608360884174848)) ∧ r = nI 0 ∧ G2 = ((nN, px, py, pz, fx, fy, fz, lf, ld, fi), (nB, fr, tt, ln, wi, sg, pu), (nR, rd, rx, ry, wv, fo), (re, dg), (nP, tp, bt, dp)))
theorem q_floats_det {G : GS} {k : Int32} {v : UInt64} {r1 r2 : Int32} {G1 G2 : GS} (hN : G.1.1 ≤ 30) (h1 : q_floats G k v r1 G1) (h2 : q_floats G k v r2 G2) : r1 = r2 ∧ G1 = G2 := by
  obtain ⟨⟨nN, px, py, pz, fx, fy, fz, lf, ld, fi⟩, ⟨nB, fr, tt, ln, wi, sg, pu⟩, ⟨nR, rd, rx, ry, wv, fo⟩, ⟨re, dg⟩, ⟨nP, tp, bt, dp⟩⟩ := G
  have hN : nN ≤ 30 := hN
  rcases h1 with ⟨j, hj, rfl, c1, rfl, rfl⟩ | ⟨c1, rfl, rfl⟩ <;> rcases h2 with ⟨i, hi, e, c2, rfl, rfl⟩ | ⟨c2, rfl, rfl⟩
  · have e := (nI_eq (by omega) (by omega)).mp e
    subst e
    exact ⟨rfl, rfl⟩
  · exact absurd ⟨⟨j, hj, rfl⟩, c1⟩ c2
  · exact absurd ⟨⟨i, hi, e⟩, c2⟩ c1
  · exact ⟨rfl, rfl⟩
def q_catchAt (G : GS) (k : Int32) (v : UInt64) (r : Int32) (G2 : GS) : Prop := match G with
  | ((nN, px, py, pz, fx, fy, fz, lf, ld, fi), (nB, fr, tt, ln, wi, sg, pu), (nR, rd, rx, ry, wv, fo), (re, dg), (nP, tp, bt, dp)) => (∃ j, j < nN ∧ k = nI j ∧ (inR v FP.dconst0 4681608360884174848) ∧ r = nI 1 ∧ G2 = ((nN, px, py, pz, fx, fy, fz, lf, vf_upd ld j v, fi), (nB, fr, tt, ln, wi, sg, pu), (nR, rd, rx, ry, wv, fo), (re, dg), (nP, tp, bt, dp))) ∨ (¬ (inN nN k ∧ (inR v FP.dconst0 4681608360884174848)) ∧ r = nI 0 ∧ G2 = ((nN, px, py, pz, fx, fy, fz, lf, ld, fi), (nB, fr, tt, ln, wi, sg, pu), (nR, rd, rx, ry, wv, fo), (re, dg), (nP, tp, bt, dp)))
theorem q_catchAt_det {G : GS} {k : Int32} {v : UInt64} {r1 r2 : Int32} {G1 G2 : GS} (hN : G.1.1 ≤ 30) (h1 : q_catchAt G k v r1 G1) (h2 : q_catchAt G k v r2 G2) : r1 = r2 ∧ G1 = G2 := by
  obtain ⟨⟨nN, px, py, pz, fx, fy, fz, lf, ld, fi⟩, ⟨nB, fr, tt, ln, wi, sg, pu⟩, ⟨nR, rd, rx, ry, wv, fo⟩, ⟨re, dg⟩, ⟨nP, tp, bt, dp⟩⟩ := G
  have hN : nN ≤ 30 := hN
  rcases h1 with ⟨j, hj, rfl, c1, rfl, rfl⟩ | ⟨c1, rfl, rfl⟩ <;> rcases h2 with ⟨i, hi, e, c2, rfl, rfl⟩ | ⟨c2, rfl, rfl⟩
  · have e := (nI_eq (by omega) (by omega)).mp e
    subst e
    exact ⟨rfl, rfl⟩
  · exact absurd ⟨⟨j, hj, rfl⟩, c1⟩ c2
  · exact absurd ⟨⟨i, hi, e⟩, c2⟩ c1
  · exact ⟨rfl, rfl⟩
def q_foul (G : GS) (v : UInt64) (r : Int32) (G2 : GS) : Prop := match G with
  | ((nN, px, py, pz, fx, fy, fz, lf, ld, fi), (nB, fr, tt, ln, wi, sg, pu), (nR, rd, rx, ry, wv, fo), (re, dg), (nP, tp, bt, dp)) => ((inR v FP.dconst0 4617315517961601024) ∧ r = nI 1 ∧ G2 = ((nN, px, py, pz, fx, fy, fz, lf, ld, fi), (nB, fr, tt, ln, wi, sg, pu), (nR, rd, rx, ry, wv, v), (re, dg), (nP, tp, bt, dp))) ∨ (¬ (inR v FP.dconst0 4617315517961601024) ∧ r = nI 0 ∧ G2 = ((nN, px, py, pz, fx, fy, fz, lf, ld, fi), (nB, fr, tt, ln, wi, sg, pu), (nR, rd, rx, ry, wv, fo), (re, dg), (nP, tp, bt, dp)))
theorem q_foul_det {G : GS} {v : UInt64} {r1 r2 : Int32} {G1 G2 : GS} (h1 : q_foul G v r1 G1) (h2 : q_foul G v r2 G2) : r1 = r2 ∧ G1 = G2 := by
  obtain ⟨⟨nN, px, py, pz, fx, fy, fz, lf, ld, fi⟩, ⟨nB, fr, tt, ln, wi, sg, pu⟩, ⟨nR, rd, rx, ry, wv, fo⟩, ⟨re, dg⟩, ⟨nP, tp, bt, dp⟩⟩ := G
  rcases h1 with ⟨c1, rfl, rfl⟩ | ⟨c1, rfl, rfl⟩ <;> rcases h2 with ⟨c2, rfl, rfl⟩ | ⟨c2, rfl, rfl⟩ <;> first | exact ⟨rfl, rfl⟩ | exact absurd c1 c2 | exact absurd c2 c1
def q_wave (G : GS) (h : UInt64) (pe : UInt64) (n : Int32) (r : Int32) (G2 : GS) : Prop := match G with
  | ((nN, px, py, pz, fx, fy, fz, lf, ld, fi), (nB, fr, tt, ln, wi, sg, pu), (nR, rd, rx, ry, wv, fo), (re, dg), (nP, tp, bt, dp)) => ((inR h FP.dconst0 4629137466983448576 ∧ inR pe FP.dconst1 4633641066610819072 ∧ ¬ n < 0 ∧ n ≤ nI 100) ∧ r = nI nR ∧ G2 = ((nN, px, py, pz, fx, fy, fz, lf, ld, fi), (nB, fr, tt, ln, wi, sg, pu), (nR, rd, rx, ry, FP.ddiv (FP.dmul (FP.ddiv (h) (FP.dadd (pe) (FP.dconst1))) (FP.i2d (n))) (4636737291354636288), fo), (re, dg), (nP, tp, bt, dp))) ∨ (¬ (inR h FP.dconst0 4629137466983448576 ∧ inR pe FP.dconst1 4633641066610819072 ∧ ¬ n < 0 ∧ n ≤ nI 100) ∧ r = (-1 : Int32) ∧ G2 = ((nN, px, py, pz, fx, fy, fz, lf, ld, fi), (nB, fr, tt, ln, wi, sg, pu), (nR, rd, rx, ry, wv, fo), (re, dg), (nP, tp, bt, dp)))
theorem q_wave_det {G : GS} {h : UInt64} {pe : UInt64} {n : Int32} {r1 r2 : Int32} {G1 G2 : GS} (h1 : q_wave G h pe n r1 G1) (h2 : q_wave G h pe n r2 G2) : r1 = r2 ∧ G1 = G2 := by
  obtain ⟨⟨nN, px, py, pz, fx, fy, fz, lf, ld, fi⟩, ⟨nB, fr, tt, ln, wi, sg, pu⟩, ⟨nR, rd, rx, ry, wv, fo⟩, ⟨re, dg⟩, ⟨nP, tp, bt, dp⟩⟩ := G
  rcases h1 with ⟨c1, rfl, rfl⟩ | ⟨c1, rfl, rfl⟩ <;> rcases h2 with ⟨c2, rfl, rfl⟩ | ⟨c2, rfl, rfl⟩ <;> first | exact ⟨rfl, rfl⟩ | exact absurd c1 c2 | exact absurd c2 c1
def q_at (G : GS) (k : Int32) (x : Int32) (r : UInt64) : Prop := match G with
  | ((nN, px, py, pz, fx, fy, fz, lf, ld, fi), (nB, fr, tt, ln, wi, sg, pu), (nR, rd, rx, ry, wv, fo), (re, dg), (nP, tp, bt, dp)) => (∃ j, j < nN ∧ k = nI j ∧ ((x = nI 0 ∧ r = px j) ∨ (x = nI 1 ∧ r = py j) ∨ (x = nI 2 ∧ r = pz j))) ∨ (¬ (inN nN k ∧ inN 3 x) ∧ r = FP.dconst0)
def q_pull (G : GS) (k : Int32) (r : UInt64) : Prop := match G with
  | ((nN, px, py, pz, fx, fy, fz, lf, ld, fi), (nB, fr, tt, ln, wi, sg, pu), (nR, rd, rx, ry, wv, fo), (re, dg), (nP, tp, bt, dp)) => (∃ j, j < nB ∧ k = nI j ∧ r = pu j) ∨ (¬ inN nB k ∧ r = 13830554455654793216)
def q_drag (G : GS) (x : Int32) (r : UInt64) : Prop := match G with
  | ((nN, px, py, pz, fx, fy, fz, lf, ld, fi), (nB, fr, tt, ln, wi, sg, pu), (nR, rd, rx, ry, wv, fo), (re, dg), (nP, tp, bt, dp)) => (∃ j, j < 3 ∧ x = nI j ∧ r = dg j) ∨ (¬ inN 3 x ∧ r = FP.dconst0)
theorem iX3_has_X3 : ∀ w ∈ u_ws RX3 TX3 6, w ∈ wsX3_has := by decide +kernel
set_option maxHeartbeats 4000000 in
set_option maxRecDepth 100000 in
theorem kX3_has (l : Launch) (D : va_G) (cs : Nat → ClassId) (ad : Nat → Nat) (hd : distX ad) (sz : Nat) (S : XS) (hnN : S.1.1.1 ≤ 30) (k : Int32) : Met l yX3_has wsX3_has ({ frames := 0, cells := 0, slots := 0, locals := 0 } : Room) (gP D (WX cs ad) (EX D cs) S sz ([.ref (ad 1), .int (k)] : List Value)) (va_Qi (fun r u => u = S ∧ ((r = nI 1 ∧ inN (S.1.1.1) k) ∨ (r = nI 0 ∧ ¬ inN (S.1.1.1) k))) (gB D (WX cs ad)) (gA (AX ad) sz)) 0 0 (gA (AX ad) sz) := by
  obtain ⟨⟨⟨nN, px, py, pz, fx, fy, fz, lf, ld, fi⟩, ⟨nB, fr, tt, ln, wi, sg, pu⟩, ⟨nR, rd, rx, ry, wv, fo⟩, ⟨re, dg⟩, ⟨nP, tp, bt, dp⟩⟩, ⟨sp, ac, kp, kc, kn, aw, dw, su, ss, sd⟩⟩ := S
  have hnN : nN ≤ 30 := hnN
  refine gMz (cc := cX3_has) (maxL := 2) (plainFor_of_name (by decide)) rfl (Nat.le_of_ble_eq_true rfl) ?_
  intro p e s m below meth c Q hx hb hts hown hml hsz hE hret H locs hP hS ls hl
  subst hsz
  have hown : s.vm.findClass RX3 = some m.cls := hown
  have hK : va_K D vwCl (tysX cs) s := hE.1
  have hD : ∀ u, va_D (gA (AX ad) s.heap.size) (WX cs ad u) := fun u => WX_D hd u
  have hl : lv_has ls 2 [(0, .ref (ad 1)), (1, .int (k))] := hl
  have f_30 := hts (.fieldLink RX3 30 "NetShapes$Nodes" "count" "I") (by decide +kernel)
  refine lv_iload_n hx hb dX3_has_0 rfl (lv_at hl 1 rfl) ?_
  refine lv_if_lt (tgt := 16) hx hb dX3_has_1 (by decide) (fun c_1_1 => ?_) (fun c_1_1 => ?_)
  · skip
    refine lv_iconst (v := nI 0) hx hb dX3_has_16 (by decide) ?_
    exact hret hS hP dX3_has_17 (Or.inl rfl) (⟨rfl, Or.inr ⟨rfl, inN_neg (by omega) c_1_1⟩⟩)
  · skip
    refine lv_iload_n hx hb dX3_has_4 rfl (lv_at hl 1 rfl) ?_
    refine lv_aload_n hx hb dX3_has_5 rfl (lv_at hl 0 rfl) ?_
    refine va_get (D := D) (ci := 3) (v := .int (nI nN)) (C := RX3) (T := TX3) (N := 6) hx hb hts iX3_has_X3 hown hK hP 1 rfl rfl 5 (by decide) f_30 (fun _ h9 => h9) rfl dX3_has_6 ?_
    refine lv_icmp_ge (tgt := 16) hx hb dX3_has_9 (by decide) (fun c_9_2 => ?_) (fun c_9_2 => ?_)
    · skip
      refine lv_iconst (v := nI 0) hx hb dX3_has_16 (by decide) ?_
      exact hret hS hP dX3_has_17 (Or.inl rfl) (⟨rfl, Or.inr ⟨rfl, inN_ge (by omega) c_9_2⟩⟩)
    · skip
      refine lv_iconst (v := nI 1) hx hb dX3_has_12 (by decide) ?_
      refine lv_goto (tgt := 17) hx hb dX3_has_13 (by decide) ?_
      exact hret hS hP dX3_has_17 (Or.inr rfl) (⟨rfl, Or.inl ⟨rfl, inN_of (by omega) c_1_1 c_9_2⟩⟩)
theorem iX1_has_X1 : ∀ w ∈ u_ws RX1 TX1 7, w ∈ wsX1_has := by decide +kernel
set_option maxHeartbeats 4000000 in
set_option maxRecDepth 100000 in
theorem kX1_has (l : Launch) (D : va_G) (cs : Nat → ClassId) (ad : Nat → Nat) (hd : distX ad) (sz : Nat) (S : XS) (hnB : S.1.2.1.1 ≤ 60) (k : Int32) : Met l yX1_has wsX1_has ({ frames := 0, cells := 0, slots := 0, locals := 0 } : Room) (gP D (WX cs ad) (EX D cs) S sz ([.ref (ad 2), .int (k)] : List Value)) (va_Qi (fun r u => u = S ∧ ((r = nI 1 ∧ inN (S.1.2.1.1) k) ∨ (r = nI 0 ∧ ¬ inN (S.1.2.1.1) k))) (gB D (WX cs ad)) (gA (AX ad) sz)) 0 0 (gA (AX ad) sz) := by
  obtain ⟨⟨⟨nN, px, py, pz, fx, fy, fz, lf, ld, fi⟩, ⟨nB, fr, tt, ln, wi, sg, pu⟩, ⟨nR, rd, rx, ry, wv, fo⟩, ⟨re, dg⟩, ⟨nP, tp, bt, dp⟩⟩, ⟨sp, ac, kp, kc, kn, aw, dw, su, ss, sd⟩⟩ := S
  have hnB : nB ≤ 60 := hnB
  refine gMz (cc := cX1_has) (maxL := 2) (plainFor_of_name (by decide)) rfl (Nat.le_of_ble_eq_true rfl) ?_
  intro p e s m below meth c Q hx hb hts hown hml hsz hE hret H locs hP hS ls hl
  subst hsz
  have hown : s.vm.findClass RX1 = some m.cls := hown
  have hK : va_K D vwCl (tysX cs) s := hE.1
  have hD : ∀ u, va_D (gA (AX ad) s.heap.size) (WX cs ad u) := fun u => WX_D hd u
  have hl : lv_has ls 2 [(0, .ref (ad 2)), (1, .int (k))] := hl
  have f_31 := hts (.fieldLink RX1 31 "NetShapes$Bars" "count" "I") (by decide +kernel)
  refine lv_iload_n hx hb dX1_has_0 rfl (lv_at hl 1 rfl) ?_
  refine lv_if_lt (tgt := 16) hx hb dX1_has_1 (by decide) (fun c_1_1 => ?_) (fun c_1_1 => ?_)
  · skip
    refine lv_iconst (v := nI 0) hx hb dX1_has_16 (by decide) ?_
    exact hret hS hP dX1_has_17 (Or.inl rfl) (⟨rfl, Or.inr ⟨rfl, inN_neg (by omega) c_1_1⟩⟩)
  · skip
    refine lv_iload_n hx hb dX1_has_4 rfl (lv_at hl 1 rfl) ?_
    refine lv_aload_n hx hb dX1_has_5 rfl (lv_at hl 0 rfl) ?_
    refine va_get (D := D) (ci := 1) (v := .int (nI nB)) (C := RX1) (T := TX1) (N := 7) hx hb hts iX1_has_X1 hown hK hP 2 rfl rfl 6 (by decide) f_31 (fun _ h9 => h9) rfl dX1_has_6 ?_
    refine lv_icmp_ge (tgt := 16) hx hb dX1_has_9 (by decide) (fun c_9_2 => ?_) (fun c_9_2 => ?_)
    · skip
      refine lv_iconst (v := nI 0) hx hb dX1_has_16 (by decide) ?_
      exact hret hS hP dX1_has_17 (Or.inl rfl) (⟨rfl, Or.inr ⟨rfl, inN_ge (by omega) c_9_2⟩⟩)
    · skip
      refine lv_iconst (v := nI 1) hx hb dX1_has_12 (by decide) ?_
      refine lv_goto (tgt := 17) hx hb dX1_has_13 (by decide) ?_
      exact hret hS hP dX1_has_17 (Or.inr rfl) (⟨rfl, Or.inl ⟨rfl, inN_of (by omega) c_1_1 c_9_2⟩⟩)
theorem iX4_has_X4 : ∀ w ∈ u_ws RX4 TX4 9, w ∈ wsX4_has := by decide +kernel
set_option maxHeartbeats 4000000 in
set_option maxRecDepth 100000 in
theorem kX4_has (l : Launch) (D : va_G) (cs : Nat → ClassId) (ad : Nat → Nat) (hd : distX ad) (sz : Nat) (S : XS) (hnP : S.1.2.2.2.2.1 ≤ 30) (k : Int32) : Met l yX4_has wsX4_has ({ frames := 0, cells := 0, slots := 0, locals := 0 } : Room) (gP D (WX cs ad) (EX D cs) S sz ([.ref (ad 6), .int (k)] : List Value)) (va_Qi (fun r u => u = S ∧ ((r = nI 1 ∧ inN (S.1.2.2.2.2.1) k) ∨ (r = nI 0 ∧ ¬ inN (S.1.2.2.2.2.1) k))) (gB D (WX cs ad)) (gA (AX ad) sz)) 0 0 (gA (AX ad) sz) := by
  obtain ⟨⟨⟨nN, px, py, pz, fx, fy, fz, lf, ld, fi⟩, ⟨nB, fr, tt, ln, wi, sg, pu⟩, ⟨nR, rd, rx, ry, wv, fo⟩, ⟨re, dg⟩, ⟨nP, tp, bt, dp⟩⟩, ⟨sp, ac, kp, kc, kn, aw, dw, su, ss, sd⟩⟩ := S
  have hnP : nP ≤ 30 := hnP
  refine gMz (cc := cX4_has) (maxL := 2) (plainFor_of_name (by decide)) rfl (Nat.le_of_ble_eq_true rfl) ?_
  intro p e s m below meth c Q hx hb hts hown hml hsz hE hret H locs hP hS ls hl
  subst hsz
  have hown : s.vm.findClass RX4 = some m.cls := hown
  have hK : va_K D vwCl (tysX cs) s := hE.1
  have hD : ∀ u, va_D (gA (AX ad) s.heap.size) (WX cs ad u) := fun u => WX_D hd u
  have hl : lv_has ls 2 [(0, .ref (ad 6)), (1, .int (k))] := hl
  have f_27 := hts (.fieldLink RX4 27 "NetShapes$Panels" "count" "I") (by decide +kernel)
  refine lv_iload_n hx hb dX4_has_0 rfl (lv_at hl 1 rfl) ?_
  refine lv_if_lt (tgt := 16) hx hb dX4_has_1 (by decide) (fun c_1_1 => ?_) (fun c_1_1 => ?_)
  · skip
    refine lv_iconst (v := nI 0) hx hb dX4_has_16 (by decide) ?_
    exact hret hS hP dX4_has_17 (Or.inl rfl) (⟨rfl, Or.inr ⟨rfl, inN_neg (by omega) c_1_1⟩⟩)
  · skip
    refine lv_iload_n hx hb dX4_has_4 rfl (lv_at hl 1 rfl) ?_
    refine lv_aload_n hx hb dX4_has_5 rfl (lv_at hl 0 rfl) ?_
    refine va_get (D := D) (ci := 4) (v := .int (nI nP)) (C := RX4) (T := TX4) (N := 9) hx hb hts iX4_has_X4 hown hK hP 6 rfl rfl 5 (by decide) f_27 (fun _ h9 => h9) rfl dX4_has_6 ?_
    refine lv_icmp_ge (tgt := 16) hx hb dX4_has_9 (by decide) (fun c_9_2 => ?_) (fun c_9_2 => ?_)
    · skip
      refine lv_iconst (v := nI 0) hx hb dX4_has_16 (by decide) ?_
      exact hret hS hP dX4_has_17 (Or.inl rfl) (⟨rfl, Or.inr ⟨rfl, inN_ge (by omega) c_9_2⟩⟩)
    · skip
      refine lv_iconst (v := nI 1) hx hb dX4_has_12 (by decide) ?_
      refine lv_goto (tgt := 17) hx hb dX4_has_13 (by decide) ?_
      exact hret hS hP dX4_has_17 (Or.inr rfl) (⟨rfl, Or.inl ⟨rfl, inN_of (by omega) c_1_1 c_9_2⟩⟩)
theorem iX7_isNode_X7 : ∀ w ∈ u_ws RX7 TX7 31, w ∈ wsX7_isNode := by decide +kernel
set_option maxHeartbeats 4000000 in
set_option maxRecDepth 100000 in
theorem kX7_isNode (l : Launch) (D : va_G) (cs : Nat → ClassId) (ad : Nat → Nat) (hd : distM ad) (sz : Nat) (S : MS) (hnN : S.1.1.1 ≤ 30) (k : Int32) : Met l yX7_isNode wsX7_isNode ({ frames := 0, cells := 0, slots := 0, locals := 0 } : Room) (gP D (WM cs ad) (EM D cs) S sz ([.ref (ad 0), .int (k)] : List Value)) (va_Qi (fun r u => u = S ∧ ((r = nI 1 ∧ inN (S.1.1.1) k) ∨ (r = nI 0 ∧ ¬ inN (S.1.1.1) k))) (gB D (WM cs ad)) (gA (AM ad) sz)) 0 0 (gA (AM ad) sz) := by
  obtain ⟨⟨⟨nN, px, py, pz, fx, fy, fz, lf, ld, fi⟩, ⟨nB, fr, tt, ln, wi, sg, pu⟩, ⟨nR, rd, rx, ry, wv, fo⟩, ⟨re, dg⟩, ⟨nP, tp, bt, dp⟩⟩, ⟨nQ, fu⟩⟩ := S
  have hnN : nN ≤ 30 := hnN
  refine gMz (cc := cX7_isNode) (maxL := 2) (plainFor_of_name (by decide)) rfl (Nat.le_of_ble_eq_true rfl) ?_
  intro p e s m below meth c Q hx hb hts hown hml hsz hE hret H locs hP hS ls hl
  subst hsz
  have hown : s.vm.findClass RX7 = some m.cls := hown
  have hK : va_K D vwCl (tysX cs) s := hE.1
  have hD : ∀ u, va_D (gA (AM ad) s.heap.size) (WM cs ad u) := fun u => WM_D hd u
  have hl : lv_has ls 2 [(0, .ref (ad 0)), (1, .int (k))] := hl
  have f_89 := hts (.fieldLink RX7 89 "NetShapesModel" "nodes" "I") (by decide +kernel)
  refine lv_iload_n hx hb dX7_isNode_0 rfl (lv_at hl 1 rfl) ?_
  refine lv_if_lt (tgt := 16) hx hb dX7_isNode_1 (by decide) (fun c_1_1 => ?_) (fun c_1_1 => ?_)
  · skip
    refine lv_iconst (v := nI 0) hx hb dX7_isNode_16 (by decide) ?_
    exact hret hS hP dX7_isNode_17 (Or.inl rfl) (⟨rfl, Or.inr ⟨rfl, inN_neg (by omega) c_1_1⟩⟩)
  · skip
    refine lv_iload_n hx hb dX7_isNode_4 rfl (lv_at hl 1 rfl) ?_
    refine lv_aload_n hx hb dX7_isNode_5 rfl (lv_at hl 0 rfl) ?_
    refine va_get (D := D) (ci := 7) (v := .int (nI nN)) (C := RX7) (T := TX7) (N := 31) hx hb hts iX7_isNode_X7 hown hK hP 0 rfl rfl 0 (by decide) f_89 (fun _ h9 => h9) rfl dX7_isNode_6 ?_
    refine lv_icmp_ge (tgt := 16) hx hb dX7_isNode_9 (by decide) (fun c_9_2 => ?_) (fun c_9_2 => ?_)
    · skip
      refine lv_iconst (v := nI 0) hx hb dX7_isNode_16 (by decide) ?_
      exact hret hS hP dX7_isNode_17 (Or.inl rfl) (⟨rfl, Or.inr ⟨rfl, inN_ge (by omega) c_9_2⟩⟩)
    · skip
      refine lv_iconst (v := nI 1) hx hb dX7_isNode_12 (by decide) ?_
      refine lv_goto (tgt := 17) hx hb dX7_isNode_13 (by decide) ?_
      exact hret hS hP dX7_isNode_17 (Or.inr rfl) (⟨rfl, Or.inl ⟨rfl, inN_of (by omega) c_1_1 c_9_2⟩⟩)
theorem iX7_isPanel_X7 : ∀ w ∈ u_ws RX7 TX7 31, w ∈ wsX7_isPanel := by decide +kernel
set_option maxHeartbeats 4000000 in
set_option maxRecDepth 100000 in
theorem kX7_isPanel (l : Launch) (D : va_G) (cs : Nat → ClassId) (ad : Nat → Nat) (hd : distM ad) (sz : Nat) (S : MS) (hnP : S.1.2.2.2.2.1 ≤ 30) (k : Int32) : Met l yX7_isPanel wsX7_isPanel ({ frames := 0, cells := 0, slots := 0, locals := 0 } : Room) (gP D (WM cs ad) (EM D cs) S sz ([.ref (ad 0), .int (k)] : List Value)) (va_Qi (fun r u => u = S ∧ ((r = nI 1 ∧ inN (S.1.2.2.2.2.1) k) ∨ (r = nI 0 ∧ ¬ inN (S.1.2.2.2.2.1) k))) (gB D (WM cs ad)) (gA (AM ad) sz)) 0 0 (gA (AM ad) sz) := by
  obtain ⟨⟨⟨nN, px, py, pz, fx, fy, fz, lf, ld, fi⟩, ⟨nB, fr, tt, ln, wi, sg, pu⟩, ⟨nR, rd, rx, ry, wv, fo⟩, ⟨re, dg⟩, ⟨nP, tp, bt, dp⟩⟩, ⟨nQ, fu⟩⟩ := S
  have hnP : nP ≤ 30 := hnP
  refine gMz (cc := cX7_isPanel) (maxL := 2) (plainFor_of_name (by decide)) rfl (Nat.le_of_ble_eq_true rfl) ?_
  intro p e s m below meth c Q hx hb hts hown hml hsz hE hret H locs hP hS ls hl
  subst hsz
  have hown : s.vm.findClass RX7 = some m.cls := hown
  have hK : va_K D vwCl (tysX cs) s := hE.1
  have hD : ∀ u, va_D (gA (AM ad) s.heap.size) (WM cs ad u) := fun u => WM_D hd u
  have hl : lv_has ls 2 [(0, .ref (ad 0)), (1, .int (k))] := hl
  have f_190 := hts (.fieldLink RX7 190 "NetShapesModel" "panels" "I") (by decide +kernel)
  refine lv_iload_n hx hb dX7_isPanel_0 rfl (lv_at hl 1 rfl) ?_
  refine lv_if_lt (tgt := 16) hx hb dX7_isPanel_1 (by decide) (fun c_1_1 => ?_) (fun c_1_1 => ?_)
  · skip
    refine lv_iconst (v := nI 0) hx hb dX7_isPanel_16 (by decide) ?_
    exact hret hS hP dX7_isPanel_17 (Or.inl rfl) (⟨rfl, Or.inr ⟨rfl, inN_neg (by omega) c_1_1⟩⟩)
  · skip
    refine lv_iload_n hx hb dX7_isPanel_4 rfl (lv_at hl 1 rfl) ?_
    refine lv_aload_n hx hb dX7_isPanel_5 rfl (lv_at hl 0 rfl) ?_
    refine va_get (D := D) (ci := 7) (v := .int (nI nP)) (C := RX7) (T := TX7) (N := 31) hx hb hts iX7_isPanel_X7 hown hK hP 0 rfl rfl 27 (by decide) f_190 (fun _ h9 => h9) rfl dX7_isPanel_6 ?_
    refine lv_icmp_ge (tgt := 16) hx hb dX7_isPanel_9 (by decide) (fun c_9_2 => ?_) (fun c_9_2 => ?_)
    · skip
      refine lv_iconst (v := nI 0) hx hb dX7_isPanel_16 (by decide) ?_
      exact hret hS hP dX7_isPanel_17 (Or.inl rfl) (⟨rfl, Or.inr ⟨rfl, inN_ge (by omega) c_9_2⟩⟩)
    · skip
      refine lv_iconst (v := nI 1) hx hb dX7_isPanel_12 (by decide) ?_
      refine lv_goto (tgt := 17) hx hb dX7_isPanel_13 (by decide) ?_
      exact hret hS hP dX7_isPanel_17 (Or.inr rfl) (⟨rfl, Or.inl ⟨rfl, inN_of (by omega) c_1_1 c_9_2⟩⟩)
theorem iX3_add_X3 : ∀ w ∈ u_ws RX3 TX3 6, w ∈ wsX3_add := by decide +kernel
set_option maxHeartbeats 4000000 in
set_option maxRecDepth 100000 in
theorem kX3_add (l : Launch) (D : va_G) (cs : Nat → ClassId) (ad : Nat → Nat) (hd : distX ad) (sz : Nat) (S : XS) (hN : S.1.1.1 < 30) (x y z : UInt64) : Met l yX3_add wsX3_add ({ frames := 0, cells := 0, slots := 0, locals := 0 } : Room) (gP D (WX cs ad) (EX D cs) S sz ([.ref (ad 1), .double (x), .double (y), .double (z)] : List Value)) (va_Qi (fun r u => match S with | (((nN, px, py, pz, fx, fy, fz, lf, ld, fi), (nB, fr, tt, ln, wi, sg, pu), (nR, rd, rx, ry, wv, fo), (re, dg), (nP, tp, bt, dp)), (sp, ac, kp, kc, kn, aw, dw, su, ss, sd)) => r = nI nN ∧ u = (((nN + 1, (vf_upd px nN x), (vf_upd py nN y), (vf_upd pz nN z), fx, fy, fz, lf, ld, fi), (nB, fr, tt, ln, wi, sg, pu), (nR, rd, rx, ry, wv, fo), (re, dg), (nP, tp, bt, dp)), (sp, ac, kp, kc, kn, aw, dw, su, ss, sd))) (gB D (WX cs ad)) (gA (AX ad) sz)) 0 0 (gA (AX ad) sz) := by
  obtain ⟨⟨⟨nN, px, py, pz, fx, fy, fz, lf, ld, fi⟩, ⟨nB, fr, tt, ln, wi, sg, pu⟩, ⟨nR, rd, rx, ry, wv, fo⟩, ⟨re, dg⟩, ⟨nP, tp, bt, dp⟩⟩, ⟨sp, ac, kp, kc, kn, aw, dw, su, ss, sd⟩⟩ := S
  have hN : nN < 30 := hN
  refine gMi (cc := cX3_add) (maxL := 8) (plainFor_of_name (by decide)) rfl (Nat.le_of_ble_eq_true rfl) ?_
  intro p e s m below meth c Q hx hb hts hown hml hsz hE hret H locs hP hS ls hl
  subst hsz
  have hown : s.vm.findClass RX3 = some m.cls := hown
  have hK : va_K D vwCl (tysX cs) s := hE.1
  have hD : ∀ u, va_D (gA (AX ad) s.heap.size) (WX cs ad u) := fun u => WX_D hd u
  have hl : lv_has ls 8 [(0, .ref (ad 1)), (1, .double (x)), (3, .double (y)), (5, .double (z))] := hl
  have f_11 := hts (.fieldLink RX3 11 "NetShapes$Nodes" "places" "[[D") (by decide +kernel)
  have f_30 := hts (.fieldLink RX3 30 "NetShapes$Nodes" "count" "I") (by decide +kernel)
  refine lv_aload_n hx hb dX3_add_0 rfl (lv_at hl 0 rfl) ?_
  refine va_get (D := D) (ci := 3) (v := .int (nI nN)) (C := RX3) (T := TX3) (N := 6) hx hb hts iX3_add_X3 hown hK hP 1 rfl rfl 5 (by decide) f_30 (fun _ h9 => h9) rfl dX3_add_1 ?_
  refine lv_istore (lv' := [(7, .int (nI nN)), (0, .ref (ad 1)), (1, .double (x)), (3, .double (y)), (5, .double (z))]) hx hb dX3_add_4 hl (by decide) rfl (fun ls hl => ?_)
  refine lv_aload_n hx hb dX3_add_6 rfl (lv_at hl 1 rfl) ?_
  refine va_get (D := D) (ci := 3) (v := .ref (ad 7)) (C := RX3) (T := TX3) (N := 6) hx hb hts iX3_add_X3 hown hK hP 1 rfl rfl 0 (by decide) f_11 (fun _ h9 => h9) rfl dX3_add_7 ?_
  refine lv_iconst (v := nI 0) hx hb dX3_add_10 (by decide) ?_
  refine xal hx hb hK hP 7 3 rfl rfl (j := 0) (v := ad 30) (by decide) (by decide) rfl dX3_add_11 ?_
  refine lv_iload hx hb dX3_add_12 (lv_at hl 0 rfl) ?_
  refine lv_dload_n hx hb dX3_add_14 rfl (lv_at hl 2 rfl) ?_
  refine xds hx hb hK hD hP hS 30 0 (((nN, (vf_upd px nN x), py, pz, fx, fy, fz, lf, ld, fi), (nB, fr, tt, ln, wi, sg, pu), (nR, rd, rx, ry, wv, fo), (re, dg), (nP, tp, bt, dp)), (sp, ac, kp, kc, kn, aw, dw, su, ss, sd)) rfl rfl (j := nN) (by decide) (by omega) rfl dX3_add_15 (fun H locs hP hS => ?_)
  refine lv_aload_n hx hb dX3_add_16 rfl (lv_at hl 1 rfl) ?_
  refine va_get (D := D) (ci := 3) (v := .ref (ad 7)) (C := RX3) (T := TX3) (N := 6) hx hb hts iX3_add_X3 hown hK hP 1 rfl rfl 0 (by decide) f_11 (fun _ h9 => h9) rfl dX3_add_17 ?_
  refine lv_iconst (v := nI 1) hx hb dX3_add_20 (by decide) ?_
  refine xal hx hb hK hP 7 3 rfl rfl (j := 1) (v := ad 31) (by decide) (by decide) rfl dX3_add_21 ?_
  refine lv_iload hx hb dX3_add_22 (lv_at hl 0 rfl) ?_
  refine lv_dload_n hx hb dX3_add_24 rfl (lv_at hl 3 rfl) ?_
  refine xds hx hb hK hD hP hS 31 0 (((nN, (vf_upd px nN x), (vf_upd py nN y), pz, fx, fy, fz, lf, ld, fi), (nB, fr, tt, ln, wi, sg, pu), (nR, rd, rx, ry, wv, fo), (re, dg), (nP, tp, bt, dp)), (sp, ac, kp, kc, kn, aw, dw, su, ss, sd)) rfl rfl (j := nN) (by decide) (by omega) rfl dX3_add_25 (fun H locs hP hS => ?_)
  refine lv_aload_n hx hb dX3_add_26 rfl (lv_at hl 1 rfl) ?_
  refine va_get (D := D) (ci := 3) (v := .ref (ad 7)) (C := RX3) (T := TX3) (N := 6) hx hb hts iX3_add_X3 hown hK hP 1 rfl rfl 0 (by decide) f_11 (fun _ h9 => h9) rfl dX3_add_27 ?_
  refine lv_iconst (v := nI 2) hx hb dX3_add_30 (by decide) ?_
  refine xal hx hb hK hP 7 3 rfl rfl (j := 2) (v := ad 32) (by decide) (by decide) rfl dX3_add_31 ?_
  refine lv_iload hx hb dX3_add_32 (lv_at hl 0 rfl) ?_
  refine lv_dload hx hb dX3_add_34 (lv_at hl 4 rfl) ?_
  refine xds hx hb hK hD hP hS 32 0 (((nN, (vf_upd px nN x), (vf_upd py nN y), (vf_upd pz nN z), fx, fy, fz, lf, ld, fi), (nB, fr, tt, ln, wi, sg, pu), (nR, rd, rx, ry, wv, fo), (re, dg), (nP, tp, bt, dp)), (sp, ac, kp, kc, kn, aw, dw, su, ss, sd)) rfl rfl (j := nN) (by decide) (by omega) rfl dX3_add_36 (fun H locs hP hS => ?_)
  refine lv_aload_n hx hb dX3_add_37 rfl (lv_at hl 1 rfl) ?_
  refine lv_dup hx hb dX3_add_38 rfl ?_
  refine va_get (D := D) (ci := 3) (v := .int (nI nN)) (C := RX3) (T := TX3) (N := 6) hx hb hts iX3_add_X3 hown hK hP 1 rfl rfl 5 (by decide) f_30 (fun _ h9 => h9) rfl dX3_add_39 ?_
  refine lv_iconst (v := nI 1) hx hb dX3_add_42 (by decide) ?_
  refine xia hx hb (nN + 1) dX3_add_43 rfl ?_
  refine xput (D := D) (ci := 3) (v := .int (nI (nN + 1))) (ty := .int) (C := RX3) (T := TX3) (N := 6) hx hb hts iX3_add_X3 tyX3 tyX3_ok nmX3 hown hK hD hP hS 1 ((((nN + 1), (vf_upd px nN x), (vf_upd py nN y), (vf_upd pz nN z), fx, fy, fz, lf, ld, fi), (nB, fr, tt, ln, wi, sg, pu), (nR, rd, rx, ry, wv, fo), (re, dg), (nP, tp, bt, dp)), (sp, ac, kp, kc, kn, aw, dw, su, ss, sd)) rfl rfl 5 (by decide) f_30 (fun _ h9 => h9) rfl (by decide +kernel) rfl rfl (Nat.le_of_ble_eq_true rfl) rfl dX3_add_44 (fun H locs hP hS => ?_)
  refine lv_iload hx hb dX3_add_47 (lv_at hl 0 rfl) ?_
  exact hret hS hP dX3_add_49 (⟨rfl, rfl⟩)
theorem iX1_add_X1 : ∀ w ∈ u_ws RX1 TX1 7, w ∈ wsX1_add := by decide +kernel
set_option maxHeartbeats 4000000 in
set_option maxRecDepth 100000 in
theorem kX1_add (l : Launch) (D : va_G) (cs : Nat → ClassId) (ad : Nat → Nat) (hd : distX ad) (sz : Nat) (S : XS) (hB : S.1.2.1.1 < 60) (a b : Int32) (x y z : UInt64) : Met l yX1_add wsX1_add ({ frames := 0, cells := 0, slots := 0, locals := 0 } : Room) (gP D (WX cs ad) (EX D cs) S sz ([.ref (ad 2), .int (a), .int (b), .double (x), .double (y), .double (z)] : List Value)) (va_Qi (fun r u => match S with | (((nN, px, py, pz, fx, fy, fz, lf, ld, fi), (nB, fr, tt, ln, wi, sg, pu), (nR, rd, rx, ry, wv, fo), (re, dg), (nP, tp, bt, dp)), (sp, ac, kp, kc, kn, aw, dw, su, ss, sd)) => r = nI nB ∧ u = (((nN, px, py, pz, fx, fy, fz, lf, ld, fi), (nB + 1, (upd fr nB a), (upd tt nB b), (vf_upd ln nB x), (vf_upd wi nB y), (vf_upd sg nB z), (vf_upd pu nB 13830554455654793216)), (nR, rd, rx, ry, wv, fo), (re, dg), (nP, tp, bt, dp)), (sp, ac, kp, kc, kn, aw, dw, su, ss, sd))) (gB D (WX cs ad)) (gA (AX ad) sz)) 0 0 (gA (AX ad) sz) := by
  obtain ⟨⟨⟨nN, px, py, pz, fx, fy, fz, lf, ld, fi⟩, ⟨nB, fr, tt, ln, wi, sg, pu⟩, ⟨nR, rd, rx, ry, wv, fo⟩, ⟨re, dg⟩, ⟨nP, tp, bt, dp⟩⟩, ⟨sp, ac, kp, kc, kn, aw, dw, su, ss, sd⟩⟩ := S
  have hB : nB < 60 := hB
  refine gMi (cc := cX1_add) (maxL := 10) (plainFor_of_name (by decide)) rfl (Nat.le_of_ble_eq_true rfl) ?_
  intro p e s m below meth c Q hx hb hts hown hml hsz hE hret H locs hP hS ls hl
  subst hsz
  have hown : s.vm.findClass RX1 = some m.cls := hown
  have hK : va_K D vwCl (tysX cs) s := hE.1
  have hD : ∀ u, va_D (gA (AX ad) s.heap.size) (WX cs ad u) := fun u => WX_D hd u
  have hl : lv_has ls 10 [(0, .ref (ad 2)), (1, .int (a)), (2, .int (b)), (3, .double (x)), (5, .double (y)), (7, .double (z))] := hl
  have c_35 := hts (.constantDouble RX1 35 13830554455654793216) (by decide +kernel)
  have f_9 := hts (.fieldLink RX1 9 "NetShapes$Bars" "from" "[I") (by decide +kernel)
  have f_15 := hts (.fieldLink RX1 15 "NetShapes$Bars" "to" "[I") (by decide +kernel)
  have f_18 := hts (.fieldLink RX1 18 "NetShapes$Bars" "length" "[D") (by decide +kernel)
  have f_22 := hts (.fieldLink RX1 22 "NetShapes$Bars" "width" "[D") (by decide +kernel)
  have f_25 := hts (.fieldLink RX1 25 "NetShapes$Bars" "strength" "[D") (by decide +kernel)
  have f_28 := hts (.fieldLink RX1 28 "NetShapes$Bars" "pulls" "[D") (by decide +kernel)
  have f_31 := hts (.fieldLink RX1 31 "NetShapes$Bars" "count" "I") (by decide +kernel)
  refine lv_aload_n hx hb dX1_add_0 rfl (lv_at hl 0 rfl) ?_
  refine va_get (D := D) (ci := 1) (v := .int (nI nB)) (C := RX1) (T := TX1) (N := 7) hx hb hts iX1_add_X1 hown hK hP 2 rfl rfl 6 (by decide) f_31 (fun _ h9 => h9) rfl dX1_add_1 ?_
  refine lv_istore (lv' := [(9, .int (nI nB)), (0, .ref (ad 2)), (1, .int (a)), (2, .int (b)), (3, .double (x)), (5, .double (y)), (7, .double (z))]) hx hb dX1_add_4 hl (by decide) rfl (fun ls hl => ?_)
  refine lv_aload_n hx hb dX1_add_6 rfl (lv_at hl 1 rfl) ?_
  refine va_get (D := D) (ci := 1) (v := .ref (ad 12)) (C := RX1) (T := TX1) (N := 7) hx hb hts iX1_add_X1 hown hK hP 2 rfl rfl 0 (by decide) f_9 (fun _ h9 => h9) rfl dX1_add_7 ?_
  refine lv_iload hx hb dX1_add_10 (lv_at hl 0 rfl) ?_
  refine lv_iload_n hx hb dX1_add_12 rfl (lv_at hl 2 rfl) ?_
  refine xis hx hb hK hD hP hS 12 1 (((nN, px, py, pz, fx, fy, fz, lf, ld, fi), (nB, (upd fr nB a), tt, ln, wi, sg, pu), (nR, rd, rx, ry, wv, fo), (re, dg), (nP, tp, bt, dp)), (sp, ac, kp, kc, kn, aw, dw, su, ss, sd)) rfl rfl (j := nB) (by decide) (by omega) rfl dX1_add_13 (fun H locs hP hS => ?_)
  refine lv_aload_n hx hb dX1_add_14 rfl (lv_at hl 1 rfl) ?_
  refine va_get (D := D) (ci := 1) (v := .ref (ad 13)) (C := RX1) (T := TX1) (N := 7) hx hb hts iX1_add_X1 hown hK hP 2 rfl rfl 1 (by decide) f_15 (fun _ h9 => h9) rfl dX1_add_15 ?_
  refine lv_iload hx hb dX1_add_18 (lv_at hl 0 rfl) ?_
  refine lv_iload_n hx hb dX1_add_20 rfl (lv_at hl 3 rfl) ?_
  refine xis hx hb hK hD hP hS 13 1 (((nN, px, py, pz, fx, fy, fz, lf, ld, fi), (nB, (upd fr nB a), (upd tt nB b), ln, wi, sg, pu), (nR, rd, rx, ry, wv, fo), (re, dg), (nP, tp, bt, dp)), (sp, ac, kp, kc, kn, aw, dw, su, ss, sd)) rfl rfl (j := nB) (by decide) (by omega) rfl dX1_add_21 (fun H locs hP hS => ?_)
  refine lv_aload_n hx hb dX1_add_22 rfl (lv_at hl 1 rfl) ?_
  refine va_get (D := D) (ci := 1) (v := .ref (ad 14)) (C := RX1) (T := TX1) (N := 7) hx hb hts iX1_add_X1 hown hK hP 2 rfl rfl 2 (by decide) f_18 (fun _ h9 => h9) rfl dX1_add_23 ?_
  refine lv_iload hx hb dX1_add_26 (lv_at hl 0 rfl) ?_
  refine lv_dload_n hx hb dX1_add_28 rfl (lv_at hl 4 rfl) ?_
  refine xds hx hb hK hD hP hS 14 0 (((nN, px, py, pz, fx, fy, fz, lf, ld, fi), (nB, (upd fr nB a), (upd tt nB b), (vf_upd ln nB x), wi, sg, pu), (nR, rd, rx, ry, wv, fo), (re, dg), (nP, tp, bt, dp)), (sp, ac, kp, kc, kn, aw, dw, su, ss, sd)) rfl rfl (j := nB) (by decide) (by omega) rfl dX1_add_29 (fun H locs hP hS => ?_)
  refine lv_aload_n hx hb dX1_add_30 rfl (lv_at hl 1 rfl) ?_
  refine va_get (D := D) (ci := 1) (v := .ref (ad 15)) (C := RX1) (T := TX1) (N := 7) hx hb hts iX1_add_X1 hown hK hP 2 rfl rfl 3 (by decide) f_22 (fun _ h9 => h9) rfl dX1_add_31 ?_
  refine lv_iload hx hb dX1_add_34 (lv_at hl 0 rfl) ?_
  refine lv_dload hx hb dX1_add_36 (lv_at hl 5 rfl) ?_
  refine xds hx hb hK hD hP hS 15 0 (((nN, px, py, pz, fx, fy, fz, lf, ld, fi), (nB, (upd fr nB a), (upd tt nB b), (vf_upd ln nB x), (vf_upd wi nB y), sg, pu), (nR, rd, rx, ry, wv, fo), (re, dg), (nP, tp, bt, dp)), (sp, ac, kp, kc, kn, aw, dw, su, ss, sd)) rfl rfl (j := nB) (by decide) (by omega) rfl dX1_add_38 (fun H locs hP hS => ?_)
  refine lv_aload_n hx hb dX1_add_39 rfl (lv_at hl 1 rfl) ?_
  refine va_get (D := D) (ci := 1) (v := .ref (ad 16)) (C := RX1) (T := TX1) (N := 7) hx hb hts iX1_add_X1 hown hK hP 2 rfl rfl 4 (by decide) f_25 (fun _ h9 => h9) rfl dX1_add_40 ?_
  refine lv_iload hx hb dX1_add_43 (lv_at hl 0 rfl) ?_
  refine lv_dload hx hb dX1_add_45 (lv_at hl 6 rfl) ?_
  refine xds hx hb hK hD hP hS 16 0 (((nN, px, py, pz, fx, fy, fz, lf, ld, fi), (nB, (upd fr nB a), (upd tt nB b), (vf_upd ln nB x), (vf_upd wi nB y), (vf_upd sg nB z), pu), (nR, rd, rx, ry, wv, fo), (re, dg), (nP, tp, bt, dp)), (sp, ac, kp, kc, kn, aw, dw, su, ss, sd)) rfl rfl (j := nB) (by decide) (by omega) rfl dX1_add_47 (fun H locs hP hS => ?_)
  refine lv_aload_n hx hb dX1_add_48 rfl (lv_at hl 1 rfl) ?_
  refine va_get (D := D) (ci := 1) (v := .ref (ad 17)) (C := RX1) (T := TX1) (N := 7) hx hb hts iX1_add_X1 hown hK hP 2 rfl rfl 5 (by decide) f_28 (fun _ h9 => h9) rfl dX1_add_49 ?_
  refine lv_iload hx hb dX1_add_52 (lv_at hl 0 rfl) ?_
  refine lv_ldc2d hx hb hown c_35 dX1_add_54 ?_
  refine xds hx hb hK hD hP hS 17 0 (((nN, px, py, pz, fx, fy, fz, lf, ld, fi), (nB, (upd fr nB a), (upd tt nB b), (vf_upd ln nB x), (vf_upd wi nB y), (vf_upd sg nB z), (vf_upd pu nB 13830554455654793216)), (nR, rd, rx, ry, wv, fo), (re, dg), (nP, tp, bt, dp)), (sp, ac, kp, kc, kn, aw, dw, su, ss, sd)) rfl rfl (j := nB) (by decide) (by omega) rfl dX1_add_57 (fun H locs hP hS => ?_)
  refine lv_aload_n hx hb dX1_add_58 rfl (lv_at hl 1 rfl) ?_
  refine lv_dup hx hb dX1_add_59 rfl ?_
  refine va_get (D := D) (ci := 1) (v := .int (nI nB)) (C := RX1) (T := TX1) (N := 7) hx hb hts iX1_add_X1 hown hK hP 2 rfl rfl 6 (by decide) f_31 (fun _ h9 => h9) rfl dX1_add_60 ?_
  refine lv_iconst (v := nI 1) hx hb dX1_add_63 (by decide) ?_
  refine xia hx hb (nB + 1) dX1_add_64 rfl ?_
  refine xput (D := D) (ci := 1) (v := .int (nI (nB + 1))) (ty := .int) (C := RX1) (T := TX1) (N := 7) hx hb hts iX1_add_X1 tyX1 tyX1_ok nmX1 hown hK hD hP hS 2 (((nN, px, py, pz, fx, fy, fz, lf, ld, fi), ((nB + 1), (upd fr nB a), (upd tt nB b), (vf_upd ln nB x), (vf_upd wi nB y), (vf_upd sg nB z), (vf_upd pu nB 13830554455654793216)), (nR, rd, rx, ry, wv, fo), (re, dg), (nP, tp, bt, dp)), (sp, ac, kp, kc, kn, aw, dw, su, ss, sd)) rfl rfl 6 (by decide) f_31 (fun _ h9 => h9) rfl (by decide +kernel) rfl rfl (Nat.le_of_ble_eq_true rfl) rfl dX1_add_65 (fun H locs hP hS => ?_)
  refine lv_iload hx hb dX1_add_68 (lv_at hl 0 rfl) ?_
  exact hret hS hP dX1_add_70 (⟨rfl, rfl⟩)
theorem iX6_node_X3 : ∀ w ∈ u_ws RX3 TX3 6, w ∈ wsX6_node := by decide +kernel
theorem iX6_node_X6 : ∀ w ∈ u_ws RX6 TX6 6, w ∈ wsX6_node := by decide +kernel
set_option maxHeartbeats 4000000 in
set_option maxRecDepth 100000 in
theorem kX6_node (l : Launch) (D : va_G) (cs : Nat → ClassId) (ad : Nat → Nat) (hd : distX ad) (sz : Nat) (S : XS) (hnN : S.1.1.1 ≤ 30) (x y z : UInt64) : Met l yX6_node wsX6_node ({ frames := 2, cells := 0, slots := 0, locals := 46 } : Room) (gP D (WX cs ad) (EX D cs) S sz ([.ref (ad 0), .double (x), .double (y), .double (z)] : List Value)) (va_Qi (fun r u => q_node S.1 x y z r u.1 ∧ u.2 = S.2) (gB D (WX cs ad)) (gA (AX ad) sz)) 0 0 (gA (AX ad) sz) := by
  obtain ⟨⟨⟨nN, px, py, pz, fx, fy, fz, lf, ld, fi⟩, ⟨nB, fr, tt, ln, wi, sg, pu⟩, ⟨nR, rd, rx, ry, wv, fo⟩, ⟨re, dg⟩, ⟨nP, tp, bt, dp⟩⟩, ⟨sp, ac, kp, kc, kn, aw, dw, su, ss, sd⟩⟩ := S
  have hnN : nN ≤ 30 := hnN
  refine gMi (cc := cX6_node) (maxL := 7) (plainFor_of_name (by decide)) rfl (Nat.le_of_ble_eq_true rfl) ?_
  intro p e s m below meth c Q hx hb hts hown hml hsz hE hret H locs hP hS ls hl
  subst hsz
  have hown : s.vm.findClass RX6 = some m.cls := hown
  have hK : va_K D vwCl (tysX cs) s := hE.1
  have hD : ∀ u, va_D (gA (AX ad) s.heap.size) (WX cs ad u) := fun u => WX_D hd u
  have hl : lv_has ls 7 [(0, .ref (ad 0)), (1, .double (x)), (3, .double (y)), (5, .double (z))] := hl
  have f_10 := hts (.fieldLink RX6 10 "NetShapes" "nodes" "LNetShapes$Nodes;") (by decide +kernel)
  have f_53 := hts (.fieldLink RX6 53 "NetShapes$Nodes" "count" "I") (by decide +kernel)
  refine lv_aload_n hx hb dX6_node_0 rfl (lv_at hl 0 rfl) ?_
  refine va_get (D := D) (ci := 6) (v := .ref (ad 1)) (C := RX6) (T := TX6) (N := 6) hx hb hts iX6_node_X6 hown hK hP 0 rfl rfl 0 (by decide) f_10 (fun _ h9 => h9) rfl dX6_node_1 ?_
  refine va_get (D := D) (ci := 3) (v := .int (nI nN)) (C := RX3) (T := TX3) (N := 6) hx hb hts iX6_node_X3 hown hK hP 1 rfl rfl 5 (by decide) f_53 (fun _ h9 => h9) rfl dX6_node_4 ?_
  refine lv_bipush (v := nI 30) hx hb dX6_node_7 (by decide) ?_
  refine lv_icmp_ge (tgt := 34) hx hb dX6_node_9 (by decide) (fun c_9_1 => ?_) (fun c_9_1 => ?_)
  · skip
    have c_9_1 : 30 ≤ nN := (nI_leI (a := 30) (b := nN) (by omega) (by omega)).mp c_9_1
    refine lv_iconst (v := (-1 : Int32)) hx hb dX6_node_34 (by decide) ?_
    exact hret hS hP dX6_node_35 (⟨Or.inr ⟨fun q => absurd q.1 (by omega), rfl, rfl⟩, rfl⟩)
  · skip
    have c_9_1 : ¬ (30 ≤ nN) := fun q => c_9_1 ((nI_leI (a := 30) (b := nN) (by omega) (by omega)).mpr q)
    refine lv_dload_n hx hb dX6_node_12 rfl (lv_at hl 1 rfl) ?_
    refine g0i (va_runS (As := [.double (x)]) (rest := []) ⟨hx, hb, hml, hown, hts⟩ (kX6_isPlace l D H.size x) (va_cwS 1 hts gX6_node_X6_isPlace rfl rfl rfl (by decide +kernel) ⟨Nat.le_of_ble_eq_true rfl, Nat.le_of_ble_eq_true rfl⟩) (gPreS (eT_bl) w0_P (fun _ _ _ => trivial)) rfl rfl hl.1 rfl (lv_room (Nat.le_of_ble_eq_true rfl)) dX6_node_13 ⟨Nat.zero_le _, Nat.zero_le _⟩) hP hS (fun r_ H locs hw hP hS => ?_)
    rcases hw with ⟨rfl, b_2⟩ | ⟨rfl, b_2⟩
    · skip
      have b_2 : inR (x) 13875379345695965184 4652007308841189376 := b_2
      refine lv_if_eq (tgt := 34) hx hb dX6_node_16 (by decide) (fun c_16_3 => absurd c_16_3 (by decide)) (fun _ => ?_)
      refine lv_dload_n hx hb dX6_node_19 rfl (lv_at hl 2 rfl) ?_
      refine g0i (va_runS (As := [.double (y)]) (rest := []) ⟨hx, hb, hml, hown, hts⟩ (kX6_isPlace l D H.size y) (va_cwS 1 hts gX6_node_X6_isPlace rfl rfl rfl (by decide +kernel) ⟨Nat.le_of_ble_eq_true rfl, Nat.le_of_ble_eq_true rfl⟩) (gPreS (eT_bl) w0_P (fun _ _ _ => trivial)) rfl rfl hl.1 rfl (lv_room (Nat.le_of_ble_eq_true rfl)) dX6_node_20 ⟨Nat.zero_le _, Nat.zero_le _⟩) hP hS (fun r_ H locs hw hP hS => ?_)
      rcases hw with ⟨rfl, b_4⟩ | ⟨rfl, b_4⟩
      · skip
        have b_4 : inR (y) 13875379345695965184 4652007308841189376 := b_4
        refine lv_if_eq (tgt := 34) hx hb dX6_node_23 (by decide) (fun c_23_5 => absurd c_23_5 (by decide)) (fun _ => ?_)
        refine lv_dload hx hb dX6_node_26 (lv_at hl 3 rfl) ?_
        refine g0i (va_runS (As := [.double (z)]) (rest := []) ⟨hx, hb, hml, hown, hts⟩ (kX6_isPlace l D H.size z) (va_cwS 1 hts gX6_node_X6_isPlace rfl rfl rfl (by decide +kernel) ⟨Nat.le_of_ble_eq_true rfl, Nat.le_of_ble_eq_true rfl⟩) (gPreS (eT_bl) w0_P (fun _ _ _ => trivial)) rfl rfl hl.1 rfl (lv_room (Nat.le_of_ble_eq_true rfl)) dX6_node_28 ⟨Nat.zero_le _, Nat.zero_le _⟩) hP hS (fun r_ H locs hw hP hS => ?_)
        rcases hw with ⟨rfl, b_6⟩ | ⟨rfl, b_6⟩
        · skip
          have b_6 : inR (z) 13875379345695965184 4652007308841189376 := b_6
          refine lv_if_ne (tgt := 36) hx hb dX6_node_31 (by decide) (fun _ => ?_) (fun c_31_7 => absurd c_31_7 (by decide))
          refine lv_aload_n hx hb dX6_node_36 rfl (lv_at hl 0 rfl) ?_
          refine va_get (D := D) (ci := 6) (v := .ref (ad 1)) (C := RX6) (T := TX6) (N := 6) hx hb hts iX6_node_X6 hown hK hP 0 rfl rfl 0 (by decide) f_10 (fun _ h9 => h9) rfl dX6_node_37 ?_
          refine lv_dload_n hx hb dX6_node_40 rfl (lv_at hl 1 rfl) ?_
          refine lv_dload_n hx hb dX6_node_41 rfl (lv_at hl 2 rfl) ?_
          refine lv_dload hx hb dX6_node_42 (lv_at hl 3 rfl) ?_
          refine gci (va_runV (As := [.double (x), .double (y), .double (z)]) (rest := []) ⟨hx, hb, hml, hown, hts⟩ (kX3_add l D cs ad hd H.size (((nN, px, py, pz, fx, fy, fz, lf, ld, fi), (nB, fr, tt, ln, wi, sg, pu), (nR, rd, rx, ry, wv, fo), (re, dg), (nP, tp, bt, dp)), (sp, ac, kp, kc, kn, aw, dw, su, ss, sd)) (show nN < 30 by omega) x y z) (cwV 3 hts gX6_node_X3_add rfl rfl rfl (by decide +kernel) ⟨Nat.le_of_ble_eq_true rfl, Nat.le_of_ble_eq_true rfl⟩) (gPreV (EX_bl) (va_recv hK hP (ci := 3) (q0 := 1) rfl rfl) hP (fun U _ hW => EX_warm hW hE)) rfl rfl hl.1 rfl (lv_room (Nat.le_of_ble_eq_true rfl)) dX6_node_44 ⟨Nat.zero_le _, Nat.zero_le _⟩) hS (fun r_ u_ H locs hw hP hS => ?_)
          obtain ⟨rfl, rfl⟩ := hw
          have hP : va_P D vwCl (WX cs ad ((((nN + 1), (vf_upd px nN x), (vf_upd py nN y), (vf_upd pz nN z), fx, fy, fz, lf, ld, fi), (nB, fr, tt, ln, wi, sg, pu), (nR, rd, rx, ry, wv, fo), (re, dg), (nP, tp, bt, dp)), (sp, ac, kp, kc, kn, aw, dw, su, ss, sd))) H := hP
          exact hret hS hP dX6_node_47 (⟨Or.inl ⟨⟨(show nN < 30 by omega), b_2, b_4, b_6⟩, rfl, rfl⟩, rfl⟩)
        · skip
          have b_6 : ¬ (inR (z) 13875379345695965184 4652007308841189376) := b_6
          refine lv_if_ne (tgt := 36) hx hb dX6_node_31 (by decide) (fun c_31_8 => absurd c_31_8 (by decide)) (fun _ => ?_)
          refine lv_iconst (v := (-1 : Int32)) hx hb dX6_node_34 (by decide) ?_
          exact hret hS hP dX6_node_35 (⟨Or.inr ⟨fun q => absurd q.2.2.2 b_6, rfl, rfl⟩, rfl⟩)
      · skip
        have b_4 : ¬ (inR (y) 13875379345695965184 4652007308841189376) := b_4
        refine lv_if_eq (tgt := 34) hx hb dX6_node_23 (by decide) (fun _ => ?_) (fun c_23_9 => absurd c_23_9 (by decide))
        refine lv_iconst (v := (-1 : Int32)) hx hb dX6_node_34 (by decide) ?_
        exact hret hS hP dX6_node_35 (⟨Or.inr ⟨fun q => absurd q.2.2.1 b_4, rfl, rfl⟩, rfl⟩)
    · skip
      have b_2 : ¬ (inR (x) 13875379345695965184 4652007308841189376) := b_2
      refine lv_if_eq (tgt := 34) hx hb dX6_node_16 (by decide) (fun _ => ?_) (fun c_16_10 => absurd c_16_10 (by decide))
      refine lv_iconst (v := (-1 : Int32)) hx hb dX6_node_34 (by decide) ?_
      exact hret hS hP dX6_node_35 (⟨Or.inr ⟨fun q => absurd q.2.1 b_2, rfl, rfl⟩, rfl⟩)
theorem iX7_node_X7 : ∀ w ∈ u_ws RX7 TX7 31, w ∈ wsX7_node := by decide +kernel
set_option maxHeartbeats 4000000 in
set_option maxRecDepth 100000 in
theorem kX7_node (l : Launch) (D : va_G) (cs : Nat → ClassId) (ad : Nat → Nat) (hd : distM ad) (sz : Nat) (S : MS) (hnN : S.1.1.1 ≤ 30) (x y z : UInt64) : Met l yX7_node wsX7_node ({ frames := 1, cells := 0, slots := 0, locals := 25 } : Room) (gP D (WM cs ad) (EM D cs) S sz ([.ref (ad 0), .double (x), .double (y), .double (z)] : List Value)) (va_Qi (fun r u => q_node S.1 x y z r u.1 ∧ u.2 = S.2) (gB D (WM cs ad)) (gA (AM ad) sz)) 0 0 (gA (AM ad) sz) := by
  obtain ⟨⟨⟨nN, px, py, pz, fx, fy, fz, lf, ld, fi⟩, ⟨nB, fr, tt, ln, wi, sg, pu⟩, ⟨nR, rd, rx, ry, wv, fo⟩, ⟨re, dg⟩, ⟨nP, tp, bt, dp⟩⟩, ⟨nQ, fu⟩⟩ := S
  have hnN : nN ≤ 30 := hnN
  refine gMi (cc := cX7_node) (maxL := 7) (plainFor_of_name (by decide)) rfl (Nat.le_of_ble_eq_true rfl) ?_
  intro p e s m below meth c Q hx hb hts hown hml hsz hE hret H locs hP hS ls hl
  subst hsz
  have hown : s.vm.findClass RX7 = some m.cls := hown
  have hK : va_K D vwCl (tysX cs) s := hE.1
  have hD : ∀ u, va_D (gA (AM ad) s.heap.size) (WM cs ad u) := fun u => WM_D hd u
  have hl : lv_has ls 7 [(0, .ref (ad 0)), (1, .double (x)), (3, .double (y)), (5, .double (z))] := hl
  have c_93 := hts (.constantDouble RX7 93 13875379345695965184) (by decide +kernel)
  have c_95 := hts (.constantDouble RX7 95 4652007308841189376) (by decide +kernel)
  have f_7 := hts (.fieldLink RX7 7 "NetShapesModel" "x" "[D") (by decide +kernel)
  have f_13 := hts (.fieldLink RX7 13 "NetShapesModel" "y" "[D") (by decide +kernel)
  have f_16 := hts (.fieldLink RX7 16 "NetShapesModel" "z" "[D") (by decide +kernel)
  have f_89 := hts (.fieldLink RX7 89 "NetShapesModel" "nodes" "I") (by decide +kernel)
  refine lv_aload_n hx hb dX7_node_0 rfl (lv_at hl 0 rfl) ?_
  refine va_get (D := D) (ci := 7) (v := .int (nI nN)) (C := RX7) (T := TX7) (N := 31) hx hb hts iX7_node_X7 hown hK hP 0 rfl rfl 0 (by decide) f_89 (fun _ h9 => h9) rfl dX7_node_1 ?_
  refine lv_bipush (v := nI 30) hx hb dX7_node_4 (by decide) ?_
  refine lv_icmp_eq (tgt := 49) hx hb dX7_node_6 (by decide) (fun c_6_1 => ?_) (fun c_6_1 => ?_)
  · skip
    have c_6_1 : nN = 30 := (nI_eq (a := nN) (b := 30) (by omega) (by omega)).mp c_6_1
    refine lv_iconst (v := (-1 : Int32)) hx hb dX7_node_49 (by decide) ?_
    exact hret hS hP dX7_node_50 (⟨Or.inr ⟨fun q => absurd q.1 (by omega), rfl, rfl⟩, rfl⟩)
  · skip
    have c_6_1 : ¬ (nN = 30) := fun q => c_6_1 ((nI_eq (a := nN) (b := 30) (by omega) (by omega)).mpr q)
    refine lv_dload_n hx hb dX7_node_9 rfl (lv_at hl 1 rfl) ?_
    refine lv_ldc2d hx hb hown c_93 dX7_node_10 ?_
    refine lv_ldc2d hx hb hown c_95 dX7_node_13 ?_
    refine g0i (va_runS (As := [.double (x), .double (13875379345695965184), .double (4652007308841189376)]) (rest := []) ⟨hx, hb, hml, hown, hts⟩ (kX7_isIn l D H.size x 13875379345695965184 4652007308841189376) (va_cwS 3 hts gX7_node_X7_isIn rfl rfl rfl (by decide +kernel) ⟨Nat.le_of_ble_eq_true rfl, Nat.le_of_ble_eq_true rfl⟩) (gPreS (eT_bl) w0_P (fun _ _ _ => trivial)) rfl rfl hl.1 rfl (lv_room (Nat.le_of_ble_eq_true rfl)) dX7_node_16 ⟨Nat.zero_le _, Nat.zero_le _⟩) hP hS (fun r_ H locs hw hP hS => ?_)
    rcases hw with ⟨rfl, b_2⟩ | ⟨rfl, b_2⟩
    · skip
      have b_2 : inR (x) (13875379345695965184) (4652007308841189376) := b_2
      refine lv_if_eq (tgt := 49) hx hb dX7_node_19 (by decide) (fun c_19_3 => absurd c_19_3 (by decide)) (fun _ => ?_)
      refine lv_dload_n hx hb dX7_node_22 rfl (lv_at hl 2 rfl) ?_
      refine lv_ldc2d hx hb hown c_93 dX7_node_23 ?_
      refine lv_ldc2d hx hb hown c_95 dX7_node_26 ?_
      refine g0i (va_runS (As := [.double (y), .double (13875379345695965184), .double (4652007308841189376)]) (rest := []) ⟨hx, hb, hml, hown, hts⟩ (kX7_isIn l D H.size y 13875379345695965184 4652007308841189376) (va_cwS 3 hts gX7_node_X7_isIn rfl rfl rfl (by decide +kernel) ⟨Nat.le_of_ble_eq_true rfl, Nat.le_of_ble_eq_true rfl⟩) (gPreS (eT_bl) w0_P (fun _ _ _ => trivial)) rfl rfl hl.1 rfl (lv_room (Nat.le_of_ble_eq_true rfl)) dX7_node_29 ⟨Nat.zero_le _, Nat.zero_le _⟩) hP hS (fun r_ H locs hw hP hS => ?_)
      rcases hw with ⟨rfl, b_4⟩ | ⟨rfl, b_4⟩
      · skip
        have b_4 : inR (y) (13875379345695965184) (4652007308841189376) := b_4
        refine lv_if_eq (tgt := 49) hx hb dX7_node_32 (by decide) (fun c_32_5 => absurd c_32_5 (by decide)) (fun _ => ?_)
        refine lv_dload hx hb dX7_node_35 (lv_at hl 3 rfl) ?_
        refine lv_ldc2d hx hb hown c_93 dX7_node_37 ?_
        refine lv_ldc2d hx hb hown c_95 dX7_node_40 ?_
        refine g0i (va_runS (As := [.double (z), .double (13875379345695965184), .double (4652007308841189376)]) (rest := []) ⟨hx, hb, hml, hown, hts⟩ (kX7_isIn l D H.size z 13875379345695965184 4652007308841189376) (va_cwS 3 hts gX7_node_X7_isIn rfl rfl rfl (by decide +kernel) ⟨Nat.le_of_ble_eq_true rfl, Nat.le_of_ble_eq_true rfl⟩) (gPreS (eT_bl) w0_P (fun _ _ _ => trivial)) rfl rfl hl.1 rfl (lv_room (Nat.le_of_ble_eq_true rfl)) dX7_node_43 ⟨Nat.zero_le _, Nat.zero_le _⟩) hP hS (fun r_ H locs hw hP hS => ?_)
        rcases hw with ⟨rfl, b_6⟩ | ⟨rfl, b_6⟩
        · skip
          have b_6 : inR (z) (13875379345695965184) (4652007308841189376) := b_6
          refine lv_if_ne (tgt := 51) hx hb dX7_node_46 (by decide) (fun _ => ?_) (fun c_46_7 => absurd c_46_7 (by decide))
          refine lv_aload_n hx hb dX7_node_51 rfl (lv_at hl 0 rfl) ?_
          refine va_get (D := D) (ci := 7) (v := .ref (ad 1)) (C := RX7) (T := TX7) (N := 31) hx hb hts iX7_node_X7 hown hK hP 0 rfl rfl 1 (by decide) f_7 (fun _ h9 => h9) rfl dX7_node_52 ?_
          refine lv_aload_n hx hb dX7_node_55 rfl (lv_at hl 0 rfl) ?_
          refine va_get (D := D) (ci := 7) (v := .int (nI nN)) (C := RX7) (T := TX7) (N := 31) hx hb hts iX7_node_X7 hown hK hP 0 rfl rfl 0 (by decide) f_89 (fun _ h9 => h9) rfl dX7_node_56 ?_
          refine lv_dload_n hx hb dX7_node_59 rfl (lv_at hl 1 rfl) ?_
          refine xds hx hb hK hD hP hS 1 0 (((nN, (vf_upd px nN x), py, pz, fx, fy, fz, lf, ld, fi), (nB, fr, tt, ln, wi, sg, pu), (nR, rd, rx, ry, wv, fo), (re, dg), (nP, tp, bt, dp)), (nQ, fu)) rfl rfl (j := nN) (by decide) (by omega) rfl dX7_node_60 (fun H locs hP hS => ?_)
          refine lv_aload_n hx hb dX7_node_61 rfl (lv_at hl 0 rfl) ?_
          refine va_get (D := D) (ci := 7) (v := .ref (ad 2)) (C := RX7) (T := TX7) (N := 31) hx hb hts iX7_node_X7 hown hK hP 0 rfl rfl 2 (by decide) f_13 (fun _ h9 => h9) rfl dX7_node_62 ?_
          refine lv_aload_n hx hb dX7_node_65 rfl (lv_at hl 0 rfl) ?_
          refine va_get (D := D) (ci := 7) (v := .int (nI nN)) (C := RX7) (T := TX7) (N := 31) hx hb hts iX7_node_X7 hown hK hP 0 rfl rfl 0 (by decide) f_89 (fun _ h9 => h9) rfl dX7_node_66 ?_
          refine lv_dload_n hx hb dX7_node_69 rfl (lv_at hl 2 rfl) ?_
          refine xds hx hb hK hD hP hS 2 0 (((nN, (vf_upd px nN x), (vf_upd py nN y), pz, fx, fy, fz, lf, ld, fi), (nB, fr, tt, ln, wi, sg, pu), (nR, rd, rx, ry, wv, fo), (re, dg), (nP, tp, bt, dp)), (nQ, fu)) rfl rfl (j := nN) (by decide) (by omega) rfl dX7_node_70 (fun H locs hP hS => ?_)
          refine lv_aload_n hx hb dX7_node_71 rfl (lv_at hl 0 rfl) ?_
          refine va_get (D := D) (ci := 7) (v := .ref (ad 3)) (C := RX7) (T := TX7) (N := 31) hx hb hts iX7_node_X7 hown hK hP 0 rfl rfl 3 (by decide) f_16 (fun _ h9 => h9) rfl dX7_node_72 ?_
          refine lv_aload_n hx hb dX7_node_75 rfl (lv_at hl 0 rfl) ?_
          refine va_get (D := D) (ci := 7) (v := .int (nI nN)) (C := RX7) (T := TX7) (N := 31) hx hb hts iX7_node_X7 hown hK hP 0 rfl rfl 0 (by decide) f_89 (fun _ h9 => h9) rfl dX7_node_76 ?_
          refine lv_dload hx hb dX7_node_79 (lv_at hl 3 rfl) ?_
          refine xds hx hb hK hD hP hS 3 0 (((nN, (vf_upd px nN x), (vf_upd py nN y), (vf_upd pz nN z), fx, fy, fz, lf, ld, fi), (nB, fr, tt, ln, wi, sg, pu), (nR, rd, rx, ry, wv, fo), (re, dg), (nP, tp, bt, dp)), (nQ, fu)) rfl rfl (j := nN) (by decide) (by omega) rfl dX7_node_81 (fun H locs hP hS => ?_)
          refine lv_aload_n hx hb dX7_node_82 rfl (lv_at hl 0 rfl) ?_
          refine lv_dup hx hb dX7_node_83 rfl ?_
          refine va_get (D := D) (ci := 7) (v := .int (nI nN)) (C := RX7) (T := TX7) (N := 31) hx hb hts iX7_node_X7 hown hK hP 0 rfl rfl 0 (by decide) f_89 (fun _ h9 => h9) rfl dX7_node_84 ?_
          refine lv_iconst (v := nI 1) hx hb dX7_node_87 (by decide) ?_
          refine xia hx hb (nN + 1) dX7_node_88 rfl ?_
          refine xput (D := D) (ci := 7) (v := .int (nI (nN + 1))) (ty := .int) (C := RX7) (T := TX7) (N := 31) hx hb hts iX7_node_X7 tyX7 tyX7_ok nmX7 hown hK hD hP hS 0 ((((nN + 1), (vf_upd px nN x), (vf_upd py nN y), (vf_upd pz nN z), fx, fy, fz, lf, ld, fi), (nB, fr, tt, ln, wi, sg, pu), (nR, rd, rx, ry, wv, fo), (re, dg), (nP, tp, bt, dp)), (nQ, fu)) rfl rfl 0 (by decide) f_89 (fun _ h9 => h9) rfl (by decide +kernel) rfl rfl (Nat.le_of_ble_eq_true rfl) rfl dX7_node_89 (fun H locs hP hS => ?_)
          refine lv_aload_n hx hb dX7_node_92 rfl (lv_at hl 0 rfl) ?_
          refine va_get (D := D) (ci := 7) (v := .int (nI ((nN + 1)))) (C := RX7) (T := TX7) (N := 31) hx hb hts iX7_node_X7 hown hK hP 0 rfl rfl 0 (by decide) f_89 (fun _ h9 => h9) rfl dX7_node_93 ?_
          refine lv_iconst (v := nI 1) hx hb dX7_node_96 (by decide) ?_
          refine xib hx hb (nN) dX7_node_97 (rfl) ?_
          exact hret hS hP dX7_node_98 (⟨Or.inl ⟨⟨(show nN < 30 by omega), b_2, b_4, b_6⟩, rfl, rfl⟩, rfl⟩)
        · skip
          have b_6 : ¬ (inR (z) (13875379345695965184) (4652007308841189376)) := b_6
          refine lv_if_ne (tgt := 51) hx hb dX7_node_46 (by decide) (fun c_46_8 => absurd c_46_8 (by decide)) (fun _ => ?_)
          refine lv_iconst (v := (-1 : Int32)) hx hb dX7_node_49 (by decide) ?_
          exact hret hS hP dX7_node_50 (⟨Or.inr ⟨fun q => absurd q.2.2.2 b_6, rfl, rfl⟩, rfl⟩)
      · skip
        have b_4 : ¬ (inR (y) (13875379345695965184) (4652007308841189376)) := b_4
        refine lv_if_eq (tgt := 49) hx hb dX7_node_32 (by decide) (fun _ => ?_) (fun c_32_9 => absurd c_32_9 (by decide))
        refine lv_iconst (v := (-1 : Int32)) hx hb dX7_node_49 (by decide) ?_
        exact hret hS hP dX7_node_50 (⟨Or.inr ⟨fun q => absurd q.2.2.1 b_4, rfl, rfl⟩, rfl⟩)
    · skip
      have b_2 : ¬ (inR (x) (13875379345695965184) (4652007308841189376)) := b_2
      refine lv_if_eq (tgt := 49) hx hb dX7_node_19 (by decide) (fun _ => ?_) (fun c_19_10 => absurd c_19_10 (by decide))
      refine lv_iconst (v := (-1 : Int32)) hx hb dX7_node_49 (by decide) ?_
      exact hret hS hP dX7_node_50 (⟨Or.inr ⟨fun q => absurd q.2.1 b_2, rfl, rfl⟩, rfl⟩)
theorem iX6_bar_X1 : ∀ w ∈ u_ws RX1 TX1 7, w ∈ wsX6_bar := by decide +kernel
theorem iX6_bar_X6 : ∀ w ∈ u_ws RX6 TX6 6, w ∈ wsX6_bar := by decide +kernel
set_option maxHeartbeats 4000000 in
set_option maxRecDepth 100000 in
theorem kX6_bar (l : Launch) (D : va_G) (cs : Nat → ClassId) (ad : Nat → Nat) (hd : distX ad) (sz : Nat) (S : XS) (hnN : S.1.1.1 ≤ 30)(hnB : S.1.2.1.1 ≤ 60) (a b : Int32) (x y z : UInt64) : Met l yX6_bar wsX6_bar ({ frames := 1, cells := 0, slots := 0, locals := 29 } : Room) (gP D (WX cs ad) (EX D cs) S sz ([.ref (ad 0), .int (a), .int (b), .double (x), .double (y), .double (z)] : List Value)) (va_Qi (fun r u => q_bar S.1 a b x y z r u.1 ∧ u.2 = S.2) (gB D (WX cs ad)) (gA (AX ad) sz)) 0 0 (gA (AX ad) sz) := by
  obtain ⟨⟨⟨nN, px, py, pz, fx, fy, fz, lf, ld, fi⟩, ⟨nB, fr, tt, ln, wi, sg, pu⟩, ⟨nR, rd, rx, ry, wv, fo⟩, ⟨re, dg⟩, ⟨nP, tp, bt, dp⟩⟩, ⟨sp, ac, kp, kc, kn, aw, dw, su, ss, sd⟩⟩ := S
  have hnN : nN ≤ 30 := hnN
  have hnB : nB ≤ 60 := hnB
  refine gMi (cc := cX6_bar) (maxL := 9) (plainFor_of_name (by decide)) rfl (Nat.le_of_ble_eq_true rfl) ?_
  intro p e s m below meth c Q hx hb hts hown hml hsz hE hret H locs hP hS ls hl
  subst hsz
  have hown : s.vm.findClass RX6 = some m.cls := hown
  have hK : va_K D vwCl (tysX cs) s := hE.1
  have hD : ∀ u, va_D (gA (AX ad) s.heap.size) (WX cs ad u) := fun u => WX_D hd u
  have hl : lv_has ls 9 [(0, .ref (ad 0)), (1, .int (a)), (2, .int (b)), (3, .double (x)), (5, .double (y)), (7, .double (z))] := hl
  have c_70 := hts (.constantDouble RX6 70 4593671619917905920) (by decide +kernel)
  have c_72 := hts (.constantDouble RX6 72 4652007308841189376) (by decide +kernel)
  have c_78 := hts (.constantDouble RX6 78 4621819117588971520) (by decide +kernel)
  have c_80 := hts (.constantDouble RX6 80 4696837146684686336) (by decide +kernel)
  have f_10 := hts (.fieldLink RX6 10 "NetShapes" "nodes" "LNetShapes$Nodes;") (by decide +kernel)
  have f_19 := hts (.fieldLink RX6 19 "NetShapes" "bars" "LNetShapes$Bars;") (by decide +kernel)
  have f_69 := hts (.fieldLink RX6 69 "NetShapes$Bars" "count" "I") (by decide +kernel)
  refine lv_aload_n hx hb dX6_bar_0 rfl (lv_at hl 0 rfl) ?_
  refine va_get (D := D) (ci := 6) (v := .ref (ad 1)) (C := RX6) (T := TX6) (N := 6) hx hb hts iX6_bar_X6 hown hK hP 0 rfl rfl 0 (by decide) f_10 (fun _ h9 => h9) rfl dX6_bar_1 ?_
  refine lv_iload_n hx hb dX6_bar_4 rfl (lv_at hl 1 rfl) ?_
  refine gci (va_runV (As := [.int (a)]) (rest := []) ⟨hx, hb, hml, hown, hts⟩ (kX3_has l D cs ad hd H.size (((nN, px, py, pz, fx, fy, fz, lf, ld, fi), (nB, fr, tt, ln, wi, sg, pu), (nR, rd, rx, ry, wv, fo), (re, dg), (nP, tp, bt, dp)), (sp, ac, kp, kc, kn, aw, dw, su, ss, sd)) hnN a) (cwV 1 hts gX6_bar_X3_has rfl rfl rfl (by decide +kernel) ⟨Nat.le_of_ble_eq_true rfl, Nat.le_of_ble_eq_true rfl⟩) (gPreV (EX_bl) (va_recv hK hP (ci := 3) (q0 := 1) rfl rfl) hP (fun U _ hW => EX_warm hW hE)) rfl rfl hl.1 rfl (lv_room (Nat.le_of_ble_eq_true rfl)) dX6_bar_5 ⟨Nat.zero_le _, Nat.zero_le _⟩) hS (fun r_ u_ H locs hw hP hS => ?_)
  obtain ⟨rfl, hw⟩ := hw
  rcases hw with ⟨rfl, b_1⟩ | ⟨rfl, b_1⟩
  · skip
    have b_1 : inN (nN) (a) := b_1
    refine lv_if_eq (tgt := 39) hx hb dX6_bar_8 (by decide) (fun c_8_2 => absurd c_8_2 (by decide)) (fun _ => ?_)
    refine lv_aload_n hx hb dX6_bar_11 rfl (lv_at hl 0 rfl) ?_
    refine va_get (D := D) (ci := 6) (v := .ref (ad 1)) (C := RX6) (T := TX6) (N := 6) hx hb hts iX6_bar_X6 hown hK hP 0 rfl rfl 0 (by decide) f_10 (fun _ h9 => h9) rfl dX6_bar_12 ?_
    refine lv_iload_n hx hb dX6_bar_15 rfl (lv_at hl 2 rfl) ?_
    refine gci (va_runV (As := [.int (b)]) (rest := []) ⟨hx, hb, hml, hown, hts⟩ (kX3_has l D cs ad hd H.size (((nN, px, py, pz, fx, fy, fz, lf, ld, fi), (nB, fr, tt, ln, wi, sg, pu), (nR, rd, rx, ry, wv, fo), (re, dg), (nP, tp, bt, dp)), (sp, ac, kp, kc, kn, aw, dw, su, ss, sd)) hnN b) (cwV 1 hts gX6_bar_X3_has rfl rfl rfl (by decide +kernel) ⟨Nat.le_of_ble_eq_true rfl, Nat.le_of_ble_eq_true rfl⟩) (gPreV (EX_bl) (va_recv hK hP (ci := 3) (q0 := 1) rfl rfl) hP (fun U _ hW => EX_warm hW hE)) rfl rfl hl.1 rfl (lv_room (Nat.le_of_ble_eq_true rfl)) dX6_bar_16 ⟨Nat.zero_le _, Nat.zero_le _⟩) hS (fun r_ u_ H locs hw hP hS => ?_)
    obtain ⟨rfl, hw⟩ := hw
    rcases hw with ⟨rfl, b_3⟩ | ⟨rfl, b_3⟩
    · skip
      have b_3 : inN (nN) (b) := b_3
      refine lv_if_eq (tgt := 39) hx hb dX6_bar_19 (by decide) (fun c_19_4 => absurd c_19_4 (by decide)) (fun _ => ?_)
      refine lv_iload_n hx hb dX6_bar_22 rfl (lv_at hl 1 rfl) ?_
      refine lv_iload_n hx hb dX6_bar_23 rfl (lv_at hl 2 rfl) ?_
      refine lv_icmp_eq (tgt := 39) hx hb dX6_bar_24 (by decide) (fun c_24_5 => ?_) (fun c_24_5 => ?_)
      · skip
        refine lv_iconst (v := (-1 : Int32)) hx hb dX6_bar_39 (by decide) ?_
        exact hret hS hP dX6_bar_40 (⟨Or.inr ⟨fun q => q.2.2.1 c_24_5, rfl, rfl⟩, rfl⟩)
      · skip
        refine lv_aload_n hx hb dX6_bar_27 rfl (lv_at hl 0 rfl) ?_
        refine va_get (D := D) (ci := 6) (v := .ref (ad 2)) (C := RX6) (T := TX6) (N := 6) hx hb hts iX6_bar_X6 hown hK hP 0 rfl rfl 1 (by decide) f_19 (fun _ h9 => h9) rfl dX6_bar_28 ?_
        refine va_get (D := D) (ci := 1) (v := .int (nI nB)) (C := RX1) (T := TX1) (N := 7) hx hb hts iX6_bar_X1 hown hK hP 2 rfl rfl 6 (by decide) f_69 (fun _ h9 => h9) rfl dX6_bar_31 ?_
        refine lv_bipush (v := nI 60) hx hb dX6_bar_34 (by decide) ?_
        refine lv_icmp_lt (tgt := 41) hx hb dX6_bar_36 (by decide) (fun c_36_6 => ?_) (fun c_36_6 => ?_)
        · skip
          have c_36_6 : nB < 60 := (nI_ltI (a := nB) (b := 60) (by omega) (by omega)).mp c_36_6
          refine lv_dload_n hx hb dX6_bar_41 rfl (lv_at hl 3 rfl) ?_
          refine lv_ldc2d hx hb hown c_70 dX6_bar_42 ?_
          refine lv_ldc2d hx hb hown c_72 dX6_bar_45 ?_
          refine g0i (va_runS (As := [.double (x), .double (4593671619917905920), .double (4652007308841189376)]) (rest := []) ⟨hx, hb, hml, hown, hts⟩ (kX6_within l D H.size x 4593671619917905920 4652007308841189376) (va_cwS 3 hts gX6_bar_X6_within rfl rfl rfl (by decide +kernel) ⟨Nat.le_of_ble_eq_true rfl, Nat.le_of_ble_eq_true rfl⟩) (gPreS (eT_bl) w0_P (fun _ _ _ => trivial)) rfl rfl hl.1 rfl (lv_room (Nat.le_of_ble_eq_true rfl)) dX6_bar_48 ⟨Nat.zero_le _, Nat.zero_le _⟩) hP hS (fun r_ H locs hw hP hS => ?_)
          rcases hw with ⟨rfl, b_7⟩ | ⟨rfl, b_7⟩
          · skip
            have b_7 : inR (x) (4593671619917905920) (4652007308841189376) := b_7
            refine lv_if_eq (tgt := 78) hx hb dX6_bar_51 (by decide) (fun c_51_8 => absurd c_51_8 (by decide)) (fun _ => ?_)
            refine lv_dload hx hb dX6_bar_54 (lv_at hl 4 rfl) ?_
            refine lv_dconst0 hx hb dX6_bar_56 ?_
            refine lv_ldc2d hx hb hown c_78 dX6_bar_57 ?_
            refine g0i (va_runS (As := [.double (y), .double (FP.dconst0), .double (4621819117588971520)]) (rest := []) ⟨hx, hb, hml, hown, hts⟩ (kX6_within l D H.size y FP.dconst0 4621819117588971520) (va_cwS 3 hts gX6_bar_X6_within rfl rfl rfl (by decide +kernel) ⟨Nat.le_of_ble_eq_true rfl, Nat.le_of_ble_eq_true rfl⟩) (gPreS (eT_bl) w0_P (fun _ _ _ => trivial)) rfl rfl hl.1 rfl (lv_room (Nat.le_of_ble_eq_true rfl)) dX6_bar_60 ⟨Nat.zero_le _, Nat.zero_le _⟩) hP hS (fun r_ H locs hw hP hS => ?_)
            rcases hw with ⟨rfl, b_9⟩ | ⟨rfl, b_9⟩
            · skip
              have b_9 : inR (y) (FP.dconst0) (4621819117588971520) := b_9
              refine lv_if_eq (tgt := 78) hx hb dX6_bar_63 (by decide) (fun c_63_10 => absurd c_63_10 (by decide)) (fun _ => ?_)
              refine lv_dload hx hb dX6_bar_66 (lv_at hl 5 rfl) ?_
              refine lv_dconst0 hx hb dX6_bar_68 ?_
              refine lv_ldc2d hx hb hown c_80 dX6_bar_69 ?_
              refine g0i (va_runS (As := [.double (z), .double (FP.dconst0), .double (4696837146684686336)]) (rest := []) ⟨hx, hb, hml, hown, hts⟩ (kX6_within l D H.size z FP.dconst0 4696837146684686336) (va_cwS 3 hts gX6_bar_X6_within rfl rfl rfl (by decide +kernel) ⟨Nat.le_of_ble_eq_true rfl, Nat.le_of_ble_eq_true rfl⟩) (gPreS (eT_bl) w0_P (fun _ _ _ => trivial)) rfl rfl hl.1 rfl (lv_room (Nat.le_of_ble_eq_true rfl)) dX6_bar_72 ⟨Nat.zero_le _, Nat.zero_le _⟩) hP hS (fun r_ H locs hw hP hS => ?_)
              rcases hw with ⟨rfl, b_11⟩ | ⟨rfl, b_11⟩
              · skip
                have b_11 : inR (z) (FP.dconst0) (4696837146684686336) := b_11
                refine lv_if_ne (tgt := 80) hx hb dX6_bar_75 (by decide) (fun _ => ?_) (fun c_75_12 => absurd c_75_12 (by decide))
                refine lv_aload_n hx hb dX6_bar_80 rfl (lv_at hl 0 rfl) ?_
                refine va_get (D := D) (ci := 6) (v := .ref (ad 2)) (C := RX6) (T := TX6) (N := 6) hx hb hts iX6_bar_X6 hown hK hP 0 rfl rfl 1 (by decide) f_19 (fun _ h9 => h9) rfl dX6_bar_81 ?_
                refine lv_iload_n hx hb dX6_bar_84 rfl (lv_at hl 1 rfl) ?_
                refine lv_iload_n hx hb dX6_bar_85 rfl (lv_at hl 2 rfl) ?_
                refine lv_dload_n hx hb dX6_bar_86 rfl (lv_at hl 3 rfl) ?_
                refine lv_dload hx hb dX6_bar_87 (lv_at hl 4 rfl) ?_
                refine lv_dload hx hb dX6_bar_89 (lv_at hl 5 rfl) ?_
                refine gci (va_runV (As := [.int (a), .int (b), .double (x), .double (y), .double (z)]) (rest := []) ⟨hx, hb, hml, hown, hts⟩ (kX1_add l D cs ad hd H.size (((nN, px, py, pz, fx, fy, fz, lf, ld, fi), (nB, fr, tt, ln, wi, sg, pu), (nR, rd, rx, ry, wv, fo), (re, dg), (nP, tp, bt, dp)), (sp, ac, kp, kc, kn, aw, dw, su, ss, sd)) (show nB < 60 by omega) a b x y z) (cwV 5 hts gX6_bar_X1_add rfl rfl rfl (by decide +kernel) ⟨Nat.le_of_ble_eq_true rfl, Nat.le_of_ble_eq_true rfl⟩) (gPreV (EX_bl) (va_recv hK hP (ci := 1) (q0 := 2) rfl rfl) hP (fun U _ hW => EX_warm hW hE)) rfl rfl hl.1 rfl (lv_room (Nat.le_of_ble_eq_true rfl)) dX6_bar_91 ⟨Nat.zero_le _, Nat.zero_le _⟩) hS (fun r_ u_ H locs hw hP hS => ?_)
                obtain ⟨rfl, rfl⟩ := hw
                have hP : va_P D vwCl (WX cs ad (((nN, px, py, pz, fx, fy, fz, lf, ld, fi), ((nB + 1), (upd fr nB a), (upd tt nB b), (vf_upd ln nB x), (vf_upd wi nB y), (vf_upd sg nB z), (vf_upd pu nB 13830554455654793216)), (nR, rd, rx, ry, wv, fo), (re, dg), (nP, tp, bt, dp)), (sp, ac, kp, kc, kn, aw, dw, su, ss, sd))) H := hP
                exact hret hS hP dX6_bar_94 (⟨Or.inl ⟨⟨b_1, b_3, c_24_5, (show nB < 60 by omega), b_7, b_9, b_11⟩, rfl, rfl⟩, rfl⟩)
              · skip
                have b_11 : ¬ (inR (z) (FP.dconst0) (4696837146684686336)) := b_11
                refine lv_if_ne (tgt := 80) hx hb dX6_bar_75 (by decide) (fun c_75_13 => absurd c_75_13 (by decide)) (fun _ => ?_)
                refine lv_iconst (v := (-1 : Int32)) hx hb dX6_bar_78 (by decide) ?_
                exact hret hS hP dX6_bar_79 (⟨Or.inr ⟨fun q => absurd q.2.2.2.2.2.2 b_11, rfl, rfl⟩, rfl⟩)
            · skip
              have b_9 : ¬ (inR (y) (FP.dconst0) (4621819117588971520)) := b_9
              refine lv_if_eq (tgt := 78) hx hb dX6_bar_63 (by decide) (fun _ => ?_) (fun c_63_14 => absurd c_63_14 (by decide))
              refine lv_iconst (v := (-1 : Int32)) hx hb dX6_bar_78 (by decide) ?_
              exact hret hS hP dX6_bar_79 (⟨Or.inr ⟨fun q => absurd q.2.2.2.2.2.1 b_9, rfl, rfl⟩, rfl⟩)
          · skip
            have b_7 : ¬ (inR (x) (4593671619917905920) (4652007308841189376)) := b_7
            refine lv_if_eq (tgt := 78) hx hb dX6_bar_51 (by decide) (fun _ => ?_) (fun c_51_15 => absurd c_51_15 (by decide))
            refine lv_iconst (v := (-1 : Int32)) hx hb dX6_bar_78 (by decide) ?_
            exact hret hS hP dX6_bar_79 (⟨Or.inr ⟨fun q => absurd q.2.2.2.2.1 b_7, rfl, rfl⟩, rfl⟩)
        · skip
          have c_36_6 : ¬ (nB < 60) := fun q => c_36_6 ((nI_ltI (a := nB) (b := 60) (by omega) (by omega)).mpr q)
          refine lv_iconst (v := (-1 : Int32)) hx hb dX6_bar_39 (by decide) ?_
          exact hret hS hP dX6_bar_40 (⟨Or.inr ⟨fun q => absurd q.2.2.2.1 (by omega), rfl, rfl⟩, rfl⟩)
    · skip
      have b_3 : ¬ (inN (nN) (b)) := b_3
      refine lv_if_eq (tgt := 39) hx hb dX6_bar_19 (by decide) (fun _ => ?_) (fun c_19_16 => absurd c_19_16 (by decide))
      refine lv_iconst (v := (-1 : Int32)) hx hb dX6_bar_39 (by decide) ?_
      exact hret hS hP dX6_bar_40 (⟨Or.inr ⟨fun q => absurd q.2.1 b_3, rfl, rfl⟩, rfl⟩)
  · skip
    have b_1 : ¬ (inN (nN) (a)) := b_1
    refine lv_if_eq (tgt := 39) hx hb dX6_bar_8 (by decide) (fun _ => ?_) (fun c_8_17 => absurd c_8_17 (by decide))
    refine lv_iconst (v := (-1 : Int32)) hx hb dX6_bar_39 (by decide) ?_
    exact hret hS hP dX6_bar_40 (⟨Or.inr ⟨fun q => absurd q.1 b_1, rfl, rfl⟩, rfl⟩)
theorem iX7_bar_X7 : ∀ w ∈ u_ws RX7 TX7 31, w ∈ wsX7_bar := by decide +kernel
set_option maxHeartbeats 4000000 in
set_option maxRecDepth 100000 in
theorem kX7_bar (l : Launch) (D : va_G) (cs : Nat → ClassId) (ad : Nat → Nat) (hd : distM ad) (sz : Nat) (S : MS) (hnN : S.1.1.1 ≤ 30)(hnB : S.1.2.1.1 ≤ 60) (a b : Int32) (x y z : UInt64) : Met l yX7_bar wsX7_bar ({ frames := 1, cells := 0, slots := 0, locals := 25 } : Room) (gP D (WM cs ad) (EM D cs) S sz ([.ref (ad 0), .int (a), .int (b), .double (x), .double (y), .double (z)] : List Value)) (va_Qi (fun r u => q_bar S.1 a b x y z r u.1 ∧ u.2 = S.2) (gB D (WM cs ad)) (gA (AM ad) sz)) 0 0 (gA (AM ad) sz) := by
  obtain ⟨⟨⟨nN, px, py, pz, fx, fy, fz, lf, ld, fi⟩, ⟨nB, fr, tt, ln, wi, sg, pu⟩, ⟨nR, rd, rx, ry, wv, fo⟩, ⟨re, dg⟩, ⟨nP, tp, bt, dp⟩⟩, ⟨nQ, fu⟩⟩ := S
  have hnN : nN ≤ 30 := hnN
  have hnB : nB ≤ 60 := hnB
  refine gMi (cc := cX7_bar) (maxL := 9) (plainFor_of_name (by decide)) rfl (Nat.le_of_ble_eq_true rfl) ?_
  intro p e s m below meth c Q hx hb hts hown hml hsz hE hret H locs hP hS ls hl
  subst hsz
  have hown : s.vm.findClass RX7 = some m.cls := hown
  have hK : va_K D vwCl (tysX cs) s := hE.1
  have hD : ∀ u, va_D (gA (AM ad) s.heap.size) (WM cs ad u) := fun u => WM_D hd u
  have hl : lv_has ls 9 [(0, .ref (ad 0)), (1, .int (a)), (2, .int (b)), (3, .double (x)), (5, .double (y)), (7, .double (z))] := hl
  have c_66 := hts (.constantDouble RX7 66 13830554455654793216) (by decide +kernel)
  have c_95 := hts (.constantDouble RX7 95 4652007308841189376) (by decide +kernel)
  have c_108 := hts (.constantDouble RX7 108 4593671619917905920) (by decide +kernel)
  have c_110 := hts (.constantDouble RX7 110 4621819117588971520) (by decide +kernel)
  have c_112 := hts (.constantDouble RX7 112 4696837146684686336) (by decide +kernel)
  have f_38 := hts (.fieldLink RX7 38 "NetShapesModel" "from" "[I") (by decide +kernel)
  have f_42 := hts (.fieldLink RX7 42 "NetShapesModel" "to" "[I") (by decide +kernel)
  have f_45 := hts (.fieldLink RX7 45 "NetShapesModel" "natural" "[D") (by decide +kernel)
  have f_48 := hts (.fieldLink RX7 48 "NetShapesModel" "width" "[D") (by decide +kernel)
  have f_51 := hts (.fieldLink RX7 51 "NetShapesModel" "strong" "[D") (by decide +kernel)
  have f_54 := hts (.fieldLink RX7 54 "NetShapesModel" "pulls" "[D") (by decide +kernel)
  have f_105 := hts (.fieldLink RX7 105 "NetShapesModel" "bars" "I") (by decide +kernel)
  refine lv_aload_n hx hb dX7_bar_0 rfl (lv_at hl 0 rfl) ?_
  refine lv_iload_n hx hb dX7_bar_1 rfl (lv_at hl 1 rfl) ?_
  refine gci (va_runV (As := [.int (a)]) (rest := []) ⟨hx, hb, hml, hown, hts⟩ (kX7_isNode l D cs ad hd H.size (((nN, px, py, pz, fx, fy, fz, lf, ld, fi), (nB, fr, tt, ln, wi, sg, pu), (nR, rd, rx, ry, wv, fo), (re, dg), (nP, tp, bt, dp)), (nQ, fu)) hnN a) (cwV 1 hts gX7_bar_X7_isNode rfl rfl rfl (by decide +kernel) ⟨Nat.le_of_ble_eq_true rfl, Nat.le_of_ble_eq_true rfl⟩) (gPreV (EM_bl) (va_recv hK hP (ci := 7) (q0 := 0) rfl rfl) hP (fun U _ hW => EM_warm hW hE)) rfl rfl hl.1 rfl (lv_room (Nat.le_of_ble_eq_true rfl)) dX7_bar_2 ⟨Nat.zero_le _, Nat.zero_le _⟩) hS (fun r_ u_ H locs hw hP hS => ?_)
  obtain ⟨rfl, hw⟩ := hw
  rcases hw with ⟨rfl, b_1⟩ | ⟨rfl, b_1⟩
  · skip
    have b_1 : inN (nN) (a) := b_1
    refine lv_if_eq (tgt := 67) hx hb dX7_bar_5 (by decide) (fun c_5_2 => absurd c_5_2 (by decide)) (fun _ => ?_)
    refine lv_aload_n hx hb dX7_bar_8 rfl (lv_at hl 0 rfl) ?_
    refine lv_iload_n hx hb dX7_bar_9 rfl (lv_at hl 2 rfl) ?_
    refine gci (va_runV (As := [.int (b)]) (rest := []) ⟨hx, hb, hml, hown, hts⟩ (kX7_isNode l D cs ad hd H.size (((nN, px, py, pz, fx, fy, fz, lf, ld, fi), (nB, fr, tt, ln, wi, sg, pu), (nR, rd, rx, ry, wv, fo), (re, dg), (nP, tp, bt, dp)), (nQ, fu)) hnN b) (cwV 1 hts gX7_bar_X7_isNode rfl rfl rfl (by decide +kernel) ⟨Nat.le_of_ble_eq_true rfl, Nat.le_of_ble_eq_true rfl⟩) (gPreV (EM_bl) (va_recv hK hP (ci := 7) (q0 := 0) rfl rfl) hP (fun U _ hW => EM_warm hW hE)) rfl rfl hl.1 rfl (lv_room (Nat.le_of_ble_eq_true rfl)) dX7_bar_10 ⟨Nat.zero_le _, Nat.zero_le _⟩) hS (fun r_ u_ H locs hw hP hS => ?_)
    obtain ⟨rfl, hw⟩ := hw
    rcases hw with ⟨rfl, b_3⟩ | ⟨rfl, b_3⟩
    · skip
      have b_3 : inN (nN) (b) := b_3
      refine lv_if_eq (tgt := 67) hx hb dX7_bar_13 (by decide) (fun c_13_4 => absurd c_13_4 (by decide)) (fun _ => ?_)
      refine lv_aload_n hx hb dX7_bar_16 rfl (lv_at hl 0 rfl) ?_
      refine va_get (D := D) (ci := 7) (v := .int (nI nB)) (C := RX7) (T := TX7) (N := 31) hx hb hts iX7_bar_X7 hown hK hP 0 rfl rfl 10 (by decide) f_105 (fun _ h9 => h9) rfl dX7_bar_17 ?_
      refine lv_bipush (v := nI 60) hx hb dX7_bar_20 (by decide) ?_
      refine lv_icmp_eq (tgt := 67) hx hb dX7_bar_22 (by decide) (fun c_22_5 => ?_) (fun c_22_5 => ?_)
      · skip
        have c_22_5 : nB = 60 := (nI_eq (a := nB) (b := 60) (by omega) (by omega)).mp c_22_5
        refine lv_iconst (v := (-1 : Int32)) hx hb dX7_bar_67 (by decide) ?_
        exact hret hS hP dX7_bar_68 (⟨Or.inr ⟨fun q => absurd q.2.2.2.1 (by omega), rfl, rfl⟩, rfl⟩)
      · skip
        have c_22_5 : ¬ (nB = 60) := fun q => c_22_5 ((nI_eq (a := nB) (b := 60) (by omega) (by omega)).mpr q)
        refine lv_iload_n hx hb dX7_bar_25 rfl (lv_at hl 1 rfl) ?_
        refine lv_iload_n hx hb dX7_bar_26 rfl (lv_at hl 2 rfl) ?_
        refine lv_icmp_eq (tgt := 67) hx hb dX7_bar_27 (by decide) (fun c_27_6 => ?_) (fun c_27_6 => ?_)
        · skip
          refine lv_iconst (v := (-1 : Int32)) hx hb dX7_bar_67 (by decide) ?_
          exact hret hS hP dX7_bar_68 (⟨Or.inr ⟨fun q => q.2.2.1 c_27_6, rfl, rfl⟩, rfl⟩)
        · skip
          refine lv_dload_n hx hb dX7_bar_30 rfl (lv_at hl 3 rfl) ?_
          refine lv_ldc2d hx hb hown c_108 dX7_bar_31 ?_
          refine lv_ldc2d hx hb hown c_95 dX7_bar_34 ?_
          refine g0i (va_runS (As := [.double (x), .double (4593671619917905920), .double (4652007308841189376)]) (rest := []) ⟨hx, hb, hml, hown, hts⟩ (kX7_isIn l D H.size x 4593671619917905920 4652007308841189376) (va_cwS 3 hts gX7_bar_X7_isIn rfl rfl rfl (by decide +kernel) ⟨Nat.le_of_ble_eq_true rfl, Nat.le_of_ble_eq_true rfl⟩) (gPreS (eT_bl) w0_P (fun _ _ _ => trivial)) rfl rfl hl.1 rfl (lv_room (Nat.le_of_ble_eq_true rfl)) dX7_bar_37 ⟨Nat.zero_le _, Nat.zero_le _⟩) hP hS (fun r_ H locs hw hP hS => ?_)
          rcases hw with ⟨rfl, b_7⟩ | ⟨rfl, b_7⟩
          · skip
            have b_7 : inR (x) (4593671619917905920) (4652007308841189376) := b_7
            refine lv_if_eq (tgt := 67) hx hb dX7_bar_40 (by decide) (fun c_40_8 => absurd c_40_8 (by decide)) (fun _ => ?_)
            refine lv_dload hx hb dX7_bar_43 (lv_at hl 4 rfl) ?_
            refine lv_dconst0 hx hb dX7_bar_45 ?_
            refine lv_ldc2d hx hb hown c_110 dX7_bar_46 ?_
            refine g0i (va_runS (As := [.double (y), .double (FP.dconst0), .double (4621819117588971520)]) (rest := []) ⟨hx, hb, hml, hown, hts⟩ (kX7_isIn l D H.size y FP.dconst0 4621819117588971520) (va_cwS 3 hts gX7_bar_X7_isIn rfl rfl rfl (by decide +kernel) ⟨Nat.le_of_ble_eq_true rfl, Nat.le_of_ble_eq_true rfl⟩) (gPreS (eT_bl) w0_P (fun _ _ _ => trivial)) rfl rfl hl.1 rfl (lv_room (Nat.le_of_ble_eq_true rfl)) dX7_bar_49 ⟨Nat.zero_le _, Nat.zero_le _⟩) hP hS (fun r_ H locs hw hP hS => ?_)
            rcases hw with ⟨rfl, b_9⟩ | ⟨rfl, b_9⟩
            · skip
              have b_9 : inR (y) (FP.dconst0) (4621819117588971520) := b_9
              refine lv_if_eq (tgt := 67) hx hb dX7_bar_52 (by decide) (fun c_52_10 => absurd c_52_10 (by decide)) (fun _ => ?_)
              refine lv_dload hx hb dX7_bar_55 (lv_at hl 5 rfl) ?_
              refine lv_dconst0 hx hb dX7_bar_57 ?_
              refine lv_ldc2d hx hb hown c_112 dX7_bar_58 ?_
              refine g0i (va_runS (As := [.double (z), .double (FP.dconst0), .double (4696837146684686336)]) (rest := []) ⟨hx, hb, hml, hown, hts⟩ (kX7_isIn l D H.size z FP.dconst0 4696837146684686336) (va_cwS 3 hts gX7_bar_X7_isIn rfl rfl rfl (by decide +kernel) ⟨Nat.le_of_ble_eq_true rfl, Nat.le_of_ble_eq_true rfl⟩) (gPreS (eT_bl) w0_P (fun _ _ _ => trivial)) rfl rfl hl.1 rfl (lv_room (Nat.le_of_ble_eq_true rfl)) dX7_bar_61 ⟨Nat.zero_le _, Nat.zero_le _⟩) hP hS (fun r_ H locs hw hP hS => ?_)
              rcases hw with ⟨rfl, b_11⟩ | ⟨rfl, b_11⟩
              · skip
                have b_11 : inR (z) (FP.dconst0) (4696837146684686336) := b_11
                refine lv_if_ne (tgt := 69) hx hb dX7_bar_64 (by decide) (fun _ => ?_) (fun c_64_12 => absurd c_64_12 (by decide))
                refine lv_aload_n hx hb dX7_bar_69 rfl (lv_at hl 0 rfl) ?_
                refine va_get (D := D) (ci := 7) (v := .ref (ad 10)) (C := RX7) (T := TX7) (N := 31) hx hb hts iX7_bar_X7 hown hK hP 0 rfl rfl 11 (by decide) f_38 (fun _ h9 => h9) rfl dX7_bar_70 ?_
                refine lv_aload_n hx hb dX7_bar_73 rfl (lv_at hl 0 rfl) ?_
                refine va_get (D := D) (ci := 7) (v := .int (nI nB)) (C := RX7) (T := TX7) (N := 31) hx hb hts iX7_bar_X7 hown hK hP 0 rfl rfl 10 (by decide) f_105 (fun _ h9 => h9) rfl dX7_bar_74 ?_
                refine lv_iload_n hx hb dX7_bar_77 rfl (lv_at hl 1 rfl) ?_
                refine xis hx hb hK hD hP hS 10 1 (((nN, px, py, pz, fx, fy, fz, lf, ld, fi), (nB, (upd fr nB a), tt, ln, wi, sg, pu), (nR, rd, rx, ry, wv, fo), (re, dg), (nP, tp, bt, dp)), (nQ, fu)) rfl rfl (j := nB) (by decide) (by omega) rfl dX7_bar_78 (fun H locs hP hS => ?_)
                refine lv_aload_n hx hb dX7_bar_79 rfl (lv_at hl 0 rfl) ?_
                refine va_get (D := D) (ci := 7) (v := .ref (ad 11)) (C := RX7) (T := TX7) (N := 31) hx hb hts iX7_bar_X7 hown hK hP 0 rfl rfl 12 (by decide) f_42 (fun _ h9 => h9) rfl dX7_bar_80 ?_
                refine lv_aload_n hx hb dX7_bar_83 rfl (lv_at hl 0 rfl) ?_
                refine va_get (D := D) (ci := 7) (v := .int (nI nB)) (C := RX7) (T := TX7) (N := 31) hx hb hts iX7_bar_X7 hown hK hP 0 rfl rfl 10 (by decide) f_105 (fun _ h9 => h9) rfl dX7_bar_84 ?_
                refine lv_iload_n hx hb dX7_bar_87 rfl (lv_at hl 2 rfl) ?_
                refine xis hx hb hK hD hP hS 11 1 (((nN, px, py, pz, fx, fy, fz, lf, ld, fi), (nB, (upd fr nB a), (upd tt nB b), ln, wi, sg, pu), (nR, rd, rx, ry, wv, fo), (re, dg), (nP, tp, bt, dp)), (nQ, fu)) rfl rfl (j := nB) (by decide) (by omega) rfl dX7_bar_88 (fun H locs hP hS => ?_)
                refine lv_aload_n hx hb dX7_bar_89 rfl (lv_at hl 0 rfl) ?_
                refine va_get (D := D) (ci := 7) (v := .ref (ad 12)) (C := RX7) (T := TX7) (N := 31) hx hb hts iX7_bar_X7 hown hK hP 0 rfl rfl 13 (by decide) f_45 (fun _ h9 => h9) rfl dX7_bar_90 ?_
                refine lv_aload_n hx hb dX7_bar_93 rfl (lv_at hl 0 rfl) ?_
                refine va_get (D := D) (ci := 7) (v := .int (nI nB)) (C := RX7) (T := TX7) (N := 31) hx hb hts iX7_bar_X7 hown hK hP 0 rfl rfl 10 (by decide) f_105 (fun _ h9 => h9) rfl dX7_bar_94 ?_
                refine lv_dload_n hx hb dX7_bar_97 rfl (lv_at hl 3 rfl) ?_
                refine xds hx hb hK hD hP hS 12 0 (((nN, px, py, pz, fx, fy, fz, lf, ld, fi), (nB, (upd fr nB a), (upd tt nB b), (vf_upd ln nB x), wi, sg, pu), (nR, rd, rx, ry, wv, fo), (re, dg), (nP, tp, bt, dp)), (nQ, fu)) rfl rfl (j := nB) (by decide) (by omega) rfl dX7_bar_98 (fun H locs hP hS => ?_)
                refine lv_aload_n hx hb dX7_bar_99 rfl (lv_at hl 0 rfl) ?_
                refine va_get (D := D) (ci := 7) (v := .ref (ad 13)) (C := RX7) (T := TX7) (N := 31) hx hb hts iX7_bar_X7 hown hK hP 0 rfl rfl 14 (by decide) f_48 (fun _ h9 => h9) rfl dX7_bar_100 ?_
                refine lv_aload_n hx hb dX7_bar_103 rfl (lv_at hl 0 rfl) ?_
                refine va_get (D := D) (ci := 7) (v := .int (nI nB)) (C := RX7) (T := TX7) (N := 31) hx hb hts iX7_bar_X7 hown hK hP 0 rfl rfl 10 (by decide) f_105 (fun _ h9 => h9) rfl dX7_bar_104 ?_
                refine lv_dload hx hb dX7_bar_107 (lv_at hl 4 rfl) ?_
                refine xds hx hb hK hD hP hS 13 0 (((nN, px, py, pz, fx, fy, fz, lf, ld, fi), (nB, (upd fr nB a), (upd tt nB b), (vf_upd ln nB x), (vf_upd wi nB y), sg, pu), (nR, rd, rx, ry, wv, fo), (re, dg), (nP, tp, bt, dp)), (nQ, fu)) rfl rfl (j := nB) (by decide) (by omega) rfl dX7_bar_109 (fun H locs hP hS => ?_)
                refine lv_aload_n hx hb dX7_bar_110 rfl (lv_at hl 0 rfl) ?_
                refine va_get (D := D) (ci := 7) (v := .ref (ad 14)) (C := RX7) (T := TX7) (N := 31) hx hb hts iX7_bar_X7 hown hK hP 0 rfl rfl 15 (by decide) f_51 (fun _ h9 => h9) rfl dX7_bar_111 ?_
                refine lv_aload_n hx hb dX7_bar_114 rfl (lv_at hl 0 rfl) ?_
                refine va_get (D := D) (ci := 7) (v := .int (nI nB)) (C := RX7) (T := TX7) (N := 31) hx hb hts iX7_bar_X7 hown hK hP 0 rfl rfl 10 (by decide) f_105 (fun _ h9 => h9) rfl dX7_bar_115 ?_
                refine lv_dload hx hb dX7_bar_118 (lv_at hl 5 rfl) ?_
                refine xds hx hb hK hD hP hS 14 0 (((nN, px, py, pz, fx, fy, fz, lf, ld, fi), (nB, (upd fr nB a), (upd tt nB b), (vf_upd ln nB x), (vf_upd wi nB y), (vf_upd sg nB z), pu), (nR, rd, rx, ry, wv, fo), (re, dg), (nP, tp, bt, dp)), (nQ, fu)) rfl rfl (j := nB) (by decide) (by omega) rfl dX7_bar_120 (fun H locs hP hS => ?_)
                refine lv_aload_n hx hb dX7_bar_121 rfl (lv_at hl 0 rfl) ?_
                refine va_get (D := D) (ci := 7) (v := .ref (ad 15)) (C := RX7) (T := TX7) (N := 31) hx hb hts iX7_bar_X7 hown hK hP 0 rfl rfl 16 (by decide) f_54 (fun _ h9 => h9) rfl dX7_bar_122 ?_
                refine lv_aload_n hx hb dX7_bar_125 rfl (lv_at hl 0 rfl) ?_
                refine va_get (D := D) (ci := 7) (v := .int (nI nB)) (C := RX7) (T := TX7) (N := 31) hx hb hts iX7_bar_X7 hown hK hP 0 rfl rfl 10 (by decide) f_105 (fun _ h9 => h9) rfl dX7_bar_126 ?_
                refine lv_ldc2d hx hb hown c_66 dX7_bar_129 ?_
                refine xds hx hb hK hD hP hS 15 0 (((nN, px, py, pz, fx, fy, fz, lf, ld, fi), (nB, (upd fr nB a), (upd tt nB b), (vf_upd ln nB x), (vf_upd wi nB y), (vf_upd sg nB z), (vf_upd pu nB 13830554455654793216)), (nR, rd, rx, ry, wv, fo), (re, dg), (nP, tp, bt, dp)), (nQ, fu)) rfl rfl (j := nB) (by decide) (by omega) rfl dX7_bar_132 (fun H locs hP hS => ?_)
                refine lv_aload_n hx hb dX7_bar_133 rfl (lv_at hl 0 rfl) ?_
                refine lv_dup hx hb dX7_bar_134 rfl ?_
                refine va_get (D := D) (ci := 7) (v := .int (nI nB)) (C := RX7) (T := TX7) (N := 31) hx hb hts iX7_bar_X7 hown hK hP 0 rfl rfl 10 (by decide) f_105 (fun _ h9 => h9) rfl dX7_bar_135 ?_
                refine lv_iconst (v := nI 1) hx hb dX7_bar_138 (by decide) ?_
                refine xia hx hb (nB + 1) dX7_bar_139 rfl ?_
                refine xput (D := D) (ci := 7) (v := .int (nI (nB + 1))) (ty := .int) (C := RX7) (T := TX7) (N := 31) hx hb hts iX7_bar_X7 tyX7 tyX7_ok nmX7 hown hK hD hP hS 0 (((nN, px, py, pz, fx, fy, fz, lf, ld, fi), ((nB + 1), (upd fr nB a), (upd tt nB b), (vf_upd ln nB x), (vf_upd wi nB y), (vf_upd sg nB z), (vf_upd pu nB 13830554455654793216)), (nR, rd, rx, ry, wv, fo), (re, dg), (nP, tp, bt, dp)), (nQ, fu)) rfl rfl 10 (by decide) f_105 (fun _ h9 => h9) rfl (by decide +kernel) rfl rfl (Nat.le_of_ble_eq_true rfl) rfl dX7_bar_140 (fun H locs hP hS => ?_)
                refine lv_aload_n hx hb dX7_bar_143 rfl (lv_at hl 0 rfl) ?_
                refine va_get (D := D) (ci := 7) (v := .int (nI ((nB + 1)))) (C := RX7) (T := TX7) (N := 31) hx hb hts iX7_bar_X7 hown hK hP 0 rfl rfl 10 (by decide) f_105 (fun _ h9 => h9) rfl dX7_bar_144 ?_
                refine lv_iconst (v := nI 1) hx hb dX7_bar_147 (by decide) ?_
                refine xib hx hb (nB) dX7_bar_148 (rfl) ?_
                exact hret hS hP dX7_bar_149 (⟨Or.inl ⟨⟨b_1, b_3, c_27_6, (show nB < 60 by omega), b_7, b_9, b_11⟩, rfl, rfl⟩, rfl⟩)
              · skip
                have b_11 : ¬ (inR (z) (FP.dconst0) (4696837146684686336)) := b_11
                refine lv_if_ne (tgt := 69) hx hb dX7_bar_64 (by decide) (fun c_64_13 => absurd c_64_13 (by decide)) (fun _ => ?_)
                refine lv_iconst (v := (-1 : Int32)) hx hb dX7_bar_67 (by decide) ?_
                exact hret hS hP dX7_bar_68 (⟨Or.inr ⟨fun q => absurd q.2.2.2.2.2.2 b_11, rfl, rfl⟩, rfl⟩)
            · skip
              have b_9 : ¬ (inR (y) (FP.dconst0) (4621819117588971520)) := b_9
              refine lv_if_eq (tgt := 67) hx hb dX7_bar_52 (by decide) (fun _ => ?_) (fun c_52_14 => absurd c_52_14 (by decide))
              refine lv_iconst (v := (-1 : Int32)) hx hb dX7_bar_67 (by decide) ?_
              exact hret hS hP dX7_bar_68 (⟨Or.inr ⟨fun q => absurd q.2.2.2.2.2.1 b_9, rfl, rfl⟩, rfl⟩)
          · skip
            have b_7 : ¬ (inR (x) (4593671619917905920) (4652007308841189376)) := b_7
            refine lv_if_eq (tgt := 67) hx hb dX7_bar_40 (by decide) (fun _ => ?_) (fun c_40_15 => absurd c_40_15 (by decide))
            refine lv_iconst (v := (-1 : Int32)) hx hb dX7_bar_67 (by decide) ?_
            exact hret hS hP dX7_bar_68 (⟨Or.inr ⟨fun q => absurd q.2.2.2.2.1 b_7, rfl, rfl⟩, rfl⟩)
    · skip
      have b_3 : ¬ (inN (nN) (b)) := b_3
      refine lv_if_eq (tgt := 67) hx hb dX7_bar_13 (by decide) (fun _ => ?_) (fun c_13_16 => absurd c_13_16 (by decide))
      refine lv_iconst (v := (-1 : Int32)) hx hb dX7_bar_67 (by decide) ?_
      exact hret hS hP dX7_bar_68 (⟨Or.inr ⟨fun q => absurd q.2.1 b_3, rfl, rfl⟩, rfl⟩)
  · skip
    have b_1 : ¬ (inN (nN) (a)) := b_1
    refine lv_if_eq (tgt := 67) hx hb dX7_bar_5 (by decide) (fun _ => ?_) (fun c_5_17 => absurd c_5_17 (by decide))
    refine lv_iconst (v := (-1 : Int32)) hx hb dX7_bar_67 (by decide) ?_
    exact hret hS hP dX7_bar_68 (⟨Or.inr ⟨fun q => absurd q.1 b_1, rfl, rfl⟩, rfl⟩)
theorem iX6_fix_X3 : ∀ w ∈ u_ws RX3 TX3 6, w ∈ wsX6_fix := by decide +kernel
theorem iX6_fix_X6 : ∀ w ∈ u_ws RX6 TX6 6, w ∈ wsX6_fix := by decide +kernel
set_option maxHeartbeats 4000000 in
set_option maxRecDepth 100000 in
theorem kX6_fix (l : Launch) (D : va_G) (cs : Nat → ClassId) (ad : Nat → Nat) (hd : distX ad) (sz : Nat) (S : XS) (hnN : S.1.1.1 ≤ 30) (k : Int32) : Met l yX6_fix wsX6_fix ({ frames := 1, cells := 0, slots := 0, locals := 21 } : Room) (gP D (WX cs ad) (EX D cs) S sz ([.ref (ad 0), .int (k)] : List Value)) (va_Qi (fun r u => q_fix S.1 k r u.1 ∧ u.2 = S.2) (gB D (WX cs ad)) (gA (AX ad) sz)) 0 0 (gA (AX ad) sz) := by
  obtain ⟨⟨⟨nN, px, py, pz, fx, fy, fz, lf, ld, fi⟩, ⟨nB, fr, tt, ln, wi, sg, pu⟩, ⟨nR, rd, rx, ry, wv, fo⟩, ⟨re, dg⟩, ⟨nP, tp, bt, dp⟩⟩, ⟨sp, ac, kp, kc, kn, aw, dw, su, ss, sd⟩⟩ := S
  have hnN : nN ≤ 30 := hnN
  refine gMz (cc := cX6_fix) (maxL := 2) (plainFor_of_name (by decide)) rfl (Nat.le_of_ble_eq_true rfl) ?_
  intro p e s m below meth c Q hx hb hts hown hml hsz hE hret H locs hP hS ls hl
  subst hsz
  have hown : s.vm.findClass RX6 = some m.cls := hown
  have hK : va_K D vwCl (tysX cs) s := hE.1
  have hD : ∀ u, va_D (gA (AX ad) s.heap.size) (WX cs ad u) := fun u => WX_D hd u
  have hl : lv_has ls 2 [(0, .ref (ad 0)), (1, .int (k))] := hl
  have f_10 := hts (.fieldLink RX6 10 "NetShapes" "nodes" "LNetShapes$Nodes;") (by decide +kernel)
  have f_85 := hts (.fieldLink RX6 85 "NetShapes$Nodes" "fixed" "[Z") (by decide +kernel)
  refine lv_aload_n hx hb dX6_fix_0 rfl (lv_at hl 0 rfl) ?_
  refine va_get (D := D) (ci := 6) (v := .ref (ad 1)) (C := RX6) (T := TX6) (N := 6) hx hb hts iX6_fix_X6 hown hK hP 0 rfl rfl 0 (by decide) f_10 (fun _ h9 => h9) rfl dX6_fix_1 ?_
  refine lv_iload_n hx hb dX6_fix_4 rfl (lv_at hl 1 rfl) ?_
  refine gci (va_runV (As := [.int (k)]) (rest := []) ⟨hx, hb, hml, hown, hts⟩ (kX3_has l D cs ad hd H.size (((nN, px, py, pz, fx, fy, fz, lf, ld, fi), (nB, fr, tt, ln, wi, sg, pu), (nR, rd, rx, ry, wv, fo), (re, dg), (nP, tp, bt, dp)), (sp, ac, kp, kc, kn, aw, dw, su, ss, sd)) hnN k) (cwV 1 hts gX6_fix_X3_has rfl rfl rfl (by decide +kernel) ⟨Nat.le_of_ble_eq_true rfl, Nat.le_of_ble_eq_true rfl⟩) (gPreV (EX_bl) (va_recv hK hP (ci := 3) (q0 := 1) rfl rfl) hP (fun U _ hW => EX_warm hW hE)) rfl rfl hl.1 rfl (lv_room (Nat.le_of_ble_eq_true rfl)) dX6_fix_5 ⟨Nat.zero_le _, Nat.zero_le _⟩) hS (fun r_ u_ H locs hw hP hS => ?_)
  obtain ⟨rfl, hw⟩ := hw
  rcases hw with ⟨rfl, b_1⟩ | ⟨rfl, b_1⟩
  · skip
    have b_1 : inN (nN) (k) := b_1
    obtain ⟨j, hj, rfl⟩ := b_1
    refine lv_if_ne (tgt := 13) hx hb dX6_fix_8 (by decide) (fun _ => ?_) (fun c_8_2 => absurd c_8_2 (by decide))
    refine lv_aload_n hx hb dX6_fix_13 rfl (lv_at hl 0 rfl) ?_
    refine va_get (D := D) (ci := 6) (v := .ref (ad 1)) (C := RX6) (T := TX6) (N := 6) hx hb hts iX6_fix_X6 hown hK hP 0 rfl rfl 0 (by decide) f_10 (fun _ h9 => h9) rfl dX6_fix_14 ?_
    refine va_get (D := D) (ci := 3) (v := .ref (ad 11)) (C := RX3) (T := TX3) (N := 6) hx hb hts iX6_fix_X3 hown hK hP 1 rfl rfl 4 (by decide) f_85 (fun _ h9 => h9) rfl dX6_fix_17 ?_
    refine lv_iload_n hx hb dX6_fix_20 rfl (lv_at hl 1 rfl) ?_
    refine lv_iconst (v := nI 1) hx hb dX6_fix_21 (by decide) ?_
    refine xzs hx hb hK hD hP hS 11 2 (((nN, px, py, pz, fx, fy, fz, lf, ld, (upd fi j (nI 1))), (nB, fr, tt, ln, wi, sg, pu), (nR, rd, rx, ry, wv, fo), (re, dg), (nP, tp, bt, dp)), (sp, ac, kp, kc, kn, aw, dw, su, ss, sd)) rfl rfl (j := j) (by decide) (by omega) rfl dX6_fix_22 (fun H locs hP hS => ?_)
    refine lv_iconst (v := nI 1) hx hb dX6_fix_23 (by decide) ?_
    exact hret hS hP dX6_fix_24 (Or.inr rfl) (⟨Or.inl ⟨j, hj, rfl, trivial, rfl, rfl⟩, rfl⟩)
  · skip
    have b_1 : ¬ (inN (nN) (k)) := b_1
    refine lv_if_ne (tgt := 13) hx hb dX6_fix_8 (by decide) (fun c_8_3 => absurd c_8_3 (by decide)) (fun _ => ?_)
    refine lv_iconst (v := nI 0) hx hb dX6_fix_11 (by decide) ?_
    exact hret hS hP dX6_fix_12 (Or.inl rfl) (⟨Or.inr ⟨fun q => absurd q.1 b_1, rfl, rfl⟩, rfl⟩)
theorem iX6_floats_X3 : ∀ w ∈ u_ws RX3 TX3 6, w ∈ wsX6_floats := by decide +kernel
theorem iX6_floats_X6 : ∀ w ∈ u_ws RX6 TX6 6, w ∈ wsX6_floats := by decide +kernel
set_option maxHeartbeats 4000000 in
set_option maxRecDepth 100000 in
theorem kX6_floats (l : Launch) (D : va_G) (cs : Nat → ClassId) (ad : Nat → Nat) (hd : distX ad) (sz : Nat) (S : XS) (hnN : S.1.1.1 ≤ 30) (k : Int32) (v : UInt64) : Met l yX6_floats wsX6_floats ({ frames := 1, cells := 0, slots := 0, locals := 25 } : Room) (gP D (WX cs ad) (EX D cs) S sz ([.ref (ad 0), .int (k), .double (v)] : List Value)) (va_Qi (fun r u => q_floats S.1 k v r u.1 ∧ u.2 = S.2) (gB D (WX cs ad)) (gA (AX ad) sz)) 0 0 (gA (AX ad) sz) := by
  obtain ⟨⟨⟨nN, px, py, pz, fx, fy, fz, lf, ld, fi⟩, ⟨nB, fr, tt, ln, wi, sg, pu⟩, ⟨nR, rd, rx, ry, wv, fo⟩, ⟨re, dg⟩, ⟨nP, tp, bt, dp⟩⟩, ⟨sp, ac, kp, kc, kn, aw, dw, su, ss, sd⟩⟩ := S
  have hnN : nN ≤ 30 := hnN
  refine gMz (cc := cX6_floats) (maxL := 4) (plainFor_of_name (by decide)) rfl (Nat.le_of_ble_eq_true rfl) ?_
  intro p e s m below meth c Q hx hb hts hown hml hsz hE hret H locs hP hS ls hl
  subst hsz
  have hown : s.vm.findClass RX6 = some m.cls := hown
  have hK : va_K D vwCl (tysX cs) s := hE.1
  have hD : ∀ u, va_D (gA (AX ad) s.heap.size) (WX cs ad u) := fun u => WX_D hd u
  have hl : lv_has ls 4 [(0, .ref (ad 0)), (1, .int (k)), (2, .double (v))] := hl
  have c_89 := hts (.constantDouble RX6 89 13904980397738950656) (by decide +kernel)
  have c_91 := hts (.constantDouble RX6 91 4681608360884174848) (by decide +kernel)
  have f_10 := hts (.fieldLink RX6 10 "NetShapes" "nodes" "LNetShapes$Nodes;") (by decide +kernel)
  have f_93 := hts (.fieldLink RX6 93 "NetShapes$Nodes" "lift" "[D") (by decide +kernel)
  refine lv_aload_n hx hb dX6_floats_0 rfl (lv_at hl 0 rfl) ?_
  refine va_get (D := D) (ci := 6) (v := .ref (ad 1)) (C := RX6) (T := TX6) (N := 6) hx hb hts iX6_floats_X6 hown hK hP 0 rfl rfl 0 (by decide) f_10 (fun _ h9 => h9) rfl dX6_floats_1 ?_
  refine lv_iload_n hx hb dX6_floats_4 rfl (lv_at hl 1 rfl) ?_
  refine gci (va_runV (As := [.int (k)]) (rest := []) ⟨hx, hb, hml, hown, hts⟩ (kX3_has l D cs ad hd H.size (((nN, px, py, pz, fx, fy, fz, lf, ld, fi), (nB, fr, tt, ln, wi, sg, pu), (nR, rd, rx, ry, wv, fo), (re, dg), (nP, tp, bt, dp)), (sp, ac, kp, kc, kn, aw, dw, su, ss, sd)) hnN k) (cwV 1 hts gX6_floats_X3_has rfl rfl rfl (by decide +kernel) ⟨Nat.le_of_ble_eq_true rfl, Nat.le_of_ble_eq_true rfl⟩) (gPreV (EX_bl) (va_recv hK hP (ci := 3) (q0 := 1) rfl rfl) hP (fun U _ hW => EX_warm hW hE)) rfl rfl hl.1 rfl (lv_room (Nat.le_of_ble_eq_true rfl)) dX6_floats_5 ⟨Nat.zero_le _, Nat.zero_le _⟩) hS (fun r_ u_ H locs hw hP hS => ?_)
  obtain ⟨rfl, hw⟩ := hw
  rcases hw with ⟨rfl, b_1⟩ | ⟨rfl, b_1⟩
  · skip
    have b_1 : inN (nN) (k) := b_1
    refine lv_if_eq (tgt := 24) hx hb dX6_floats_8 (by decide) (fun c_8_2 => absurd c_8_2 (by decide)) (fun _ => ?_)
    refine lv_dload_n hx hb dX6_floats_11 rfl (lv_at hl 2 rfl) ?_
    refine lv_ldc2d hx hb hown c_89 dX6_floats_12 ?_
    refine lv_ldc2d hx hb hown c_91 dX6_floats_15 ?_
    refine g0i (va_runS (As := [.double (v), .double (13904980397738950656), .double (4681608360884174848)]) (rest := []) ⟨hx, hb, hml, hown, hts⟩ (kX6_within l D H.size v 13904980397738950656 4681608360884174848) (va_cwS 3 hts gX6_floats_X6_within rfl rfl rfl (by decide +kernel) ⟨Nat.le_of_ble_eq_true rfl, Nat.le_of_ble_eq_true rfl⟩) (gPreS (eT_bl) w0_P (fun _ _ _ => trivial)) rfl rfl hl.1 rfl (lv_room (Nat.le_of_ble_eq_true rfl)) dX6_floats_18 ⟨Nat.zero_le _, Nat.zero_le _⟩) hP hS (fun r_ H locs hw hP hS => ?_)
    rcases hw with ⟨rfl, b_3⟩ | ⟨rfl, b_3⟩
    · skip
      have b_3 : inR (v) (13904980397738950656) (4681608360884174848) := b_3
      obtain ⟨j, hj, rfl⟩ := b_1
      refine lv_if_ne (tgt := 26) hx hb dX6_floats_21 (by decide) (fun _ => ?_) (fun c_21_4 => absurd c_21_4 (by decide))
      refine lv_aload_n hx hb dX6_floats_26 rfl (lv_at hl 0 rfl) ?_
      refine va_get (D := D) (ci := 6) (v := .ref (ad 1)) (C := RX6) (T := TX6) (N := 6) hx hb hts iX6_floats_X6 hown hK hP 0 rfl rfl 0 (by decide) f_10 (fun _ h9 => h9) rfl dX6_floats_27 ?_
      refine va_get (D := D) (ci := 3) (v := .ref (ad 9)) (C := RX3) (T := TX3) (N := 6) hx hb hts iX6_floats_X3 hown hK hP 1 rfl rfl 2 (by decide) f_93 (fun _ h9 => h9) rfl dX6_floats_30 ?_
      refine lv_iload_n hx hb dX6_floats_33 rfl (lv_at hl 1 rfl) ?_
      refine lv_dload_n hx hb dX6_floats_34 rfl (lv_at hl 2 rfl) ?_
      refine xds hx hb hK hD hP hS 9 0 (((nN, px, py, pz, fx, fy, fz, (vf_upd lf j v), ld, fi), (nB, fr, tt, ln, wi, sg, pu), (nR, rd, rx, ry, wv, fo), (re, dg), (nP, tp, bt, dp)), (sp, ac, kp, kc, kn, aw, dw, su, ss, sd)) rfl rfl (j := j) (by decide) (by omega) rfl dX6_floats_35 (fun H locs hP hS => ?_)
      refine lv_iconst (v := nI 1) hx hb dX6_floats_36 (by decide) ?_
      exact hret hS hP dX6_floats_37 (Or.inr rfl) (⟨Or.inl ⟨j, hj, rfl, b_3, rfl, rfl⟩, rfl⟩)
    · skip
      have b_3 : ¬ (inR (v) (13904980397738950656) (4681608360884174848)) := b_3
      refine lv_if_ne (tgt := 26) hx hb dX6_floats_21 (by decide) (fun c_21_5 => absurd c_21_5 (by decide)) (fun _ => ?_)
      refine lv_iconst (v := nI 0) hx hb dX6_floats_24 (by decide) ?_
      exact hret hS hP dX6_floats_25 (Or.inl rfl) (⟨Or.inr ⟨fun q => absurd q.2 b_3, rfl, rfl⟩, rfl⟩)
  · skip
    have b_1 : ¬ (inN (nN) (k)) := b_1
    refine lv_if_eq (tgt := 24) hx hb dX6_floats_8 (by decide) (fun _ => ?_) (fun c_8_6 => absurd c_8_6 (by decide))
    refine lv_iconst (v := nI 0) hx hb dX6_floats_24 (by decide) ?_
    exact hret hS hP dX6_floats_25 (Or.inl rfl) (⟨Or.inr ⟨fun q => absurd q.1 b_1, rfl, rfl⟩, rfl⟩)
theorem iX6_catchAt_X3 : ∀ w ∈ u_ws RX3 TX3 6, w ∈ wsX6_catchAt := by decide +kernel
theorem iX6_catchAt_X6 : ∀ w ∈ u_ws RX6 TX6 6, w ∈ wsX6_catchAt := by decide +kernel
set_option maxHeartbeats 4000000 in
set_option maxRecDepth 100000 in
theorem kX6_catchAt (l : Launch) (D : va_G) (cs : Nat → ClassId) (ad : Nat → Nat) (hd : distX ad) (sz : Nat) (S : XS) (hnN : S.1.1.1 ≤ 30) (k : Int32) (v : UInt64) : Met l yX6_catchAt wsX6_catchAt ({ frames := 1, cells := 0, slots := 0, locals := 25 } : Room) (gP D (WX cs ad) (EX D cs) S sz ([.ref (ad 0), .int (k), .double (v)] : List Value)) (va_Qi (fun r u => q_catchAt S.1 k v r u.1 ∧ u.2 = S.2) (gB D (WX cs ad)) (gA (AX ad) sz)) 0 0 (gA (AX ad) sz) := by
  obtain ⟨⟨⟨nN, px, py, pz, fx, fy, fz, lf, ld, fi⟩, ⟨nB, fr, tt, ln, wi, sg, pu⟩, ⟨nR, rd, rx, ry, wv, fo⟩, ⟨re, dg⟩, ⟨nP, tp, bt, dp⟩⟩, ⟨sp, ac, kp, kc, kn, aw, dw, su, ss, sd⟩⟩ := S
  have hnN : nN ≤ 30 := hnN
  refine gMz (cc := cX6_catchAt) (maxL := 4) (plainFor_of_name (by decide)) rfl (Nat.le_of_ble_eq_true rfl) ?_
  intro p e s m below meth c Q hx hb hts hown hml hsz hE hret H locs hP hS ls hl
  subst hsz
  have hown : s.vm.findClass RX6 = some m.cls := hown
  have hK : va_K D vwCl (tysX cs) s := hE.1
  have hD : ∀ u, va_D (gA (AX ad) s.heap.size) (WX cs ad u) := fun u => WX_D hd u
  have hl : lv_has ls 4 [(0, .ref (ad 0)), (1, .int (k)), (2, .double (v))] := hl
  have c_91 := hts (.constantDouble RX6 91 4681608360884174848) (by decide +kernel)
  have f_10 := hts (.fieldLink RX6 10 "NetShapes" "nodes" "LNetShapes$Nodes;") (by decide +kernel)
  have f_147 := hts (.fieldLink RX6 147 "NetShapes$Nodes" "load" "[D") (by decide +kernel)
  refine lv_aload_n hx hb dX6_catchAt_0 rfl (lv_at hl 0 rfl) ?_
  refine va_get (D := D) (ci := 6) (v := .ref (ad 1)) (C := RX6) (T := TX6) (N := 6) hx hb hts iX6_catchAt_X6 hown hK hP 0 rfl rfl 0 (by decide) f_10 (fun _ h9 => h9) rfl dX6_catchAt_1 ?_
  refine lv_iload_n hx hb dX6_catchAt_4 rfl (lv_at hl 1 rfl) ?_
  refine gci (va_runV (As := [.int (k)]) (rest := []) ⟨hx, hb, hml, hown, hts⟩ (kX3_has l D cs ad hd H.size (((nN, px, py, pz, fx, fy, fz, lf, ld, fi), (nB, fr, tt, ln, wi, sg, pu), (nR, rd, rx, ry, wv, fo), (re, dg), (nP, tp, bt, dp)), (sp, ac, kp, kc, kn, aw, dw, su, ss, sd)) hnN k) (cwV 1 hts gX6_catchAt_X3_has rfl rfl rfl (by decide +kernel) ⟨Nat.le_of_ble_eq_true rfl, Nat.le_of_ble_eq_true rfl⟩) (gPreV (EX_bl) (va_recv hK hP (ci := 3) (q0 := 1) rfl rfl) hP (fun U _ hW => EX_warm hW hE)) rfl rfl hl.1 rfl (lv_room (Nat.le_of_ble_eq_true rfl)) dX6_catchAt_5 ⟨Nat.zero_le _, Nat.zero_le _⟩) hS (fun r_ u_ H locs hw hP hS => ?_)
  obtain ⟨rfl, hw⟩ := hw
  rcases hw with ⟨rfl, b_1⟩ | ⟨rfl, b_1⟩
  · skip
    have b_1 : inN (nN) (k) := b_1
    refine lv_if_eq (tgt := 22) hx hb dX6_catchAt_8 (by decide) (fun c_8_2 => absurd c_8_2 (by decide)) (fun _ => ?_)
    refine lv_dload_n hx hb dX6_catchAt_11 rfl (lv_at hl 2 rfl) ?_
    refine lv_dconst0 hx hb dX6_catchAt_12 ?_
    refine lv_ldc2d hx hb hown c_91 dX6_catchAt_13 ?_
    refine g0i (va_runS (As := [.double (v), .double (FP.dconst0), .double (4681608360884174848)]) (rest := []) ⟨hx, hb, hml, hown, hts⟩ (kX6_within l D H.size v FP.dconst0 4681608360884174848) (va_cwS 3 hts gX6_catchAt_X6_within rfl rfl rfl (by decide +kernel) ⟨Nat.le_of_ble_eq_true rfl, Nat.le_of_ble_eq_true rfl⟩) (gPreS (eT_bl) w0_P (fun _ _ _ => trivial)) rfl rfl hl.1 rfl (lv_room (Nat.le_of_ble_eq_true rfl)) dX6_catchAt_16 ⟨Nat.zero_le _, Nat.zero_le _⟩) hP hS (fun r_ H locs hw hP hS => ?_)
    rcases hw with ⟨rfl, b_3⟩ | ⟨rfl, b_3⟩
    · skip
      have b_3 : inR (v) (FP.dconst0) (4681608360884174848) := b_3
      obtain ⟨j, hj, rfl⟩ := b_1
      refine lv_if_ne (tgt := 24) hx hb dX6_catchAt_19 (by decide) (fun _ => ?_) (fun c_19_4 => absurd c_19_4 (by decide))
      refine lv_aload_n hx hb dX6_catchAt_24 rfl (lv_at hl 0 rfl) ?_
      refine va_get (D := D) (ci := 6) (v := .ref (ad 1)) (C := RX6) (T := TX6) (N := 6) hx hb hts iX6_catchAt_X6 hown hK hP 0 rfl rfl 0 (by decide) f_10 (fun _ h9 => h9) rfl dX6_catchAt_25 ?_
      refine va_get (D := D) (ci := 3) (v := .ref (ad 10)) (C := RX3) (T := TX3) (N := 6) hx hb hts iX6_catchAt_X3 hown hK hP 1 rfl rfl 3 (by decide) f_147 (fun _ h9 => h9) rfl dX6_catchAt_28 ?_
      refine lv_iload_n hx hb dX6_catchAt_31 rfl (lv_at hl 1 rfl) ?_
      refine lv_dload_n hx hb dX6_catchAt_32 rfl (lv_at hl 2 rfl) ?_
      refine xds hx hb hK hD hP hS 10 0 (((nN, px, py, pz, fx, fy, fz, lf, (vf_upd ld j v), fi), (nB, fr, tt, ln, wi, sg, pu), (nR, rd, rx, ry, wv, fo), (re, dg), (nP, tp, bt, dp)), (sp, ac, kp, kc, kn, aw, dw, su, ss, sd)) rfl rfl (j := j) (by decide) (by omega) rfl dX6_catchAt_33 (fun H locs hP hS => ?_)
      refine lv_iconst (v := nI 1) hx hb dX6_catchAt_34 (by decide) ?_
      exact hret hS hP dX6_catchAt_35 (Or.inr rfl) (⟨Or.inl ⟨j, hj, rfl, b_3, rfl, rfl⟩, rfl⟩)
    · skip
      have b_3 : ¬ (inR (v) (FP.dconst0) (4681608360884174848)) := b_3
      refine lv_if_ne (tgt := 24) hx hb dX6_catchAt_19 (by decide) (fun c_19_5 => absurd c_19_5 (by decide)) (fun _ => ?_)
      refine lv_iconst (v := nI 0) hx hb dX6_catchAt_22 (by decide) ?_
      exact hret hS hP dX6_catchAt_23 (Or.inl rfl) (⟨Or.inr ⟨fun q => absurd q.2 b_3, rfl, rfl⟩, rfl⟩)
  · skip
    have b_1 : ¬ (inN (nN) (k)) := b_1
    refine lv_if_eq (tgt := 22) hx hb dX6_catchAt_8 (by decide) (fun _ => ?_) (fun c_8_6 => absurd c_8_6 (by decide))
    refine lv_iconst (v := nI 0) hx hb dX6_catchAt_22 (by decide) ?_
    exact hret hS hP dX6_catchAt_23 (Or.inl rfl) (⟨Or.inr ⟨fun q => absurd q.1 b_1, rfl, rfl⟩, rfl⟩)
theorem iX6_foul_X5 : ∀ w ∈ u_ws RX5 TX5 6, w ∈ wsX6_foul := by decide +kernel
theorem iX6_foul_X6 : ∀ w ∈ u_ws RX6 TX6 6, w ∈ wsX6_foul := by decide +kernel
set_option maxHeartbeats 4000000 in
set_option maxRecDepth 100000 in
theorem kX6_foul (l : Launch) (D : va_G) (cs : Nat → ClassId) (ad : Nat → Nat) (hd : distX ad) (sz : Nat) (S : XS) (v : UInt64) : Met l yX6_foul wsX6_foul ({ frames := 1, cells := 0, slots := 0, locals := 25 } : Room) (gP D (WX cs ad) (EX D cs) S sz ([.ref (ad 0), .double (v)] : List Value)) (va_Qi (fun r u => q_foul S.1 v r u.1 ∧ u.2 = S.2) (gB D (WX cs ad)) (gA (AX ad) sz)) 0 0 (gA (AX ad) sz) := by
  obtain ⟨⟨⟨nN, px, py, pz, fx, fy, fz, lf, ld, fi⟩, ⟨nB, fr, tt, ln, wi, sg, pu⟩, ⟨nR, rd, rx, ry, wv, fo⟩, ⟨re, dg⟩, ⟨nP, tp, bt, dp⟩⟩, ⟨sp, ac, kp, kc, kn, aw, dw, su, ss, sd⟩⟩ := S
  refine gMz (cc := cX6_foul) (maxL := 3) (plainFor_of_name (by decide)) rfl (Nat.le_of_ble_eq_true rfl) ?_
  intro p e s m below meth c Q hx hb hts hown hml hsz hE hret H locs hP hS ls hl
  subst hsz
  have hown : s.vm.findClass RX6 = some m.cls := hown
  have hK : va_K D vwCl (tysX cs) s := hE.1
  have hD : ∀ u, va_D (gA (AX ad) s.heap.size) (WX cs ad u) := fun u => WX_D hd u
  have hl : lv_has ls 3 [(0, .ref (ad 0)), (1, .double (v))] := hl
  have c_177 := hts (.constantDouble RX6 177 4617315517961601024) (by decide +kernel)
  have f_26 := hts (.fieldLink RX6 26 "NetShapes" "water" "LNetShapes$Water;") (by decide +kernel)
  have f_179 := hts (.fieldLink RX6 179 "NetShapes$Water" "foulShare" "D") (by decide +kernel)
  refine lv_dload_n hx hb dX6_foul_0 rfl (lv_at hl 1 rfl) ?_
  refine lv_dconst0 hx hb dX6_foul_1 ?_
  refine lv_ldc2d hx hb hown c_177 dX6_foul_2 ?_
  refine g0i (va_runS (As := [.double (v), .double (FP.dconst0), .double (4617315517961601024)]) (rest := []) ⟨hx, hb, hml, hown, hts⟩ (kX6_within l D H.size v FP.dconst0 4617315517961601024) (va_cwS 3 hts gX6_foul_X6_within rfl rfl rfl (by decide +kernel) ⟨Nat.le_of_ble_eq_true rfl, Nat.le_of_ble_eq_true rfl⟩) (gPreS (eT_bl) w0_P (fun _ _ _ => trivial)) rfl rfl hl.1 rfl (lv_room (Nat.le_of_ble_eq_true rfl)) dX6_foul_5 ⟨Nat.zero_le _, Nat.zero_le _⟩) hP hS (fun r_ H locs hw hP hS => ?_)
  rcases hw with ⟨rfl, b_1⟩ | ⟨rfl, b_1⟩
  · skip
    have b_1 : inR (v) (FP.dconst0) (4617315517961601024) := b_1
    refine lv_if_ne (tgt := 13) hx hb dX6_foul_8 (by decide) (fun _ => ?_) (fun c_8_2 => absurd c_8_2 (by decide))
    refine lv_aload_n hx hb dX6_foul_13 rfl (lv_at hl 0 rfl) ?_
    refine va_get (D := D) (ci := 6) (v := .ref (ad 3)) (C := RX6) (T := TX6) (N := 6) hx hb hts iX6_foul_X6 hown hK hP 0 rfl rfl 2 (by decide) f_26 (fun _ h9 => h9) rfl dX6_foul_14 ?_
    refine lv_dload_n hx hb dX6_foul_17 rfl (lv_at hl 1 rfl) ?_
    refine xput (D := D) (ci := 5) (v := .double (v)) (ty := .double) (C := RX5) (T := TX5) (N := 6) hx hb hts iX6_foul_X5 tyX5 tyX5_ok nmX5 hown hK hD hP hS 3 (((nN, px, py, pz, fx, fy, fz, lf, ld, fi), (nB, fr, tt, ln, wi, sg, pu), (nR, rd, rx, ry, wv, v), (re, dg), (nP, tp, bt, dp)), (sp, ac, kp, kc, kn, aw, dw, su, ss, sd)) rfl rfl 5 (by decide) f_179 (fun _ h9 => h9) rfl (by decide +kernel) rfl rfl (Nat.le_of_ble_eq_true rfl) rfl dX6_foul_18 (fun H locs hP hS => ?_)
    refine lv_iconst (v := nI 1) hx hb dX6_foul_21 (by decide) ?_
    exact hret hS hP dX6_foul_22 (Or.inr rfl) (⟨Or.inl ⟨b_1, rfl, rfl⟩, rfl⟩)
  · skip
    have b_1 : ¬ (inR (v) (FP.dconst0) (4617315517961601024)) := b_1
    refine lv_if_ne (tgt := 13) hx hb dX6_foul_8 (by decide) (fun c_8_3 => absurd c_8_3 (by decide)) (fun _ => ?_)
    refine lv_iconst (v := nI 0) hx hb dX6_foul_11 (by decide) ?_
    exact hret hS hP dX6_foul_12 (Or.inl rfl) (⟨Or.inr ⟨fun q => absurd q b_1, rfl, rfl⟩, rfl⟩)
theorem iX6_wave_X5 : ∀ w ∈ u_ws RX5 TX5 6, w ∈ wsX6_wave := by decide +kernel
theorem iX6_wave_X6 : ∀ w ∈ u_ws RX6 TX6 6, w ∈ wsX6_wave := by decide +kernel
set_option maxHeartbeats 4000000 in
set_option maxRecDepth 100000 in
theorem kX6_wave (l : Launch) (D : va_G) (cs : Nat → ClassId) (ad : Nat → Nat) (hd : distX ad) (sz : Nat) (S : XS) (h pe : UInt64) (n : Int32) : Met l yX6_wave wsX6_wave ({ frames := 1, cells := 0, slots := 0, locals := 25 } : Room) (gP D (WX cs ad) (EX D cs) S sz ([.ref (ad 0), .double (h), .double (pe), .int (n)] : List Value)) (va_Qi (fun r u => q_wave S.1 h pe n r u.1 ∧ u.2 = S.2) (gB D (WX cs ad)) (gA (AX ad) sz)) 0 0 (gA (AX ad) sz) := by
  obtain ⟨⟨⟨nN, px, py, pz, fx, fy, fz, lf, ld, fi⟩, ⟨nB, fr, tt, ln, wi, sg, pu⟩, ⟨nR, rd, rx, ry, wv, fo⟩, ⟨re, dg⟩, ⟨nP, tp, bt, dp⟩⟩, ⟨sp, ac, kp, kc, kn, aw, dw, su, ss, sd⟩⟩ := S
  refine gMi (cc := cX6_wave) (maxL := 6) (plainFor_of_name (by decide)) rfl (Nat.le_of_ble_eq_true rfl) ?_
  intro p e s m below meth c Q hx hb hts hown hml hsz hE hret H locs hP hS ls hl
  subst hsz
  have hown : s.vm.findClass RX6 = some m.cls := hown
  have hK : va_K D vwCl (tysX cs) s := hE.1
  have hD : ∀ u, va_D (gA (AX ad) s.heap.size) (WX cs ad u) := fun u => WX_D hd u
  have hl : lv_has ls 6 [(0, .ref (ad 0)), (1, .double (h)), (3, .double (pe)), (5, .int (n))] := hl
  have c_182 := hts (.constantDouble RX6 182 4629137466983448576) (by decide +kernel)
  have c_184 := hts (.constantDouble RX6 184 4633641066610819072) (by decide +kernel)
  have c_186 := hts (.constantDouble RX6 186 4636737291354636288) (by decide +kernel)
  have f_26 := hts (.fieldLink RX6 26 "NetShapes" "water" "LNetShapes$Water;") (by decide +kernel)
  have f_188 := hts (.fieldLink RX6 188 "NetShapes$Water" "waveShare" "D") (by decide +kernel)
  have f_191 := hts (.fieldLink RX6 191 "NetShapes$Water" "count" "I") (by decide +kernel)
  refine lv_dload_n hx hb dX6_wave_0 rfl (lv_at hl 1 rfl) ?_
  refine lv_dconst0 hx hb dX6_wave_1 ?_
  refine lv_ldc2d hx hb hown c_182 dX6_wave_2 ?_
  refine g0i (va_runS (As := [.double (h), .double (FP.dconst0), .double (4629137466983448576)]) (rest := []) ⟨hx, hb, hml, hown, hts⟩ (kX6_within l D H.size h FP.dconst0 4629137466983448576) (va_cwS 3 hts gX6_wave_X6_within rfl rfl rfl (by decide +kernel) ⟨Nat.le_of_ble_eq_true rfl, Nat.le_of_ble_eq_true rfl⟩) (gPreS (eT_bl) w0_P (fun _ _ _ => trivial)) rfl rfl hl.1 rfl (lv_room (Nat.le_of_ble_eq_true rfl)) dX6_wave_5 ⟨Nat.zero_le _, Nat.zero_le _⟩) hP hS (fun r_ H locs hw hP hS => ?_)
  rcases hw with ⟨rfl, b_1⟩ | ⟨rfl, b_1⟩
  · skip
    have b_1 : inR (h) (FP.dconst0) (4629137466983448576) := b_1
    refine lv_if_eq (tgt := 34) hx hb dX6_wave_8 (by decide) (fun c_8_2 => absurd c_8_2 (by decide)) (fun _ => ?_)
    refine lv_dload_n hx hb dX6_wave_11 rfl (lv_at hl 2 rfl) ?_
    refine lv_dconst1 hx hb dX6_wave_12 ?_
    refine lv_ldc2d hx hb hown c_184 dX6_wave_13 ?_
    refine g0i (va_runS (As := [.double (pe), .double (FP.dconst1), .double (4633641066610819072)]) (rest := []) ⟨hx, hb, hml, hown, hts⟩ (kX6_within l D H.size pe FP.dconst1 4633641066610819072) (va_cwS 3 hts gX6_wave_X6_within rfl rfl rfl (by decide +kernel) ⟨Nat.le_of_ble_eq_true rfl, Nat.le_of_ble_eq_true rfl⟩) (gPreS (eT_bl) w0_P (fun _ _ _ => trivial)) rfl rfl hl.1 rfl (lv_room (Nat.le_of_ble_eq_true rfl)) dX6_wave_16 ⟨Nat.zero_le _, Nat.zero_le _⟩) hP hS (fun r_ H locs hw hP hS => ?_)
    rcases hw with ⟨rfl, b_3⟩ | ⟨rfl, b_3⟩
    · skip
      have b_3 : inR (pe) (FP.dconst1) (4633641066610819072) := b_3
      refine lv_if_eq (tgt := 34) hx hb dX6_wave_19 (by decide) (fun c_19_4 => absurd c_19_4 (by decide)) (fun _ => ?_)
      refine lv_iload hx hb dX6_wave_22 (lv_at hl 3 rfl) ?_
      refine lv_if_lt (tgt := 34) hx hb dX6_wave_24 (by decide) (fun c_24_5 => ?_) (fun c_24_5 => ?_)
      · skip
        refine lv_iconst (v := (-1 : Int32)) hx hb dX6_wave_34 (by decide) ?_
        exact hret hS hP dX6_wave_35 (⟨Or.inr ⟨fun q => q.2.2.1 c_24_5, rfl, rfl⟩, rfl⟩)
      · skip
        refine lv_iload hx hb dX6_wave_27 (lv_at hl 3 rfl) ?_
        refine lv_bipush (v := nI 100) hx hb dX6_wave_29 (by decide) ?_
        refine lv_icmp_le (tgt := 36) hx hb dX6_wave_31 (by decide) (fun c_31_6 => ?_) (fun c_31_6 => ?_)
        · skip
          have wh := inR_fB (K := 1028) b_1 (fB_mono fB_c0 (by decide)) (fB_lit (by decide +kernel))
          have wp := inR_fB (K := 1029) b_3 (fB_mono fB_c1 (by decide)) (fB_lit (by decide +kernel))
          have wq := inR_fL (L := 1023) b_3 (by decide +kernel) (fL_lit (by decide +kernel)) (by decide)
          refine lv_aload_n hx hb dX6_wave_36 rfl (lv_at hl 0 rfl) ?_
          refine va_get (D := D) (ci := 6) (v := .ref (ad 3)) (C := RX6) (T := TX6) (N := 6) hx hb hts iX6_wave_X6 hown hK hP 0 rfl rfl 2 (by decide) f_26 (fun _ h9 => h9) rfl dX6_wave_37 ?_
          refine lv_dload_n hx hb dX6_wave_40 rfl (lv_at hl 1 rfl) ?_
          refine lv_dload_n hx hb dX6_wave_41 rfl (lv_at hl 2 rfl) ?_
          refine lv_dconst1 hx hb dX6_wave_42 ?_
          have h_8 : fB (1031) (FP.dadd (pe) (FP.dconst1)) := fB_add (M := 1029) wp fB_c1 (by omega) (by omega) (by omega)
          refine lv_dadd hx hb dX6_wave_43 (fB_ne h_8 (by omega)) ?_
          have wl := (fL_addl (L := 1023) (by decide) (by decide) (fB_fin wp (by decide)) (fB_fin fB_c1 (by decide)) wq.1 wq.2 (b := FP.dconst1) (by unfold fP; decide +kernel) (fB_nn h_8 (by decide))).2
          have h_10 : fB (1029) (FP.ddiv (h) (FP.dadd (pe) (FP.dconst1))) := fB_div wh wl (fB_mono h_8 (by omega)) (by omega) (by omega) (by omega)
          refine lv_ddiv hx hb dX6_wave_44 (fB_ne h_10 (by omega)) ?_
          refine lv_iload hx hb dX6_wave_45 (lv_at hl 3 rfl) ?_
          refine lv_i2d hx hb dX6_wave_47 ?_
          have h_12 : fB (1063) (FP.dmul (FP.ddiv (h) (FP.dadd (pe) (FP.dconst1))) (FP.i2d (n))) := fB_mul h_10 (fB_i2d (n)) (by omega) (by omega) (by omega)
          refine lv_dmul hx hb dX6_wave_48 (fB_ne h_12 (by omega)) ?_
          refine lv_ldc2d hx hb hown c_186 dX6_wave_49 ?_
          have h_14 : fB (1058) (FP.ddiv (FP.dmul (FP.ddiv (h) (FP.dadd (pe) (FP.dconst1))) (FP.i2d (n))) (4636737291354636288)) := fB_div h_12 (fL_lit (K := 1029) (a := 4636737291354636288) (by decide +kernel)) (fB_mono (fB_lit (K := 1030) (a := 4636737291354636288) (by decide +kernel)) (by omega)) (by omega) (by omega) (by omega)
          refine lv_ddiv hx hb dX6_wave_52 (fB_ne h_14 (by omega)) ?_
          refine xput (D := D) (ci := 5) (v := .double (FP.ddiv (FP.dmul (FP.ddiv (h) (FP.dadd (pe) (FP.dconst1))) (FP.i2d (n))) (4636737291354636288))) (ty := .double) (C := RX5) (T := TX5) (N := 6) hx hb hts iX6_wave_X5 tyX5 tyX5_ok nmX5 hown hK hD hP hS 3 (((nN, px, py, pz, fx, fy, fz, lf, ld, fi), (nB, fr, tt, ln, wi, sg, pu), (nR, rd, rx, ry, (FP.ddiv (FP.dmul (FP.ddiv (h) (FP.dadd (pe) (FP.dconst1))) (FP.i2d (n))) (4636737291354636288)), fo), (re, dg), (nP, tp, bt, dp)), (sp, ac, kp, kc, kn, aw, dw, su, ss, sd)) rfl rfl 4 (by decide) f_188 (fun _ h9 => h9) rfl (by decide +kernel) rfl rfl (Nat.le_of_ble_eq_true rfl) rfl dX6_wave_53 (fun H locs hP hS => ?_)
          refine lv_aload_n hx hb dX6_wave_56 rfl (lv_at hl 0 rfl) ?_
          refine va_get (D := D) (ci := 6) (v := .ref (ad 3)) (C := RX6) (T := TX6) (N := 6) hx hb hts iX6_wave_X6 hown hK hP 0 rfl rfl 2 (by decide) f_26 (fun _ h9 => h9) rfl dX6_wave_57 ?_
          refine va_get (D := D) (ci := 5) (v := .int (nI nR)) (C := RX5) (T := TX5) (N := 6) hx hb hts iX6_wave_X5 hown hK hP 3 rfl rfl 3 (by decide) f_191 (fun _ h9 => h9) rfl dX6_wave_60 ?_
          exact hret hS hP dX6_wave_63 (⟨Or.inl ⟨⟨b_1, b_3, c_24_5, c_31_6⟩, rfl, rfl⟩, rfl⟩)
        · skip
          refine lv_iconst (v := (-1 : Int32)) hx hb dX6_wave_34 (by decide) ?_
          exact hret hS hP dX6_wave_35 (⟨Or.inr ⟨fun q => absurd q.2.2.2 c_31_6, rfl, rfl⟩, rfl⟩)
    · skip
      have b_3 : ¬ (inR (pe) (FP.dconst1) (4633641066610819072)) := b_3
      refine lv_if_eq (tgt := 34) hx hb dX6_wave_19 (by decide) (fun _ => ?_) (fun c_19_15 => absurd c_19_15 (by decide))
      refine lv_iconst (v := (-1 : Int32)) hx hb dX6_wave_34 (by decide) ?_
      exact hret hS hP dX6_wave_35 (⟨Or.inr ⟨fun q => absurd q.2.1 b_3, rfl, rfl⟩, rfl⟩)
  · skip
    have b_1 : ¬ (inR (h) (FP.dconst0) (4629137466983448576)) := b_1
    refine lv_if_eq (tgt := 34) hx hb dX6_wave_8 (by decide) (fun _ => ?_) (fun c_8_16 => absurd c_8_16 (by decide))
    refine lv_iconst (v := (-1 : Int32)) hx hb dX6_wave_34 (by decide) ?_
    exact hret hS hP dX6_wave_35 (⟨Or.inr ⟨fun q => absurd q.1 b_1, rfl, rfl⟩, rfl⟩)
theorem iX7_fix_X7 : ∀ w ∈ u_ws RX7 TX7 31, w ∈ wsX7_fix := by decide +kernel
set_option maxHeartbeats 4000000 in
set_option maxRecDepth 100000 in
theorem kX7_fix (l : Launch) (D : va_G) (cs : Nat → ClassId) (ad : Nat → Nat) (hd : distM ad) (sz : Nat) (S : MS) (hnN : S.1.1.1 ≤ 30) (k : Int32) : Met l yX7_fix wsX7_fix ({ frames := 1, cells := 0, slots := 0, locals := 21 } : Room) (gP D (WM cs ad) (EM D cs) S sz ([.ref (ad 0), .int (k)] : List Value)) (va_Qi (fun r u => q_fix S.1 k r u.1 ∧ u.2 = S.2) (gB D (WM cs ad)) (gA (AM ad) sz)) 0 0 (gA (AM ad) sz) := by
  obtain ⟨⟨⟨nN, px, py, pz, fx, fy, fz, lf, ld, fi⟩, ⟨nB, fr, tt, ln, wi, sg, pu⟩, ⟨nR, rd, rx, ry, wv, fo⟩, ⟨re, dg⟩, ⟨nP, tp, bt, dp⟩⟩, ⟨nQ, fu⟩⟩ := S
  have hnN : nN ≤ 30 := hnN
  refine gMz (cc := cX7_fix) (maxL := 2) (plainFor_of_name (by decide)) rfl (Nat.le_of_ble_eq_true rfl) ?_
  intro p e s m below meth c Q hx hb hts hown hml hsz hE hret H locs hP hS ls hl
  subst hsz
  have hown : s.vm.findClass RX7 = some m.cls := hown
  have hK : va_K D vwCl (tysX cs) s := hE.1
  have hD : ∀ u, va_D (gA (AM ad) s.heap.size) (WM cs ad u) := fun u => WM_D hd u
  have hl : lv_has ls 2 [(0, .ref (ad 0)), (1, .int (k))] := hl
  have f_25 := hts (.fieldLink RX7 25 "NetShapesModel" "fixed" "[Z") (by decide +kernel)
  refine lv_aload_n hx hb dX7_fix_0 rfl (lv_at hl 0 rfl) ?_
  refine lv_iload_n hx hb dX7_fix_1 rfl (lv_at hl 1 rfl) ?_
  refine gci (va_runV (As := [.int (k)]) (rest := []) ⟨hx, hb, hml, hown, hts⟩ (kX7_isNode l D cs ad hd H.size (((nN, px, py, pz, fx, fy, fz, lf, ld, fi), (nB, fr, tt, ln, wi, sg, pu), (nR, rd, rx, ry, wv, fo), (re, dg), (nP, tp, bt, dp)), (nQ, fu)) hnN k) (cwV 1 hts gX7_fix_X7_isNode rfl rfl rfl (by decide +kernel) ⟨Nat.le_of_ble_eq_true rfl, Nat.le_of_ble_eq_true rfl⟩) (gPreV (EM_bl) (va_recv hK hP (ci := 7) (q0 := 0) rfl rfl) hP (fun U _ hW => EM_warm hW hE)) rfl rfl hl.1 rfl (lv_room (Nat.le_of_ble_eq_true rfl)) dX7_fix_2 ⟨Nat.zero_le _, Nat.zero_le _⟩) hS (fun r_ u_ H locs hw hP hS => ?_)
  obtain ⟨rfl, hw⟩ := hw
  rcases hw with ⟨rfl, b_1⟩ | ⟨rfl, b_1⟩
  · skip
    have b_1 : inN (nN) (k) := b_1
    obtain ⟨j, hj, rfl⟩ := b_1
    refine lv_if_ne (tgt := 10) hx hb dX7_fix_5 (by decide) (fun _ => ?_) (fun c_5_2 => absurd c_5_2 (by decide))
    refine lv_aload_n hx hb dX7_fix_10 rfl (lv_at hl 0 rfl) ?_
    refine va_get (D := D) (ci := 7) (v := .ref (ad 6)) (C := RX7) (T := TX7) (N := 31) hx hb hts iX7_fix_X7 hown hK hP 0 rfl rfl 6 (by decide) f_25 (fun _ h9 => h9) rfl dX7_fix_11 ?_
    refine lv_iload_n hx hb dX7_fix_14 rfl (lv_at hl 1 rfl) ?_
    refine lv_iconst (v := nI 1) hx hb dX7_fix_15 (by decide) ?_
    refine xzs hx hb hK hD hP hS 6 2 (((nN, px, py, pz, fx, fy, fz, lf, ld, (upd fi j (nI 1))), (nB, fr, tt, ln, wi, sg, pu), (nR, rd, rx, ry, wv, fo), (re, dg), (nP, tp, bt, dp)), (nQ, fu)) rfl rfl (j := j) (by decide) (by omega) rfl dX7_fix_16 (fun H locs hP hS => ?_)
    refine lv_iconst (v := nI 1) hx hb dX7_fix_17 (by decide) ?_
    exact hret hS hP dX7_fix_18 (Or.inr rfl) (⟨Or.inl ⟨j, hj, rfl, trivial, rfl, rfl⟩, rfl⟩)
  · skip
    have b_1 : ¬ (inN (nN) (k)) := b_1
    refine lv_if_ne (tgt := 10) hx hb dX7_fix_5 (by decide) (fun c_5_3 => absurd c_5_3 (by decide)) (fun _ => ?_)
    refine lv_iconst (v := nI 0) hx hb dX7_fix_8 (by decide) ?_
    exact hret hS hP dX7_fix_9 (Or.inl rfl) (⟨Or.inr ⟨fun q => absurd q.1 b_1, rfl, rfl⟩, rfl⟩)
theorem iX7_floats_X7 : ∀ w ∈ u_ws RX7 TX7 31, w ∈ wsX7_floats := by decide +kernel
set_option maxHeartbeats 4000000 in
set_option maxRecDepth 100000 in
theorem kX7_floats (l : Launch) (D : va_G) (cs : Nat → ClassId) (ad : Nat → Nat) (hd : distM ad) (sz : Nat) (S : MS) (hnN : S.1.1.1 ≤ 30) (k : Int32) (v : UInt64) : Met l yX7_floats wsX7_floats ({ frames := 1, cells := 0, slots := 0, locals := 25 } : Room) (gP D (WM cs ad) (EM D cs) S sz ([.ref (ad 0), .int (k), .double (v)] : List Value)) (va_Qi (fun r u => q_floats S.1 k v r u.1 ∧ u.2 = S.2) (gB D (WM cs ad)) (gA (AM ad) sz)) 0 0 (gA (AM ad) sz) := by
  obtain ⟨⟨⟨nN, px, py, pz, fx, fy, fz, lf, ld, fi⟩, ⟨nB, fr, tt, ln, wi, sg, pu⟩, ⟨nR, rd, rx, ry, wv, fo⟩, ⟨re, dg⟩, ⟨nP, tp, bt, dp⟩⟩, ⟨nQ, fu⟩⟩ := S
  have hnN : nN ≤ 30 := hnN
  refine gMz (cc := cX7_floats) (maxL := 4) (plainFor_of_name (by decide)) rfl (Nat.le_of_ble_eq_true rfl) ?_
  intro p e s m below meth c Q hx hb hts hown hml hsz hE hret H locs hP hS ls hl
  subst hsz
  have hown : s.vm.findClass RX7 = some m.cls := hown
  have hK : va_K D vwCl (tysX cs) s := hE.1
  have hD : ∀ u, va_D (gA (AM ad) s.heap.size) (WM cs ad u) := fun u => WM_D hd u
  have hl : lv_has ls 4 [(0, .ref (ad 0)), (1, .int (k)), (2, .double (v))] := hl
  have c_114 := hts (.constantDouble RX7 114 13904980397738950656) (by decide +kernel)
  have c_116 := hts (.constantDouble RX7 116 4681608360884174848) (by decide +kernel)
  have f_19 := hts (.fieldLink RX7 19 "NetShapesModel" "lift" "[D") (by decide +kernel)
  refine lv_aload_n hx hb dX7_floats_0 rfl (lv_at hl 0 rfl) ?_
  refine lv_iload_n hx hb dX7_floats_1 rfl (lv_at hl 1 rfl) ?_
  refine gci (va_runV (As := [.int (k)]) (rest := []) ⟨hx, hb, hml, hown, hts⟩ (kX7_isNode l D cs ad hd H.size (((nN, px, py, pz, fx, fy, fz, lf, ld, fi), (nB, fr, tt, ln, wi, sg, pu), (nR, rd, rx, ry, wv, fo), (re, dg), (nP, tp, bt, dp)), (nQ, fu)) hnN k) (cwV 1 hts gX7_floats_X7_isNode rfl rfl rfl (by decide +kernel) ⟨Nat.le_of_ble_eq_true rfl, Nat.le_of_ble_eq_true rfl⟩) (gPreV (EM_bl) (va_recv hK hP (ci := 7) (q0 := 0) rfl rfl) hP (fun U _ hW => EM_warm hW hE)) rfl rfl hl.1 rfl (lv_room (Nat.le_of_ble_eq_true rfl)) dX7_floats_2 ⟨Nat.zero_le _, Nat.zero_le _⟩) hS (fun r_ u_ H locs hw hP hS => ?_)
  obtain ⟨rfl, hw⟩ := hw
  rcases hw with ⟨rfl, b_1⟩ | ⟨rfl, b_1⟩
  · skip
    have b_1 : inN (nN) (k) := b_1
    refine lv_if_eq (tgt := 21) hx hb dX7_floats_5 (by decide) (fun c_5_2 => absurd c_5_2 (by decide)) (fun _ => ?_)
    refine lv_dload_n hx hb dX7_floats_8 rfl (lv_at hl 2 rfl) ?_
    refine lv_ldc2d hx hb hown c_114 dX7_floats_9 ?_
    refine lv_ldc2d hx hb hown c_116 dX7_floats_12 ?_
    refine g0i (va_runS (As := [.double (v), .double (13904980397738950656), .double (4681608360884174848)]) (rest := []) ⟨hx, hb, hml, hown, hts⟩ (kX7_isIn l D H.size v 13904980397738950656 4681608360884174848) (va_cwS 3 hts gX7_floats_X7_isIn rfl rfl rfl (by decide +kernel) ⟨Nat.le_of_ble_eq_true rfl, Nat.le_of_ble_eq_true rfl⟩) (gPreS (eT_bl) w0_P (fun _ _ _ => trivial)) rfl rfl hl.1 rfl (lv_room (Nat.le_of_ble_eq_true rfl)) dX7_floats_15 ⟨Nat.zero_le _, Nat.zero_le _⟩) hP hS (fun r_ H locs hw hP hS => ?_)
    rcases hw with ⟨rfl, b_3⟩ | ⟨rfl, b_3⟩
    · skip
      have b_3 : inR (v) (13904980397738950656) (4681608360884174848) := b_3
      obtain ⟨j, hj, rfl⟩ := b_1
      refine lv_if_ne (tgt := 23) hx hb dX7_floats_18 (by decide) (fun _ => ?_) (fun c_18_4 => absurd c_18_4 (by decide))
      refine lv_aload_n hx hb dX7_floats_23 rfl (lv_at hl 0 rfl) ?_
      refine va_get (D := D) (ci := 7) (v := .ref (ad 4)) (C := RX7) (T := TX7) (N := 31) hx hb hts iX7_floats_X7 hown hK hP 0 rfl rfl 4 (by decide) f_19 (fun _ h9 => h9) rfl dX7_floats_24 ?_
      refine lv_iload_n hx hb dX7_floats_27 rfl (lv_at hl 1 rfl) ?_
      refine lv_dload_n hx hb dX7_floats_28 rfl (lv_at hl 2 rfl) ?_
      refine xds hx hb hK hD hP hS 4 0 (((nN, px, py, pz, fx, fy, fz, (vf_upd lf j v), ld, fi), (nB, fr, tt, ln, wi, sg, pu), (nR, rd, rx, ry, wv, fo), (re, dg), (nP, tp, bt, dp)), (nQ, fu)) rfl rfl (j := j) (by decide) (by omega) rfl dX7_floats_29 (fun H locs hP hS => ?_)
      refine lv_iconst (v := nI 1) hx hb dX7_floats_30 (by decide) ?_
      exact hret hS hP dX7_floats_31 (Or.inr rfl) (⟨Or.inl ⟨j, hj, rfl, b_3, rfl, rfl⟩, rfl⟩)
    · skip
      have b_3 : ¬ (inR (v) (13904980397738950656) (4681608360884174848)) := b_3
      refine lv_if_ne (tgt := 23) hx hb dX7_floats_18 (by decide) (fun c_18_5 => absurd c_18_5 (by decide)) (fun _ => ?_)
      refine lv_iconst (v := nI 0) hx hb dX7_floats_21 (by decide) ?_
      exact hret hS hP dX7_floats_22 (Or.inl rfl) (⟨Or.inr ⟨fun q => absurd q.2 b_3, rfl, rfl⟩, rfl⟩)
  · skip
    have b_1 : ¬ (inN (nN) (k)) := b_1
    refine lv_if_eq (tgt := 21) hx hb dX7_floats_5 (by decide) (fun _ => ?_) (fun c_5_6 => absurd c_5_6 (by decide))
    refine lv_iconst (v := nI 0) hx hb dX7_floats_21 (by decide) ?_
    exact hret hS hP dX7_floats_22 (Or.inl rfl) (⟨Or.inr ⟨fun q => absurd q.1 b_1, rfl, rfl⟩, rfl⟩)
theorem iX7_catchAt_X7 : ∀ w ∈ u_ws RX7 TX7 31, w ∈ wsX7_catchAt := by decide +kernel
set_option maxHeartbeats 4000000 in
set_option maxRecDepth 100000 in
theorem kX7_catchAt (l : Launch) (D : va_G) (cs : Nat → ClassId) (ad : Nat → Nat) (hd : distM ad) (sz : Nat) (S : MS) (hnN : S.1.1.1 ≤ 30) (k : Int32) (v : UInt64) : Met l yX7_catchAt wsX7_catchAt ({ frames := 1, cells := 0, slots := 0, locals := 25 } : Room) (gP D (WM cs ad) (EM D cs) S sz ([.ref (ad 0), .int (k), .double (v)] : List Value)) (va_Qi (fun r u => q_catchAt S.1 k v r u.1 ∧ u.2 = S.2) (gB D (WM cs ad)) (gA (AM ad) sz)) 0 0 (gA (AM ad) sz) := by
  obtain ⟨⟨⟨nN, px, py, pz, fx, fy, fz, lf, ld, fi⟩, ⟨nB, fr, tt, ln, wi, sg, pu⟩, ⟨nR, rd, rx, ry, wv, fo⟩, ⟨re, dg⟩, ⟨nP, tp, bt, dp⟩⟩, ⟨nQ, fu⟩⟩ := S
  have hnN : nN ≤ 30 := hnN
  refine gMz (cc := cX7_catchAt) (maxL := 4) (plainFor_of_name (by decide)) rfl (Nat.le_of_ble_eq_true rfl) ?_
  intro p e s m below meth c Q hx hb hts hown hml hsz hE hret H locs hP hS ls hl
  subst hsz
  have hown : s.vm.findClass RX7 = some m.cls := hown
  have hK : va_K D vwCl (tysX cs) s := hE.1
  have hD : ∀ u, va_D (gA (AM ad) s.heap.size) (WM cs ad u) := fun u => WM_D hd u
  have hl : lv_has ls 4 [(0, .ref (ad 0)), (1, .int (k)), (2, .double (v))] := hl
  have c_116 := hts (.constantDouble RX7 116 4681608360884174848) (by decide +kernel)
  have f_22 := hts (.fieldLink RX7 22 "NetShapesModel" "caught" "[D") (by decide +kernel)
  refine lv_aload_n hx hb dX7_catchAt_0 rfl (lv_at hl 0 rfl) ?_
  refine lv_iload_n hx hb dX7_catchAt_1 rfl (lv_at hl 1 rfl) ?_
  refine gci (va_runV (As := [.int (k)]) (rest := []) ⟨hx, hb, hml, hown, hts⟩ (kX7_isNode l D cs ad hd H.size (((nN, px, py, pz, fx, fy, fz, lf, ld, fi), (nB, fr, tt, ln, wi, sg, pu), (nR, rd, rx, ry, wv, fo), (re, dg), (nP, tp, bt, dp)), (nQ, fu)) hnN k) (cwV 1 hts gX7_catchAt_X7_isNode rfl rfl rfl (by decide +kernel) ⟨Nat.le_of_ble_eq_true rfl, Nat.le_of_ble_eq_true rfl⟩) (gPreV (EM_bl) (va_recv hK hP (ci := 7) (q0 := 0) rfl rfl) hP (fun U _ hW => EM_warm hW hE)) rfl rfl hl.1 rfl (lv_room (Nat.le_of_ble_eq_true rfl)) dX7_catchAt_2 ⟨Nat.zero_le _, Nat.zero_le _⟩) hS (fun r_ u_ H locs hw hP hS => ?_)
  obtain ⟨rfl, hw⟩ := hw
  rcases hw with ⟨rfl, b_1⟩ | ⟨rfl, b_1⟩
  · skip
    have b_1 : inN (nN) (k) := b_1
    refine lv_if_eq (tgt := 19) hx hb dX7_catchAt_5 (by decide) (fun c_5_2 => absurd c_5_2 (by decide)) (fun _ => ?_)
    refine lv_dload_n hx hb dX7_catchAt_8 rfl (lv_at hl 2 rfl) ?_
    refine lv_dconst0 hx hb dX7_catchAt_9 ?_
    refine lv_ldc2d hx hb hown c_116 dX7_catchAt_10 ?_
    refine g0i (va_runS (As := [.double (v), .double (FP.dconst0), .double (4681608360884174848)]) (rest := []) ⟨hx, hb, hml, hown, hts⟩ (kX7_isIn l D H.size v FP.dconst0 4681608360884174848) (va_cwS 3 hts gX7_catchAt_X7_isIn rfl rfl rfl (by decide +kernel) ⟨Nat.le_of_ble_eq_true rfl, Nat.le_of_ble_eq_true rfl⟩) (gPreS (eT_bl) w0_P (fun _ _ _ => trivial)) rfl rfl hl.1 rfl (lv_room (Nat.le_of_ble_eq_true rfl)) dX7_catchAt_13 ⟨Nat.zero_le _, Nat.zero_le _⟩) hP hS (fun r_ H locs hw hP hS => ?_)
    rcases hw with ⟨rfl, b_3⟩ | ⟨rfl, b_3⟩
    · skip
      have b_3 : inR (v) (FP.dconst0) (4681608360884174848) := b_3
      obtain ⟨j, hj, rfl⟩ := b_1
      refine lv_if_ne (tgt := 21) hx hb dX7_catchAt_16 (by decide) (fun _ => ?_) (fun c_16_4 => absurd c_16_4 (by decide))
      refine lv_aload_n hx hb dX7_catchAt_21 rfl (lv_at hl 0 rfl) ?_
      refine va_get (D := D) (ci := 7) (v := .ref (ad 5)) (C := RX7) (T := TX7) (N := 31) hx hb hts iX7_catchAt_X7 hown hK hP 0 rfl rfl 5 (by decide) f_22 (fun _ h9 => h9) rfl dX7_catchAt_22 ?_
      refine lv_iload_n hx hb dX7_catchAt_25 rfl (lv_at hl 1 rfl) ?_
      refine lv_dload_n hx hb dX7_catchAt_26 rfl (lv_at hl 2 rfl) ?_
      refine xds hx hb hK hD hP hS 5 0 (((nN, px, py, pz, fx, fy, fz, lf, (vf_upd ld j v), fi), (nB, fr, tt, ln, wi, sg, pu), (nR, rd, rx, ry, wv, fo), (re, dg), (nP, tp, bt, dp)), (nQ, fu)) rfl rfl (j := j) (by decide) (by omega) rfl dX7_catchAt_27 (fun H locs hP hS => ?_)
      refine lv_iconst (v := nI 1) hx hb dX7_catchAt_28 (by decide) ?_
      exact hret hS hP dX7_catchAt_29 (Or.inr rfl) (⟨Or.inl ⟨j, hj, rfl, b_3, rfl, rfl⟩, rfl⟩)
    · skip
      have b_3 : ¬ (inR (v) (FP.dconst0) (4681608360884174848)) := b_3
      refine lv_if_ne (tgt := 21) hx hb dX7_catchAt_16 (by decide) (fun c_16_5 => absurd c_16_5 (by decide)) (fun _ => ?_)
      refine lv_iconst (v := nI 0) hx hb dX7_catchAt_19 (by decide) ?_
      exact hret hS hP dX7_catchAt_20 (Or.inl rfl) (⟨Or.inr ⟨fun q => absurd q.2 b_3, rfl, rfl⟩, rfl⟩)
  · skip
    have b_1 : ¬ (inN (nN) (k)) := b_1
    refine lv_if_eq (tgt := 19) hx hb dX7_catchAt_5 (by decide) (fun _ => ?_) (fun c_5_6 => absurd c_5_6 (by decide))
    refine lv_iconst (v := nI 0) hx hb dX7_catchAt_19 (by decide) ?_
    exact hret hS hP dX7_catchAt_20 (Or.inl rfl) (⟨Or.inr ⟨fun q => absurd q.1 b_1, rfl, rfl⟩, rfl⟩)
theorem iX7_foul_X7 : ∀ w ∈ u_ws RX7 TX7 31, w ∈ wsX7_foul := by decide +kernel
set_option maxHeartbeats 4000000 in
set_option maxRecDepth 100000 in
theorem kX7_foul (l : Launch) (D : va_G) (cs : Nat → ClassId) (ad : Nat → Nat) (hd : distM ad) (sz : Nat) (S : MS) (v : UInt64) : Met l yX7_foul wsX7_foul ({ frames := 1, cells := 0, slots := 0, locals := 25 } : Room) (gP D (WM cs ad) (EM D cs) S sz ([.ref (ad 0), .double (v)] : List Value)) (va_Qi (fun r u => q_foul S.1 v r u.1 ∧ u.2 = S.2) (gB D (WM cs ad)) (gA (AM ad) sz)) 0 0 (gA (AM ad) sz) := by
  obtain ⟨⟨⟨nN, px, py, pz, fx, fy, fz, lf, ld, fi⟩, ⟨nB, fr, tt, ln, wi, sg, pu⟩, ⟨nR, rd, rx, ry, wv, fo⟩, ⟨re, dg⟩, ⟨nP, tp, bt, dp⟩⟩, ⟨nQ, fu⟩⟩ := S
  refine gMz (cc := cX7_foul) (maxL := 3) (plainFor_of_name (by decide)) rfl (Nat.le_of_ble_eq_true rfl) ?_
  intro p e s m below meth c Q hx hb hts hown hml hsz hE hret H locs hP hS ls hl
  subst hsz
  have hown : s.vm.findClass RX7 = some m.cls := hown
  have hK : va_K D vwCl (tysX cs) s := hE.1
  have hD : ∀ u, va_D (gA (AM ad) s.heap.size) (WM cs ad u) := fun u => WM_D hd u
  have hl : lv_has ls 3 [(0, .ref (ad 0)), (1, .double (v))] := hl
  have c_118 := hts (.constantDouble RX7 118 4617315517961601024) (by decide +kernel)
  have f_120 := hts (.fieldLink RX7 120 "NetShapesModel" "fouled" "D") (by decide +kernel)
  refine lv_dload_n hx hb dX7_foul_0 rfl (lv_at hl 1 rfl) ?_
  refine lv_dconst0 hx hb dX7_foul_1 ?_
  refine lv_ldc2d hx hb hown c_118 dX7_foul_2 ?_
  refine g0i (va_runS (As := [.double (v), .double (FP.dconst0), .double (4617315517961601024)]) (rest := []) ⟨hx, hb, hml, hown, hts⟩ (kX7_isIn l D H.size v FP.dconst0 4617315517961601024) (va_cwS 3 hts gX7_foul_X7_isIn rfl rfl rfl (by decide +kernel) ⟨Nat.le_of_ble_eq_true rfl, Nat.le_of_ble_eq_true rfl⟩) (gPreS (eT_bl) w0_P (fun _ _ _ => trivial)) rfl rfl hl.1 rfl (lv_room (Nat.le_of_ble_eq_true rfl)) dX7_foul_5 ⟨Nat.zero_le _, Nat.zero_le _⟩) hP hS (fun r_ H locs hw hP hS => ?_)
  rcases hw with ⟨rfl, b_1⟩ | ⟨rfl, b_1⟩
  · skip
    have b_1 : inR (v) (FP.dconst0) (4617315517961601024) := b_1
    refine lv_if_ne (tgt := 13) hx hb dX7_foul_8 (by decide) (fun _ => ?_) (fun c_8_2 => absurd c_8_2 (by decide))
    refine lv_aload_n hx hb dX7_foul_13 rfl (lv_at hl 0 rfl) ?_
    refine lv_dload_n hx hb dX7_foul_14 rfl (lv_at hl 1 rfl) ?_
    refine xput (D := D) (ci := 7) (v := .double (v)) (ty := .double) (C := RX7) (T := TX7) (N := 31) hx hb hts iX7_foul_X7 tyX7 tyX7_ok nmX7 hown hK hD hP hS 0 (((nN, px, py, pz, fx, fy, fz, lf, ld, fi), (nB, fr, tt, ln, wi, sg, pu), (nR, rd, rx, ry, wv, v), (re, dg), (nP, tp, bt, dp)), (nQ, fu)) rfl rfl 22 (by decide) f_120 (fun _ h9 => h9) rfl (by decide +kernel) rfl rfl (Nat.le_of_ble_eq_true rfl) rfl dX7_foul_15 (fun H locs hP hS => ?_)
    refine lv_iconst (v := nI 1) hx hb dX7_foul_18 (by decide) ?_
    exact hret hS hP dX7_foul_19 (Or.inr rfl) (⟨Or.inl ⟨b_1, rfl, rfl⟩, rfl⟩)
  · skip
    have b_1 : ¬ (inR (v) (FP.dconst0) (4617315517961601024)) := b_1
    refine lv_if_ne (tgt := 13) hx hb dX7_foul_8 (by decide) (fun c_8_3 => absurd c_8_3 (by decide)) (fun _ => ?_)
    refine lv_iconst (v := nI 0) hx hb dX7_foul_11 (by decide) ?_
    exact hret hS hP dX7_foul_12 (Or.inl rfl) (⟨Or.inr ⟨fun q => absurd q b_1, rfl, rfl⟩, rfl⟩)
theorem iX7_wave_X7 : ∀ w ∈ u_ws RX7 TX7 31, w ∈ wsX7_wave := by decide +kernel
set_option maxHeartbeats 4000000 in
set_option maxRecDepth 100000 in
theorem kX7_wave (l : Launch) (D : va_G) (cs : Nat → ClassId) (ad : Nat → Nat) (hd : distM ad) (sz : Nat) (S : MS) (h pe : UInt64) (n : Int32) : Met l yX7_wave wsX7_wave ({ frames := 1, cells := 0, slots := 0, locals := 25 } : Room) (gP D (WM cs ad) (EM D cs) S sz ([.ref (ad 0), .double (h), .double (pe), .int (n)] : List Value)) (va_Qi (fun r u => q_wave S.1 h pe n r u.1 ∧ u.2 = S.2) (gB D (WM cs ad)) (gA (AM ad) sz)) 0 0 (gA (AM ad) sz) := by
  obtain ⟨⟨⟨nN, px, py, pz, fx, fy, fz, lf, ld, fi⟩, ⟨nB, fr, tt, ln, wi, sg, pu⟩, ⟨nR, rd, rx, ry, wv, fo⟩, ⟨re, dg⟩, ⟨nP, tp, bt, dp⟩⟩, ⟨nQ, fu⟩⟩ := S
  refine gMi (cc := cX7_wave) (maxL := 6) (plainFor_of_name (by decide)) rfl (Nat.le_of_ble_eq_true rfl) ?_
  intro p e s m below meth c Q hx hb hts hown hml hsz hE hret H locs hP hS ls hl
  subst hsz
  have hown : s.vm.findClass RX7 = some m.cls := hown
  have hK : va_K D vwCl (tysX cs) s := hE.1
  have hD : ∀ u, va_D (gA (AM ad) s.heap.size) (WM cs ad u) := fun u => WM_D hd u
  have hl : lv_has ls 6 [(0, .ref (ad 0)), (1, .double (h)), (3, .double (pe)), (5, .int (n))] := hl
  have c_123 := hts (.constantDouble RX7 123 4629137466983448576) (by decide +kernel)
  have c_125 := hts (.constantDouble RX7 125 4633641066610819072) (by decide +kernel)
  have c_127 := hts (.constantDouble RX7 127 4636737291354636288) (by decide +kernel)
  have f_129 := hts (.fieldLink RX7 129 "NetShapesModel" "waves" "D") (by decide +kernel)
  have f_132 := hts (.fieldLink RX7 132 "NetShapesModel" "rows" "I") (by decide +kernel)
  refine lv_dload_n hx hb dX7_wave_0 rfl (lv_at hl 1 rfl) ?_
  refine lv_dconst0 hx hb dX7_wave_1 ?_
  refine lv_ldc2d hx hb hown c_123 dX7_wave_2 ?_
  refine g0i (va_runS (As := [.double (h), .double (FP.dconst0), .double (4629137466983448576)]) (rest := []) ⟨hx, hb, hml, hown, hts⟩ (kX7_isIn l D H.size h FP.dconst0 4629137466983448576) (va_cwS 3 hts gX7_wave_X7_isIn rfl rfl rfl (by decide +kernel) ⟨Nat.le_of_ble_eq_true rfl, Nat.le_of_ble_eq_true rfl⟩) (gPreS (eT_bl) w0_P (fun _ _ _ => trivial)) rfl rfl hl.1 rfl (lv_room (Nat.le_of_ble_eq_true rfl)) dX7_wave_5 ⟨Nat.zero_le _, Nat.zero_le _⟩) hP hS (fun r_ H locs hw hP hS => ?_)
  rcases hw with ⟨rfl, b_1⟩ | ⟨rfl, b_1⟩
  · skip
    have b_1 : inR (h) (FP.dconst0) (4629137466983448576) := b_1
    refine lv_if_eq (tgt := 34) hx hb dX7_wave_8 (by decide) (fun c_8_2 => absurd c_8_2 (by decide)) (fun _ => ?_)
    refine lv_dload_n hx hb dX7_wave_11 rfl (lv_at hl 2 rfl) ?_
    refine lv_dconst1 hx hb dX7_wave_12 ?_
    refine lv_ldc2d hx hb hown c_125 dX7_wave_13 ?_
    refine g0i (va_runS (As := [.double (pe), .double (FP.dconst1), .double (4633641066610819072)]) (rest := []) ⟨hx, hb, hml, hown, hts⟩ (kX7_isIn l D H.size pe FP.dconst1 4633641066610819072) (va_cwS 3 hts gX7_wave_X7_isIn rfl rfl rfl (by decide +kernel) ⟨Nat.le_of_ble_eq_true rfl, Nat.le_of_ble_eq_true rfl⟩) (gPreS (eT_bl) w0_P (fun _ _ _ => trivial)) rfl rfl hl.1 rfl (lv_room (Nat.le_of_ble_eq_true rfl)) dX7_wave_16 ⟨Nat.zero_le _, Nat.zero_le _⟩) hP hS (fun r_ H locs hw hP hS => ?_)
    rcases hw with ⟨rfl, b_3⟩ | ⟨rfl, b_3⟩
    · skip
      have b_3 : inR (pe) (FP.dconst1) (4633641066610819072) := b_3
      refine lv_if_eq (tgt := 34) hx hb dX7_wave_19 (by decide) (fun c_19_4 => absurd c_19_4 (by decide)) (fun _ => ?_)
      refine lv_iload hx hb dX7_wave_22 (lv_at hl 3 rfl) ?_
      refine lv_if_lt (tgt := 34) hx hb dX7_wave_24 (by decide) (fun c_24_5 => ?_) (fun c_24_5 => ?_)
      · skip
        refine lv_iconst (v := (-1 : Int32)) hx hb dX7_wave_34 (by decide) ?_
        exact hret hS hP dX7_wave_35 (⟨Or.inr ⟨fun q => q.2.2.1 c_24_5, rfl, rfl⟩, rfl⟩)
      · skip
        refine lv_iload hx hb dX7_wave_27 (lv_at hl 3 rfl) ?_
        refine lv_bipush (v := nI 100) hx hb dX7_wave_29 (by decide) ?_
        refine lv_icmp_le (tgt := 36) hx hb dX7_wave_31 (by decide) (fun c_31_6 => ?_) (fun c_31_6 => ?_)
        · skip
          have wh := inR_fB (K := 1028) b_1 (fB_mono fB_c0 (by decide)) (fB_lit (by decide +kernel))
          have wp := inR_fB (K := 1029) b_3 (fB_mono fB_c1 (by decide)) (fB_lit (by decide +kernel))
          have wq := inR_fL (L := 1023) b_3 (by decide +kernel) (fL_lit (by decide +kernel)) (by decide)
          refine lv_aload_n hx hb dX7_wave_36 rfl (lv_at hl 0 rfl) ?_
          refine lv_dload_n hx hb dX7_wave_37 rfl (lv_at hl 1 rfl) ?_
          refine lv_dload_n hx hb dX7_wave_38 rfl (lv_at hl 2 rfl) ?_
          refine lv_dconst1 hx hb dX7_wave_39 ?_
          have h_8 : fB (1031) (FP.dadd (pe) (FP.dconst1)) := fB_add (M := 1029) wp fB_c1 (by omega) (by omega) (by omega)
          refine lv_dadd hx hb dX7_wave_40 (fB_ne h_8 (by omega)) ?_
          have wl := (fL_addl (L := 1023) (by decide) (by decide) (fB_fin wp (by decide)) (fB_fin fB_c1 (by decide)) wq.1 wq.2 (b := FP.dconst1) (by unfold fP; decide +kernel) (fB_nn h_8 (by decide))).2
          have h_10 : fB (1029) (FP.ddiv (h) (FP.dadd (pe) (FP.dconst1))) := fB_div wh wl (fB_mono h_8 (by omega)) (by omega) (by omega) (by omega)
          refine lv_ddiv hx hb dX7_wave_41 (fB_ne h_10 (by omega)) ?_
          refine lv_iload hx hb dX7_wave_42 (lv_at hl 3 rfl) ?_
          refine lv_i2d hx hb dX7_wave_44 ?_
          have h_12 : fB (1063) (FP.dmul (FP.ddiv (h) (FP.dadd (pe) (FP.dconst1))) (FP.i2d (n))) := fB_mul h_10 (fB_i2d (n)) (by omega) (by omega) (by omega)
          refine lv_dmul hx hb dX7_wave_45 (fB_ne h_12 (by omega)) ?_
          refine lv_ldc2d hx hb hown c_127 dX7_wave_46 ?_
          have h_14 : fB (1058) (FP.ddiv (FP.dmul (FP.ddiv (h) (FP.dadd (pe) (FP.dconst1))) (FP.i2d (n))) (4636737291354636288)) := fB_div h_12 (fL_lit (K := 1029) (a := 4636737291354636288) (by decide +kernel)) (fB_mono (fB_lit (K := 1030) (a := 4636737291354636288) (by decide +kernel)) (by omega)) (by omega) (by omega) (by omega)
          refine lv_ddiv hx hb dX7_wave_49 (fB_ne h_14 (by omega)) ?_
          refine xput (D := D) (ci := 7) (v := .double (FP.ddiv (FP.dmul (FP.ddiv (h) (FP.dadd (pe) (FP.dconst1))) (FP.i2d (n))) (4636737291354636288))) (ty := .double) (C := RX7) (T := TX7) (N := 31) hx hb hts iX7_wave_X7 tyX7 tyX7_ok nmX7 hown hK hD hP hS 0 (((nN, px, py, pz, fx, fy, fz, lf, ld, fi), (nB, fr, tt, ln, wi, sg, pu), (nR, rd, rx, ry, (FP.ddiv (FP.dmul (FP.ddiv (h) (FP.dadd (pe) (FP.dconst1))) (FP.i2d (n))) (4636737291354636288)), fo), (re, dg), (nP, tp, bt, dp)), (nQ, fu)) rfl rfl 21 (by decide) f_129 (fun _ h9 => h9) rfl (by decide +kernel) rfl rfl (Nat.le_of_ble_eq_true rfl) rfl dX7_wave_50 (fun H locs hP hS => ?_)
          refine lv_aload_n hx hb dX7_wave_53 rfl (lv_at hl 0 rfl) ?_
          refine va_get (D := D) (ci := 7) (v := .int (nI nR)) (C := RX7) (T := TX7) (N := 31) hx hb hts iX7_wave_X7 hown hK hP 0 rfl rfl 17 (by decide) f_132 (fun _ h9 => h9) rfl dX7_wave_54 ?_
          exact hret hS hP dX7_wave_57 (⟨Or.inl ⟨⟨b_1, b_3, c_24_5, c_31_6⟩, rfl, rfl⟩, rfl⟩)
        · skip
          refine lv_iconst (v := (-1 : Int32)) hx hb dX7_wave_34 (by decide) ?_
          exact hret hS hP dX7_wave_35 (⟨Or.inr ⟨fun q => absurd q.2.2.2 c_31_6, rfl, rfl⟩, rfl⟩)
    · skip
      have b_3 : ¬ (inR (pe) (FP.dconst1) (4633641066610819072)) := b_3
      refine lv_if_eq (tgt := 34) hx hb dX7_wave_19 (by decide) (fun _ => ?_) (fun c_19_15 => absurd c_19_15 (by decide))
      refine lv_iconst (v := (-1 : Int32)) hx hb dX7_wave_34 (by decide) ?_
      exact hret hS hP dX7_wave_35 (⟨Or.inr ⟨fun q => absurd q.2.1 b_3, rfl, rfl⟩, rfl⟩)
  · skip
    have b_1 : ¬ (inR (h) (FP.dconst0) (4629137466983448576)) := b_1
    refine lv_if_eq (tgt := 34) hx hb dX7_wave_8 (by decide) (fun _ => ?_) (fun c_8_16 => absurd c_8_16 (by decide))
    refine lv_iconst (v := (-1 : Int32)) hx hb dX7_wave_34 (by decide) ?_
    exact hret hS hP dX7_wave_35 (⟨Or.inr ⟨fun q => absurd q.1 b_1, rfl, rfl⟩, rfl⟩)
theorem iX6_at_X3 : ∀ w ∈ u_ws RX3 TX3 6, w ∈ wsX6_at := by decide +kernel
theorem iX6_at_X6 : ∀ w ∈ u_ws RX6 TX6 6, w ∈ wsX6_at := by decide +kernel
set_option maxHeartbeats 4000000 in
set_option maxRecDepth 100000 in
theorem kX6_at (l : Launch) (D : va_G) (cs : Nat → ClassId) (ad : Nat → Nat) (hd : distX ad) (sz : Nat) (S : XS) (hnN : S.1.1.1 ≤ 30) (k x : Int32) : Met l yX6_at wsX6_at ({ frames := 1, cells := 0, slots := 0, locals := 21 } : Room) (gP D (WX cs ad) (EX D cs) S sz ([.ref (ad 0), .int (k), .int (x)] : List Value)) (va_Qd (fun r u => q_at S.1 k x r ∧ u = S) (gB D (WX cs ad)) (gA (AX ad) sz)) 0 0 (gA (AX ad) sz) := by
  obtain ⟨⟨⟨nN, px, py, pz, fx, fy, fz, lf, ld, fi⟩, ⟨nB, fr, tt, ln, wi, sg, pu⟩, ⟨nR, rd, rx, ry, wv, fo⟩, ⟨re, dg⟩, ⟨nP, tp, bt, dp⟩⟩, ⟨sp, ac, kp, kc, kn, aw, dw, su, ss, sd⟩⟩ := S
  have hnN : nN ≤ 30 := hnN
  refine gMd (cc := cX6_at) (maxL := 3) (plainFor_of_name (by decide)) rfl (Nat.le_of_ble_eq_true rfl) ?_
  intro p e s m below meth c Q hx hb hts hown hml hsz hE hret H locs hP hS ls hl
  subst hsz
  have hown : s.vm.findClass RX6 = some m.cls := hown
  have hK : va_K D vwCl (tysX cs) s := hE.1
  have hD : ∀ u, va_D (gA (AX ad) s.heap.size) (WX cs ad u) := fun u => WX_D hd u
  have hl : lv_has ls 3 [(0, .ref (ad 0)), (1, .int (k)), (2, .int (x))] := hl
  have f_10 := hts (.fieldLink RX6 10 "NetShapes" "nodes" "LNetShapes$Nodes;") (by decide +kernel)
  have f_129 := hts (.fieldLink RX6 129 "NetShapes$Nodes" "places" "[[D") (by decide +kernel)
  refine lv_aload_n hx hb dX6_at_0 rfl (lv_at hl 0 rfl) ?_
  refine va_get (D := D) (ci := 6) (v := .ref (ad 1)) (C := RX6) (T := TX6) (N := 6) hx hb hts iX6_at_X6 hown hK hP 0 rfl rfl 0 (by decide) f_10 (fun _ h9 => h9) rfl dX6_at_1 ?_
  refine lv_iload_n hx hb dX6_at_4 rfl (lv_at hl 1 rfl) ?_
  refine gci (va_runV (As := [.int (k)]) (rest := []) ⟨hx, hb, hml, hown, hts⟩ (kX3_has l D cs ad hd H.size (((nN, px, py, pz, fx, fy, fz, lf, ld, fi), (nB, fr, tt, ln, wi, sg, pu), (nR, rd, rx, ry, wv, fo), (re, dg), (nP, tp, bt, dp)), (sp, ac, kp, kc, kn, aw, dw, su, ss, sd)) hnN k) (cwV 1 hts gX6_at_X3_has rfl rfl rfl (by decide +kernel) ⟨Nat.le_of_ble_eq_true rfl, Nat.le_of_ble_eq_true rfl⟩) (gPreV (EX_bl) (va_recv hK hP (ci := 3) (q0 := 1) rfl rfl) hP (fun U _ hW => EX_warm hW hE)) rfl rfl hl.1 rfl (lv_room (Nat.le_of_ble_eq_true rfl)) dX6_at_5 ⟨Nat.zero_le _, Nat.zero_le _⟩) hS (fun r_ u_ H locs hw hP hS => ?_)
  obtain ⟨rfl, hw⟩ := hw
  rcases hw with ⟨rfl, b_1⟩ | ⟨rfl, b_1⟩
  · skip
    have b_1 : inN (nN) (k) := b_1
    refine lv_if_eq (tgt := 18) hx hb dX6_at_8 (by decide) (fun c_8_2 => absurd c_8_2 (by decide)) (fun _ => ?_)
    refine lv_iload_n hx hb dX6_at_11 rfl (lv_at hl 2 rfl) ?_
    refine g0i (va_runS (As := [.int (x)]) (rest := []) ⟨hx, hb, hml, hown, hts⟩ (kX6_isAxis l D H.size x) (va_cwS 1 hts gX6_at_X6_isAxis rfl rfl rfl (by decide +kernel) ⟨Nat.le_of_ble_eq_true rfl, Nat.le_of_ble_eq_true rfl⟩) (gPreS (eT_bl) w0_P (fun _ _ _ => trivial)) rfl rfl hl.1 rfl (lv_room (Nat.le_of_ble_eq_true rfl)) dX6_at_12 ⟨Nat.zero_le _, Nat.zero_le _⟩) hP hS (fun r_ H locs hw hP hS => ?_)
    rcases hw with ⟨rfl, b_3⟩ | ⟨rfl, b_3⟩
    · skip
      have b_3 : inN 3 (x) := b_3
      obtain ⟨j, hj, rfl⟩ := b_1
      obtain ⟨i, hi, rfl⟩ := b_3
      refine lv_if_ne (tgt := 20) hx hb dX6_at_15 (by decide) (fun _ => ?_) (fun c_15_4 => absurd c_15_4 (by decide))
      rcases (show i = 0 ∨ i = 1 ∨ i = 2 by omega) with rfl | rfl | rfl
      · skip
        refine lv_aload_n hx hb dX6_at_20 rfl (lv_at hl 0 rfl) ?_
        refine va_get (D := D) (ci := 6) (v := .ref (ad 1)) (C := RX6) (T := TX6) (N := 6) hx hb hts iX6_at_X6 hown hK hP 0 rfl rfl 0 (by decide) f_10 (fun _ h9 => h9) rfl dX6_at_21 ?_
        refine va_get (D := D) (ci := 3) (v := .ref (ad 7)) (C := RX3) (T := TX3) (N := 6) hx hb hts iX6_at_X3 hown hK hP 1 rfl rfl 0 (by decide) f_129 (fun _ h9 => h9) rfl dX6_at_24 ?_
        refine lv_iload_n hx hb dX6_at_27 rfl (lv_at hl 2 rfl) ?_
        refine xal hx hb hK hP 7 3 rfl rfl (j := 0) (v := ad 30) (by decide) (by decide) rfl dX6_at_28 ?_
        refine lv_iload_n hx hb dX6_at_29 rfl (lv_at hl 1 rfl) ?_
        refine xdl hx hb hK hP 30 0 rfl rfl (j := j) (by decide) (by omega) dX6_at_30 ?_
        exact hret hS hP dX6_at_31 (⟨Or.inl ⟨j, hj, rfl, Or.inl ⟨rfl, rfl⟩⟩, rfl⟩)
      · skip
        refine lv_aload_n hx hb dX6_at_20 rfl (lv_at hl 0 rfl) ?_
        refine va_get (D := D) (ci := 6) (v := .ref (ad 1)) (C := RX6) (T := TX6) (N := 6) hx hb hts iX6_at_X6 hown hK hP 0 rfl rfl 0 (by decide) f_10 (fun _ h9 => h9) rfl dX6_at_21 ?_
        refine va_get (D := D) (ci := 3) (v := .ref (ad 7)) (C := RX3) (T := TX3) (N := 6) hx hb hts iX6_at_X3 hown hK hP 1 rfl rfl 0 (by decide) f_129 (fun _ h9 => h9) rfl dX6_at_24 ?_
        refine lv_iload_n hx hb dX6_at_27 rfl (lv_at hl 2 rfl) ?_
        refine xal hx hb hK hP 7 3 rfl rfl (j := 1) (v := ad 31) (by decide) (by decide) rfl dX6_at_28 ?_
        refine lv_iload_n hx hb dX6_at_29 rfl (lv_at hl 1 rfl) ?_
        refine xdl hx hb hK hP 31 0 rfl rfl (j := j) (by decide) (by omega) dX6_at_30 ?_
        exact hret hS hP dX6_at_31 (⟨Or.inl ⟨j, hj, rfl, Or.inr (Or.inl ⟨rfl, rfl⟩)⟩, rfl⟩)
      · skip
        refine lv_aload_n hx hb dX6_at_20 rfl (lv_at hl 0 rfl) ?_
        refine va_get (D := D) (ci := 6) (v := .ref (ad 1)) (C := RX6) (T := TX6) (N := 6) hx hb hts iX6_at_X6 hown hK hP 0 rfl rfl 0 (by decide) f_10 (fun _ h9 => h9) rfl dX6_at_21 ?_
        refine va_get (D := D) (ci := 3) (v := .ref (ad 7)) (C := RX3) (T := TX3) (N := 6) hx hb hts iX6_at_X3 hown hK hP 1 rfl rfl 0 (by decide) f_129 (fun _ h9 => h9) rfl dX6_at_24 ?_
        refine lv_iload_n hx hb dX6_at_27 rfl (lv_at hl 2 rfl) ?_
        refine xal hx hb hK hP 7 3 rfl rfl (j := 2) (v := ad 32) (by decide) (by decide) rfl dX6_at_28 ?_
        refine lv_iload_n hx hb dX6_at_29 rfl (lv_at hl 1 rfl) ?_
        refine xdl hx hb hK hP 32 0 rfl rfl (j := j) (by decide) (by omega) dX6_at_30 ?_
        exact hret hS hP dX6_at_31 (⟨Or.inl ⟨j, hj, rfl, Or.inr (Or.inr ⟨rfl, rfl⟩)⟩, rfl⟩)
    · skip
      have b_3 : ¬ (inN 3 (x)) := b_3
      refine lv_if_ne (tgt := 20) hx hb dX6_at_15 (by decide) (fun c_15_5 => absurd c_15_5 (by decide)) (fun _ => ?_)
      refine lv_dconst0 hx hb dX6_at_18 ?_
      exact hret hS hP dX6_at_19 (⟨Or.inr ⟨fun q => absurd q.2 b_3, rfl⟩, rfl⟩)
  · skip
    have b_1 : ¬ (inN (nN) (k)) := b_1
    refine lv_if_eq (tgt := 18) hx hb dX6_at_8 (by decide) (fun _ => ?_) (fun c_8_6 => absurd c_8_6 (by decide))
    refine lv_dconst0 hx hb dX6_at_18 ?_
    exact hret hS hP dX6_at_19 (⟨Or.inr ⟨fun q => absurd q.1 b_1, rfl⟩, rfl⟩)
theorem iX7_at_X7 : ∀ w ∈ u_ws RX7 TX7 31, w ∈ wsX7_at := by decide +kernel
set_option maxHeartbeats 4000000 in
set_option maxRecDepth 100000 in
theorem kX7_at (l : Launch) (D : va_G) (cs : Nat → ClassId) (ad : Nat → Nat) (hd : distM ad) (sz : Nat) (S : MS) (hnN : S.1.1.1 ≤ 30) (k x : Int32) : Met l yX7_at wsX7_at ({ frames := 1, cells := 0, slots := 0, locals := 21 } : Room) (gP D (WM cs ad) (EM D cs) S sz ([.ref (ad 0), .int (k), .int (x)] : List Value)) (va_Qd (fun r u => q_at S.1 k x r ∧ u = S) (gB D (WM cs ad)) (gA (AM ad) sz)) 0 0 (gA (AM ad) sz) := by
  obtain ⟨⟨⟨nN, px, py, pz, fx, fy, fz, lf, ld, fi⟩, ⟨nB, fr, tt, ln, wi, sg, pu⟩, ⟨nR, rd, rx, ry, wv, fo⟩, ⟨re, dg⟩, ⟨nP, tp, bt, dp⟩⟩, ⟨nQ, fu⟩⟩ := S
  have hnN : nN ≤ 30 := hnN
  refine gMd (cc := cX7_at) (maxL := 3) (plainFor_of_name (by decide)) rfl (Nat.le_of_ble_eq_true rfl) ?_
  intro p e s m below meth c Q hx hb hts hown hml hsz hE hret H locs hP hS ls hl
  subst hsz
  have hown : s.vm.findClass RX7 = some m.cls := hown
  have hK : va_K D vwCl (tysX cs) s := hE.1
  have hD : ∀ u, va_D (gA (AM ad) s.heap.size) (WM cs ad u) := fun u => WM_D hd u
  have hl : lv_has ls 3 [(0, .ref (ad 0)), (1, .int (k)), (2, .int (x))] := hl
  have f_7 := hts (.fieldLink RX7 7 "NetShapesModel" "x" "[D") (by decide +kernel)
  have f_13 := hts (.fieldLink RX7 13 "NetShapesModel" "y" "[D") (by decide +kernel)
  have f_16 := hts (.fieldLink RX7 16 "NetShapesModel" "z" "[D") (by decide +kernel)
  refine lv_aload_n hx hb dX7_at_0 rfl (lv_at hl 0 rfl) ?_
  refine lv_iload_n hx hb dX7_at_1 rfl (lv_at hl 1 rfl) ?_
  refine gci (va_runV (As := [.int (k)]) (rest := []) ⟨hx, hb, hml, hown, hts⟩ (kX7_isNode l D cs ad hd H.size (((nN, px, py, pz, fx, fy, fz, lf, ld, fi), (nB, fr, tt, ln, wi, sg, pu), (nR, rd, rx, ry, wv, fo), (re, dg), (nP, tp, bt, dp)), (nQ, fu)) hnN k) (cwV 1 hts gX7_at_X7_isNode rfl rfl rfl (by decide +kernel) ⟨Nat.le_of_ble_eq_true rfl, Nat.le_of_ble_eq_true rfl⟩) (gPreV (EM_bl) (va_recv hK hP (ci := 7) (q0 := 0) rfl rfl) hP (fun U _ hW => EM_warm hW hE)) rfl rfl hl.1 rfl (lv_room (Nat.le_of_ble_eq_true rfl)) dX7_at_2 ⟨Nat.zero_le _, Nat.zero_le _⟩) hS (fun r_ u_ H locs hw hP hS => ?_)
  obtain ⟨rfl, hw⟩ := hw
  rcases hw with ⟨rfl, b_1⟩ | ⟨rfl, b_1⟩
  · skip
    have b_1 : inN (nN) (k) := b_1
    obtain ⟨j, hj, rfl⟩ := b_1
    refine lv_if_ne (tgt := 12) hx hb dX7_at_5 (by decide) (fun _ => ?_) (fun c_5_2 => absurd c_5_2 (by decide))
    refine lv_iload_n hx hb dX7_at_12 rfl (lv_at hl 2 rfl) ?_
    refine lv_if_ne (tgt := 25) hx hb dX7_at_13 (by decide) (fun c_13_3 => ?_) (fun c_13_3 => ?_)
    · skip
      refine lv_iload_n hx hb dX7_at_25 rfl (lv_at hl 2 rfl) ?_
      refine lv_iconst (v := nI 1) hx hb dX7_at_26 (by decide) ?_
      refine lv_icmp_ne (tgt := 39) hx hb dX7_at_27 (by decide) (fun c_27_4 => ?_) (fun c_27_4 => ?_)
      · skip
        refine lv_iload_n hx hb dX7_at_39 rfl (lv_at hl 2 rfl) ?_
        refine lv_iconst (v := nI 2) hx hb dX7_at_40 (by decide) ?_
        refine lv_icmp_ne (tgt := 53) hx hb dX7_at_41 (by decide) (fun c_41_5 => ?_) (fun c_41_5 => ?_)
        · skip
          refine lv_dconst0 hx hb dX7_at_53 ?_
          exact hret hS hP dX7_at_54 (⟨Or.inr ⟨fun q => ax_no c_13_3 c_27_4 c_41_5 q.2, rfl⟩, rfl⟩)
        · skip
          refine lv_aload_n hx hb dX7_at_44 rfl (lv_at hl 0 rfl) ?_
          refine va_get (D := D) (ci := 7) (v := .ref (ad 3)) (C := RX7) (T := TX7) (N := 31) hx hb hts iX7_at_X7 hown hK hP 0 rfl rfl 3 (by decide) f_16 (fun _ h9 => h9) rfl dX7_at_45 ?_
          refine lv_iload_n hx hb dX7_at_48 rfl (lv_at hl 1 rfl) ?_
          refine xdl hx hb hK hP 3 0 rfl rfl (j := j) (by decide) (by omega) dX7_at_49 ?_
          refine lv_goto (tgt := 54) hx hb dX7_at_50 (by decide) ?_
          exact hret hS hP dX7_at_54 (⟨Or.inl ⟨j, hj, rfl, Or.inr (Or.inr ⟨c_41_5, rfl⟩)⟩, rfl⟩)
      · skip
        refine lv_aload_n hx hb dX7_at_30 rfl (lv_at hl 0 rfl) ?_
        refine va_get (D := D) (ci := 7) (v := .ref (ad 2)) (C := RX7) (T := TX7) (N := 31) hx hb hts iX7_at_X7 hown hK hP 0 rfl rfl 2 (by decide) f_13 (fun _ h9 => h9) rfl dX7_at_31 ?_
        refine lv_iload_n hx hb dX7_at_34 rfl (lv_at hl 1 rfl) ?_
        refine xdl hx hb hK hP 2 0 rfl rfl (j := j) (by decide) (by omega) dX7_at_35 ?_
        refine lv_goto (tgt := 54) hx hb dX7_at_36 (by decide) ?_
        exact hret hS hP dX7_at_54 (⟨Or.inl ⟨j, hj, rfl, Or.inr (Or.inl ⟨c_27_4, rfl⟩)⟩, rfl⟩)
    · skip
      refine lv_aload_n hx hb dX7_at_16 rfl (lv_at hl 0 rfl) ?_
      refine va_get (D := D) (ci := 7) (v := .ref (ad 1)) (C := RX7) (T := TX7) (N := 31) hx hb hts iX7_at_X7 hown hK hP 0 rfl rfl 1 (by decide) f_7 (fun _ h9 => h9) rfl dX7_at_17 ?_
      refine lv_iload_n hx hb dX7_at_20 rfl (lv_at hl 1 rfl) ?_
      refine xdl hx hb hK hP 1 0 rfl rfl (j := j) (by decide) (by omega) dX7_at_21 ?_
      refine lv_goto (tgt := 54) hx hb dX7_at_22 (by decide) ?_
      exact hret hS hP dX7_at_54 (⟨Or.inl ⟨j, hj, rfl, Or.inl ⟨c_13_3, rfl⟩⟩, rfl⟩)
  · skip
    have b_1 : ¬ (inN (nN) (k)) := b_1
    refine lv_if_ne (tgt := 12) hx hb dX7_at_5 (by decide) (fun c_5_6 => absurd c_5_6 (by decide)) (fun _ => ?_)
    refine lv_dconst0 hx hb dX7_at_8 ?_
    refine lv_goto (tgt := 54) hx hb dX7_at_9 (by decide) ?_
    exact hret hS hP dX7_at_54 (⟨Or.inr ⟨fun q => absurd q.1 b_1, rfl⟩, rfl⟩)
theorem iX6_pull_X1 : ∀ w ∈ u_ws RX1 TX1 7, w ∈ wsX6_pull := by decide +kernel
theorem iX6_pull_X6 : ∀ w ∈ u_ws RX6 TX6 6, w ∈ wsX6_pull := by decide +kernel
set_option maxHeartbeats 4000000 in
set_option maxRecDepth 100000 in
theorem kX6_pull (l : Launch) (D : va_G) (cs : Nat → ClassId) (ad : Nat → Nat) (hd : distX ad) (sz : Nat) (S : XS) (hnB : S.1.2.1.1 ≤ 60) (k : Int32) : Met l yX6_pull wsX6_pull ({ frames := 1, cells := 0, slots := 0, locals := 21 } : Room) (gP D (WX cs ad) (EX D cs) S sz ([.ref (ad 0), .int (k)] : List Value)) (va_Qd (fun r u => q_pull S.1 k r ∧ u = S) (gB D (WX cs ad)) (gA (AX ad) sz)) 0 0 (gA (AX ad) sz) := by
  obtain ⟨⟨⟨nN, px, py, pz, fx, fy, fz, lf, ld, fi⟩, ⟨nB, fr, tt, ln, wi, sg, pu⟩, ⟨nR, rd, rx, ry, wv, fo⟩, ⟨re, dg⟩, ⟨nP, tp, bt, dp⟩⟩, ⟨sp, ac, kp, kc, kn, aw, dw, su, ss, sd⟩⟩ := S
  have hnB : nB ≤ 60 := hnB
  refine gMd (cc := cX6_pull) (maxL := 2) (plainFor_of_name (by decide)) rfl (Nat.le_of_ble_eq_true rfl) ?_
  intro p e s m below meth c Q hx hb hts hown hml hsz hE hret H locs hP hS ls hl
  subst hsz
  have hown : s.vm.findClass RX6 = some m.cls := hown
  have hK : va_K D vwCl (tysX cs) s := hE.1
  have hD : ∀ u, va_D (gA (AX ad) s.heap.size) (WX cs ad u) := fun u => WX_D hd u
  have hl : lv_has ls 2 [(0, .ref (ad 0)), (1, .int (k))] := hl
  have c_137 := hts (.constantDouble RX6 137 13830554455654793216) (by decide +kernel)
  have f_19 := hts (.fieldLink RX6 19 "NetShapes" "bars" "LNetShapes$Bars;") (by decide +kernel)
  have f_134 := hts (.fieldLink RX6 134 "NetShapes$Bars" "pulls" "[D") (by decide +kernel)
  refine lv_aload_n hx hb dX6_pull_0 rfl (lv_at hl 0 rfl) ?_
  refine va_get (D := D) (ci := 6) (v := .ref (ad 2)) (C := RX6) (T := TX6) (N := 6) hx hb hts iX6_pull_X6 hown hK hP 0 rfl rfl 1 (by decide) f_19 (fun _ h9 => h9) rfl dX6_pull_1 ?_
  refine lv_iload_n hx hb dX6_pull_4 rfl (lv_at hl 1 rfl) ?_
  refine gci (va_runV (As := [.int (k)]) (rest := []) ⟨hx, hb, hml, hown, hts⟩ (kX1_has l D cs ad hd H.size (((nN, px, py, pz, fx, fy, fz, lf, ld, fi), (nB, fr, tt, ln, wi, sg, pu), (nR, rd, rx, ry, wv, fo), (re, dg), (nP, tp, bt, dp)), (sp, ac, kp, kc, kn, aw, dw, su, ss, sd)) hnB k) (cwV 1 hts gX6_pull_X1_has rfl rfl rfl (by decide +kernel) ⟨Nat.le_of_ble_eq_true rfl, Nat.le_of_ble_eq_true rfl⟩) (gPreV (EX_bl) (va_recv hK hP (ci := 1) (q0 := 2) rfl rfl) hP (fun U _ hW => EX_warm hW hE)) rfl rfl hl.1 rfl (lv_room (Nat.le_of_ble_eq_true rfl)) dX6_pull_5 ⟨Nat.zero_le _, Nat.zero_le _⟩) hS (fun r_ u_ H locs hw hP hS => ?_)
  obtain ⟨rfl, hw⟩ := hw
  rcases hw with ⟨rfl, b_1⟩ | ⟨rfl, b_1⟩
  · skip
    have b_1 : inN (nB) (k) := b_1
    obtain ⟨j, hj, rfl⟩ := b_1
    refine lv_if_eq (tgt := 23) hx hb dX6_pull_8 (by decide) (fun c_8_2 => absurd c_8_2 (by decide)) (fun _ => ?_)
    refine lv_aload_n hx hb dX6_pull_11 rfl (lv_at hl 0 rfl) ?_
    refine va_get (D := D) (ci := 6) (v := .ref (ad 2)) (C := RX6) (T := TX6) (N := 6) hx hb hts iX6_pull_X6 hown hK hP 0 rfl rfl 1 (by decide) f_19 (fun _ h9 => h9) rfl dX6_pull_12 ?_
    refine va_get (D := D) (ci := 1) (v := .ref (ad 17)) (C := RX1) (T := TX1) (N := 7) hx hb hts iX6_pull_X1 hown hK hP 2 rfl rfl 5 (by decide) f_134 (fun _ h9 => h9) rfl dX6_pull_15 ?_
    refine lv_iload_n hx hb dX6_pull_18 rfl (lv_at hl 1 rfl) ?_
    refine xdl hx hb hK hP 17 0 rfl rfl (j := j) (by decide) (by omega) dX6_pull_19 ?_
    refine lv_goto (tgt := 26) hx hb dX6_pull_20 (by decide) ?_
    exact hret hS hP dX6_pull_26 (⟨Or.inl ⟨j, hj, rfl, rfl⟩, rfl⟩)
  · skip
    have b_1 : ¬ (inN (nB) (k)) := b_1
    refine lv_if_eq (tgt := 23) hx hb dX6_pull_8 (by decide) (fun _ => ?_) (fun c_8_3 => absurd c_8_3 (by decide))
    refine lv_ldc2d hx hb hown c_137 dX6_pull_23 ?_
    exact hret hS hP dX6_pull_26 (⟨Or.inr ⟨b_1, rfl⟩, rfl⟩)
theorem iX7_pull_X7 : ∀ w ∈ u_ws RX7 TX7 31, w ∈ wsX7_pull := by decide +kernel
set_option maxHeartbeats 4000000 in
set_option maxRecDepth 100000 in
theorem kX7_pull (l : Launch) (D : va_G) (cs : Nat → ClassId) (ad : Nat → Nat) (hd : distM ad) (sz : Nat) (S : MS) (hnB : S.1.2.1.1 ≤ 60) (k : Int32) : Met l yX7_pull wsX7_pull ({ frames := 0, cells := 0, slots := 0, locals := 0 } : Room) (gP D (WM cs ad) (EM D cs) S sz ([.ref (ad 0), .int (k)] : List Value)) (va_Qd (fun r u => q_pull S.1 k r ∧ u = S) (gB D (WM cs ad)) (gA (AM ad) sz)) 0 0 (gA (AM ad) sz) := by
  obtain ⟨⟨⟨nN, px, py, pz, fx, fy, fz, lf, ld, fi⟩, ⟨nB, fr, tt, ln, wi, sg, pu⟩, ⟨nR, rd, rx, ry, wv, fo⟩, ⟨re, dg⟩, ⟨nP, tp, bt, dp⟩⟩, ⟨nQ, fu⟩⟩ := S
  have hnB : nB ≤ 60 := hnB
  refine gMd (cc := cX7_pull) (maxL := 2) (plainFor_of_name (by decide)) rfl (Nat.le_of_ble_eq_true rfl) ?_
  intro p e s m below meth c Q hx hb hts hown hml hsz hE hret H locs hP hS ls hl
  subst hsz
  have hown : s.vm.findClass RX7 = some m.cls := hown
  have hK : va_K D vwCl (tysX cs) s := hE.1
  have hD : ∀ u, va_D (gA (AM ad) s.heap.size) (WM cs ad u) := fun u => WM_D hd u
  have hl : lv_has ls 2 [(0, .ref (ad 0)), (1, .int (k))] := hl
  have c_66 := hts (.constantDouble RX7 66 13830554455654793216) (by decide +kernel)
  have f_54 := hts (.fieldLink RX7 54 "NetShapesModel" "pulls" "[D") (by decide +kernel)
  have f_105 := hts (.fieldLink RX7 105 "NetShapesModel" "bars" "I") (by decide +kernel)
  refine lv_iload_n hx hb dX7_pull_0 rfl (lv_at hl 1 rfl) ?_
  refine lv_if_lt (tgt := 12) hx hb dX7_pull_1 (by decide) (fun c_1_1 => ?_) (fun c_1_1 => ?_)
  · skip
    refine lv_ldc2d hx hb hown c_66 dX7_pull_12 ?_
    refine lv_goto (tgt := 24) hx hb dX7_pull_15 (by decide) ?_
    exact hret hS hP dX7_pull_24 (⟨Or.inr ⟨inN_neg (by omega) c_1_1, rfl⟩, rfl⟩)
  · skip
    refine lv_iload_n hx hb dX7_pull_4 rfl (lv_at hl 1 rfl) ?_
    refine lv_aload_n hx hb dX7_pull_5 rfl (lv_at hl 0 rfl) ?_
    refine va_get (D := D) (ci := 7) (v := .int (nI nB)) (C := RX7) (T := TX7) (N := 31) hx hb hts iX7_pull_X7 hown hK hP 0 rfl rfl 10 (by decide) f_105 (fun _ h9 => h9) rfl dX7_pull_6 ?_
    refine lv_icmp_lt (tgt := 18) hx hb dX7_pull_9 (by decide) (fun c_9_2 => ?_) (fun c_9_2 => ?_)
    · skip
      obtain ⟨j, hj, rfl⟩ := inN_lt (by omega) c_1_1 c_9_2
      refine lv_aload_n hx hb dX7_pull_18 rfl (lv_at hl 0 rfl) ?_
      refine va_get (D := D) (ci := 7) (v := .ref (ad 15)) (C := RX7) (T := TX7) (N := 31) hx hb hts iX7_pull_X7 hown hK hP 0 rfl rfl 16 (by decide) f_54 (fun _ h9 => h9) rfl dX7_pull_19 ?_
      refine lv_iload_n hx hb dX7_pull_22 rfl (lv_at hl 1 rfl) ?_
      refine xdl hx hb hK hP 15 0 rfl rfl (j := j) (by decide) (by omega) dX7_pull_23 ?_
      exact hret hS hP dX7_pull_24 (⟨Or.inl ⟨j, hj, rfl, rfl⟩, rfl⟩)
    · skip
      refine lv_ldc2d hx hb hown c_66 dX7_pull_12 ?_
      refine lv_goto (tgt := 24) hx hb dX7_pull_15 (by decide) ?_
      exact hret hS hP dX7_pull_24 (⟨Or.inr ⟨inN_nlt (by omega) c_9_2, rfl⟩, rfl⟩)
theorem iX6_drag_X0 : ∀ w ∈ u_ws RX0 TX0 7, w ∈ wsX6_drag := by decide +kernel
theorem iX6_drag_X6 : ∀ w ∈ u_ws RX6 TX6 6, w ∈ wsX6_drag := by decide +kernel
set_option maxHeartbeats 4000000 in
set_option maxRecDepth 100000 in
theorem kX6_drag (l : Launch) (D : va_G) (cs : Nat → ClassId) (ad : Nat → Nat) (hd : distX ad) (sz : Nat) (S : XS) (x : Int32) : Met l yX6_drag wsX6_drag ({ frames := 1, cells := 0, slots := 0, locals := 20 } : Room) (gP D (WX cs ad) (EX D cs) S sz ([.ref (ad 0), .int (x)] : List Value)) (va_Qd (fun r u => q_drag S.1 x r ∧ u = S) (gB D (WX cs ad)) (gA (AX ad) sz)) 0 0 (gA (AX ad) sz) := by
  obtain ⟨⟨⟨nN, px, py, pz, fx, fy, fz, lf, ld, fi⟩, ⟨nB, fr, tt, ln, wi, sg, pu⟩, ⟨nR, rd, rx, ry, wv, fo⟩, ⟨re, dg⟩, ⟨nP, tp, bt, dp⟩⟩, ⟨sp, ac, kp, kc, kn, aw, dw, su, ss, sd⟩⟩ := S
  refine gMd (cc := cX6_drag) (maxL := 2) (plainFor_of_name (by decide)) rfl (Nat.le_of_ble_eq_true rfl) ?_
  intro p e s m below meth c Q hx hb hts hown hml hsz hE hret H locs hP hS ls hl
  subst hsz
  have hown : s.vm.findClass RX6 = some m.cls := hown
  have hK : va_K D vwCl (tysX cs) s := hE.1
  have hD : ∀ u, va_D (gA (AX ad) s.heap.size) (WX cs ad u) := fun u => WX_D hd u
  have hl : lv_has ls 2 [(0, .ref (ad 0)), (1, .int (x))] := hl
  have f_35 := hts (.fieldLink RX6 35 "NetShapes" "balance" "LNetShapes$Balance;") (by decide +kernel)
  have f_112 := hts (.fieldLink RX6 112 "NetShapes$Balance" "drags" "[D") (by decide +kernel)
  refine lv_iload_n hx hb dX6_drag_0 rfl (lv_at hl 1 rfl) ?_
  refine g0i (va_runS (As := [.int (x)]) (rest := []) ⟨hx, hb, hml, hown, hts⟩ (kX6_isAxis l D H.size x) (va_cwS 1 hts gX6_drag_X6_isAxis rfl rfl rfl (by decide +kernel) ⟨Nat.le_of_ble_eq_true rfl, Nat.le_of_ble_eq_true rfl⟩) (gPreS (eT_bl) w0_P (fun _ _ _ => trivial)) rfl rfl hl.1 rfl (lv_room (Nat.le_of_ble_eq_true rfl)) dX6_drag_1 ⟨Nat.zero_le _, Nat.zero_le _⟩) hP hS (fun r_ H locs hw hP hS => ?_)
  rcases hw with ⟨rfl, b_1⟩ | ⟨rfl, b_1⟩
  · skip
    have b_1 : inN 3 (x) := b_1
    obtain ⟨j, hj, rfl⟩ := b_1
    refine lv_if_eq (tgt := 19) hx hb dX6_drag_4 (by decide) (fun c_4_2 => absurd c_4_2 (by decide)) (fun _ => ?_)
    refine lv_aload_n hx hb dX6_drag_7 rfl (lv_at hl 0 rfl) ?_
    refine va_get (D := D) (ci := 6) (v := .ref (ad 4)) (C := RX6) (T := TX6) (N := 6) hx hb hts iX6_drag_X6 hown hK hP 0 rfl rfl 3 (by decide) f_35 (fun _ h9 => h9) rfl dX6_drag_8 ?_
    refine va_get (D := D) (ci := 0) (v := .ref (ad 21)) (C := RX0) (T := TX0) (N := 7) hx hb hts iX6_drag_X0 hown hK hP 4 rfl rfl 3 (by decide) f_112 (fun _ h9 => h9) rfl dX6_drag_11 ?_
    refine lv_iload_n hx hb dX6_drag_14 rfl (lv_at hl 1 rfl) ?_
    refine xdl hx hb hK hP 21 0 rfl rfl (j := j) (by decide) (by omega) dX6_drag_15 ?_
    refine lv_goto (tgt := 20) hx hb dX6_drag_16 (by decide) ?_
    exact hret hS hP dX6_drag_20 (⟨Or.inl ⟨j, hj, rfl, rfl⟩, rfl⟩)
  · skip
    have b_1 : ¬ (inN 3 (x)) := b_1
    refine lv_if_eq (tgt := 19) hx hb dX6_drag_4 (by decide) (fun _ => ?_) (fun c_4_3 => absurd c_4_3 (by decide))
    refine lv_dconst0 hx hb dX6_drag_19 ?_
    exact hret hS hP dX6_drag_20 (⟨Or.inr ⟨b_1, rfl⟩, rfl⟩)
theorem iX7_drag_X7 : ∀ w ∈ u_ws RX7 TX7 31, w ∈ wsX7_drag := by decide +kernel
set_option maxHeartbeats 4000000 in
set_option maxRecDepth 100000 in
theorem kX7_drag (l : Launch) (D : va_G) (cs : Nat → ClassId) (ad : Nat → Nat) (hd : distM ad) (sz : Nat) (S : MS) (x : Int32) : Met l yX7_drag wsX7_drag ({ frames := 0, cells := 0, slots := 0, locals := 0 } : Room) (gP D (WM cs ad) (EM D cs) S sz ([.ref (ad 0), .int (x)] : List Value)) (va_Qd (fun r u => q_drag S.1 x r ∧ u = S) (gB D (WM cs ad)) (gA (AM ad) sz)) 0 0 (gA (AM ad) sz) := by
  obtain ⟨⟨⟨nN, px, py, pz, fx, fy, fz, lf, ld, fi⟩, ⟨nB, fr, tt, ln, wi, sg, pu⟩, ⟨nR, rd, rx, ry, wv, fo⟩, ⟨re, dg⟩, ⟨nP, tp, bt, dp⟩⟩, ⟨nQ, fu⟩⟩ := S
  refine gMd (cc := cX7_drag) (maxL := 2) (plainFor_of_name (by decide)) rfl (Nat.le_of_ble_eq_true rfl) ?_
  intro p e s m below meth c Q hx hb hts hown hml hsz hE hret H locs hP hS ls hl
  subst hsz
  have hown : s.vm.findClass RX7 = some m.cls := hown
  have hK : va_K D vwCl (tysX cs) s := hE.1
  have hD : ∀ u, va_D (gA (AM ad) s.heap.size) (WM cs ad u) := fun u => WM_D hd u
  have hl : lv_has ls 2 [(0, .ref (ad 0)), (1, .int (x))] := hl
  have f_72 := hts (.fieldLink RX7 72 "NetShapesModel" "drags" "[D") (by decide +kernel)
  refine lv_iload_n hx hb dX7_drag_0 rfl (lv_at hl 1 rfl) ?_
  refine lv_if_lt (tgt := 9) hx hb dX7_drag_1 (by decide) (fun c_1_1 => ?_) (fun c_1_1 => ?_)
  · skip
    refine lv_dconst0 hx hb dX7_drag_9 ?_
    refine lv_goto (tgt := 19) hx hb dX7_drag_10 (by decide) ?_
    exact hret hS hP dX7_drag_19 (⟨Or.inr ⟨inN_neg (by decide) c_1_1, rfl⟩, rfl⟩)
  · skip
    refine lv_iload_n hx hb dX7_drag_4 rfl (lv_at hl 1 rfl) ?_
    refine lv_iconst (v := nI 2) hx hb dX7_drag_5 (by decide) ?_
    refine lv_icmp_le (tgt := 13) hx hb dX7_drag_6 (by decide) (fun c_6_2 => ?_) (fun c_6_2 => ?_)
    · skip
      obtain ⟨j, hj, rfl⟩ := inN_le (n := 2) (by decide) c_1_1 c_6_2
      refine lv_aload_n hx hb dX7_drag_13 rfl (lv_at hl 0 rfl) ?_
      refine va_get (D := D) (ci := 7) (v := .ref (ad 19)) (C := RX7) (T := TX7) (N := 31) hx hb hts iX7_drag_X7 hown hK hP 0 rfl rfl 24 (by decide) f_72 (fun _ h9 => h9) rfl dX7_drag_14 ?_
      refine lv_iload_n hx hb dX7_drag_17 rfl (lv_at hl 1 rfl) ?_
      refine xdl hx hb hK hP 19 0 rfl rfl (j := j) (by decide) (by omega) dX7_drag_18 ?_
      exact hret hS hP dX7_drag_19 (⟨Or.inl ⟨j, hj, rfl, rfl⟩, rfl⟩)
    · skip
      refine lv_dconst0 hx hb dX7_drag_9 ?_
      refine lv_goto (tgt := 19) hx hb dX7_drag_10 (by decide) ?_
      exact hret hS hP dX7_drag_19 (⟨Or.inr ⟨inN_nle (by decide) c_6_2, rfl⟩, rfl⟩)
theorem iX6_residual_X0 : ∀ w ∈ u_ws RX0 TX0 7, w ∈ wsX6_residual := by decide +kernel
theorem iX6_residual_X6 : ∀ w ∈ u_ws RX6 TX6 6, w ∈ wsX6_residual := by decide +kernel
set_option maxHeartbeats 4000000 in
set_option maxRecDepth 100000 in
theorem kX6_residual (l : Launch) (D : va_G) (cs : Nat → ClassId) (ad : Nat → Nat) (hd : distX ad) (sz : Nat) (S : XS)  : Met l yX6_residual wsX6_residual ({ frames := 0, cells := 0, slots := 0, locals := 0 } : Room) (gP D (WX cs ad) (EX D cs) S sz ([.ref (ad 0)] : List Value)) (va_Qd (fun r u => r = S.1.2.2.2.1.1 ∧ u = S) (gB D (WX cs ad)) (gA (AX ad) sz)) 0 0 (gA (AX ad) sz) := by
  obtain ⟨⟨⟨nN, px, py, pz, fx, fy, fz, lf, ld, fi⟩, ⟨nB, fr, tt, ln, wi, sg, pu⟩, ⟨nR, rd, rx, ry, wv, fo⟩, ⟨re, dg⟩, ⟨nP, tp, bt, dp⟩⟩, ⟨sp, ac, kp, kc, kn, aw, dw, su, ss, sd⟩⟩ := S
  refine gMd (cc := cX6_residual) (maxL := 1) (plainFor_of_name (by decide)) rfl (Nat.le_of_ble_eq_true rfl) ?_
  intro p e s m below meth c Q hx hb hts hown hml hsz hE hret H locs hP hS ls hl
  subst hsz
  have hown : s.vm.findClass RX6 = some m.cls := hown
  have hK : va_K D vwCl (tysX cs) s := hE.1
  have hD : ∀ u, va_D (gA (AX ad) s.heap.size) (WX cs ad u) := fun u => WX_D hd u
  have hl : lv_has ls 1 [(0, .ref (ad 0))] := hl
  have f_35 := hts (.fieldLink RX6 35 "NetShapes" "balance" "LNetShapes$Balance;") (by decide +kernel)
  have f_139 := hts (.fieldLink RX6 139 "NetShapes$Balance" "greatestForce" "D") (by decide +kernel)
  refine lv_aload_n hx hb dX6_residual_0 rfl (lv_at hl 0 rfl) ?_
  refine va_get (D := D) (ci := 6) (v := .ref (ad 4)) (C := RX6) (T := TX6) (N := 6) hx hb hts iX6_residual_X6 hown hK hP 0 rfl rfl 3 (by decide) f_35 (fun _ h9 => h9) rfl dX6_residual_1 ?_
  refine va_get (D := D) (ci := 0) (v := .double (re)) (C := RX0) (T := TX0) (N := 7) hx hb hts iX6_residual_X0 hown hK hP 4 rfl rfl 4 (by decide) f_139 (fun _ h9 => h9) rfl dX6_residual_4 ?_
  exact hret hS hP dX6_residual_7 (⟨rfl, rfl⟩)
theorem iX7_residual_X7 : ∀ w ∈ u_ws RX7 TX7 31, w ∈ wsX7_residual := by decide +kernel
set_option maxHeartbeats 4000000 in
set_option maxRecDepth 100000 in
theorem kX7_residual (l : Launch) (D : va_G) (cs : Nat → ClassId) (ad : Nat → Nat) (hd : distM ad) (sz : Nat) (S : MS)  : Met l yX7_residual wsX7_residual ({ frames := 0, cells := 0, slots := 0, locals := 0 } : Room) (gP D (WM cs ad) (EM D cs) S sz ([.ref (ad 0)] : List Value)) (va_Qd (fun r u => r = S.1.2.2.2.1.1 ∧ u = S) (gB D (WM cs ad)) (gA (AM ad) sz)) 0 0 (gA (AM ad) sz) := by
  obtain ⟨⟨⟨nN, px, py, pz, fx, fy, fz, lf, ld, fi⟩, ⟨nB, fr, tt, ln, wi, sg, pu⟩, ⟨nR, rd, rx, ry, wv, fo⟩, ⟨re, dg⟩, ⟨nP, tp, bt, dp⟩⟩, ⟨nQ, fu⟩⟩ := S
  refine gMd (cc := cX7_residual) (maxL := 1) (plainFor_of_name (by decide)) rfl (Nat.le_of_ble_eq_true rfl) ?_
  intro p e s m below meth c Q hx hb hts hown hml hsz hE hret H locs hP hS ls hl
  subst hsz
  have hown : s.vm.findClass RX7 = some m.cls := hown
  have hK : va_K D vwCl (tysX cs) s := hE.1
  have hD : ∀ u, va_D (gA (AM ad) s.heap.size) (WM cs ad u) := fun u => WM_D hd u
  have hl : lv_has ls 1 [(0, .ref (ad 0))] := hl
  have f_68 := hts (.fieldLink RX7 68 "NetShapesModel" "residual" "D") (by decide +kernel)
  refine lv_aload_n hx hb dX7_residual_0 rfl (lv_at hl 0 rfl) ?_
  refine va_get (D := D) (ci := 7) (v := .double (re)) (C := RX7) (T := TX7) (N := 31) hx hb hts iX7_residual_X7 hown hK hP 0 rfl rfl 23 (by decide) f_68 (fun _ h9 => h9) rfl dX7_residual_1 ?_
  exact hret hS hP dX7_residual_4 (⟨rfl, rfl⟩)
