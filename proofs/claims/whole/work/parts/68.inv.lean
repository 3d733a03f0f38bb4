/-! answers are one; what a shape keeps to, kept by every call -/
theorem q_at_det {G : GS} {k : Int32} {x : Int32} {r1 r2 : UInt64} (hN : G.1.1 ≤ 30) (h1 : q_at G k x r1) (h2 : q_at G k x r2) : r1 = r2 := by
  obtain ⟨⟨nN, px, py, pz, fx, fy, fz, lf, ld, fi⟩, ⟨nB, fr, tt, ln, wi, sg, pu⟩, ⟨nR, rd, rx, ry, wv, fo⟩, ⟨re, dg⟩, ⟨nP, tp, bt, dp⟩⟩ := G
  have hN : nN ≤ 30 := hN
  rcases h1 with ⟨j, hj, rfl, h1⟩ | ⟨c1, rfl⟩ <;> rcases h2 with ⟨i, hi, e, h2⟩ | ⟨c2, rfl⟩
  · have e := (nI_eq (by omega) (by omega)).mp e
    subst e
    rcases h1 with ⟨rfl, rfl⟩ | ⟨rfl, rfl⟩ | ⟨rfl, rfl⟩ <;> rcases h2 with ⟨q, rfl⟩ | ⟨q, rfl⟩ | ⟨q, rfl⟩ <;> first | rfl | exact absurd q (by decide)
  · exact absurd ⟨⟨j, hj, rfl⟩, by rcases h1 with ⟨q, -⟩ | ⟨q, -⟩ | ⟨q, -⟩ <;> exact ⟨_, by decide, q⟩⟩ c2
  · exact absurd ⟨⟨i, hi, e⟩, by rcases h2 with ⟨q, -⟩ | ⟨q, -⟩ | ⟨q, -⟩ <;> exact ⟨_, by decide, q⟩⟩ c1
  · rfl
theorem q_pull_det {G : GS} {k : Int32} {r1 r2 : UInt64} (hB : G.2.1.1 ≤ 60) (h1 : q_pull G k r1) (h2 : q_pull G k r2) : r1 = r2 := by
  obtain ⟨⟨nN, px, py, pz, fx, fy, fz, lf, ld, fi⟩, ⟨nB, fr, tt, ln, wi, sg, pu⟩, ⟨nR, rd, rx, ry, wv, fo⟩, ⟨re, dg⟩, ⟨nP, tp, bt, dp⟩⟩ := G
  have hB : nB ≤ 60 := hB
  rcases h1 with ⟨j, hj, rfl, rfl⟩ | ⟨c1, rfl⟩ <;> rcases h2 with ⟨i, hi, e, rfl⟩ | ⟨c2, rfl⟩
  · have e := (nI_eq (by omega) (by omega)).mp e
    subst e
    rfl
  · exact absurd ⟨j, hj, rfl⟩ c2
  · exact absurd ⟨i, hi, e⟩ c1
  · rfl
theorem q_drag_det {G : GS} {x : Int32} {r1 r2 : UInt64} (h1 : q_drag G x r1) (h2 : q_drag G x r2) : r1 = r2 := by
  obtain ⟨⟨nN, px, py, pz, fx, fy, fz, lf, ld, fi⟩, ⟨nB, fr, tt, ln, wi, sg, pu⟩, ⟨nR, rd, rx, ry, wv, fo⟩, ⟨re, dg⟩, ⟨nP, tp, bt, dp⟩⟩ := G
  rcases h1 with ⟨j, hj, rfl, rfl⟩ | ⟨c1, rfl⟩ <;> rcases h2 with ⟨i, hi, e, rfl⟩ | ⟨c2, rfl⟩
  · have e := (nI_eq (by omega) (by omega)).mp e
    subst e
    rfl
  · exact absurd ⟨j, hj, rfl⟩ c2
  · exact absurd ⟨i, hi, e⟩ c1
  · rfl
theorem q_cut_det {G : GS} {x : Int32} {k : Int32} {w : Int32} {r1 r2 : Int32} (hP : G.2.2.2.2.1 ≤ 30) (h1 : q_cut G x k w r1) (h2 : q_cut G x k w r2) : r1 = r2 := by
  obtain ⟨⟨nN, px, py, pz, fx, fy, fz, lf, ld, fi⟩, ⟨nB, fr, tt, ln, wi, sg, pu⟩, ⟨nR, rd, rx, ry, wv, fo⟩, ⟨re, dg⟩, ⟨nP, tp, bt, dp⟩⟩ := G
  have hP : nP ≤ 30 := hP
  rcases h1 with ⟨j, hj, rfl, a1, a2, h1⟩ | ⟨c1, rfl⟩ <;> rcases h2 with ⟨i, hi, e, b1, b2, h2⟩ | ⟨c2, rfl⟩
  · have e := (nI_eq (by omega) (by omega)).mp e
    subst e
    rcases h1 with ⟨rfl, rfl⟩ | ⟨rfl, rfl⟩ <;> rcases h2 with ⟨q, rfl⟩ | ⟨q, rfl⟩ <;> first | rfl | exact absurd q (by decide)
  · exact absurd ⟨j, hj, rfl, a1, a2, h1.elim (fun q => Or.inl q.1) (fun q => Or.inr q.1)⟩ c2
  · exact absurd ⟨i, hi, e, b1, b2, h2.elim (fun q => Or.inl q.1) (fun q => Or.inr q.1)⟩ c1
  · rfl
theorem q_whole_det {G : GS} {x : Int32} {r1 r2 : Int32} (hP : G.2.2.2.2.1 ≤ 30) (h1 : q_whole G x r1) (h2 : q_whole G x r2) : r1 = r2 := by
  obtain ⟨⟨nN, px, py, pz, fx, fy, fz, lf, ld, fi⟩, ⟨nB, fr, tt, ln, wi, sg, pu⟩, ⟨nR, rd, rx, ry, wv, fo⟩, ⟨re, dg⟩, ⟨nP, tp, bt, dp⟩⟩ := G
  have hP : nP ≤ 30 := hP
  rcases h1 with ⟨j, hj, rfl, h1⟩ | ⟨c1, rfl⟩ <;> rcases h2 with ⟨i, hi, e, h2⟩ | ⟨c2, rfl⟩
  · have e := (nI_eq (by omega) (by omega)).mp e
    subst e
    rcases h1 with ⟨p, rfl⟩ | ⟨p, rfl⟩ <;> rcases h2 with ⟨q, rfl⟩ | ⟨q, rfl⟩ <;> first | rfl | exact absurd p q | exact absurd q p
  · exact absurd ⟨j, hj, rfl⟩ c2
  · exact absurd ⟨i, hi, e⟩ c1
  · rfl
theorem q_edge_det {G : GS} {x : Int32} {y : Int32} {r1 r2 : Int32} (hP : G.2.2.2.2.1 ≤ 30) (h1 : q_edge G x y r1) (h2 : q_edge G x y r2) : r1 = r2 := by
  obtain ⟨⟨nN, px, py, pz, fx, fy, fz, lf, ld, fi⟩, ⟨nB, fr, tt, ln, wi, sg, pu⟩, ⟨nR, rd, rx, ry, wv, fo⟩, ⟨re, dg⟩, ⟨nP, tp, bt, dp⟩⟩ := G
  have hP : nP ≤ 30 := hP
  rcases h1 with ⟨a, b, ha, hb, rfl, rfl, rfl⟩ | ⟨c1, rfl⟩ <;> rcases h2 with ⟨i, j, hi, hj, e, f, rfl⟩ | ⟨c2, rfl⟩
  · have e := (nI_eq (by omega) (by omega)).mp e
    have f := (nI_eq (by omega) (by omega)).mp f
    subst e
    subst f
    rfl
  · exact absurd ⟨⟨a, ha, rfl⟩, ⟨b, hb, rfl⟩⟩ c2
  · exact absurd ⟨⟨i, hi, e⟩, ⟨j, hj, f⟩⟩ c1
  · rfl
theorem q_sheet_det {G : GS} {x : Int32} {w : Int32} {r1 r2 : Int32} (hP : G.2.2.2.2.1 ≤ 30) (h1 : q_sheet G x w r1) (h2 : q_sheet G x w r2) : r1 = r2 := by
  obtain ⟨⟨nN, px, py, pz, fx, fy, fz, lf, ld, fi⟩, ⟨nB, fr, tt, ln, wi, sg, pu⟩, ⟨nR, rd, rx, ry, wv, fo⟩, ⟨re, dg⟩, ⟨nP, tp, bt, dp⟩⟩ := G
  have hP : nP ≤ 30 := hP
  rcases h1 with ⟨j, hj, rfl, h1⟩ | ⟨c1, rfl⟩ <;> rcases h2 with ⟨i, hi, e, h2⟩ | ⟨c2, rfl⟩
  · have e := (nI_eq (by omega) (by omega)).mp e
    subst e
    rcases h1 with ⟨rfl, rfl⟩ | ⟨rfl, rfl⟩ <;> rcases h2 with ⟨q, rfl⟩ | ⟨q, rfl⟩ <;> first | rfl | exact absurd q (by decide)
  · exact absurd ⟨⟨j, hj, rfl⟩, h1.elim (fun q => Or.inl q.1) (fun q => Or.inr q.1)⟩ c2
  · exact absurd ⟨⟨i, hi, e⟩, h2.elim (fun q => Or.inl q.1) (fun q => Or.inr q.1)⟩ c1
  · rfl
theorem ovc_mono {pu sg : DF} {i j : Nat} (h : i < j) (c : dgt (pu i) (sg i)) : ovc pu sg i < ovc pu sg j := by
  induction j with
  | zero => omega
  | succ j ih =>
    by_cases e : i = j
    · subst e; rw [ovc_p c]; omega
    · have q := ih (by omega)
      by_cases d : dgt (pu j) (sg j)
      · rw [ovc_p d]; omega
      · rw [ovc_n d]; omega
theorem q_over_det {G : GS} {k : Int32} {r1 r2 : Int32} (hB : G.2.1.1 ≤ 60) (h1 : q_over G k r1) (h2 : q_over G k r2) : r1 = r2 := by
  obtain ⟨⟨nN, px, py, pz, fx, fy, fz, lf, ld, fi⟩, ⟨nB, fr, tt, ln, wi, sg, pu⟩, ⟨nR, rd, rx, ry, wv, fo⟩, ⟨re, dg⟩, ⟨nP, tp, bt, dp⟩⟩ := G
  have hB : nB ≤ 60 := hB
  rcases h1 with ⟨j, hj, d1, e1, rfl⟩ | ⟨c1, rfl⟩ <;> rcases h2 with ⟨i, hi, d2, e2, rfl⟩ | ⟨c2, rfl⟩
  · have l1 := ovc_lt (pu := pu) (sg := sg) hB hj
    have l2 := ovc_lt (pu := pu) (sg := sg) hB hi
    have e := (nI_eq l1 l2).mp (e1.trans e2.symm)
    rcases Nat.lt_trichotomy i j with q | q | q
    · have := ovc_mono q d2; omega
    · rw [q]
    · have := ovc_mono q d1; omega
  · exact absurd e1 (c2 j hj d1)
  · exact absurd e2 (c1 i hi d2)
  · rfl
theorem q_open_det {G : GS} {k : Int32} {r1 r2 : UInt64} (h1 : q_open G k r1) (h2 : q_open G k r2) : r1 = r2 := by
  obtain ⟨⟨nN, px, py, pz, fx, fy, fz, lf, ld, fi⟩, ⟨nB, fr, tt, ln, wi, sg, pu⟩, ⟨nR, rd, rx, ry, wv, fo⟩, ⟨re, dg⟩, ⟨nP, tp, bt, dp⟩⟩ := G
  rcases h1 with ⟨n1, h1⟩ | ⟨c1, rfl⟩ <;> rcases h2 with ⟨n2, h2⟩ | ⟨c2, rfl⟩
  · rcases h1 with ⟨rfl, rfl⟩ | ⟨rfl, rfl⟩ | ⟨rfl, rfl⟩ <;> rcases h2 with ⟨q, rfl⟩ | ⟨q, rfl⟩ | ⟨q, rfl⟩ <;> first | rfl | exact absurd q (by decide)
  · exact absurd ⟨n1, by rcases h1 with ⟨q, -⟩ | ⟨q, -⟩ | ⟨q, -⟩ <;> exact ⟨_, by decide, q⟩⟩ c2
  · exact absurd ⟨n2, by rcases h2 with ⟨q, -⟩ | ⟨q, -⟩ | ⟨q, -⟩ <;> exact ⟨_, by decide, q⟩⟩ c1
  · rfl
theorem q_mir_det {G : GS}  {r1 r2 : Int32} (h1 : q_mir G  r1) (h2 : q_mir G  r2) : r1 = r2 := by
  obtain ⟨⟨nN, px, py, pz, fx, fy, fz, lf, ld, fi⟩, ⟨nB, fr, tt, ln, wi, sg, pu⟩, ⟨nR, rd, rx, ry, wv, fo⟩, ⟨re, dg⟩, ⟨nP, tp, bt, dp⟩⟩ := G
  rcases h1 with ⟨rfl, p⟩ | ⟨rfl, p⟩ <;> rcases h2 with ⟨rfl, q⟩ | ⟨rfl, q⟩ <;> first | rfl | exact absurd p q | exact absurd q p
def exOK (G : GS) : Prop := match G with
  | ((nN, px, py, pz, fx, fy, fz, lf, ld, fi), (nB, fr, tt, ln, wi, sg, pu), (nR, rd, rx, ry, wv, fo), (re, dg), (nP, tp, bt, dp)) => (∀ j, fB 1040 (lf j) ∧ fB 1040 (ld j)) ∧ nP ≤ 30 ∧ ∀ j, j < nP → ¬ dp j = 0
def inv (M : Nat) (G : GS) : Prop := envOK G ∧ plOK M G ∧ exOK G
theorem inv_mono {M L : Nat} {G : GS} (h : inv M G) (hl : M ≤ L) : inv L G := by
  obtain ⟨⟨nN, px, py, pz, fx, fy, fz, lf, ld, fi⟩, ⟨nB, fr, tt, ln, wi, sg, pu⟩, ⟨nR, rd, rx, ry, wv, fo⟩, ⟨re, dg⟩, ⟨nP, tp, bt, dp⟩⟩ := G
  exact ⟨h.1, fun j hj => ⟨pP_mono (h.2.1 j hj).1 hl, pP_mono (h.2.1 j hj).2.1 hl, pP_mono (h.2.1 j hj).2.2 hl⟩, h.2.2⟩
theorem ex_round {G : GS} (h : exOK G) : exOK (moveG (forcesG G)) := by
  obtain ⟨⟨nN, px, py, pz, fx, fy, fz, lf, ld, fi⟩, ⟨nB, fr, tt, ln, wi, sg, pu⟩, ⟨nR, rd, rx, ry, wv, fo⟩, ⟨re, dg⟩, ⟨nP, tp, bt, dp⟩⟩ := G
  exact h
theorem ex_forces {G : GS} (h : exOK G) : exOK (forcesG G) := by
  obtain ⟨⟨nN, px, py, pz, fx, fy, fz, lf, ld, fi⟩, ⟨nB, fr, tt, ln, wi, sg, pu⟩, ⟨nR, rd, rx, ry, wv, fo⟩, ⟨re, dg⟩, ⟨nP, tp, bt, dp⟩⟩ := G
  exact h
theorem ex_rnd {G : GS} (h : exOK G) : ∀ i, exOK (rndI G i)
  | 0 => h
  | i + 1 => ex_round (ex_rnd h i)
theorem inv_run {M : Nat} {G G2 : GS} {n r : Int32} {o : Option UInt64} (hM : M + 300 < 262144) (h : inv M G) (q : q_run G n r G2 o) : inv (M + 300) G2 := by
  have g : ∀ i, i ≤ 300 → inv (M + 300) (rndI G i) := fun i hi => by
    obtain ⟨h1, h2⟩ := rnd_ok h.1 h.2.1 i (by omega)
    exact inv_mono ⟨h1, h2, ex_rnd h.2.2 i⟩ (by omega)
  rcases q with ⟨j, j1, j2, -, -, q⟩ | ⟨-, -, rfl, -⟩
  · rcases q with ⟨i, hi, -, -, -, rfl, -⟩ | ⟨-, -, rfl, -⟩
    · have q := g i (by omega)
      exact ⟨env_forces q.1, pl_forces q.2.1, ex_forces q.2.2⟩
    · exact g j j2
  · exact inv_mono h (by omega)
theorem inv_node {M : Nat} {G G2 : GS} {a b c r : Int32} (hM : 4000 ≤ M) (h : inv M G) (q : q_node G (e8 a) (e8 b) (e8 c) r G2) : inv M G2 := by
  obtain ⟨⟨nN, px, py, pz, fx, fy, fz, lf, ld, fi⟩, ⟨nB, fr, tt, ln, wi, sg, pu⟩, ⟨nR, rd, rx, ry, wv, fo⟩, ⟨re, dg⟩, ⟨nP, tp, bt, dp⟩⟩ := G
  rcases q with ⟨⟨h1, h2, h3, h4⟩, rfl, rfl⟩ | ⟨-, rfl, rfl⟩
  · obtain ⟨⟨hnN, hnB, hnR, hbar, hlw, hr, hwv, hfo, hll⟩, hp, hl, hnP, hdp⟩ := h
    refine ⟨⟨h1, hnB, hnR, fun i hi => ?_, hlw, hr, hwv, hfo, fun j _ => hl j⟩, fun j hj => ?_, hl, hnP, hdp⟩
    · obtain ⟨q1, q2, q3, q4, q5⟩ := hbar i hi
      exact ⟨q1, q2, by omega, by omega, q5⟩
    · by_cases e : nN = j
      · subst e
        rw [vf_eq, vf_eq, vf_eq]
        exact ⟨pP_mono (e8_place h2) hM, pP_mono (e8_place h3) hM, pP_mono (e8_place h4) hM⟩
      · rw [vf_ne e, vf_ne e, vf_ne e]
        exact hp j (show j < nN from by have hj : j < nN + 1 := hj; omega)
  · exact h
theorem inN_cl {n : Nat} {a : Int32} (hn : n ≤ 30) (h : inN n a) : a = nI a.toNatClampNeg ∧ a.toNatClampNeg < n := by
  obtain ⟨j, hj, rfl⟩ := h
  rw [nI_clamp (by omega)]
  exact ⟨rfl, hj⟩
theorem inv_bar {M : Nat} {G G2 : GS} {a b r : Int32} {le wd sr : UInt64} (h : inv M G) (q : q_bar G a b le wd sr r G2) : inv M G2 := by
  obtain ⟨⟨nN, px, py, pz, fx, fy, fz, lf, ld, fi⟩, ⟨nB, fr, tt, ln, wi, sg, pu⟩, ⟨nR, rd, rx, ry, wv, fo⟩, ⟨re, dg⟩, ⟨nP, tp, bt, dp⟩⟩ := G
  rcases q with ⟨⟨h1, h2, h3, h4, h5, h6, h7⟩, rfl, rfl⟩ | ⟨-, rfl, rfl⟩
  · obtain ⟨⟨hnN, hnB, hnR, hbar, hlw, hr, hwv, hfo, hll⟩, hp, hl, hnP, hdp⟩ := h
    have na := inN_cl hnN h1
    have nb := inN_cl hnN h2
    refine ⟨⟨hnN, h4, hnR, fun i hi => ?_, fun i hi => ?_, hr, hwv, hfo, hll⟩, hp, hl, hnP, hdp⟩
    · by_cases e : i = nB
      · subst e
        have ea : fN (upd fr i a) i = a.toNatClampNeg := by unfold fN upd; rw [if_pos rfl]
        have eb : fN (upd tt i b) i = b.toNatClampNeg := by unfold fN upd; rw [if_pos rfl]
        rw [ea, eb]
        refine ⟨by unfold upd; rw [if_pos rfl]; exact na.1, by unfold upd; rw [if_pos rfl]; exact nb.1, na.2, nb.2, fun q => h3 ?_⟩
        rw [na.1, nb.1, q]
      · have ea : upd fr nB a i = fr i := by unfold upd; rw [if_neg e]
        have eb : upd tt nB b i = tt i := by unfold upd; rw [if_neg e]
        have fa : fN (upd fr nB a) i = fN fr i := by unfold fN; rw [ea]
        have fb : fN (upd tt nB b) i = fN tt i := by unfold fN; rw [eb]
        rw [fa, fb, ea, eb]
        exact hbar i (show i < nB from by have hi : i < nB + 1 := hi; omega)
    · by_cases e : nB = i
      · subst e
        rw [vf_eq, vf_eq]
        obtain ⟨p1, p2⟩ := inR_fL (L := 1020) h5 (by decide) (fL_lit (by decide +kernel)) (by decide)
        exact ⟨⟨inR_fB h5 (fB_lit (by decide +kernel)) (fB_lit (by decide +kernel)), p2, p1⟩, inR_fB h6 (fB_mono fB_c0 (by decide)) (fB_lit (by decide +kernel))⟩
      · rw [vf_ne e, vf_ne e]
        exact hlw i (show i < nB from by have hi : i < nB + 1 := hi; omega)
  · exact h
theorem inv_fix {M : Nat} {G G2 : GS} {k r : Int32} (h : inv M G) (q : q_fix G k r G2) : inv M G2 := by
  obtain ⟨⟨nN, px, py, pz, fx, fy, fz, lf, ld, fi⟩, ⟨nB, fr, tt, ln, wi, sg, pu⟩, ⟨nR, rd, rx, ry, wv, fo⟩, ⟨re, dg⟩, ⟨nP, tp, bt, dp⟩⟩ := G
  rcases q with ⟨j, hj, -, -, rfl, rfl⟩ | ⟨-, rfl, rfl⟩
  · exact h
  · exact h
theorem inv_floats {M : Nat} {G G2 : GS} {k r : Int32} {v : UInt64} (h : inv M G) (q : q_floats G k v r G2) : inv M G2 := by
  obtain ⟨⟨nN, px, py, pz, fx, fy, fz, lf, ld, fi⟩, ⟨nB, fr, tt, ln, wi, sg, pu⟩, ⟨nR, rd, rx, ry, wv, fo⟩, ⟨re, dg⟩, ⟨nP, tp, bt, dp⟩⟩ := G
  rcases q with ⟨j, hj, -, hv, rfl, rfl⟩ | ⟨-, rfl, rfl⟩
  · obtain ⟨⟨hnN, hnB, hnR, hbar, hlw, hr, hwv, hfo, hll⟩, hp, hl, hnP, hdp⟩ := h
    have g : ∀ i, fB 1040 (vf_upd lf j v i) ∧ fB 1040 (ld i) := fun i => ⟨vf_fB (inR_fB hv (fB_lit (by decide +kernel)) (fB_lit (by decide +kernel))) (hl i).1, (hl i).2⟩
    exact ⟨⟨hnN, hnB, hnR, hbar, hlw, hr, hwv, hfo, fun i _ => g i⟩, hp, g, hnP, hdp⟩
  · exact h
theorem inv_catch {M : Nat} {G G2 : GS} {k r : Int32} {v : UInt64} (h : inv M G) (q : q_catchAt G k v r G2) : inv M G2 := by
  obtain ⟨⟨nN, px, py, pz, fx, fy, fz, lf, ld, fi⟩, ⟨nB, fr, tt, ln, wi, sg, pu⟩, ⟨nR, rd, rx, ry, wv, fo⟩, ⟨re, dg⟩, ⟨nP, tp, bt, dp⟩⟩ := G
  rcases q with ⟨j, hj, -, hv, rfl, rfl⟩ | ⟨-, rfl, rfl⟩
  · obtain ⟨⟨hnN, hnB, hnR, hbar, hlw, hr, hwv, hfo, hll⟩, hp, hl, hnP, hdp⟩ := h
    have g : ∀ i, fB 1040 (lf i) ∧ fB 1040 (vf_upd ld j v i) := fun i => ⟨(hl i).1, vf_fB (inR_fB hv (fB_mono fB_c0 (by decide)) (fB_lit (by decide +kernel))) (hl i).2⟩
    exact ⟨⟨hnN, hnB, hnR, hbar, hlw, hr, hwv, hfo, fun i _ => g i⟩, hp, g, hnP, hdp⟩
  · exact h
theorem inv_foul {M : Nat} {G G2 : GS} {r : Int32} {v : UInt64} (h : inv M G) (q : q_foul G v r G2) : inv M G2 := by
  obtain ⟨⟨nN, px, py, pz, fx, fy, fz, lf, ld, fi⟩, ⟨nB, fr, tt, ln, wi, sg, pu⟩, ⟨nR, rd, rx, ry, wv, fo⟩, ⟨re, dg⟩, ⟨nP, tp, bt, dp⟩⟩ := G
  rcases q with ⟨hv, rfl, rfl⟩ | ⟨-, rfl, rfl⟩
  · obtain ⟨⟨hnN, hnB, hnR, hbar, hlw, hr, hwv, hfo, hll⟩, hp, hl, hnP, hdp⟩ := h
    exact ⟨⟨hnN, hnB, hnR, hbar, hlw, hr, hwv, inR_fB hv (fB_mono fB_c0 (by decide)) (fB_lit (by decide +kernel)), hll⟩, hp, hl, hnP, hdp⟩
  · exact h
theorem inv_wave {M : Nat} {G G2 : GS} {n r : Int32} {a b : UInt64} (h : inv M G) (q : q_wave G a b n r G2) : inv M G2 := by
  obtain ⟨⟨nN, px, py, pz, fx, fy, fz, lf, ld, fi⟩, ⟨nB, fr, tt, ln, wi, sg, pu⟩, ⟨nR, rd, rx, ry, wv, fo⟩, ⟨re, dg⟩, ⟨nP, tp, bt, dp⟩⟩ := G
  rcases q with ⟨⟨h1, h2, -, -⟩, rfl, rfl⟩ | ⟨-, rfl, rfl⟩
  · obtain ⟨⟨hnN, hnB, hnR, hbar, hlw, hr, hwv, hfo, hll⟩, hp, hl, hnP, hdp⟩ := h
    have ba : fB 1028 a := inR_fB h1 (fB_mono fB_c0 (by decide)) (fB_lit (by decide +kernel))
    have bb : fB 1029 b := inR_fB h2 (fB_mono fB_c1 (by decide)) (fB_lit (by decide +kernel))
    obtain ⟨pb, lb⟩ := inR_fL (L := 1023) h2 (by decide) (fL_lit (by decide +kernel)) (by decide)
    have b1 : fB 1031 (FP.dadd b FP.dconst1) := fB_add (M := 1029) bb fB_c1 (by decide) (by decide) (by decide)
    have l1 := fL_addl (L := 1023) (by decide) (by decide) (fB_fin bb (by decide)) (fB_fin fB_c1 (by decide)) pb lb (by unfold fP; decide) (fB_nn b1 (by decide))
    have b2 : fB 1029 (FP.ddiv a (FP.dadd b FP.dconst1)) := fB_div ba l1.2 (fB_mono b1 (by decide)) (by decide) (by decide) (by decide)
    have b3 : fB 1063 (FP.dmul (FP.ddiv a (FP.dadd b FP.dconst1)) (FP.i2d n)) := fB_mul b2 (fB_i2d n) (by decide) (by decide) (by decide)
    have b4 : fB 1058 (FP.ddiv (FP.dmul (FP.ddiv a (FP.dadd b FP.dconst1)) (FP.i2d n)) 4636737291354636288) := fB_div b3 (fL_lit (K := 1029) (by decide +kernel)) (fB_mono (fB_lit (K := 1030) (by decide +kernel)) (by decide)) (by decide) (by decide) (by decide)
    exact ⟨⟨hnN, hnB, hnR, hbar, hlw, hr, b4, hfo, hll⟩, hp, hl, hnP, hdp⟩
  · exact h
theorem inv_panel {M : Nat} {G G2 : GS} {a b d r : Int32} (h : inv M G) (q : q_panel G a b d r G2) : inv M G2 := by
  obtain ⟨⟨nN, px, py, pz, fx, fy, fz, lf, ld, fi⟩, ⟨nB, fr, tt, ln, wi, sg, pu⟩, ⟨nR, rd, rx, ry, wv, fo⟩, ⟨re, dg⟩, ⟨nP, tp, bt, dp⟩⟩ := G
  rcases q with ⟨⟨h1, -, -, h4⟩, rfl, rfl⟩ | ⟨-, rfl, rfl⟩
  · obtain ⟨⟨hnN, hnB, hnR, hbar, hlw, hr, hwv, hfo, hll⟩, hp, hl, hnP, hdp⟩ := h
    refine ⟨⟨hnN, hnB, hnR, hbar, hlw, hr, hwv, hfo, hll⟩, hp, hl, h1, fun j hj => ?_⟩
    obtain ⟨k, k1, k2, rfl⟩ := h4
    by_cases e : j = nP
    · have q : upd dp nP (nI k) j = nI k := by unfold upd; rw [if_pos e]
      show ¬ upd dp nP (nI k) j = 0
      rw [q]
      intro z
      have z : nI k = nI 0 := z
      have := (nI_eq (by omega) (by omega)).mp z
      omega
    · have q : upd dp nP (nI k) j = dp j := by unfold upd; rw [if_neg e]
      show ¬ upd dp nP (nI k) j = 0
      rw [q]
      exact hdp j (show j < nP from by have hj : j < nP + 1 := hj; omega)
  · exact h
-- the rows of the water
theorem shf_lo {f : DF} {n : Nat} : ∀ {t j : Nat}, j + t ≤ n → shf f n t j = f j
  | 0, _, _ => rfl
  | t + 1, j, h => by
    show vf_upd (shf f n t) (n - t) _ j = f j
    rw [vf_ne (by omega)]
    exact shf_lo (by omega)
theorem shf_hi {f : DF} {n : Nat} : ∀ {t j : Nat}, t ≤ n → n < j + t → j ≤ n → shf f n t j = f (j - 1)
  | 0, _, _, h, h2 => by omega
  | t + 1, j, h0, h, h2 => by
    show vf_upd (shf f n t) (n - t) ((shf f n t) (n - t - 1)) j = f (j - 1)
    by_cases e : n - t = j
    · subst e
      rw [vf_eq, shf_lo (by omega)]
    · rw [vf_ne e]
      exact shf_hi (by omega) (by omega) h2
theorem dX_ok {s : UInt64} (h : fB 1027 s) : ∀ e, fB 1030 (dX s e) := by
  have b1 : fB 1028 (FP.dmul s 4604544271217802189) := fB_mul h (fB_lit (K := 1023) (by decide +kernel)) (by decide) (by decide) (by decide)
  have b2 : fB 1030 (FP.dsub FP.dconst0 (FP.dmul s 4604544271217802189)) := fB_sub (M := 1028) fB_c0 b1 (by decide) (by decide) (by decide)
  have b3 : fB 1030 (FP.dsub FP.dconst0 s) := fB_mono (fB_sub (M := 1027) fB_c0 h (by decide) (by decide) (by decide) : fB 1029 _) (by decide)
  intro e
  match e with
  | 0 => exact fB_mono h (by decide)
  | 1 => exact fB_mono b1 (by decide)
  | 2 => exact fB_mono fB_c0 (by decide)
  | 3 => exact b2
  | 4 => exact b3
  | 5 => exact b2
  | 6 => exact fB_mono fB_c0 (by decide)
  | 7 => exact fB_mono b1 (by decide)
  | k + 8 => exact fB_mono fB_c0 (by decide)
theorem rows_rep {n : Nat} {rd rx ry : DF} {a : Nat} {k : Int32} {x y : UInt64} (h : rowsOK n rd rx ry) (ha : a < n) (e : deq (rd a) (e8 k)) (hd : fB 1033 (e8 k)) (hx : fB 1030 x) (hy : fB 1030 y) : rowsOK n (vf_upd rd a (e8 k)) (vf_upd rx a x) (vf_upd ry a y) := by
  have le1 : ∀ {p}, dlt p (rd a) → dlt p (e8 k) := fun q => dlt_trans q (Or.inr e)
  have le2 : ∀ {p}, dlt (rd a) p → dlt (e8 k) p := fun {p} q => by
    have z1 := FP.Core.dcmp_lt.mp q
    have z2 := FP.Core.dcmp_le.mp (show FP.Core.dcmp (rd a) (e8 k) = some .lt ∨ FP.Core.dcmp (rd a) (e8 k) = some .eq from Or.inr e)
    have z3 : zv (e8 k) ≤ zv (rd a) := by
      have q2 : dle (e8 k) (rd a) := dle_of z2.1 z2.2.1 (fun c => by have c : FP.dcmp (rd a) (e8 k) = some .lt := c; rw [show FP.dcmp (rd a) (e8 k) = some .eq from e] at c; cases c)
      exact (FP.Core.dcmp_le.mp q2).2.2
    exact FP.Core.dcmp_lt.mpr ⟨z2.2.1, z1.2.1, by have q3 : zv (rd a) < zv p := z1.2.2; show zv (e8 k) < zv p; omega⟩
  refine ⟨fun i j hij hj => ?_, fun j hj => ?_⟩
  · by_cases e1 : a = i
    · subst e1
      rw [vf_eq, vf_ne (by omega)]
      exact le2 (h.1 _ j hij hj)
    · by_cases e2 : a = j
      · subst e2
        rw [vf_eq, vf_ne (by omega)]
        exact le1 (h.1 i _ hij hj)
      · rw [vf_ne e1, vf_ne e2]
        exact h.1 i j hij hj
  · by_cases e1 : a = j
    · subst e1
      rw [vf_eq, vf_eq, vf_eq]
      exact ⟨⟨k, rfl⟩, hd, hx, hy⟩
    · rw [vf_ne e1, vf_ne e1, vf_ne e1]
      exact h.2 j hj
theorem rows_ins {n : Nat} {rd rx ry : DF} {a : Nat} {k : Int32} {x y : UInt64} (h : rowsOK n rd rx ry) (ha : isA rd (e8 k) n a) (e : ¬ (a < n ∧ deq (rd a) (e8 k))) (hd : fB 1033 (e8 k)) (hx : fB 1030 x) (hy : fB 1030 y) : rowsOK (n + 1) (vf_upd (shf rd n (n - a)) a (e8 k)) (vf_upd (shf rx n (n - a)) a x) (vf_upd (shf ry n (n - a)) a y) := by
  have hn := ha.1
  have lo : ∀ {f : DF} {z : UInt64} {j}, j < a → vf_upd (shf f n (n - a)) a z j = f j := fun {f z j} hj => by rw [vf_ne (by omega), shf_lo (by omega)]
  have hi : ∀ {f : DF} {z : UInt64} {j}, a < j → j ≤ n → vf_upd (shf f n (n - a)) a z j = f (j - 1) := fun {f z j} hj h2 => by rw [vf_ne (by omega), shf_hi (by omega) (by omega) h2]
  have gt : a < n → dlt (e8 k) (rd a) := fun hl => by
    have q1 : dle (e8 k) (rd a) := dle_of (fB_nn (h.2 a hl).2.1 (by decide)) (fB_nn hd (by decide)) (ha.2.2 hl)
    rcases q1 with q1 | q1
    · exact q1
    · refine absurd ⟨hl, ?_⟩ e
      show FP.dcmp (rd a) (e8 k) = some .eq
      have sw := FP.Core.dcmp_swap (e8 k) (rd a)
      rw [show FP.dcmp (rd a) (e8 k) = FP.Core.dcmp (rd a) (e8 k) from rfl, sw, show FP.Core.dcmp (e8 k) (rd a) = some .eq from q1]; rfl
  refine ⟨fun i j hij hj => ?_, fun j hj => ?_⟩
  · rcases Nat.lt_trichotomy i a with q | q | q
    · rw [lo q]
      rcases Nat.lt_trichotomy j a with q2 | q2 | q2
      · rw [lo q2]; exact h.1 i j hij (by omega)
      · subst q2; rw [vf_eq]; exact ha.2.1 i q
      · rw [hi q2 (by omega)]; exact h.1 i (j - 1) (by omega) (by omega)
    · subst q
      rw [vf_eq, hi hij (by omega)]
      by_cases q2 : i = j - 1
      · rw [← q2]; exact gt (by omega)
      · exact dlt_trans (gt (by omega)) (Or.inl (h.1 i (j - 1) (by omega) (by omega)))
    · rw [hi q (by omega), hi (by omega) (by omega)]
      exact h.1 (i - 1) (j - 1) (by omega) (by omega)
  · rcases Nat.lt_trichotomy j a with q | q | q
    · rw [lo q, lo q, lo q]; exact h.2 j (by omega)
    · subst q; rw [vf_eq, vf_eq, vf_eq]; exact ⟨⟨k, rfl⟩, hd, hx, hy⟩
    · rw [hi q (by omega), hi q (by omega), hi q (by omega)]; exact h.2 (j - 1) (by omega)
theorem inv_current {M : Nat} {G G2 : GS} {k r : Int32} {sp di : UInt64} (h : inv M G) (q : q_current G (e8 k) sp di r G2) : inv M G2 := by
  obtain ⟨⟨nN, px, py, pz, fx, fy, fz, lf, ld, fi⟩, ⟨nB, fr, tt, ln, wi, sg, pu⟩, ⟨nR, rd, rx, ry, wv, fo⟩, ⟨re, dg⟩, ⟨nP, tp, bt, dp⟩⟩ := G
  rcases q with ⟨e, a, he, h1, h2, h3, h4, q⟩ | ⟨-, rfl, rfl⟩
  · obtain ⟨⟨hnN, hnB, hnR, hbar, hlw, hr, hwv, hfo, hll⟩, hp, hl, hnP, hdp⟩ := h
    have bd : fB 1033 (e8 k) := inR_fB h1 (fB_lit (by decide +kernel)) (fB_lit (by decide +kernel))
    have bs : fB 1027 sp := inR_fB h2 (fB_mono fB_c0 (by decide)) (fB_lit (by decide +kernel))
    rcases q with ⟨⟨q1, q2⟩, rfl, rfl⟩ | ⟨q1, q2, rfl, rfl⟩ | ⟨-, -, rfl, rfl⟩
    · exact ⟨⟨hnN, hnB, hnR, hbar, hlw, rows_rep hr q1 q2 bd (dX_ok bs _) (dX_ok bs _), hwv, hfo, hll⟩, hp, hl, hnP, hdp⟩
    · exact ⟨⟨hnN, hnB, q2, hbar, hlw, rows_ins hr h4 q1 bd (dX_ok bs _) (dX_ok bs _), hwv, hfo, hll⟩, hp, hl, hnP, hdp⟩
    · exact ⟨⟨hnN, hnB, hnR, hbar, hlw, hr, hwv, hfo, hll⟩, hp, hl, hnP, hdp⟩
  · exact h

