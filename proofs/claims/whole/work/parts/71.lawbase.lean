/-! the law: its state, its calls -/
theorem ps_node {G G2 : GS} {x y z : UInt64} {r : Int32} (q : q_node G x y z r G2) : G2.2.2.2.2 = G.2.2.2.2 := by
  obtain ⟨⟨nN, px, py, pz, fx, fy, fz, lf, ld, fi⟩, ⟨nB, fr, tt, ln, wi, sg, pu⟩, ⟨nR, rd, rx, ry, wv, fo⟩, ⟨re, dg⟩, ⟨nP, tp, bt, dp⟩⟩ := G
  rcases q with ⟨-, -, rfl⟩ | ⟨-, -, rfl⟩ <;> rfl
theorem ps_bar {G G2 : GS} {a b r : Int32} {x y z : UInt64} (q : q_bar G a b x y z r G2) : G2.2.2.2.2 = G.2.2.2.2 := by
  obtain ⟨⟨nN, px, py, pz, fx, fy, fz, lf, ld, fi⟩, ⟨nB, fr, tt, ln, wi, sg, pu⟩, ⟨nR, rd, rx, ry, wv, fo⟩, ⟨re, dg⟩, ⟨nP, tp, bt, dp⟩⟩ := G
  rcases q with ⟨-, -, rfl⟩ | ⟨-, -, rfl⟩ <;> rfl
theorem ps_fix {G G2 : GS} {k r : Int32} (q : q_fix G k r G2) : G2.2.2.2.2 = G.2.2.2.2 := by
  obtain ⟨⟨nN, px, py, pz, fx, fy, fz, lf, ld, fi⟩, ⟨nB, fr, tt, ln, wi, sg, pu⟩, ⟨nR, rd, rx, ry, wv, fo⟩, ⟨re, dg⟩, ⟨nP, tp, bt, dp⟩⟩ := G
  rcases q with ⟨-, -, -, -, -, rfl⟩ | ⟨-, -, rfl⟩ <;> rfl
theorem ps_floats {G G2 : GS} {k r : Int32} {v : UInt64} (q : q_floats G k v r G2) : G2.2.2.2.2 = G.2.2.2.2 := by
  obtain ⟨⟨nN, px, py, pz, fx, fy, fz, lf, ld, fi⟩, ⟨nB, fr, tt, ln, wi, sg, pu⟩, ⟨nR, rd, rx, ry, wv, fo⟩, ⟨re, dg⟩, ⟨nP, tp, bt, dp⟩⟩ := G
  rcases q with ⟨-, -, -, -, -, rfl⟩ | ⟨-, -, rfl⟩ <;> rfl
theorem ps_catchAt {G G2 : GS} {k r : Int32} {v : UInt64} (q : q_catchAt G k v r G2) : G2.2.2.2.2 = G.2.2.2.2 := by
  obtain ⟨⟨nN, px, py, pz, fx, fy, fz, lf, ld, fi⟩, ⟨nB, fr, tt, ln, wi, sg, pu⟩, ⟨nR, rd, rx, ry, wv, fo⟩, ⟨re, dg⟩, ⟨nP, tp, bt, dp⟩⟩ := G
  rcases q with ⟨-, -, -, -, -, rfl⟩ | ⟨-, -, rfl⟩ <;> rfl
theorem ps_foul {G G2 : GS} {r : Int32} {v : UInt64} (q : q_foul G v r G2) : G2.2.2.2.2 = G.2.2.2.2 := by
  obtain ⟨⟨nN, px, py, pz, fx, fy, fz, lf, ld, fi⟩, ⟨nB, fr, tt, ln, wi, sg, pu⟩, ⟨nR, rd, rx, ry, wv, fo⟩, ⟨re, dg⟩, ⟨nP, tp, bt, dp⟩⟩ := G
  rcases q with ⟨-, -, rfl⟩ | ⟨-, -, rfl⟩ <;> rfl
theorem ps_wave {G G2 : GS} {n r : Int32} {a b : UInt64} (q : q_wave G a b n r G2) : G2.2.2.2.2 = G.2.2.2.2 := by
  obtain ⟨⟨nN, px, py, pz, fx, fy, fz, lf, ld, fi⟩, ⟨nB, fr, tt, ln, wi, sg, pu⟩, ⟨nR, rd, rx, ry, wv, fo⟩, ⟨re, dg⟩, ⟨nP, tp, bt, dp⟩⟩ := G
  rcases q with ⟨-, -, rfl⟩ | ⟨-, -, rfl⟩ <;> rfl
theorem ps_current {G G2 : GS} {r : Int32} {a b d : UInt64} (q : q_current G a b d r G2) : G2.2.2.2.2 = G.2.2.2.2 := by
  obtain ⟨⟨nN, px, py, pz, fx, fy, fz, lf, ld, fi⟩, ⟨nB, fr, tt, ln, wi, sg, pu⟩, ⟨nR, rd, rx, ry, wv, fo⟩, ⟨re, dg⟩, ⟨nP, tp, bt, dp⟩⟩ := G
  rcases q with ⟨-, -, -, -, -, -, -, ⟨-, -, rfl⟩ | ⟨-, -, -, rfl⟩ | ⟨-, -, -, rfl⟩⟩ | ⟨-, -, rfl⟩ <;> rfl
theorem ps_forces {G : GS} : (forcesG G).2.2.2.2 = G.2.2.2.2 := by
  obtain ⟨⟨nN, px, py, pz, fx, fy, fz, lf, ld, fi⟩, ⟨nB, fr, tt, ln, wi, sg, pu⟩, ⟨nR, rd, rx, ry, wv, fo⟩, ⟨re, dg⟩, ⟨nP, tp, bt, dp⟩⟩ := G
  rfl
theorem ps_move {G : GS} : (moveG G).2.2.2.2 = G.2.2.2.2 := by
  obtain ⟨⟨nN, px, py, pz, fx, fy, fz, lf, ld, fi⟩, ⟨nB, fr, tt, ln, wi, sg, pu⟩, ⟨nR, rd, rx, ry, wv, fo⟩, ⟨re, dg⟩, ⟨nP, tp, bt, dp⟩⟩ := G
  rfl
theorem ps_rnd {G : GS} : ∀ i, (rndI G i).2.2.2.2 = G.2.2.2.2
  | 0 => rfl
  | i + 1 => by
    show (moveG (forcesG (rndI G i))).2.2.2.2 = _
    rw [ps_move, ps_forces, ps_rnd i]
theorem ps_run {G G2 : GS} {n r : Int32} {o : Option UInt64} (q : q_run G n r G2 o) : G2.2.2.2.2 = G.2.2.2.2 := by
  rcases q with ⟨-, -, -, -, -, ⟨i, -, -, -, -, rfl, -⟩ | ⟨-, -, rfl, -⟩⟩ | ⟨-, -, rfl, -⟩
  · rw [ps_forces, ps_rnd]
  · rw [ps_rnd]
  · rfl
theorem fuO_le {o : Option UInt64} {E : ES} : (fuO o E).1 ≤ E.1 + 1 := by
  cases o with
  | none => exact Nat.le_succ _
  | some f =>
    obtain ⟨nQ, fu⟩ := E
    exact Nat.le_refl _
abbrev lA (s : State) : Nat → Prop := fun q => s.heap.size ≤ q
def lst (D : va_G) (cs : Nat → ClassId) (ad bd : Nat → Nat) (i : Nat) (G : GS) (C : CS) (E : ES) (s : State) (H : Heap) (locs : List Loc) : Prop := va_P D vwCl (WX cs ad (G, C)) H ∧ va_P D vwCl (WM cs bd (G, E)) H ∧ va_S (lA s) s.heap H locs ∧ inv (4000 + 50 * i) G ∧ RP G.2.2.2.2 C ∧ relR C E ∧ 6 * E.1 ≤ i
def lawC (p : Program) (s : State) (m : MethodId) (c : Code) (b L : Nat) (xs : Nat → Int32) (D : va_G) (cs : Nat → ClassId) (ad bd : Nat → Nat) : Prop := p.tables.exec = Jvm.exec ∧ c.code = code ∧ c.maxLocals = 8 ∧ s.vm.findClass RL = some m.cls ∧ (∀ w ∈ wsL_law, w.before #[Value.ref b] s = true) ∧ va_X b L xs s s.heap ∧ b < s.heap.size ∧ va_K D vwCl (tysX cs) s ∧ EX D cs s ∧ EM D cs s ∧ distX ad ∧ distM bd ∧ (∀ q, AX ad q → s.heap.size ≤ q) ∧ (∀ q, AM bd q → s.heap.size ≤ q) ∧ (∀ q, AX ad q → ¬ AM bd q) ∧ L ≤ 3072
theorem WX_at {cs : Nat → ClassId} {ad : Nat → Nat} {S : XS} {k : Nat} {q : Nat × va_E} (h : (WX cs ad S)[k]? = some q) : AX ad q.1 := ⟨k, at_map (WX_map cs ad S) h⟩
theorem WM_at {cs : Nat → ClassId} {ad : Nat → Nat} {S : MS} {k : Nat} {q : Nat × va_E} (h : (WM cs ad S)[k]? = some q) : AM ad q.1 := ⟨k, at_map (WM_map cs ad S) h⟩
section LW
variable {p : Program} {l : Launch} {e : Env} {R : Room} {s : State} {m : MethodId} {args : Array Value} {below : List Frame} {meth : Method} {c : Code} {H : Heap} {locs : List Loc} {cells slots : Nat} {Q : State → Prop}
variable {cc : ByteArray} {pc : Nat} {ls : Array Slot} {rest st0 : List Value} {D : va_G} {A0 : Nat → Prop} {wo : va_W} {σ : Type} {wd : σ → va_W} {av : Array Value}
theorem gLi {post : Int32 → σ → Prop} (hr : va_Run p l e R s m args below meth c H locs cells slots 0 0 (F0 m pc ls st0) rest (va_Qi post (gB D wd) (gA A0 H.size) av) (gA A0 H.size)) (hPo : va_P D vwCl wo H) (hdis : ∀ (k : Nat) (q : Nat × va_E), wo[k]? = some q → ¬ A0 q.1) (hA : ∀ q, A0 q → s.heap.size ≤ q) (hS : va_S (lA s) s.heap H locs)
    (kk : ∀ (r : Int32) (u : σ) (H1 : Heap) (locs1 : List Loc), post r u → va_P D vwCl (wd u) H1 → va_P D vwCl wo H1 → va_S (lA s) s.heap H1 locs1 → W p l e R s m args below meth c H1 locs1 cells slots Q (F0 m (pc + 3) ls (.int r :: rest))) : W p l e R s m args below meth c H locs cells slots Q (F0 m pc ls st0) :=
  va_calli hr hS (fun q _ h => h.elim (hA q) (Nat.le_trans hS.1)) (fun q h => h.elim (hA q) (Nat.le_trans hS.1)) (fun r u t H1 locs1 ht _ hw hB _ hk hS1 => kk r u H1 locs1 hw (by subst ht; exact hB) (hPo.kept (fun k q hq => hk q.1 ((hPo k q hq).lt) (fun z => z.elim (hdis k q hq) (fun z => absurd ((hPo k q hq).lt) (Nat.not_lt.mpr z))))) hS1)
theorem gLd {post : UInt64 → σ → Prop} (hr : va_Run p l e R s m args below meth c H locs cells slots 0 0 (F0 m pc ls st0) rest (va_Qd post (gB D wd) (gA A0 H.size) av) (gA A0 H.size)) (hPo : va_P D vwCl wo H) (hdis : ∀ (k : Nat) (q : Nat × va_E), wo[k]? = some q → ¬ A0 q.1) (hA : ∀ q, A0 q → s.heap.size ≤ q) (hS : va_S (lA s) s.heap H locs)
    (kk : ∀ (r : UInt64) (u : σ) (H1 : Heap) (locs1 : List Loc), post r u → va_P D vwCl (wd u) H1 → va_P D vwCl wo H1 → va_S (lA s) s.heap H1 locs1 → W p l e R s m args below meth c H1 locs1 cells slots Q (F0 m (pc + 3) ls (.double r :: rest))) : W p l e R s m args below meth c H locs cells slots Q (F0 m pc ls st0) :=
  va_calld hr hS (fun q _ h => h.elim (hA q) (Nat.le_trans hS.1)) (fun q h => h.elim (hA q) (Nat.le_trans hS.1)) (fun r u t H1 locs1 ht _ hw hB _ hk hS1 => kk r u H1 locs1 hw (by subst ht; exact hB) (hPo.kept (fun k q hq => hk q.1 ((hPo k q hq).lt) (fun z => z.elim (hdis k q hq) (fun z => absurd ((hPo k q hq).lt) (Nat.not_lt.mpr z))))) hS1)
theorem xsl (hexec : p.tables.exec = Jvm.exec) (hb : c.code = cc) {b L : Nat} {xs : Nat → Int32} (hX : va_X b L xs s s.heap) (hbl : b < s.heap.size) (hS : va_S (lA s) s.heap H locs) {j : Nat} (hj : j < L) (hL : L ≤ 3072) (hdg : decode cc pc = .ok (.iaload, 1))
    (kk : W p l e R s m args below meth c H locs cells slots Q (F0 m (pc + 1) ls (.int (xs j) :: rest))) : W p l e R s m args below meth c H locs cells slots Q (F0 m pc ls (.int (nI j) :: .ref b :: rest)) :=
  va_sld hexec hb hX hbl (Nat.not_le.mpr hbl) hS (vp_in_nI hj (by omega)) hdg (by rw [nI_clamp (by omega)]; exact kk)
end LW
