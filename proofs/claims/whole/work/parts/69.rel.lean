/-! the class's own numbers and the reference's -/
theorem be_congr {g h : DF} : ∀ k : Nat, (∀ b, b ≤ k → g b = h b) → bestF g k = bestF h k
  | 0, _ => rfl
  | k + 1, q => by
    have ih := be_congr k (fun b hb => q b (by omega))
    have l := be_le h k
    show (if dlt (g (k + 1)) (g (bestF g k)) then k + 1 else bestF g k) = (if dlt (h (k + 1)) (h (bestF h k)) then k + 1 else bestF h k)
    rw [ih, q (k + 1) (Nat.le_refl _), q (bestF h k) (by omega)]
theorem ls_congr {g h : DF} : ∀ k : Nat, (∀ b, b < k → g b = h b) → lsF g k = lsF h k
  | 0, _ => rfl
  | k + 1, q => by
    show nI (bestF g k) = nI (bestF h k)
    rw [be_congr k (fun b hb => q b (by omega))]
def relR (C : CS) (E : ES) : Prop := match C, E with
  | (_, _, kp, kc, kn, _), (nQ, fu) => kc = min nQ 20 ∧ kn = nQ % 20 ∧ ∀ b, b < nQ → b < 20 → kp ((kn + 19 - b) % 20) = fu (nQ - 1 - b)
theorem ring_best {sp ac kp fu : DF} {kc kn nQ L : Nat} {r : IF × IF × Int32 × Int32 × Int32} (h : relR (sp, ac, kp, kc, kn, r) (nQ, fu)) (hL : L ≤ 20) : lsF (ringF kp kn) (min L kc) = lsF (fun b => fu (nQ - 1 - b)) (min L nQ) := by
  obtain ⟨h1, h2, h3⟩ := h
  rw [show min L kc = min L nQ by omega]
  refine ls_congr _ (fun b hb => ?_)
  exact h3 b (by omega) (by omega)
theorem ring_run {sp ac sp2 ac2 : DF} {k : KS} {E : ES} {o : Option UInt64} (h : relR (sp, ac, k) E) : relR (sp2, ac2, kpO o k) (fuO o E) := by
  obtain ⟨kp, kc, kn, r⟩ := k
  obtain ⟨nQ, fu⟩ := E
  obtain ⟨h1, h2, h3⟩ := h
  cases o with
  | none => exact ⟨h1, h2, h3⟩
  | some f =>
    refine ⟨by omega, by omega, fun b hb h20 => ?_⟩
    have hb : b < nQ + 1 := hb
    show vf_upd kp kn f (((kn + 1) % 20 + 19 - b) % 20) = vf_upd fu nQ f (nQ + 1 - 1 - b)
    by_cases e : b = 0
    · subst e
      rw [show ((kn + 1) % 20 + 19 - 0) % 20 = kn by omega, show nQ + 1 - 1 - 0 = nQ by omega, vf_eq, vf_eq]
    · rw [vf_ne (by omega), vf_ne (by omega), show ((kn + 1) % 20 + 19 - b) % 20 = (kn + 19 - (b - 1)) % 20 by omega, h3 (b - 1) (by omega) (by omega), show nQ - 1 - (b - 1) = nQ + 1 - 1 - b by omega]
theorem RP_ks {P : PS} {sp ac sp2 ac2 : DF} {k : KS} {o : Option UInt64} (h : RP P (sp, ac, k)) : RP P (sp2, ac2, kpO o k) := by
  obtain ⟨nP, tp, bt, dp⟩ := P
  obtain ⟨kp, kc, kn, aw, dw, su, ss, sd⟩ := k
  cases o with
  | none => exact h
  | some f => exact h
theorem upd_ne {f : IF} {a j : Nat} {x : Int32} (h : ¬ j = a) : upd f a x j = f j := by unfold upd; rw [if_neg h]
theorem upd_eq {f : IF} {a : Nat} {x : Int32} : upd f a x a = x := by unfold upd; rw [if_pos rfl]
theorem panel_ok {S u : XS} {a b d r : Int32} {E : ES} (h : qX_panel S a b d r u) (hR : RP S.1.2.2.2.2 S.2) (hE : relR S.2 E) : q_panel S.1 a b d r u.1 ∧ RP u.1.2.2.2.2 u.2 ∧ relR u.2 E := by
  obtain ⟨⟨⟨nN, px, py, pz, fx, fy, fz, lf, ld, fi⟩, ⟨nB, fr, tt, ln, wi, sg, pu⟩, ⟨nR, rd, rx, ry, wv, fo⟩, ⟨re, dg⟩, ⟨nP, tp, bt, dp⟩⟩, ⟨sp, ac, kp, kc, kn, aw, dw, su, ss, sd⟩⟩ := S
  rcases h with ⟨c, rfl, rfl⟩ | ⟨c, rfl, rfl⟩
  · refine ⟨Or.inl ⟨c, rfl, rfl⟩, ?_, hE⟩
    obtain ⟨h1, h2⟩ := hR
    have g : ∀ k, k ≤ nP → shA (upd tp nP a) (upd bt nP b) (upd dp nP d) k = shA tp bt dp k := fun k hk => shA_congr k (fun j hj => ⟨upd_ne (by omega), upd_ne (by omega), upd_ne (by omega)⟩)
    refine ⟨?_, fun j hj => ?_⟩
    · show shStep _ _ (shA (upd tp nP a) (upd bt nP b) (upd dp nP d) nP) = _
      rw [g nP (Nat.le_refl _), h1]
    · have hj : j < nP + 1 := hj
      rw [g j (by omega)]
      by_cases e : j = nP
      · subst e
        rw [h1]
        show _ = (upd aw _ _ _, upd dw _ _ _)
        rw [upd_eq, upd_eq]
      · have w : wideF (upd tp nP a) (upd bt nP b) j = wideF tp bt j := by unfold wideF; rw [upd_ne e, upd_ne e]
        rw [w, h2 j (by omega)]
        show _ = (upd aw _ _ _, upd dw _ _ _)
        rw [upd_ne e, upd_ne e]
  · exact ⟨Or.inr ⟨c, rfl, rfl⟩, hR, hE⟩
