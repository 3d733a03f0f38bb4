theorem arr_of {s : State} {ty : FieldType} {c : ClassId} {k : Class} {comp : ClassId} (h2 : s.vm.classes[c]? = some k) (h3 : k.kind = .array comp ty) : ArrOfT s c ty := fun n z => ⟨fun k h => (by cases h), k, h2, comp, h3⟩
set_option maxHeartbeats 4000000 in
set_option maxRecDepth 100000 in
theorem law_K {p : Program} {s : State} {m : MethodId} {meth : Method} {c : Code} {b L : Nat} {xs : Nat → Int32} (C0 : lw_At p s m meth c b L xs) : ∃ (D : va_G) (cs : Nat → ClassId), EC D cs s ∧ EX D cs s ∧ EM D cs s := by
  obtain ⟨hx, hb, hr, hml, hown, hts0, hX, hbl, hlocks, hgv⟩ := id C0
  obtain ⟨c0, j0, hKn0⟩ := u_known (C := RX0) (T := TX0) (N := 7) (n := 7) hts0 inX0 (hts0 (.instantiable RX0 7) (by decide +kernel))
  obtain ⟨c1, j1, hKn1⟩ := u_known (C := RX1) (T := TX1) (N := 7) (n := 7) hts0 inX1 (hts0 (.instantiable RX1 7) (by decide +kernel))
  obtain ⟨c2, j2, hKn2⟩ := u_known (C := RX2) (T := TX2) (N := 3) (n := 3) hts0 inX2 (hts0 (.instantiable RX2 3) (by decide +kernel))
  obtain ⟨c3, j3, hKn3⟩ := u_known (C := RX3) (T := TX3) (N := 6) (n := 6) hts0 inX3 (hts0 (.instantiable RX3 6) (by decide +kernel))
  obtain ⟨c4, j4, hKn4⟩ := u_known (C := RX4) (T := TX4) (N := 9) (n := 9) hts0 inX4 (hts0 (.instantiable RX4 9) (by decide +kernel))
  obtain ⟨c5, j5, hKn5⟩ := u_known (C := RX5) (T := TX5) (N := 6) (n := 6) hts0 inX5 (hts0 (.instantiable RX5 6) (by decide +kernel))
  obtain ⟨c6, j6, hKn6⟩ := u_known (C := RX6) (T := TX6) (N := 6) (n := 6) hts0 inX6 (hts0 (.instantiable RX6 6) (by decide +kernel))
  obtain ⟨c7, j7, hKn7⟩ := u_known (C := RX7) (T := TX7) (N := 31) (n := 31) hts0 inX7 (hts0 (.instantiable RX7 31) (by decide +kernel))
  obtain ⟨aD, kD, pD, fD, gD, hD⟩ := Cond.arrayClass_spec (hts0 (.arrayClass .double) (by decide +kernel))
  obtain ⟨aI, kI, pI, fI, gI, hI⟩ := Cond.arrayClass_spec (hts0 (.arrayClass .int) (by decide +kernel))
  obtain ⟨aZ, kZ, pZ, fZ, gZ, hZ⟩ := Cond.arrayClass_spec (hts0 (.arrayClass .boolean) (by decide +kernel))
  have hov : (Cond.arrayOver (.array .double)).before #[Value.ref b] s = true := hts0 (.arrayOver (.array .double)) (by decide +kernel)
  obtain ⟨pW, aW, kW, qW, -, gW, hW, fW⟩ := arrayOverA_spec hov
  have hK : va_K (fun k => if k = 0 then c0 else if k = 1 then c1 else if k = 2 then c2 else if k = 3 then c3 else if k = 4 then c4 else if k = 5 then c5 else if k = 6 then c6 else c7, fun k => if k = 0 then j0 else if k = 1 then j1 else if k = 2 then j2 else if k = 3 then j3 else if k = 4 then j4 else if k = 5 then j5 else if k = 6 then j6 else j7) vwCl (tysX (fun k => if k = 0 then aD else if k = 1 then aI else if k = 2 then aZ else aW)) s := by
    refine ⟨fun k q hq => ?_, fun k q hq => ?_⟩
    · match k, hq with
      | 0, hq => cases hq; exact hKn0
      | 1, hq => cases hq; exact hKn1
      | 2, hq => cases hq; exact hKn2
      | 3, hq => cases hq; exact hKn3
      | 4, hq => cases hq; exact hKn4
      | 5, hq => cases hq; exact hKn5
      | 6, hq => cases hq; exact hKn6
      | 7, hq => cases hq; exact hKn7
      | k + 8, hq => simp [vwCl] at hq
    · match k, hq with
      | 0, hq => cases hq; exact ⟨arr_of gD hD, fD⟩
      | 1, hq => cases hq; exact ⟨arr_of gI hI, fI⟩
      | 2, hq => cases hq; exact ⟨arr_of gZ hZ, fZ⟩
      | 3, hq => cases hq; exact ⟨arr_of gW hW, fW⟩
      | k + 4, hq => simp [tysX] at hq
  exact ⟨_, _, ⟨hK, hov, va_Nw.of rfl (hts0 (.methodLinkNest RX6 9 yX3_init RX6) (by decide +kernel)), va_Nw.of rfl (hts0 (.methodLinkNest RX6 18 yX1_init RX6) (by decide +kernel)), va_Nw.of rfl (hts0 (.methodLinkNest RX6 25 yX5_init RX6) (by decide +kernel)), va_Nw.of rfl (hts0 (.methodLinkNest RX6 41 yX2_init RX6) (by decide +kernel)), va_Nw.of rfl (hts0 (.methodLinkNest RX6 48 yX4_init RX6) (by decide +kernel))⟩, ⟨hK, va_Nw.of rfl (hts0 (.methodLinkNest RX0 82 yX6_root RX6) (by decide +kernel)), va_Nw.of rfl (hts0 (.methodLinkNest RX3 34 yX6_size RX6) (by decide +kernel))⟩, ⟨hK, trivial⟩⟩
theorem map_get {ws : va_W} {ad : Nat → Nat} {n : Nat} (e : ws.map Prod.fst = (List.range n).map ad) {i : Nat} (hi : i < n) : ∃ q : Nat × va_E, ws[i]? = some q ∧ q.1 = ad i := by
  have h : (ws.map Prod.fst)[i]? = some (ad i) := by rw [e, List.getElem?_map, List.getElem?_range hi]; rfl
  rw [List.getElem?_map] at h
  cases hq : ws[i]? with
  | none => rw [hq] at h; cases h
  | some q => rw [hq] at h; exact ⟨q, rfl, Option.some.inj h⟩
theorem dist_of {A : Nat → Prop} {ws : va_W} {ad : Nat → Nat} {n : Nat} (e : ws.map Prod.fst = (List.range n).map ad) (hD : va_D A ws) : (∀ i j, i < n → j < n → ad i = ad j → i = j) ∧ ∀ k, k < n → A (ad k) := by
  refine ⟨fun i j hi hj h => ?_, fun k hk => ?_⟩
  · obtain ⟨q, h1, h2⟩ := map_get e hi
    obtain ⟨r, h3, h4⟩ := map_get e hj
    exact hD.1 i j q r h1 h3 (by rw [h2, h4, h])
  · obtain ⟨q, h1, h2⟩ := map_get e hk
    rw [← h2]
    exact hD.2 k q h1
theorem apart_of {A : Nat → Prop} {w1 w2 : va_W} {ad bd : Nat → Nat} {n k : Nat} (e1 : w1.map Prod.fst = (List.range n).map ad) (e2 : w2.map Prod.fst = (List.range k).map bd) (hD : va_D A (w1 ++ w2)) {i j : Nat} (hi : i < n) (hj : j < k) : ¬ ad i = bd j := by
  intro h
  obtain ⟨q, h1, h2⟩ := map_get e1 hi
  obtain ⟨r, h3, h4⟩ := map_get e2 hj
  have hl : w1.length = n := by
    have := congrArg List.length e1
    simpa using this
  have g1 : (w1 ++ w2)[i]? = some q := by rw [List.getElem?_append_left (by omega)]; exact h1
  have g2 : (w1 ++ w2)[n + j]? = some r := by rw [List.getElem?_append_right (by omega), hl, Nat.add_sub_cancel_left]; exact h3
  have := hD.1 i (n + j) q r g1 g2 (by rw [h2, h4, h])
  omega
set_option maxHeartbeats 4000000 in
set_option maxRecDepth 100000 in
theorem whole_start {p : Program} {e : Env} {s : State} {m : MethodId} {below : List Frame} {meth : Method} {c : Code} (l : Launch) {b L : Nat} {xs : Nat → Int32} (hL : L ≤ 3072) (C0 : lw_At p s m meth c b L xs) : W p l e room_1 s m #[Value.ref b] below meth c s.heap [] 0 0 (lw_Z below #[Value.ref b] s) (entryFrame m ([Value.ref b] : List Value).toArray 8) := by
  obtain ⟨hx, hb, hr, hml, hown, hts0, hX, hbl, hlocks, hgv⟩ := id C0
  obtain ⟨D, cs, hEC, hEx, hEm⟩ := law_K C0
  have hown : s.vm.findClass RL = some m.cls := hown
  have hK : va_K D vwCl (tysX cs) s := hEC.1
  have hts : ∀ w ∈ wsL_law, w.before #[Value.ref b] s = true := fun w h => hts0 w (wsL_law_in w h)
  have hA : ∀ q, s.heap.size ≤ q → lA s q := fun _ h => h
  have hS : va_S (lA s) s.heap s.heap [] := va_S.rf
  have hP : va_P D vwCl [] s.heap := fun k q h => by simp at h
  have hD : va_D (lA s) [] := ⟨fun i j p q h => by simp at h, fun k q h => by simp at h⟩
  have hl := lv_entry ([.ref b]) (n := 8) (Nat.le_of_ble_eq_true rfl)
  rw [lg_entry_eq]
  generalize (lg_sl ([.ref b]) ++ List.replicate (8 - (lg_sl ([.ref b])).length) Slot.unset).toArray = ls at hl ⊢
  have hl : lv_has ls 8 [(0, .ref b)] := hl
  refine va_new (D := D) (ci := 6) (fs := [.null, .null, .null, .null, .null, .null]) (C := RX6) (T := TX6) (N := 6) hx hb hts inlX6 tyX6 tyX6_ok hown (hts (.classLink RL 7 RX6) (by decide +kernel)) (hts (.instantiable RX6 6) (by decide +kernel)) (hts (.initialized RX6) (by decide +kernel)) hK hP hD hS hA rfl (fun j hj => by rcases (show j = 0 ∨ j = 1 ∨ j = 2 ∨ j = 3 ∨ j = 4 ∨ j = 5 by omega) with rfl | rfl | rfl | rfl | rfl | rfl <;> rfl) (Nat.le_of_ble_eq_true rfl) (Nat.le_of_ble_eq_true rfl) dL_law_0 (fun qx H hP hD hS => ?_)
  have hP : va_P D vwCl [(qx, .inr (6, [.null, .null, .null, .null, .null, .null]))] H := hP
  have hD : va_D (lA s) [(qx, .inr (6, [.null, .null, .null, .null, .null, .null]))] := hD
  refine W.widen (k := 1) (n := 6) (by omega) (by omega) ?_
  refine lv_dup hx hb dL_law_3 rfl ?_
  have hFc := va_free (wc := [(qx, .inr (6, [.null, .null, .null, .null, .null, .null]))]) hD hS hA [0] rfl
  refine va_callv (va_runI (As := []) (rest := [.ref qx]) ⟨hx, hb, hml, hown, hts⟩ (kX6_init l D cs qx H.size) (cwI 0 hts gL_law_X6_init rfl rfl rfl (hts (.initialized RX6) (by decide +kernel)) (hts (.methodLink RL 9 yX6_init) (by decide +kernel)) (hts (.instanceMethod yX6_init) (by decide +kernel)) rfl (by decide +kernel) ⟨Nat.le_of_ble_eq_true rfl, Nat.le_of_ble_eq_true rfl⟩) (gPreS EC_bl hP (fun U _ hW => EC_warm hW hEC)) rfl rfl hl.1 rfl (lv_room (Nat.le_of_ble_eq_true rfl)) dL_law_4 ⟨Nat.le_of_ble_eq_true rfl, Nat.le_of_ble_eq_true rfl⟩) hS (fun q _ h => hFc q h) hFc (fun ad t H1 locs ht hvm hw hB hz1 hk1 hS => ?_)
  obtain ⟨hP1, hD1, ha0⟩ := hB
  rw [ht] at hP1
  obtain ⟨hP, hD⟩ := va_join (wr := []) (w1 := WX cs ad SX0) hP hD [0] [] rfl rfl (by decide) (by decide) hk1 hFc hP1 hD1
  clear hk1 hz1 ht hP1
  generalize H1 = H at hP hS ⊢
  have hPq : va_P D vwCl (WX cs ad SX0) H := hP
  have hDq : va_D (lA s) (WX cs ad SX0) := hD
  clear hFc hD1
  subst ha0
  have hP := hPq
  have hD := hDq
  refine W.widen (k := 36) (n := 889) (by omega) (by omega) ?_
  refine lv_astore_n (lv' := [(1, .ref (ad 0)), (0, .ref b)]) hx hb dL_law_7 rfl hl (by decide) rfl (fun ls hl => ?_)
  refine va_new (D := D) (ci := 7) (fs := [.int 0, .null, .null, .null, .null, .null, .null, .null, .null, .null, .int 0, .null, .null, .null, .null, .null, .null, .int 0, .null, .null, .null, .double 0, .double 0, .double 0, .null, .int 0, .null, .int 0, .null, .null, .null]) (C := RX7) (T := TX7) (N := 31) hx hb hts inlX7 tyX7 tyX7_ok hown (hts (.classLink RL 10 RX7) (by decide +kernel)) (hts (.instantiable RX7 31) (by decide +kernel)) (hts (.initialized RX7) (by decide +kernel)) hK hP hD hS hA rfl (fun j hj => by rcases (show j = 0 ∨ j = 1 ∨ j = 2 ∨ j = 3 ∨ j = 4 ∨ j = 5 ∨ j = 6 ∨ j = 7 ∨ j = 8 ∨ j = 9 ∨ j = 10 ∨ j = 11 ∨ j = 12 ∨ j = 13 ∨ j = 14 ∨ j = 15 ∨ j = 16 ∨ j = 17 ∨ j = 18 ∨ j = 19 ∨ j = 20 ∨ j = 21 ∨ j = 22 ∨ j = 23 ∨ j = 24 ∨ j = 25 ∨ j = 26 ∨ j = 27 ∨ j = 28 ∨ j = 29 ∨ j = 30 by omega) with rfl | rfl | rfl | rfl | rfl | rfl | rfl | rfl | rfl | rfl | rfl | rfl | rfl | rfl | rfl | rfl | rfl | rfl | rfl | rfl | rfl | rfl | rfl | rfl | rfl | rfl | rfl | rfl | rfl | rfl | rfl <;> rfl) (Nat.le_of_ble_eq_true rfl) (Nat.le_of_ble_eq_true rfl) dL_law_8 (fun qm H hP hD hS => ?_)
  refine W.widen (k := 37) (n := 920) (by omega) (by omega) ?_
  refine lv_dup hx hb dL_law_11 rfl ?_
  have hPc := hP.sub (ws' := [(qm, .inr (7, [.int 0, .null, .null, .null, .null, .null, .null, .null, .null, .null, .int 0, .null, .null, .null, .null, .null, .null, .int 0, .null, .null, .null, .double 0, .double 0, .double 0, .null, .int 0, .null, .int 0, .null, .null, .null]))]) [36] rfl
  have hFc := va_free (wc := [(qm, .inr (7, [.int 0, .null, .null, .null, .null, .null, .null, .null, .null, .null, .int 0, .null, .null, .null, .null, .null, .null, .int 0, .null, .null, .null, .double 0, .double 0, .double 0, .null, .int 0, .null, .int 0, .null, .null, .null]))]) hD hS hA [36] rfl
  refine va_callv (va_runI (As := []) (rest := [.ref qm]) ⟨hx, hb, hml, hown, hts⟩ (kX7_init l D cs qm H.size) (cwI 0 hts gL_law_X7_init rfl rfl rfl (hts (.initialized RX7) (by decide +kernel)) (hts (.methodLink RL 12 yX7_init) (by decide +kernel)) (hts (.instanceMethod yX7_init) (by decide +kernel)) rfl (by decide +kernel) ⟨Nat.le_of_ble_eq_true rfl, Nat.le_of_ble_eq_true rfl⟩) (gPreS EC_bl hPc (fun U _ hW => EC_warm hW hEC)) rfl rfl hl.1 rfl (lv_room (Nat.le_of_ble_eq_true rfl)) dL_law_12 ⟨Nat.le_of_ble_eq_true rfl, Nat.le_of_ble_eq_true rfl⟩) hS (fun q _ h => hFc q h) hFc (fun bd t H1 locs ht hvm hw hB hz1 hk1 hS => ?_)
  obtain ⟨hP1, hD1, hb0⟩ := hB
  rw [ht] at hP1
  obtain ⟨hP, hD⟩ := va_join (wr := WX cs ad SX0) (w1 := WM cs bd SM0) hP hD [36] [0, 1, 2, 3, 4, 5, 6, 7, 8, 9, 10, 11, 12, 13, 14, 15, 16, 17, 18, 19, 20, 21, 22, 23, 24, 25, 26, 27, 28, 29, 30, 31, 32, 33, 34, 35] rfl rfl (by decide) (by decide) hk1 hFc hP1 hD1
  clear hk1 hz1 ht hP1 hPc
  generalize H1 = H at hP hS ⊢
  have hPq := hP
  have hDq := hD
  clear hFc hD1
  subst hb0
  have hP := hPq
  have hD := hDq
  have hPx : va_P D vwCl (WX cs ad SX0) H := hP.sub [0, 1, 2, 3, 4, 5, 6, 7, 8, 9, 10, 11, 12, 13, 14, 15, 16, 17, 18, 19, 20, 21, 22, 23, 24, 25, 26, 27, 28, 29, 30, 31, 32, 33, 34, 35] rfl
  have hPm : va_P D vwCl (WM cs bd SM0) H := hP.sub [36, 37, 38, 39, 40, 41, 42, 43, 44, 45, 46, 47, 48, 49, 50, 51, 52, 53, 54, 55, 56, 57, 58, 59] rfl
  have dX := dist_of (WX_map cs ad SX0) (hD.sub (ws' := WX cs ad SX0) [0, 1, 2, 3, 4, 5, 6, 7, 8, 9, 10, 11, 12, 13, 14, 15, 16, 17, 18, 19, 20, 21, 22, 23, 24, 25, 26, 27, 28, 29, 30, 31, 32, 33, 34, 35] (by decide) rfl)
  have dM := dist_of (WM_map cs bd SM0) (hD.sub (ws' := WM cs bd SM0) [36, 37, 38, 39, 40, 41, 42, 43, 44, 45, 46, 47, 48, 49, 50, 51, 52, 53, 54, 55, 56, 57, 58, 59] (by decide) rfl)
  have C1 : lawC p s m c b L xs D cs ad bd := ⟨hx, hb, hml, hown, hts, hX, hbl, hK, hEx, hEm, dX.1, dM.1, fun q ⟨k, hk, eq⟩ => by rw [eq]; exact dX.2 k hk, fun q ⟨k, hk, eq⟩ => by rw [eq]; exact dM.2 k hk, fun q ⟨k, hk, eq⟩ ⟨j, hj, eq2⟩ => apart_of (WX_map cs ad SX0) (WM_map cs bd SM0) hD hk hj (eq.symm.trans eq2), hL⟩
  refine W.widen (k := 600000) (n := 7302249) (by omega) (by omega) ?_
  refine lv_astore_n (lv' := [(2, .ref (bd 0)), (1, .ref (ad 0)), (0, .ref b)]) hx hb dL_law_15 rfl hl (by decide) rfl (fun ls hl => ?_)
  refine lv_iconst (v := nI 0) hx hb dL_law_16 (by decide) ?_
  refine lv_istore_n (lv' := [(3, .int (nI 0)), (2, .ref (bd 0)), (1, .ref (ad 0)), (0, .ref b)]) hx hb dL_law_17 rfl hl (by decide) rfl (fun ls hl => ?_)
  by_cases h6 : 6 ≤ L
  · refine law_loop C1 hr hlocks h6 (L + 1) 0 SX0.1 SX0.2 SM0.2 H locs ls (by omega) (by omega) ⟨hPx, hPm, hS, ?_, ?_, ?_, by decide⟩ (lv_sub hl [3, 2, 1, 0] rfl)
    · refine ⟨⟨by decide, by decide, by decide, fun i hi => absurd hi (Nat.not_lt_zero i), fun i hi => absurd hi (Nat.not_lt_zero i), ⟨fun i j _ hj => absurd hj (Nat.not_lt_zero j), fun j hj => absurd hj (Nat.not_lt_zero j)⟩, fB_mono fB_c0 (by decide), fB_mono fB_c0 (by decide), fun j hj => absurd hj (Nat.not_lt_zero j)⟩, fun j hj => absurd hj (Nat.not_lt_zero j), fun j => ⟨fB_mono fB_c0 (by decide), fB_mono fB_c0 (by decide)⟩, by decide, fun j hj => absurd hj (Nat.not_lt_zero j)⟩
    · exact ⟨rfl, fun j hj => absurd hj (Nat.not_lt_zero j)⟩
    · exact ⟨rfl, rfl, fun b hb => absurd hb (Nat.not_lt_zero b)⟩
  · refine lv_iload_n hx hb dL_law_18 rfl (lv_at hl 0 rfl) ?_
    refine lv_aload_n hx hb dL_law_19 rfl (lv_at hl 3 rfl) ?_
    refine va_slen hx hb hX hbl (Nat.not_le.mpr hbl) hS dL_law_20 ?_
    refine lv_bipush (v := nI 6) hx hb dL_law_21 (by decide) ?_
    refine lv_isub hx hb dL_law_23 ?_
    refine lv_icmp_gt (tgt := 1098) hx hb dL_law_24 (by decide) (fun c1 => ?_) (fun c1 => absurd (by rcases (show L = 0 ∨ L = 1 ∨ L = 2 ∨ L = 3 ∨ L = 4 ∨ L = 5 by omega) with rfl | rfl | rfl | rfl | rfl | rfl <;> decide) c1)
    refine va_forget hS.2.2 ?_
    refine lv_iconst (v := 1) hx hb dL_law_1098 (by decide) ?_
    exact lw_ret hx hb hr hlocks dL_law_1099
