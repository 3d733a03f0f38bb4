/-! the law, call by call -/
set_option maxHeartbeats 4000000 in
set_option maxRecDepth 100000 in
theorem law_0 {p : Program} {l : Launch} {e : Env} {s : State} {m : MethodId} {below : List Frame} {meth : Method} {c : Code} {Q : State → Prop} {b L : Nat} {xs : Nat → Int32} {D : va_G} {cs : Nat → ClassId} {ad bd : Nat → Nat} (C0 : lawC p s m c b L xs D cs ad bd) {i : Nat} (hi : i + 6 ≤ L) {G : GS} {C : CS} {E : ES} {H : Heap} {locs : List Loc} (hT : lst D cs ad bd i G C E s H locs) {ls : Array Slot} (hl : lv_has ls 8 [(0, .ref b), (1, .ref (ad 0)), (2, .ref (bd 0)), (3, .int (nI i))]) (kk : ∀ (G2 : GS) (C2 : CS) (E2 : ES) (H : Heap) (locs : List Loc) (ls : Array Slot), lst D cs ad bd (i + 6) G2 C2 E2 s H locs → lv_has ls 8 [(0, .ref b), (1, .ref (ad 0)), (2, .ref (bd 0)), (3, .int (nI i))] → W p l e room_1 s m #[Value.ref b] below meth c H locs 600000 7302249 Q (F0 m 1092 ls [])) : W p l e room_1 s m #[Value.ref b] below meth c H locs 600000 7302249 Q (F0 m 136 ls []) := by
  obtain ⟨hx, hb, hml, hown, hts, hX, hbl, hK, hEx, hEm, hd, hdm, hAx, hAm, hAD, hL⟩ := C0
  obtain ⟨⟨nN, px, py, pz, fx, fy, fz, lf, ld, fi⟩, ⟨nB, fr, tt, ln, wi, sg, pu⟩, ⟨nR, rd, rx, ry, wv, fo⟩, ⟨re, dg⟩, ⟨nP, tp, bt, dp⟩⟩ := G
  obtain ⟨sp, ac, kp, kc, kn, aw, dw, su, ss, sd⟩ := C
  obtain ⟨nQ, fu⟩ := E
  obtain ⟨hPx, hPm, hS, hI, hRP, hRR, hQ6⟩ := hT
  have hQ6 : 6 * nQ ≤ i := hQ6
  have hnQ : nQ ≤ 512 := by omega
  have hnQ6 : nQ < 600 := by omega
  have hkc : kc ≤ 20 := by have := hRR.1; omega
  have hkn : kn < 20 := by have := hRR.2.1; omega
  have hnN : nN ≤ 30 := hI.1.1
  have hnB : nB ≤ 60 := hI.1.2.1
  have hnR : nR ≤ 10 := hI.1.2.2.1
  have hso : sorted rd nR := hI.1.2.2.2.2.2.1.1
  have hnP : nP ≤ 30 := hI.2.2.2.1
  have hdp : ∀ j, j < nP → ¬ dp j = 0 := hI.2.2.2.2
  have hpos : posOK nN px py pz := fun j hj => ⟨pP_pOK (hI.2.1 j hj).1 (by omega), pP_pOK (hI.2.1 j hj).2.1 (by omega), pP_pOK (hI.2.1 j hj).2.2 (by omega)⟩
  have c_13 := hts (.constantDouble RL 13 4593671619917905920) (by decide +kernel)
  refine lv_aload_n hx hb dL_law_136 rfl (lv_at hl 1 rfl) ?_
  refine lv_aload_n hx hb dL_law_137 rfl (lv_at hl 0 rfl) ?_
  refine lv_iload_n hx hb dL_law_138 rfl (lv_at hl 3 rfl) ?_
  refine lv_iconst (v := nI 1) hx hb dL_law_139 (by decide) ?_
  refine xia hx hb (i + 1) dL_law_140 rfl ?_
  refine xsl hx hb hX hbl hS (show i + 1 < L by omega) hL dL_law_141 ?_
  refine lv_i2d hx hb dL_law_142 ?_
  refine lv_ldc2d hx hb hown c_13 dL_law_143 ?_
  refine lv_dmul hx hb dL_law_146 (fB_ne (e8_fB (xs (i + 1))) (by decide)) ?_
  refine lv_topd (fun t_146 et_146 => ?_)
  have et_146 : e8 (xs (i + 1)) = t_146 := et_146.symm
  subst et_146
  refine lv_aload_n hx hb dL_law_147 rfl (lv_at hl 0 rfl) ?_
  refine lv_iload_n hx hb dL_law_148 rfl (lv_at hl 3 rfl) ?_
  refine lv_iconst (v := nI 2) hx hb dL_law_149 (by decide) ?_
  refine xia hx hb (i + 2) dL_law_150 rfl ?_
  refine xsl hx hb hX hbl hS (show i + 2 < L by omega) hL dL_law_151 ?_
  refine lv_i2d hx hb dL_law_152 ?_
  refine lv_ldc2d hx hb hown c_13 dL_law_153 ?_
  refine lv_dmul hx hb dL_law_156 (fB_ne (e8_fB (xs (i + 2))) (by decide)) ?_
  refine lv_topd (fun t_156 et_156 => ?_)
  have et_156 : e8 (xs (i + 2)) = t_156 := et_156.symm
  subst et_156
  refine lv_aload_n hx hb dL_law_157 rfl (lv_at hl 0 rfl) ?_
  refine lv_iload_n hx hb dL_law_158 rfl (lv_at hl 3 rfl) ?_
  refine lv_iconst (v := nI 3) hx hb dL_law_159 (by decide) ?_
  refine xia hx hb (i + 3) dL_law_160 rfl ?_
  refine xsl hx hb hX hbl hS (show i + 3 < L by omega) hL dL_law_161 ?_
  refine lv_i2d hx hb dL_law_162 ?_
  refine lv_ldc2d hx hb hown c_13 dL_law_163 ?_
  refine lv_dmul hx hb dL_law_166 (fB_ne (e8_fB (xs (i + 3))) (by decide)) ?_
  refine lv_topd (fun t_166 et_166 => ?_)
  have et_166 : e8 (xs (i + 3)) = t_166 := et_166.symm
  subst et_166
  refine gLi (va_runV (As := [.double (e8 (xs (i + 1))), .double (e8 (xs (i + 2))), .double (e8 (xs (i + 3)))]) (rest := []) ⟨hx, hb, hml, hown, hts⟩ (kX6_node l D cs ad hd H.size (((nN, px, py, pz, fx, fy, fz, lf, ld, fi), (nB, fr, tt, ln, wi, sg, pu), (nR, rd, rx, ry, wv, fo), (re, dg), (nP, tp, bt, dp)), (sp, ac, kp, kc, kn, aw, dw, su, ss, sd)) hnN (e8 (xs (i + 1))) (e8 (xs (i + 2))) (e8 (xs (i + 3)))) (cwV 3 hts gL_law_X6_node rfl rfl rfl (by decide +kernel) ⟨Nat.le_of_ble_eq_true rfl, Nat.le_of_ble_eq_true rfl⟩) (gPreV EX_bl (va_recv hK hPx (ci := 6) (q0 := 0) rfl rfl) hPx (fun U _ hW => EX_warm hW hEx)) rfl rfl hl.1 rfl (lv_room (Nat.le_of_ble_eq_true rfl)) dL_law_167 ⟨Nat.le_of_ble_eq_true rfl, Nat.le_of_ble_eq_true rfl⟩) hPm (fun k q hq h => hAD q.1 h (WM_at hq)) hAx hS (fun r1 u1 H locs hw1 hPx hPm hS => ?_)
  refine lv_aload_n hx hb dL_law_170 rfl (lv_at hl 2 rfl) ?_
  refine lv_aload_n hx hb dL_law_171 rfl (lv_at hl 0 rfl) ?_
  refine lv_iload_n hx hb dL_law_172 rfl (lv_at hl 3 rfl) ?_
  refine lv_iconst (v := nI 1) hx hb dL_law_173 (by decide) ?_
  refine xia hx hb (i + 1) dL_law_174 rfl ?_
  refine xsl hx hb hX hbl hS (show i + 1 < L by omega) hL dL_law_175 ?_
  refine lv_i2d hx hb dL_law_176 ?_
  refine lv_ldc2d hx hb hown c_13 dL_law_177 ?_
  refine lv_dmul hx hb dL_law_180 (fB_ne (e8_fB (xs (i + 1))) (by decide)) ?_
  refine lv_topd (fun t_180 et_180 => ?_)
  have et_180 : e8 (xs (i + 1)) = t_180 := et_180.symm
  subst et_180
  refine lv_aload_n hx hb dL_law_181 rfl (lv_at hl 0 rfl) ?_
  refine lv_iload_n hx hb dL_law_182 rfl (lv_at hl 3 rfl) ?_
  refine lv_iconst (v := nI 2) hx hb dL_law_183 (by decide) ?_
  refine xia hx hb (i + 2) dL_law_184 rfl ?_
  refine xsl hx hb hX hbl hS (show i + 2 < L by omega) hL dL_law_185 ?_
  refine lv_i2d hx hb dL_law_186 ?_
  refine lv_ldc2d hx hb hown c_13 dL_law_187 ?_
  refine lv_dmul hx hb dL_law_190 (fB_ne (e8_fB (xs (i + 2))) (by decide)) ?_
  refine lv_topd (fun t_190 et_190 => ?_)
  have et_190 : e8 (xs (i + 2)) = t_190 := et_190.symm
  subst et_190
  refine lv_aload_n hx hb dL_law_191 rfl (lv_at hl 0 rfl) ?_
  refine lv_iload_n hx hb dL_law_192 rfl (lv_at hl 3 rfl) ?_
  refine lv_iconst (v := nI 3) hx hb dL_law_193 (by decide) ?_
  refine xia hx hb (i + 3) dL_law_194 rfl ?_
  refine xsl hx hb hX hbl hS (show i + 3 < L by omega) hL dL_law_195 ?_
  refine lv_i2d hx hb dL_law_196 ?_
  refine lv_ldc2d hx hb hown c_13 dL_law_197 ?_
  refine lv_dmul hx hb dL_law_200 (fB_ne (e8_fB (xs (i + 3))) (by decide)) ?_
  refine lv_topd (fun t_200 et_200 => ?_)
  have et_200 : e8 (xs (i + 3)) = t_200 := et_200.symm
  subst et_200
  refine gLi (va_runV (As := [.double (e8 (xs (i + 1))), .double (e8 (xs (i + 2))), .double (e8 (xs (i + 3)))]) (rest := [.int r1]) ⟨hx, hb, hml, hown, hts⟩ (kX7_node l D cs bd hdm H.size (((nN, px, py, pz, fx, fy, fz, lf, ld, fi), (nB, fr, tt, ln, wi, sg, pu), (nR, rd, rx, ry, wv, fo), (re, dg), (nP, tp, bt, dp)), (nQ, fu)) hnN (e8 (xs (i + 1))) (e8 (xs (i + 2))) (e8 (xs (i + 3)))) (cwV 3 hts gL_law_X7_node rfl rfl rfl (by decide +kernel) ⟨Nat.le_of_ble_eq_true rfl, Nat.le_of_ble_eq_true rfl⟩) (gPreV EM_bl (va_recv hK hPm (ci := 7) (q0 := 0) rfl rfl) hPm (fun U _ hW => EM_warm hW hEm)) rfl rfl hl.1 rfl (lv_room (Nat.le_of_ble_eq_true rfl)) dL_law_201 ⟨Nat.le_of_ble_eq_true rfl, Nat.le_of_ble_eq_true rfl⟩) hPx (fun k q hq h => hAD q.1 (WX_at hq) h) hAm hS (fun r2 u2 H locs hw2 hPm hPx hS => ?_)
  obtain ⟨g1, k1⟩ := u1
  obtain ⟨g2, k2⟩ := u2
  obtain ⟨a1, b1⟩ := hw1
  obtain ⟨a2, b2⟩ := hw2
  have b1 : k1 = (sp, ac, kp, kc, kn, aw, dw, su, ss, sd) := b1
  have b2 : k2 = (nQ, fu) := b2
  obtain ⟨er, eg⟩ := q_node_det a1 a2
  have er : r1 = r2 := er
  have eg : g1 = g2 := eg
  subst b1
  subst b2
  subst er
  subst eg
  have hI2 : inv (4000 + 50 * i) g1 := inv_node (by omega) hI a1
  have hR2 : RP g1.2.2.2.2 (sp, ac, kp, kc, kn, aw, dw, su, ss, sd) := by rw [ps_node a1]; exact hRP
  have hfin : lst D cs ad bd (i + 6) g1 (sp, ac, kp, kc, kn, aw, dw, su, ss, sd) (nQ, fu) s H locs := ⟨hPx, hPm, hS, inv_mono hI2 (by omega), hR2, hRR, by show 6 * nQ ≤ i + 6; omega⟩
  refine lv_icmp_eq (tgt := 1092) hx hb dL_law_204 (by decide) (fun _ => ?_) (fun c9 => absurd rfl c9)
  exact kk _ _ _ H locs ls hfin (lv_sub hl [0, 1, 2, 3] rfl)
set_option maxHeartbeats 4000000 in
set_option maxRecDepth 100000 in
theorem law_1 {p : Program} {l : Launch} {e : Env} {s : State} {m : MethodId} {below : List Frame} {meth : Method} {c : Code} {Q : State → Prop} {b L : Nat} {xs : Nat → Int32} {D : va_G} {cs : Nat → ClassId} {ad bd : Nat → Nat} (C0 : lawC p s m c b L xs D cs ad bd) {i : Nat} (hi : i + 6 ≤ L) {G : GS} {C : CS} {E : ES} {H : Heap} {locs : List Loc} (hT : lst D cs ad bd i G C E s H locs) {ls : Array Slot} (hl : lv_has ls 8 [(0, .ref b), (1, .ref (ad 0)), (2, .ref (bd 0)), (3, .int (nI i))]) (kk : ∀ (G2 : GS) (C2 : CS) (E2 : ES) (H : Heap) (locs : List Loc) (ls : Array Slot), lst D cs ad bd (i + 6) G2 C2 E2 s H locs → lv_has ls 8 [(0, .ref b), (1, .ref (ad 0)), (2, .ref (bd 0)), (3, .int (nI i))] → W p l e room_1 s m #[Value.ref b] below meth c H locs 600000 7302249 Q (F0 m 1092 ls [])) : W p l e room_1 s m #[Value.ref b] below meth c H locs 600000 7302249 Q (F0 m 209 ls []) := by
  obtain ⟨hx, hb, hml, hown, hts, hX, hbl, hK, hEx, hEm, hd, hdm, hAx, hAm, hAD, hL⟩ := C0
  obtain ⟨⟨nN, px, py, pz, fx, fy, fz, lf, ld, fi⟩, ⟨nB, fr, tt, ln, wi, sg, pu⟩, ⟨nR, rd, rx, ry, wv, fo⟩, ⟨re, dg⟩, ⟨nP, tp, bt, dp⟩⟩ := G
  obtain ⟨sp, ac, kp, kc, kn, aw, dw, su, ss, sd⟩ := C
  obtain ⟨nQ, fu⟩ := E
  obtain ⟨hPx, hPm, hS, hI, hRP, hRR, hQ6⟩ := hT
  have hQ6 : 6 * nQ ≤ i := hQ6
  have hnQ : nQ ≤ 512 := by omega
  have hnQ6 : nQ < 600 := by omega
  have hkc : kc ≤ 20 := by have := hRR.1; omega
  have hkn : kn < 20 := by have := hRR.2.1; omega
  have hnN : nN ≤ 30 := hI.1.1
  have hnB : nB ≤ 60 := hI.1.2.1
  have hnR : nR ≤ 10 := hI.1.2.2.1
  have hso : sorted rd nR := hI.1.2.2.2.2.2.1.1
  have hnP : nP ≤ 30 := hI.2.2.2.1
  have hdp : ∀ j, j < nP → ¬ dp j = 0 := hI.2.2.2.2
  have hpos : posOK nN px py pz := fun j hj => ⟨pP_pOK (hI.2.1 j hj).1 (by omega), pP_pOK (hI.2.1 j hj).2.1 (by omega), pP_pOK (hI.2.1 j hj).2.2 (by omega)⟩
  have c_13 := hts (.constantDouble RL 13 4593671619917905920) (by decide +kernel)
  refine lv_aload_n hx hb dL_law_209 rfl (lv_at hl 1 rfl) ?_
  refine lv_aload_n hx hb dL_law_210 rfl (lv_at hl 0 rfl) ?_
  refine lv_iload_n hx hb dL_law_211 rfl (lv_at hl 3 rfl) ?_
  refine lv_iconst (v := nI 1) hx hb dL_law_212 (by decide) ?_
  refine xia hx hb (i + 1) dL_law_213 rfl ?_
  refine xsl hx hb hX hbl hS (show i + 1 < L by omega) hL dL_law_214 ?_
  refine lv_aload_n hx hb dL_law_215 rfl (lv_at hl 0 rfl) ?_
  refine lv_iload_n hx hb dL_law_216 rfl (lv_at hl 3 rfl) ?_
  refine lv_iconst (v := nI 2) hx hb dL_law_217 (by decide) ?_
  refine xia hx hb (i + 2) dL_law_218 rfl ?_
  refine xsl hx hb hX hbl hS (show i + 2 < L by omega) hL dL_law_219 ?_
  refine lv_aload_n hx hb dL_law_220 rfl (lv_at hl 0 rfl) ?_
  refine lv_iload_n hx hb dL_law_221 rfl (lv_at hl 3 rfl) ?_
  refine lv_iconst (v := nI 3) hx hb dL_law_222 (by decide) ?_
  refine xia hx hb (i + 3) dL_law_223 rfl ?_
  refine xsl hx hb hX hbl hS (show i + 3 < L by omega) hL dL_law_224 ?_
  refine lv_i2d hx hb dL_law_225 ?_
  refine lv_ldc2d hx hb hown c_13 dL_law_226 ?_
  refine lv_dmul hx hb dL_law_229 (fB_ne (e8_fB (xs (i + 3))) (by decide)) ?_
  refine lv_topd (fun t_229 et_229 => ?_)
  have et_229 : e8 (xs (i + 3)) = t_229 := et_229.symm
  subst et_229
  refine lv_aload_n hx hb dL_law_230 rfl (lv_at hl 0 rfl) ?_
  refine lv_iload_n hx hb dL_law_231 rfl (lv_at hl 3 rfl) ?_
  refine lv_iconst (v := nI 4) hx hb dL_law_232 (by decide) ?_
  refine xia hx hb (i + 4) dL_law_233 rfl ?_
  refine xsl hx hb hX hbl hS (show i + 4 < L by omega) hL dL_law_234 ?_
  refine lv_i2d hx hb dL_law_235 ?_
  refine lv_ldc2d hx hb hown c_13 dL_law_236 ?_
  refine lv_dmul hx hb dL_law_239 (fB_ne (e8_fB (xs (i + 4))) (by decide)) ?_
  refine lv_topd (fun t_239 et_239 => ?_)
  have et_239 : e8 (xs (i + 4)) = t_239 := et_239.symm
  subst et_239
  refine lv_aload_n hx hb dL_law_240 rfl (lv_at hl 0 rfl) ?_
  refine lv_iload_n hx hb dL_law_241 rfl (lv_at hl 3 rfl) ?_
  refine lv_iconst (v := nI 5) hx hb dL_law_242 (by decide) ?_
  refine xia hx hb (i + 5) dL_law_243 rfl ?_
  refine xsl hx hb hX hbl hS (show i + 5 < L by omega) hL dL_law_244 ?_
  refine lv_i2d hx hb dL_law_245 ?_
  refine lv_ldc2d hx hb hown c_13 dL_law_246 ?_
  refine lv_dmul hx hb dL_law_249 (fB_ne (e8_fB (xs (i + 5))) (by decide)) ?_
  refine lv_topd (fun t_249 et_249 => ?_)
  have et_249 : e8 (xs (i + 5)) = t_249 := et_249.symm
  subst et_249
  refine gLi (va_runV (As := [.int (xs (i + 1)), .int (xs (i + 2)), .double (e8 (xs (i + 3))), .double (e8 (xs (i + 4))), .double (e8 (xs (i + 5)))]) (rest := []) ⟨hx, hb, hml, hown, hts⟩ (kX6_bar l D cs ad hd H.size (((nN, px, py, pz, fx, fy, fz, lf, ld, fi), (nB, fr, tt, ln, wi, sg, pu), (nR, rd, rx, ry, wv, fo), (re, dg), (nP, tp, bt, dp)), (sp, ac, kp, kc, kn, aw, dw, su, ss, sd)) hnN hnB (xs (i + 1)) (xs (i + 2)) (e8 (xs (i + 3))) (e8 (xs (i + 4))) (e8 (xs (i + 5)))) (cwV 5 hts gL_law_X6_bar rfl rfl rfl (by decide +kernel) ⟨Nat.le_of_ble_eq_true rfl, Nat.le_of_ble_eq_true rfl⟩) (gPreV EX_bl (va_recv hK hPx (ci := 6) (q0 := 0) rfl rfl) hPx (fun U _ hW => EX_warm hW hEx)) rfl rfl hl.1 rfl (lv_room (Nat.le_of_ble_eq_true rfl)) dL_law_250 ⟨Nat.le_of_ble_eq_true rfl, Nat.le_of_ble_eq_true rfl⟩) hPm (fun k q hq h => hAD q.1 h (WM_at hq)) hAx hS (fun r1 u1 H locs hw1 hPx hPm hS => ?_)
  refine lv_aload_n hx hb dL_law_253 rfl (lv_at hl 2 rfl) ?_
  refine lv_aload_n hx hb dL_law_254 rfl (lv_at hl 0 rfl) ?_
  refine lv_iload_n hx hb dL_law_255 rfl (lv_at hl 3 rfl) ?_
  refine lv_iconst (v := nI 1) hx hb dL_law_256 (by decide) ?_
  refine xia hx hb (i + 1) dL_law_257 rfl ?_
  refine xsl hx hb hX hbl hS (show i + 1 < L by omega) hL dL_law_258 ?_
  refine lv_aload_n hx hb dL_law_259 rfl (lv_at hl 0 rfl) ?_
  refine lv_iload_n hx hb dL_law_260 rfl (lv_at hl 3 rfl) ?_
  refine lv_iconst (v := nI 2) hx hb dL_law_261 (by decide) ?_
  refine xia hx hb (i + 2) dL_law_262 rfl ?_
  refine xsl hx hb hX hbl hS (show i + 2 < L by omega) hL dL_law_263 ?_
  refine lv_aload_n hx hb dL_law_264 rfl (lv_at hl 0 rfl) ?_
  refine lv_iload_n hx hb dL_law_265 rfl (lv_at hl 3 rfl) ?_
  refine lv_iconst (v := nI 3) hx hb dL_law_266 (by decide) ?_
  refine xia hx hb (i + 3) dL_law_267 rfl ?_
  refine xsl hx hb hX hbl hS (show i + 3 < L by omega) hL dL_law_268 ?_
  refine lv_i2d hx hb dL_law_269 ?_
  refine lv_ldc2d hx hb hown c_13 dL_law_270 ?_
  refine lv_dmul hx hb dL_law_273 (fB_ne (e8_fB (xs (i + 3))) (by decide)) ?_
  refine lv_topd (fun t_273 et_273 => ?_)
  have et_273 : e8 (xs (i + 3)) = t_273 := et_273.symm
  subst et_273
  refine lv_aload_n hx hb dL_law_274 rfl (lv_at hl 0 rfl) ?_
  refine lv_iload_n hx hb dL_law_275 rfl (lv_at hl 3 rfl) ?_
  refine lv_iconst (v := nI 4) hx hb dL_law_276 (by decide) ?_
  refine xia hx hb (i + 4) dL_law_277 rfl ?_
  refine xsl hx hb hX hbl hS (show i + 4 < L by omega) hL dL_law_278 ?_
  refine lv_i2d hx hb dL_law_279 ?_
  refine lv_ldc2d hx hb hown c_13 dL_law_280 ?_
  refine lv_dmul hx hb dL_law_283 (fB_ne (e8_fB (xs (i + 4))) (by decide)) ?_
  refine lv_topd (fun t_283 et_283 => ?_)
  have et_283 : e8 (xs (i + 4)) = t_283 := et_283.symm
  subst et_283
  refine lv_aload_n hx hb dL_law_284 rfl (lv_at hl 0 rfl) ?_
  refine lv_iload_n hx hb dL_law_285 rfl (lv_at hl 3 rfl) ?_
  refine lv_iconst (v := nI 5) hx hb dL_law_286 (by decide) ?_
  refine xia hx hb (i + 5) dL_law_287 rfl ?_
  refine xsl hx hb hX hbl hS (show i + 5 < L by omega) hL dL_law_288 ?_
  refine lv_i2d hx hb dL_law_289 ?_
  refine lv_ldc2d hx hb hown c_13 dL_law_290 ?_
  refine lv_dmul hx hb dL_law_293 (fB_ne (e8_fB (xs (i + 5))) (by decide)) ?_
  refine lv_topd (fun t_293 et_293 => ?_)
  have et_293 : e8 (xs (i + 5)) = t_293 := et_293.symm
  subst et_293
  refine gLi (va_runV (As := [.int (xs (i + 1)), .int (xs (i + 2)), .double (e8 (xs (i + 3))), .double (e8 (xs (i + 4))), .double (e8 (xs (i + 5)))]) (rest := [.int r1]) ⟨hx, hb, hml, hown, hts⟩ (kX7_bar l D cs bd hdm H.size (((nN, px, py, pz, fx, fy, fz, lf, ld, fi), (nB, fr, tt, ln, wi, sg, pu), (nR, rd, rx, ry, wv, fo), (re, dg), (nP, tp, bt, dp)), (nQ, fu)) hnN hnB (xs (i + 1)) (xs (i + 2)) (e8 (xs (i + 3))) (e8 (xs (i + 4))) (e8 (xs (i + 5)))) (cwV 5 hts gL_law_X7_bar rfl rfl rfl (by decide +kernel) ⟨Nat.le_of_ble_eq_true rfl, Nat.le_of_ble_eq_true rfl⟩) (gPreV EM_bl (va_recv hK hPm (ci := 7) (q0 := 0) rfl rfl) hPm (fun U _ hW => EM_warm hW hEm)) rfl rfl hl.1 rfl (lv_room (Nat.le_of_ble_eq_true rfl)) dL_law_294 ⟨Nat.le_of_ble_eq_true rfl, Nat.le_of_ble_eq_true rfl⟩) hPx (fun k q hq h => hAD q.1 (WX_at hq) h) hAm hS (fun r2 u2 H locs hw2 hPm hPx hS => ?_)
  obtain ⟨g1, k1⟩ := u1
  obtain ⟨g2, k2⟩ := u2
  obtain ⟨a1, b1⟩ := hw1
  obtain ⟨a2, b2⟩ := hw2
  have b1 : k1 = (sp, ac, kp, kc, kn, aw, dw, su, ss, sd) := b1
  have b2 : k2 = (nQ, fu) := b2
  obtain ⟨er, eg⟩ := q_bar_det a1 a2
  have er : r1 = r2 := er
  have eg : g1 = g2 := eg
  subst b1
  subst b2
  subst er
  subst eg
  have hI2 : inv (4000 + 50 * i) g1 := inv_bar hI a1
  have hR2 : RP g1.2.2.2.2 (sp, ac, kp, kc, kn, aw, dw, su, ss, sd) := by rw [ps_bar a1]; exact hRP
  have hfin : lst D cs ad bd (i + 6) g1 (sp, ac, kp, kc, kn, aw, dw, su, ss, sd) (nQ, fu) s H locs := ⟨hPx, hPm, hS, inv_mono hI2 (by omega), hR2, hRR, by show 6 * nQ ≤ i + 6; omega⟩
  refine lv_icmp_eq (tgt := 1092) hx hb dL_law_297 (by decide) (fun _ => ?_) (fun c9 => absurd rfl c9)
  exact kk _ _ _ H locs ls hfin (lv_sub hl [0, 1, 2, 3] rfl)
set_option maxHeartbeats 4000000 in
set_option maxRecDepth 100000 in
theorem law_2 {p : Program} {l : Launch} {e : Env} {s : State} {m : MethodId} {below : List Frame} {meth : Method} {c : Code} {Q : State → Prop} {b L : Nat} {xs : Nat → Int32} {D : va_G} {cs : Nat → ClassId} {ad bd : Nat → Nat} (C0 : lawC p s m c b L xs D cs ad bd) {i : Nat} (hi : i + 6 ≤ L) {G : GS} {C : CS} {E : ES} {H : Heap} {locs : List Loc} (hT : lst D cs ad bd i G C E s H locs) {ls : Array Slot} (hl : lv_has ls 8 [(0, .ref b), (1, .ref (ad 0)), (2, .ref (bd 0)), (3, .int (nI i))]) (kk : ∀ (G2 : GS) (C2 : CS) (E2 : ES) (H : Heap) (locs : List Loc) (ls : Array Slot), lst D cs ad bd (i + 6) G2 C2 E2 s H locs → lv_has ls 8 [(0, .ref b), (1, .ref (ad 0)), (2, .ref (bd 0)), (3, .int (nI i))] → W p l e room_1 s m #[Value.ref b] below meth c H locs 600000 7302249 Q (F0 m 1092 ls [])) : W p l e room_1 s m #[Value.ref b] below meth c H locs 600000 7302249 Q (F0 m 302 ls []) := by
  obtain ⟨hx, hb, hml, hown, hts, hX, hbl, hK, hEx, hEm, hd, hdm, hAx, hAm, hAD, hL⟩ := C0
  obtain ⟨⟨nN, px, py, pz, fx, fy, fz, lf, ld, fi⟩, ⟨nB, fr, tt, ln, wi, sg, pu⟩, ⟨nR, rd, rx, ry, wv, fo⟩, ⟨re, dg⟩, ⟨nP, tp, bt, dp⟩⟩ := G
  obtain ⟨sp, ac, kp, kc, kn, aw, dw, su, ss, sd⟩ := C
  obtain ⟨nQ, fu⟩ := E
  obtain ⟨hPx, hPm, hS, hI, hRP, hRR, hQ6⟩ := hT
  have hQ6 : 6 * nQ ≤ i := hQ6
  have hnQ : nQ ≤ 512 := by omega
  have hnQ6 : nQ < 600 := by omega
  have hkc : kc ≤ 20 := by have := hRR.1; omega
  have hkn : kn < 20 := by have := hRR.2.1; omega
  have hnN : nN ≤ 30 := hI.1.1
  have hnB : nB ≤ 60 := hI.1.2.1
  have hnR : nR ≤ 10 := hI.1.2.2.1
  have hso : sorted rd nR := hI.1.2.2.2.2.2.1.1
  have hnP : nP ≤ 30 := hI.2.2.2.1
  have hdp : ∀ j, j < nP → ¬ dp j = 0 := hI.2.2.2.2
  have hpos : posOK nN px py pz := fun j hj => ⟨pP_pOK (hI.2.1 j hj).1 (by omega), pP_pOK (hI.2.1 j hj).2.1 (by omega), pP_pOK (hI.2.1 j hj).2.2 (by omega)⟩
  have c_13 := hts (.constantDouble RL 13 4593671619917905920) (by decide +kernel)
  refine lv_aload_n hx hb dL_law_302 rfl (lv_at hl 1 rfl) ?_
  refine lv_aload_n hx hb dL_law_303 rfl (lv_at hl 0 rfl) ?_
  refine lv_iload_n hx hb dL_law_304 rfl (lv_at hl 3 rfl) ?_
  refine lv_iconst (v := nI 1) hx hb dL_law_305 (by decide) ?_
  refine xia hx hb (i + 1) dL_law_306 rfl ?_
  refine xsl hx hb hX hbl hS (show i + 1 < L by omega) hL dL_law_307 ?_
  refine gLi (va_runV (As := [.int (xs (i + 1))]) (rest := []) ⟨hx, hb, hml, hown, hts⟩ (kX6_fix l D cs ad hd H.size (((nN, px, py, pz, fx, fy, fz, lf, ld, fi), (nB, fr, tt, ln, wi, sg, pu), (nR, rd, rx, ry, wv, fo), (re, dg), (nP, tp, bt, dp)), (sp, ac, kp, kc, kn, aw, dw, su, ss, sd)) hnN (xs (i + 1))) (cwV 1 hts gL_law_X6_fix rfl rfl rfl (by decide +kernel) ⟨Nat.le_of_ble_eq_true rfl, Nat.le_of_ble_eq_true rfl⟩) (gPreV EX_bl (va_recv hK hPx (ci := 6) (q0 := 0) rfl rfl) hPx (fun U _ hW => EX_warm hW hEx)) rfl rfl hl.1 rfl (lv_room (Nat.le_of_ble_eq_true rfl)) dL_law_308 ⟨Nat.le_of_ble_eq_true rfl, Nat.le_of_ble_eq_true rfl⟩) hPm (fun k q hq h => hAD q.1 h (WM_at hq)) hAx hS (fun r1 u1 H locs hw1 hPx hPm hS => ?_)
  refine lv_aload_n hx hb dL_law_311 rfl (lv_at hl 2 rfl) ?_
  refine lv_aload_n hx hb dL_law_312 rfl (lv_at hl 0 rfl) ?_
  refine lv_iload_n hx hb dL_law_313 rfl (lv_at hl 3 rfl) ?_
  refine lv_iconst (v := nI 1) hx hb dL_law_314 (by decide) ?_
  refine xia hx hb (i + 1) dL_law_315 rfl ?_
  refine xsl hx hb hX hbl hS (show i + 1 < L by omega) hL dL_law_316 ?_
  refine gLi (va_runV (As := [.int (xs (i + 1))]) (rest := [.int r1]) ⟨hx, hb, hml, hown, hts⟩ (kX7_fix l D cs bd hdm H.size (((nN, px, py, pz, fx, fy, fz, lf, ld, fi), (nB, fr, tt, ln, wi, sg, pu), (nR, rd, rx, ry, wv, fo), (re, dg), (nP, tp, bt, dp)), (nQ, fu)) hnN (xs (i + 1))) (cwV 1 hts gL_law_X7_fix rfl rfl rfl (by decide +kernel) ⟨Nat.le_of_ble_eq_true rfl, Nat.le_of_ble_eq_true rfl⟩) (gPreV EM_bl (va_recv hK hPm (ci := 7) (q0 := 0) rfl rfl) hPm (fun U _ hW => EM_warm hW hEm)) rfl rfl hl.1 rfl (lv_room (Nat.le_of_ble_eq_true rfl)) dL_law_317 ⟨Nat.le_of_ble_eq_true rfl, Nat.le_of_ble_eq_true rfl⟩) hPx (fun k q hq h => hAD q.1 (WX_at hq) h) hAm hS (fun r2 u2 H locs hw2 hPm hPx hS => ?_)
  obtain ⟨g1, k1⟩ := u1
  obtain ⟨g2, k2⟩ := u2
  obtain ⟨a1, b1⟩ := hw1
  obtain ⟨a2, b2⟩ := hw2
  have b1 : k1 = (sp, ac, kp, kc, kn, aw, dw, su, ss, sd) := b1
  have b2 : k2 = (nQ, fu) := b2
  obtain ⟨er, eg⟩ := q_fix_det hnN a1 a2
  have er : r1 = r2 := er
  have eg : g1 = g2 := eg
  subst b1
  subst b2
  subst er
  subst eg
  have hI2 : inv (4000 + 50 * i) g1 := inv_fix hI a1
  have hR2 : RP g1.2.2.2.2 (sp, ac, kp, kc, kn, aw, dw, su, ss, sd) := by rw [ps_fix a1]; exact hRP
  have hfin : lst D cs ad bd (i + 6) g1 (sp, ac, kp, kc, kn, aw, dw, su, ss, sd) (nQ, fu) s H locs := ⟨hPx, hPm, hS, inv_mono hI2 (by omega), hR2, hRR, by show 6 * nQ ≤ i + 6; omega⟩
  refine lv_icmp_eq (tgt := 1092) hx hb dL_law_320 (by decide) (fun _ => ?_) (fun c9 => absurd rfl c9)
  exact kk _ _ _ H locs ls hfin (lv_sub hl [0, 1, 2, 3] rfl)
set_option maxHeartbeats 4000000 in
set_option maxRecDepth 100000 in
theorem law_3 {p : Program} {l : Launch} {e : Env} {s : State} {m : MethodId} {below : List Frame} {meth : Method} {c : Code} {Q : State → Prop} {b L : Nat} {xs : Nat → Int32} {D : va_G} {cs : Nat → ClassId} {ad bd : Nat → Nat} (C0 : lawC p s m c b L xs D cs ad bd) {i : Nat} (hi : i + 6 ≤ L) {G : GS} {C : CS} {E : ES} {H : Heap} {locs : List Loc} (hT : lst D cs ad bd i G C E s H locs) {ls : Array Slot} (hl : lv_has ls 8 [(0, .ref b), (1, .ref (ad 0)), (2, .ref (bd 0)), (3, .int (nI i))]) (kk : ∀ (G2 : GS) (C2 : CS) (E2 : ES) (H : Heap) (locs : List Loc) (ls : Array Slot), lst D cs ad bd (i + 6) G2 C2 E2 s H locs → lv_has ls 8 [(0, .ref b), (1, .ref (ad 0)), (2, .ref (bd 0)), (3, .int (nI i))] → W p l e room_1 s m #[Value.ref b] below meth c H locs 600000 7302249 Q (F0 m 1092 ls [])) : W p l e room_1 s m #[Value.ref b] below meth c H locs 600000 7302249 Q (F0 m 325 ls []) := by
  obtain ⟨hx, hb, hml, hown, hts, hX, hbl, hK, hEx, hEm, hd, hdm, hAx, hAm, hAD, hL⟩ := C0
  obtain ⟨⟨nN, px, py, pz, fx, fy, fz, lf, ld, fi⟩, ⟨nB, fr, tt, ln, wi, sg, pu⟩, ⟨nR, rd, rx, ry, wv, fo⟩, ⟨re, dg⟩, ⟨nP, tp, bt, dp⟩⟩ := G
  obtain ⟨sp, ac, kp, kc, kn, aw, dw, su, ss, sd⟩ := C
  obtain ⟨nQ, fu⟩ := E
  obtain ⟨hPx, hPm, hS, hI, hRP, hRR, hQ6⟩ := hT
  have hQ6 : 6 * nQ ≤ i := hQ6
  have hnQ : nQ ≤ 512 := by omega
  have hnQ6 : nQ < 600 := by omega
  have hkc : kc ≤ 20 := by have := hRR.1; omega
  have hkn : kn < 20 := by have := hRR.2.1; omega
  have hnN : nN ≤ 30 := hI.1.1
  have hnB : nB ≤ 60 := hI.1.2.1
  have hnR : nR ≤ 10 := hI.1.2.2.1
  have hso : sorted rd nR := hI.1.2.2.2.2.2.1.1
  have hnP : nP ≤ 30 := hI.2.2.2.1
  have hdp : ∀ j, j < nP → ¬ dp j = 0 := hI.2.2.2.2
  have hpos : posOK nN px py pz := fun j hj => ⟨pP_pOK (hI.2.1 j hj).1 (by omega), pP_pOK (hI.2.1 j hj).2.1 (by omega), pP_pOK (hI.2.1 j hj).2.2 (by omega)⟩
  have c_13 := hts (.constantDouble RL 13 4593671619917905920) (by decide +kernel)
  refine lv_aload_n hx hb dL_law_325 rfl (lv_at hl 1 rfl) ?_
  refine lv_aload_n hx hb dL_law_326 rfl (lv_at hl 0 rfl) ?_
  refine lv_iload_n hx hb dL_law_327 rfl (lv_at hl 3 rfl) ?_
  refine lv_iconst (v := nI 1) hx hb dL_law_328 (by decide) ?_
  refine xia hx hb (i + 1) dL_law_329 rfl ?_
  refine xsl hx hb hX hbl hS (show i + 1 < L by omega) hL dL_law_330 ?_
  refine lv_aload_n hx hb dL_law_331 rfl (lv_at hl 0 rfl) ?_
  refine lv_iload_n hx hb dL_law_332 rfl (lv_at hl 3 rfl) ?_
  refine lv_iconst (v := nI 2) hx hb dL_law_333 (by decide) ?_
  refine xia hx hb (i + 2) dL_law_334 rfl ?_
  refine xsl hx hb hX hbl hS (show i + 2 < L by omega) hL dL_law_335 ?_
  refine lv_i2d hx hb dL_law_336 ?_
  refine lv_ldc2d hx hb hown c_13 dL_law_337 ?_
  refine lv_dmul hx hb dL_law_340 (fB_ne (e8_fB (xs (i + 2))) (by decide)) ?_
  refine lv_topd (fun t_340 et_340 => ?_)
  have et_340 : e8 (xs (i + 2)) = t_340 := et_340.symm
  subst et_340
  refine gLi (va_runV (As := [.int (xs (i + 1)), .double (e8 (xs (i + 2)))]) (rest := []) ⟨hx, hb, hml, hown, hts⟩ (kX6_floats l D cs ad hd H.size (((nN, px, py, pz, fx, fy, fz, lf, ld, fi), (nB, fr, tt, ln, wi, sg, pu), (nR, rd, rx, ry, wv, fo), (re, dg), (nP, tp, bt, dp)), (sp, ac, kp, kc, kn, aw, dw, su, ss, sd)) hnN (xs (i + 1)) (e8 (xs (i + 2)))) (cwV 2 hts gL_law_X6_floats rfl rfl rfl (by decide +kernel) ⟨Nat.le_of_ble_eq_true rfl, Nat.le_of_ble_eq_true rfl⟩) (gPreV EX_bl (va_recv hK hPx (ci := 6) (q0 := 0) rfl rfl) hPx (fun U _ hW => EX_warm hW hEx)) rfl rfl hl.1 rfl (lv_room (Nat.le_of_ble_eq_true rfl)) dL_law_341 ⟨Nat.le_of_ble_eq_true rfl, Nat.le_of_ble_eq_true rfl⟩) hPm (fun k q hq h => hAD q.1 h (WM_at hq)) hAx hS (fun r1 u1 H locs hw1 hPx hPm hS => ?_)
  refine lv_aload_n hx hb dL_law_344 rfl (lv_at hl 2 rfl) ?_
  refine lv_aload_n hx hb dL_law_345 rfl (lv_at hl 0 rfl) ?_
  refine lv_iload_n hx hb dL_law_346 rfl (lv_at hl 3 rfl) ?_
  refine lv_iconst (v := nI 1) hx hb dL_law_347 (by decide) ?_
  refine xia hx hb (i + 1) dL_law_348 rfl ?_
  refine xsl hx hb hX hbl hS (show i + 1 < L by omega) hL dL_law_349 ?_
  refine lv_aload_n hx hb dL_law_350 rfl (lv_at hl 0 rfl) ?_
  refine lv_iload_n hx hb dL_law_351 rfl (lv_at hl 3 rfl) ?_
  refine lv_iconst (v := nI 2) hx hb dL_law_352 (by decide) ?_
  refine xia hx hb (i + 2) dL_law_353 rfl ?_
  refine xsl hx hb hX hbl hS (show i + 2 < L by omega) hL dL_law_354 ?_
  refine lv_i2d hx hb dL_law_355 ?_
  refine lv_ldc2d hx hb hown c_13 dL_law_356 ?_
  refine lv_dmul hx hb dL_law_359 (fB_ne (e8_fB (xs (i + 2))) (by decide)) ?_
  refine lv_topd (fun t_359 et_359 => ?_)
  have et_359 : e8 (xs (i + 2)) = t_359 := et_359.symm
  subst et_359
  refine gLi (va_runV (As := [.int (xs (i + 1)), .double (e8 (xs (i + 2)))]) (rest := [.int r1]) ⟨hx, hb, hml, hown, hts⟩ (kX7_floats l D cs bd hdm H.size (((nN, px, py, pz, fx, fy, fz, lf, ld, fi), (nB, fr, tt, ln, wi, sg, pu), (nR, rd, rx, ry, wv, fo), (re, dg), (nP, tp, bt, dp)), (nQ, fu)) hnN (xs (i + 1)) (e8 (xs (i + 2)))) (cwV 2 hts gL_law_X7_floats rfl rfl rfl (by decide +kernel) ⟨Nat.le_of_ble_eq_true rfl, Nat.le_of_ble_eq_true rfl⟩) (gPreV EM_bl (va_recv hK hPm (ci := 7) (q0 := 0) rfl rfl) hPm (fun U _ hW => EM_warm hW hEm)) rfl rfl hl.1 rfl (lv_room (Nat.le_of_ble_eq_true rfl)) dL_law_360 ⟨Nat.le_of_ble_eq_true rfl, Nat.le_of_ble_eq_true rfl⟩) hPx (fun k q hq h => hAD q.1 (WX_at hq) h) hAm hS (fun r2 u2 H locs hw2 hPm hPx hS => ?_)
  obtain ⟨g1, k1⟩ := u1
  obtain ⟨g2, k2⟩ := u2
  obtain ⟨a1, b1⟩ := hw1
  obtain ⟨a2, b2⟩ := hw2
  have b1 : k1 = (sp, ac, kp, kc, kn, aw, dw, su, ss, sd) := b1
  have b2 : k2 = (nQ, fu) := b2
  obtain ⟨er, eg⟩ := q_floats_det hnN a1 a2
  have er : r1 = r2 := er
  have eg : g1 = g2 := eg
  subst b1
  subst b2
  subst er
  subst eg
  have hI2 : inv (4000 + 50 * i) g1 := inv_floats hI a1
  have hR2 : RP g1.2.2.2.2 (sp, ac, kp, kc, kn, aw, dw, su, ss, sd) := by rw [ps_floats a1]; exact hRP
  have hfin : lst D cs ad bd (i + 6) g1 (sp, ac, kp, kc, kn, aw, dw, su, ss, sd) (nQ, fu) s H locs := ⟨hPx, hPm, hS, inv_mono hI2 (by omega), hR2, hRR, by show 6 * nQ ≤ i + 6; omega⟩
  refine lv_icmp_eq (tgt := 1092) hx hb dL_law_363 (by decide) (fun _ => ?_) (fun c9 => absurd rfl c9)
  exact kk _ _ _ H locs ls hfin (lv_sub hl [0, 1, 2, 3] rfl)
set_option maxHeartbeats 4000000 in
set_option maxRecDepth 100000 in
theorem law_4 {p : Program} {l : Launch} {e : Env} {s : State} {m : MethodId} {below : List Frame} {meth : Method} {c : Code} {Q : State → Prop} {b L : Nat} {xs : Nat → Int32} {D : va_G} {cs : Nat → ClassId} {ad bd : Nat → Nat} (C0 : lawC p s m c b L xs D cs ad bd) {i : Nat} (hi : i + 6 ≤ L) {G : GS} {C : CS} {E : ES} {H : Heap} {locs : List Loc} (hT : lst D cs ad bd i G C E s H locs) {ls : Array Slot} (hl : lv_has ls 8 [(0, .ref b), (1, .ref (ad 0)), (2, .ref (bd 0)), (3, .int (nI i))]) (kk : ∀ (G2 : GS) (C2 : CS) (E2 : ES) (H : Heap) (locs : List Loc) (ls : Array Slot), lst D cs ad bd (i + 6) G2 C2 E2 s H locs → lv_has ls 8 [(0, .ref b), (1, .ref (ad 0)), (2, .ref (bd 0)), (3, .int (nI i))] → W p l e room_1 s m #[Value.ref b] below meth c H locs 600000 7302249 Q (F0 m 1092 ls [])) : W p l e room_1 s m #[Value.ref b] below meth c H locs 600000 7302249 Q (F0 m 368 ls []) := by
  obtain ⟨hx, hb, hml, hown, hts, hX, hbl, hK, hEx, hEm, hd, hdm, hAx, hAm, hAD, hL⟩ := C0
  obtain ⟨⟨nN, px, py, pz, fx, fy, fz, lf, ld, fi⟩, ⟨nB, fr, tt, ln, wi, sg, pu⟩, ⟨nR, rd, rx, ry, wv, fo⟩, ⟨re, dg⟩, ⟨nP, tp, bt, dp⟩⟩ := G
  obtain ⟨sp, ac, kp, kc, kn, aw, dw, su, ss, sd⟩ := C
  obtain ⟨nQ, fu⟩ := E
  obtain ⟨hPx, hPm, hS, hI, hRP, hRR, hQ6⟩ := hT
  have hQ6 : 6 * nQ ≤ i := hQ6
  have hnQ : nQ ≤ 512 := by omega
  have hnQ6 : nQ < 600 := by omega
  have hkc : kc ≤ 20 := by have := hRR.1; omega
  have hkn : kn < 20 := by have := hRR.2.1; omega
  have hnN : nN ≤ 30 := hI.1.1
  have hnB : nB ≤ 60 := hI.1.2.1
  have hnR : nR ≤ 10 := hI.1.2.2.1
  have hso : sorted rd nR := hI.1.2.2.2.2.2.1.1
  have hnP : nP ≤ 30 := hI.2.2.2.1
  have hdp : ∀ j, j < nP → ¬ dp j = 0 := hI.2.2.2.2
  have hpos : posOK nN px py pz := fun j hj => ⟨pP_pOK (hI.2.1 j hj).1 (by omega), pP_pOK (hI.2.1 j hj).2.1 (by omega), pP_pOK (hI.2.1 j hj).2.2 (by omega)⟩
  have c_13 := hts (.constantDouble RL 13 4593671619917905920) (by decide +kernel)
  refine lv_aload_n hx hb dL_law_368 rfl (lv_at hl 1 rfl) ?_
  refine lv_aload_n hx hb dL_law_369 rfl (lv_at hl 0 rfl) ?_
  refine lv_iload_n hx hb dL_law_370 rfl (lv_at hl 3 rfl) ?_
  refine lv_iconst (v := nI 1) hx hb dL_law_371 (by decide) ?_
  refine xia hx hb (i + 1) dL_law_372 rfl ?_
  refine xsl hx hb hX hbl hS (show i + 1 < L by omega) hL dL_law_373 ?_
  refine lv_i2d hx hb dL_law_374 ?_
  refine lv_ldc2d hx hb hown c_13 dL_law_375 ?_
  refine lv_dmul hx hb dL_law_378 (fB_ne (e8_fB (xs (i + 1))) (by decide)) ?_
  refine lv_topd (fun t_378 et_378 => ?_)
  have et_378 : e8 (xs (i + 1)) = t_378 := et_378.symm
  subst et_378
  refine lv_aload_n hx hb dL_law_379 rfl (lv_at hl 0 rfl) ?_
  refine lv_iload_n hx hb dL_law_380 rfl (lv_at hl 3 rfl) ?_
  refine lv_iconst (v := nI 2) hx hb dL_law_381 (by decide) ?_
  refine xia hx hb (i + 2) dL_law_382 rfl ?_
  refine xsl hx hb hX hbl hS (show i + 2 < L by omega) hL dL_law_383 ?_
  refine lv_i2d hx hb dL_law_384 ?_
  refine lv_ldc2d hx hb hown c_13 dL_law_385 ?_
  refine lv_dmul hx hb dL_law_388 (fB_ne (e8_fB (xs (i + 2))) (by decide)) ?_
  refine lv_topd (fun t_388 et_388 => ?_)
  have et_388 : e8 (xs (i + 2)) = t_388 := et_388.symm
  subst et_388
  refine lv_aload_n hx hb dL_law_389 rfl (lv_at hl 0 rfl) ?_
  refine lv_iload_n hx hb dL_law_390 rfl (lv_at hl 3 rfl) ?_
  refine lv_iconst (v := nI 3) hx hb dL_law_391 (by decide) ?_
  refine xia hx hb (i + 3) dL_law_392 rfl ?_
  refine xsl hx hb hX hbl hS (show i + 3 < L by omega) hL dL_law_393 ?_
  refine lv_i2d hx hb dL_law_394 ?_
  refine lv_ldc2d hx hb hown c_13 dL_law_395 ?_
  refine lv_dmul hx hb dL_law_398 (fB_ne (e8_fB (xs (i + 3))) (by decide)) ?_
  refine lv_topd (fun t_398 et_398 => ?_)
  have et_398 : e8 (xs (i + 3)) = t_398 := et_398.symm
  subst et_398
  refine gLi (va_runV (As := [.double (e8 (xs (i + 1))), .double (e8 (xs (i + 2))), .double (e8 (xs (i + 3)))]) (rest := []) ⟨hx, hb, hml, hown, hts⟩ (kX6_current l D cs ad hd H.size (((nN, px, py, pz, fx, fy, fz, lf, ld, fi), (nB, fr, tt, ln, wi, sg, pu), (nR, rd, rx, ry, wv, fo), (re, dg), (nP, tp, bt, dp)), (sp, ac, kp, kc, kn, aw, dw, su, ss, sd)) hnR hso (e8 (xs (i + 1))) (e8 (xs (i + 2))) (e8 (xs (i + 3)))) (cwV 3 hts gL_law_X6_current rfl rfl rfl (by decide +kernel) ⟨Nat.le_of_ble_eq_true rfl, Nat.le_of_ble_eq_true rfl⟩) (gPreV EX_bl (va_recv hK hPx (ci := 6) (q0 := 0) rfl rfl) hPx (fun U _ hW => EX_warm hW hEx)) rfl rfl hl.1 rfl (lv_room (Nat.le_of_ble_eq_true rfl)) dL_law_399 ⟨Nat.le_of_ble_eq_true rfl, Nat.le_of_ble_eq_true rfl⟩) hPm (fun k q hq h => hAD q.1 h (WM_at hq)) hAx hS (fun r1 u1 H locs hw1 hPx hPm hS => ?_)
  refine lv_aload_n hx hb dL_law_402 rfl (lv_at hl 2 rfl) ?_
  refine lv_aload_n hx hb dL_law_403 rfl (lv_at hl 0 rfl) ?_
  refine lv_iload_n hx hb dL_law_404 rfl (lv_at hl 3 rfl) ?_
  refine lv_iconst (v := nI 1) hx hb dL_law_405 (by decide) ?_
  refine xia hx hb (i + 1) dL_law_406 rfl ?_
  refine xsl hx hb hX hbl hS (show i + 1 < L by omega) hL dL_law_407 ?_
  refine lv_i2d hx hb dL_law_408 ?_
  refine lv_ldc2d hx hb hown c_13 dL_law_409 ?_
  refine lv_dmul hx hb dL_law_412 (fB_ne (e8_fB (xs (i + 1))) (by decide)) ?_
  refine lv_topd (fun t_412 et_412 => ?_)
  have et_412 : e8 (xs (i + 1)) = t_412 := et_412.symm
  subst et_412
  refine lv_aload_n hx hb dL_law_413 rfl (lv_at hl 0 rfl) ?_
  refine lv_iload_n hx hb dL_law_414 rfl (lv_at hl 3 rfl) ?_
  refine lv_iconst (v := nI 2) hx hb dL_law_415 (by decide) ?_
  refine xia hx hb (i + 2) dL_law_416 rfl ?_
  refine xsl hx hb hX hbl hS (show i + 2 < L by omega) hL dL_law_417 ?_
  refine lv_i2d hx hb dL_law_418 ?_
  refine lv_ldc2d hx hb hown c_13 dL_law_419 ?_
  refine lv_dmul hx hb dL_law_422 (fB_ne (e8_fB (xs (i + 2))) (by decide)) ?_
  refine lv_topd (fun t_422 et_422 => ?_)
  have et_422 : e8 (xs (i + 2)) = t_422 := et_422.symm
  subst et_422
  refine lv_aload_n hx hb dL_law_423 rfl (lv_at hl 0 rfl) ?_
  refine lv_iload_n hx hb dL_law_424 rfl (lv_at hl 3 rfl) ?_
  refine lv_iconst (v := nI 3) hx hb dL_law_425 (by decide) ?_
  refine xia hx hb (i + 3) dL_law_426 rfl ?_
  refine xsl hx hb hX hbl hS (show i + 3 < L by omega) hL dL_law_427 ?_
  refine lv_i2d hx hb dL_law_428 ?_
  refine lv_ldc2d hx hb hown c_13 dL_law_429 ?_
  refine lv_dmul hx hb dL_law_432 (fB_ne (e8_fB (xs (i + 3))) (by decide)) ?_
  refine lv_topd (fun t_432 et_432 => ?_)
  have et_432 : e8 (xs (i + 3)) = t_432 := et_432.symm
  subst et_432
  refine gLi (va_runV (As := [.double (e8 (xs (i + 1))), .double (e8 (xs (i + 2))), .double (e8 (xs (i + 3)))]) (rest := [.int r1]) ⟨hx, hb, hml, hown, hts⟩ (kX7_current l D cs bd hdm H.size (((nN, px, py, pz, fx, fy, fz, lf, ld, fi), (nB, fr, tt, ln, wi, sg, pu), (nR, rd, rx, ry, wv, fo), (re, dg), (nP, tp, bt, dp)), (nQ, fu)) hnR (e8 (xs (i + 1))) (e8 (xs (i + 2))) (xs (i + 3))) (cwV 3 hts gL_law_X7_current rfl rfl rfl (by decide +kernel) ⟨Nat.le_of_ble_eq_true rfl, Nat.le_of_ble_eq_true rfl⟩) (gPreV EM_bl (va_recv hK hPm (ci := 7) (q0 := 0) rfl rfl) hPm (fun U _ hW => EM_warm hW hEm)) rfl rfl hl.1 rfl (lv_room (Nat.le_of_ble_eq_true rfl)) dL_law_433 ⟨Nat.le_of_ble_eq_true rfl, Nat.le_of_ble_eq_true rfl⟩) hPx (fun k q hq h => hAD q.1 (WX_at hq) h) hAm hS (fun r2 u2 H locs hw2 hPm hPx hS => ?_)
  obtain ⟨g1, k1⟩ := u1
  obtain ⟨g2, k2⟩ := u2
  obtain ⟨a1, b1⟩ := hw1
  obtain ⟨a2, b2⟩ := hw2
  have b1 : k1 = (sp, ac, kp, kc, kn, aw, dw, su, ss, sd) := b1
  have b2 : k2 = (nQ, fu) := b2
  obtain ⟨er, eg⟩ := q_current_det a1 a2
  have er : r1 = r2 := er
  have eg : g1 = g2 := eg
  subst b1
  subst b2
  subst er
  subst eg
  have hI2 : inv (4000 + 50 * i) g1 := inv_current hI a1
  have hR2 : RP g1.2.2.2.2 (sp, ac, kp, kc, kn, aw, dw, su, ss, sd) := by rw [ps_current a1]; exact hRP
  have hfin : lst D cs ad bd (i + 6) g1 (sp, ac, kp, kc, kn, aw, dw, su, ss, sd) (nQ, fu) s H locs := ⟨hPx, hPm, hS, inv_mono hI2 (by omega), hR2, hRR, by show 6 * nQ ≤ i + 6; omega⟩
  refine lv_icmp_eq (tgt := 1092) hx hb dL_law_436 (by decide) (fun _ => ?_) (fun c9 => absurd rfl c9)
  exact kk _ _ _ H locs ls hfin (lv_sub hl [0, 1, 2, 3] rfl)
set_option maxHeartbeats 4000000 in
set_option maxRecDepth 100000 in
theorem law_5 {p : Program} {l : Launch} {e : Env} {s : State} {m : MethodId} {below : List Frame} {meth : Method} {c : Code} {Q : State → Prop} {b L : Nat} {xs : Nat → Int32} {D : va_G} {cs : Nat → ClassId} {ad bd : Nat → Nat} (C0 : lawC p s m c b L xs D cs ad bd) {i : Nat} (hi : i + 6 ≤ L) {G : GS} {C : CS} {E : ES} {H : Heap} {locs : List Loc} (hT : lst D cs ad bd i G C E s H locs) {ls : Array Slot} (hl : lv_has ls 8 [(0, .ref b), (1, .ref (ad 0)), (2, .ref (bd 0)), (3, .int (nI i))]) (kk : ∀ (G2 : GS) (C2 : CS) (E2 : ES) (H : Heap) (locs : List Loc) (ls : Array Slot), lst D cs ad bd (i + 6) G2 C2 E2 s H locs → lv_has ls 8 [(0, .ref b), (1, .ref (ad 0)), (2, .ref (bd 0)), (3, .int (nI i))] → W p l e room_1 s m #[Value.ref b] below meth c H locs 600000 7302249 Q (F0 m 1092 ls [])) : W p l e room_1 s m #[Value.ref b] below meth c H locs 600000 7302249 Q (F0 m 441 ls []) := by
  obtain ⟨hx, hb, hml, hown, hts, hX, hbl, hK, hEx, hEm, hd, hdm, hAx, hAm, hAD, hL⟩ := C0
  obtain ⟨⟨nN, px, py, pz, fx, fy, fz, lf, ld, fi⟩, ⟨nB, fr, tt, ln, wi, sg, pu⟩, ⟨nR, rd, rx, ry, wv, fo⟩, ⟨re, dg⟩, ⟨nP, tp, bt, dp⟩⟩ := G
  obtain ⟨sp, ac, kp, kc, kn, aw, dw, su, ss, sd⟩ := C
  obtain ⟨nQ, fu⟩ := E
  obtain ⟨hPx, hPm, hS, hI, hRP, hRR, hQ6⟩ := hT
  have hQ6 : 6 * nQ ≤ i := hQ6
  have hnQ : nQ ≤ 512 := by omega
  have hnQ6 : nQ < 600 := by omega
  have hkc : kc ≤ 20 := by have := hRR.1; omega
  have hkn : kn < 20 := by have := hRR.2.1; omega
  have hnN : nN ≤ 30 := hI.1.1
  have hnB : nB ≤ 60 := hI.1.2.1
  have hnR : nR ≤ 10 := hI.1.2.2.1
  have hso : sorted rd nR := hI.1.2.2.2.2.2.1.1
  have hnP : nP ≤ 30 := hI.2.2.2.1
  have hdp : ∀ j, j < nP → ¬ dp j = 0 := hI.2.2.2.2
  have hpos : posOK nN px py pz := fun j hj => ⟨pP_pOK (hI.2.1 j hj).1 (by omega), pP_pOK (hI.2.1 j hj).2.1 (by omega), pP_pOK (hI.2.1 j hj).2.2 (by omega)⟩
  have c_13 := hts (.constantDouble RL 13 4593671619917905920) (by decide +kernel)
  refine lv_aload_n hx hb dL_law_441 rfl (lv_at hl 1 rfl) ?_
  refine lv_aload_n hx hb dL_law_442 rfl (lv_at hl 0 rfl) ?_
  refine lv_iload_n hx hb dL_law_443 rfl (lv_at hl 3 rfl) ?_
  refine lv_iconst (v := nI 1) hx hb dL_law_444 (by decide) ?_
  refine xia hx hb (i + 1) dL_law_445 rfl ?_
  refine xsl hx hb hX hbl hS (show i + 1 < L by omega) hL dL_law_446 ?_
  refine gLi (va_runV (As := [.int (xs (i + 1))]) (rest := []) ⟨hx, hb, hml, hown, hts⟩ (kX6_run l D cs ad hd H.size (((nN, px, py, pz, fx, fy, fz, lf, ld, fi), (nB, fr, tt, ln, wi, sg, pu), (nR, rd, rx, ry, wv, fo), (re, dg), (nP, tp, bt, dp)), (sp, ac, kp, kc, kn, aw, dw, su, ss, sd)) hI.1 (4000 + 50 * i) (by omega) hI.2.1 hkn hkc (xs (i + 1))) (cwV 1 hts gL_law_X6_run rfl rfl rfl (by decide +kernel) ⟨Nat.le_of_ble_eq_true rfl, Nat.le_of_ble_eq_true rfl⟩) (gPreV EX_bl (va_recv hK hPx (ci := 6) (q0 := 0) rfl rfl) hPx (fun U _ hW => EX_warm hW hEx)) rfl rfl hl.1 rfl (lv_room (Nat.le_of_ble_eq_true rfl)) dL_law_447 ⟨Nat.le_of_ble_eq_true rfl, Nat.le_of_ble_eq_true rfl⟩) hPm (fun k q hq h => hAD q.1 h (WM_at hq)) hAx hS (fun r1 u1 H locs hw1 hPx hPm hS => ?_)
  refine lv_aload_n hx hb dL_law_450 rfl (lv_at hl 2 rfl) ?_
  refine lv_aload_n hx hb dL_law_451 rfl (lv_at hl 0 rfl) ?_
  refine lv_iload_n hx hb dL_law_452 rfl (lv_at hl 3 rfl) ?_
  refine lv_iconst (v := nI 1) hx hb dL_law_453 (by decide) ?_
  refine xia hx hb (i + 1) dL_law_454 rfl ?_
  refine xsl hx hb hX hbl hS (show i + 1 < L by omega) hL dL_law_455 ?_
  refine gLi (va_runV (As := [.int (xs (i + 1))]) (rest := [.int r1]) ⟨hx, hb, hml, hown, hts⟩ (kX7_run l D cs bd hdm H.size (((nN, px, py, pz, fx, fy, fz, lf, ld, fi), (nB, fr, tt, ln, wi, sg, pu), (nR, rd, rx, ry, wv, fo), (re, dg), (nP, tp, bt, dp)), (nQ, fu)) hI.1 (4000 + 50 * i) (by omega) hI.2.1 hnQ6 (xs (i + 1))) (cwV 1 hts gL_law_X7_run rfl rfl rfl (by decide +kernel) ⟨Nat.le_of_ble_eq_true rfl, Nat.le_of_ble_eq_true rfl⟩) (gPreV EM_bl (va_recv hK hPm (ci := 7) (q0 := 0) rfl rfl) hPm (fun U _ hW => EM_warm hW hEm)) rfl rfl hl.1 rfl (lv_room (Nat.le_of_ble_eq_true rfl)) dL_law_456 ⟨Nat.le_of_ble_eq_true rfl, Nat.le_of_ble_eq_true rfl⟩) hPx (fun k q hq h => hAD q.1 (WX_at hq) h) hAm hS (fun r2 u2 H locs hw2 hPm hPx hS => ?_)
  obtain ⟨g1, s1, t1, k1⟩ := u1
  obtain ⟨g2, k2⟩ := u2
  obtain ⟨o1, a1, b1⟩ := hw1
  obtain ⟨o2, a2, b2⟩ := hw2
  have b1 : k1 = kpO o1 (kp, kc, kn, aw, dw, su, ss, sd) := b1
  have b2 : k2 = fuO o2 (nQ, fu) := b2
  obtain ⟨er, eg, eo⟩ := q_run_det a1 a2
  have er : r1 = r2 := er
  have eg : g1 = g2 := eg
  subst eo
  subst b1
  subst b2
  subst er
  subst eg
  have hI2 : inv (4000 + 50 * i + 300) g1 := inv_run (by omega) hI a1
  have hR2 : RP g1.2.2.2.2 (s1, t1, kpO o1 (kp, kc, kn, aw, dw, su, ss, sd)) := by rw [ps_run a1]; exact RP_ks hRP
  have hfin : lst D cs ad bd (i + 6) g1 (s1, t1, kpO o1 (kp, kc, kn, aw, dw, su, ss, sd)) (fuO o1 (nQ, fu)) s H locs := ⟨hPx, hPm, hS, inv_mono hI2 (by omega), hR2, ring_run hRR, by have q1 : (fuO o1 (nQ, fu)).1 ≤ nQ + 1 := fuO_le; omega⟩
  refine lv_icmp_eq (tgt := 1092) hx hb dL_law_459 (by decide) (fun _ => ?_) (fun c9 => absurd rfl c9)
  exact kk _ _ _ H locs ls hfin (lv_sub hl [0, 1, 2, 3] rfl)
set_option maxHeartbeats 4000000 in
set_option maxRecDepth 100000 in
theorem law_6 {p : Program} {l : Launch} {e : Env} {s : State} {m : MethodId} {below : List Frame} {meth : Method} {c : Code} {Q : State → Prop} {b L : Nat} {xs : Nat → Int32} {D : va_G} {cs : Nat → ClassId} {ad bd : Nat → Nat} (C0 : lawC p s m c b L xs D cs ad bd) {i : Nat} (hi : i + 6 ≤ L) {G : GS} {C : CS} {E : ES} {H : Heap} {locs : List Loc} (hT : lst D cs ad bd i G C E s H locs) {ls : Array Slot} (hl : lv_has ls 8 [(0, .ref b), (1, .ref (ad 0)), (2, .ref (bd 0)), (3, .int (nI i))]) (kk : ∀ (G2 : GS) (C2 : CS) (E2 : ES) (H : Heap) (locs : List Loc) (ls : Array Slot), lst D cs ad bd (i + 6) G2 C2 E2 s H locs → lv_has ls 8 [(0, .ref b), (1, .ref (ad 0)), (2, .ref (bd 0)), (3, .int (nI i))] → W p l e room_1 s m #[Value.ref b] below meth c H locs 600000 7302249 Q (F0 m 1092 ls [])) : W p l e room_1 s m #[Value.ref b] below meth c H locs 600000 7302249 Q (F0 m 464 ls []) := by
  obtain ⟨hx, hb, hml, hown, hts, hX, hbl, hK, hEx, hEm, hd, hdm, hAx, hAm, hAD, hL⟩ := C0
  obtain ⟨⟨nN, px, py, pz, fx, fy, fz, lf, ld, fi⟩, ⟨nB, fr, tt, ln, wi, sg, pu⟩, ⟨nR, rd, rx, ry, wv, fo⟩, ⟨re, dg⟩, ⟨nP, tp, bt, dp⟩⟩ := G
  obtain ⟨sp, ac, kp, kc, kn, aw, dw, su, ss, sd⟩ := C
  obtain ⟨nQ, fu⟩ := E
  obtain ⟨hPx, hPm, hS, hI, hRP, hRR, hQ6⟩ := hT
  have hQ6 : 6 * nQ ≤ i := hQ6
  have hnQ : nQ ≤ 512 := by omega
  have hnQ6 : nQ < 600 := by omega
  have hkc : kc ≤ 20 := by have := hRR.1; omega
  have hkn : kn < 20 := by have := hRR.2.1; omega
  have hnN : nN ≤ 30 := hI.1.1
  have hnB : nB ≤ 60 := hI.1.2.1
  have hnR : nR ≤ 10 := hI.1.2.2.1
  have hso : sorted rd nR := hI.1.2.2.2.2.2.1.1
  have hnP : nP ≤ 30 := hI.2.2.2.1
  have hdp : ∀ j, j < nP → ¬ dp j = 0 := hI.2.2.2.2
  have hpos : posOK nN px py pz := fun j hj => ⟨pP_pOK (hI.2.1 j hj).1 (by omega), pP_pOK (hI.2.1 j hj).2.1 (by omega), pP_pOK (hI.2.1 j hj).2.2 (by omega)⟩
  have c_13 := hts (.constantDouble RL 13 4593671619917905920) (by decide +kernel)
  refine lv_aload_n hx hb dL_law_464 rfl (lv_at hl 1 rfl) ?_
  refine lv_aload_n hx hb dL_law_465 rfl (lv_at hl 0 rfl) ?_
  refine lv_iload_n hx hb dL_law_466 rfl (lv_at hl 3 rfl) ?_
  refine lv_iconst (v := nI 1) hx hb dL_law_467 (by decide) ?_
  refine xia hx hb (i + 1) dL_law_468 rfl ?_
  refine xsl hx hb hX hbl hS (show i + 1 < L by omega) hL dL_law_469 ?_
  refine lv_aload_n hx hb dL_law_470 rfl (lv_at hl 0 rfl) ?_
  refine lv_iload_n hx hb dL_law_471 rfl (lv_at hl 3 rfl) ?_
  refine lv_iconst (v := nI 2) hx hb dL_law_472 (by decide) ?_
  refine xia hx hb (i + 2) dL_law_473 rfl ?_
  refine xsl hx hb hX hbl hS (show i + 2 < L by omega) hL dL_law_474 ?_
  refine gLd (va_runV (As := [.int (xs (i + 1)), .int (xs (i + 2))]) (rest := []) ⟨hx, hb, hml, hown, hts⟩ (kX6_at l D cs ad hd H.size (((nN, px, py, pz, fx, fy, fz, lf, ld, fi), (nB, fr, tt, ln, wi, sg, pu), (nR, rd, rx, ry, wv, fo), (re, dg), (nP, tp, bt, dp)), (sp, ac, kp, kc, kn, aw, dw, su, ss, sd)) hnN (xs (i + 1)) (xs (i + 2))) (cwV 2 hts gL_law_X6_at rfl rfl rfl (by decide +kernel) ⟨Nat.le_of_ble_eq_true rfl, Nat.le_of_ble_eq_true rfl⟩) (gPreV EX_bl (va_recv hK hPx (ci := 6) (q0 := 0) rfl rfl) hPx (fun U _ hW => EX_warm hW hEx)) rfl rfl hl.1 rfl (lv_room (Nat.le_of_ble_eq_true rfl)) dL_law_475 ⟨Nat.le_of_ble_eq_true rfl, Nat.le_of_ble_eq_true rfl⟩) hPm (fun k q hq h => hAD q.1 h (WM_at hq)) hAx hS (fun r1 u1 H locs hw1 hPx hPm hS => ?_)
  refine lv_dstore (lv' := [(4, .double r1), (0, .ref b), (1, .ref (ad 0)), (2, .ref (bd 0)), (3, .int (nI i))]) hx hb dL_law_478 hl (by decide) rfl (fun ls hl => ?_)
  refine lv_aload_n hx hb dL_law_480 rfl (lv_at hl 3 rfl) ?_
  refine lv_aload_n hx hb dL_law_481 rfl (lv_at hl 1 rfl) ?_
  refine lv_iload_n hx hb dL_law_482 rfl (lv_at hl 4 rfl) ?_
  refine lv_iconst (v := nI 1) hx hb dL_law_483 (by decide) ?_
  refine xia hx hb (i + 1) dL_law_484 rfl ?_
  refine xsl hx hb hX hbl hS (show i + 1 < L by omega) hL dL_law_485 ?_
  refine lv_aload_n hx hb dL_law_486 rfl (lv_at hl 1 rfl) ?_
  refine lv_iload_n hx hb dL_law_487 rfl (lv_at hl 4 rfl) ?_
  refine lv_iconst (v := nI 2) hx hb dL_law_488 (by decide) ?_
  refine xia hx hb (i + 2) dL_law_489 rfl ?_
  refine xsl hx hb hX hbl hS (show i + 2 < L by omega) hL dL_law_490 ?_
  refine gLd (va_runV (As := [.int (xs (i + 1)), .int (xs (i + 2))]) (rest := []) ⟨hx, hb, hml, hown, hts⟩ (kX7_at l D cs bd hdm H.size (((nN, px, py, pz, fx, fy, fz, lf, ld, fi), (nB, fr, tt, ln, wi, sg, pu), (nR, rd, rx, ry, wv, fo), (re, dg), (nP, tp, bt, dp)), (nQ, fu)) hnN (xs (i + 1)) (xs (i + 2))) (cwV 2 hts gL_law_X7_at rfl rfl rfl (by decide +kernel) ⟨Nat.le_of_ble_eq_true rfl, Nat.le_of_ble_eq_true rfl⟩) (gPreV EM_bl (va_recv hK hPm (ci := 7) (q0 := 0) rfl rfl) hPm (fun U _ hW => EM_warm hW hEm)) rfl rfl hl.1 rfl (lv_room (Nat.le_of_ble_eq_true rfl)) dL_law_491 ⟨Nat.le_of_ble_eq_true rfl, Nat.le_of_ble_eq_true rfl⟩) hPx (fun k q hq h => hAD q.1 (WX_at hq) h) hAm hS (fun r2 u2 H locs hw2 hPm hPx hS => ?_)
  obtain ⟨a1, rfl⟩ := hw1
  obtain ⟨a2, rfl⟩ := hw2
  have er : r1 = r2 := q_at_det (G := ((nN, px, py, pz, fx, fy, fz, lf, ld, fi), (nB, fr, tt, ln, wi, sg, pu), (nR, rd, rx, ry, wv, fo), (re, dg), (nP, tp, bt, dp))) hnN a1 a2
  subst er
  have hfin : lst D cs ad bd (i + 6) ((nN, px, py, pz, fx, fy, fz, lf, ld, fi), (nB, fr, tt, ln, wi, sg, pu), (nR, rd, rx, ry, wv, fo), (re, dg), (nP, tp, bt, dp)) (sp, ac, kp, kc, kn, aw, dw, su, ss, sd) (nQ, fu) s H locs := ⟨hPx, hPm, hS, inv_mono hI (by omega), hRP, hRR, by show 6 * nQ ≤ i + 6; omega⟩
  refine lv_dstore (lv' := [(6, .double r1), (4, .double r1), (0, .ref b), (1, .ref (ad 0)), (2, .ref (bd 0)), (3, .int (nI i))]) hx hb dL_law_494 hl (by decide) rfl (fun ls hl => ?_)
  refine lv_dload hx hb dL_law_496 (lv_at hl 1 rfl) ?_
  refine lv_dload hx hb dL_law_498 (lv_at hl 0 rfl) ?_
  refine xc_lne (tgt := 522) hx hb dL_law_500 dL_law_501 (by decide) (fun c1 => ?_) (fun c1 => ?_)
  · refine lv_goto (tgt := 1092) hx hb dL_law_522 (by decide) ?_
    exact kk _ _ _ H locs ls hfin (lv_sub hl [2, 3, 4, 5] rfl)
  · refine lv_dload hx hb dL_law_504 (lv_at hl 1 rfl) ?_
    refine lv_dload hx hb dL_law_506 (lv_at hl 1 rfl) ?_
    refine xc_lne (tgt := 520) hx hb dL_law_508 dL_law_509 (by decide) (fun c2 => absurd c2 c1) (fun c2 => ?_)
    refine lv_dload hx hb dL_law_512 (lv_at hl 0 rfl) ?_
    refine lv_dload hx hb dL_law_514 (lv_at hl 0 rfl) ?_
    refine xc_leq (tgt := 522) hx hb dL_law_516 dL_law_517 (by decide) (fun c3 => ?_) (fun c3 => absurd c3 c1)
    refine lv_goto (tgt := 1092) hx hb dL_law_522 (by decide) ?_
    exact kk _ _ _ H locs ls hfin (lv_sub hl [2, 3, 4, 5] rfl)
set_option maxHeartbeats 4000000 in
set_option maxRecDepth 100000 in
theorem law_7 {p : Program} {l : Launch} {e : Env} {s : State} {m : MethodId} {below : List Frame} {meth : Method} {c : Code} {Q : State → Prop} {b L : Nat} {xs : Nat → Int32} {D : va_G} {cs : Nat → ClassId} {ad bd : Nat → Nat} (C0 : lawC p s m c b L xs D cs ad bd) {i : Nat} (hi : i + 6 ≤ L) {G : GS} {C : CS} {E : ES} {H : Heap} {locs : List Loc} (hT : lst D cs ad bd i G C E s H locs) {ls : Array Slot} (hl : lv_has ls 8 [(0, .ref b), (1, .ref (ad 0)), (2, .ref (bd 0)), (3, .int (nI i))]) (kk : ∀ (G2 : GS) (C2 : CS) (E2 : ES) (H : Heap) (locs : List Loc) (ls : Array Slot), lst D cs ad bd (i + 6) G2 C2 E2 s H locs → lv_has ls 8 [(0, .ref b), (1, .ref (ad 0)), (2, .ref (bd 0)), (3, .int (nI i))] → W p l e room_1 s m #[Value.ref b] below meth c H locs 600000 7302249 Q (F0 m 1092 ls [])) : W p l e room_1 s m #[Value.ref b] below meth c H locs 600000 7302249 Q (F0 m 525 ls []) := by
  obtain ⟨hx, hb, hml, hown, hts, hX, hbl, hK, hEx, hEm, hd, hdm, hAx, hAm, hAD, hL⟩ := C0
  obtain ⟨⟨nN, px, py, pz, fx, fy, fz, lf, ld, fi⟩, ⟨nB, fr, tt, ln, wi, sg, pu⟩, ⟨nR, rd, rx, ry, wv, fo⟩, ⟨re, dg⟩, ⟨nP, tp, bt, dp⟩⟩ := G
  obtain ⟨sp, ac, kp, kc, kn, aw, dw, su, ss, sd⟩ := C
  obtain ⟨nQ, fu⟩ := E
  obtain ⟨hPx, hPm, hS, hI, hRP, hRR, hQ6⟩ := hT
  have hQ6 : 6 * nQ ≤ i := hQ6
  have hnQ : nQ ≤ 512 := by omega
  have hnQ6 : nQ < 600 := by omega
  have hkc : kc ≤ 20 := by have := hRR.1; omega
  have hkn : kn < 20 := by have := hRR.2.1; omega
  have hnN : nN ≤ 30 := hI.1.1
  have hnB : nB ≤ 60 := hI.1.2.1
  have hnR : nR ≤ 10 := hI.1.2.2.1
  have hso : sorted rd nR := hI.1.2.2.2.2.2.1.1
  have hnP : nP ≤ 30 := hI.2.2.2.1
  have hdp : ∀ j, j < nP → ¬ dp j = 0 := hI.2.2.2.2
  have hpos : posOK nN px py pz := fun j hj => ⟨pP_pOK (hI.2.1 j hj).1 (by omega), pP_pOK (hI.2.1 j hj).2.1 (by omega), pP_pOK (hI.2.1 j hj).2.2 (by omega)⟩
  have c_13 := hts (.constantDouble RL 13 4593671619917905920) (by decide +kernel)
  refine lv_aload_n hx hb dL_law_525 rfl (lv_at hl 1 rfl) ?_
  refine lv_aload_n hx hb dL_law_526 rfl (lv_at hl 0 rfl) ?_
  refine lv_iload_n hx hb dL_law_527 rfl (lv_at hl 3 rfl) ?_
  refine lv_iconst (v := nI 1) hx hb dL_law_528 (by decide) ?_
  refine xia hx hb (i + 1) dL_law_529 rfl ?_
  refine xsl hx hb hX hbl hS (show i + 1 < L by omega) hL dL_law_530 ?_
  refine gLd (va_runV (As := [.int (xs (i + 1))]) (rest := []) ⟨hx, hb, hml, hown, hts⟩ (kX6_pull l D cs ad hd H.size (((nN, px, py, pz, fx, fy, fz, lf, ld, fi), (nB, fr, tt, ln, wi, sg, pu), (nR, rd, rx, ry, wv, fo), (re, dg), (nP, tp, bt, dp)), (sp, ac, kp, kc, kn, aw, dw, su, ss, sd)) hnB (xs (i + 1))) (cwV 1 hts gL_law_X6_pull rfl rfl rfl (by decide +kernel) ⟨Nat.le_of_ble_eq_true rfl, Nat.le_of_ble_eq_true rfl⟩) (gPreV EX_bl (va_recv hK hPx (ci := 6) (q0 := 0) rfl rfl) hPx (fun U _ hW => EX_warm hW hEx)) rfl rfl hl.1 rfl (lv_room (Nat.le_of_ble_eq_true rfl)) dL_law_531 ⟨Nat.le_of_ble_eq_true rfl, Nat.le_of_ble_eq_true rfl⟩) hPm (fun k q hq h => hAD q.1 h (WM_at hq)) hAx hS (fun r1 u1 H locs hw1 hPx hPm hS => ?_)
  refine lv_dstore (lv' := [(4, .double r1), (0, .ref b), (1, .ref (ad 0)), (2, .ref (bd 0)), (3, .int (nI i))]) hx hb dL_law_534 hl (by decide) rfl (fun ls hl => ?_)
  refine lv_aload_n hx hb dL_law_536 rfl (lv_at hl 3 rfl) ?_
  refine lv_aload_n hx hb dL_law_537 rfl (lv_at hl 1 rfl) ?_
  refine lv_iload_n hx hb dL_law_538 rfl (lv_at hl 4 rfl) ?_
  refine lv_iconst (v := nI 1) hx hb dL_law_539 (by decide) ?_
  refine xia hx hb (i + 1) dL_law_540 rfl ?_
  refine xsl hx hb hX hbl hS (show i + 1 < L by omega) hL dL_law_541 ?_
  refine gLd (va_runV (As := [.int (xs (i + 1))]) (rest := []) ⟨hx, hb, hml, hown, hts⟩ (kX7_pull l D cs bd hdm H.size (((nN, px, py, pz, fx, fy, fz, lf, ld, fi), (nB, fr, tt, ln, wi, sg, pu), (nR, rd, rx, ry, wv, fo), (re, dg), (nP, tp, bt, dp)), (nQ, fu)) hnB (xs (i + 1))) (cwV 1 hts gL_law_X7_pull rfl rfl rfl (by decide +kernel) ⟨Nat.le_of_ble_eq_true rfl, Nat.le_of_ble_eq_true rfl⟩) (gPreV EM_bl (va_recv hK hPm (ci := 7) (q0 := 0) rfl rfl) hPm (fun U _ hW => EM_warm hW hEm)) rfl rfl hl.1 rfl (lv_room (Nat.le_of_ble_eq_true rfl)) dL_law_542 ⟨Nat.le_of_ble_eq_true rfl, Nat.le_of_ble_eq_true rfl⟩) hPx (fun k q hq h => hAD q.1 (WX_at hq) h) hAm hS (fun r2 u2 H locs hw2 hPm hPx hS => ?_)
  obtain ⟨a1, rfl⟩ := hw1
  obtain ⟨a2, rfl⟩ := hw2
  have er : r1 = r2 := q_pull_det (G := ((nN, px, py, pz, fx, fy, fz, lf, ld, fi), (nB, fr, tt, ln, wi, sg, pu), (nR, rd, rx, ry, wv, fo), (re, dg), (nP, tp, bt, dp))) hnB a1 a2
  subst er
  have hfin : lst D cs ad bd (i + 6) ((nN, px, py, pz, fx, fy, fz, lf, ld, fi), (nB, fr, tt, ln, wi, sg, pu), (nR, rd, rx, ry, wv, fo), (re, dg), (nP, tp, bt, dp)) (sp, ac, kp, kc, kn, aw, dw, su, ss, sd) (nQ, fu) s H locs := ⟨hPx, hPm, hS, inv_mono hI (by omega), hRP, hRR, by show 6 * nQ ≤ i + 6; omega⟩
  refine lv_dstore (lv' := [(6, .double r1), (4, .double r1), (0, .ref b), (1, .ref (ad 0)), (2, .ref (bd 0)), (3, .int (nI i))]) hx hb dL_law_545 hl (by decide) rfl (fun ls hl => ?_)
  refine lv_dload hx hb dL_law_547 (lv_at hl 1 rfl) ?_
  refine lv_dload hx hb dL_law_549 (lv_at hl 0 rfl) ?_
  refine xc_lne (tgt := 573) hx hb dL_law_551 dL_law_552 (by decide) (fun c1 => ?_) (fun c1 => ?_)
  · refine lv_goto (tgt := 1092) hx hb dL_law_573 (by decide) ?_
    exact kk _ _ _ H locs ls hfin (lv_sub hl [2, 3, 4, 5] rfl)
  · refine lv_dload hx hb dL_law_555 (lv_at hl 1 rfl) ?_
    refine lv_dload hx hb dL_law_557 (lv_at hl 1 rfl) ?_
    refine xc_lne (tgt := 571) hx hb dL_law_559 dL_law_560 (by decide) (fun c2 => absurd c2 c1) (fun c2 => ?_)
    refine lv_dload hx hb dL_law_563 (lv_at hl 0 rfl) ?_
    refine lv_dload hx hb dL_law_565 (lv_at hl 0 rfl) ?_
    refine xc_leq (tgt := 573) hx hb dL_law_567 dL_law_568 (by decide) (fun c3 => ?_) (fun c3 => absurd c3 c1)
    refine lv_goto (tgt := 1092) hx hb dL_law_573 (by decide) ?_
    exact kk _ _ _ H locs ls hfin (lv_sub hl [2, 3, 4, 5] rfl)
set_option maxHeartbeats 4000000 in
set_option maxRecDepth 100000 in
theorem law_8 {p : Program} {l : Launch} {e : Env} {s : State} {m : MethodId} {below : List Frame} {meth : Method} {c : Code} {Q : State → Prop} {b L : Nat} {xs : Nat → Int32} {D : va_G} {cs : Nat → ClassId} {ad bd : Nat → Nat} (C0 : lawC p s m c b L xs D cs ad bd) {i : Nat} (hi : i + 6 ≤ L) {G : GS} {C : CS} {E : ES} {H : Heap} {locs : List Loc} (hT : lst D cs ad bd i G C E s H locs) {ls : Array Slot} (hl : lv_has ls 8 [(0, .ref b), (1, .ref (ad 0)), (2, .ref (bd 0)), (3, .int (nI i))]) (kk : ∀ (G2 : GS) (C2 : CS) (E2 : ES) (H : Heap) (locs : List Loc) (ls : Array Slot), lst D cs ad bd (i + 6) G2 C2 E2 s H locs → lv_has ls 8 [(0, .ref b), (1, .ref (ad 0)), (2, .ref (bd 0)), (3, .int (nI i))] → W p l e room_1 s m #[Value.ref b] below meth c H locs 600000 7302249 Q (F0 m 1092 ls [])) : W p l e room_1 s m #[Value.ref b] below meth c H locs 600000 7302249 Q (F0 m 576 ls []) := by
  obtain ⟨hx, hb, hml, hown, hts, hX, hbl, hK, hEx, hEm, hd, hdm, hAx, hAm, hAD, hL⟩ := C0
  obtain ⟨⟨nN, px, py, pz, fx, fy, fz, lf, ld, fi⟩, ⟨nB, fr, tt, ln, wi, sg, pu⟩, ⟨nR, rd, rx, ry, wv, fo⟩, ⟨re, dg⟩, ⟨nP, tp, bt, dp⟩⟩ := G
  obtain ⟨sp, ac, kp, kc, kn, aw, dw, su, ss, sd⟩ := C
  obtain ⟨nQ, fu⟩ := E
  obtain ⟨hPx, hPm, hS, hI, hRP, hRR, hQ6⟩ := hT
  have hQ6 : 6 * nQ ≤ i := hQ6
  have hnQ : nQ ≤ 512 := by omega
  have hnQ6 : nQ < 600 := by omega
  have hkc : kc ≤ 20 := by have := hRR.1; omega
  have hkn : kn < 20 := by have := hRR.2.1; omega
  have hnN : nN ≤ 30 := hI.1.1
  have hnB : nB ≤ 60 := hI.1.2.1
  have hnR : nR ≤ 10 := hI.1.2.2.1
  have hso : sorted rd nR := hI.1.2.2.2.2.2.1.1
  have hnP : nP ≤ 30 := hI.2.2.2.1
  have hdp : ∀ j, j < nP → ¬ dp j = 0 := hI.2.2.2.2
  have hpos : posOK nN px py pz := fun j hj => ⟨pP_pOK (hI.2.1 j hj).1 (by omega), pP_pOK (hI.2.1 j hj).2.1 (by omega), pP_pOK (hI.2.1 j hj).2.2 (by omega)⟩
  have c_13 := hts (.constantDouble RL 13 4593671619917905920) (by decide +kernel)
  refine lv_aload_n hx hb dL_law_576 rfl (lv_at hl 1 rfl) ?_
  refine gLd (va_runV (As := []) (rest := []) ⟨hx, hb, hml, hown, hts⟩ (kX6_residual l D cs ad hd H.size (((nN, px, py, pz, fx, fy, fz, lf, ld, fi), (nB, fr, tt, ln, wi, sg, pu), (nR, rd, rx, ry, wv, fo), (re, dg), (nP, tp, bt, dp)), (sp, ac, kp, kc, kn, aw, dw, su, ss, sd))  ) (cwV 0 hts gL_law_X6_residual rfl rfl rfl (by decide +kernel) ⟨Nat.le_of_ble_eq_true rfl, Nat.le_of_ble_eq_true rfl⟩) (gPreV EX_bl (va_recv hK hPx (ci := 6) (q0 := 0) rfl rfl) hPx (fun U _ hW => EX_warm hW hEx)) rfl rfl hl.1 rfl (lv_room (Nat.le_of_ble_eq_true rfl)) dL_law_577 ⟨Nat.le_of_ble_eq_true rfl, Nat.le_of_ble_eq_true rfl⟩) hPm (fun k q hq h => hAD q.1 h (WM_at hq)) hAx hS (fun r1 u1 H locs hw1 hPx hPm hS => ?_)
  refine lv_dstore (lv' := [(4, .double r1), (0, .ref b), (1, .ref (ad 0)), (2, .ref (bd 0)), (3, .int (nI i))]) hx hb dL_law_580 hl (by decide) rfl (fun ls hl => ?_)
  refine lv_aload_n hx hb dL_law_582 rfl (lv_at hl 3 rfl) ?_
  refine gLd (va_runV (As := []) (rest := []) ⟨hx, hb, hml, hown, hts⟩ (kX7_residual l D cs bd hdm H.size (((nN, px, py, pz, fx, fy, fz, lf, ld, fi), (nB, fr, tt, ln, wi, sg, pu), (nR, rd, rx, ry, wv, fo), (re, dg), (nP, tp, bt, dp)), (nQ, fu))  ) (cwV 0 hts gL_law_X7_residual rfl rfl rfl (by decide +kernel) ⟨Nat.le_of_ble_eq_true rfl, Nat.le_of_ble_eq_true rfl⟩) (gPreV EM_bl (va_recv hK hPm (ci := 7) (q0 := 0) rfl rfl) hPm (fun U _ hW => EM_warm hW hEm)) rfl rfl hl.1 rfl (lv_room (Nat.le_of_ble_eq_true rfl)) dL_law_583 ⟨Nat.le_of_ble_eq_true rfl, Nat.le_of_ble_eq_true rfl⟩) hPx (fun k q hq h => hAD q.1 (WX_at hq) h) hAm hS (fun r2 u2 H locs hw2 hPm hPx hS => ?_)
  obtain ⟨a1, rfl⟩ := hw1
  obtain ⟨a2, rfl⟩ := hw2
  have er : r1 = r2 := a1.trans a2.symm
  subst er
  have hfin : lst D cs ad bd (i + 6) ((nN, px, py, pz, fx, fy, fz, lf, ld, fi), (nB, fr, tt, ln, wi, sg, pu), (nR, rd, rx, ry, wv, fo), (re, dg), (nP, tp, bt, dp)) (sp, ac, kp, kc, kn, aw, dw, su, ss, sd) (nQ, fu) s H locs := ⟨hPx, hPm, hS, inv_mono hI (by omega), hRP, hRR, by show 6 * nQ ≤ i + 6; omega⟩
  refine lv_dstore (lv' := [(6, .double r1), (4, .double r1), (0, .ref b), (1, .ref (ad 0)), (2, .ref (bd 0)), (3, .int (nI i))]) hx hb dL_law_586 hl (by decide) rfl (fun ls hl => ?_)
  refine lv_dload hx hb dL_law_588 (lv_at hl 1 rfl) ?_
  refine lv_dload hx hb dL_law_590 (lv_at hl 0 rfl) ?_
  refine xc_lne (tgt := 614) hx hb dL_law_592 dL_law_593 (by decide) (fun c1 => ?_) (fun c1 => ?_)
  · refine lv_goto (tgt := 1092) hx hb dL_law_614 (by decide) ?_
    exact kk _ _ _ H locs ls hfin (lv_sub hl [2, 3, 4, 5] rfl)
  · refine lv_dload hx hb dL_law_596 (lv_at hl 1 rfl) ?_
    refine lv_dload hx hb dL_law_598 (lv_at hl 1 rfl) ?_
    refine xc_lne (tgt := 612) hx hb dL_law_600 dL_law_601 (by decide) (fun c2 => absurd c2 c1) (fun c2 => ?_)
    refine lv_dload hx hb dL_law_604 (lv_at hl 0 rfl) ?_
    refine lv_dload hx hb dL_law_606 (lv_at hl 0 rfl) ?_
    refine xc_leq (tgt := 614) hx hb dL_law_608 dL_law_609 (by decide) (fun c3 => ?_) (fun c3 => absurd c3 c1)
    refine lv_goto (tgt := 1092) hx hb dL_law_614 (by decide) ?_
    exact kk _ _ _ H locs ls hfin (lv_sub hl [2, 3, 4, 5] rfl)
set_option maxHeartbeats 4000000 in
set_option maxRecDepth 100000 in
theorem law_9 {p : Program} {l : Launch} {e : Env} {s : State} {m : MethodId} {below : List Frame} {meth : Method} {c : Code} {Q : State → Prop} {b L : Nat} {xs : Nat → Int32} {D : va_G} {cs : Nat → ClassId} {ad bd : Nat → Nat} (C0 : lawC p s m c b L xs D cs ad bd) {i : Nat} (hi : i + 6 ≤ L) {G : GS} {C : CS} {E : ES} {H : Heap} {locs : List Loc} (hT : lst D cs ad bd i G C E s H locs) {ls : Array Slot} (hl : lv_has ls 8 [(0, .ref b), (1, .ref (ad 0)), (2, .ref (bd 0)), (3, .int (nI i))]) (kk : ∀ (G2 : GS) (C2 : CS) (E2 : ES) (H : Heap) (locs : List Loc) (ls : Array Slot), lst D cs ad bd (i + 6) G2 C2 E2 s H locs → lv_has ls 8 [(0, .ref b), (1, .ref (ad 0)), (2, .ref (bd 0)), (3, .int (nI i))] → W p l e room_1 s m #[Value.ref b] below meth c H locs 600000 7302249 Q (F0 m 1092 ls [])) : W p l e room_1 s m #[Value.ref b] below meth c H locs 600000 7302249 Q (F0 m 617 ls []) := by
  obtain ⟨hx, hb, hml, hown, hts, hX, hbl, hK, hEx, hEm, hd, hdm, hAx, hAm, hAD, hL⟩ := C0
  obtain ⟨⟨nN, px, py, pz, fx, fy, fz, lf, ld, fi⟩, ⟨nB, fr, tt, ln, wi, sg, pu⟩, ⟨nR, rd, rx, ry, wv, fo⟩, ⟨re, dg⟩, ⟨nP, tp, bt, dp⟩⟩ := G
  obtain ⟨sp, ac, kp, kc, kn, aw, dw, su, ss, sd⟩ := C
  obtain ⟨nQ, fu⟩ := E
  obtain ⟨hPx, hPm, hS, hI, hRP, hRR, hQ6⟩ := hT
  have hQ6 : 6 * nQ ≤ i := hQ6
  have hnQ : nQ ≤ 512 := by omega
  have hnQ6 : nQ < 600 := by omega
  have hkc : kc ≤ 20 := by have := hRR.1; omega
  have hkn : kn < 20 := by have := hRR.2.1; omega
  have hnN : nN ≤ 30 := hI.1.1
  have hnB : nB ≤ 60 := hI.1.2.1
  have hnR : nR ≤ 10 := hI.1.2.2.1
  have hso : sorted rd nR := hI.1.2.2.2.2.2.1.1
  have hnP : nP ≤ 30 := hI.2.2.2.1
  have hdp : ∀ j, j < nP → ¬ dp j = 0 := hI.2.2.2.2
  have hpos : posOK nN px py pz := fun j hj => ⟨pP_pOK (hI.2.1 j hj).1 (by omega), pP_pOK (hI.2.1 j hj).2.1 (by omega), pP_pOK (hI.2.1 j hj).2.2 (by omega)⟩
  have c_13 := hts (.constantDouble RL 13 4593671619917905920) (by decide +kernel)
  refine lv_aload_n hx hb dL_law_617 rfl (lv_at hl 1 rfl) ?_
  refine lv_aload_n hx hb dL_law_618 rfl (lv_at hl 0 rfl) ?_
  refine lv_iload_n hx hb dL_law_619 rfl (lv_at hl 3 rfl) ?_
  refine lv_iconst (v := nI 1) hx hb dL_law_620 (by decide) ?_
  refine xia hx hb (i + 1) dL_law_621 rfl ?_
  refine xsl hx hb hX hbl hS (show i + 1 < L by omega) hL dL_law_622 ?_
  refine gLd (va_runV (As := [.int (xs (i + 1))]) (rest := []) ⟨hx, hb, hml, hown, hts⟩ (kX6_drag l D cs ad hd H.size (((nN, px, py, pz, fx, fy, fz, lf, ld, fi), (nB, fr, tt, ln, wi, sg, pu), (nR, rd, rx, ry, wv, fo), (re, dg), (nP, tp, bt, dp)), (sp, ac, kp, kc, kn, aw, dw, su, ss, sd))  (xs (i + 1))) (cwV 1 hts gL_law_X6_drag rfl rfl rfl (by decide +kernel) ⟨Nat.le_of_ble_eq_true rfl, Nat.le_of_ble_eq_true rfl⟩) (gPreV EX_bl (va_recv hK hPx (ci := 6) (q0 := 0) rfl rfl) hPx (fun U _ hW => EX_warm hW hEx)) rfl rfl hl.1 rfl (lv_room (Nat.le_of_ble_eq_true rfl)) dL_law_623 ⟨Nat.le_of_ble_eq_true rfl, Nat.le_of_ble_eq_true rfl⟩) hPm (fun k q hq h => hAD q.1 h (WM_at hq)) hAx hS (fun r1 u1 H locs hw1 hPx hPm hS => ?_)
  refine lv_dstore (lv' := [(4, .double r1), (0, .ref b), (1, .ref (ad 0)), (2, .ref (bd 0)), (3, .int (nI i))]) hx hb dL_law_626 hl (by decide) rfl (fun ls hl => ?_)
  refine lv_aload_n hx hb dL_law_628 rfl (lv_at hl 3 rfl) ?_
  refine lv_aload_n hx hb dL_law_629 rfl (lv_at hl 1 rfl) ?_
  refine lv_iload_n hx hb dL_law_630 rfl (lv_at hl 4 rfl) ?_
  refine lv_iconst (v := nI 1) hx hb dL_law_631 (by decide) ?_
  refine xia hx hb (i + 1) dL_law_632 rfl ?_
  refine xsl hx hb hX hbl hS (show i + 1 < L by omega) hL dL_law_633 ?_
  refine gLd (va_runV (As := [.int (xs (i + 1))]) (rest := []) ⟨hx, hb, hml, hown, hts⟩ (kX7_drag l D cs bd hdm H.size (((nN, px, py, pz, fx, fy, fz, lf, ld, fi), (nB, fr, tt, ln, wi, sg, pu), (nR, rd, rx, ry, wv, fo), (re, dg), (nP, tp, bt, dp)), (nQ, fu))  (xs (i + 1))) (cwV 1 hts gL_law_X7_drag rfl rfl rfl (by decide +kernel) ⟨Nat.le_of_ble_eq_true rfl, Nat.le_of_ble_eq_true rfl⟩) (gPreV EM_bl (va_recv hK hPm (ci := 7) (q0 := 0) rfl rfl) hPm (fun U _ hW => EM_warm hW hEm)) rfl rfl hl.1 rfl (lv_room (Nat.le_of_ble_eq_true rfl)) dL_law_634 ⟨Nat.le_of_ble_eq_true rfl, Nat.le_of_ble_eq_true rfl⟩) hPx (fun k q hq h => hAD q.1 (WX_at hq) h) hAm hS (fun r2 u2 H locs hw2 hPm hPx hS => ?_)
  obtain ⟨a1, rfl⟩ := hw1
  obtain ⟨a2, rfl⟩ := hw2
  have er : r1 = r2 := q_drag_det (G := ((nN, px, py, pz, fx, fy, fz, lf, ld, fi), (nB, fr, tt, ln, wi, sg, pu), (nR, rd, rx, ry, wv, fo), (re, dg), (nP, tp, bt, dp))) a1 a2
  subst er
  have hfin : lst D cs ad bd (i + 6) ((nN, px, py, pz, fx, fy, fz, lf, ld, fi), (nB, fr, tt, ln, wi, sg, pu), (nR, rd, rx, ry, wv, fo), (re, dg), (nP, tp, bt, dp)) (sp, ac, kp, kc, kn, aw, dw, su, ss, sd) (nQ, fu) s H locs := ⟨hPx, hPm, hS, inv_mono hI (by omega), hRP, hRR, by show 6 * nQ ≤ i + 6; omega⟩
  refine lv_dstore (lv' := [(6, .double r1), (4, .double r1), (0, .ref b), (1, .ref (ad 0)), (2, .ref (bd 0)), (3, .int (nI i))]) hx hb dL_law_637 hl (by decide) rfl (fun ls hl => ?_)
  refine lv_dload hx hb dL_law_639 (lv_at hl 1 rfl) ?_
  refine lv_dload hx hb dL_law_641 (lv_at hl 0 rfl) ?_
  refine xc_lne (tgt := 665) hx hb dL_law_643 dL_law_644 (by decide) (fun c1 => ?_) (fun c1 => ?_)
  · refine lv_goto (tgt := 1092) hx hb dL_law_665 (by decide) ?_
    exact kk _ _ _ H locs ls hfin (lv_sub hl [2, 3, 4, 5] rfl)
  · refine lv_dload hx hb dL_law_647 (lv_at hl 1 rfl) ?_
    refine lv_dload hx hb dL_law_649 (lv_at hl 1 rfl) ?_
    refine xc_lne (tgt := 663) hx hb dL_law_651 dL_law_652 (by decide) (fun c2 => absurd c2 c1) (fun c2 => ?_)
    refine lv_dload hx hb dL_law_655 (lv_at hl 0 rfl) ?_
    refine lv_dload hx hb dL_law_657 (lv_at hl 0 rfl) ?_
    refine xc_leq (tgt := 665) hx hb dL_law_659 dL_law_660 (by decide) (fun c3 => ?_) (fun c3 => absurd c3 c1)
    refine lv_goto (tgt := 1092) hx hb dL_law_665 (by decide) ?_
    exact kk _ _ _ H locs ls hfin (lv_sub hl [2, 3, 4, 5] rfl)
set_option maxHeartbeats 4000000 in
set_option maxRecDepth 100000 in
theorem law_10 {p : Program} {l : Launch} {e : Env} {s : State} {m : MethodId} {below : List Frame} {meth : Method} {c : Code} {Q : State → Prop} {b L : Nat} {xs : Nat → Int32} {D : va_G} {cs : Nat → ClassId} {ad bd : Nat → Nat} (C0 : lawC p s m c b L xs D cs ad bd) {i : Nat} (hi : i + 6 ≤ L) {G : GS} {C : CS} {E : ES} {H : Heap} {locs : List Loc} (hT : lst D cs ad bd i G C E s H locs) {ls : Array Slot} (hl : lv_has ls 8 [(0, .ref b), (1, .ref (ad 0)), (2, .ref (bd 0)), (3, .int (nI i))]) (kk : ∀ (G2 : GS) (C2 : CS) (E2 : ES) (H : Heap) (locs : List Loc) (ls : Array Slot), lst D cs ad bd (i + 6) G2 C2 E2 s H locs → lv_has ls 8 [(0, .ref b), (1, .ref (ad 0)), (2, .ref (bd 0)), (3, .int (nI i))] → W p l e room_1 s m #[Value.ref b] below meth c H locs 600000 7302249 Q (F0 m 1092 ls [])) : W p l e room_1 s m #[Value.ref b] below meth c H locs 600000 7302249 Q (F0 m 668 ls []) := by
  obtain ⟨hx, hb, hml, hown, hts, hX, hbl, hK, hEx, hEm, hd, hdm, hAx, hAm, hAD, hL⟩ := C0
  obtain ⟨⟨nN, px, py, pz, fx, fy, fz, lf, ld, fi⟩, ⟨nB, fr, tt, ln, wi, sg, pu⟩, ⟨nR, rd, rx, ry, wv, fo⟩, ⟨re, dg⟩, ⟨nP, tp, bt, dp⟩⟩ := G
  obtain ⟨sp, ac, kp, kc, kn, aw, dw, su, ss, sd⟩ := C
  obtain ⟨nQ, fu⟩ := E
  obtain ⟨hPx, hPm, hS, hI, hRP, hRR, hQ6⟩ := hT
  have hQ6 : 6 * nQ ≤ i := hQ6
  have hnQ : nQ ≤ 512 := by omega
  have hnQ6 : nQ < 600 := by omega
  have hkc : kc ≤ 20 := by have := hRR.1; omega
  have hkn : kn < 20 := by have := hRR.2.1; omega
  have hnN : nN ≤ 30 := hI.1.1
  have hnB : nB ≤ 60 := hI.1.2.1
  have hnR : nR ≤ 10 := hI.1.2.2.1
  have hso : sorted rd nR := hI.1.2.2.2.2.2.1.1
  have hnP : nP ≤ 30 := hI.2.2.2.1
  have hdp : ∀ j, j < nP → ¬ dp j = 0 := hI.2.2.2.2
  have hpos : posOK nN px py pz := fun j hj => ⟨pP_pOK (hI.2.1 j hj).1 (by omega), pP_pOK (hI.2.1 j hj).2.1 (by omega), pP_pOK (hI.2.1 j hj).2.2 (by omega)⟩
  have c_13 := hts (.constantDouble RL 13 4593671619917905920) (by decide +kernel)
  refine lv_aload_n hx hb dL_law_668 rfl (lv_at hl 1 rfl) ?_
  refine lv_aload_n hx hb dL_law_669 rfl (lv_at hl 0 rfl) ?_
  refine lv_iload_n hx hb dL_law_670 rfl (lv_at hl 3 rfl) ?_
  refine lv_iconst (v := nI 1) hx hb dL_law_671 (by decide) ?_
  refine xia hx hb (i + 1) dL_law_672 rfl ?_
  refine xsl hx hb hX hbl hS (show i + 1 < L by omega) hL dL_law_673 ?_
  refine gLi (va_runV (As := [.int (xs (i + 1))]) (rest := []) ⟨hx, hb, hml, hown, hts⟩ (kX6_over l D cs ad hd H.size (((nN, px, py, pz, fx, fy, fz, lf, ld, fi), (nB, fr, tt, ln, wi, sg, pu), (nR, rd, rx, ry, wv, fo), (re, dg), (nP, tp, bt, dp)), (sp, ac, kp, kc, kn, aw, dw, su, ss, sd)) hnB (xs (i + 1))) (cwV 1 hts gL_law_X6_over rfl rfl rfl (by decide +kernel) ⟨Nat.le_of_ble_eq_true rfl, Nat.le_of_ble_eq_true rfl⟩) (gPreV EX_bl (va_recv hK hPx (ci := 6) (q0 := 0) rfl rfl) hPx (fun U _ hW => EX_warm hW hEx)) rfl rfl hl.1 rfl (lv_room (Nat.le_of_ble_eq_true rfl)) dL_law_674 ⟨Nat.le_of_ble_eq_true rfl, Nat.le_of_ble_eq_true rfl⟩) hPm (fun k q hq h => hAD q.1 h (WM_at hq)) hAx hS (fun r1 u1 H locs hw1 hPx hPm hS => ?_)
  refine lv_aload_n hx hb dL_law_677 rfl (lv_at hl 2 rfl) ?_
  refine lv_aload_n hx hb dL_law_678 rfl (lv_at hl 0 rfl) ?_
  refine lv_iload_n hx hb dL_law_679 rfl (lv_at hl 3 rfl) ?_
  refine lv_iconst (v := nI 1) hx hb dL_law_680 (by decide) ?_
  refine xia hx hb (i + 1) dL_law_681 rfl ?_
  refine xsl hx hb hX hbl hS (show i + 1 < L by omega) hL dL_law_682 ?_
  refine gLi (va_runV (As := [.int (xs (i + 1))]) (rest := [.int r1]) ⟨hx, hb, hml, hown, hts⟩ (kX7_over l D cs bd hdm H.size (((nN, px, py, pz, fx, fy, fz, lf, ld, fi), (nB, fr, tt, ln, wi, sg, pu), (nR, rd, rx, ry, wv, fo), (re, dg), (nP, tp, bt, dp)), (nQ, fu)) hnB (xs (i + 1))) (cwV 1 hts gL_law_X7_over rfl rfl rfl (by decide +kernel) ⟨Nat.le_of_ble_eq_true rfl, Nat.le_of_ble_eq_true rfl⟩) (gPreV EM_bl (va_recv hK hPm (ci := 7) (q0 := 0) rfl rfl) hPm (fun U _ hW => EM_warm hW hEm)) rfl rfl hl.1 rfl (lv_room (Nat.le_of_ble_eq_true rfl)) dL_law_683 ⟨Nat.le_of_ble_eq_true rfl, Nat.le_of_ble_eq_true rfl⟩) hPx (fun k q hq h => hAD q.1 (WX_at hq) h) hAm hS (fun r2 u2 H locs hw2 hPm hPx hS => ?_)
  obtain ⟨a1, rfl⟩ := hw1
  obtain ⟨a2, rfl⟩ := hw2
  have er : r1 = r2 := q_over_det (G := ((nN, px, py, pz, fx, fy, fz, lf, ld, fi), (nB, fr, tt, ln, wi, sg, pu), (nR, rd, rx, ry, wv, fo), (re, dg), (nP, tp, bt, dp))) hnB a1 a2
  subst er
  have hfin : lst D cs ad bd (i + 6) ((nN, px, py, pz, fx, fy, fz, lf, ld, fi), (nB, fr, tt, ln, wi, sg, pu), (nR, rd, rx, ry, wv, fo), (re, dg), (nP, tp, bt, dp)) (sp, ac, kp, kc, kn, aw, dw, su, ss, sd) (nQ, fu) s H locs := ⟨hPx, hPm, hS, inv_mono hI (by omega), hRP, hRR, by show 6 * nQ ≤ i + 6; omega⟩
  refine lv_icmp_eq (tgt := 1092) hx hb dL_law_686 (by decide) (fun _ => ?_) (fun c9 => absurd rfl c9)
  exact kk _ _ _ H locs ls hfin (lv_sub hl [0, 1, 2, 3] rfl)
set_option maxHeartbeats 4000000 in
set_option maxRecDepth 100000 in
theorem law_11 {p : Program} {l : Launch} {e : Env} {s : State} {m : MethodId} {below : List Frame} {meth : Method} {c : Code} {Q : State → Prop} {b L : Nat} {xs : Nat → Int32} {D : va_G} {cs : Nat → ClassId} {ad bd : Nat → Nat} (C0 : lawC p s m c b L xs D cs ad bd) {i : Nat} (hi : i + 6 ≤ L) {G : GS} {C : CS} {E : ES} {H : Heap} {locs : List Loc} (hT : lst D cs ad bd i G C E s H locs) {ls : Array Slot} (hl : lv_has ls 8 [(0, .ref b), (1, .ref (ad 0)), (2, .ref (bd 0)), (3, .int (nI i))]) (kk : ∀ (G2 : GS) (C2 : CS) (E2 : ES) (H : Heap) (locs : List Loc) (ls : Array Slot), lst D cs ad bd (i + 6) G2 C2 E2 s H locs → lv_has ls 8 [(0, .ref b), (1, .ref (ad 0)), (2, .ref (bd 0)), (3, .int (nI i))] → W p l e room_1 s m #[Value.ref b] below meth c H locs 600000 7302249 Q (F0 m 1092 ls [])) : W p l e room_1 s m #[Value.ref b] below meth c H locs 600000 7302249 Q (F0 m 691 ls []) := by
  obtain ⟨hx, hb, hml, hown, hts, hX, hbl, hK, hEx, hEm, hd, hdm, hAx, hAm, hAD, hL⟩ := C0
  obtain ⟨⟨nN, px, py, pz, fx, fy, fz, lf, ld, fi⟩, ⟨nB, fr, tt, ln, wi, sg, pu⟩, ⟨nR, rd, rx, ry, wv, fo⟩, ⟨re, dg⟩, ⟨nP, tp, bt, dp⟩⟩ := G
  obtain ⟨sp, ac, kp, kc, kn, aw, dw, su, ss, sd⟩ := C
  obtain ⟨nQ, fu⟩ := E
  obtain ⟨hPx, hPm, hS, hI, hRP, hRR, hQ6⟩ := hT
  have hQ6 : 6 * nQ ≤ i := hQ6
  have hnQ : nQ ≤ 512 := by omega
  have hnQ6 : nQ < 600 := by omega
  have hkc : kc ≤ 20 := by have := hRR.1; omega
  have hkn : kn < 20 := by have := hRR.2.1; omega
  have hnN : nN ≤ 30 := hI.1.1
  have hnB : nB ≤ 60 := hI.1.2.1
  have hnR : nR ≤ 10 := hI.1.2.2.1
  have hso : sorted rd nR := hI.1.2.2.2.2.2.1.1
  have hnP : nP ≤ 30 := hI.2.2.2.1
  have hdp : ∀ j, j < nP → ¬ dp j = 0 := hI.2.2.2.2
  have hpos : posOK nN px py pz := fun j hj => ⟨pP_pOK (hI.2.1 j hj).1 (by omega), pP_pOK (hI.2.1 j hj).2.1 (by omega), pP_pOK (hI.2.1 j hj).2.2 (by omega)⟩
  have c_13 := hts (.constantDouble RL 13 4593671619917905920) (by decide +kernel)
  refine lv_aload_n hx hb dL_law_691 rfl (lv_at hl 1 rfl) ?_
  refine lv_aload_n hx hb dL_law_692 rfl (lv_at hl 0 rfl) ?_
  refine lv_iload_n hx hb dL_law_693 rfl (lv_at hl 3 rfl) ?_
  refine lv_iconst (v := nI 1) hx hb dL_law_694 (by decide) ?_
  refine xia hx hb (i + 1) dL_law_695 rfl ?_
  refine xsl hx hb hX hbl hS (show i + 1 < L by omega) hL dL_law_696 ?_
  refine gLd (va_runV (As := [.int (xs (i + 1))]) (rest := []) ⟨hx, hb, hml, hown, hts⟩ (kX6_open l D cs ad hd H.size (((nN, px, py, pz, fx, fy, fz, lf, ld, fi), (nB, fr, tt, ln, wi, sg, pu), (nR, rd, rx, ry, wv, fo), (re, dg), (nP, tp, bt, dp)), (sp, ac, kp, kc, kn, aw, dw, su, ss, sd)) hnN hpos (xs (i + 1))) (cwV 1 hts gL_law_X6_open rfl rfl rfl (by decide +kernel) ⟨Nat.le_of_ble_eq_true rfl, Nat.le_of_ble_eq_true rfl⟩) (gPreV EX_bl (va_recv hK hPx (ci := 6) (q0 := 0) rfl rfl) hPx (fun U _ hW => EX_warm hW hEx)) rfl rfl hl.1 rfl (lv_room (Nat.le_of_ble_eq_true rfl)) dL_law_697 ⟨Nat.le_of_ble_eq_true rfl, Nat.le_of_ble_eq_true rfl⟩) hPm (fun k q hq h => hAD q.1 h (WM_at hq)) hAx hS (fun r1 u1 H locs hw1 hPx hPm hS => ?_)
  refine lv_dstore (lv' := [(4, .double r1), (0, .ref b), (1, .ref (ad 0)), (2, .ref (bd 0)), (3, .int (nI i))]) hx hb dL_law_700 hl (by decide) rfl (fun ls hl => ?_)
  refine lv_aload_n hx hb dL_law_702 rfl (lv_at hl 3 rfl) ?_
  refine lv_aload_n hx hb dL_law_703 rfl (lv_at hl 1 rfl) ?_
  refine lv_iload_n hx hb dL_law_704 rfl (lv_at hl 4 rfl) ?_
  refine lv_iconst (v := nI 1) hx hb dL_law_705 (by decide) ?_
  refine xia hx hb (i + 1) dL_law_706 rfl ?_
  refine xsl hx hb hX hbl hS (show i + 1 < L by omega) hL dL_law_707 ?_
  refine gLd (va_runV (As := [.int (xs (i + 1))]) (rest := []) ⟨hx, hb, hml, hown, hts⟩ (kX7_open l D cs bd hdm H.size (((nN, px, py, pz, fx, fy, fz, lf, ld, fi), (nB, fr, tt, ln, wi, sg, pu), (nR, rd, rx, ry, wv, fo), (re, dg), (nP, tp, bt, dp)), (nQ, fu)) hnN hpos (xs (i + 1))) (cwV 1 hts gL_law_X7_open rfl rfl rfl (by decide +kernel) ⟨Nat.le_of_ble_eq_true rfl, Nat.le_of_ble_eq_true rfl⟩) (gPreV EM_bl (va_recv hK hPm (ci := 7) (q0 := 0) rfl rfl) hPm (fun U _ hW => EM_warm hW hEm)) rfl rfl hl.1 rfl (lv_room (Nat.le_of_ble_eq_true rfl)) dL_law_708 ⟨Nat.le_of_ble_eq_true rfl, Nat.le_of_ble_eq_true rfl⟩) hPx (fun k q hq h => hAD q.1 (WX_at hq) h) hAm hS (fun r2 u2 H locs hw2 hPm hPx hS => ?_)
  obtain ⟨a1, rfl⟩ := hw1
  obtain ⟨a2, rfl⟩ := hw2
  have er : r1 = r2 := q_open_det (G := ((nN, px, py, pz, fx, fy, fz, lf, ld, fi), (nB, fr, tt, ln, wi, sg, pu), (nR, rd, rx, ry, wv, fo), (re, dg), (nP, tp, bt, dp))) a1 a2
  subst er
  have hfin : lst D cs ad bd (i + 6) ((nN, px, py, pz, fx, fy, fz, lf, ld, fi), (nB, fr, tt, ln, wi, sg, pu), (nR, rd, rx, ry, wv, fo), (re, dg), (nP, tp, bt, dp)) (sp, ac, kp, kc, kn, aw, dw, su, ss, sd) (nQ, fu) s H locs := ⟨hPx, hPm, hS, inv_mono hI (by omega), hRP, hRR, by show 6 * nQ ≤ i + 6; omega⟩
  refine lv_dstore (lv' := [(6, .double r1), (4, .double r1), (0, .ref b), (1, .ref (ad 0)), (2, .ref (bd 0)), (3, .int (nI i))]) hx hb dL_law_711 hl (by decide) rfl (fun ls hl => ?_)
  refine lv_dload hx hb dL_law_713 (lv_at hl 1 rfl) ?_
  refine lv_dload hx hb dL_law_715 (lv_at hl 0 rfl) ?_
  refine xc_lne (tgt := 739) hx hb dL_law_717 dL_law_718 (by decide) (fun c1 => ?_) (fun c1 => ?_)
  · refine lv_goto (tgt := 1092) hx hb dL_law_739 (by decide) ?_
    exact kk _ _ _ H locs ls hfin (lv_sub hl [2, 3, 4, 5] rfl)
  · refine lv_dload hx hb dL_law_721 (lv_at hl 1 rfl) ?_
    refine lv_dload hx hb dL_law_723 (lv_at hl 1 rfl) ?_
    refine xc_lne (tgt := 737) hx hb dL_law_725 dL_law_726 (by decide) (fun c2 => absurd c2 c1) (fun c2 => ?_)
    refine lv_dload hx hb dL_law_729 (lv_at hl 0 rfl) ?_
    refine lv_dload hx hb dL_law_731 (lv_at hl 0 rfl) ?_
    refine xc_leq (tgt := 739) hx hb dL_law_733 dL_law_734 (by decide) (fun c3 => ?_) (fun c3 => absurd c3 c1)
    refine lv_goto (tgt := 1092) hx hb dL_law_739 (by decide) ?_
    exact kk _ _ _ H locs ls hfin (lv_sub hl [2, 3, 4, 5] rfl)
set_option maxHeartbeats 4000000 in
set_option maxRecDepth 100000 in
theorem law_12 {p : Program} {l : Launch} {e : Env} {s : State} {m : MethodId} {below : List Frame} {meth : Method} {c : Code} {Q : State → Prop} {b L : Nat} {xs : Nat → Int32} {D : va_G} {cs : Nat → ClassId} {ad bd : Nat → Nat} (C0 : lawC p s m c b L xs D cs ad bd) {i : Nat} (hi : i + 6 ≤ L) {G : GS} {C : CS} {E : ES} {H : Heap} {locs : List Loc} (hT : lst D cs ad bd i G C E s H locs) {ls : Array Slot} (hl : lv_has ls 8 [(0, .ref b), (1, .ref (ad 0)), (2, .ref (bd 0)), (3, .int (nI i))]) (kk : ∀ (G2 : GS) (C2 : CS) (E2 : ES) (H : Heap) (locs : List Loc) (ls : Array Slot), lst D cs ad bd (i + 6) G2 C2 E2 s H locs → lv_has ls 8 [(0, .ref b), (1, .ref (ad 0)), (2, .ref (bd 0)), (3, .int (nI i))] → W p l e room_1 s m #[Value.ref b] below meth c H locs 600000 7302249 Q (F0 m 1092 ls [])) : W p l e room_1 s m #[Value.ref b] below meth c H locs 600000 7302249 Q (F0 m 742 ls []) := by
  obtain ⟨hx, hb, hml, hown, hts, hX, hbl, hK, hEx, hEm, hd, hdm, hAx, hAm, hAD, hL⟩ := C0
  obtain ⟨⟨nN, px, py, pz, fx, fy, fz, lf, ld, fi⟩, ⟨nB, fr, tt, ln, wi, sg, pu⟩, ⟨nR, rd, rx, ry, wv, fo⟩, ⟨re, dg⟩, ⟨nP, tp, bt, dp⟩⟩ := G
  obtain ⟨sp, ac, kp, kc, kn, aw, dw, su, ss, sd⟩ := C
  obtain ⟨nQ, fu⟩ := E
  obtain ⟨hPx, hPm, hS, hI, hRP, hRR, hQ6⟩ := hT
  have hQ6 : 6 * nQ ≤ i := hQ6
  have hnQ : nQ ≤ 512 := by omega
  have hnQ6 : nQ < 600 := by omega
  have hkc : kc ≤ 20 := by have := hRR.1; omega
  have hkn : kn < 20 := by have := hRR.2.1; omega
  have hnN : nN ≤ 30 := hI.1.1
  have hnB : nB ≤ 60 := hI.1.2.1
  have hnR : nR ≤ 10 := hI.1.2.2.1
  have hso : sorted rd nR := hI.1.2.2.2.2.2.1.1
  have hnP : nP ≤ 30 := hI.2.2.2.1
  have hdp : ∀ j, j < nP → ¬ dp j = 0 := hI.2.2.2.2
  have hpos : posOK nN px py pz := fun j hj => ⟨pP_pOK (hI.2.1 j hj).1 (by omega), pP_pOK (hI.2.1 j hj).2.1 (by omega), pP_pOK (hI.2.1 j hj).2.2 (by omega)⟩
  have c_13 := hts (.constantDouble RL 13 4593671619917905920) (by decide +kernel)
  refine lv_aload_n hx hb dL_law_742 rfl (lv_at hl 1 rfl) ?_
  refine lv_aload_n hx hb dL_law_743 rfl (lv_at hl 0 rfl) ?_
  refine lv_iload_n hx hb dL_law_744 rfl (lv_at hl 3 rfl) ?_
  refine lv_iconst (v := nI 1) hx hb dL_law_745 (by decide) ?_
  refine xia hx hb (i + 1) dL_law_746 rfl ?_
  refine xsl hx hb hX hbl hS (show i + 1 < L by omega) hL dL_law_747 ?_
  refine lv_aload_n hx hb dL_law_748 rfl (lv_at hl 0 rfl) ?_
  refine lv_iload_n hx hb dL_law_749 rfl (lv_at hl 3 rfl) ?_
  refine lv_iconst (v := nI 2) hx hb dL_law_750 (by decide) ?_
  refine xia hx hb (i + 2) dL_law_751 rfl ?_
  refine xsl hx hb hX hbl hS (show i + 2 < L by omega) hL dL_law_752 ?_
  refine lv_i2d hx hb dL_law_753 ?_
  refine lv_ldc2d hx hb hown c_13 dL_law_754 ?_
  refine lv_dmul hx hb dL_law_757 (fB_ne (e8_fB (xs (i + 2))) (by decide)) ?_
  refine lv_topd (fun t_757 et_757 => ?_)
  have et_757 : e8 (xs (i + 2)) = t_757 := et_757.symm
  subst et_757
  refine gLi (va_runV (As := [.int (xs (i + 1)), .double (e8 (xs (i + 2)))]) (rest := []) ⟨hx, hb, hml, hown, hts⟩ (kX6_catchAt l D cs ad hd H.size (((nN, px, py, pz, fx, fy, fz, lf, ld, fi), (nB, fr, tt, ln, wi, sg, pu), (nR, rd, rx, ry, wv, fo), (re, dg), (nP, tp, bt, dp)), (sp, ac, kp, kc, kn, aw, dw, su, ss, sd)) hnN (xs (i + 1)) (e8 (xs (i + 2)))) (cwV 2 hts gL_law_X6_catchAt rfl rfl rfl (by decide +kernel) ⟨Nat.le_of_ble_eq_true rfl, Nat.le_of_ble_eq_true rfl⟩) (gPreV EX_bl (va_recv hK hPx (ci := 6) (q0 := 0) rfl rfl) hPx (fun U _ hW => EX_warm hW hEx)) rfl rfl hl.1 rfl (lv_room (Nat.le_of_ble_eq_true rfl)) dL_law_758 ⟨Nat.le_of_ble_eq_true rfl, Nat.le_of_ble_eq_true rfl⟩) hPm (fun k q hq h => hAD q.1 h (WM_at hq)) hAx hS (fun r1 u1 H locs hw1 hPx hPm hS => ?_)
  refine lv_aload_n hx hb dL_law_761 rfl (lv_at hl 2 rfl) ?_
  refine lv_aload_n hx hb dL_law_762 rfl (lv_at hl 0 rfl) ?_
  refine lv_iload_n hx hb dL_law_763 rfl (lv_at hl 3 rfl) ?_
  refine lv_iconst (v := nI 1) hx hb dL_law_764 (by decide) ?_
  refine xia hx hb (i + 1) dL_law_765 rfl ?_
  refine xsl hx hb hX hbl hS (show i + 1 < L by omega) hL dL_law_766 ?_
  refine lv_aload_n hx hb dL_law_767 rfl (lv_at hl 0 rfl) ?_
  refine lv_iload_n hx hb dL_law_768 rfl (lv_at hl 3 rfl) ?_
  refine lv_iconst (v := nI 2) hx hb dL_law_769 (by decide) ?_
  refine xia hx hb (i + 2) dL_law_770 rfl ?_
  refine xsl hx hb hX hbl hS (show i + 2 < L by omega) hL dL_law_771 ?_
  refine lv_i2d hx hb dL_law_772 ?_
  refine lv_ldc2d hx hb hown c_13 dL_law_773 ?_
  refine lv_dmul hx hb dL_law_776 (fB_ne (e8_fB (xs (i + 2))) (by decide)) ?_
  refine lv_topd (fun t_776 et_776 => ?_)
  have et_776 : e8 (xs (i + 2)) = t_776 := et_776.symm
  subst et_776
  refine gLi (va_runV (As := [.int (xs (i + 1)), .double (e8 (xs (i + 2)))]) (rest := [.int r1]) ⟨hx, hb, hml, hown, hts⟩ (kX7_catchAt l D cs bd hdm H.size (((nN, px, py, pz, fx, fy, fz, lf, ld, fi), (nB, fr, tt, ln, wi, sg, pu), (nR, rd, rx, ry, wv, fo), (re, dg), (nP, tp, bt, dp)), (nQ, fu)) hnN (xs (i + 1)) (e8 (xs (i + 2)))) (cwV 2 hts gL_law_X7_catchAt rfl rfl rfl (by decide +kernel) ⟨Nat.le_of_ble_eq_true rfl, Nat.le_of_ble_eq_true rfl⟩) (gPreV EM_bl (va_recv hK hPm (ci := 7) (q0 := 0) rfl rfl) hPm (fun U _ hW => EM_warm hW hEm)) rfl rfl hl.1 rfl (lv_room (Nat.le_of_ble_eq_true rfl)) dL_law_777 ⟨Nat.le_of_ble_eq_true rfl, Nat.le_of_ble_eq_true rfl⟩) hPx (fun k q hq h => hAD q.1 (WX_at hq) h) hAm hS (fun r2 u2 H locs hw2 hPm hPx hS => ?_)
  obtain ⟨g1, k1⟩ := u1
  obtain ⟨g2, k2⟩ := u2
  obtain ⟨a1, b1⟩ := hw1
  obtain ⟨a2, b2⟩ := hw2
  have b1 : k1 = (sp, ac, kp, kc, kn, aw, dw, su, ss, sd) := b1
  have b2 : k2 = (nQ, fu) := b2
  obtain ⟨er, eg⟩ := q_catchAt_det hnN a1 a2
  have er : r1 = r2 := er
  have eg : g1 = g2 := eg
  subst b1
  subst b2
  subst er
  subst eg
  have hI2 : inv (4000 + 50 * i) g1 := inv_catch hI a1
  have hR2 : RP g1.2.2.2.2 (sp, ac, kp, kc, kn, aw, dw, su, ss, sd) := by rw [ps_catchAt a1]; exact hRP
  have hfin : lst D cs ad bd (i + 6) g1 (sp, ac, kp, kc, kn, aw, dw, su, ss, sd) (nQ, fu) s H locs := ⟨hPx, hPm, hS, inv_mono hI2 (by omega), hR2, hRR, by show 6 * nQ ≤ i + 6; omega⟩
  refine lv_icmp_eq (tgt := 1092) hx hb dL_law_780 (by decide) (fun _ => ?_) (fun c9 => absurd rfl c9)
  exact kk _ _ _ H locs ls hfin (lv_sub hl [0, 1, 2, 3] rfl)
set_option maxHeartbeats 4000000 in
set_option maxRecDepth 100000 in
theorem law_13 {p : Program} {l : Launch} {e : Env} {s : State} {m : MethodId} {below : List Frame} {meth : Method} {c : Code} {Q : State → Prop} {b L : Nat} {xs : Nat → Int32} {D : va_G} {cs : Nat → ClassId} {ad bd : Nat → Nat} (C0 : lawC p s m c b L xs D cs ad bd) {i : Nat} (hi : i + 6 ≤ L) {G : GS} {C : CS} {E : ES} {H : Heap} {locs : List Loc} (hT : lst D cs ad bd i G C E s H locs) {ls : Array Slot} (hl : lv_has ls 8 [(0, .ref b), (1, .ref (ad 0)), (2, .ref (bd 0)), (3, .int (nI i))]) (kk : ∀ (G2 : GS) (C2 : CS) (E2 : ES) (H : Heap) (locs : List Loc) (ls : Array Slot), lst D cs ad bd (i + 6) G2 C2 E2 s H locs → lv_has ls 8 [(0, .ref b), (1, .ref (ad 0)), (2, .ref (bd 0)), (3, .int (nI i))] → W p l e room_1 s m #[Value.ref b] below meth c H locs 600000 7302249 Q (F0 m 1092 ls [])) : W p l e room_1 s m #[Value.ref b] below meth c H locs 600000 7302249 Q (F0 m 785 ls []) := by
  obtain ⟨hx, hb, hml, hown, hts, hX, hbl, hK, hEx, hEm, hd, hdm, hAx, hAm, hAD, hL⟩ := C0
  obtain ⟨⟨nN, px, py, pz, fx, fy, fz, lf, ld, fi⟩, ⟨nB, fr, tt, ln, wi, sg, pu⟩, ⟨nR, rd, rx, ry, wv, fo⟩, ⟨re, dg⟩, ⟨nP, tp, bt, dp⟩⟩ := G
  obtain ⟨sp, ac, kp, kc, kn, aw, dw, su, ss, sd⟩ := C
  obtain ⟨nQ, fu⟩ := E
  obtain ⟨hPx, hPm, hS, hI, hRP, hRR, hQ6⟩ := hT
  have hQ6 : 6 * nQ ≤ i := hQ6
  have hnQ : nQ ≤ 512 := by omega
  have hnQ6 : nQ < 600 := by omega
  have hkc : kc ≤ 20 := by have := hRR.1; omega
  have hkn : kn < 20 := by have := hRR.2.1; omega
  have hnN : nN ≤ 30 := hI.1.1
  have hnB : nB ≤ 60 := hI.1.2.1
  have hnR : nR ≤ 10 := hI.1.2.2.1
  have hso : sorted rd nR := hI.1.2.2.2.2.2.1.1
  have hnP : nP ≤ 30 := hI.2.2.2.1
  have hdp : ∀ j, j < nP → ¬ dp j = 0 := hI.2.2.2.2
  have hpos : posOK nN px py pz := fun j hj => ⟨pP_pOK (hI.2.1 j hj).1 (by omega), pP_pOK (hI.2.1 j hj).2.1 (by omega), pP_pOK (hI.2.1 j hj).2.2 (by omega)⟩
  have c_13 := hts (.constantDouble RL 13 4593671619917905920) (by decide +kernel)
  refine lv_aload_n hx hb dL_law_785 rfl (lv_at hl 1 rfl) ?_
  refine lv_aload_n hx hb dL_law_786 rfl (lv_at hl 0 rfl) ?_
  refine lv_iload_n hx hb dL_law_787 rfl (lv_at hl 3 rfl) ?_
  refine lv_iconst (v := nI 1) hx hb dL_law_788 (by decide) ?_
  refine xia hx hb (i + 1) dL_law_789 rfl ?_
  refine xsl hx hb hX hbl hS (show i + 1 < L by omega) hL dL_law_790 ?_
  refine lv_aload_n hx hb dL_law_791 rfl (lv_at hl 0 rfl) ?_
  refine lv_iload_n hx hb dL_law_792 rfl (lv_at hl 3 rfl) ?_
  refine lv_iconst (v := nI 2) hx hb dL_law_793 (by decide) ?_
  refine xia hx hb (i + 2) dL_law_794 rfl ?_
  refine xsl hx hb hX hbl hS (show i + 2 < L by omega) hL dL_law_795 ?_
  refine lv_aload_n hx hb dL_law_796 rfl (lv_at hl 0 rfl) ?_
  refine lv_iload_n hx hb dL_law_797 rfl (lv_at hl 3 rfl) ?_
  refine lv_iconst (v := nI 3) hx hb dL_law_798 (by decide) ?_
  refine xia hx hb (i + 3) dL_law_799 rfl ?_
  refine xsl hx hb hX hbl hS (show i + 3 < L by omega) hL dL_law_800 ?_
  refine gLi (va_runV (As := [.int (xs (i + 1)), .int (xs (i + 2)), .int (xs (i + 3))]) (rest := []) ⟨hx, hb, hml, hown, hts⟩ (kX6_panel l D cs ad hd H.size (((nN, px, py, pz, fx, fy, fz, lf, ld, fi), (nB, fr, tt, ln, wi, sg, pu), (nR, rd, rx, ry, wv, fo), (re, dg), (nP, tp, bt, dp)), (sp, ac, kp, kc, kn, aw, dw, su, ss, sd)) hnP (xs (i + 1)) (xs (i + 2)) (xs (i + 3))) (cwV 3 hts gL_law_X6_panel rfl rfl rfl (by decide +kernel) ⟨Nat.le_of_ble_eq_true rfl, Nat.le_of_ble_eq_true rfl⟩) (gPreV EX_bl (va_recv hK hPx (ci := 6) (q0 := 0) rfl rfl) hPx (fun U _ hW => EX_warm hW hEx)) rfl rfl hl.1 rfl (lv_room (Nat.le_of_ble_eq_true rfl)) dL_law_801 ⟨Nat.le_of_ble_eq_true rfl, Nat.le_of_ble_eq_true rfl⟩) hPm (fun k q hq h => hAD q.1 h (WM_at hq)) hAx hS (fun r1 u1 H locs hw1 hPx hPm hS => ?_)
  refine lv_aload_n hx hb dL_law_804 rfl (lv_at hl 2 rfl) ?_
  refine lv_aload_n hx hb dL_law_805 rfl (lv_at hl 0 rfl) ?_
  refine lv_iload_n hx hb dL_law_806 rfl (lv_at hl 3 rfl) ?_
  refine lv_iconst (v := nI 1) hx hb dL_law_807 (by decide) ?_
  refine xia hx hb (i + 1) dL_law_808 rfl ?_
  refine xsl hx hb hX hbl hS (show i + 1 < L by omega) hL dL_law_809 ?_
  refine lv_aload_n hx hb dL_law_810 rfl (lv_at hl 0 rfl) ?_
  refine lv_iload_n hx hb dL_law_811 rfl (lv_at hl 3 rfl) ?_
  refine lv_iconst (v := nI 2) hx hb dL_law_812 (by decide) ?_
  refine xia hx hb (i + 2) dL_law_813 rfl ?_
  refine xsl hx hb hX hbl hS (show i + 2 < L by omega) hL dL_law_814 ?_
  refine lv_aload_n hx hb dL_law_815 rfl (lv_at hl 0 rfl) ?_
  refine lv_iload_n hx hb dL_law_816 rfl (lv_at hl 3 rfl) ?_
  refine lv_iconst (v := nI 3) hx hb dL_law_817 (by decide) ?_
  refine xia hx hb (i + 3) dL_law_818 rfl ?_
  refine xsl hx hb hX hbl hS (show i + 3 < L by omega) hL dL_law_819 ?_
  refine gLi (va_runV (As := [.int (xs (i + 1)), .int (xs (i + 2)), .int (xs (i + 3))]) (rest := [.int r1]) ⟨hx, hb, hml, hown, hts⟩ (kX7_panel l D cs bd hdm H.size (((nN, px, py, pz, fx, fy, fz, lf, ld, fi), (nB, fr, tt, ln, wi, sg, pu), (nR, rd, rx, ry, wv, fo), (re, dg), (nP, tp, bt, dp)), (nQ, fu)) hnP (xs (i + 1)) (xs (i + 2)) (xs (i + 3))) (cwV 3 hts gL_law_X7_panel rfl rfl rfl (by decide +kernel) ⟨Nat.le_of_ble_eq_true rfl, Nat.le_of_ble_eq_true rfl⟩) (gPreV EM_bl (va_recv hK hPm (ci := 7) (q0 := 0) rfl rfl) hPm (fun U _ hW => EM_warm hW hEm)) rfl rfl hl.1 rfl (lv_room (Nat.le_of_ble_eq_true rfl)) dL_law_820 ⟨Nat.le_of_ble_eq_true rfl, Nat.le_of_ble_eq_true rfl⟩) hPx (fun k q hq h => hAD q.1 (WX_at hq) h) hAm hS (fun r2 u2 H locs hw2 hPm hPx hS => ?_)
  obtain ⟨g1, k1⟩ := u1
  obtain ⟨g2, k2⟩ := u2
  obtain ⟨a1, hR2, hRR2⟩ := panel_ok hw1 hRP hRR
  obtain ⟨a2, b2⟩ := hw2
  have b2 : k2 = (nQ, fu) := b2
  obtain ⟨er, eg⟩ := q_panel_det a1 a2
  have er : r1 = r2 := er
  have eg : g1 = g2 := eg
  subst b2
  subst er
  subst eg
  have hI2 : inv (4000 + 50 * i) g1 := inv_panel hI a1
  have hfin : lst D cs ad bd (i + 6) g1 k1 (nQ, fu) s H locs := ⟨hPx, hPm, hS, inv_mono hI2 (by omega), hR2, hRR2, by show 6 * nQ ≤ i + 6; omega⟩
  refine lv_icmp_eq (tgt := 1092) hx hb dL_law_823 (by decide) (fun _ => ?_) (fun c9 => absurd rfl c9)
  exact kk _ _ _ H locs ls hfin (lv_sub hl [0, 1, 2, 3] rfl)
set_option maxHeartbeats 4000000 in
set_option maxRecDepth 100000 in
theorem law_14 {p : Program} {l : Launch} {e : Env} {s : State} {m : MethodId} {below : List Frame} {meth : Method} {c : Code} {Q : State → Prop} {b L : Nat} {xs : Nat → Int32} {D : va_G} {cs : Nat → ClassId} {ad bd : Nat → Nat} (C0 : lawC p s m c b L xs D cs ad bd) {i : Nat} (hi : i + 6 ≤ L) {G : GS} {C : CS} {E : ES} {H : Heap} {locs : List Loc} (hT : lst D cs ad bd i G C E s H locs) {ls : Array Slot} (hl : lv_has ls 8 [(0, .ref b), (1, .ref (ad 0)), (2, .ref (bd 0)), (3, .int (nI i))]) (kk : ∀ (G2 : GS) (C2 : CS) (E2 : ES) (H : Heap) (locs : List Loc) (ls : Array Slot), lst D cs ad bd (i + 6) G2 C2 E2 s H locs → lv_has ls 8 [(0, .ref b), (1, .ref (ad 0)), (2, .ref (bd 0)), (3, .int (nI i))] → W p l e room_1 s m #[Value.ref b] below meth c H locs 600000 7302249 Q (F0 m 1092 ls [])) : W p l e room_1 s m #[Value.ref b] below meth c H locs 600000 7302249 Q (F0 m 828 ls []) := by
  obtain ⟨hx, hb, hml, hown, hts, hX, hbl, hK, hEx, hEm, hd, hdm, hAx, hAm, hAD, hL⟩ := C0
  obtain ⟨⟨nN, px, py, pz, fx, fy, fz, lf, ld, fi⟩, ⟨nB, fr, tt, ln, wi, sg, pu⟩, ⟨nR, rd, rx, ry, wv, fo⟩, ⟨re, dg⟩, ⟨nP, tp, bt, dp⟩⟩ := G
  obtain ⟨sp, ac, kp, kc, kn, aw, dw, su, ss, sd⟩ := C
  obtain ⟨nQ, fu⟩ := E
  obtain ⟨hPx, hPm, hS, hI, hRP, hRR, hQ6⟩ := hT
  have hQ6 : 6 * nQ ≤ i := hQ6
  have hnQ : nQ ≤ 512 := by omega
  have hnQ6 : nQ < 600 := by omega
  have hkc : kc ≤ 20 := by have := hRR.1; omega
  have hkn : kn < 20 := by have := hRR.2.1; omega
  have hnN : nN ≤ 30 := hI.1.1
  have hnB : nB ≤ 60 := hI.1.2.1
  have hnR : nR ≤ 10 := hI.1.2.2.1
  have hso : sorted rd nR := hI.1.2.2.2.2.2.1.1
  have hnP : nP ≤ 30 := hI.2.2.2.1
  have hdp : ∀ j, j < nP → ¬ dp j = 0 := hI.2.2.2.2
  have hpos : posOK nN px py pz := fun j hj => ⟨pP_pOK (hI.2.1 j hj).1 (by omega), pP_pOK (hI.2.1 j hj).2.1 (by omega), pP_pOK (hI.2.1 j hj).2.2 (by omega)⟩
  have c_13 := hts (.constantDouble RL 13 4593671619917905920) (by decide +kernel)
  refine lv_aload_n hx hb dL_law_828 rfl (lv_at hl 1 rfl) ?_
  refine lv_aload_n hx hb dL_law_829 rfl (lv_at hl 0 rfl) ?_
  refine lv_iload_n hx hb dL_law_830 rfl (lv_at hl 3 rfl) ?_
  refine lv_iconst (v := nI 1) hx hb dL_law_831 (by decide) ?_
  refine xia hx hb (i + 1) dL_law_832 rfl ?_
  refine xsl hx hb hX hbl hS (show i + 1 < L by omega) hL dL_law_833 ?_
  refine lv_aload_n hx hb dL_law_834 rfl (lv_at hl 0 rfl) ?_
  refine lv_iload_n hx hb dL_law_835 rfl (lv_at hl 3 rfl) ?_
  refine lv_iconst (v := nI 2) hx hb dL_law_836 (by decide) ?_
  refine xia hx hb (i + 2) dL_law_837 rfl ?_
  refine xsl hx hb hX hbl hS (show i + 2 < L by omega) hL dL_law_838 ?_
  refine lv_aload_n hx hb dL_law_839 rfl (lv_at hl 0 rfl) ?_
  refine lv_iload_n hx hb dL_law_840 rfl (lv_at hl 3 rfl) ?_
  refine lv_iconst (v := nI 3) hx hb dL_law_841 (by decide) ?_
  refine xia hx hb (i + 3) dL_law_842 rfl ?_
  refine xsl hx hb hX hbl hS (show i + 3 < L by omega) hL dL_law_843 ?_
  refine gLi (va_runV (As := [.int (xs (i + 1)), .int (xs (i + 2)), .int (xs (i + 3))]) (rest := []) ⟨hx, hb, hml, hown, hts⟩ (kX6_cut l D cs ad hd H.size (((nN, px, py, pz, fx, fy, fz, lf, ld, fi), (nB, fr, tt, ln, wi, sg, pu), (nR, rd, rx, ry, wv, fo), (re, dg), (nP, tp, bt, dp)), (sp, ac, kp, kc, kn, aw, dw, su, ss, sd)) hnP hdp (xs (i + 1)) (xs (i + 2)) (xs (i + 3))) (cwV 3 hts gL_law_X6_cut rfl rfl rfl (by decide +kernel) ⟨Nat.le_of_ble_eq_true rfl, Nat.le_of_ble_eq_true rfl⟩) (gPreV EX_bl (va_recv hK hPx (ci := 6) (q0 := 0) rfl rfl) hPx (fun U _ hW => EX_warm hW hEx)) rfl rfl hl.1 rfl (lv_room (Nat.le_of_ble_eq_true rfl)) dL_law_844 ⟨Nat.le_of_ble_eq_true rfl, Nat.le_of_ble_eq_true rfl⟩) hPm (fun k q hq h => hAD q.1 h (WM_at hq)) hAx hS (fun r1 u1 H locs hw1 hPx hPm hS => ?_)
  refine lv_aload_n hx hb dL_law_847 rfl (lv_at hl 2 rfl) ?_
  refine lv_aload_n hx hb dL_law_848 rfl (lv_at hl 0 rfl) ?_
  refine lv_iload_n hx hb dL_law_849 rfl (lv_at hl 3 rfl) ?_
  refine lv_iconst (v := nI 1) hx hb dL_law_850 (by decide) ?_
  refine xia hx hb (i + 1) dL_law_851 rfl ?_
  refine xsl hx hb hX hbl hS (show i + 1 < L by omega) hL dL_law_852 ?_
  refine lv_aload_n hx hb dL_law_853 rfl (lv_at hl 0 rfl) ?_
  refine lv_iload_n hx hb dL_law_854 rfl (lv_at hl 3 rfl) ?_
  refine lv_iconst (v := nI 2) hx hb dL_law_855 (by decide) ?_
  refine xia hx hb (i + 2) dL_law_856 rfl ?_
  refine xsl hx hb hX hbl hS (show i + 2 < L by omega) hL dL_law_857 ?_
  refine lv_aload_n hx hb dL_law_858 rfl (lv_at hl 0 rfl) ?_
  refine lv_iload_n hx hb dL_law_859 rfl (lv_at hl 3 rfl) ?_
  refine lv_iconst (v := nI 3) hx hb dL_law_860 (by decide) ?_
  refine xia hx hb (i + 3) dL_law_861 rfl ?_
  refine xsl hx hb hX hbl hS (show i + 3 < L by omega) hL dL_law_862 ?_
  refine gLi (va_runV (As := [.int (xs (i + 1)), .int (xs (i + 2)), .int (xs (i + 3))]) (rest := [.int r1]) ⟨hx, hb, hml, hown, hts⟩ (kX7_cut l D cs bd hdm H.size (((nN, px, py, pz, fx, fy, fz, lf, ld, fi), (nB, fr, tt, ln, wi, sg, pu), (nR, rd, rx, ry, wv, fo), (re, dg), (nP, tp, bt, dp)), (nQ, fu)) hnP hdp (xs (i + 1)) (xs (i + 2)) (xs (i + 3))) (cwV 3 hts gL_law_X7_cut rfl rfl rfl (by decide +kernel) ⟨Nat.le_of_ble_eq_true rfl, Nat.le_of_ble_eq_true rfl⟩) (gPreV EM_bl (va_recv hK hPm (ci := 7) (q0 := 0) rfl rfl) hPm (fun U _ hW => EM_warm hW hEm)) rfl rfl hl.1 rfl (lv_room (Nat.le_of_ble_eq_true rfl)) dL_law_863 ⟨Nat.le_of_ble_eq_true rfl, Nat.le_of_ble_eq_true rfl⟩) hPx (fun k q hq h => hAD q.1 (WX_at hq) h) hAm hS (fun r2 u2 H locs hw2 hPm hPx hS => ?_)
  obtain ⟨a1, rfl⟩ := hw1
  obtain ⟨a2, rfl⟩ := hw2
  have er : r1 = r2 := q_cut_det (G := ((nN, px, py, pz, fx, fy, fz, lf, ld, fi), (nB, fr, tt, ln, wi, sg, pu), (nR, rd, rx, ry, wv, fo), (re, dg), (nP, tp, bt, dp))) hnP a1 a2
  subst er
  have hfin : lst D cs ad bd (i + 6) ((nN, px, py, pz, fx, fy, fz, lf, ld, fi), (nB, fr, tt, ln, wi, sg, pu), (nR, rd, rx, ry, wv, fo), (re, dg), (nP, tp, bt, dp)) (sp, ac, kp, kc, kn, aw, dw, su, ss, sd) (nQ, fu) s H locs := ⟨hPx, hPm, hS, inv_mono hI (by omega), hRP, hRR, by show 6 * nQ ≤ i + 6; omega⟩
  refine lv_icmp_eq (tgt := 1092) hx hb dL_law_866 (by decide) (fun _ => ?_) (fun c9 => absurd rfl c9)
  exact kk _ _ _ H locs ls hfin (lv_sub hl [0, 1, 2, 3] rfl)
set_option maxHeartbeats 4000000 in
set_option maxRecDepth 100000 in
theorem law_15 {p : Program} {l : Launch} {e : Env} {s : State} {m : MethodId} {below : List Frame} {meth : Method} {c : Code} {Q : State → Prop} {b L : Nat} {xs : Nat → Int32} {D : va_G} {cs : Nat → ClassId} {ad bd : Nat → Nat} (C0 : lawC p s m c b L xs D cs ad bd) {i : Nat} (hi : i + 6 ≤ L) {G : GS} {C : CS} {E : ES} {H : Heap} {locs : List Loc} (hT : lst D cs ad bd i G C E s H locs) {ls : Array Slot} (hl : lv_has ls 8 [(0, .ref b), (1, .ref (ad 0)), (2, .ref (bd 0)), (3, .int (nI i))]) (kk : ∀ (G2 : GS) (C2 : CS) (E2 : ES) (H : Heap) (locs : List Loc) (ls : Array Slot), lst D cs ad bd (i + 6) G2 C2 E2 s H locs → lv_has ls 8 [(0, .ref b), (1, .ref (ad 0)), (2, .ref (bd 0)), (3, .int (nI i))] → W p l e room_1 s m #[Value.ref b] below meth c H locs 600000 7302249 Q (F0 m 1092 ls [])) : W p l e room_1 s m #[Value.ref b] below meth c H locs 600000 7302249 Q (F0 m 871 ls []) := by
  obtain ⟨hx, hb, hml, hown, hts, hX, hbl, hK, hEx, hEm, hd, hdm, hAx, hAm, hAD, hL⟩ := C0
  obtain ⟨⟨nN, px, py, pz, fx, fy, fz, lf, ld, fi⟩, ⟨nB, fr, tt, ln, wi, sg, pu⟩, ⟨nR, rd, rx, ry, wv, fo⟩, ⟨re, dg⟩, ⟨nP, tp, bt, dp⟩⟩ := G
  obtain ⟨sp, ac, kp, kc, kn, aw, dw, su, ss, sd⟩ := C
  obtain ⟨nQ, fu⟩ := E
  obtain ⟨hPx, hPm, hS, hI, hRP, hRR, hQ6⟩ := hT
  have hQ6 : 6 * nQ ≤ i := hQ6
  have hnQ : nQ ≤ 512 := by omega
  have hnQ6 : nQ < 600 := by omega
  have hkc : kc ≤ 20 := by have := hRR.1; omega
  have hkn : kn < 20 := by have := hRR.2.1; omega
  have hnN : nN ≤ 30 := hI.1.1
  have hnB : nB ≤ 60 := hI.1.2.1
  have hnR : nR ≤ 10 := hI.1.2.2.1
  have hso : sorted rd nR := hI.1.2.2.2.2.2.1.1
  have hnP : nP ≤ 30 := hI.2.2.2.1
  have hdp : ∀ j, j < nP → ¬ dp j = 0 := hI.2.2.2.2
  have hpos : posOK nN px py pz := fun j hj => ⟨pP_pOK (hI.2.1 j hj).1 (by omega), pP_pOK (hI.2.1 j hj).2.1 (by omega), pP_pOK (hI.2.1 j hj).2.2 (by omega)⟩
  have c_13 := hts (.constantDouble RL 13 4593671619917905920) (by decide +kernel)
  refine lv_aload_n hx hb dL_law_871 rfl (lv_at hl 1 rfl) ?_
  refine lv_aload_n hx hb dL_law_872 rfl (lv_at hl 0 rfl) ?_
  refine lv_iload_n hx hb dL_law_873 rfl (lv_at hl 3 rfl) ?_
  refine lv_iconst (v := nI 1) hx hb dL_law_874 (by decide) ?_
  refine xia hx hb (i + 1) dL_law_875 rfl ?_
  refine xsl hx hb hX hbl hS (show i + 1 < L by omega) hL dL_law_876 ?_
  refine gLi (va_runV (As := [.int (xs (i + 1))]) (rest := []) ⟨hx, hb, hml, hown, hts⟩ (kX6_whole l D cs ad hd H.size (((nN, px, py, pz, fx, fy, fz, lf, ld, fi), (nB, fr, tt, ln, wi, sg, pu), (nR, rd, rx, ry, wv, fo), (re, dg), (nP, tp, bt, dp)), (sp, ac, kp, kc, kn, aw, dw, su, ss, sd)) hnP (xs (i + 1))) (cwV 1 hts gL_law_X6_whole rfl rfl rfl (by decide +kernel) ⟨Nat.le_of_ble_eq_true rfl, Nat.le_of_ble_eq_true rfl⟩) (gPreV EX_bl (va_recv hK hPx (ci := 6) (q0 := 0) rfl rfl) hPx (fun U _ hW => EX_warm hW hEx)) rfl rfl hl.1 rfl (lv_room (Nat.le_of_ble_eq_true rfl)) dL_law_877 ⟨Nat.le_of_ble_eq_true rfl, Nat.le_of_ble_eq_true rfl⟩) hPm (fun k q hq h => hAD q.1 h (WM_at hq)) hAx hS (fun r1 u1 H locs hw1 hPx hPm hS => ?_)
  refine lv_aload_n hx hb dL_law_880 rfl (lv_at hl 2 rfl) ?_
  refine lv_aload_n hx hb dL_law_881 rfl (lv_at hl 0 rfl) ?_
  refine lv_iload_n hx hb dL_law_882 rfl (lv_at hl 3 rfl) ?_
  refine lv_iconst (v := nI 1) hx hb dL_law_883 (by decide) ?_
  refine xia hx hb (i + 1) dL_law_884 rfl ?_
  refine xsl hx hb hX hbl hS (show i + 1 < L by omega) hL dL_law_885 ?_
  refine gLi (va_runV (As := [.int (xs (i + 1))]) (rest := [.int r1]) ⟨hx, hb, hml, hown, hts⟩ (kX7_whole l D cs bd hdm H.size (((nN, px, py, pz, fx, fy, fz, lf, ld, fi), (nB, fr, tt, ln, wi, sg, pu), (nR, rd, rx, ry, wv, fo), (re, dg), (nP, tp, bt, dp)), (nQ, fu)) hnP (xs (i + 1))) (cwV 1 hts gL_law_X7_whole rfl rfl rfl (by decide +kernel) ⟨Nat.le_of_ble_eq_true rfl, Nat.le_of_ble_eq_true rfl⟩) (gPreV EM_bl (va_recv hK hPm (ci := 7) (q0 := 0) rfl rfl) hPm (fun U _ hW => EM_warm hW hEm)) rfl rfl hl.1 rfl (lv_room (Nat.le_of_ble_eq_true rfl)) dL_law_886 ⟨Nat.le_of_ble_eq_true rfl, Nat.le_of_ble_eq_true rfl⟩) hPx (fun k q hq h => hAD q.1 (WX_at hq) h) hAm hS (fun r2 u2 H locs hw2 hPm hPx hS => ?_)
  obtain ⟨a1, rfl⟩ := hw1
  obtain ⟨a2, rfl⟩ := hw2
  have er : r1 = r2 := q_whole_det (G := ((nN, px, py, pz, fx, fy, fz, lf, ld, fi), (nB, fr, tt, ln, wi, sg, pu), (nR, rd, rx, ry, wv, fo), (re, dg), (nP, tp, bt, dp))) hnP a1 a2
  subst er
  have hfin : lst D cs ad bd (i + 6) ((nN, px, py, pz, fx, fy, fz, lf, ld, fi), (nB, fr, tt, ln, wi, sg, pu), (nR, rd, rx, ry, wv, fo), (re, dg), (nP, tp, bt, dp)) (sp, ac, kp, kc, kn, aw, dw, su, ss, sd) (nQ, fu) s H locs := ⟨hPx, hPm, hS, inv_mono hI (by omega), hRP, hRR, by show 6 * nQ ≤ i + 6; omega⟩
  refine lv_icmp_eq (tgt := 1092) hx hb dL_law_889 (by decide) (fun _ => ?_) (fun c9 => absurd rfl c9)
  exact kk _ _ _ H locs ls hfin (lv_sub hl [0, 1, 2, 3] rfl)
set_option maxHeartbeats 4000000 in
set_option maxRecDepth 100000 in
theorem law_16 {p : Program} {l : Launch} {e : Env} {s : State} {m : MethodId} {below : List Frame} {meth : Method} {c : Code} {Q : State → Prop} {b L : Nat} {xs : Nat → Int32} {D : va_G} {cs : Nat → ClassId} {ad bd : Nat → Nat} (C0 : lawC p s m c b L xs D cs ad bd) {i : Nat} (hi : i + 6 ≤ L) {G : GS} {C : CS} {E : ES} {H : Heap} {locs : List Loc} (hT : lst D cs ad bd i G C E s H locs) {ls : Array Slot} (hl : lv_has ls 8 [(0, .ref b), (1, .ref (ad 0)), (2, .ref (bd 0)), (3, .int (nI i))]) (kk : ∀ (G2 : GS) (C2 : CS) (E2 : ES) (H : Heap) (locs : List Loc) (ls : Array Slot), lst D cs ad bd (i + 6) G2 C2 E2 s H locs → lv_has ls 8 [(0, .ref b), (1, .ref (ad 0)), (2, .ref (bd 0)), (3, .int (nI i))] → W p l e room_1 s m #[Value.ref b] below meth c H locs 600000 7302249 Q (F0 m 1092 ls [])) : W p l e room_1 s m #[Value.ref b] below meth c H locs 600000 7302249 Q (F0 m 894 ls []) := by
  obtain ⟨hx, hb, hml, hown, hts, hX, hbl, hK, hEx, hEm, hd, hdm, hAx, hAm, hAD, hL⟩ := C0
  obtain ⟨⟨nN, px, py, pz, fx, fy, fz, lf, ld, fi⟩, ⟨nB, fr, tt, ln, wi, sg, pu⟩, ⟨nR, rd, rx, ry, wv, fo⟩, ⟨re, dg⟩, ⟨nP, tp, bt, dp⟩⟩ := G
  obtain ⟨sp, ac, kp, kc, kn, aw, dw, su, ss, sd⟩ := C
  obtain ⟨nQ, fu⟩ := E
  obtain ⟨hPx, hPm, hS, hI, hRP, hRR, hQ6⟩ := hT
  have hQ6 : 6 * nQ ≤ i := hQ6
  have hnQ : nQ ≤ 512 := by omega
  have hnQ6 : nQ < 600 := by omega
  have hkc : kc ≤ 20 := by have := hRR.1; omega
  have hkn : kn < 20 := by have := hRR.2.1; omega
  have hnN : nN ≤ 30 := hI.1.1
  have hnB : nB ≤ 60 := hI.1.2.1
  have hnR : nR ≤ 10 := hI.1.2.2.1
  have hso : sorted rd nR := hI.1.2.2.2.2.2.1.1
  have hnP : nP ≤ 30 := hI.2.2.2.1
  have hdp : ∀ j, j < nP → ¬ dp j = 0 := hI.2.2.2.2
  have hpos : posOK nN px py pz := fun j hj => ⟨pP_pOK (hI.2.1 j hj).1 (by omega), pP_pOK (hI.2.1 j hj).2.1 (by omega), pP_pOK (hI.2.1 j hj).2.2 (by omega)⟩
  have c_13 := hts (.constantDouble RL 13 4593671619917905920) (by decide +kernel)
  refine lv_aload_n hx hb dL_law_894 rfl (lv_at hl 1 rfl) ?_
  refine lv_aload_n hx hb dL_law_895 rfl (lv_at hl 0 rfl) ?_
  refine lv_iload_n hx hb dL_law_896 rfl (lv_at hl 3 rfl) ?_
  refine lv_iconst (v := nI 1) hx hb dL_law_897 (by decide) ?_
  refine xia hx hb (i + 1) dL_law_898 rfl ?_
  refine xsl hx hb hX hbl hS (show i + 1 < L by omega) hL dL_law_899 ?_
  refine lv_aload_n hx hb dL_law_900 rfl (lv_at hl 0 rfl) ?_
  refine lv_iload_n hx hb dL_law_901 rfl (lv_at hl 3 rfl) ?_
  refine lv_iconst (v := nI 2) hx hb dL_law_902 (by decide) ?_
  refine xia hx hb (i + 2) dL_law_903 rfl ?_
  refine xsl hx hb hX hbl hS (show i + 2 < L by omega) hL dL_law_904 ?_
  refine gLi (va_runV (As := [.int (xs (i + 1)), .int (xs (i + 2))]) (rest := []) ⟨hx, hb, hml, hown, hts⟩ (kX6_edge l D cs ad hd H.size (((nN, px, py, pz, fx, fy, fz, lf, ld, fi), (nB, fr, tt, ln, wi, sg, pu), (nR, rd, rx, ry, wv, fo), (re, dg), (nP, tp, bt, dp)), (sp, ac, kp, kc, kn, aw, dw, su, ss, sd)) hnP (xs (i + 1)) (xs (i + 2))) (cwV 2 hts gL_law_X6_edge rfl rfl rfl (by decide +kernel) ⟨Nat.le_of_ble_eq_true rfl, Nat.le_of_ble_eq_true rfl⟩) (gPreV EX_bl (va_recv hK hPx (ci := 6) (q0 := 0) rfl rfl) hPx (fun U _ hW => EX_warm hW hEx)) rfl rfl hl.1 rfl (lv_room (Nat.le_of_ble_eq_true rfl)) dL_law_905 ⟨Nat.le_of_ble_eq_true rfl, Nat.le_of_ble_eq_true rfl⟩) hPm (fun k q hq h => hAD q.1 h (WM_at hq)) hAx hS (fun r1 u1 H locs hw1 hPx hPm hS => ?_)
  refine lv_aload_n hx hb dL_law_908 rfl (lv_at hl 2 rfl) ?_
  refine lv_aload_n hx hb dL_law_909 rfl (lv_at hl 0 rfl) ?_
  refine lv_iload_n hx hb dL_law_910 rfl (lv_at hl 3 rfl) ?_
  refine lv_iconst (v := nI 1) hx hb dL_law_911 (by decide) ?_
  refine xia hx hb (i + 1) dL_law_912 rfl ?_
  refine xsl hx hb hX hbl hS (show i + 1 < L by omega) hL dL_law_913 ?_
  refine lv_aload_n hx hb dL_law_914 rfl (lv_at hl 0 rfl) ?_
  refine lv_iload_n hx hb dL_law_915 rfl (lv_at hl 3 rfl) ?_
  refine lv_iconst (v := nI 2) hx hb dL_law_916 (by decide) ?_
  refine xia hx hb (i + 2) dL_law_917 rfl ?_
  refine xsl hx hb hX hbl hS (show i + 2 < L by omega) hL dL_law_918 ?_
  refine gLi (va_runV (As := [.int (xs (i + 1)), .int (xs (i + 2))]) (rest := [.int r1]) ⟨hx, hb, hml, hown, hts⟩ (kX7_edge l D cs bd hdm H.size (((nN, px, py, pz, fx, fy, fz, lf, ld, fi), (nB, fr, tt, ln, wi, sg, pu), (nR, rd, rx, ry, wv, fo), (re, dg), (nP, tp, bt, dp)), (nQ, fu)) hnP (xs (i + 1)) (xs (i + 2))) (cwV 2 hts gL_law_X7_edge rfl rfl rfl (by decide +kernel) ⟨Nat.le_of_ble_eq_true rfl, Nat.le_of_ble_eq_true rfl⟩) (gPreV EM_bl (va_recv hK hPm (ci := 7) (q0 := 0) rfl rfl) hPm (fun U _ hW => EM_warm hW hEm)) rfl rfl hl.1 rfl (lv_room (Nat.le_of_ble_eq_true rfl)) dL_law_919 ⟨Nat.le_of_ble_eq_true rfl, Nat.le_of_ble_eq_true rfl⟩) hPx (fun k q hq h => hAD q.1 (WX_at hq) h) hAm hS (fun r2 u2 H locs hw2 hPm hPx hS => ?_)
  obtain ⟨a1, rfl⟩ := hw1
  obtain ⟨a2, rfl⟩ := hw2
  have er : r1 = r2 := q_edge_det (G := ((nN, px, py, pz, fx, fy, fz, lf, ld, fi), (nB, fr, tt, ln, wi, sg, pu), (nR, rd, rx, ry, wv, fo), (re, dg), (nP, tp, bt, dp))) hnP a1 a2
  subst er
  have hfin : lst D cs ad bd (i + 6) ((nN, px, py, pz, fx, fy, fz, lf, ld, fi), (nB, fr, tt, ln, wi, sg, pu), (nR, rd, rx, ry, wv, fo), (re, dg), (nP, tp, bt, dp)) (sp, ac, kp, kc, kn, aw, dw, su, ss, sd) (nQ, fu) s H locs := ⟨hPx, hPm, hS, inv_mono hI (by omega), hRP, hRR, by show 6 * nQ ≤ i + 6; omega⟩
  refine lv_icmp_eq (tgt := 1092) hx hb dL_law_922 (by decide) (fun _ => ?_) (fun c9 => absurd rfl c9)
  exact kk _ _ _ H locs ls hfin (lv_sub hl [0, 1, 2, 3] rfl)
set_option maxHeartbeats 4000000 in
set_option maxRecDepth 100000 in
theorem law_17 {p : Program} {l : Launch} {e : Env} {s : State} {m : MethodId} {below : List Frame} {meth : Method} {c : Code} {Q : State → Prop} {b L : Nat} {xs : Nat → Int32} {D : va_G} {cs : Nat → ClassId} {ad bd : Nat → Nat} (C0 : lawC p s m c b L xs D cs ad bd) {i : Nat} (hi : i + 6 ≤ L) {G : GS} {C : CS} {E : ES} {H : Heap} {locs : List Loc} (hT : lst D cs ad bd i G C E s H locs) {ls : Array Slot} (hl : lv_has ls 8 [(0, .ref b), (1, .ref (ad 0)), (2, .ref (bd 0)), (3, .int (nI i))]) (kk : ∀ (G2 : GS) (C2 : CS) (E2 : ES) (H : Heap) (locs : List Loc) (ls : Array Slot), lst D cs ad bd (i + 6) G2 C2 E2 s H locs → lv_has ls 8 [(0, .ref b), (1, .ref (ad 0)), (2, .ref (bd 0)), (3, .int (nI i))] → W p l e room_1 s m #[Value.ref b] below meth c H locs 600000 7302249 Q (F0 m 1092 ls [])) : W p l e room_1 s m #[Value.ref b] below meth c H locs 600000 7302249 Q (F0 m 927 ls []) := by
  obtain ⟨hx, hb, hml, hown, hts, hX, hbl, hK, hEx, hEm, hd, hdm, hAx, hAm, hAD, hL⟩ := C0
  obtain ⟨⟨nN, px, py, pz, fx, fy, fz, lf, ld, fi⟩, ⟨nB, fr, tt, ln, wi, sg, pu⟩, ⟨nR, rd, rx, ry, wv, fo⟩, ⟨re, dg⟩, ⟨nP, tp, bt, dp⟩⟩ := G
  obtain ⟨sp, ac, kp, kc, kn, aw, dw, su, ss, sd⟩ := C
  obtain ⟨nQ, fu⟩ := E
  obtain ⟨hPx, hPm, hS, hI, hRP, hRR, hQ6⟩ := hT
  have hQ6 : 6 * nQ ≤ i := hQ6
  have hnQ : nQ ≤ 512 := by omega
  have hnQ6 : nQ < 600 := by omega
  have hkc : kc ≤ 20 := by have := hRR.1; omega
  have hkn : kn < 20 := by have := hRR.2.1; omega
  have hnN : nN ≤ 30 := hI.1.1
  have hnB : nB ≤ 60 := hI.1.2.1
  have hnR : nR ≤ 10 := hI.1.2.2.1
  have hso : sorted rd nR := hI.1.2.2.2.2.2.1.1
  have hnP : nP ≤ 30 := hI.2.2.2.1
  have hdp : ∀ j, j < nP → ¬ dp j = 0 := hI.2.2.2.2
  have hpos : posOK nN px py pz := fun j hj => ⟨pP_pOK (hI.2.1 j hj).1 (by omega), pP_pOK (hI.2.1 j hj).2.1 (by omega), pP_pOK (hI.2.1 j hj).2.2 (by omega)⟩
  have c_13 := hts (.constantDouble RL 13 4593671619917905920) (by decide +kernel)
  refine lv_aload_n hx hb dL_law_927 rfl (lv_at hl 1 rfl) ?_
  refine lv_aload_n hx hb dL_law_928 rfl (lv_at hl 0 rfl) ?_
  refine lv_iload_n hx hb dL_law_929 rfl (lv_at hl 3 rfl) ?_
  refine lv_iconst (v := nI 1) hx hb dL_law_930 (by decide) ?_
  refine xia hx hb (i + 1) dL_law_931 rfl ?_
  refine xsl hx hb hX hbl hS (show i + 1 < L by omega) hL dL_law_932 ?_
  refine lv_i2d hx hb dL_law_933 ?_
  refine lv_ldc2d hx hb hown c_13 dL_law_934 ?_
  refine lv_dmul hx hb dL_law_937 (fB_ne (e8_fB (xs (i + 1))) (by decide)) ?_
  refine lv_topd (fun t_937 et_937 => ?_)
  have et_937 : e8 (xs (i + 1)) = t_937 := et_937.symm
  subst et_937
  refine gLi (va_runV (As := [.double (e8 (xs (i + 1)))]) (rest := []) ⟨hx, hb, hml, hown, hts⟩ (kX6_foul l D cs ad hd H.size (((nN, px, py, pz, fx, fy, fz, lf, ld, fi), (nB, fr, tt, ln, wi, sg, pu), (nR, rd, rx, ry, wv, fo), (re, dg), (nP, tp, bt, dp)), (sp, ac, kp, kc, kn, aw, dw, su, ss, sd))  (e8 (xs (i + 1)))) (cwV 1 hts gL_law_X6_foul rfl rfl rfl (by decide +kernel) ⟨Nat.le_of_ble_eq_true rfl, Nat.le_of_ble_eq_true rfl⟩) (gPreV EX_bl (va_recv hK hPx (ci := 6) (q0 := 0) rfl rfl) hPx (fun U _ hW => EX_warm hW hEx)) rfl rfl hl.1 rfl (lv_room (Nat.le_of_ble_eq_true rfl)) dL_law_938 ⟨Nat.le_of_ble_eq_true rfl, Nat.le_of_ble_eq_true rfl⟩) hPm (fun k q hq h => hAD q.1 h (WM_at hq)) hAx hS (fun r1 u1 H locs hw1 hPx hPm hS => ?_)
  refine lv_aload_n hx hb dL_law_941 rfl (lv_at hl 2 rfl) ?_
  refine lv_aload_n hx hb dL_law_942 rfl (lv_at hl 0 rfl) ?_
  refine lv_iload_n hx hb dL_law_943 rfl (lv_at hl 3 rfl) ?_
  refine lv_iconst (v := nI 1) hx hb dL_law_944 (by decide) ?_
  refine xia hx hb (i + 1) dL_law_945 rfl ?_
  refine xsl hx hb hX hbl hS (show i + 1 < L by omega) hL dL_law_946 ?_
  refine lv_i2d hx hb dL_law_947 ?_
  refine lv_ldc2d hx hb hown c_13 dL_law_948 ?_
  refine lv_dmul hx hb dL_law_951 (fB_ne (e8_fB (xs (i + 1))) (by decide)) ?_
  refine lv_topd (fun t_951 et_951 => ?_)
  have et_951 : e8 (xs (i + 1)) = t_951 := et_951.symm
  subst et_951
  refine gLi (va_runV (As := [.double (e8 (xs (i + 1)))]) (rest := [.int r1]) ⟨hx, hb, hml, hown, hts⟩ (kX7_foul l D cs bd hdm H.size (((nN, px, py, pz, fx, fy, fz, lf, ld, fi), (nB, fr, tt, ln, wi, sg, pu), (nR, rd, rx, ry, wv, fo), (re, dg), (nP, tp, bt, dp)), (nQ, fu))  (e8 (xs (i + 1)))) (cwV 1 hts gL_law_X7_foul rfl rfl rfl (by decide +kernel) ⟨Nat.le_of_ble_eq_true rfl, Nat.le_of_ble_eq_true rfl⟩) (gPreV EM_bl (va_recv hK hPm (ci := 7) (q0 := 0) rfl rfl) hPm (fun U _ hW => EM_warm hW hEm)) rfl rfl hl.1 rfl (lv_room (Nat.le_of_ble_eq_true rfl)) dL_law_952 ⟨Nat.le_of_ble_eq_true rfl, Nat.le_of_ble_eq_true rfl⟩) hPx (fun k q hq h => hAD q.1 (WX_at hq) h) hAm hS (fun r2 u2 H locs hw2 hPm hPx hS => ?_)
  obtain ⟨g1, k1⟩ := u1
  obtain ⟨g2, k2⟩ := u2
  obtain ⟨a1, b1⟩ := hw1
  obtain ⟨a2, b2⟩ := hw2
  have b1 : k1 = (sp, ac, kp, kc, kn, aw, dw, su, ss, sd) := b1
  have b2 : k2 = (nQ, fu) := b2
  obtain ⟨er, eg⟩ := q_foul_det a1 a2
  have er : r1 = r2 := er
  have eg : g1 = g2 := eg
  subst b1
  subst b2
  subst er
  subst eg
  have hI2 : inv (4000 + 50 * i) g1 := inv_foul hI a1
  have hR2 : RP g1.2.2.2.2 (sp, ac, kp, kc, kn, aw, dw, su, ss, sd) := by rw [ps_foul a1]; exact hRP
  have hfin : lst D cs ad bd (i + 6) g1 (sp, ac, kp, kc, kn, aw, dw, su, ss, sd) (nQ, fu) s H locs := ⟨hPx, hPm, hS, inv_mono hI2 (by omega), hR2, hRR, by show 6 * nQ ≤ i + 6; omega⟩
  refine lv_icmp_eq (tgt := 1092) hx hb dL_law_955 (by decide) (fun _ => ?_) (fun c9 => absurd rfl c9)
  exact kk _ _ _ H locs ls hfin (lv_sub hl [0, 1, 2, 3] rfl)
set_option maxHeartbeats 4000000 in
set_option maxRecDepth 100000 in
theorem law_18 {p : Program} {l : Launch} {e : Env} {s : State} {m : MethodId} {below : List Frame} {meth : Method} {c : Code} {Q : State → Prop} {b L : Nat} {xs : Nat → Int32} {D : va_G} {cs : Nat → ClassId} {ad bd : Nat → Nat} (C0 : lawC p s m c b L xs D cs ad bd) {i : Nat} (hi : i + 6 ≤ L) {G : GS} {C : CS} {E : ES} {H : Heap} {locs : List Loc} (hT : lst D cs ad bd i G C E s H locs) {ls : Array Slot} (hl : lv_has ls 8 [(0, .ref b), (1, .ref (ad 0)), (2, .ref (bd 0)), (3, .int (nI i))]) (kk : ∀ (G2 : GS) (C2 : CS) (E2 : ES) (H : Heap) (locs : List Loc) (ls : Array Slot), lst D cs ad bd (i + 6) G2 C2 E2 s H locs → lv_has ls 8 [(0, .ref b), (1, .ref (ad 0)), (2, .ref (bd 0)), (3, .int (nI i))] → W p l e room_1 s m #[Value.ref b] below meth c H locs 600000 7302249 Q (F0 m 1092 ls [])) : W p l e room_1 s m #[Value.ref b] below meth c H locs 600000 7302249 Q (F0 m 960 ls []) := by
  obtain ⟨hx, hb, hml, hown, hts, hX, hbl, hK, hEx, hEm, hd, hdm, hAx, hAm, hAD, hL⟩ := C0
  obtain ⟨⟨nN, px, py, pz, fx, fy, fz, lf, ld, fi⟩, ⟨nB, fr, tt, ln, wi, sg, pu⟩, ⟨nR, rd, rx, ry, wv, fo⟩, ⟨re, dg⟩, ⟨nP, tp, bt, dp⟩⟩ := G
  obtain ⟨sp, ac, kp, kc, kn, aw, dw, su, ss, sd⟩ := C
  obtain ⟨nQ, fu⟩ := E
  obtain ⟨hPx, hPm, hS, hI, hRP, hRR, hQ6⟩ := hT
  have hQ6 : 6 * nQ ≤ i := hQ6
  have hnQ : nQ ≤ 512 := by omega
  have hnQ6 : nQ < 600 := by omega
  have hkc : kc ≤ 20 := by have := hRR.1; omega
  have hkn : kn < 20 := by have := hRR.2.1; omega
  have hnN : nN ≤ 30 := hI.1.1
  have hnB : nB ≤ 60 := hI.1.2.1
  have hnR : nR ≤ 10 := hI.1.2.2.1
  have hso : sorted rd nR := hI.1.2.2.2.2.2.1.1
  have hnP : nP ≤ 30 := hI.2.2.2.1
  have hdp : ∀ j, j < nP → ¬ dp j = 0 := hI.2.2.2.2
  have hpos : posOK nN px py pz := fun j hj => ⟨pP_pOK (hI.2.1 j hj).1 (by omega), pP_pOK (hI.2.1 j hj).2.1 (by omega), pP_pOK (hI.2.1 j hj).2.2 (by omega)⟩
  have c_13 := hts (.constantDouble RL 13 4593671619917905920) (by decide +kernel)
  refine lv_aload_n hx hb dL_law_960 rfl (lv_at hl 1 rfl) ?_
  refine lv_aload_n hx hb dL_law_961 rfl (lv_at hl 0 rfl) ?_
  refine lv_iload_n hx hb dL_law_962 rfl (lv_at hl 3 rfl) ?_
  refine lv_iconst (v := nI 1) hx hb dL_law_963 (by decide) ?_
  refine xia hx hb (i + 1) dL_law_964 rfl ?_
  refine xsl hx hb hX hbl hS (show i + 1 < L by omega) hL dL_law_965 ?_
  refine lv_i2d hx hb dL_law_966 ?_
  refine lv_ldc2d hx hb hown c_13 dL_law_967 ?_
  refine lv_dmul hx hb dL_law_970 (fB_ne (e8_fB (xs (i + 1))) (by decide)) ?_
  refine lv_topd (fun t_970 et_970 => ?_)
  have et_970 : e8 (xs (i + 1)) = t_970 := et_970.symm
  subst et_970
  refine lv_aload_n hx hb dL_law_971 rfl (lv_at hl 0 rfl) ?_
  refine lv_iload_n hx hb dL_law_972 rfl (lv_at hl 3 rfl) ?_
  refine lv_iconst (v := nI 2) hx hb dL_law_973 (by decide) ?_
  refine xia hx hb (i + 2) dL_law_974 rfl ?_
  refine xsl hx hb hX hbl hS (show i + 2 < L by omega) hL dL_law_975 ?_
  refine lv_i2d hx hb dL_law_976 ?_
  refine lv_ldc2d hx hb hown c_13 dL_law_977 ?_
  refine lv_dmul hx hb dL_law_980 (fB_ne (e8_fB (xs (i + 2))) (by decide)) ?_
  refine lv_topd (fun t_980 et_980 => ?_)
  have et_980 : e8 (xs (i + 2)) = t_980 := et_980.symm
  subst et_980
  refine lv_aload_n hx hb dL_law_981 rfl (lv_at hl 0 rfl) ?_
  refine lv_iload_n hx hb dL_law_982 rfl (lv_at hl 3 rfl) ?_
  refine lv_iconst (v := nI 3) hx hb dL_law_983 (by decide) ?_
  refine xia hx hb (i + 3) dL_law_984 rfl ?_
  refine xsl hx hb hX hbl hS (show i + 3 < L by omega) hL dL_law_985 ?_
  refine gLi (va_runV (As := [.double (e8 (xs (i + 1))), .double (e8 (xs (i + 2))), .int (xs (i + 3))]) (rest := []) ⟨hx, hb, hml, hown, hts⟩ (kX6_wave l D cs ad hd H.size (((nN, px, py, pz, fx, fy, fz, lf, ld, fi), (nB, fr, tt, ln, wi, sg, pu), (nR, rd, rx, ry, wv, fo), (re, dg), (nP, tp, bt, dp)), (sp, ac, kp, kc, kn, aw, dw, su, ss, sd))  (e8 (xs (i + 1))) (e8 (xs (i + 2))) (xs (i + 3))) (cwV 3 hts gL_law_X6_wave rfl rfl rfl (by decide +kernel) ⟨Nat.le_of_ble_eq_true rfl, Nat.le_of_ble_eq_true rfl⟩) (gPreV EX_bl (va_recv hK hPx (ci := 6) (q0 := 0) rfl rfl) hPx (fun U _ hW => EX_warm hW hEx)) rfl rfl hl.1 rfl (lv_room (Nat.le_of_ble_eq_true rfl)) dL_law_986 ⟨Nat.le_of_ble_eq_true rfl, Nat.le_of_ble_eq_true rfl⟩) hPm (fun k q hq h => hAD q.1 h (WM_at hq)) hAx hS (fun r1 u1 H locs hw1 hPx hPm hS => ?_)
  refine lv_aload_n hx hb dL_law_989 rfl (lv_at hl 2 rfl) ?_
  refine lv_aload_n hx hb dL_law_990 rfl (lv_at hl 0 rfl) ?_
  refine lv_iload_n hx hb dL_law_991 rfl (lv_at hl 3 rfl) ?_
  refine lv_iconst (v := nI 1) hx hb dL_law_992 (by decide) ?_
  refine xia hx hb (i + 1) dL_law_993 rfl ?_
  refine xsl hx hb hX hbl hS (show i + 1 < L by omega) hL dL_law_994 ?_
  refine lv_i2d hx hb dL_law_995 ?_
  refine lv_ldc2d hx hb hown c_13 dL_law_996 ?_
  refine lv_dmul hx hb dL_law_999 (fB_ne (e8_fB (xs (i + 1))) (by decide)) ?_
  refine lv_topd (fun t_999 et_999 => ?_)
  have et_999 : e8 (xs (i + 1)) = t_999 := et_999.symm
  subst et_999
  refine lv_aload_n hx hb dL_law_1000 rfl (lv_at hl 0 rfl) ?_
  refine lv_iload_n hx hb dL_law_1001 rfl (lv_at hl 3 rfl) ?_
  refine lv_iconst (v := nI 2) hx hb dL_law_1002 (by decide) ?_
  refine xia hx hb (i + 2) dL_law_1003 rfl ?_
  refine xsl hx hb hX hbl hS (show i + 2 < L by omega) hL dL_law_1004 ?_
  refine lv_i2d hx hb dL_law_1005 ?_
  refine lv_ldc2d hx hb hown c_13 dL_law_1006 ?_
  refine lv_dmul hx hb dL_law_1009 (fB_ne (e8_fB (xs (i + 2))) (by decide)) ?_
  refine lv_topd (fun t_1009 et_1009 => ?_)
  have et_1009 : e8 (xs (i + 2)) = t_1009 := et_1009.symm
  subst et_1009
  refine lv_aload_n hx hb dL_law_1010 rfl (lv_at hl 0 rfl) ?_
  refine lv_iload_n hx hb dL_law_1011 rfl (lv_at hl 3 rfl) ?_
  refine lv_iconst (v := nI 3) hx hb dL_law_1012 (by decide) ?_
  refine xia hx hb (i + 3) dL_law_1013 rfl ?_
  refine xsl hx hb hX hbl hS (show i + 3 < L by omega) hL dL_law_1014 ?_
  refine gLi (va_runV (As := [.double (e8 (xs (i + 1))), .double (e8 (xs (i + 2))), .int (xs (i + 3))]) (rest := [.int r1]) ⟨hx, hb, hml, hown, hts⟩ (kX7_wave l D cs bd hdm H.size (((nN, px, py, pz, fx, fy, fz, lf, ld, fi), (nB, fr, tt, ln, wi, sg, pu), (nR, rd, rx, ry, wv, fo), (re, dg), (nP, tp, bt, dp)), (nQ, fu))  (e8 (xs (i + 1))) (e8 (xs (i + 2))) (xs (i + 3))) (cwV 3 hts gL_law_X7_wave rfl rfl rfl (by decide +kernel) ⟨Nat.le_of_ble_eq_true rfl, Nat.le_of_ble_eq_true rfl⟩) (gPreV EM_bl (va_recv hK hPm (ci := 7) (q0 := 0) rfl rfl) hPm (fun U _ hW => EM_warm hW hEm)) rfl rfl hl.1 rfl (lv_room (Nat.le_of_ble_eq_true rfl)) dL_law_1015 ⟨Nat.le_of_ble_eq_true rfl, Nat.le_of_ble_eq_true rfl⟩) hPx (fun k q hq h => hAD q.1 (WX_at hq) h) hAm hS (fun r2 u2 H locs hw2 hPm hPx hS => ?_)
  obtain ⟨g1, k1⟩ := u1
  obtain ⟨g2, k2⟩ := u2
  obtain ⟨a1, b1⟩ := hw1
  obtain ⟨a2, b2⟩ := hw2
  have b1 : k1 = (sp, ac, kp, kc, kn, aw, dw, su, ss, sd) := b1
  have b2 : k2 = (nQ, fu) := b2
  obtain ⟨er, eg⟩ := q_wave_det a1 a2
  have er : r1 = r2 := er
  have eg : g1 = g2 := eg
  subst b1
  subst b2
  subst er
  subst eg
  have hI2 : inv (4000 + 50 * i) g1 := inv_wave hI a1
  have hR2 : RP g1.2.2.2.2 (sp, ac, kp, kc, kn, aw, dw, su, ss, sd) := by rw [ps_wave a1]; exact hRP
  have hfin : lst D cs ad bd (i + 6) g1 (sp, ac, kp, kc, kn, aw, dw, su, ss, sd) (nQ, fu) s H locs := ⟨hPx, hPm, hS, inv_mono hI2 (by omega), hR2, hRR, by show 6 * nQ ≤ i + 6; omega⟩
  refine lv_icmp_eq (tgt := 1092) hx hb dL_law_1018 (by decide) (fun _ => ?_) (fun c9 => absurd rfl c9)
  exact kk _ _ _ H locs ls hfin (lv_sub hl [0, 1, 2, 3] rfl)
set_option maxHeartbeats 4000000 in
set_option maxRecDepth 100000 in
theorem law_19 {p : Program} {l : Launch} {e : Env} {s : State} {m : MethodId} {below : List Frame} {meth : Method} {c : Code} {Q : State → Prop} {b L : Nat} {xs : Nat → Int32} {D : va_G} {cs : Nat → ClassId} {ad bd : Nat → Nat} (C0 : lawC p s m c b L xs D cs ad bd) {i : Nat} (hi : i + 6 ≤ L) {G : GS} {C : CS} {E : ES} {H : Heap} {locs : List Loc} (hT : lst D cs ad bd i G C E s H locs) {ls : Array Slot} (hl : lv_has ls 8 [(0, .ref b), (1, .ref (ad 0)), (2, .ref (bd 0)), (3, .int (nI i))]) (kk : ∀ (G2 : GS) (C2 : CS) (E2 : ES) (H : Heap) (locs : List Loc) (ls : Array Slot), lst D cs ad bd (i + 6) G2 C2 E2 s H locs → lv_has ls 8 [(0, .ref b), (1, .ref (ad 0)), (2, .ref (bd 0)), (3, .int (nI i))] → W p l e room_1 s m #[Value.ref b] below meth c H locs 600000 7302249 Q (F0 m 1092 ls [])) : W p l e room_1 s m #[Value.ref b] below meth c H locs 600000 7302249 Q (F0 m 1023 ls []) := by
  obtain ⟨hx, hb, hml, hown, hts, hX, hbl, hK, hEx, hEm, hd, hdm, hAx, hAm, hAD, hL⟩ := C0
  obtain ⟨⟨nN, px, py, pz, fx, fy, fz, lf, ld, fi⟩, ⟨nB, fr, tt, ln, wi, sg, pu⟩, ⟨nR, rd, rx, ry, wv, fo⟩, ⟨re, dg⟩, ⟨nP, tp, bt, dp⟩⟩ := G
  obtain ⟨sp, ac, kp, kc, kn, aw, dw, su, ss, sd⟩ := C
  obtain ⟨nQ, fu⟩ := E
  obtain ⟨hPx, hPm, hS, hI, hRP, hRR, hQ6⟩ := hT
  have hQ6 : 6 * nQ ≤ i := hQ6
  have hnQ : nQ ≤ 512 := by omega
  have hnQ6 : nQ < 600 := by omega
  have hkc : kc ≤ 20 := by have := hRR.1; omega
  have hkn : kn < 20 := by have := hRR.2.1; omega
  have hnN : nN ≤ 30 := hI.1.1
  have hnB : nB ≤ 60 := hI.1.2.1
  have hnR : nR ≤ 10 := hI.1.2.2.1
  have hso : sorted rd nR := hI.1.2.2.2.2.2.1.1
  have hnP : nP ≤ 30 := hI.2.2.2.1
  have hdp : ∀ j, j < nP → ¬ dp j = 0 := hI.2.2.2.2
  have hpos : posOK nN px py pz := fun j hj => ⟨pP_pOK (hI.2.1 j hj).1 (by omega), pP_pOK (hI.2.1 j hj).2.1 (by omega), pP_pOK (hI.2.1 j hj).2.2 (by omega)⟩
  have c_13 := hts (.constantDouble RL 13 4593671619917905920) (by decide +kernel)
  refine lv_aload_n hx hb dL_law_1023 rfl (lv_at hl 1 rfl) ?_
  refine gLi (va_runV (As := []) (rest := []) ⟨hx, hb, hml, hown, hts⟩ (kX6_mirrored l D cs ad hd H.size (((nN, px, py, pz, fx, fy, fz, lf, ld, fi), (nB, fr, tt, ln, wi, sg, pu), (nR, rd, rx, ry, wv, fo), (re, dg), (nP, tp, bt, dp)), (sp, ac, kp, kc, kn, aw, dw, su, ss, sd)) hnN hpos ) (cwV 0 hts gL_law_X6_mirrored rfl rfl rfl (by decide +kernel) ⟨Nat.le_of_ble_eq_true rfl, Nat.le_of_ble_eq_true rfl⟩) (gPreV EX_bl (va_recv hK hPx (ci := 6) (q0 := 0) rfl rfl) hPx (fun U _ hW => EX_warm hW hEx)) rfl rfl hl.1 rfl (lv_room (Nat.le_of_ble_eq_true rfl)) dL_law_1024 ⟨Nat.le_of_ble_eq_true rfl, Nat.le_of_ble_eq_true rfl⟩) hPm (fun k q hq h => hAD q.1 h (WM_at hq)) hAx hS (fun r1 u1 H locs hw1 hPx hPm hS => ?_)
  refine lv_aload_n hx hb dL_law_1027 rfl (lv_at hl 2 rfl) ?_
  refine gLi (va_runV (As := []) (rest := [.int r1]) ⟨hx, hb, hml, hown, hts⟩ (kX7_mirrored l D cs bd hdm H.size (((nN, px, py, pz, fx, fy, fz, lf, ld, fi), (nB, fr, tt, ln, wi, sg, pu), (nR, rd, rx, ry, wv, fo), (re, dg), (nP, tp, bt, dp)), (nQ, fu)) hnN hpos ) (cwV 0 hts gL_law_X7_mirrored rfl rfl rfl (by decide +kernel) ⟨Nat.le_of_ble_eq_true rfl, Nat.le_of_ble_eq_true rfl⟩) (gPreV EM_bl (va_recv hK hPm (ci := 7) (q0 := 0) rfl rfl) hPm (fun U _ hW => EM_warm hW hEm)) rfl rfl hl.1 rfl (lv_room (Nat.le_of_ble_eq_true rfl)) dL_law_1028 ⟨Nat.le_of_ble_eq_true rfl, Nat.le_of_ble_eq_true rfl⟩) hPx (fun k q hq h => hAD q.1 (WX_at hq) h) hAm hS (fun r2 u2 H locs hw2 hPm hPx hS => ?_)
  obtain ⟨a1, rfl⟩ := hw1
  obtain ⟨a2, rfl⟩ := hw2
  have er : r1 = r2 := q_mir_det (G := ((nN, px, py, pz, fx, fy, fz, lf, ld, fi), (nB, fr, tt, ln, wi, sg, pu), (nR, rd, rx, ry, wv, fo), (re, dg), (nP, tp, bt, dp))) a1 a2
  subst er
  have hfin : lst D cs ad bd (i + 6) ((nN, px, py, pz, fx, fy, fz, lf, ld, fi), (nB, fr, tt, ln, wi, sg, pu), (nR, rd, rx, ry, wv, fo), (re, dg), (nP, tp, bt, dp)) (sp, ac, kp, kc, kn, aw, dw, su, ss, sd) (nQ, fu) s H locs := ⟨hPx, hPm, hS, inv_mono hI (by omega), hRP, hRR, by show 6 * nQ ≤ i + 6; omega⟩
  refine lv_icmp_eq (tgt := 1092) hx hb dL_law_1031 (by decide) (fun _ => ?_) (fun c9 => absurd rfl c9)
  exact kk _ _ _ H locs ls hfin (lv_sub hl [0, 1, 2, 3] rfl)
set_option maxHeartbeats 4000000 in
set_option maxRecDepth 100000 in
theorem law_20 {p : Program} {l : Launch} {e : Env} {s : State} {m : MethodId} {below : List Frame} {meth : Method} {c : Code} {Q : State → Prop} {b L : Nat} {xs : Nat → Int32} {D : va_G} {cs : Nat → ClassId} {ad bd : Nat → Nat} (C0 : lawC p s m c b L xs D cs ad bd) {i : Nat} (hi : i + 6 ≤ L) {G : GS} {C : CS} {E : ES} {H : Heap} {locs : List Loc} (hT : lst D cs ad bd i G C E s H locs) {ls : Array Slot} (hl : lv_has ls 8 [(0, .ref b), (1, .ref (ad 0)), (2, .ref (bd 0)), (3, .int (nI i))]) (kk : ∀ (G2 : GS) (C2 : CS) (E2 : ES) (H : Heap) (locs : List Loc) (ls : Array Slot), lst D cs ad bd (i + 6) G2 C2 E2 s H locs → lv_has ls 8 [(0, .ref b), (1, .ref (ad 0)), (2, .ref (bd 0)), (3, .int (nI i))] → W p l e room_1 s m #[Value.ref b] below meth c H locs 600000 7302249 Q (F0 m 1092 ls [])) : W p l e room_1 s m #[Value.ref b] below meth c H locs 600000 7302249 Q (F0 m 1036 ls []) := by
  obtain ⟨hx, hb, hml, hown, hts, hX, hbl, hK, hEx, hEm, hd, hdm, hAx, hAm, hAD, hL⟩ := C0
  obtain ⟨⟨nN, px, py, pz, fx, fy, fz, lf, ld, fi⟩, ⟨nB, fr, tt, ln, wi, sg, pu⟩, ⟨nR, rd, rx, ry, wv, fo⟩, ⟨re, dg⟩, ⟨nP, tp, bt, dp⟩⟩ := G
  obtain ⟨sp, ac, kp, kc, kn, aw, dw, su, ss, sd⟩ := C
  obtain ⟨nQ, fu⟩ := E
  obtain ⟨hPx, hPm, hS, hI, hRP, hRR, hQ6⟩ := hT
  have hQ6 : 6 * nQ ≤ i := hQ6
  have hnQ : nQ ≤ 512 := by omega
  have hnQ6 : nQ < 600 := by omega
  have hkc : kc ≤ 20 := by have := hRR.1; omega
  have hkn : kn < 20 := by have := hRR.2.1; omega
  have hnN : nN ≤ 30 := hI.1.1
  have hnB : nB ≤ 60 := hI.1.2.1
  have hnR : nR ≤ 10 := hI.1.2.2.1
  have hso : sorted rd nR := hI.1.2.2.2.2.2.1.1
  have hnP : nP ≤ 30 := hI.2.2.2.1
  have hdp : ∀ j, j < nP → ¬ dp j = 0 := hI.2.2.2.2
  have hpos : posOK nN px py pz := fun j hj => ⟨pP_pOK (hI.2.1 j hj).1 (by omega), pP_pOK (hI.2.1 j hj).2.1 (by omega), pP_pOK (hI.2.1 j hj).2.2 (by omega)⟩
  have c_13 := hts (.constantDouble RL 13 4593671619917905920) (by decide +kernel)
  refine lv_aload_n hx hb dL_law_1036 rfl (lv_at hl 1 rfl) ?_
  refine lv_aload_n hx hb dL_law_1037 rfl (lv_at hl 0 rfl) ?_
  refine lv_iload_n hx hb dL_law_1038 rfl (lv_at hl 3 rfl) ?_
  refine lv_iconst (v := nI 1) hx hb dL_law_1039 (by decide) ?_
  refine xia hx hb (i + 1) dL_law_1040 rfl ?_
  refine xsl hx hb hX hbl hS (show i + 1 < L by omega) hL dL_law_1041 ?_
  refine gLi (va_runV (As := [.int (xs (i + 1))]) (rest := []) ⟨hx, hb, hml, hown, hts⟩ (kX6_best l D cs ad hd H.size (((nN, px, py, pz, fx, fy, fz, lf, ld, fi), (nB, fr, tt, ln, wi, sg, pu), (nR, rd, rx, ry, wv, fo), (re, dg), (nP, tp, bt, dp)), (sp, ac, kp, kc, kn, aw, dw, su, ss, sd)) hkn hkc (xs (i + 1))) (cwV 1 hts gL_law_X6_best rfl rfl rfl (by decide +kernel) ⟨Nat.le_of_ble_eq_true rfl, Nat.le_of_ble_eq_true rfl⟩) (gPreV EX_bl (va_recv hK hPx (ci := 6) (q0 := 0) rfl rfl) hPx (fun U _ hW => EX_warm hW hEx)) rfl rfl hl.1 rfl (lv_room (Nat.le_of_ble_eq_true rfl)) dL_law_1042 ⟨Nat.le_of_ble_eq_true rfl, Nat.le_of_ble_eq_true rfl⟩) hPm (fun k q hq h => hAD q.1 h (WM_at hq)) hAx hS (fun r1 u1 H locs hw1 hPx hPm hS => ?_)
  refine lv_aload_n hx hb dL_law_1045 rfl (lv_at hl 2 rfl) ?_
  refine lv_aload_n hx hb dL_law_1046 rfl (lv_at hl 0 rfl) ?_
  refine lv_iload_n hx hb dL_law_1047 rfl (lv_at hl 3 rfl) ?_
  refine lv_iconst (v := nI 1) hx hb dL_law_1048 (by decide) ?_
  refine xia hx hb (i + 1) dL_law_1049 rfl ?_
  refine xsl hx hb hX hbl hS (show i + 1 < L by omega) hL dL_law_1050 ?_
  refine gLi (va_runV (As := [.int (xs (i + 1))]) (rest := [.int r1]) ⟨hx, hb, hml, hown, hts⟩ (kX7_best l D cs bd hdm H.size (((nN, px, py, pz, fx, fy, fz, lf, ld, fi), (nB, fr, tt, ln, wi, sg, pu), (nR, rd, rx, ry, wv, fo), (re, dg), (nP, tp, bt, dp)), (nQ, fu)) hnQ (xs (i + 1))) (cwV 1 hts gL_law_X7_best rfl rfl rfl (by decide +kernel) ⟨Nat.le_of_ble_eq_true rfl, Nat.le_of_ble_eq_true rfl⟩) (gPreV EM_bl (va_recv hK hPm (ci := 7) (q0 := 0) rfl rfl) hPm (fun U _ hW => EM_warm hW hEm)) rfl rfl hl.1 rfl (lv_room (Nat.le_of_ble_eq_true rfl)) dL_law_1051 ⟨Nat.le_of_ble_eq_true rfl, Nat.le_of_ble_eq_true rfl⟩) hPx (fun k q hq h => hAD q.1 (WX_at hq) h) hAm hS (fun r2 u2 H locs hw2 hPm hPx hS => ?_)
  obtain ⟨rfl, hw1⟩ := hw1
  obtain ⟨rfl, hw2⟩ := hw2
  have er : r1 = r2 := by
    rcases hw1 with ⟨j, j1, j2, e1, f1⟩ | ⟨c1, f1⟩ <;> rcases hw2 with ⟨n, n1, n2, e2, f2⟩ | ⟨c2, f2⟩
    · have e := (nI_eq (by omega) (by omega)).mp (e1.symm.trans e2)
      subst e
      rw [f1, f2]
      exact ring_best hRR (by omega)
    · exact absurd ⟨j, j1, j2, e1⟩ c2
    · exact absurd ⟨n, n1, n2, e2⟩ c1
    · rw [f1, f2]
  subst er
  have hfin : lst D cs ad bd (i + 6) ((nN, px, py, pz, fx, fy, fz, lf, ld, fi), (nB, fr, tt, ln, wi, sg, pu), (nR, rd, rx, ry, wv, fo), (re, dg), (nP, tp, bt, dp)) (sp, ac, kp, kc, kn, aw, dw, su, ss, sd) (nQ, fu) s H locs := ⟨hPx, hPm, hS, inv_mono hI (by omega), hRP, hRR, by show 6 * nQ ≤ i + 6; omega⟩
  refine lv_icmp_eq (tgt := 1092) hx hb dL_law_1054 (by decide) (fun _ => ?_) (fun c9 => absurd rfl c9)
  exact kk _ _ _ H locs ls hfin (lv_sub hl [0, 1, 2, 3] rfl)
set_option maxHeartbeats 4000000 in
set_option maxRecDepth 100000 in
theorem law_21 {p : Program} {l : Launch} {e : Env} {s : State} {m : MethodId} {below : List Frame} {meth : Method} {c : Code} {Q : State → Prop} {b L : Nat} {xs : Nat → Int32} {D : va_G} {cs : Nat → ClassId} {ad bd : Nat → Nat} (C0 : lawC p s m c b L xs D cs ad bd) {i : Nat} (hi : i + 6 ≤ L) {G : GS} {C : CS} {E : ES} {H : Heap} {locs : List Loc} (hT : lst D cs ad bd i G C E s H locs) {ls : Array Slot} (hl : lv_has ls 8 [(0, .ref b), (1, .ref (ad 0)), (2, .ref (bd 0)), (3, .int (nI i))]) (kk : ∀ (G2 : GS) (C2 : CS) (E2 : ES) (H : Heap) (locs : List Loc) (ls : Array Slot), lst D cs ad bd (i + 6) G2 C2 E2 s H locs → lv_has ls 8 [(0, .ref b), (1, .ref (ad 0)), (2, .ref (bd 0)), (3, .int (nI i))] → W p l e room_1 s m #[Value.ref b] below meth c H locs 600000 7302249 Q (F0 m 1092 ls [])) : W p l e room_1 s m #[Value.ref b] below meth c H locs 600000 7302249 Q (F0 m 1059 ls []) := by
  obtain ⟨hx, hb, hml, hown, hts, hX, hbl, hK, hEx, hEm, hd, hdm, hAx, hAm, hAD, hL⟩ := C0
  obtain ⟨⟨nN, px, py, pz, fx, fy, fz, lf, ld, fi⟩, ⟨nB, fr, tt, ln, wi, sg, pu⟩, ⟨nR, rd, rx, ry, wv, fo⟩, ⟨re, dg⟩, ⟨nP, tp, bt, dp⟩⟩ := G
  obtain ⟨sp, ac, kp, kc, kn, aw, dw, su, ss, sd⟩ := C
  obtain ⟨nQ, fu⟩ := E
  obtain ⟨hPx, hPm, hS, hI, hRP, hRR, hQ6⟩ := hT
  have hQ6 : 6 * nQ ≤ i := hQ6
  have hnQ : nQ ≤ 512 := by omega
  have hnQ6 : nQ < 600 := by omega
  have hkc : kc ≤ 20 := by have := hRR.1; omega
  have hkn : kn < 20 := by have := hRR.2.1; omega
  have hnN : nN ≤ 30 := hI.1.1
  have hnB : nB ≤ 60 := hI.1.2.1
  have hnR : nR ≤ 10 := hI.1.2.2.1
  have hso : sorted rd nR := hI.1.2.2.2.2.2.1.1
  have hnP : nP ≤ 30 := hI.2.2.2.1
  have hdp : ∀ j, j < nP → ¬ dp j = 0 := hI.2.2.2.2
  have hpos : posOK nN px py pz := fun j hj => ⟨pP_pOK (hI.2.1 j hj).1 (by omega), pP_pOK (hI.2.1 j hj).2.1 (by omega), pP_pOK (hI.2.1 j hj).2.2 (by omega)⟩
  have c_13 := hts (.constantDouble RL 13 4593671619917905920) (by decide +kernel)
  refine lv_aload_n hx hb dL_law_1059 rfl (lv_at hl 1 rfl) ?_
  refine lv_aload_n hx hb dL_law_1060 rfl (lv_at hl 0 rfl) ?_
  refine lv_iload_n hx hb dL_law_1061 rfl (lv_at hl 3 rfl) ?_
  refine lv_iconst (v := nI 1) hx hb dL_law_1062 (by decide) ?_
  refine xia hx hb (i + 1) dL_law_1063 rfl ?_
  refine xsl hx hb hX hbl hS (show i + 1 < L by omega) hL dL_law_1064 ?_
  refine lv_aload_n hx hb dL_law_1065 rfl (lv_at hl 0 rfl) ?_
  refine lv_iload_n hx hb dL_law_1066 rfl (lv_at hl 3 rfl) ?_
  refine lv_iconst (v := nI 2) hx hb dL_law_1067 (by decide) ?_
  refine xia hx hb (i + 2) dL_law_1068 rfl ?_
  refine xsl hx hb hX hbl hS (show i + 2 < L by omega) hL dL_law_1069 ?_
  refine gLi (va_runV (As := [.int (xs (i + 1)), .int (xs (i + 2))]) (rest := []) ⟨hx, hb, hml, hown, hts⟩ (kX6_sheet l D cs ad hd H.size (((nN, px, py, pz, fx, fy, fz, lf, ld, fi), (nB, fr, tt, ln, wi, sg, pu), (nR, rd, rx, ry, wv, fo), (re, dg), (nP, tp, bt, dp)), (sp, ac, kp, kc, kn, aw, dw, su, ss, sd)) hnP hRP (xs (i + 1)) (xs (i + 2))) (cwV 2 hts gL_law_X6_sheet rfl rfl rfl (by decide +kernel) ⟨Nat.le_of_ble_eq_true rfl, Nat.le_of_ble_eq_true rfl⟩) (gPreV EX_bl (va_recv hK hPx (ci := 6) (q0 := 0) rfl rfl) hPx (fun U _ hW => EX_warm hW hEx)) rfl rfl hl.1 rfl (lv_room (Nat.le_of_ble_eq_true rfl)) dL_law_1070 ⟨Nat.le_of_ble_eq_true rfl, Nat.le_of_ble_eq_true rfl⟩) hPm (fun k q hq h => hAD q.1 h (WM_at hq)) hAx hS (fun r1 u1 H locs hw1 hPx hPm hS => ?_)
  refine lv_aload_n hx hb dL_law_1073 rfl (lv_at hl 2 rfl) ?_
  refine lv_aload_n hx hb dL_law_1074 rfl (lv_at hl 0 rfl) ?_
  refine lv_iload_n hx hb dL_law_1075 rfl (lv_at hl 3 rfl) ?_
  refine lv_iconst (v := nI 1) hx hb dL_law_1076 (by decide) ?_
  refine xia hx hb (i + 1) dL_law_1077 rfl ?_
  refine xsl hx hb hX hbl hS (show i + 1 < L by omega) hL dL_law_1078 ?_
  refine lv_aload_n hx hb dL_law_1079 rfl (lv_at hl 0 rfl) ?_
  refine lv_iload_n hx hb dL_law_1080 rfl (lv_at hl 3 rfl) ?_
  refine lv_iconst (v := nI 2) hx hb dL_law_1081 (by decide) ?_
  refine xia hx hb (i + 2) dL_law_1082 rfl ?_
  refine xsl hx hb hX hbl hS (show i + 2 < L by omega) hL dL_law_1083 ?_
  refine gLi (va_runV (As := [.int (xs (i + 1)), .int (xs (i + 2))]) (rest := [.int r1]) ⟨hx, hb, hml, hown, hts⟩ (kX7_sheet l D cs bd hdm H.size (((nN, px, py, pz, fx, fy, fz, lf, ld, fi), (nB, fr, tt, ln, wi, sg, pu), (nR, rd, rx, ry, wv, fo), (re, dg), (nP, tp, bt, dp)), (nQ, fu)) hnP (xs (i + 1)) (xs (i + 2))) (cwV 2 hts gL_law_X7_sheet rfl rfl rfl (by decide +kernel) ⟨Nat.le_of_ble_eq_true rfl, Nat.le_of_ble_eq_true rfl⟩) (gPreV EM_bl (va_recv hK hPm (ci := 7) (q0 := 0) rfl rfl) hPm (fun U _ hW => EM_warm hW hEm)) rfl rfl hl.1 rfl (lv_room (Nat.le_of_ble_eq_true rfl)) dL_law_1084 ⟨Nat.le_of_ble_eq_true rfl, Nat.le_of_ble_eq_true rfl⟩) hPx (fun k q hq h => hAD q.1 (WX_at hq) h) hAm hS (fun r2 u2 H locs hw2 hPm hPx hS => ?_)
  obtain ⟨a1, rfl⟩ := hw1
  obtain ⟨a2, rfl⟩ := hw2
  have er : r1 = r2 := q_sheet_det (G := ((nN, px, py, pz, fx, fy, fz, lf, ld, fi), (nB, fr, tt, ln, wi, sg, pu), (nR, rd, rx, ry, wv, fo), (re, dg), (nP, tp, bt, dp))) hnP a1 a2
  subst er
  have hfin : lst D cs ad bd (i + 6) ((nN, px, py, pz, fx, fy, fz, lf, ld, fi), (nB, fr, tt, ln, wi, sg, pu), (nR, rd, rx, ry, wv, fo), (re, dg), (nP, tp, bt, dp)) (sp, ac, kp, kc, kn, aw, dw, su, ss, sd) (nQ, fu) s H locs := ⟨hPx, hPm, hS, inv_mono hI (by omega), hRP, hRR, by show 6 * nQ ≤ i + 6; omega⟩
  refine lv_icmp_eq (tgt := 1092) hx hb dL_law_1087 (by decide) (fun _ => ?_) (fun c9 => absurd rfl c9)
  exact kk _ _ _ H locs ls hfin (lv_sub hl [0, 1, 2, 3] rfl)
