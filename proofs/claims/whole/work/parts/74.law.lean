/-! the law, from its entry to its end -/
set_option maxHeartbeats 4000000 in
set_option maxRecDepth 100000 in
theorem law_loop {p : Program} {l : Launch} {e : Env} {s : State} {m : MethodId} {below : List Frame} {meth : Method} {c : Code} {b L : Nat} {xs : Nat → Int32} {D : va_G} {cs : Nat → ClassId} {ad bd : Nat → Nat} (C0 : lawC p s m c b L xs D cs ad bd) (hr : meth.sig.returnType = ret) (hlocks : meth.locks = false) (h6 : 6 ≤ L) : ∀ (n i : Nat) (G : GS) (C : CS) (E : ES) (H : Heap) (locs : List Loc) (ls : Array Slot), L + 1 ≤ i + n → i ≤ L + 6 → lst D cs ad bd i G C E s H locs → lv_has ls 8 [(0, .ref b), (1, .ref (ad 0)), (2, .ref (bd 0)), (3, .int (nI i))] → W p l e room_1 s m #[Value.ref b] below meth c H locs 600000 7302249 (lw_Z below #[Value.ref b] s) (F0 m 18 ls []) := by
  intro n
  induction n with
  | zero =>
    intro i G C E H locs ls hf hi6 hT hl
    obtain ⟨hx, hb, hml, hown, hts, hX, hbl, hK, hEx, hEm, hd, hdm, hAx, hAm, hAD, hL⟩ := id C0
    have hS := hT.2.2.1
    refine lv_iload_n hx hb dL_law_18 rfl (lv_at hl 3 rfl) ?_
    refine lv_aload_n hx hb dL_law_19 rfl (lv_at hl 0 rfl) ?_
    refine va_slen hx hb hX hbl (Nat.not_le.mpr hbl) hS dL_law_20 ?_
    refine lv_bipush (v := nI 6) hx hb dL_law_21 (by decide) ?_
    refine xib (x := L) (y := 6) hx hb (L - 6) dL_law_23 (by omega) ?_
    refine lv_icmp_gt (tgt := 1098) hx hb dL_law_24 (by decide) (fun c1 => ?_) (fun c1 => absurd ((nI_ltI (a := L - 6) (b := i) (by omega) (by omega)).mpr (by omega)) c1)
    refine va_forget hS.2.2 ?_
    refine lv_iconst (v := 1) hx hb dL_law_1098 (by decide) ?_
    exact lw_ret hx hb hr hlocks dL_law_1099
  | succ n ih =>
    intro i G C E H locs ls hf hi6 hT hl
    obtain ⟨hx, hb, hml, hown, hts, hX, hbl, hK, hEx, hEm, hd, hdm, hAx, hAm, hAD, hL⟩ := id C0
    have hS := hT.2.2.1
    refine lv_iload_n hx hb dL_law_18 rfl (lv_at hl 3 rfl) ?_
    refine lv_aload_n hx hb dL_law_19 rfl (lv_at hl 0 rfl) ?_
    refine va_slen hx hb hX hbl (Nat.not_le.mpr hbl) hS dL_law_20 ?_
    refine lv_bipush (v := nI 6) hx hb dL_law_21 (by decide) ?_
    refine xib (x := L) (y := 6) hx hb (L - 6) dL_law_23 (by omega) ?_
    refine lv_icmp_gt (tgt := 1098) hx hb dL_law_24 (by decide) (fun c1 => ?_) (fun c1 => ?_)
    · refine va_forget hS.2.2 ?_
      refine lv_iconst (v := 1) hx hb dL_law_1098 (by decide) ?_
      exact lw_ret hx hb hr hlocks dL_law_1099
    · have hi : i + 6 ≤ L := by
        have q : ¬ L - 6 < i := fun q => c1 ((nI_ltI (a := L - 6) (b := i) (by omega) (by omega)).mpr q)
        omega
      have kk : ∀ (G2 : GS) (C2 : CS) (E2 : ES) (H : Heap) (locs : List Loc) (ls : Array Slot), lst D cs ad bd (i + 6) G2 C2 E2 s H locs → lv_has ls 8 [(0, .ref b), (1, .ref (ad 0)), (2, .ref (bd 0)), (3, .int (nI i))] → W p l e room_1 s m #[Value.ref b] below meth c H locs 600000 7302249 (lw_Z below #[Value.ref b] s) (F0 m 1092 ls []) := by
        intro G2 C2 E2 H locs ls hT hl
        refine lv_iinc (v := nI (i + 6)) (lv' := [(3, .int (nI (i + 6))), (0, .ref b), (1, .ref (ad 0)), (2, .ref (bd 0))]) hx hb dL_law_1092 hl (k := 3) rfl (nI_add _ _) (by decide) rfl (fun ls hl => ?_)
        refine lv_goto (tgt := 18) hx hb dL_law_1095 (by decide) ?_
        exact ih (i + 6) G2 C2 E2 H locs ls (by omega) (by omega) hT (lv_sub hl [1, 2, 3, 0] rfl)
      refine lv_aload_n hx hb dL_law_27 rfl (lv_at hl 0 rfl) ?_
      refine lv_iload_n hx hb dL_law_28 rfl (lv_at hl 3 rfl) ?_
      refine xsl hx hb hX hbl hS (show i < L by omega) hL dL_law_29 ?_
      refine lv_bipush (v := nI 31) hx hb dL_law_30 (by decide) ?_
      refine lv_iand hx hb dL_law_32 ?_
      obtain ⟨j, hj, ej⟩ := pk_andE (xs i) 5 (m := nI 31) (by decide)
      rw [ej]
      rcases (show j = 0 ∨ j = 1 ∨ j = 2 ∨ j = 3 ∨ j = 4 ∨ j = 5 ∨ j = 6 ∨ j = 7 ∨ j = 8 ∨ j = 9 ∨ j = 10 ∨ j = 11 ∨ j = 12 ∨ j = 13 ∨ j = 14 ∨ j = 15 ∨ j = 16 ∨ j = 17 ∨ j = 18 ∨ j = 19 ∨ j = 20 ∨ j = 21 ∨ 22 ≤ j by omega) with rfl | rfl | rfl | rfl | rfl | rfl | rfl | rfl | rfl | rfl | rfl | rfl | rfl | rfl | rfl | rfl | rfl | rfl | rfl | rfl | rfl | rfl | hj2
      · exact lv_tableIn (off := 103) (tgt := 136) hx hb dL_law_33 (by decide) (by decide) rfl (by decide) (law_0 C0 hi hT hl kk)
      · exact lv_tableIn (off := 176) (tgt := 209) hx hb dL_law_33 (by decide) (by decide) rfl (by decide) (law_1 C0 hi hT hl kk)
      · exact lv_tableIn (off := 269) (tgt := 302) hx hb dL_law_33 (by decide) (by decide) rfl (by decide) (law_2 C0 hi hT hl kk)
      · exact lv_tableIn (off := 292) (tgt := 325) hx hb dL_law_33 (by decide) (by decide) rfl (by decide) (law_3 C0 hi hT hl kk)
      · exact lv_tableIn (off := 335) (tgt := 368) hx hb dL_law_33 (by decide) (by decide) rfl (by decide) (law_4 C0 hi hT hl kk)
      · exact lv_tableIn (off := 408) (tgt := 441) hx hb dL_law_33 (by decide) (by decide) rfl (by decide) (law_5 C0 hi hT hl kk)
      · exact lv_tableIn (off := 431) (tgt := 464) hx hb dL_law_33 (by decide) (by decide) rfl (by decide) (law_6 C0 hi hT hl kk)
      · exact lv_tableIn (off := 492) (tgt := 525) hx hb dL_law_33 (by decide) (by decide) rfl (by decide) (law_7 C0 hi hT hl kk)
      · exact lv_tableIn (off := 543) (tgt := 576) hx hb dL_law_33 (by decide) (by decide) rfl (by decide) (law_8 C0 hi hT hl kk)
      · exact lv_tableIn (off := 584) (tgt := 617) hx hb dL_law_33 (by decide) (by decide) rfl (by decide) (law_9 C0 hi hT hl kk)
      · exact lv_tableIn (off := 635) (tgt := 668) hx hb dL_law_33 (by decide) (by decide) rfl (by decide) (law_10 C0 hi hT hl kk)
      · exact lv_tableIn (off := 658) (tgt := 691) hx hb dL_law_33 (by decide) (by decide) rfl (by decide) (law_11 C0 hi hT hl kk)
      · exact lv_tableIn (off := 709) (tgt := 742) hx hb dL_law_33 (by decide) (by decide) rfl (by decide) (law_12 C0 hi hT hl kk)
      · exact lv_tableIn (off := 752) (tgt := 785) hx hb dL_law_33 (by decide) (by decide) rfl (by decide) (law_13 C0 hi hT hl kk)
      · exact lv_tableIn (off := 795) (tgt := 828) hx hb dL_law_33 (by decide) (by decide) rfl (by decide) (law_14 C0 hi hT hl kk)
      · exact lv_tableIn (off := 838) (tgt := 871) hx hb dL_law_33 (by decide) (by decide) rfl (by decide) (law_15 C0 hi hT hl kk)
      · exact lv_tableIn (off := 861) (tgt := 894) hx hb dL_law_33 (by decide) (by decide) rfl (by decide) (law_16 C0 hi hT hl kk)
      · exact lv_tableIn (off := 894) (tgt := 927) hx hb dL_law_33 (by decide) (by decide) rfl (by decide) (law_17 C0 hi hT hl kk)
      · exact lv_tableIn (off := 927) (tgt := 960) hx hb dL_law_33 (by decide) (by decide) rfl (by decide) (law_18 C0 hi hT hl kk)
      · exact lv_tableIn (off := 990) (tgt := 1023) hx hb dL_law_33 (by decide) (by decide) rfl (by decide) (law_19 C0 hi hT hl kk)
      · exact lv_tableIn (off := 1003) (tgt := 1036) hx hb dL_law_33 (by decide) (by decide) rfl (by decide) (law_20 C0 hi hT hl kk)
      · exact lv_tableIn (off := 1026) (tgt := 1059) hx hb dL_law_33 (by decide) (by decide) rfl (by decide) (law_21 C0 hi hT hl kk)
      · refine lv_tableOut (tgt := 1092) hx hb dL_law_33 (Or.inr (by rw [nI_toInt (by omega)]; omega)) (by decide) ?_
        exact kk G C E H locs ls ⟨hT.1, hT.2.1, hT.2.2.1, inv_mono hT.2.2.2.1 (by omega), hT.2.2.2.2.1, hT.2.2.2.2.2.1, by have := hT.2.2.2.2.2.2; omega⟩ hl
