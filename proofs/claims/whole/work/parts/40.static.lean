set_option maxHeartbeats 4000000 in
set_option maxRecDepth 100000 in
theorem kX6_within (l : Launch) (D : va_G) (sz : Nat) (v lo hi : UInt64) : Met l yX6_within wsX6_within ({ frames := 0, cells := 0, slots := 0, locals := 0 } : Room) (gP D (w0) (eT) () sz ([.double (v), .double (lo), .double (hi)] : List Value)) (va_Qi (fun r _ => (r = nI 1 ∧ inR v lo hi) ∨ (r = nI 0 ∧ ¬ (inR v lo hi))) (gB D (w0)) (gA (gF) sz)) 0 0 (gA (gF) sz) := by
  refine gMz (cc := cX6_within) (maxL := 6) (plainFor_of_name (by decide)) rfl (Nat.le_of_ble_eq_true rfl) ?_
  intro p e s m below meth c Q hx hb hts hown hml hsz hE hret H locs hP hS ls hl
  subst hsz
  have hown : s.vm.findClass RX6 = some m.cls := hown
  have hl : lv_has ls 6 [(0, .double (v)), (2, .double (lo)), (4, .double (hi))] := hl
  refine lv_dload_n hx hb dX6_within_0 rfl (lv_at hl 0 rfl) ?_
  refine lv_dload_n hx hb dX6_within_1 rfl (lv_at hl 1 rfl) ?_
  refine xc_lge (tgt := 17) hx hb dX6_within_2 dX6_within_3 (by decide) (fun c_2_1 => ?_) (fun c_2_1 => ?_)
  · skip
    refine lv_iconst (v := nI 0) hx hb dX6_within_17 (by decide) ?_
    exact hret hS hP dX6_within_18 (Or.inl rfl) (Or.inr ⟨rfl, fun q => c_2_1 q.1⟩)
  · skip
    refine lv_dload_n hx hb dX6_within_6 rfl (lv_at hl 0 rfl) ?_
    refine lv_dload hx hb dX6_within_7 (lv_at hl 2 rfl) ?_
    refine xc_gle (tgt := 17) hx hb dX6_within_9 dX6_within_10 (by decide) (fun c_9_2 => ?_) (fun c_9_2 => ?_)
    · skip
      refine lv_iconst (v := nI 0) hx hb dX6_within_17 (by decide) ?_
      exact hret hS hP dX6_within_18 (Or.inl rfl) (Or.inr ⟨rfl, fun q => c_9_2 q.2⟩)
    · skip
      refine lv_iconst (v := nI 1) hx hb dX6_within_13 (by decide) ?_
      refine lv_goto (tgt := 18) hx hb dX6_within_14 (by decide) ?_
      exact hret hS hP dX6_within_18 (Or.inr rfl) (Or.inl ⟨rfl, c_2_1, c_9_2⟩)
set_option maxHeartbeats 4000000 in
set_option maxRecDepth 100000 in
theorem kX7_isIn (l : Launch) (D : va_G) (sz : Nat) (v lo hi : UInt64) : Met l yX7_isIn wsX7_isIn ({ frames := 0, cells := 0, slots := 0, locals := 0 } : Room) (gP D (w0) (eT) () sz ([.double (v), .double (lo), .double (hi)] : List Value)) (va_Qi (fun r _ => (r = nI 1 ∧ inR v lo hi) ∨ (r = nI 0 ∧ ¬ (inR v lo hi))) (gB D (w0)) (gA (gF) sz)) 0 0 (gA (gF) sz) := by
  refine gMz (cc := cX7_isIn) (maxL := 6) (plainFor_of_name (by decide)) rfl (Nat.le_of_ble_eq_true rfl) ?_
  intro p e s m below meth c Q hx hb hts hown hml hsz hE hret H locs hP hS ls hl
  subst hsz
  have hown : s.vm.findClass RX7 = some m.cls := hown
  have hl : lv_has ls 6 [(0, .double (v)), (2, .double (lo)), (4, .double (hi))] := hl
  refine lv_dload_n hx hb dX7_isIn_0 rfl (lv_at hl 0 rfl) ?_
  refine lv_dload_n hx hb dX7_isIn_1 rfl (lv_at hl 1 rfl) ?_
  refine xc_lge (tgt := 17) hx hb dX7_isIn_2 dX7_isIn_3 (by decide) (fun c_2_1 => ?_) (fun c_2_1 => ?_)
  · skip
    refine lv_iconst (v := nI 0) hx hb dX7_isIn_17 (by decide) ?_
    exact hret hS hP dX7_isIn_18 (Or.inl rfl) (Or.inr ⟨rfl, fun q => c_2_1 q.1⟩)
  · skip
    refine lv_dload_n hx hb dX7_isIn_6 rfl (lv_at hl 0 rfl) ?_
    refine lv_dload hx hb dX7_isIn_7 (lv_at hl 2 rfl) ?_
    refine xc_gle (tgt := 17) hx hb dX7_isIn_9 dX7_isIn_10 (by decide) (fun c_9_2 => ?_) (fun c_9_2 => ?_)
    · skip
      refine lv_iconst (v := nI 0) hx hb dX7_isIn_17 (by decide) ?_
      exact hret hS hP dX7_isIn_18 (Or.inl rfl) (Or.inr ⟨rfl, fun q => c_9_2 q.2⟩)
    · skip
      refine lv_iconst (v := nI 1) hx hb dX7_isIn_13 (by decide) ?_
      refine lv_goto (tgt := 18) hx hb dX7_isIn_14 (by decide) ?_
      exact hret hS hP dX7_isIn_18 (Or.inr rfl) (Or.inl ⟨rfl, c_2_1, c_9_2⟩)
set_option maxHeartbeats 4000000 in
set_option maxRecDepth 100000 in
theorem kX6_isPlace (l : Launch) (D : va_G) (sz : Nat) (v : UInt64) : Met l yX6_isPlace wsX6_isPlace ({ frames := 1, cells := 0, slots := 0, locals := 25 } : Room) (gP D (w0) (eT) () sz ([.double (v)] : List Value)) (va_Qi (fun r _ => (r = nI 1 ∧ inR v 13875379345695965184 4652007308841189376) ∨ (r = nI 0 ∧ ¬ (inR v 13875379345695965184 4652007308841189376))) (gB D (w0)) (gA (gF) sz)) 0 0 (gA (gF) sz) := by
  refine gMz (cc := cX6_isPlace) (maxL := 2) (plainFor_of_name (by decide)) rfl (Nat.le_of_ble_eq_true rfl) ?_
  intro p e s m below meth c Q hx hb hts hown hml hsz hE hret H locs hP hS ls hl
  subst hsz
  have hown : s.vm.findClass RX6 = some m.cls := hown
  have hl : lv_has ls 2 [(0, .double (v))] := hl
  have c_72 := hts (.constantDouble RX6 72 4652007308841189376) (by decide +kernel)
  have c_204 := hts (.constantDouble RX6 204 13875379345695965184) (by decide +kernel)
  refine lv_dload_n hx hb dX6_isPlace_0 rfl (lv_at hl 0 rfl) ?_
  refine lv_ldc2d hx hb hown c_204 dX6_isPlace_1 ?_
  refine lv_ldc2d hx hb hown c_72 dX6_isPlace_4 ?_
  refine g0i (va_runS (As := [.double (v), .double (13875379345695965184), .double (4652007308841189376)]) (rest := []) ⟨hx, hb, hml, hown, hts⟩ (kX6_within l D H.size v 13875379345695965184 4652007308841189376) (va_cwS 3 hts gX6_isPlace_X6_within rfl rfl rfl (by decide +kernel) ⟨Nat.le_of_ble_eq_true rfl, Nat.le_of_ble_eq_true rfl⟩) (gPreS (eT_bl) w0_P (fun _ _ _ => trivial)) rfl rfl hl.1 rfl (lv_room (Nat.le_of_ble_eq_true rfl)) dX6_isPlace_7 ⟨Nat.zero_le _, Nat.zero_le _⟩) hP hS (fun r_ H locs hw hP hS => ?_)
  rcases hw with ⟨rfl, b_1⟩ | ⟨rfl, b_1⟩
  · skip
    have b_1 : inR (v) (13875379345695965184) (4652007308841189376) := b_1
    exact hret hS hP dX6_isPlace_10 (Or.inr rfl) (Or.inl ⟨rfl, b_1⟩)
  · skip
    have b_1 : ¬ (inR (v) (13875379345695965184) (4652007308841189376)) := b_1
    exact hret hS hP dX6_isPlace_10 (Or.inl rfl) (Or.inr ⟨rfl, b_1⟩)
set_option maxHeartbeats 4000000 in
set_option maxRecDepth 100000 in
theorem kX6_isAxis (l : Launch) (D : va_G) (sz : Nat) (x : Int32) : Met l yX6_isAxis wsX6_isAxis ({ frames := 0, cells := 0, slots := 0, locals := 0 } : Room) (gP D (w0) (eT) () sz ([.int (x)] : List Value)) (va_Qi (fun r _ => (r = nI 1 ∧ inN 3 x) ∨ (r = nI 0 ∧ ¬ (inN 3 x))) (gB D (w0)) (gA (gF) sz)) 0 0 (gA (gF) sz) := by
  refine gMz (cc := cX6_isAxis) (maxL := 1) (plainFor_of_name (by decide)) rfl (Nat.le_of_ble_eq_true rfl) ?_
  intro p e s m below meth c Q hx hb hts hown hml hsz hE hret H locs hP hS ls hl
  subst hsz
  have hown : s.vm.findClass RX6 = some m.cls := hown
  have hl : lv_has ls 1 [(0, .int (x))] := hl
  refine lv_iload_n hx hb dX6_isAxis_0 rfl (lv_at hl 0 rfl) ?_
  refine lv_if_lt (tgt := 13) hx hb dX6_isAxis_1 (by decide) (fun c_1_1 => ?_) (fun c_1_1 => ?_)
  · skip
    refine lv_iconst (v := nI 0) hx hb dX6_isAxis_13 (by decide) ?_
    exact hret hS hP dX6_isAxis_14 (Or.inl rfl) (Or.inr ⟨rfl, inN_neg (by decide) c_1_1⟩)
  · skip
    refine lv_iload_n hx hb dX6_isAxis_4 rfl (lv_at hl 0 rfl) ?_
    refine lv_iconst (v := nI 3) hx hb dX6_isAxis_5 (by decide) ?_
    refine lv_icmp_ge (tgt := 13) hx hb dX6_isAxis_6 (by decide) (fun c_6_2 => ?_) (fun c_6_2 => ?_)
    · skip
      refine lv_iconst (v := nI 0) hx hb dX6_isAxis_13 (by decide) ?_
      exact hret hS hP dX6_isAxis_14 (Or.inl rfl) (Or.inr ⟨rfl, inN_ge (by decide) c_6_2⟩)
    · skip
      refine lv_iconst (v := nI 1) hx hb dX6_isAxis_9 (by decide) ?_
      refine lv_goto (tgt := 14) hx hb dX6_isAxis_10 (by decide) ?_
      exact hret hS hP dX6_isAxis_14 (Or.inr rfl) (Or.inl ⟨rfl, inN_of (by decide) c_1_1 c_6_2⟩)
set_option maxHeartbeats 4000000 in
set_option maxRecDepth 100000 in
theorem kX6_isPanelWidth (l : Launch) (D : va_G) (sz : Nat) (x : Int32) : Met l yX6_isPanelWidth wsX6_isPanelWidth ({ frames := 0, cells := 0, slots := 0, locals := 0 } : Room) (gP D (w0) (eT) () sz ([.int (x)] : List Value)) (va_Qi (fun r _ => (r = nI 1 ∧ inW 400 x) ∨ (r = nI 0 ∧ ¬ (inW 400 x))) (gB D (w0)) (gA (gF) sz)) 0 0 (gA (gF) sz) := by
  refine gMz (cc := cX6_isPanelWidth) (maxL := 1) (plainFor_of_name (by decide)) rfl (Nat.le_of_ble_eq_true rfl) ?_
  intro p e s m below meth c Q hx hb hts hown hml hsz hE hret H locs hP hS ls hl
  subst hsz
  have hown : s.vm.findClass RX6 = some m.cls := hown
  have hl : lv_has ls 1 [(0, .int (x))] := hl
  refine lv_iload_n hx hb dX6_isPanelWidth_0 rfl (lv_at hl 0 rfl) ?_
  refine lv_iconst (v := nI 1) hx hb dX6_isPanelWidth_1 (by decide) ?_
  refine lv_icmp_lt (tgt := 16) hx hb dX6_isPanelWidth_2 (by decide) (fun c_2_1 => ?_) (fun c_2_1 => ?_)
  · skip
    refine lv_iconst (v := nI 0) hx hb dX6_isPanelWidth_16 (by decide) ?_
    exact hret hS hP dX6_isPanelWidth_17 (Or.inl rfl) (Or.inr ⟨rfl, inW_lo (by decide) c_2_1⟩)
  · skip
    refine lv_iload_n hx hb dX6_isPanelWidth_5 rfl (lv_at hl 0 rfl) ?_
    refine lv_sipush (v := nI 400) hx hb dX6_isPanelWidth_6 (by decide) ?_
    refine lv_icmp_gt (tgt := 16) hx hb dX6_isPanelWidth_9 (by decide) (fun c_9_2 => ?_) (fun c_9_2 => ?_)
    · skip
      refine lv_iconst (v := nI 0) hx hb dX6_isPanelWidth_16 (by decide) ?_
      exact hret hS hP dX6_isPanelWidth_17 (Or.inl rfl) (Or.inr ⟨rfl, inW_hi (by decide) c_9_2⟩)
    · skip
      refine lv_iconst (v := nI 1) hx hb dX6_isPanelWidth_12 (by decide) ?_
      refine lv_goto (tgt := 17) hx hb dX6_isPanelWidth_13 (by decide) ?_
      exact hret hS hP dX6_isPanelWidth_17 (Or.inr rfl) (Or.inl ⟨rfl, inW_of (by decide) c_2_1 c_9_2⟩)
