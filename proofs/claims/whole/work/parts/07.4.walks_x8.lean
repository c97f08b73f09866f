abbrev rm8_pathTextLength : Room := { frames := 3, cells := 0, slots := 0, locals := 73 }
theorem nm8_pathTextLength : kNm yX8_pathTextLength 1 := by decide +kernel
set_option maxHeartbeats 4000000 in
set_option maxRecDepth 100000 in
theorem c8_pathTextLength (l : Launch) (D : va_G) (cI cJ cN cR : ClassId) (rf : Nat → Nat) (sz : Nat) (f_terms : Int32) (f_runs : Int32) (f_leftAbove : Int64) (f_leftBelow : Int64) (f_rightAbove : Int64) (f_rightBelow : Int64) (f_listed : Int32) (f_fed : Int32) (f_read : Int32) (f_formed : Int32) (f_hasSnapshot : Int32) (f_above : (Nat → Int32)) (f_below : (Nat → Int32)) (f_term : (Nat → Int32)) (f_run : (Nat → Int32)) (f_isRight : (Nat → Int32)) (f_form : (Nat → Int32)) (v1 : Int32) (post : Int32 → Int32 → Int32 → Int32 → (Nat → Int32) → (Nat → Int32) → (Nat → Int32) → (Nat → Int32) → Prop) (hw : w8_pathTextLength f_terms f_runs f_formed f_above f_below f_term f_run f_isRight f_form v1 post) : Met l yX8_pathTextLength wsX8_pathTextLength rm8_pathTextLength (kP D (kT cI cJ cN cR) sz [.ref (rf 0), .int v1] [((rf 0), o8 rf f_terms f_runs f_leftAbove f_leftBelow f_rightAbove f_rightBelow f_listed f_fed f_read f_formed f_hasSnapshot), ((rf 1), ai cI 8 f_above), ((rf 2), ai cI 8 f_below), ((rf 3), ai cI 64 f_term), ((rf 4), ai cI 64 f_run), ((rf 5), ai cI 64 f_isRight), ((rf 23), ai cI 500 f_form)]) (kQi D [((rf 0), o8 rf f_terms f_runs f_leftAbove f_leftBelow f_rightAbove f_rightBelow f_listed f_fed f_read f_formed f_hasSnapshot), ((rf 1), ai cI 8 f_above), ((rf 2), ai cI 8 f_below), ((rf 3), ai cI 64 f_term), ((rf 4), ai cI 64 f_run), ((rf 5), ai cI 64 f_isRight), ((rf 23), ai cI 500 f_form)] sz (fun (r : Int32) (u : Int32 × Int32 × Int32 × (Nat → Int32) × (Nat → Int32) × (Nat → Int32) × (Nat → Int32)) => post r u.1 u.2.1 u.2.2.1 u.2.2.2.1 u.2.2.2.2.1 u.2.2.2.2.2.1 u.2.2.2.2.2.2) (fun (u : Int32 × Int32 × Int32 × (Nat → Int32) × (Nat → Int32) × (Nat → Int32) × (Nat → Int32)) => [((rf 0), o8 rf u.1 u.2.1 f_leftAbove f_leftBelow f_rightAbove f_rightBelow f_listed f_fed f_read u.2.2.1 f_hasSnapshot), ((rf 1), ai cI 8 f_above), ((rf 2), ai cI 8 f_below), ((rf 3), ai cI 64 u.2.2.2.1), ((rf 4), ai cI 64 u.2.2.2.2.1), ((rf 5), ai cI 64 u.2.2.2.2.2.1), ((rf 23), ai cI 500 u.2.2.2.2.2.2)])) 0 0 (va_A [((rf 0), o8 rf f_terms f_runs f_leftAbove f_leftBelow f_rightAbove f_rightBelow f_listed f_fed f_read f_formed f_hasSnapshot), ((rf 1), ai cI 8 f_above), ((rf 2), ai cI 8 f_below), ((rf 3), ai cI 64 f_term), ((rf 4), ai cI 64 f_run), ((rf 5), ai cI 64 f_isRight), ((rf 23), ai cI 500 f_form)] sz) := by
  refine kMetI (cc := cX8_pathTextLength) (maxL := 2) (by decide +kernel) rfl (Nat.le_of_ble_eq_true rfl) ?_
  intro p e s m args below meth c H0 ls A Q C0 hK hN hP hD hS hA hl RET
  obtain ⟨hx, hb, hml, hown, hts⟩ := id C0
  have hl : lv_has ls 2 [(0, .ref (rf 0)), (1, .int v1)] := hl
  have g7 := hts (.fieldLink RX8 7 "SternBrocotExplorerModel" "above" "[I") (by decide +kernel)
  have g13 := hts (.fieldLink RX8 13 "SternBrocotExplorerModel" "below" "[I") (by decide +kernel)
  have g82 := hts (.fieldLink RX8 82 "SternBrocotExplorerModel" "formed" "I") (by decide +kernel)
  have hi9 : ∀ w ∈ wsX80, w ∈ wsX8_pathTextLength := fun w h => List.mem_cons_of_mem _ (List.mem_append_right _ h)
  unfold w8_pathTextLength at hw
  have hP : va_P D vwCl [((rf 0), o8 rf f_terms f_runs f_leftAbove f_leftBelow f_rightAbove f_rightBelow f_listed f_fed f_read f_formed f_hasSnapshot), ((rf 1), ai cI 8 f_above), ((rf 2), ai cI 8 f_below), ((rf 3), ai cI 64 f_term), ((rf 4), ai cI 64 f_run), ((rf 5), ai cI 64 f_isRight), ((rf 23), ai cI 500 f_form)] H0 := hP
  refine lv_aload_n hx hb dX8_pathTextLength_0 rfl (lv_at hl 0 rfl) ?_
  refine lv_iload_n hx hb dX8_pathTextLength_1 rfl (lv_at hl 1 rfl) ?_
  refine kcRI (wc := [((rf 0), o8 rf f_terms f_runs f_leftAbove f_leftBelow f_rightAbove f_rightBelow f_listed f_fed f_read f_formed f_hasSnapshot)]) hP [0] rfl (fun hPc => oV (As := [.int v1]) (rest := []) C0 hK hN (c8_isRegister l D cI cJ cN cR rf f_terms f_runs f_leftAbove f_leftBelow f_rightAbove f_rightBelow f_listed f_fed f_read f_formed f_hasSnapshot v1 _ hw) 1 gX8_pathTextLength_X8_isRegister rfl ⟨rfl, rfl⟩ nm8_isRegister ⟨Nat.le_of_ble_eq_true rfl, Nat.le_of_ble_eq_true rfl⟩ (q0 := 0) rfl rfl rfl rfl hl.1 rfl (Nat.le_of_ble_eq_true rfl) dX8_pathTextLength_2 ⟨Nat.le_of_ble_eq_true rfl, Nat.le_of_ble_eq_true rfl⟩ hPc) (fun r2 hw => ?_)
  obtain ⟨nb2, hw⟩ := hw
  refine lv_if_ne (tgt := 10) hx hb dX8_pathTextLength_5 (by decide) (fun k => ?_) (fun k => ?_)
  · have hw := hw.1 k
    refine lv_aload_n hx hb dX8_pathTextLength_10 rfl (lv_at hl 0 rfl) ?_
    refine lv_aload_n hx hb dX8_pathTextLength_11 rfl (lv_at hl 0 rfl) ?_
    refine va_get (D := D) (ci := 8) (v := .ref (rf 1)) (C := RX8) (T := TX8) (N := 35) hx hb hts hi9 hown hK hP 0 rfl rfl 0 (by decide) g7 (fun _ h9 => h9) rfl dX8_pathTextLength_12 ?_
    refine lv_iload_n hx hb dX8_pathTextLength_15 rfl (lv_at hl 1 rfl) ?_
    obtain ⟨hin, hw⟩ := hw
    refine va_iald hx hb hK hP 1 0 rfl rfl hin dX8_pathTextLength_16 ?_
    refine lv_aload_n hx hb dX8_pathTextLength_17 rfl (lv_at hl 0 rfl) ?_
    refine va_get (D := D) (ci := 8) (v := .ref (rf 2)) (C := RX8) (T := TX8) (N := 35) hx hb hts hi9 hown hK hP 0 rfl rfl 1 (by decide) g13 (fun _ h9 => h9) rfl dX8_pathTextLength_18 ?_
    refine lv_iload_n hx hb dX8_pathTextLength_21 rfl (lv_at hl 1 rfl) ?_
    obtain ⟨hin, hw⟩ := hw
    refine va_iald hx hb hK hP 2 0 rfl rfl hin dX8_pathTextLength_22 ?_
    refine kcV (wc := [((rf 0), o8 rf f_terms f_runs f_leftAbove f_leftBelow f_rightAbove f_rightBelow f_listed f_fed f_read f_formed f_hasSnapshot), ((rf 3), ai cI 64 f_term), ((rf 4), ai cI 64 f_run), ((rf 5), ai cI 64 f_isRight), ((rf 23), ai cI 500 f_form)]) (wr := [((rf 1), ai cI 8 f_above), ((rf 2), ai cI 8 f_below)]) hP hD hS hA [0, 3, 4, 5, 6] [1, 2] rfl rfl ⟨rfl, rfl, by decide⟩ (fun hPc hDc => rV (As := [.int (f_above v1.toNatClampNeg), .int (f_below v1.toNatClampNeg)]) (rest := []) C0 hK hN (c8_layForm l D cI cJ cN cR rf H0.size f_terms f_runs f_leftAbove f_leftBelow f_rightAbove f_rightBelow f_listed f_fed f_read f_formed f_hasSnapshot f_term f_run f_isRight f_form (f_above v1.toNatClampNeg) (f_below v1.toNatClampNeg) _ hw) 2 gX8_pathTextLength_X8_layForm rfl ⟨rfl, rfl⟩ nm8_layForm ⟨Nat.le_of_ble_eq_true rfl, Nat.le_of_ble_eq_true rfl⟩ (q0 := 0) rfl rfl rfl rfl hl.1 rfl (Nat.le_of_ble_eq_true rfl) dX8_pathTextLength_23 ⟨Nat.le_of_ble_eq_true rfl, Nat.le_of_ble_eq_true rfl⟩ hPc hDc) (fun u23 H locs hw hP hD hS => ?_)
    obtain ⟨f_terms_23, f_runs_23, f_formed_23, f_term_23, f_run_23, f_isRight_23, f_form_23⟩ := u23
    dsimp only at hw
    have hP : va_P D vwCl [((rf 1), ai cI 8 f_above), ((rf 2), ai cI 8 f_below), ((rf 0), o8 rf f_terms_23 f_runs_23 f_leftAbove f_leftBelow f_rightAbove f_rightBelow f_listed f_fed f_read f_formed_23 f_hasSnapshot), ((rf 3), ai cI 64 f_term_23), ((rf 4), ai cI 64 f_run_23), ((rf 5), ai cI 64 f_isRight_23), ((rf 23), ai cI 500 f_form_23)] H := hP
    have hD : va_D A [((rf 1), ai cI 8 f_above), ((rf 2), ai cI 8 f_below), ((rf 0), o8 rf f_terms_23 f_runs_23 f_leftAbove f_leftBelow f_rightAbove f_rightBelow f_listed f_fed f_read f_formed_23 f_hasSnapshot), ((rf 3), ai cI 64 f_term_23), ((rf 4), ai cI 64 f_run_23), ((rf 5), ai cI 64 f_isRight_23), ((rf 23), ai cI 500 f_form_23)] := hD
    refine lv_aload_n hx hb dX8_pathTextLength_26 rfl (lv_at hl 0 rfl) ?_
    refine va_get (D := D) (ci := 8) (v := .int f_formed_23) (C := RX8) (T := TX8) (N := 35) hx hb hts hi9 hown hK hP 2 rfl rfl 23 (by decide) g82 (fun _ h9 => h9) rfl dX8_pathTextLength_27 ?_
    obtain ⟨hP, hD⟩ := k_sub (ws' := [((rf 0), o8 rf f_terms_23 f_runs_23 f_leftAbove f_leftBelow f_rightAbove f_rightBelow f_listed f_fed f_read f_formed_23 f_hasSnapshot), ((rf 1), ai cI 8 f_above), ((rf 2), ai cI 8 f_below), ((rf 3), ai cI 64 f_term_23), ((rf 4), ai cI 64 f_run_23), ((rf 5), ai cI 64 f_isRight_23), ((rf 23), ai cI 500 f_form_23)]) hP hD [2, 0, 1, 3, 4, 5, 6] rfl rfl
    exact RET _ _ _ (f_terms_23, f_runs_23, f_formed_23, f_term_23, f_run_23, f_isRight_23, f_form_23) _ _ hw hP hD hS dX8_pathTextLength_30
  · have hw := hw.2 k
    refine lv_iconst (v := (-1 : Int32)) hx hb dX8_pathTextLength_8 (by decide) ?_
    exact RET _ _ _ (f_terms, f_runs, f_formed, f_term, f_run, f_isRight, f_form) _ _ hw hP hD hS dX8_pathTextLength_9
abbrev rm8_pathText : Room := { frames := 3, cells := 0, slots := 0, locals := 73 }
theorem nm8_pathText : kNm yX8_pathText 2 := by decide +kernel
set_option maxHeartbeats 4000000 in
set_option maxRecDepth 100000 in
theorem c8_pathText (l : Launch) (D : va_G) (cI cJ cN cR : ClassId) (rf : Nat → Nat) (sz : Nat) (f_terms : Int32) (f_runs : Int32) (f_leftAbove : Int64) (f_leftBelow : Int64) (f_rightAbove : Int64) (f_rightBelow : Int64) (f_listed : Int32) (f_fed : Int32) (f_read : Int32) (f_formed : Int32) (f_hasSnapshot : Int32) (f_above : (Nat → Int32)) (f_below : (Nat → Int32)) (f_term : (Nat → Int32)) (f_run : (Nat → Int32)) (f_isRight : (Nat → Int32)) (f_form : (Nat → Int32)) (v1 : Int32) (v2 : Int32) (post : Int32 → Int32 → Int32 → Int32 → (Nat → Int32) → (Nat → Int32) → (Nat → Int32) → (Nat → Int32) → Prop) (hw : w8_pathText f_terms f_runs f_formed f_above f_below f_term f_run f_isRight f_form v1 v2 post) : Met l yX8_pathText wsX8_pathText rm8_pathText (kP D (kT cI cJ cN cR) sz [.ref (rf 0), .int v1, .int v2] [((rf 0), o8 rf f_terms f_runs f_leftAbove f_leftBelow f_rightAbove f_rightBelow f_listed f_fed f_read f_formed f_hasSnapshot), ((rf 1), ai cI 8 f_above), ((rf 2), ai cI 8 f_below), ((rf 3), ai cI 64 f_term), ((rf 4), ai cI 64 f_run), ((rf 5), ai cI 64 f_isRight), ((rf 23), ai cI 500 f_form)]) (kQi D [((rf 0), o8 rf f_terms f_runs f_leftAbove f_leftBelow f_rightAbove f_rightBelow f_listed f_fed f_read f_formed f_hasSnapshot), ((rf 1), ai cI 8 f_above), ((rf 2), ai cI 8 f_below), ((rf 3), ai cI 64 f_term), ((rf 4), ai cI 64 f_run), ((rf 5), ai cI 64 f_isRight), ((rf 23), ai cI 500 f_form)] sz (fun (r : Int32) (u : Int32 × Int32 × Int32 × (Nat → Int32) × (Nat → Int32) × (Nat → Int32) × (Nat → Int32)) => post r u.1 u.2.1 u.2.2.1 u.2.2.2.1 u.2.2.2.2.1 u.2.2.2.2.2.1 u.2.2.2.2.2.2) (fun (u : Int32 × Int32 × Int32 × (Nat → Int32) × (Nat → Int32) × (Nat → Int32) × (Nat → Int32)) => [((rf 0), o8 rf u.1 u.2.1 f_leftAbove f_leftBelow f_rightAbove f_rightBelow f_listed f_fed f_read u.2.2.1 f_hasSnapshot), ((rf 1), ai cI 8 f_above), ((rf 2), ai cI 8 f_below), ((rf 3), ai cI 64 u.2.2.2.1), ((rf 4), ai cI 64 u.2.2.2.2.1), ((rf 5), ai cI 64 u.2.2.2.2.2.1), ((rf 23), ai cI 500 u.2.2.2.2.2.2)])) 0 0 (va_A [((rf 0), o8 rf f_terms f_runs f_leftAbove f_leftBelow f_rightAbove f_rightBelow f_listed f_fed f_read f_formed f_hasSnapshot), ((rf 1), ai cI 8 f_above), ((rf 2), ai cI 8 f_below), ((rf 3), ai cI 64 f_term), ((rf 4), ai cI 64 f_run), ((rf 5), ai cI 64 f_isRight), ((rf 23), ai cI 500 f_form)] sz) := by
  refine kMetI (cc := cX8_pathText) (maxL := 3) (by decide +kernel) rfl (Nat.le_of_ble_eq_true rfl) ?_
  intro p e s m args below meth c H0 ls A Q C0 hK hN hP hD hS hA hl RET
  obtain ⟨hx, hb, hml, hown, hts⟩ := id C0
  have hl : lv_has ls 3 [(0, .ref (rf 0)), (1, .int v1), (2, .int v2)] := hl
  have g7 := hts (.fieldLink RX8 7 "SternBrocotExplorerModel" "above" "[I") (by decide +kernel)
  have g13 := hts (.fieldLink RX8 13 "SternBrocotExplorerModel" "below" "[I") (by decide +kernel)
  have g82 := hts (.fieldLink RX8 82 "SternBrocotExplorerModel" "formed" "I") (by decide +kernel)
  have g79 := hts (.fieldLink RX8 79 "SternBrocotExplorerModel" "form" "[I") (by decide +kernel)
  have hi9 : ∀ w ∈ wsX80, w ∈ wsX8_pathText := fun w h => List.mem_cons_of_mem _ (List.mem_append_right _ h)
  unfold w8_pathText at hw
  have hP : va_P D vwCl [((rf 0), o8 rf f_terms f_runs f_leftAbove f_leftBelow f_rightAbove f_rightBelow f_listed f_fed f_read f_formed f_hasSnapshot), ((rf 1), ai cI 8 f_above), ((rf 2), ai cI 8 f_below), ((rf 3), ai cI 64 f_term), ((rf 4), ai cI 64 f_run), ((rf 5), ai cI 64 f_isRight), ((rf 23), ai cI 500 f_form)] H0 := hP
  refine lv_aload_n hx hb dX8_pathText_0 rfl (lv_at hl 0 rfl) ?_
  refine lv_iload_n hx hb dX8_pathText_1 rfl (lv_at hl 1 rfl) ?_
  refine kcRI (wc := [((rf 0), o8 rf f_terms f_runs f_leftAbove f_leftBelow f_rightAbove f_rightBelow f_listed f_fed f_read f_formed f_hasSnapshot)]) hP [0] rfl (fun hPc => oV (As := [.int v1]) (rest := []) C0 hK hN (c8_isRegister l D cI cJ cN cR rf f_terms f_runs f_leftAbove f_leftBelow f_rightAbove f_rightBelow f_listed f_fed f_read f_formed f_hasSnapshot v1 _ hw) 1 gX8_pathText_X8_isRegister rfl ⟨rfl, rfl⟩ nm8_isRegister ⟨Nat.le_of_ble_eq_true rfl, Nat.le_of_ble_eq_true rfl⟩ (q0 := 0) rfl rfl rfl rfl hl.1 rfl (Nat.le_of_ble_eq_true rfl) dX8_pathText_2 ⟨Nat.le_of_ble_eq_true rfl, Nat.le_of_ble_eq_true rfl⟩ hPc) (fun r2 hw => ?_)
  obtain ⟨nb2, hw⟩ := hw
  refine lv_if_eq (tgt := 12) hx hb dX8_pathText_5 (by decide) (fun k => ?_) (fun k => ?_)
  · have hw := hw.1 k
    refine lv_iconst (v := (-1 : Int32)) hx hb dX8_pathText_12 (by decide) ?_
    exact RET _ _ _ (f_terms, f_runs, f_formed, f_term, f_run, f_isRight, f_form) _ _ hw hP hD hS dX8_pathText_13
  · have hw := hw.2 k
    refine lv_iload_n hx hb dX8_pathText_8 rfl (lv_at hl 2 rfl) ?_
    refine lv_if_ge (tgt := 14) hx hb dX8_pathText_9 (by decide) (fun k => ?_) (fun k => ?_)
    · have hw := hw.1 k
      refine lv_aload_n hx hb dX8_pathText_14 rfl (lv_at hl 0 rfl) ?_
      refine lv_aload_n hx hb dX8_pathText_15 rfl (lv_at hl 0 rfl) ?_
      refine va_get (D := D) (ci := 8) (v := .ref (rf 1)) (C := RX8) (T := TX8) (N := 35) hx hb hts hi9 hown hK hP 0 rfl rfl 0 (by decide) g7 (fun _ h9 => h9) rfl dX8_pathText_16 ?_
      refine lv_iload_n hx hb dX8_pathText_19 rfl (lv_at hl 1 rfl) ?_
      obtain ⟨hin, hw⟩ := hw
      refine va_iald hx hb hK hP 1 0 rfl rfl hin dX8_pathText_20 ?_
      refine lv_aload_n hx hb dX8_pathText_21 rfl (lv_at hl 0 rfl) ?_
      refine va_get (D := D) (ci := 8) (v := .ref (rf 2)) (C := RX8) (T := TX8) (N := 35) hx hb hts hi9 hown hK hP 0 rfl rfl 1 (by decide) g13 (fun _ h9 => h9) rfl dX8_pathText_22 ?_
      refine lv_iload_n hx hb dX8_pathText_25 rfl (lv_at hl 1 rfl) ?_
      obtain ⟨hin, hw⟩ := hw
      refine va_iald hx hb hK hP 2 0 rfl rfl hin dX8_pathText_26 ?_
      refine kcV (wc := [((rf 0), o8 rf f_terms f_runs f_leftAbove f_leftBelow f_rightAbove f_rightBelow f_listed f_fed f_read f_formed f_hasSnapshot), ((rf 3), ai cI 64 f_term), ((rf 4), ai cI 64 f_run), ((rf 5), ai cI 64 f_isRight), ((rf 23), ai cI 500 f_form)]) (wr := [((rf 1), ai cI 8 f_above), ((rf 2), ai cI 8 f_below)]) hP hD hS hA [0, 3, 4, 5, 6] [1, 2] rfl rfl ⟨rfl, rfl, by decide⟩ (fun hPc hDc => rV (As := [.int (f_above v1.toNatClampNeg), .int (f_below v1.toNatClampNeg)]) (rest := []) C0 hK hN (c8_layForm l D cI cJ cN cR rf H0.size f_terms f_runs f_leftAbove f_leftBelow f_rightAbove f_rightBelow f_listed f_fed f_read f_formed f_hasSnapshot f_term f_run f_isRight f_form (f_above v1.toNatClampNeg) (f_below v1.toNatClampNeg) _ hw) 2 gX8_pathText_X8_layForm rfl ⟨rfl, rfl⟩ nm8_layForm ⟨Nat.le_of_ble_eq_true rfl, Nat.le_of_ble_eq_true rfl⟩ (q0 := 0) rfl rfl rfl rfl hl.1 rfl (Nat.le_of_ble_eq_true rfl) dX8_pathText_27 ⟨Nat.le_of_ble_eq_true rfl, Nat.le_of_ble_eq_true rfl⟩ hPc hDc) (fun u27 H locs hw hP hD hS => ?_)
      obtain ⟨f_terms_27, f_runs_27, f_formed_27, f_term_27, f_run_27, f_isRight_27, f_form_27⟩ := u27
      dsimp only at hw
      have hP : va_P D vwCl [((rf 1), ai cI 8 f_above), ((rf 2), ai cI 8 f_below), ((rf 0), o8 rf f_terms_27 f_runs_27 f_leftAbove f_leftBelow f_rightAbove f_rightBelow f_listed f_fed f_read f_formed_27 f_hasSnapshot), ((rf 3), ai cI 64 f_term_27), ((rf 4), ai cI 64 f_run_27), ((rf 5), ai cI 64 f_isRight_27), ((rf 23), ai cI 500 f_form_27)] H := hP
      have hD : va_D A [((rf 1), ai cI 8 f_above), ((rf 2), ai cI 8 f_below), ((rf 0), o8 rf f_terms_27 f_runs_27 f_leftAbove f_leftBelow f_rightAbove f_rightBelow f_listed f_fed f_read f_formed_27 f_hasSnapshot), ((rf 3), ai cI 64 f_term_27), ((rf 4), ai cI 64 f_run_27), ((rf 5), ai cI 64 f_isRight_27), ((rf 23), ai cI 500 f_form_27)] := hD
      refine lv_iload_n hx hb dX8_pathText_30 rfl (lv_at hl 2 rfl) ?_
      refine lv_aload_n hx hb dX8_pathText_31 rfl (lv_at hl 0 rfl) ?_
      refine va_get (D := D) (ci := 8) (v := .int f_formed_27) (C := RX8) (T := TX8) (N := 35) hx hb hts hi9 hown hK hP 2 rfl rfl 23 (by decide) g82 (fun _ h9 => h9) rfl dX8_pathText_32 ?_
      refine lv_icmp_ge (tgt := 47) hx hb dX8_pathText_35 (by decide) (fun k => ?_) (fun k => ?_)
      · have hw := hw.1 k
        refine lv_bipush (v := (-2 : Int32)) hx hb dX8_pathText_47 (by decide) ?_
        obtain ⟨hP, hD⟩ := k_sub (ws' := [((rf 0), o8 rf f_terms_27 f_runs_27 f_leftAbove f_leftBelow f_rightAbove f_rightBelow f_listed f_fed f_read f_formed_27 f_hasSnapshot), ((rf 1), ai cI 8 f_above), ((rf 2), ai cI 8 f_below), ((rf 3), ai cI 64 f_term_27), ((rf 4), ai cI 64 f_run_27), ((rf 5), ai cI 64 f_isRight_27), ((rf 23), ai cI 500 f_form_27)]) hP hD [2, 0, 1, 3, 4, 5, 6] rfl rfl
        exact RET _ _ _ (f_terms_27, f_runs_27, f_formed_27, f_term_27, f_run_27, f_isRight_27, f_form_27) _ _ hw hP hD hS dX8_pathText_49
      · have hw := hw.2 k
        refine lv_aload_n hx hb dX8_pathText_38 rfl (lv_at hl 0 rfl) ?_
        refine va_get (D := D) (ci := 8) (v := .ref (rf 23)) (C := RX8) (T := TX8) (N := 35) hx hb hts hi9 hown hK hP 2 rfl rfl 22 (by decide) g79 (fun _ h9 => h9) rfl dX8_pathText_39 ?_
        refine lv_iload_n hx hb dX8_pathText_42 rfl (lv_at hl 2 rfl) ?_
        obtain ⟨hin, hw⟩ := hw
        refine va_iald hx hb hK hP 6 0 rfl rfl hin dX8_pathText_43 ?_
        refine lv_goto (tgt := 49) hx hb dX8_pathText_44 (by decide) ?_
        obtain ⟨hP, hD⟩ := k_sub (ws' := [((rf 0), o8 rf f_terms_27 f_runs_27 f_leftAbove f_leftBelow f_rightAbove f_rightBelow f_listed f_fed f_read f_formed_27 f_hasSnapshot), ((rf 1), ai cI 8 f_above), ((rf 2), ai cI 8 f_below), ((rf 3), ai cI 64 f_term_27), ((rf 4), ai cI 64 f_run_27), ((rf 5), ai cI 64 f_isRight_27), ((rf 23), ai cI 500 f_form_27)]) hP hD [2, 0, 1, 3, 4, 5, 6] rfl rfl
        exact RET _ _ _ (f_terms_27, f_runs_27, f_formed_27, f_term_27, f_run_27, f_isRight_27, f_form_27) _ _ hw hP hD hS dX8_pathText_49
    · have hw := hw.2 k
      refine lv_iconst (v := (-1 : Int32)) hx hb dX8_pathText_12 (by decide) ?_
      exact RET _ _ _ (f_terms, f_runs, f_formed, f_term, f_run, f_isRight, f_form) _ _ hw hP hD hS dX8_pathText_13
abbrev rm8_isSlot : Room := { frames := 1, cells := 0, slots := 0, locals := 25 }
theorem nm8_isSlot : kNm yX8_isSlot 1 := by decide +kernel
set_option maxHeartbeats 4000000 in
set_option maxRecDepth 100000 in
theorem c8_isSlot (l : Launch) (D : va_G) (cI cJ cN cR : ClassId) (rf : Nat → Nat) (f_terms : Int32) (f_runs : Int32) (f_leftAbove : Int64) (f_leftBelow : Int64) (f_rightAbove : Int64) (f_rightBelow : Int64) (f_listed : Int32) (f_fed : Int32) (f_read : Int32) (f_formed : Int32) (f_hasSnapshot : Int32) (v1 : Int32) (post : Int32 → Prop) (hw : w8_isSlot v1 post) : Met l yX8_isSlot wsX8_isSlot rm8_isSlot (kR D (kT cI cJ cN cR) [.ref (rf 0), .int v1] [((rf 0), o8 rf f_terms f_runs f_leftAbove f_leftBelow f_rightAbove f_rightBelow f_listed f_fed f_read f_formed f_hasSnapshot)]) (vp_Si (fun (r : Int32) => narrow .boolean (.int r) = .int r ∧ post r)) 0 0 (fun _ => False) := by
  refine kMetRZ (cc := cX8_isSlot) (maxL := 2) (by decide +kernel) rfl (Nat.le_of_ble_eq_true rfl) ?_
  intro p e s m args below meth c H ls Q C0 hK hN hP hl RET
  obtain ⟨hx, hb, hml, hown, hts⟩ := id C0
  have hl : lv_has ls 2 [(0, .ref (rf 0)), (1, .int v1)] := hl
  unfold w8_isSlot at hw
  refine lv_iload_n hx hb dX8_isSlot_0 rfl (lv_at hl 1 rfl) ?_
  refine lv_i2l hx hb dX8_isSlot_1 rfl ?_
  refine lv_lconst (v := (0 : Int64)) hx hb dX8_isSlot_2 (by decide) ?_
  refine lv_ldc2 (v := (4 : Int64)) hx hb hown (hts (.constantLong RX8 143 (4)) (by decide +kernel)) dX8_isSlot_3 ?_
  refine kcRI (wc := []) hP [] rfl (fun hPc => oS (As := [.long v1.toInt64, .long (0 : Int64), .long (4 : Int64)]) (rest := []) C0 hK hN (c8_within l D cI cJ cN cR   v1.toInt64 (0 : Int64) (4 : Int64) _ hw) 3 gX8_isSlot_X8_within rfl ⟨rfl, rfl⟩ nm8_within ⟨Nat.le_of_ble_eq_true rfl, Nat.le_of_ble_eq_true rfl⟩ rfl hl.1 rfl (Nat.le_of_ble_eq_true rfl) dX8_isSlot_6 ⟨Nat.le_of_ble_eq_true rfl, Nat.le_of_ble_eq_true rfl⟩ hPc) (fun r6 hw => ?_)
  obtain ⟨nb6, hw⟩ := hw
  exact RET _ _ _ nb6 hw dX8_isSlot_9
abbrev rm8_plant : Room := { frames := 2, cells := 0, slots := 0, locals := 46 }
theorem nm8_plant : kNm yX8_plant 3 := by decide +kernel
set_option maxHeartbeats 4000000 in
set_option maxRecDepth 100000 in
theorem c8_plant (l : Launch) (D : va_G) (cI cJ cN cR : ClassId) (rf : Nat → Nat) (sz : Nat) (f_terms : Int32) (f_runs : Int32) (f_leftAbove : Int64) (f_leftBelow : Int64) (f_rightAbove : Int64) (f_rightBelow : Int64) (f_listed : Int32) (f_fed : Int32) (f_read : Int32) (f_formed : Int32) (f_hasSnapshot : Int32) (f_above : (Nat → Int32)) (f_below : (Nat → Int32)) (f_kindOf : (Nat → Int32)) (f_nodeAbove : (Nat → Int32)) (f_nodeBelow : (Nat → Int32)) (v1 : Int32) (v2 : Int32) (v3 : Int32) (post : Int32 → (Nat → Int32) → (Nat → Int32) → (Nat → Int32) → Prop) (hw : w8_plant f_above f_below f_kindOf f_nodeAbove f_nodeBelow v1 v2 v3 post) : Met l yX8_plant wsX8_plant rm8_plant (kP D (kT cI cJ cN cR) sz [.ref (rf 0), .int v1, .int v2, .int v3] [((rf 0), o8 rf f_terms f_runs f_leftAbove f_leftBelow f_rightAbove f_rightBelow f_listed f_fed f_read f_formed f_hasSnapshot), ((rf 1), ai cI 8 f_above), ((rf 2), ai cI 8 f_below), ((rf 25), ai cI 5 f_kindOf), ((rf 26), ai cI 5 f_nodeAbove), ((rf 27), ai cI 5 f_nodeBelow)]) (kQi D [((rf 0), o8 rf f_terms f_runs f_leftAbove f_leftBelow f_rightAbove f_rightBelow f_listed f_fed f_read f_formed f_hasSnapshot), ((rf 1), ai cI 8 f_above), ((rf 2), ai cI 8 f_below), ((rf 25), ai cI 5 f_kindOf), ((rf 26), ai cI 5 f_nodeAbove), ((rf 27), ai cI 5 f_nodeBelow)] sz (fun (r : Int32) (u : (Nat → Int32) × (Nat → Int32) × (Nat → Int32)) => post r u.1 u.2.1 u.2.2) (fun (u : (Nat → Int32) × (Nat → Int32) × (Nat → Int32)) => [((rf 0), o8 rf f_terms f_runs f_leftAbove f_leftBelow f_rightAbove f_rightBelow f_listed f_fed f_read f_formed f_hasSnapshot), ((rf 1), ai cI 8 f_above), ((rf 2), ai cI 8 f_below), ((rf 25), ai cI 5 u.1), ((rf 26), ai cI 5 u.2.1), ((rf 27), ai cI 5 u.2.2)])) 0 0 (va_A [((rf 0), o8 rf f_terms f_runs f_leftAbove f_leftBelow f_rightAbove f_rightBelow f_listed f_fed f_read f_formed f_hasSnapshot), ((rf 1), ai cI 8 f_above), ((rf 2), ai cI 8 f_below), ((rf 25), ai cI 5 f_kindOf), ((rf 26), ai cI 5 f_nodeAbove), ((rf 27), ai cI 5 f_nodeBelow)] sz) := by
  refine kMetI (cc := cX8_plant) (maxL := 5) (by decide +kernel) rfl (Nat.le_of_ble_eq_true rfl) ?_
  intro p e s m args below meth c H0 ls A Q C0 hK hN hP hD hS hA hl RET
  obtain ⟨hx, hb, hml, hown, hts⟩ := id C0
  have hl : lv_has ls 5 [(0, .ref (rf 0)), (1, .int v1), (2, .int v2), (3, .int v3)] := hl
  have g85 := hts (.fieldLink RX8 85 "SternBrocotExplorerModel" "kindOf" "[I") (by decide +kernel)
  have g88 := hts (.fieldLink RX8 88 "SternBrocotExplorerModel" "nodeAbove" "[I") (by decide +kernel)
  have g7 := hts (.fieldLink RX8 7 "SternBrocotExplorerModel" "above" "[I") (by decide +kernel)
  have g91 := hts (.fieldLink RX8 91 "SternBrocotExplorerModel" "nodeBelow" "[I") (by decide +kernel)
  have g13 := hts (.fieldLink RX8 13 "SternBrocotExplorerModel" "below" "[I") (by decide +kernel)
  have hi9 : ∀ w ∈ wsX80, w ∈ wsX8_plant := fun w h => List.mem_cons_of_mem _ (List.mem_append_right _ h)
  unfold w8_plant at hw
  have hP : va_P D vwCl [((rf 0), o8 rf f_terms f_runs f_leftAbove f_leftBelow f_rightAbove f_rightBelow f_listed f_fed f_read f_formed f_hasSnapshot), ((rf 1), ai cI 8 f_above), ((rf 2), ai cI 8 f_below), ((rf 25), ai cI 5 f_kindOf), ((rf 26), ai cI 5 f_nodeAbove), ((rf 27), ai cI 5 f_nodeBelow)] H0 := hP
  have JOIN_46 : ∀ (f_kindOf : (Nat → Int32)) (f_nodeAbove : (Nat → Int32)) (f_nodeBelow : (Nat → Int32)) (s0 : Int32) (H : Heap) (locs : List Loc) (ls : Array Slot), w8_plant_J46 f_above f_below f_kindOf f_nodeAbove f_nodeBelow v1 v2 v3 s0 post → va_P D vwCl [((rf 0), o8 rf f_terms f_runs f_leftAbove f_leftBelow f_rightAbove f_rightBelow f_listed f_fed f_read f_formed f_hasSnapshot), ((rf 1), ai cI 8 f_above), ((rf 2), ai cI 8 f_below), ((rf 25), ai cI 5 f_kindOf), ((rf 26), ai cI 5 f_nodeAbove), ((rf 27), ai cI 5 f_nodeBelow)] H → va_D A [((rf 0), o8 rf f_terms f_runs f_leftAbove f_leftBelow f_rightAbove f_rightBelow f_listed f_fed f_read f_formed f_hasSnapshot), ((rf 1), ai cI 8 f_above), ((rf 2), ai cI 8 f_below), ((rf 25), ai cI 5 f_kindOf), ((rf 26), ai cI 5 f_nodeAbove), ((rf 27), ai cI 5 f_nodeBelow)] → va_S A H0 H locs → lv_has ls 5 [(0, .ref (rf 0)), (1, .int v1), (2, .int v2), (3, .int v3)] → W p l e rm8_plant s m args below meth c H locs 0 0 Q (F0 m 46 ls [.int s0]) := by
    intro f_kindOf f_nodeAbove f_nodeBelow s0 H locs ls hw hP hD hS hl
    unfold w8_plant_J46 at hw
    refine lv_istore (lv' := [(4, .int s0), (0, .ref (rf 0)), (1, .int v1), (2, .int v2), (3, .int v3)]) hx hb dX8_plant_46 hl (by decide) rfl (fun ls hl => ?_)
    refine lv_aload_n hx hb dX8_plant_48 rfl (lv_at hl 1 rfl) ?_
    refine va_get (D := D) (ci := 8) (v := .ref (rf 25)) (C := RX8) (T := TX8) (N := 35) hx hb hts hi9 hown hK hP 0 rfl rfl 24 (by decide) g85 (fun _ h9 => h9) rfl dX8_plant_49 ?_
    refine lv_iload_n hx hb dX8_plant_52 rfl (lv_at hl 2 rfl) ?_
    refine lv_iload_n hx hb dX8_plant_53 rfl (lv_at hl 3 rfl) ?_
    obtain ⟨hin, hw⟩ := hw
    refine va_iast hx hb hK hP hD hS 3 0 rfl rfl hin dX8_plant_54 (fun H locs hP hD hS => ?_)
    have hP : va_P D vwCl [((rf 0), o8 rf f_terms f_runs f_leftAbove f_leftBelow f_rightAbove f_rightBelow f_listed f_fed f_read f_formed f_hasSnapshot), ((rf 1), ai cI 8 f_above), ((rf 2), ai cI 8 f_below), ((rf 25), ai cI 5 (upd f_kindOf v1.toNatClampNeg v2)), ((rf 26), ai cI 5 f_nodeAbove), ((rf 27), ai cI 5 f_nodeBelow)] H := hP
    have hD : va_D A [((rf 0), o8 rf f_terms f_runs f_leftAbove f_leftBelow f_rightAbove f_rightBelow f_listed f_fed f_read f_formed f_hasSnapshot), ((rf 1), ai cI 8 f_above), ((rf 2), ai cI 8 f_below), ((rf 25), ai cI 5 (upd f_kindOf v1.toNatClampNeg v2)), ((rf 26), ai cI 5 f_nodeAbove), ((rf 27), ai cI 5 f_nodeBelow)] := hD
    refine lv_aload_n hx hb dX8_plant_55 rfl (lv_at hl 1 rfl) ?_
    refine va_get (D := D) (ci := 8) (v := .ref (rf 26)) (C := RX8) (T := TX8) (N := 35) hx hb hts hi9 hown hK hP 0 rfl rfl 25 (by decide) g88 (fun _ h9 => h9) rfl dX8_plant_56 ?_
    refine lv_iload_n hx hb dX8_plant_59 rfl (lv_at hl 2 rfl) ?_
    refine lv_aload_n hx hb dX8_plant_60 rfl (lv_at hl 1 rfl) ?_
    refine va_get (D := D) (ci := 8) (v := .ref (rf 1)) (C := RX8) (T := TX8) (N := 35) hx hb hts hi9 hown hK hP 0 rfl rfl 0 (by decide) g7 (fun _ h9 => h9) rfl dX8_plant_61 ?_
    refine lv_iload_n hx hb dX8_plant_64 rfl (lv_at hl 4 rfl) ?_
    obtain ⟨hin, hw⟩ := hw
    refine va_iald hx hb hK hP 1 0 rfl rfl hin dX8_plant_65 ?_
    obtain ⟨hin, hw⟩ := hw
    refine va_iast hx hb hK hP hD hS 4 0 rfl rfl hin dX8_plant_66 (fun H locs hP hD hS => ?_)
    have hP : va_P D vwCl [((rf 0), o8 rf f_terms f_runs f_leftAbove f_leftBelow f_rightAbove f_rightBelow f_listed f_fed f_read f_formed f_hasSnapshot), ((rf 1), ai cI 8 f_above), ((rf 2), ai cI 8 f_below), ((rf 25), ai cI 5 (upd f_kindOf v1.toNatClampNeg v2)), ((rf 26), ai cI 5 (upd f_nodeAbove v1.toNatClampNeg (f_above v3.toNatClampNeg))), ((rf 27), ai cI 5 f_nodeBelow)] H := hP
    have hD : va_D A [((rf 0), o8 rf f_terms f_runs f_leftAbove f_leftBelow f_rightAbove f_rightBelow f_listed f_fed f_read f_formed f_hasSnapshot), ((rf 1), ai cI 8 f_above), ((rf 2), ai cI 8 f_below), ((rf 25), ai cI 5 (upd f_kindOf v1.toNatClampNeg v2)), ((rf 26), ai cI 5 (upd f_nodeAbove v1.toNatClampNeg (f_above v3.toNatClampNeg))), ((rf 27), ai cI 5 f_nodeBelow)] := hD
    refine lv_aload_n hx hb dX8_plant_67 rfl (lv_at hl 1 rfl) ?_
    refine va_get (D := D) (ci := 8) (v := .ref (rf 27)) (C := RX8) (T := TX8) (N := 35) hx hb hts hi9 hown hK hP 0 rfl rfl 26 (by decide) g91 (fun _ h9 => h9) rfl dX8_plant_68 ?_
    refine lv_iload_n hx hb dX8_plant_71 rfl (lv_at hl 2 rfl) ?_
    refine lv_aload_n hx hb dX8_plant_72 rfl (lv_at hl 1 rfl) ?_
    refine va_get (D := D) (ci := 8) (v := .ref (rf 2)) (C := RX8) (T := TX8) (N := 35) hx hb hts hi9 hown hK hP 0 rfl rfl 1 (by decide) g13 (fun _ h9 => h9) rfl dX8_plant_73 ?_
    refine lv_iload_n hx hb dX8_plant_76 rfl (lv_at hl 4 rfl) ?_
    obtain ⟨hin, hw⟩ := hw
    refine va_iald hx hb hK hP 2 0 rfl rfl hin dX8_plant_77 ?_
    obtain ⟨hin, hw⟩ := hw
    refine va_iast hx hb hK hP hD hS 5 0 rfl rfl hin dX8_plant_78 (fun H locs hP hD hS => ?_)
    have hP : va_P D vwCl [((rf 0), o8 rf f_terms f_runs f_leftAbove f_leftBelow f_rightAbove f_rightBelow f_listed f_fed f_read f_formed f_hasSnapshot), ((rf 1), ai cI 8 f_above), ((rf 2), ai cI 8 f_below), ((rf 25), ai cI 5 (upd f_kindOf v1.toNatClampNeg v2)), ((rf 26), ai cI 5 (upd f_nodeAbove v1.toNatClampNeg (f_above v3.toNatClampNeg))), ((rf 27), ai cI 5 (upd f_nodeBelow v1.toNatClampNeg (f_below v3.toNatClampNeg)))] H := hP
    have hD : va_D A [((rf 0), o8 rf f_terms f_runs f_leftAbove f_leftBelow f_rightAbove f_rightBelow f_listed f_fed f_read f_formed f_hasSnapshot), ((rf 1), ai cI 8 f_above), ((rf 2), ai cI 8 f_below), ((rf 25), ai cI 5 (upd f_kindOf v1.toNatClampNeg v2)), ((rf 26), ai cI 5 (upd f_nodeAbove v1.toNatClampNeg (f_above v3.toNatClampNeg))), ((rf 27), ai cI 5 (upd f_nodeBelow v1.toNatClampNeg (f_below v3.toNatClampNeg)))] := hD
    refine lv_iload hx hb dX8_plant_79 (lv_at hl 0 rfl) ?_
    exact RET _ _ _ ((upd f_kindOf v1.toNatClampNeg v2), (upd f_nodeAbove v1.toNatClampNeg (f_above v3.toNatClampNeg)), (upd f_nodeBelow v1.toNatClampNeg (f_below v3.toNatClampNeg))) _ _ hw hP hD hS dX8_plant_81
  refine lv_aload_n hx hb dX8_plant_0 rfl (lv_at hl 0 rfl) ?_
  refine lv_iload_n hx hb dX8_plant_1 rfl (lv_at hl 1 rfl) ?_
  refine kcRI (wc := [((rf 0), o8 rf f_terms f_runs f_leftAbove f_leftBelow f_rightAbove f_rightBelow f_listed f_fed f_read f_formed f_hasSnapshot)]) hP [0] rfl (fun hPc => oV (As := [.int v1]) (rest := []) C0 hK hN (c8_isSlot l D cI cJ cN cR rf f_terms f_runs f_leftAbove f_leftBelow f_rightAbove f_rightBelow f_listed f_fed f_read f_formed f_hasSnapshot v1 _ hw) 1 gX8_plant_X8_isSlot rfl ⟨rfl, rfl⟩ nm8_isSlot ⟨Nat.le_of_ble_eq_true rfl, Nat.le_of_ble_eq_true rfl⟩ (q0 := 0) rfl rfl rfl rfl hl.1 rfl (Nat.le_of_ble_eq_true rfl) dX8_plant_2 ⟨Nat.le_of_ble_eq_true rfl, Nat.le_of_ble_eq_true rfl⟩ hPc) (fun r2 hw => ?_)
  obtain ⟨nb2, hw⟩ := hw
  refine lv_if_eq (tgt := 30) hx hb dX8_plant_5 (by decide) (fun k => ?_) (fun k => ?_)
  · have hw := hw.1 k
    refine lv_iconst (v := (-1 : Int32)) hx hb dX8_plant_30 (by decide) ?_
    exact RET _ _ _ (f_kindOf, f_nodeAbove, f_nodeBelow) _ _ hw hP hD hS dX8_plant_31
  · have hw := hw.2 k
    refine lv_iload_n hx hb dX8_plant_8 rfl (lv_at hl 2 rfl) ?_
    refine lv_i2l hx hb dX8_plant_9 rfl ?_
    refine lv_ldc2 (v := (-1 : Int64)) hx hb hown (hts (.constantLong RX8 231 (-1)) (by decide +kernel)) dX8_plant_10 ?_
    refine lv_ldc2 (v := (4 : Int64)) hx hb hown (hts (.constantLong RX8 143 (4)) (by decide +kernel)) dX8_plant_13 ?_
    refine kcRI (wc := []) hP [] rfl (fun hPc => oS (As := [.long v2.toInt64, .long (-1 : Int64), .long (4 : Int64)]) (rest := []) C0 hK hN (c8_within l D cI cJ cN cR   v2.toInt64 (-1 : Int64) (4 : Int64) _ hw) 3 gX8_plant_X8_within rfl ⟨rfl, rfl⟩ nm8_within ⟨Nat.le_of_ble_eq_true rfl, Nat.le_of_ble_eq_true rfl⟩ rfl hl.1 rfl (Nat.le_of_ble_eq_true rfl) dX8_plant_16 ⟨Nat.le_of_ble_eq_true rfl, Nat.le_of_ble_eq_true rfl⟩ hPc) (fun r16 hw => ?_)
    obtain ⟨nb16, hw⟩ := hw
    refine lv_if_eq (tgt := 30) hx hb dX8_plant_19 (by decide) (fun k => ?_) (fun k => ?_)
    · have hw := hw.1 k
      refine lv_iconst (v := (-1 : Int32)) hx hb dX8_plant_30 (by decide) ?_
      exact RET _ _ _ (f_kindOf, f_nodeAbove, f_nodeBelow) _ _ hw hP hD hS dX8_plant_31
    · have hw := hw.2 k
      refine lv_aload_n hx hb dX8_plant_22 rfl (lv_at hl 0 rfl) ?_
      refine lv_iload_n hx hb dX8_plant_23 rfl (lv_at hl 3 rfl) ?_
      refine kcRI (wc := [((rf 0), o8 rf f_terms f_runs f_leftAbove f_leftBelow f_rightAbove f_rightBelow f_listed f_fed f_read f_formed f_hasSnapshot)]) hP [0] rfl (fun hPc => oV (As := [.int v3]) (rest := []) C0 hK hN (c8_isRegister l D cI cJ cN cR rf f_terms f_runs f_leftAbove f_leftBelow f_rightAbove f_rightBelow f_listed f_fed f_read f_formed f_hasSnapshot v3 _ hw) 1 gX8_plant_X8_isRegister rfl ⟨rfl, rfl⟩ nm8_isRegister ⟨Nat.le_of_ble_eq_true rfl, Nat.le_of_ble_eq_true rfl⟩ (q0 := 0) rfl rfl rfl rfl hl.1 rfl (Nat.le_of_ble_eq_true rfl) dX8_plant_24 ⟨Nat.le_of_ble_eq_true rfl, Nat.le_of_ble_eq_true rfl⟩ hPc) (fun r24 hw => ?_)
      obtain ⟨nb24, hw⟩ := hw
      refine lv_if_ne (tgt := 32) hx hb dX8_plant_27 (by decide) (fun k => ?_) (fun k => ?_)
      · have hw := hw.1 k
        refine lv_aload_n hx hb dX8_plant_32 rfl (lv_at hl 0 rfl) ?_
        refine va_get (D := D) (ci := 8) (v := .ref (rf 25)) (C := RX8) (T := TX8) (N := 35) hx hb hts hi9 hown hK hP 0 rfl rfl 24 (by decide) g85 (fun _ h9 => h9) rfl dX8_plant_33 ?_
        refine lv_iload_n hx hb dX8_plant_36 rfl (lv_at hl 1 rfl) ?_
        obtain ⟨hin, hw⟩ := hw
        refine va_iald hx hb hK hP 3 0 rfl rfl hin dX8_plant_37 ?_
        refine lv_if_lt (tgt := 45) hx hb dX8_plant_38 (by decide) (fun k => ?_) (fun k => ?_)
        · have hw := hw.1 k
          refine lv_iconst (v := (0 : Int32)) hx hb dX8_plant_45 (by decide) ?_
          exact JOIN_46 f_kindOf f_nodeAbove f_nodeBelow (0 : Int32) _ _ ls hw hP hD hS (lv_sub hl [0, 1, 2, 3] rfl)
        · have hw := hw.2 k
          refine lv_iconst (v := (1 : Int32)) hx hb dX8_plant_41 (by decide) ?_
          refine lv_goto (tgt := 46) hx hb dX8_plant_42 (by decide) ?_
          exact JOIN_46 f_kindOf f_nodeAbove f_nodeBelow (1 : Int32) _ _ ls hw hP hD hS (lv_sub hl [0, 1, 2, 3] rfl)
      · have hw := hw.2 k
        refine lv_iconst (v := (-1 : Int32)) hx hb dX8_plant_30 (by decide) ?_
        exact RET _ _ _ (f_kindOf, f_nodeAbove, f_nodeBelow) _ _ hw hP hD hS dX8_plant_31
abbrev rm8_grow : Room := { frames := 0, cells := 0, slots := 0, locals := 0 }
theorem nm8_grow : kNm yX8_grow 2 := by decide +kernel
set_option maxHeartbeats 4000000 in
set_option maxRecDepth 100000 in
theorem c8_grow (l : Launch) (D : va_G) (cI cJ cN cR : ClassId) (rf : Nat → Nat) (f_terms : Int32) (f_runs : Int32) (f_leftAbove : Int64) (f_leftBelow : Int64) (f_rightAbove : Int64) (f_rightBelow : Int64) (f_listed : Int32) (f_fed : Int32) (f_read : Int32) (f_formed : Int32) (f_hasSnapshot : Int32) (f_kindOf : (Nat → Int32)) (f_nodeAbove : (Nat → Int32)) (v1 : Int32) (v2 : Int32) (post : Int32 → Prop) (hw : w8_grow f_kindOf f_nodeAbove v1 v2 post) : Met l yX8_grow wsX8_grow rm8_grow (kR D (kT cI cJ cN cR) [.ref (rf 0), .int v1, .int v2] [((rf 0), o8 rf f_terms f_runs f_leftAbove f_leftBelow f_rightAbove f_rightBelow f_listed f_fed f_read f_formed f_hasSnapshot), ((rf 25), ai cI 5 f_kindOf), ((rf 26), ai cI 5 f_nodeAbove)]) (vp_Si post) 0 0 (fun _ => False) := by
  refine kMetRI (cc := cX8_grow) (maxL := 3) (by decide +kernel) rfl (Nat.le_of_ble_eq_true rfl) ?_
  intro p e s m args below meth c H ls Q C0 hK hN hP hl RET
  obtain ⟨hx, hb, hml, hown, hts⟩ := id C0
  have hl : lv_has ls 3 [(0, .ref (rf 0)), (1, .int v1), (2, .int v2)] := hl
  have g85 := hts (.fieldLink RX8 85 "SternBrocotExplorerModel" "kindOf" "[I") (by decide +kernel)
  have g88 := hts (.fieldLink RX8 88 "SternBrocotExplorerModel" "nodeAbove" "[I") (by decide +kernel)
  have hi9 : ∀ w ∈ wsX80, w ∈ wsX8_grow := fun w h => List.mem_cons_of_mem _ (List.mem_append_right _ h)
  unfold w8_grow at hw
  refine lv_aload_n hx hb dX8_grow_0 rfl (lv_at hl 0 rfl) ?_
  refine va_get (D := D) (ci := 8) (v := .ref (rf 25)) (C := RX8) (T := TX8) (N := 35) hx hb hts hi9 hown hK hP 0 rfl rfl 24 (by decide) g85 (fun _ h9 => h9) rfl dX8_grow_1 ?_
  refine lv_iload_n hx hb dX8_grow_4 rfl (lv_at hl 1 rfl) ?_
  obtain ⟨hin, hw⟩ := hw
  refine va_iald hx hb hK hP 1 0 rfl rfl hin dX8_grow_5 ?_
  refine lv_topi (fun x6 ex6 => ?_)
  have hw := hw x6 ex6
  by_cases ho : x6.toInt < 1 ∨ 4 < x6.toInt
  · have hw := hw.1 ho
    refine lv_tableOut (tgt := 70) hx hb dX8_grow_6 ho (by decide) ?_
    refine lv_iload_n hx hb dX8_grow_70 rfl (lv_at hl 2 rfl) ?_
    refine lv_aload_n hx hb dX8_grow_71 rfl (lv_at hl 0 rfl) ?_
    refine va_get (D := D) (ci := 8) (v := .ref (rf 26)) (C := RX8) (T := TX8) (N := 35) hx hb hts hi9 hown hK hP 0 rfl rfl 25 (by decide) g88 (fun _ h9 => h9) rfl dX8_grow_72 ?_
    refine lv_iload_n hx hb dX8_grow_75 rfl (lv_at hl 1 rfl) ?_
    obtain ⟨hin, hw⟩ := hw
    refine va_iald hx hb hK hP 2 0 rfl rfl hin dX8_grow_76 ?_
    refine lv_iadd hx hb dX8_grow_77 ?_
    exact RET _ _ _ hw dX8_grow_78
  rcases (show x6.toInt = 1 ∨ x6.toInt = 2 ∨ x6.toInt = 3 ∨ x6.toInt = 4 by omega) with h9 | h9 | h9 | h9
  · have hw := hw.2.1 (Int32.toInt_inj.mp (h9.trans (by decide)))
    refine lv_tableIn (tgt := 36) hx hb dX8_grow_6 (by rw [h9]; decide) (by rw [h9]; decide) (by rw [h9]; rfl) (by decide) ?_
    refine lv_iload_n hx hb dX8_grow_36 rfl (lv_at hl 2 rfl) ?_
    refine lv_iconst (v := (2 : Int32)) hx hb dX8_grow_37 (by decide) ?_
    refine lv_imul hx hb dX8_grow_38 ?_
    refine lv_aload_n hx hb dX8_grow_39 rfl (lv_at hl 0 rfl) ?_
    refine va_get (D := D) (ci := 8) (v := .ref (rf 26)) (C := RX8) (T := TX8) (N := 35) hx hb hts hi9 hown hK hP 0 rfl rfl 25 (by decide) g88 (fun _ h9 => h9) rfl dX8_grow_40 ?_
    refine lv_iload_n hx hb dX8_grow_43 rfl (lv_at hl 1 rfl) ?_
    obtain ⟨hin, hw⟩ := hw
    refine va_iald hx hb hK hP 2 0 rfl rfl hin dX8_grow_44 ?_
    refine lv_iadd hx hb dX8_grow_45 ?_
    exact RET _ _ _ hw dX8_grow_46
  · have hw := hw.2.2.1 (Int32.toInt_inj.mp (h9.trans (by decide)))
    refine lv_tableIn (tgt := 36) hx hb dX8_grow_6 (by rw [h9]; decide) (by rw [h9]; decide) (by rw [h9]; rfl) (by decide) ?_
    refine lv_iload_n hx hb dX8_grow_36 rfl (lv_at hl 2 rfl) ?_
    refine lv_iconst (v := (2 : Int32)) hx hb dX8_grow_37 (by decide) ?_
    refine lv_imul hx hb dX8_grow_38 ?_
    refine lv_aload_n hx hb dX8_grow_39 rfl (lv_at hl 0 rfl) ?_
    refine va_get (D := D) (ci := 8) (v := .ref (rf 26)) (C := RX8) (T := TX8) (N := 35) hx hb hts hi9 hown hK hP 0 rfl rfl 25 (by decide) g88 (fun _ h9 => h9) rfl dX8_grow_40 ?_
    refine lv_iload_n hx hb dX8_grow_43 rfl (lv_at hl 1 rfl) ?_
    obtain ⟨hin, hw⟩ := hw
    refine va_iald hx hb hK hP 2 0 rfl rfl hin dX8_grow_44 ?_
    refine lv_iadd hx hb dX8_grow_45 ?_
    exact RET _ _ _ hw dX8_grow_46
  · have hw := hw.2.2.2.1 (Int32.toInt_inj.mp (h9.trans (by decide)))
    refine lv_tableIn (tgt := 47) hx hb dX8_grow_6 (by rw [h9]; decide) (by rw [h9]; decide) (by rw [h9]; rfl) (by decide) ?_
    refine lv_iload_n hx hb dX8_grow_47 rfl (lv_at hl 2 rfl) ?_
    refine lv_iconst (v := (2 : Int32)) hx hb dX8_grow_48 (by decide) ?_
    refine lv_imul hx hb dX8_grow_49 ?_
    refine lv_aload_n hx hb dX8_grow_50 rfl (lv_at hl 0 rfl) ?_
    refine va_get (D := D) (ci := 8) (v := .ref (rf 26)) (C := RX8) (T := TX8) (N := 35) hx hb hts hi9 hown hK hP 0 rfl rfl 25 (by decide) g88 (fun _ h9 => h9) rfl dX8_grow_51 ?_
    refine lv_iload_n hx hb dX8_grow_54 rfl (lv_at hl 1 rfl) ?_
    obtain ⟨hin, hw⟩ := hw
    refine va_iald hx hb hK hP 2 0 rfl rfl hin dX8_grow_55 ?_
    refine lv_iadd hx hb dX8_grow_56 ?_
    refine lv_iconst (v := (5 : Int32)) hx hb dX8_grow_57 (by decide) ?_
    refine lv_ixor hx hb dX8_grow_58 ?_
    exact RET _ _ _ hw dX8_grow_59
  · have hw := hw.2.2.2.2 (Int32.toInt_inj.mp (h9.trans (by decide)))
    refine lv_tableIn (tgt := 60) hx hb dX8_grow_6 (by rw [h9]; decide) (by rw [h9]; decide) (by rw [h9]; rfl) (by decide) ?_
    refine lv_iload_n hx hb dX8_grow_60 rfl (lv_at hl 2 rfl) ?_
    refine lv_aload_n hx hb dX8_grow_61 rfl (lv_at hl 0 rfl) ?_
    refine va_get (D := D) (ci := 8) (v := .ref (rf 26)) (C := RX8) (T := TX8) (N := 35) hx hb hts hi9 hown hK hP 0 rfl rfl 25 (by decide) g88 (fun _ h9 => h9) rfl dX8_grow_62 ?_
    refine lv_iload_n hx hb dX8_grow_65 rfl (lv_at hl 1 rfl) ?_
    obtain ⟨hin, hw⟩ := hw
    refine va_iald hx hb hK hP 2 0 rfl rfl hin dX8_grow_66 ?_
    refine lv_iadd hx hb dX8_grow_67 ?_
    refine lv_ineg hx hb dX8_grow_68 ?_
    exact RET _ _ _ hw dX8_grow_69
abbrev rm8_bend : Room := { frames := 1, cells := 0, slots := 0, locals := 22 }
theorem nm8_bend : kNm yX8_bend 2 := by decide +kernel
set_option maxHeartbeats 4000000 in
set_option maxRecDepth 100000 in
theorem c8_bend (l : Launch) (D : va_G) (cI cJ cN cR : ClassId) (rf : Nat → Nat) (f_terms : Int32) (f_runs : Int32) (f_leftAbove : Int64) (f_leftBelow : Int64) (f_rightAbove : Int64) (f_rightBelow : Int64) (f_listed : Int32) (f_fed : Int32) (f_read : Int32) (f_formed : Int32) (f_hasSnapshot : Int32) (f_kindOf : (Nat → Int32)) (f_nodeAbove : (Nat → Int32)) (f_nodeBelow : (Nat → Int32)) (v1 : Int32) (v2 : Int32) (post : Int32 → Prop) (hw : w8_bend f_kindOf f_nodeAbove f_nodeBelow v1 v2 post) : Met l yX8_bend wsX8_bend rm8_bend (kR D (kT cI cJ cN cR) [.ref (rf 0), .int v1, .int v2] [((rf 0), o8 rf f_terms f_runs f_leftAbove f_leftBelow f_rightAbove f_rightBelow f_listed f_fed f_read f_formed f_hasSnapshot), ((rf 25), ai cI 5 f_kindOf), ((rf 26), ai cI 5 f_nodeAbove), ((rf 27), ai cI 5 f_nodeBelow)]) (vp_Si post) 0 0 (fun _ => False) := by
  refine kMetRI (cc := cX8_bend) (maxL := 4) (by decide +kernel) rfl (Nat.le_of_ble_eq_true rfl) ?_
  intro p e s m args below meth c H ls Q C0 hK hN hP hl RET
  obtain ⟨hx, hb, hml, hown, hts⟩ := id C0
  have hl : lv_has ls 4 [(0, .ref (rf 0)), (1, .int v1), (2, .int v2)] := hl
  have g85 := hts (.fieldLink RX8 85 "SternBrocotExplorerModel" "kindOf" "[I") (by decide +kernel)
  have g91 := hts (.fieldLink RX8 91 "SternBrocotExplorerModel" "nodeBelow" "[I") (by decide +kernel)
  have hi9 : ∀ w ∈ wsX80, w ∈ wsX8_bend := fun w h => List.mem_cons_of_mem _ (List.mem_append_right _ h)
  unfold w8_bend at hw
  have JOIN_22 : ∀ (s0 : Int32) (s1 : Int32) (ls : Array Slot), w8_bend_J22 f_kindOf f_nodeAbove f_nodeBelow v1 s0 s1 post → lv_has ls 4 [(0, .ref (rf 0)), (1, .int v1)] → W p l e rm8_bend s m args below meth c H [] 0 0 Q (F0 m 22 ls [.int s0, .int s1, .ref (rf 0)]) := by
    intro s0 s1 ls hw hl
    unfold w8_bend_J22 at hw
    refine kcRI (wc := [((rf 0), o8 rf f_terms f_runs f_leftAbove f_leftBelow f_rightAbove f_rightBelow f_listed f_fed f_read f_formed f_hasSnapshot), ((rf 25), ai cI 5 f_kindOf), ((rf 26), ai cI 5 f_nodeAbove)]) hP [0, 1, 2] rfl (fun hPc => oV (As := [.int s1, .int s0]) (rest := []) C0 hK hN (c8_grow l D cI cJ cN cR rf f_terms f_runs f_leftAbove f_leftBelow f_rightAbove f_rightBelow f_listed f_fed f_read f_formed f_hasSnapshot f_kindOf f_nodeAbove s1 s0 _ hw) 2 gX8_bend_X8_grow rfl ⟨rfl, rfl⟩ nm8_grow ⟨Nat.le_of_ble_eq_true rfl, Nat.le_of_ble_eq_true rfl⟩ (q0 := 0) rfl rfl rfl rfl hl.1 rfl (Nat.le_of_ble_eq_true rfl) dX8_bend_22 ⟨Nat.le_of_ble_eq_true rfl, Nat.le_of_ble_eq_true rfl⟩ hPc) (fun r22 hw => ?_)
    refine lv_iconst (v := (3 : Int32)) hx hb dX8_bend_25 (by decide) ?_
    refine lv_imul hx hb dX8_bend_26 ?_
    refine lv_aload_n hx hb dX8_bend_27 rfl (lv_at hl 0 rfl) ?_
    refine va_get (D := D) (ci := 8) (v := .ref (rf 27)) (C := RX8) (T := TX8) (N := 35) hx hb hts hi9 hown hK hP 0 rfl rfl 26 (by decide) g91 (fun _ h9 => h9) rfl dX8_bend_28 ?_
    refine lv_iload_n hx hb dX8_bend_31 rfl (lv_at hl 1 rfl) ?_
    obtain ⟨hin, hw⟩ := hw
    refine va_iald hx hb hK hP 3 0 rfl rfl hin dX8_bend_32 ?_
    refine lv_isub hx hb dX8_bend_33 ?_
    refine lv_topi (fun x34 ex34 => ?_)
    have hw := hw x34 ex34
    refine lv_istore_n (lv' := [(3, .int x34), (0, .ref (rf 0)), (1, .int v1)]) hx hb dX8_bend_34 rfl hl (by decide) rfl (fun ls hl => ?_)
    refine lv_aload_n hx hb dX8_bend_35 rfl (lv_at hl 1 rfl) ?_
    refine va_get (D := D) (ci := 8) (v := .ref (rf 25)) (C := RX8) (T := TX8) (N := 35) hx hb hts hi9 hown hK hP 0 rfl rfl 24 (by decide) g85 (fun _ h9 => h9) rfl dX8_bend_36 ?_
    refine lv_iload_n hx hb dX8_bend_39 rfl (lv_at hl 2 rfl) ?_
    obtain ⟨hin, hw⟩ := hw
    refine va_iald hx hb hK hP 1 0 rfl rfl hin dX8_bend_40 ?_
    refine lv_iconst (v := (2 : Int32)) hx hb dX8_bend_41 (by decide) ?_
    refine lv_icmp_eq (tgt := 55) hx hb dX8_bend_42 (by decide) (fun k => ?_) (fun k => ?_)
    · have hw := hw.1 k
      refine lv_iload_n hx hb dX8_bend_55 rfl (lv_at hl 0 rfl) ?_
      refine lv_aload_n hx hb dX8_bend_56 rfl (lv_at hl 1 rfl) ?_
      refine va_get (D := D) (ci := 8) (v := .ref (rf 27)) (C := RX8) (T := TX8) (N := 35) hx hb hts hi9 hown hK hP 0 rfl rfl 26 (by decide) g91 (fun _ h9 => h9) rfl dX8_bend_57 ?_
      refine lv_iload_n hx hb dX8_bend_60 rfl (lv_at hl 2 rfl) ?_
      obtain ⟨hin, hw⟩ := hw
      refine va_iald hx hb hK hP 3 0 rfl rfl hin dX8_bend_61 ?_
      refine lv_iadd hx hb dX8_bend_62 ?_
      refine lv_goto (tgt := 67) hx hb dX8_bend_63 (by decide) ?_
      exact RET _ _ _ hw dX8_bend_67
    · have hw := hw.2 k
      refine lv_aload_n hx hb dX8_bend_45 rfl (lv_at hl 1 rfl) ?_
      refine va_get (D := D) (ci := 8) (v := .ref (rf 25)) (C := RX8) (T := TX8) (N := 35) hx hb hts hi9 hown hK hP 0 rfl rfl 24 (by decide) g85 (fun _ h9 => h9) rfl dX8_bend_46 ?_
      refine lv_iload_n hx hb dX8_bend_49 rfl (lv_at hl 2 rfl) ?_
      obtain ⟨hin, hw⟩ := hw
      refine va_iald hx hb hK hP 1 0 rfl rfl hin dX8_bend_50 ?_
      refine lv_iconst (v := (3 : Int32)) hx hb dX8_bend_51 (by decide) ?_
      refine lv_icmp_ne (tgt := 66) hx hb dX8_bend_52 (by decide) (fun k => ?_) (fun k => ?_)
      · have hw := hw.1 k
        refine lv_iload_n hx hb dX8_bend_66 rfl (lv_at hl 0 rfl) ?_
        exact RET _ _ _ hw dX8_bend_67
      · have hw := hw.2 k
        refine lv_iload_n hx hb dX8_bend_55 rfl (lv_at hl 0 rfl) ?_
        refine lv_aload_n hx hb dX8_bend_56 rfl (lv_at hl 1 rfl) ?_
        refine va_get (D := D) (ci := 8) (v := .ref (rf 27)) (C := RX8) (T := TX8) (N := 35) hx hb hts hi9 hown hK hP 0 rfl rfl 26 (by decide) g91 (fun _ h9 => h9) rfl dX8_bend_57 ?_
        refine lv_iload_n hx hb dX8_bend_60 rfl (lv_at hl 2 rfl) ?_
        obtain ⟨hin, hw⟩ := hw
        refine va_iald hx hb hK hP 3 0 rfl rfl hin dX8_bend_61 ?_
        refine lv_iadd hx hb dX8_bend_62 ?_
        refine lv_goto (tgt := 67) hx hb dX8_bend_63 (by decide) ?_
        exact RET _ _ _ hw dX8_bend_67
  refine lv_aload_n hx hb dX8_bend_0 rfl (lv_at hl 0 rfl) ?_
  refine lv_iload_n hx hb dX8_bend_1 rfl (lv_at hl 1 rfl) ?_
  refine lv_aload_n hx hb dX8_bend_2 rfl (lv_at hl 0 rfl) ?_
  refine va_get (D := D) (ci := 8) (v := .ref (rf 25)) (C := RX8) (T := TX8) (N := 35) hx hb hts hi9 hown hK hP 0 rfl rfl 24 (by decide) g85 (fun _ h9 => h9) rfl dX8_bend_3 ?_
  refine lv_iload_n hx hb dX8_bend_6 rfl (lv_at hl 1 rfl) ?_
  obtain ⟨hin, hw⟩ := hw
  refine va_iald hx hb hK hP 1 0 rfl rfl hin dX8_bend_7 ?_
  refine lv_iconst (v := (3 : Int32)) hx hb dX8_bend_8 (by decide) ?_
  refine lv_icmp_ne (tgt := 21) hx hb dX8_bend_9 (by decide) (fun k => ?_) (fun k => ?_)
  · have hw := hw.1 k
    refine lv_iload_n hx hb dX8_bend_21 rfl (lv_at hl 2 rfl) ?_
    exact JOIN_22 v2 v1 ls hw (lv_sub hl [0, 1] rfl)
  · have hw := hw.2 k
    refine lv_aload_n hx hb dX8_bend_12 rfl (lv_at hl 0 rfl) ?_
    refine lv_iload_n hx hb dX8_bend_13 rfl (lv_at hl 1 rfl) ?_
    refine lv_iload_n hx hb dX8_bend_14 rfl (lv_at hl 2 rfl) ?_
    refine kcRI (wc := [((rf 0), o8 rf f_terms f_runs f_leftAbove f_leftBelow f_rightAbove f_rightBelow f_listed f_fed f_read f_formed f_hasSnapshot), ((rf 25), ai cI 5 f_kindOf), ((rf 26), ai cI 5 f_nodeAbove)]) hP [0, 1, 2] rfl (fun hPc => oV (As := [.int v1, .int v2]) (rest := [.int v1, .ref (rf 0)]) C0 hK hN (c8_grow l D cI cJ cN cR rf f_terms f_runs f_leftAbove f_leftBelow f_rightAbove f_rightBelow f_listed f_fed f_read f_formed f_hasSnapshot f_kindOf f_nodeAbove v1 v2 _ hw) 2 gX8_bend_X8_grow rfl ⟨rfl, rfl⟩ nm8_grow ⟨Nat.le_of_ble_eq_true rfl, Nat.le_of_ble_eq_true rfl⟩ (q0 := 0) rfl rfl rfl rfl hl.1 rfl (Nat.le_of_ble_eq_true rfl) dX8_bend_15 ⟨Nat.le_of_ble_eq_true rfl, Nat.le_of_ble_eq_true rfl⟩ hPc) (fun r15 hw => ?_)
    refine lv_goto (tgt := 22) hx hb dX8_bend_18 (by decide) ?_
    exact JOIN_22 r15 v1 ls hw (lv_sub hl [0, 1] rfl)
abbrev rm8_operate : Room := { frames := 2, cells := 0, slots := 0, locals := 46 }
theorem nm8_operate : kNm yX8_operate 3 := by decide +kernel
set_option maxHeartbeats 4000000 in
set_option maxRecDepth 100000 in
theorem c8_operate (l : Launch) (D : va_G) (cI cJ cN cR : ClassId) (rf : Nat → Nat) (f_terms : Int32) (f_runs : Int32) (f_leftAbove : Int64) (f_leftBelow : Int64) (f_rightAbove : Int64) (f_rightBelow : Int64) (f_listed : Int32) (f_fed : Int32) (f_read : Int32) (f_formed : Int32) (f_hasSnapshot : Int32) (f_kindOf : (Nat → Int32)) (f_nodeAbove : (Nat → Int32)) (f_nodeBelow : (Nat → Int32)) (v1 : Int32) (v2 : Int32) (v3 : Int32) (post : Int32 → Prop) (hw : w8_operate f_kindOf f_nodeAbove f_nodeBelow v1 v2 v3 post) : Met l yX8_operate wsX8_operate rm8_operate (kR D (kT cI cJ cN cR) [.ref (rf 0), .int v1, .int v2, .int v3] [((rf 0), o8 rf f_terms f_runs f_leftAbove f_leftBelow f_rightAbove f_rightBelow f_listed f_fed f_read f_formed f_hasSnapshot), ((rf 25), ai cI 5 f_kindOf), ((rf 26), ai cI 5 f_nodeAbove), ((rf 27), ai cI 5 f_nodeBelow)]) (vp_Si post) 0 0 (fun _ => False) := by
  refine kMetRI (cc := cX8_operate) (maxL := 4) (by decide +kernel) rfl (Nat.le_of_ble_eq_true rfl) ?_
  intro p e s m args below meth c H ls Q C0 hK hN hP hl RET
  obtain ⟨hx, hb, hml, hown, hts⟩ := id C0
  have hl : lv_has ls 4 [(0, .ref (rf 0)), (1, .int v1), (2, .int v2), (3, .int v3)] := hl
  have g85 := hts (.fieldLink RX8 85 "SternBrocotExplorerModel" "kindOf" "[I") (by decide +kernel)
  have hi9 : ∀ w ∈ wsX80, w ∈ wsX8_operate := fun w h => List.mem_cons_of_mem _ (List.mem_append_right _ h)
  unfold w8_operate at hw
  refine lv_aload_n hx hb dX8_operate_0 rfl (lv_at hl 0 rfl) ?_
  refine lv_iload_n hx hb dX8_operate_1 rfl (lv_at hl 1 rfl) ?_
  refine kcRI (wc := [((rf 0), o8 rf f_terms f_runs f_leftAbove f_leftBelow f_rightAbove f_rightBelow f_listed f_fed f_read f_formed f_hasSnapshot)]) hP [0] rfl (fun hPc => oV (As := [.int v1]) (rest := []) C0 hK hN (c8_isSlot l D cI cJ cN cR rf f_terms f_runs f_leftAbove f_leftBelow f_rightAbove f_rightBelow f_listed f_fed f_read f_formed f_hasSnapshot v1 _ hw) 1 gX8_operate_X8_isSlot rfl ⟨rfl, rfl⟩ nm8_isSlot ⟨Nat.le_of_ble_eq_true rfl, Nat.le_of_ble_eq_true rfl⟩ (q0 := 0) rfl rfl rfl rfl hl.1 rfl (Nat.le_of_ble_eq_true rfl) dX8_operate_2 ⟨Nat.le_of_ble_eq_true rfl, Nat.le_of_ble_eq_true rfl⟩ hPc) (fun r2 hw => ?_)
  obtain ⟨nb2, hw⟩ := hw
  refine lv_if_eq (tgt := 27) hx hb dX8_operate_5 (by decide) (fun k => ?_) (fun k => ?_)
  · have hw := hw.1 k
    refine lv_iconst (v := (0 : Int32)) hx hb dX8_operate_27 (by decide) ?_
    exact RET _ _ _ hw dX8_operate_28
  · have hw := hw.2 k
    refine lv_iload_n hx hb dX8_operate_8 rfl (lv_at hl 2 rfl) ?_
    refine lv_i2l hx hb dX8_operate_9 rfl ?_
    refine lv_lconst (v := (0 : Int64)) hx hb dX8_operate_10 (by decide) ?_
    refine lv_lconst (v := (1 : Int64)) hx hb dX8_operate_11 (by decide) ?_
    refine kcRI (wc := []) hP [] rfl (fun hPc => oS (As := [.long v2.toInt64, .long (0 : Int64), .long (1 : Int64)]) (rest := []) C0 hK hN (c8_within l D cI cJ cN cR   v2.toInt64 (0 : Int64) (1 : Int64) _ hw) 3 gX8_operate_X8_within rfl ⟨rfl, rfl⟩ nm8_within ⟨Nat.le_of_ble_eq_true rfl, Nat.le_of_ble_eq_true rfl⟩ rfl hl.1 rfl (Nat.le_of_ble_eq_true rfl) dX8_operate_12 ⟨Nat.le_of_ble_eq_true rfl, Nat.le_of_ble_eq_true rfl⟩ hPc) (fun r12 hw => ?_)
    obtain ⟨nb12, hw⟩ := hw
    refine lv_if_eq (tgt := 27) hx hb dX8_operate_15 (by decide) (fun k => ?_) (fun k => ?_)
    · have hw := hw.1 k
      refine lv_iconst (v := (0 : Int32)) hx hb dX8_operate_27 (by decide) ?_
      exact RET _ _ _ hw dX8_operate_28
    · have hw := hw.2 k
      refine lv_aload_n hx hb dX8_operate_18 rfl (lv_at hl 0 rfl) ?_
      refine va_get (D := D) (ci := 8) (v := .ref (rf 25)) (C := RX8) (T := TX8) (N := 35) hx hb hts hi9 hown hK hP 0 rfl rfl 24 (by decide) g85 (fun _ h9 => h9) rfl dX8_operate_19 ?_
      refine lv_iload_n hx hb dX8_operate_22 rfl (lv_at hl 1 rfl) ?_
      obtain ⟨hin, hw⟩ := hw
      refine va_iald hx hb hK hP 1 0 rfl rfl hin dX8_operate_23 ?_
      refine lv_if_ge (tgt := 29) hx hb dX8_operate_24 (by decide) (fun k => ?_) (fun k => ?_)
      · have hw := hw.1 k
        refine lv_iload_n hx hb dX8_operate_29 rfl (lv_at hl 2 rfl) ?_
        refine lv_if_ne (tgt := 42) hx hb dX8_operate_30 (by decide) (fun k => ?_) (fun k => ?_)
        · have hw := hw.1 k
          refine lv_aload_n hx hb dX8_operate_42 rfl (lv_at hl 0 rfl) ?_
          refine lv_iload_n hx hb dX8_operate_43 rfl (lv_at hl 1 rfl) ?_
          refine lv_iload_n hx hb dX8_operate_44 rfl (lv_at hl 3 rfl) ?_
          refine kcRI (wc := [((rf 0), o8 rf f_terms f_runs f_leftAbove f_leftBelow f_rightAbove f_rightBelow f_listed f_fed f_read f_formed f_hasSnapshot), ((rf 25), ai cI 5 f_kindOf), ((rf 26), ai cI 5 f_nodeAbove), ((rf 27), ai cI 5 f_nodeBelow)]) hP [0, 1, 2, 3] rfl (fun hPc => oV (As := [.int v1, .int v3]) (rest := []) C0 hK hN (c8_bend l D cI cJ cN cR rf f_terms f_runs f_leftAbove f_leftBelow f_rightAbove f_rightBelow f_listed f_fed f_read f_formed f_hasSnapshot f_kindOf f_nodeAbove f_nodeBelow v1 v3 _ hw) 2 gX8_operate_X8_bend rfl ⟨rfl, rfl⟩ nm8_bend ⟨Nat.le_of_ble_eq_true rfl, Nat.le_of_ble_eq_true rfl⟩ (q0 := 0) rfl rfl rfl rfl hl.1 rfl (Nat.le_of_ble_eq_true rfl) dX8_operate_45 ⟨Nat.le_of_ble_eq_true rfl, Nat.le_of_ble_eq_true rfl⟩ hPc) (fun r45 hw => ?_)
          exact RET _ _ _ hw dX8_operate_48
        · have hw := hw.2 k
          refine lv_aload_n hx hb dX8_operate_33 rfl (lv_at hl 0 rfl) ?_
          refine lv_iload_n hx hb dX8_operate_34 rfl (lv_at hl 1 rfl) ?_
          refine lv_iload_n hx hb dX8_operate_35 rfl (lv_at hl 3 rfl) ?_
          refine kcRI (wc := [((rf 0), o8 rf f_terms f_runs f_leftAbove f_leftBelow f_rightAbove f_rightBelow f_listed f_fed f_read f_formed f_hasSnapshot), ((rf 25), ai cI 5 f_kindOf), ((rf 26), ai cI 5 f_nodeAbove)]) hP [0, 1, 2] rfl (fun hPc => oV (As := [.int v1, .int v3]) (rest := []) C0 hK hN (c8_grow l D cI cJ cN cR rf f_terms f_runs f_leftAbove f_leftBelow f_rightAbove f_rightBelow f_listed f_fed f_read f_formed f_hasSnapshot f_kindOf f_nodeAbove v1 v3 _ hw) 2 gX8_operate_X8_grow rfl ⟨rfl, rfl⟩ nm8_grow ⟨Nat.le_of_ble_eq_true rfl, Nat.le_of_ble_eq_true rfl⟩ (q0 := 0) rfl rfl rfl rfl hl.1 rfl (Nat.le_of_ble_eq_true rfl) dX8_operate_36 ⟨Nat.le_of_ble_eq_true rfl, Nat.le_of_ble_eq_true rfl⟩ hPc) (fun r36 hw => ?_)
          refine lv_goto (tgt := 48) hx hb dX8_operate_39 (by decide) ?_
          exact RET _ _ _ hw dX8_operate_48
      · have hw := hw.2 k
        refine lv_iconst (v := (0 : Int32)) hx hb dX8_operate_27 (by decide) ?_
        exact RET _ _ _ hw dX8_operate_28
abbrev rm8_castNode : Room := { frames := 2, cells := 0, slots := 0, locals := 46 }
theorem nm8_castNode : kNm yX8_castNode 2 := by decide +kernel
set_option maxHeartbeats 4000000 in
set_option maxRecDepth 100000 in
theorem c8_castNode (l : Launch) (D : va_G) (cI cJ cN cR : ClassId) (rf : Nat → Nat) (f_terms : Int32) (f_runs : Int32) (f_leftAbove : Int64) (f_leftBelow : Int64) (f_rightAbove : Int64) (f_rightBelow : Int64) (f_listed : Int32) (f_fed : Int32) (f_read : Int32) (f_formed : Int32) (f_hasSnapshot : Int32) (f_kindOf : (Nat → Int32)) (v1 : Int32) (v2 : Int32) (post : Int32 → Prop) (hw : w8_castNode f_kindOf v1 v2 post) : Met l yX8_castNode wsX8_castNode rm8_castNode (kR D (kT cI cJ cN cR) [.ref (rf 0), .int v1, .int v2] [((rf 0), o8 rf f_terms f_runs f_leftAbove f_leftBelow f_rightAbove f_rightBelow f_listed f_fed f_read f_formed f_hasSnapshot), ((rf 25), ai cI 5 f_kindOf)]) (vp_Si post) 0 0 (fun _ => False) := by
  refine kMetRI (cc := cX8_castNode) (maxL := 5) (by decide +kernel) rfl (Nat.le_of_ble_eq_true rfl) ?_
  intro p e s m args below meth c H ls Q C0 hK hN hP hl RET
  obtain ⟨hx, hb, hml, hown, hts⟩ := id C0
  have hl : lv_has ls 5 [(0, .ref (rf 0)), (1, .int v1), (2, .int v2)] := hl
  have g85 := hts (.fieldLink RX8 85 "SternBrocotExplorerModel" "kindOf" "[I") (by decide +kernel)
  have hi9 : ∀ w ∈ wsX80, w ∈ wsX8_castNode := fun w h => List.mem_cons_of_mem _ (List.mem_append_right _ h)
  unfold w8_castNode at hw
  have JOIN_60 : ∀ (v3 : Int32) (ls : Array Slot), w8_castNode_J60 v2 v3 post → lv_has ls 5 [(2, .int v2), (3, .int v3)] → W p l e rm8_castNode s m args below meth c H [] 0 0 Q (F0 m 60 ls []) := by
    intro v3 ls hw hl
    unfold w8_castNode_J60 at hw
    refine lv_iload_n hx hb dX8_castNode_60 rfl (lv_at hl 0 rfl) ?_
    refine lv_iconst (v := (2 : Int32)) hx hb dX8_castNode_61 (by decide) ?_
    refine lv_icmp_ne (tgt := 74) hx hb dX8_castNode_62 (by decide) (fun k => ?_) (fun k => ?_)
    · have hw := hw.1 k
      refine lv_iconst (v := (0 : Int32)) hx hb dX8_castNode_74 (by decide) ?_
      refine lv_istore (lv' := [(4, .int (0 : Int32)), (2, .int v2), (3, .int v3)]) hx hb dX8_castNode_75 hl (by decide) rfl (fun ls hl => ?_)
      refine lv_iload hx hb dX8_castNode_77 (lv_at hl 0 rfl) ?_
      refine lv_if_eq (tgt := 86) hx hb dX8_castNode_79 (by decide) (fun k => ?_) (fun k => ?_)
      · have hw := hw.1 k
        refine lv_bipush (v := (-12 : Int32)) hx hb dX8_castNode_86 (by decide) ?_
        exact RET _ _ _ hw dX8_castNode_88
      · have hw := hw.2 k
        refine lv_iload_n hx hb dX8_castNode_82 rfl (lv_at hl 2 rfl) ?_
        refine lv_goto (tgt := 88) hx hb dX8_castNode_83 (by decide) ?_
        exact RET _ _ _ hw dX8_castNode_88
    · have hw := hw.2 k
      refine lv_iload_n hx hb dX8_castNode_65 rfl (lv_at hl 1 rfl) ?_
      refine lv_iconst (v := (3 : Int32)) hx hb dX8_castNode_66 (by decide) ?_
      refine lv_icmp_ne (tgt := 74) hx hb dX8_castNode_67 (by decide) (fun k => ?_) (fun k => ?_)
      · have hw := hw.1 k
        refine lv_iconst (v := (0 : Int32)) hx hb dX8_castNode_74 (by decide) ?_
        refine lv_istore (lv' := [(4, .int (0 : Int32)), (2, .int v2), (3, .int v3)]) hx hb dX8_castNode_75 hl (by decide) rfl (fun ls hl => ?_)
        refine lv_iload hx hb dX8_castNode_77 (lv_at hl 0 rfl) ?_
        refine lv_if_eq (tgt := 86) hx hb dX8_castNode_79 (by decide) (fun k => ?_) (fun k => ?_)
        · have hw := hw.1 k
          refine lv_bipush (v := (-12 : Int32)) hx hb dX8_castNode_86 (by decide) ?_
          exact RET _ _ _ hw dX8_castNode_88
        · have hw := hw.2 k
          refine lv_iload_n hx hb dX8_castNode_82 rfl (lv_at hl 2 rfl) ?_
          refine lv_goto (tgt := 88) hx hb dX8_castNode_83 (by decide) ?_
          exact RET _ _ _ hw dX8_castNode_88
      · have hw := hw.2 k
        refine lv_iconst (v := (1 : Int32)) hx hb dX8_castNode_70 (by decide) ?_
        refine lv_goto (tgt := 75) hx hb dX8_castNode_71 (by decide) ?_
        refine lv_istore (lv' := [(4, .int (1 : Int32)), (2, .int v2), (3, .int v3)]) hx hb dX8_castNode_75 hl (by decide) rfl (fun ls hl => ?_)
        refine lv_iload hx hb dX8_castNode_77 (lv_at hl 0 rfl) ?_
        refine lv_if_eq (tgt := 86) hx hb dX8_castNode_79 (by decide) (fun k => ?_) (fun k => ?_)
        · have hw := hw.1 k
          refine lv_bipush (v := (-12 : Int32)) hx hb dX8_castNode_86 (by decide) ?_
          exact RET _ _ _ hw dX8_castNode_88
        · have hw := hw.2 k
          refine lv_iload_n hx hb dX8_castNode_82 rfl (lv_at hl 2 rfl) ?_
          refine lv_goto (tgt := 88) hx hb dX8_castNode_83 (by decide) ?_
          exact RET _ _ _ hw dX8_castNode_88
  refine lv_aload_n hx hb dX8_castNode_0 rfl (lv_at hl 0 rfl) ?_
  refine lv_iload_n hx hb dX8_castNode_1 rfl (lv_at hl 1 rfl) ?_
  refine kcRI (wc := [((rf 0), o8 rf f_terms f_runs f_leftAbove f_leftBelow f_rightAbove f_rightBelow f_listed f_fed f_read f_formed f_hasSnapshot)]) hP [0] rfl (fun hPc => oV (As := [.int v1]) (rest := []) C0 hK hN (c8_isSlot l D cI cJ cN cR rf f_terms f_runs f_leftAbove f_leftBelow f_rightAbove f_rightBelow f_listed f_fed f_read f_formed f_hasSnapshot v1 _ hw) 1 gX8_castNode_X8_isSlot rfl ⟨rfl, rfl⟩ nm8_isSlot ⟨Nat.le_of_ble_eq_true rfl, Nat.le_of_ble_eq_true rfl⟩ (q0 := 0) rfl rfl rfl rfl hl.1 rfl (Nat.le_of_ble_eq_true rfl) dX8_castNode_2 ⟨Nat.le_of_ble_eq_true rfl, Nat.le_of_ble_eq_true rfl⟩ hPc) (fun r2 hw => ?_)
  obtain ⟨nb2, hw⟩ := hw
  refine lv_if_eq (tgt := 20) hx hb dX8_castNode_5 (by decide) (fun k => ?_) (fun k => ?_)
  · have hw := hw.1 k
    refine lv_iconst (v := (-1 : Int32)) hx hb dX8_castNode_20 (by decide) ?_
    exact RET _ _ _ hw dX8_castNode_21
  · have hw := hw.2 k
    refine lv_iload_n hx hb dX8_castNode_8 rfl (lv_at hl 2 rfl) ?_
    refine lv_i2l hx hb dX8_castNode_9 rfl ?_
    refine lv_lconst (v := (0 : Int64)) hx hb dX8_castNode_10 (by decide) ?_
    refine lv_ldc2 (v := (4 : Int64)) hx hb hown (hts (.constantLong RX8 143 (4)) (by decide +kernel)) dX8_castNode_11 ?_
    refine kcRI (wc := []) hP [] rfl (fun hPc => oS (As := [.long v2.toInt64, .long (0 : Int64), .long (4 : Int64)]) (rest := []) C0 hK hN (c8_within l D cI cJ cN cR   v2.toInt64 (0 : Int64) (4 : Int64) _ hw) 3 gX8_castNode_X8_within rfl ⟨rfl, rfl⟩ nm8_within ⟨Nat.le_of_ble_eq_true rfl, Nat.le_of_ble_eq_true rfl⟩ rfl hl.1 rfl (Nat.le_of_ble_eq_true rfl) dX8_castNode_14 ⟨Nat.le_of_ble_eq_true rfl, Nat.le_of_ble_eq_true rfl⟩ hPc) (fun r14 hw => ?_)
    obtain ⟨nb14, hw⟩ := hw
    refine lv_if_ne (tgt := 22) hx hb dX8_castNode_17 (by decide) (fun k => ?_) (fun k => ?_)
    · have hw := hw.1 k
      refine lv_aload_n hx hb dX8_castNode_22 rfl (lv_at hl 0 rfl) ?_
      refine va_get (D := D) (ci := 8) (v := .ref (rf 25)) (C := RX8) (T := TX8) (N := 35) hx hb hts hi9 hown hK hP 0 rfl rfl 24 (by decide) g85 (fun _ h9 => h9) rfl dX8_castNode_23 ?_
      refine lv_iload_n hx hb dX8_castNode_26 rfl (lv_at hl 1 rfl) ?_
      obtain ⟨hin, hw⟩ := hw
      refine va_iald hx hb hK hP 1 0 rfl rfl hin dX8_castNode_27 ?_
      refine lv_topi (fun x28 ex28 => ?_)
      have hw := hw x28 ex28
      refine lv_istore_n (lv' := [(3, .int x28), (0, .ref (rf 0)), (1, .int v1), (2, .int v2)]) hx hb dX8_castNode_28 rfl hl (by decide) rfl (fun ls hl => ?_)
      refine lv_iload_n hx hb dX8_castNode_29 rfl (lv_at hl 0 rfl) ?_
      refine lv_if_ge (tgt := 36) hx hb dX8_castNode_30 (by decide) (fun k => ?_) (fun k => ?_)
      · have hw := hw.1 k
        refine lv_iload_n hx hb dX8_castNode_36 rfl (lv_at hl 3 rfl) ?_
        refine lv_if_eq (tgt := 70) hx hb dX8_castNode_37 (by decide) (fun k => ?_) (fun k => ?_)
        · have hw := hw.1 k
          refine lv_iconst (v := (1 : Int32)) hx hb dX8_castNode_70 (by decide) ?_
          refine lv_goto (tgt := 75) hx hb dX8_castNode_71 (by decide) ?_
          refine lv_istore (lv' := [(4, .int (1 : Int32)), (3, .int x28), (0, .ref (rf 0)), (1, .int v1), (2, .int v2)]) hx hb dX8_castNode_75 hl (by decide) rfl (fun ls hl => ?_)
          refine lv_iload hx hb dX8_castNode_77 (lv_at hl 0 rfl) ?_
          refine lv_if_eq (tgt := 86) hx hb dX8_castNode_79 (by decide) (fun k => ?_) (fun k => ?_)
          · have hw := hw.1 k
            refine lv_bipush (v := (-12 : Int32)) hx hb dX8_castNode_86 (by decide) ?_
            exact RET _ _ _ hw dX8_castNode_88
          · have hw := hw.2 k
            refine lv_iload_n hx hb dX8_castNode_82 rfl (lv_at hl 1 rfl) ?_
            refine lv_goto (tgt := 88) hx hb dX8_castNode_83 (by decide) ?_
            exact RET _ _ _ hw dX8_castNode_88
        · have hw := hw.2 k
          refine lv_iload_n hx hb dX8_castNode_40 rfl (lv_at hl 0 rfl) ?_
          refine lv_iload_n hx hb dX8_castNode_41 rfl (lv_at hl 3 rfl) ?_
          refine lv_icmp_eq (tgt := 70) hx hb dX8_castNode_42 (by decide) (fun k => ?_) (fun k => ?_)
          · have hw := hw.1 k
            refine lv_iconst (v := (1 : Int32)) hx hb dX8_castNode_70 (by decide) ?_
            refine lv_goto (tgt := 75) hx hb dX8_castNode_71 (by decide) ?_
            refine lv_istore (lv' := [(4, .int (1 : Int32)), (3, .int x28), (0, .ref (rf 0)), (1, .int v1), (2, .int v2)]) hx hb dX8_castNode_75 hl (by decide) rfl (fun ls hl => ?_)
            refine lv_iload hx hb dX8_castNode_77 (lv_at hl 0 rfl) ?_
            refine lv_if_eq (tgt := 86) hx hb dX8_castNode_79 (by decide) (fun k => ?_) (fun k => ?_)
            · have hw := hw.1 k
              refine lv_bipush (v := (-12 : Int32)) hx hb dX8_castNode_86 (by decide) ?_
              exact RET _ _ _ hw dX8_castNode_88
            · have hw := hw.2 k
              refine lv_iload_n hx hb dX8_castNode_82 rfl (lv_at hl 1 rfl) ?_
              refine lv_goto (tgt := 88) hx hb dX8_castNode_83 (by decide) ?_
              exact RET _ _ _ hw dX8_castNode_88
          · have hw := hw.2 k
            refine lv_iload_n hx hb dX8_castNode_45 rfl (lv_at hl 3 rfl) ?_
            refine lv_iconst (v := (1 : Int32)) hx hb dX8_castNode_46 (by decide) ?_
            refine lv_icmp_ne (tgt := 60) hx hb dX8_castNode_47 (by decide) (fun k => ?_) (fun k => ?_)
            · have hw := hw.1 k
              exact JOIN_60 x28 ls hw (lv_sub hl [3, 0] rfl)
            · have hw := hw.2 k
              refine lv_iload_n hx hb dX8_castNode_50 rfl (lv_at hl 0 rfl) ?_
              refine lv_iconst (v := (2 : Int32)) hx hb dX8_castNode_51 (by decide) ?_
              refine lv_icmp_eq (tgt := 70) hx hb dX8_castNode_52 (by decide) (fun k => ?_) (fun k => ?_)
              · have hw := hw.1 k
                refine lv_iconst (v := (1 : Int32)) hx hb dX8_castNode_70 (by decide) ?_
                refine lv_goto (tgt := 75) hx hb dX8_castNode_71 (by decide) ?_
                refine lv_istore (lv' := [(4, .int (1 : Int32)), (3, .int x28), (0, .ref (rf 0)), (1, .int v1), (2, .int v2)]) hx hb dX8_castNode_75 hl (by decide) rfl (fun ls hl => ?_)
                refine lv_iload hx hb dX8_castNode_77 (lv_at hl 0 rfl) ?_
                refine lv_if_eq (tgt := 86) hx hb dX8_castNode_79 (by decide) (fun k => ?_) (fun k => ?_)
                · have hw := hw.1 k
                  refine lv_bipush (v := (-12 : Int32)) hx hb dX8_castNode_86 (by decide) ?_
                  exact RET _ _ _ hw dX8_castNode_88
                · have hw := hw.2 k
                  refine lv_iload_n hx hb dX8_castNode_82 rfl (lv_at hl 1 rfl) ?_
                  refine lv_goto (tgt := 88) hx hb dX8_castNode_83 (by decide) ?_
                  exact RET _ _ _ hw dX8_castNode_88
              · have hw := hw.2 k
                refine lv_iload_n hx hb dX8_castNode_55 rfl (lv_at hl 0 rfl) ?_
                refine lv_iconst (v := (3 : Int32)) hx hb dX8_castNode_56 (by decide) ?_
                refine lv_icmp_eq (tgt := 70) hx hb dX8_castNode_57 (by decide) (fun k => ?_) (fun k => ?_)
                · have hw := hw.1 k
                  refine lv_iconst (v := (1 : Int32)) hx hb dX8_castNode_70 (by decide) ?_
                  refine lv_goto (tgt := 75) hx hb dX8_castNode_71 (by decide) ?_
                  refine lv_istore (lv' := [(4, .int (1 : Int32)), (3, .int x28), (0, .ref (rf 0)), (1, .int v1), (2, .int v2)]) hx hb dX8_castNode_75 hl (by decide) rfl (fun ls hl => ?_)
                  refine lv_iload hx hb dX8_castNode_77 (lv_at hl 0 rfl) ?_
                  refine lv_if_eq (tgt := 86) hx hb dX8_castNode_79 (by decide) (fun k => ?_) (fun k => ?_)
                  · have hw := hw.1 k
                    refine lv_bipush (v := (-12 : Int32)) hx hb dX8_castNode_86 (by decide) ?_
                    exact RET _ _ _ hw dX8_castNode_88
                  · have hw := hw.2 k
                    refine lv_iload_n hx hb dX8_castNode_82 rfl (lv_at hl 1 rfl) ?_
                    refine lv_goto (tgt := 88) hx hb dX8_castNode_83 (by decide) ?_
                    exact RET _ _ _ hw dX8_castNode_88
                · have hw := hw.2 k
                  exact JOIN_60 x28 ls hw (lv_sub hl [3, 0] rfl)
      · have hw := hw.2 k
        refine lv_bipush (v := (-11 : Int32)) hx hb dX8_castNode_33 (by decide) ?_
        exact RET _ _ _ hw dX8_castNode_35
    · have hw := hw.2 k
      refine lv_iconst (v := (-1 : Int32)) hx hb dX8_castNode_20 (by decide) ?_
      exact RET _ _ _ hw dX8_castNode_21
abbrev rm8_newArray : Room := { frames := 2, cells := 0, slots := 0, locals := 46 }
theorem nm8_newArray : kNm yX8_newArray 2 := by decide +kernel
set_option maxHeartbeats 4000000 in
set_option maxRecDepth 100000 in
theorem c8_newArray (l : Launch) (D : va_G) (cI cJ cN cR : ClassId) (rf : Nat → Nat) (sz : Nat) (f_terms : Int32) (f_runs : Int32) (f_leftAbove : Int64) (f_leftBelow : Int64) (f_rightAbove : Int64) (f_rightBelow : Int64) (f_listed : Int32) (f_fed : Int32) (f_read : Int32) (f_formed : Int32) (f_hasSnapshot : Int32) (f_length : (Nat → Int32)) (f_cell : (Nat → Int32)) (v1 : Int32) (v2 : Int32) (post : Int32 → (Nat → Int32) → (Nat → Int32) → Prop) (hw : w8_newArray f_length f_cell v1 v2 post) : Met l yX8_newArray wsX8_newArray rm8_newArray (kP D (kT cI cJ cN cR) sz [.ref (rf 0), .int v1, .int v2] [((rf 0), o8 rf f_terms f_runs f_leftAbove f_leftBelow f_rightAbove f_rightBelow f_listed f_fed f_read f_formed f_hasSnapshot), ((rf 28), ai cI 3 f_length), ((rf 29), ai cI 180 f_cell)]) (kQi D [((rf 0), o8 rf f_terms f_runs f_leftAbove f_leftBelow f_rightAbove f_rightBelow f_listed f_fed f_read f_formed f_hasSnapshot), ((rf 28), ai cI 3 f_length), ((rf 29), ai cI 180 f_cell)] sz (fun (r : Int32) (u : (Nat → Int32) × (Nat → Int32)) => post r u.1 u.2) (fun (u : (Nat → Int32) × (Nat → Int32)) => [((rf 0), o8 rf f_terms f_runs f_leftAbove f_leftBelow f_rightAbove f_rightBelow f_listed f_fed f_read f_formed f_hasSnapshot), ((rf 28), ai cI 3 u.1), ((rf 29), ai cI 180 u.2)])) 0 0 (va_A [((rf 0), o8 rf f_terms f_runs f_leftAbove f_leftBelow f_rightAbove f_rightBelow f_listed f_fed f_read f_formed f_hasSnapshot), ((rf 28), ai cI 3 f_length), ((rf 29), ai cI 180 f_cell)] sz) := by
  refine kMetI (cc := cX8_newArray) (maxL := 4) (by decide +kernel) rfl (Nat.le_of_ble_eq_true rfl) ?_
  intro p e s m args below meth c H0 ls A Q C0 hK hN hP hD hS hA hl RET
  obtain ⟨hx, hb, hml, hown, hts⟩ := id C0
  have hl : lv_has ls 4 [(0, .ref (rf 0)), (1, .int v1), (2, .int v2)] := hl
  have g94 := hts (.fieldLink RX8 94 "SternBrocotExplorerModel" "length" "[I") (by decide +kernel)
  have g97 := hts (.fieldLink RX8 97 "SternBrocotExplorerModel" "cell" "[I") (by decide +kernel)
  have hi9 : ∀ w ∈ wsX80, w ∈ wsX8_newArray := fun w h => List.mem_cons_of_mem _ (List.mem_append_right _ h)
  unfold w8_newArray at hw
  have hP : va_P D vwCl [((rf 0), o8 rf f_terms f_runs f_leftAbove f_leftBelow f_rightAbove f_rightBelow f_listed f_fed f_read f_formed f_hasSnapshot), ((rf 28), ai cI 3 f_length), ((rf 29), ai cI 180 f_cell)] H0 := hP
  refine lv_aload_n hx hb dX8_newArray_0 rfl (lv_at hl 0 rfl) ?_
  refine lv_iload_n hx hb dX8_newArray_1 rfl (lv_at hl 1 rfl) ?_
  refine kcRI (wc := [((rf 0), o8 rf f_terms f_runs f_leftAbove f_leftBelow f_rightAbove f_rightBelow f_listed f_fed f_read f_formed f_hasSnapshot)]) hP [0] rfl (fun hPc => oV (As := [.int v1]) (rest := []) C0 hK hN (c8_isArray l D cI cJ cN cR rf f_terms f_runs f_leftAbove f_leftBelow f_rightAbove f_rightBelow f_listed f_fed f_read f_formed f_hasSnapshot v1 _ hw) 1 gX8_newArray_X8_isArray rfl ⟨rfl, rfl⟩ nm8_isArray ⟨Nat.le_of_ble_eq_true rfl, Nat.le_of_ble_eq_true rfl⟩ (q0 := 0) rfl rfl rfl rfl hl.1 rfl (Nat.le_of_ble_eq_true rfl) dX8_newArray_2 ⟨Nat.le_of_ble_eq_true rfl, Nat.le_of_ble_eq_true rfl⟩ hPc) (fun r2 hw => ?_)
  obtain ⟨nb2, hw⟩ := hw
  refine lv_if_eq (tgt := 14) hx hb dX8_newArray_5 (by decide) (fun k => ?_) (fun k => ?_)
  · have hw := hw.1 k
    refine lv_iconst (v := (-1 : Int32)) hx hb dX8_newArray_14 (by decide) ?_
    exact RET _ _ _ (f_length, f_cell) _ _ hw hP hD hS dX8_newArray_15
  · have hw := hw.2 k
    refine lv_iload_n hx hb dX8_newArray_8 rfl (lv_at hl 2 rfl) ?_
    refine lv_bipush (v := (60 : Int32)) hx hb dX8_newArray_9 (by decide) ?_
    refine lv_icmp_le (tgt := 16) hx hb dX8_newArray_11 (by decide) (fun k => ?_) (fun k => ?_)
    · have hw := hw.1 k
      refine lv_iload_n hx hb dX8_newArray_16 rfl (lv_at hl 2 rfl) ?_
      refine lv_iconst (v := (-1 : Int32)) hx hb dX8_newArray_17 (by decide) ?_
      refine lv_icmp_ge (tgt := 24) hx hb dX8_newArray_18 (by decide) (fun k => ?_) (fun k => ?_)
      · have hw := hw.1 k
        refine lv_aload_n hx hb dX8_newArray_24 rfl (lv_at hl 0 rfl) ?_
        refine va_get (D := D) (ci := 8) (v := .ref (rf 28)) (C := RX8) (T := TX8) (N := 35) hx hb hts hi9 hown hK hP 0 rfl rfl 27 (by decide) g94 (fun _ h9 => h9) rfl dX8_newArray_25 ?_
        refine lv_iload_n hx hb dX8_newArray_28 rfl (lv_at hl 1 rfl) ?_
        refine lv_iload_n hx hb dX8_newArray_29 rfl (lv_at hl 2 rfl) ?_
        obtain ⟨hin, hw⟩ := hw
        refine va_iast hx hb hK hP hD hS 1 0 rfl rfl hin dX8_newArray_30 (fun H locs hP hD hS => ?_)
        have hP : va_P D vwCl [((rf 0), o8 rf f_terms f_runs f_leftAbove f_leftBelow f_rightAbove f_rightBelow f_listed f_fed f_read f_formed f_hasSnapshot), ((rf 28), ai cI 3 (upd f_length v1.toNatClampNeg v2)), ((rf 29), ai cI 180 f_cell)] H := hP
        have hD : va_D A [((rf 0), o8 rf f_terms f_runs f_leftAbove f_leftBelow f_rightAbove f_rightBelow f_listed f_fed f_read f_formed f_hasSnapshot), ((rf 28), ai cI 3 (upd f_length v1.toNatClampNeg v2)), ((rf 29), ai cI 180 f_cell)] := hD
        refine lv_iconst (v := (0 : Int32)) hx hb dX8_newArray_31 (by decide) ?_
        refine lv_istore_n (lv' := [(3, .int (0 : Int32)), (0, .ref (rf 0)), (1, .int v1), (2, .int v2)]) hx hb dX8_newArray_32 rfl hl (by decide) rfl (fun ls hl => ?_)
        obtain ⟨n33, hw⟩ := hw
        have LOOP_33 : ∀ (n33 : Nat) (v3 : Int32) (f_cell : (Nat → Int32)) (H : Heap) (locs : List Loc) (ls : Array Slot), w8_newArray_L33 (upd f_length v1.toNatClampNeg v2) v1 post n33 v3 f_cell → va_P D vwCl [((rf 0), o8 rf f_terms f_runs f_leftAbove f_leftBelow f_rightAbove f_rightBelow f_listed f_fed f_read f_formed f_hasSnapshot), ((rf 28), ai cI 3 (upd f_length v1.toNatClampNeg v2)), ((rf 29), ai cI 180 f_cell)] H → va_D A [((rf 0), o8 rf f_terms f_runs f_leftAbove f_leftBelow f_rightAbove f_rightBelow f_listed f_fed f_read f_formed f_hasSnapshot), ((rf 28), ai cI 3 (upd f_length v1.toNatClampNeg v2)), ((rf 29), ai cI 180 f_cell)] → va_S A H0 H locs → lv_has ls 4 [(0, .ref (rf 0)), (1, .int v1), (3, .int v3)] → W p l e rm8_newArray s m args below meth c H locs 0 0 Q (F0 m 33 ls []) := by
          clear hw hl hP hD hS
          intro n33
          induction n33 with
          | zero =>
            intro v3 f_cell H locs ls hw hP hD hS hl
            rw [w8_newArray_L33] at hw
            exact hw.elim
          | succ n33 ih33 =>
            intro v3 f_cell H locs ls hw hP hD hS hl
            rw [w8_newArray_L33] at hw
            refine lv_iload_n hx hb dX8_newArray_33 rfl (lv_at hl 2 rfl) ?_
            refine lv_bipush (v := (60 : Int32)) hx hb dX8_newArray_34 (by decide) ?_
            refine lv_icmp_ge (tgt := 57) hx hb dX8_newArray_36 (by decide) (fun k => ?_) (fun k => ?_)
            · have hw := hw.1 k
              refine lv_iconst (v := (1 : Int32)) hx hb dX8_newArray_57 (by decide) ?_
              exact RET _ _ _ ((upd f_length v1.toNatClampNeg v2), f_cell) _ _ hw hP hD hS dX8_newArray_58
            · have hw := hw.2 k
              refine lv_aload_n hx hb dX8_newArray_39 rfl (lv_at hl 0 rfl) ?_
              refine va_get (D := D) (ci := 8) (v := .ref (rf 29)) (C := RX8) (T := TX8) (N := 35) hx hb hts hi9 hown hK hP 0 rfl rfl 28 (by decide) g97 (fun _ h9 => h9) rfl dX8_newArray_40 ?_
              refine lv_bipush (v := (60 : Int32)) hx hb dX8_newArray_43 (by decide) ?_
              refine lv_iload_n hx hb dX8_newArray_45 rfl (lv_at hl 1 rfl) ?_
              refine lv_imul hx hb dX8_newArray_46 ?_
              refine lv_iload_n hx hb dX8_newArray_47 rfl (lv_at hl 2 rfl) ?_
              refine lv_iadd hx hb dX8_newArray_48 ?_
              refine lv_iconst (v := (0 : Int32)) hx hb dX8_newArray_49 (by decide) ?_
              obtain ⟨hin, hw⟩ := hw
              refine va_iast hx hb hK hP hD hS 2 0 rfl rfl hin dX8_newArray_50 (fun H locs hP hD hS => ?_)
              have hP : va_P D vwCl [((rf 0), o8 rf f_terms f_runs f_leftAbove f_leftBelow f_rightAbove f_rightBelow f_listed f_fed f_read f_formed f_hasSnapshot), ((rf 28), ai cI 3 (upd f_length v1.toNatClampNeg v2)), ((rf 29), ai cI 180 (upd f_cell (((60 : Int32) * v1) + v3).toNatClampNeg (0 : Int32)))] H := hP
              have hD : va_D A [((rf 0), o8 rf f_terms f_runs f_leftAbove f_leftBelow f_rightAbove f_rightBelow f_listed f_fed f_read f_formed f_hasSnapshot), ((rf 28), ai cI 3 (upd f_length v1.toNatClampNeg v2)), ((rf 29), ai cI 180 (upd f_cell (((60 : Int32) * v1) + v3).toNatClampNeg (0 : Int32)))] := hD
              obtain ⟨x51, ex51⟩ : ∃ y : Int32, y = (v3 + (1 : Int32)) := ⟨_, rfl⟩
              have hw := hw x51 ex51
              refine lv_iinc (v := x51) (lv' := [(3, .int x51), (0, .ref (rf 0)), (1, .int v1)]) hx hb dX8_newArray_51 hl (k := 2) rfl (by rw [ex51]; rfl) (by decide) rfl (fun ls hl => ?_)
              refine lv_goto (tgt := 33) hx hb dX8_newArray_54 (by decide) ?_
              exact ih33 x51 (upd f_cell (((60 : Int32) * v1) + v3).toNatClampNeg (0 : Int32)) _ _ ls hw hP hD hS (lv_sub hl [1, 2, 0] rfl)
        exact LOOP_33 n33 (0 : Int32) f_cell _ _ ls hw hP hD hS (lv_sub hl [1, 2, 0] rfl)
      · have hw := hw.2 k
        refine lv_bipush (v := (-14 : Int32)) hx hb dX8_newArray_21 (by decide) ?_
        exact RET _ _ _ (f_length, f_cell) _ _ hw hP hD hS dX8_newArray_23
    · have hw := hw.2 k
      refine lv_iconst (v := (-1 : Int32)) hx hb dX8_newArray_14 (by decide) ?_
      exact RET _ _ _ (f_length, f_cell) _ _ hw hP hD hS dX8_newArray_15
abbrev rm8_setElement : Room := { frames := 2, cells := 0, slots := 0, locals := 46 }
theorem nm8_setElement : kNm yX8_setElement 3 := by decide +kernel
set_option maxHeartbeats 4000000 in
set_option maxRecDepth 100000 in
theorem c8_setElement (l : Launch) (D : va_G) (cI cJ cN cR : ClassId) (rf : Nat → Nat) (sz : Nat) (f_terms : Int32) (f_runs : Int32) (f_leftAbove : Int64) (f_leftBelow : Int64) (f_rightAbove : Int64) (f_rightBelow : Int64) (f_listed : Int32) (f_fed : Int32) (f_read : Int32) (f_formed : Int32) (f_hasSnapshot : Int32) (f_length : (Nat → Int32)) (f_cell : (Nat → Int32)) (v1 : Int32) (v2 : Int32) (v3 : Int32) (post : Int32 → (Nat → Int32) → Prop) (hw : w8_setElement f_length f_cell v1 v2 v3 post) : Met l yX8_setElement wsX8_setElement rm8_setElement (kP D (kT cI cJ cN cR) sz [.ref (rf 0), .int v1, .int v2, .int v3] [((rf 0), o8 rf f_terms f_runs f_leftAbove f_leftBelow f_rightAbove f_rightBelow f_listed f_fed f_read f_formed f_hasSnapshot), ((rf 28), ai cI 3 f_length), ((rf 29), ai cI 180 f_cell)]) (kQi D [((rf 0), o8 rf f_terms f_runs f_leftAbove f_leftBelow f_rightAbove f_rightBelow f_listed f_fed f_read f_formed f_hasSnapshot), ((rf 28), ai cI 3 f_length), ((rf 29), ai cI 180 f_cell)] sz (fun (r : Int32) (u : (Nat → Int32)) => post r u) (fun (u : (Nat → Int32)) => [((rf 0), o8 rf f_terms f_runs f_leftAbove f_leftBelow f_rightAbove f_rightBelow f_listed f_fed f_read f_formed f_hasSnapshot), ((rf 28), ai cI 3 f_length), ((rf 29), ai cI 180 u)])) 0 0 (va_A [((rf 0), o8 rf f_terms f_runs f_leftAbove f_leftBelow f_rightAbove f_rightBelow f_listed f_fed f_read f_formed f_hasSnapshot), ((rf 28), ai cI 3 f_length), ((rf 29), ai cI 180 f_cell)] sz) := by
  refine kMetI (cc := cX8_setElement) (maxL := 4) (by decide +kernel) rfl (Nat.le_of_ble_eq_true rfl) ?_
  intro p e s m args below meth c H0 ls A Q C0 hK hN hP hD hS hA hl RET
  obtain ⟨hx, hb, hml, hown, hts⟩ := id C0
  have hl : lv_has ls 4 [(0, .ref (rf 0)), (1, .int v1), (2, .int v2), (3, .int v3)] := hl
  have g94 := hts (.fieldLink RX8 94 "SternBrocotExplorerModel" "length" "[I") (by decide +kernel)
  have g97 := hts (.fieldLink RX8 97 "SternBrocotExplorerModel" "cell" "[I") (by decide +kernel)
  have hi9 : ∀ w ∈ wsX80, w ∈ wsX8_setElement := fun w h => List.mem_cons_of_mem _ (List.mem_append_right _ h)
  unfold w8_setElement at hw
  have hP : va_P D vwCl [((rf 0), o8 rf f_terms f_runs f_leftAbove f_leftBelow f_rightAbove f_rightBelow f_listed f_fed f_read f_formed f_hasSnapshot), ((rf 28), ai cI 3 f_length), ((rf 29), ai cI 180 f_cell)] H0 := hP
  refine lv_aload_n hx hb dX8_setElement_0 rfl (lv_at hl 0 rfl) ?_
  refine lv_iload_n hx hb dX8_setElement_1 rfl (lv_at hl 1 rfl) ?_
  refine kcRI (wc := [((rf 0), o8 rf f_terms f_runs f_leftAbove f_leftBelow f_rightAbove f_rightBelow f_listed f_fed f_read f_formed f_hasSnapshot)]) hP [0] rfl (fun hPc => oV (As := [.int v1]) (rest := []) C0 hK hN (c8_isArray l D cI cJ cN cR rf f_terms f_runs f_leftAbove f_leftBelow f_rightAbove f_rightBelow f_listed f_fed f_read f_formed f_hasSnapshot v1 _ hw) 1 gX8_setElement_X8_isArray rfl ⟨rfl, rfl⟩ nm8_isArray ⟨Nat.le_of_ble_eq_true rfl, Nat.le_of_ble_eq_true rfl⟩ (q0 := 0) rfl rfl rfl rfl hl.1 rfl (Nat.le_of_ble_eq_true rfl) dX8_setElement_2 ⟨Nat.le_of_ble_eq_true rfl, Nat.le_of_ble_eq_true rfl⟩ hPc) (fun r2 hw => ?_)
  obtain ⟨nb2, hw⟩ := hw
  refine lv_if_ne (tgt := 10) hx hb dX8_setElement_5 (by decide) (fun k => ?_) (fun k => ?_)
  · have hw := hw.1 k
    refine lv_aload_n hx hb dX8_setElement_10 rfl (lv_at hl 0 rfl) ?_
    refine va_get (D := D) (ci := 8) (v := .ref (rf 28)) (C := RX8) (T := TX8) (N := 35) hx hb hts hi9 hown hK hP 0 rfl rfl 27 (by decide) g94 (fun _ h9 => h9) rfl dX8_setElement_11 ?_
    refine lv_iload_n hx hb dX8_setElement_14 rfl (lv_at hl 1 rfl) ?_
    obtain ⟨hin, hw⟩ := hw
    refine va_iald hx hb hK hP 1 0 rfl rfl hin dX8_setElement_15 ?_
    refine lv_if_ge (tgt := 22) hx hb dX8_setElement_16 (by decide) (fun k => ?_) (fun k => ?_)
    · have hw := hw.1 k
      refine lv_iload_n hx hb dX8_setElement_22 rfl (lv_at hl 2 rfl) ?_
      refine lv_i2l hx hb dX8_setElement_23 rfl ?_
      refine lv_lconst (v := (0 : Int64)) hx hb dX8_setElement_24 (by decide) ?_
      refine lv_aload_n hx hb dX8_setElement_25 rfl (lv_at hl 0 rfl) ?_
      refine va_get (D := D) (ci := 8) (v := .ref (rf 28)) (C := RX8) (T := TX8) (N := 35) hx hb hts hi9 hown hK hP 0 rfl rfl 27 (by decide) g94 (fun _ h9 => h9) rfl dX8_setElement_26 ?_
      refine lv_iload_n hx hb dX8_setElement_29 rfl (lv_at hl 1 rfl) ?_
      obtain ⟨hin, hw⟩ := hw
      refine va_iald hx hb hK hP 1 0 rfl rfl hin dX8_setElement_30 ?_
      refine lv_iconst (v := (1 : Int32)) hx hb dX8_setElement_31 (by decide) ?_
      refine lv_isub hx hb dX8_setElement_32 ?_
      refine lv_i2l hx hb dX8_setElement_33 rfl ?_
      refine kcRI (wc := []) hP [] rfl (fun hPc => oS (As := [.long v2.toInt64, .long (0 : Int64), .long (((f_length v1.toNatClampNeg) - (1 : Int32)).toInt64)]) (rest := []) C0 hK hN (c8_within l D cI cJ cN cR   v2.toInt64 (0 : Int64) (((f_length v1.toNatClampNeg) - (1 : Int32)).toInt64) _ hw) 3 gX8_setElement_X8_within rfl ⟨rfl, rfl⟩ nm8_within ⟨Nat.le_of_ble_eq_true rfl, Nat.le_of_ble_eq_true rfl⟩ rfl hl.1 rfl (Nat.le_of_ble_eq_true rfl) dX8_setElement_34 ⟨Nat.le_of_ble_eq_true rfl, Nat.le_of_ble_eq_true rfl⟩ hPc) (fun r34 hw => ?_)
      obtain ⟨nb34, hw⟩ := hw
      refine lv_if_ne (tgt := 43) hx hb dX8_setElement_37 (by decide) (fun k => ?_) (fun k => ?_)
      · have hw := hw.1 k
        refine lv_aload_n hx hb dX8_setElement_43 rfl (lv_at hl 0 rfl) ?_
        refine va_get (D := D) (ci := 8) (v := .ref (rf 29)) (C := RX8) (T := TX8) (N := 35) hx hb hts hi9 hown hK hP 0 rfl rfl 28 (by decide) g97 (fun _ h9 => h9) rfl dX8_setElement_44 ?_
        refine lv_bipush (v := (60 : Int32)) hx hb dX8_setElement_47 (by decide) ?_
        refine lv_iload_n hx hb dX8_setElement_49 rfl (lv_at hl 1 rfl) ?_
        refine lv_imul hx hb dX8_setElement_50 ?_
        refine lv_iload_n hx hb dX8_setElement_51 rfl (lv_at hl 2 rfl) ?_
        refine lv_iadd hx hb dX8_setElement_52 ?_
        refine lv_iload_n hx hb dX8_setElement_53 rfl (lv_at hl 3 rfl) ?_
        obtain ⟨hin, hw⟩ := hw
        refine va_iast hx hb hK hP hD hS 2 0 rfl rfl hin dX8_setElement_54 (fun H locs hP hD hS => ?_)
        have hP : va_P D vwCl [((rf 0), o8 rf f_terms f_runs f_leftAbove f_leftBelow f_rightAbove f_rightBelow f_listed f_fed f_read f_formed f_hasSnapshot), ((rf 28), ai cI 3 f_length), ((rf 29), ai cI 180 (upd f_cell (((60 : Int32) * v1) + v2).toNatClampNeg v3))] H := hP
        have hD : va_D A [((rf 0), o8 rf f_terms f_runs f_leftAbove f_leftBelow f_rightAbove f_rightBelow f_listed f_fed f_read f_formed f_hasSnapshot), ((rf 28), ai cI 3 f_length), ((rf 29), ai cI 180 (upd f_cell (((60 : Int32) * v1) + v2).toNatClampNeg v3))] := hD
        refine lv_iconst (v := (1 : Int32)) hx hb dX8_setElement_55 (by decide) ?_
        exact RET _ _ _ (upd f_cell (((60 : Int32) * v1) + v2).toNatClampNeg v3) _ _ hw hP hD hS dX8_setElement_56
      · have hw := hw.2 k
        refine lv_bipush (v := (-13 : Int32)) hx hb dX8_setElement_40 (by decide) ?_
        exact RET _ _ _ f_cell _ _ hw hP hD hS dX8_setElement_42
    · have hw := hw.2 k
      refine lv_bipush (v := (-11 : Int32)) hx hb dX8_setElement_19 (by decide) ?_
      exact RET _ _ _ f_cell _ _ hw hP hD hS dX8_setElement_21
  · have hw := hw.2 k
    refine lv_iconst (v := (-1 : Int32)) hx hb dX8_setElement_8 (by decide) ?_
    exact RET _ _ _ f_cell _ _ hw hP hD hS dX8_setElement_9
abbrev rm8_element : Room := { frames := 2, cells := 0, slots := 0, locals := 46 }
theorem nm8_element : kNm yX8_element 2 := by decide +kernel
set_option maxHeartbeats 4000000 in
set_option maxRecDepth 100000 in
theorem c8_element (l : Launch) (D : va_G) (cI cJ cN cR : ClassId) (rf : Nat → Nat) (f_terms : Int32) (f_runs : Int32) (f_leftAbove : Int64) (f_leftBelow : Int64) (f_rightAbove : Int64) (f_rightBelow : Int64) (f_listed : Int32) (f_fed : Int32) (f_read : Int32) (f_formed : Int32) (f_hasSnapshot : Int32) (f_length : (Nat → Int32)) (f_cell : (Nat → Int32)) (v1 : Int32) (v2 : Int32) (post : Int64 → Prop) (hw : w8_element f_length f_cell v1 v2 post) : Met l yX8_element wsX8_element rm8_element (kR D (kT cI cJ cN cR) [.ref (rf 0), .int v1, .int v2] [((rf 0), o8 rf f_terms f_runs f_leftAbove f_leftBelow f_rightAbove f_rightBelow f_listed f_fed f_read f_formed f_hasSnapshot), ((rf 28), ai cI 3 f_length), ((rf 29), ai cI 180 f_cell)]) (vp_Sl post) 0 0 (fun _ => False) := by
  refine kMetRL (cc := cX8_element) (maxL := 3) (by decide +kernel) rfl (Nat.le_of_ble_eq_true rfl) ?_
  intro p e s m args below meth c H ls Q C0 hK hN hP hl RET
  obtain ⟨hx, hb, hml, hown, hts⟩ := id C0
  have hl : lv_has ls 3 [(0, .ref (rf 0)), (1, .int v1), (2, .int v2)] := hl
  have g94 := hts (.fieldLink RX8 94 "SternBrocotExplorerModel" "length" "[I") (by decide +kernel)
  have g97 := hts (.fieldLink RX8 97 "SternBrocotExplorerModel" "cell" "[I") (by decide +kernel)
  have hi9 : ∀ w ∈ wsX80, w ∈ wsX8_element := fun w h => List.mem_cons_of_mem _ (List.mem_append_right _ h)
  unfold w8_element at hw
  refine lv_aload_n hx hb dX8_element_0 rfl (lv_at hl 0 rfl) ?_
  refine lv_iload_n hx hb dX8_element_1 rfl (lv_at hl 1 rfl) ?_
  refine kcRI (wc := [((rf 0), o8 rf f_terms f_runs f_leftAbove f_leftBelow f_rightAbove f_rightBelow f_listed f_fed f_read f_formed f_hasSnapshot)]) hP [0] rfl (fun hPc => oV (As := [.int v1]) (rest := []) C0 hK hN (c8_isArray l D cI cJ cN cR rf f_terms f_runs f_leftAbove f_leftBelow f_rightAbove f_rightBelow f_listed f_fed f_read f_formed f_hasSnapshot v1 _ hw) 1 gX8_element_X8_isArray rfl ⟨rfl, rfl⟩ nm8_isArray ⟨Nat.le_of_ble_eq_true rfl, Nat.le_of_ble_eq_true rfl⟩ (q0 := 0) rfl rfl rfl rfl hl.1 rfl (Nat.le_of_ble_eq_true rfl) dX8_element_2 ⟨Nat.le_of_ble_eq_true rfl, Nat.le_of_ble_eq_true rfl⟩ hPc) (fun r2 hw => ?_)
  obtain ⟨nb2, hw⟩ := hw
  refine lv_if_eq (tgt := 41) hx hb dX8_element_5 (by decide) (fun k => ?_) (fun k => ?_)
  · have hw := hw.1 k
    refine lv_ldc2 (v := (-9223372036854775808 : Int64)) hx hb hown (hts (.constantLong RX8 145 (-9223372036854775808)) (by decide +kernel)) dX8_element_41 ?_
    exact RET _ _ _ hw dX8_element_44
  · have hw := hw.2 k
    refine lv_iload_n hx hb dX8_element_8 rfl (lv_at hl 2 rfl) ?_
    refine lv_i2l hx hb dX8_element_9 rfl ?_
    refine lv_lconst (v := (0 : Int64)) hx hb dX8_element_10 (by decide) ?_
    refine lv_aload_n hx hb dX8_element_11 rfl (lv_at hl 0 rfl) ?_
    refine va_get (D := D) (ci := 8) (v := .ref (rf 28)) (C := RX8) (T := TX8) (N := 35) hx hb hts hi9 hown hK hP 0 rfl rfl 27 (by decide) g94 (fun _ h9 => h9) rfl dX8_element_12 ?_
    refine lv_iload_n hx hb dX8_element_15 rfl (lv_at hl 1 rfl) ?_
    obtain ⟨hin, hw⟩ := hw
    refine va_iald hx hb hK hP 1 0 rfl rfl hin dX8_element_16 ?_
    refine lv_iconst (v := (1 : Int32)) hx hb dX8_element_17 (by decide) ?_
    refine lv_isub hx hb dX8_element_18 ?_
    refine lv_i2l hx hb dX8_element_19 rfl ?_
    refine kcRI (wc := []) hP [] rfl (fun hPc => oS (As := [.long v2.toInt64, .long (0 : Int64), .long (((f_length v1.toNatClampNeg) - (1 : Int32)).toInt64)]) (rest := []) C0 hK hN (c8_within l D cI cJ cN cR   v2.toInt64 (0 : Int64) (((f_length v1.toNatClampNeg) - (1 : Int32)).toInt64) _ hw) 3 gX8_element_X8_within rfl ⟨rfl, rfl⟩ nm8_within ⟨Nat.le_of_ble_eq_true rfl, Nat.le_of_ble_eq_true rfl⟩ rfl hl.1 rfl (Nat.le_of_ble_eq_true rfl) dX8_element_20 ⟨Nat.le_of_ble_eq_true rfl, Nat.le_of_ble_eq_true rfl⟩ hPc) (fun r20 hw => ?_)
    obtain ⟨nb20, hw⟩ := hw
    refine lv_if_eq (tgt := 41) hx hb dX8_element_23 (by decide) (fun k => ?_) (fun k => ?_)
    · have hw := hw.1 k
      refine lv_ldc2 (v := (-9223372036854775808 : Int64)) hx hb hown (hts (.constantLong RX8 145 (-9223372036854775808)) (by decide +kernel)) dX8_element_41 ?_
      exact RET _ _ _ hw dX8_element_44
    · have hw := hw.2 k
      refine lv_aload_n hx hb dX8_element_26 rfl (lv_at hl 0 rfl) ?_
      refine va_get (D := D) (ci := 8) (v := .ref (rf 29)) (C := RX8) (T := TX8) (N := 35) hx hb hts hi9 hown hK hP 0 rfl rfl 28 (by decide) g97 (fun _ h9 => h9) rfl dX8_element_27 ?_
      refine lv_bipush (v := (60 : Int32)) hx hb dX8_element_30 (by decide) ?_
      refine lv_iload_n hx hb dX8_element_32 rfl (lv_at hl 1 rfl) ?_
      refine lv_imul hx hb dX8_element_33 ?_
      refine lv_iload_n hx hb dX8_element_34 rfl (lv_at hl 2 rfl) ?_
      refine lv_iadd hx hb dX8_element_35 ?_
      obtain ⟨hin, hw⟩ := hw
      refine va_iald hx hb hK hP 2 0 rfl rfl hin dX8_element_36 ?_
      refine lv_i2l hx hb dX8_element_37 rfl ?_
      refine lv_goto (tgt := 44) hx hb dX8_element_38 (by decide) ?_
      exact RET _ _ _ hw dX8_element_44
abbrev rm8_fillArray : Room := { frames := 3, cells := 0, slots := 0, locals := 73 }
theorem nm8_fillArray : kNm yX8_fillArray 3 := by decide +kernel
set_option maxHeartbeats 4000000 in
set_option maxRecDepth 100000 in
theorem c8_fillArray (l : Launch) (D : va_G) (cI cJ cN cR : ClassId) (rf : Nat → Nat) (sz : Nat) (f_terms : Int32) (f_runs : Int32) (f_leftAbove : Int64) (f_leftBelow : Int64) (f_rightAbove : Int64) (f_rightBelow : Int64) (f_listed : Int32) (f_fed : Int32) (f_read : Int32) (f_formed : Int32) (f_hasSnapshot : Int32) (f_above : (Nat → Int32)) (f_below : (Nat → Int32)) (f_term : (Nat → Int32)) (f_run : (Nat → Int32)) (f_isRight : (Nat → Int32)) (f_length : (Nat → Int32)) (f_cell : (Nat → Int32)) (v1 : Int32) (v2 : Int32) (v3 : Int32) (post : Int32 → Int32 → Int32 → (Nat → Int32) → (Nat → Int32) → (Nat → Int32) → (Nat → Int32) → (Nat → Int32) → Prop) (hw : w8_fillArray f_terms f_runs f_above f_below f_term f_run f_isRight f_length f_cell v1 v2 v3 post) : Met l yX8_fillArray wsX8_fillArray rm8_fillArray (kP D (kT cI cJ cN cR) sz [.ref (rf 0), .int v1, .int v2, .int v3] [((rf 0), o8 rf f_terms f_runs f_leftAbove f_leftBelow f_rightAbove f_rightBelow f_listed f_fed f_read f_formed f_hasSnapshot), ((rf 1), ai cI 8 f_above), ((rf 2), ai cI 8 f_below), ((rf 3), ai cI 64 f_term), ((rf 4), ai cI 64 f_run), ((rf 5), ai cI 64 f_isRight), ((rf 28), ai cI 3 f_length), ((rf 29), ai cI 180 f_cell)]) (kQi D [((rf 0), o8 rf f_terms f_runs f_leftAbove f_leftBelow f_rightAbove f_rightBelow f_listed f_fed f_read f_formed f_hasSnapshot), ((rf 1), ai cI 8 f_above), ((rf 2), ai cI 8 f_below), ((rf 3), ai cI 64 f_term), ((rf 4), ai cI 64 f_run), ((rf 5), ai cI 64 f_isRight), ((rf 28), ai cI 3 f_length), ((rf 29), ai cI 180 f_cell)] sz (fun (r : Int32) (u : Int32 × Int32 × (Nat → Int32) × (Nat → Int32) × (Nat → Int32) × (Nat → Int32) × (Nat → Int32)) => post r u.1 u.2.1 u.2.2.1 u.2.2.2.1 u.2.2.2.2.1 u.2.2.2.2.2.1 u.2.2.2.2.2.2) (fun (u : Int32 × Int32 × (Nat → Int32) × (Nat → Int32) × (Nat → Int32) × (Nat → Int32) × (Nat → Int32)) => [((rf 0), o8 rf u.1 u.2.1 f_leftAbove f_leftBelow f_rightAbove f_rightBelow f_listed f_fed f_read f_formed f_hasSnapshot), ((rf 1), ai cI 8 f_above), ((rf 2), ai cI 8 f_below), ((rf 3), ai cI 64 u.2.2.1), ((rf 4), ai cI 64 u.2.2.2.1), ((rf 5), ai cI 64 u.2.2.2.2.1), ((rf 28), ai cI 3 u.2.2.2.2.2.1), ((rf 29), ai cI 180 u.2.2.2.2.2.2)])) 0 0 (va_A [((rf 0), o8 rf f_terms f_runs f_leftAbove f_leftBelow f_rightAbove f_rightBelow f_listed f_fed f_read f_formed f_hasSnapshot), ((rf 1), ai cI 8 f_above), ((rf 2), ai cI 8 f_below), ((rf 3), ai cI 64 f_term), ((rf 4), ai cI 64 f_run), ((rf 5), ai cI 64 f_isRight), ((rf 28), ai cI 3 f_length), ((rf 29), ai cI 180 f_cell)] sz) := by
  refine kMetI (cc := cX8_fillArray) (maxL := 8) (by decide +kernel) rfl (Nat.le_of_ble_eq_true rfl) ?_
  intro p e s m args below meth c H0 ls A Q C0 hK hN hP hD hS hA hl RET
  obtain ⟨hx, hb, hml, hown, hts⟩ := id C0
  have hl : lv_has ls 8 [(0, .ref (rf 0)), (1, .int v1), (2, .int v2), (3, .int v3)] := hl
  have g7 := hts (.fieldLink RX8 7 "SternBrocotExplorerModel" "above" "[I") (by decide +kernel)
  have g13 := hts (.fieldLink RX8 13 "SternBrocotExplorerModel" "below" "[I") (by decide +kernel)
  have g25 := hts (.fieldLink RX8 25 "SternBrocotExplorerModel" "terms" "I") (by decide +kernel)
  have g94 := hts (.fieldLink RX8 94 "SternBrocotExplorerModel" "length" "[I") (by decide +kernel)
  have g97 := hts (.fieldLink RX8 97 "SternBrocotExplorerModel" "cell" "[I") (by decide +kernel)
  have g16 := hts (.fieldLink RX8 16 "SternBrocotExplorerModel" "term" "[I") (by decide +kernel)
  have hi9 : ∀ w ∈ wsX80, w ∈ wsX8_fillArray := fun w h => List.mem_cons_of_mem _ (List.mem_append_right _ h)
  unfold w8_fillArray at hw
  have hP : va_P D vwCl [((rf 0), o8 rf f_terms f_runs f_leftAbove f_leftBelow f_rightAbove f_rightBelow f_listed f_fed f_read f_formed f_hasSnapshot), ((rf 1), ai cI 8 f_above), ((rf 2), ai cI 8 f_below), ((rf 3), ai cI 64 f_term), ((rf 4), ai cI 64 f_run), ((rf 5), ai cI 64 f_isRight), ((rf 28), ai cI 3 f_length), ((rf 29), ai cI 180 f_cell)] H0 := hP
  have JOIN_79 : ∀ (v4 : Int32) (v5 : Int32) (v6 : Int32) (f_terms : Int32) (f_runs : Int32) (f_term : (Nat → Int32)) (f_run : (Nat → Int32)) (f_isRight : (Nat → Int32)) (f_length : (Nat → Int32)) (f_cell : (Nat → Int32)) (H : Heap) (locs : List Loc) (ls : Array Slot), w8_fillArray_J79 f_terms f_runs f_term f_run f_isRight f_length f_cell v1 v3 v4 v5 v6 post → va_P D vwCl [((rf 0), o8 rf f_terms f_runs f_leftAbove f_leftBelow f_rightAbove f_rightBelow f_listed f_fed f_read f_formed f_hasSnapshot), ((rf 1), ai cI 8 f_above), ((rf 2), ai cI 8 f_below), ((rf 3), ai cI 64 f_term), ((rf 4), ai cI 64 f_run), ((rf 5), ai cI 64 f_isRight), ((rf 28), ai cI 3 f_length), ((rf 29), ai cI 180 f_cell)] H → va_D A [((rf 0), o8 rf f_terms f_runs f_leftAbove f_leftBelow f_rightAbove f_rightBelow f_listed f_fed f_read f_formed f_hasSnapshot), ((rf 1), ai cI 8 f_above), ((rf 2), ai cI 8 f_below), ((rf 3), ai cI 64 f_term), ((rf 4), ai cI 64 f_run), ((rf 5), ai cI 64 f_isRight), ((rf 28), ai cI 3 f_length), ((rf 29), ai cI 180 f_cell)] → va_S A H0 H locs → lv_has ls 8 [(0, .ref (rf 0)), (1, .int v1), (3, .int v3), (4, .int v4), (5, .int v5), (6, .int v6)] → W p l e rm8_fillArray s m args below meth c H locs 0 0 Q (F0 m 79 ls []) := by
    intro v4 v5 v6 f_terms f_runs f_term f_run f_isRight f_length f_cell H locs ls hw hP hD hS hl
    unfold w8_fillArray_J79 at hw
    refine lv_iload hx hb dX8_fillArray_79 (lv_at hl 5 rfl) ?_
    refine lv_bipush (v := (60 : Int32)) hx hb dX8_fillArray_81 (by decide) ?_
    refine lv_icmp_le (tgt := 89) hx hb dX8_fillArray_83 (by decide) (fun k => ?_) (fun k => ?_)
    · have hw := hw.1 k
      refine lv_aload_n hx hb dX8_fillArray_89 rfl (lv_at hl 0 rfl) ?_
      refine va_get (D := D) (ci := 8) (v := .ref (rf 28)) (C := RX8) (T := TX8) (N := 35) hx hb hts hi9 hown hK hP 0 rfl rfl 27 (by decide) g94 (fun _ h9 => h9) rfl dX8_fillArray_90 ?_
      refine lv_iload_n hx hb dX8_fillArray_93 rfl (lv_at hl 1 rfl) ?_
      refine lv_iload hx hb dX8_fillArray_94 (lv_at hl 5 rfl) ?_
      obtain ⟨hin, hw⟩ := hw
      refine va_iast hx hb hK hP hD hS 6 0 rfl rfl hin dX8_fillArray_96 (fun H locs hP hD hS => ?_)
      have hP : va_P D vwCl [((rf 0), o8 rf f_terms f_runs f_leftAbove f_leftBelow f_rightAbove f_rightBelow f_listed f_fed f_read f_formed f_hasSnapshot), ((rf 1), ai cI 8 f_above), ((rf 2), ai cI 8 f_below), ((rf 3), ai cI 64 f_term), ((rf 4), ai cI 64 f_run), ((rf 5), ai cI 64 f_isRight), ((rf 28), ai cI 3 (upd f_length v1.toNatClampNeg v6)), ((rf 29), ai cI 180 f_cell)] H := hP
      have hD : va_D A [((rf 0), o8 rf f_terms f_runs f_leftAbove f_leftBelow f_rightAbove f_rightBelow f_listed f_fed f_read f_formed f_hasSnapshot), ((rf 1), ai cI 8 f_above), ((rf 2), ai cI 8 f_below), ((rf 3), ai cI 64 f_term), ((rf 4), ai cI 64 f_run), ((rf 5), ai cI 64 f_isRight), ((rf 28), ai cI 3 (upd f_length v1.toNatClampNeg v6)), ((rf 29), ai cI 180 f_cell)] := hD
      refine lv_iconst (v := (0 : Int32)) hx hb dX8_fillArray_97 (by decide) ?_
      refine lv_istore (lv' := [(7, .int (0 : Int32)), (0, .ref (rf 0)), (1, .int v1), (3, .int v3), (4, .int v4), (5, .int v5), (6, .int v6)]) hx hb dX8_fillArray_98 hl (by decide) rfl (fun ls hl => ?_)
      obtain ⟨n100, hw⟩ := hw
      have LOOP_100 : ∀ (n100 : Nat) (v7 : Int32) (f_cell : (Nat → Int32)) (H : Heap) (locs : List Loc) (ls : Array Slot), w8_fillArray_L100 f_terms f_runs f_term f_run f_isRight (upd f_length v1.toNatClampNeg v6) v1 v3 v4 v5 v6 post n100 v7 f_cell → va_P D vwCl [((rf 0), o8 rf f_terms f_runs f_leftAbove f_leftBelow f_rightAbove f_rightBelow f_listed f_fed f_read f_formed f_hasSnapshot), ((rf 1), ai cI 8 f_above), ((rf 2), ai cI 8 f_below), ((rf 3), ai cI 64 f_term), ((rf 4), ai cI 64 f_run), ((rf 5), ai cI 64 f_isRight), ((rf 28), ai cI 3 (upd f_length v1.toNatClampNeg v6)), ((rf 29), ai cI 180 f_cell)] H → va_D A [((rf 0), o8 rf f_terms f_runs f_leftAbove f_leftBelow f_rightAbove f_rightBelow f_listed f_fed f_read f_formed f_hasSnapshot), ((rf 1), ai cI 8 f_above), ((rf 2), ai cI 8 f_below), ((rf 3), ai cI 64 f_term), ((rf 4), ai cI 64 f_run), ((rf 5), ai cI 64 f_isRight), ((rf 28), ai cI 3 (upd f_length v1.toNatClampNeg v6)), ((rf 29), ai cI 180 f_cell)] → va_S A H0 H locs → lv_has ls 8 [(0, .ref (rf 0)), (1, .int v1), (3, .int v3), (4, .int v4), (5, .int v5), (6, .int v6), (7, .int v7)] → W p l e rm8_fillArray s m args below meth c H locs 0 0 Q (F0 m 100 ls []) := by
        clear hw hl hP hD hS
        intro n100
        induction n100 with
        | zero =>
          intro v7 f_cell H locs ls hw hP hD hS hl
          rw [w8_fillArray_L100] at hw
          exact hw.elim
        | succ n100 ih100 =>
          intro v7 f_cell H locs ls hw hP hD hS hl
          rw [w8_fillArray_L100] at hw
          refine lv_iload hx hb dX8_fillArray_100 (lv_at hl 6 rfl) ?_
          refine lv_iload hx hb dX8_fillArray_102 (lv_at hl 5 rfl) ?_
          refine lv_icmp_ge (tgt := 163) hx hb dX8_fillArray_104 (by decide) (fun k => ?_) (fun k => ?_)
          · have hw := hw.1 k
            refine lv_iload hx hb dX8_fillArray_163 (lv_at hl 5 rfl) ?_
            exact RET _ _ _ (f_terms, f_runs, f_term, f_run, f_isRight, (upd f_length v1.toNatClampNeg v6), f_cell) _ _ hw hP hD hS dX8_fillArray_165
          · have hw := hw.2 k
            refine lv_aload_n hx hb dX8_fillArray_107 rfl (lv_at hl 0 rfl) ?_
            refine va_get (D := D) (ci := 8) (v := .ref (rf 29)) (C := RX8) (T := TX8) (N := 35) hx hb hts hi9 hown hK hP 0 rfl rfl 28 (by decide) g97 (fun _ h9 => h9) rfl dX8_fillArray_108 ?_
            refine lv_bipush (v := (60 : Int32)) hx hb dX8_fillArray_111 (by decide) ?_
            refine lv_iload_n hx hb dX8_fillArray_113 rfl (lv_at hl 1 rfl) ?_
            refine lv_imul hx hb dX8_fillArray_114 ?_
            refine lv_iload hx hb dX8_fillArray_115 (lv_at hl 6 rfl) ?_
            refine lv_iadd hx hb dX8_fillArray_117 ?_
            refine lv_iload_n hx hb dX8_fillArray_118 rfl (lv_at hl 2 rfl) ?_
            refine lv_if_ne (tgt := 132) hx hb dX8_fillArray_119 (by decide) (fun k => ?_) (fun k => ?_)
            · have hw := hw.1 k
              refine lv_iload_n hx hb dX8_fillArray_132 rfl (lv_at hl 2 rfl) ?_
              refine lv_iconst (v := (1 : Int32)) hx hb dX8_fillArray_133 (by decide) ?_
              refine lv_icmp_ne (tgt := 150) hx hb dX8_fillArray_134 (by decide) (fun k => ?_) (fun k => ?_)
              · have hw := hw.1 k
                refine lv_aload_n hx hb dX8_fillArray_150 rfl (lv_at hl 0 rfl) ?_
                refine lv_iload hx hb dX8_fillArray_151 (lv_at hl 6 rfl) ?_
                refine kcRI (wc := [((rf 0), o8 rf f_terms f_runs f_leftAbove f_leftBelow f_rightAbove f_rightBelow f_listed f_fed f_read f_formed f_hasSnapshot), ((rf 4), ai cI 64 f_run), ((rf 5), ai cI 64 f_isRight)]) hP [0, 4, 5] rfl (fun hPc => oV (As := [.int v7]) (rest := [.int (((60 : Int32) * v1) + v7), .ref (rf 29)]) C0 hK hN (c8_step l D cI cJ cN cR rf f_terms f_runs f_leftAbove f_leftBelow f_rightAbove f_rightBelow f_listed f_fed f_read f_formed f_hasSnapshot f_run f_isRight v7 _ hw) 1 gX8_fillArray_X8_step rfl ⟨rfl, rfl⟩ nm8_step ⟨Nat.le_of_ble_eq_true rfl, Nat.le_of_ble_eq_true rfl⟩ (q0 := 0) rfl rfl rfl rfl hl.1 rfl (Nat.le_of_ble_eq_true rfl) dX8_fillArray_153 ⟨Nat.le_of_ble_eq_true rfl, Nat.le_of_ble_eq_true rfl⟩ hPc) (fun r153 hw => ?_)
                obtain ⟨hin, hw⟩ := hw
                refine va_iast hx hb hK hP hD hS 7 0 rfl rfl hin dX8_fillArray_156 (fun H locs hP hD hS => ?_)
                have hP : va_P D vwCl [((rf 0), o8 rf f_terms f_runs f_leftAbove f_leftBelow f_rightAbove f_rightBelow f_listed f_fed f_read f_formed f_hasSnapshot), ((rf 1), ai cI 8 f_above), ((rf 2), ai cI 8 f_below), ((rf 3), ai cI 64 f_term), ((rf 4), ai cI 64 f_run), ((rf 5), ai cI 64 f_isRight), ((rf 28), ai cI 3 (upd f_length v1.toNatClampNeg v6)), ((rf 29), ai cI 180 (upd f_cell (((60 : Int32) * v1) + v7).toNatClampNeg r153))] H := hP
                have hD : va_D A [((rf 0), o8 rf f_terms f_runs f_leftAbove f_leftBelow f_rightAbove f_rightBelow f_listed f_fed f_read f_formed f_hasSnapshot), ((rf 1), ai cI 8 f_above), ((rf 2), ai cI 8 f_below), ((rf 3), ai cI 64 f_term), ((rf 4), ai cI 64 f_run), ((rf 5), ai cI 64 f_isRight), ((rf 28), ai cI 3 (upd f_length v1.toNatClampNeg v6)), ((rf 29), ai cI 180 (upd f_cell (((60 : Int32) * v1) + v7).toNatClampNeg r153))] := hD
                obtain ⟨x157, ex157⟩ : ∃ y : Int32, y = (v7 + (1 : Int32)) := ⟨_, rfl⟩
                have hw := hw x157 ex157
                refine lv_iinc (v := x157) (lv' := [(7, .int x157), (0, .ref (rf 0)), (1, .int v1), (3, .int v3), (4, .int v4), (5, .int v5), (6, .int v6)]) hx hb dX8_fillArray_157 hl (k := 6) rfl (by rw [ex157]; rfl) (by decide) rfl (fun ls hl => ?_)
                refine lv_goto (tgt := 100) hx hb dX8_fillArray_160 (by decide) ?_
                exact ih100 x157 (upd f_cell (((60 : Int32) * v1) + v7).toNatClampNeg r153) _ _ ls hw hP hD hS (lv_sub hl [1, 2, 3, 4, 5, 6, 0] rfl)
              · have hw := hw.2 k
                refine lv_aload_n hx hb dX8_fillArray_137 rfl (lv_at hl 0 rfl) ?_
                refine lv_iload hx hb dX8_fillArray_138 (lv_at hl 3 rfl) ?_
                refine lv_iload hx hb dX8_fillArray_140 (lv_at hl 4 rfl) ?_
                refine lv_iload hx hb dX8_fillArray_142 (lv_at hl 6 rfl) ?_
                refine kcRI (wc := [((rf 0), o8 rf f_terms f_runs f_leftAbove f_leftBelow f_rightAbove f_rightBelow f_listed f_fed f_read f_formed f_hasSnapshot)]) hP [0] rfl (fun hPc => oV (As := [.int v4, .int v5, .int v7]) (rest := [.int (((60 : Int32) * v1) + v7), .ref (rf 29)]) C0 hK hN (c8_letterOf l D cI cJ cN cR rf f_terms f_runs f_leftAbove f_leftBelow f_rightAbove f_rightBelow f_listed f_fed f_read f_formed f_hasSnapshot v4 v5 v7 _ hw) 3 gX8_fillArray_X8_letterOf rfl ⟨rfl, rfl⟩ nm8_letterOf ⟨Nat.le_of_ble_eq_true rfl, Nat.le_of_ble_eq_true rfl⟩ (q0 := 0) rfl rfl rfl rfl hl.1 rfl (Nat.le_of_ble_eq_true rfl) dX8_fillArray_144 ⟨Nat.le_of_ble_eq_true rfl, Nat.le_of_ble_eq_true rfl⟩ hPc) (fun r144 hw => ?_)
                refine lv_goto (tgt := 156) hx hb dX8_fillArray_147 (by decide) ?_
                obtain ⟨hin, hw⟩ := hw
                refine va_iast hx hb hK hP hD hS 7 0 rfl rfl hin dX8_fillArray_156 (fun H locs hP hD hS => ?_)
                have hP : va_P D vwCl [((rf 0), o8 rf f_terms f_runs f_leftAbove f_leftBelow f_rightAbove f_rightBelow f_listed f_fed f_read f_formed f_hasSnapshot), ((rf 1), ai cI 8 f_above), ((rf 2), ai cI 8 f_below), ((rf 3), ai cI 64 f_term), ((rf 4), ai cI 64 f_run), ((rf 5), ai cI 64 f_isRight), ((rf 28), ai cI 3 (upd f_length v1.toNatClampNeg v6)), ((rf 29), ai cI 180 (upd f_cell (((60 : Int32) * v1) + v7).toNatClampNeg r144))] H := hP
                have hD : va_D A [((rf 0), o8 rf f_terms f_runs f_leftAbove f_leftBelow f_rightAbove f_rightBelow f_listed f_fed f_read f_formed f_hasSnapshot), ((rf 1), ai cI 8 f_above), ((rf 2), ai cI 8 f_below), ((rf 3), ai cI 64 f_term), ((rf 4), ai cI 64 f_run), ((rf 5), ai cI 64 f_isRight), ((rf 28), ai cI 3 (upd f_length v1.toNatClampNeg v6)), ((rf 29), ai cI 180 (upd f_cell (((60 : Int32) * v1) + v7).toNatClampNeg r144))] := hD
                obtain ⟨x157, ex157⟩ : ∃ y : Int32, y = (v7 + (1 : Int32)) := ⟨_, rfl⟩
                have hw := hw x157 ex157
                refine lv_iinc (v := x157) (lv' := [(7, .int x157), (0, .ref (rf 0)), (1, .int v1), (3, .int v3), (4, .int v4), (5, .int v5), (6, .int v6)]) hx hb dX8_fillArray_157 hl (k := 6) rfl (by rw [ex157]; rfl) (by decide) rfl (fun ls hl => ?_)
                refine lv_goto (tgt := 100) hx hb dX8_fillArray_160 (by decide) ?_
                exact ih100 x157 (upd f_cell (((60 : Int32) * v1) + v7).toNatClampNeg r144) _ _ ls hw hP hD hS (lv_sub hl [1, 2, 3, 4, 5, 6, 0] rfl)
            · have hw := hw.2 k
              refine lv_aload_n hx hb dX8_fillArray_122 rfl (lv_at hl 0 rfl) ?_
              refine va_get (D := D) (ci := 8) (v := .ref (rf 3)) (C := RX8) (T := TX8) (N := 35) hx hb hts hi9 hown hK hP 0 rfl rfl 2 (by decide) g16 (fun _ h9 => h9) rfl dX8_fillArray_123 ?_
              refine lv_iload hx hb dX8_fillArray_126 (lv_at hl 6 rfl) ?_
              obtain ⟨hin, hw⟩ := hw
              refine va_iald hx hb hK hP 3 0 rfl rfl hin dX8_fillArray_128 ?_
              refine lv_goto (tgt := 156) hx hb dX8_fillArray_129 (by decide) ?_
              obtain ⟨hin, hw⟩ := hw
              refine va_iast hx hb hK hP hD hS 7 0 rfl rfl hin dX8_fillArray_156 (fun H locs hP hD hS => ?_)
              have hP : va_P D vwCl [((rf 0), o8 rf f_terms f_runs f_leftAbove f_leftBelow f_rightAbove f_rightBelow f_listed f_fed f_read f_formed f_hasSnapshot), ((rf 1), ai cI 8 f_above), ((rf 2), ai cI 8 f_below), ((rf 3), ai cI 64 f_term), ((rf 4), ai cI 64 f_run), ((rf 5), ai cI 64 f_isRight), ((rf 28), ai cI 3 (upd f_length v1.toNatClampNeg v6)), ((rf 29), ai cI 180 (upd f_cell (((60 : Int32) * v1) + v7).toNatClampNeg (f_term v7.toNatClampNeg)))] H := hP
              have hD : va_D A [((rf 0), o8 rf f_terms f_runs f_leftAbove f_leftBelow f_rightAbove f_rightBelow f_listed f_fed f_read f_formed f_hasSnapshot), ((rf 1), ai cI 8 f_above), ((rf 2), ai cI 8 f_below), ((rf 3), ai cI 64 f_term), ((rf 4), ai cI 64 f_run), ((rf 5), ai cI 64 f_isRight), ((rf 28), ai cI 3 (upd f_length v1.toNatClampNeg v6)), ((rf 29), ai cI 180 (upd f_cell (((60 : Int32) * v1) + v7).toNatClampNeg (f_term v7.toNatClampNeg)))] := hD
              obtain ⟨x157, ex157⟩ : ∃ y : Int32, y = (v7 + (1 : Int32)) := ⟨_, rfl⟩
              have hw := hw x157 ex157
              refine lv_iinc (v := x157) (lv' := [(7, .int x157), (0, .ref (rf 0)), (1, .int v1), (3, .int v3), (4, .int v4), (5, .int v5), (6, .int v6)]) hx hb dX8_fillArray_157 hl (k := 6) rfl (by rw [ex157]; rfl) (by decide) rfl (fun ls hl => ?_)
              refine lv_goto (tgt := 100) hx hb dX8_fillArray_160 (by decide) ?_
              exact ih100 x157 (upd f_cell (((60 : Int32) * v1) + v7).toNatClampNeg (f_term v7.toNatClampNeg)) _ _ ls hw hP hD hS (lv_sub hl [1, 2, 3, 4, 5, 6, 0] rfl)
      exact LOOP_100 n100 (0 : Int32) f_cell _ _ ls hw hP hD hS (lv_sub hl [1, 2, 3, 4, 5, 6, 0] rfl)
    · have hw := hw.2 k
      refine lv_bipush (v := (-3 : Int32)) hx hb dX8_fillArray_86 (by decide) ?_
      exact RET _ _ _ (f_terms, f_runs, f_term, f_run, f_isRight, f_length, f_cell) _ _ hw hP hD hS dX8_fillArray_88
  have JOIN_67 : ∀ (v4 : Int32) (v5 : Int32) (f_terms : Int32) (f_runs : Int32) (f_term : (Nat → Int32)) (f_run : (Nat → Int32)) (f_isRight : (Nat → Int32)) (f_length : (Nat → Int32)) (f_cell : (Nat → Int32)) (s0 : Int32) (H : Heap) (locs : List Loc) (ls : Array Slot), w8_fillArray_J67 f_terms f_runs f_term f_run f_isRight f_length f_cell v1 v3 v4 v5 s0 post → va_P D vwCl [((rf 0), o8 rf f_terms f_runs f_leftAbove f_leftBelow f_rightAbove f_rightBelow f_listed f_fed f_read f_formed f_hasSnapshot), ((rf 1), ai cI 8 f_above), ((rf 2), ai cI 8 f_below), ((rf 3), ai cI 64 f_term), ((rf 4), ai cI 64 f_run), ((rf 5), ai cI 64 f_isRight), ((rf 28), ai cI 3 f_length), ((rf 29), ai cI 180 f_cell)] H → va_D A [((rf 0), o8 rf f_terms f_runs f_leftAbove f_leftBelow f_rightAbove f_rightBelow f_listed f_fed f_read f_formed f_hasSnapshot), ((rf 1), ai cI 8 f_above), ((rf 2), ai cI 8 f_below), ((rf 3), ai cI 64 f_term), ((rf 4), ai cI 64 f_run), ((rf 5), ai cI 64 f_isRight), ((rf 28), ai cI 3 f_length), ((rf 29), ai cI 180 f_cell)] → va_S A H0 H locs → lv_has ls 8 [(0, .ref (rf 0)), (1, .int v1), (3, .int v3), (4, .int v4), (5, .int v5)] → W p l e rm8_fillArray s m args below meth c H locs 0 0 Q (F0 m 67 ls [.int s0]) := by
    intro v4 v5 f_terms f_runs f_term f_run f_isRight f_length f_cell s0 H locs ls hw hP hD hS hl
    unfold w8_fillArray_J67 at hw
    refine lv_istore (lv' := [(6, .int s0), (0, .ref (rf 0)), (1, .int v1), (3, .int v3), (4, .int v4), (5, .int v5)]) hx hb dX8_fillArray_67 hl (by decide) rfl (fun ls hl => ?_)
    refine lv_iload_n hx hb dX8_fillArray_69 rfl (lv_at hl 3 rfl) ?_
    refine lv_if_ne (tgt := 79) hx hb dX8_fillArray_70 (by decide) (fun k => ?_) (fun k => ?_)
    · have hw := hw.1 k
      exact JOIN_79 v4 v5 s0 f_terms f_runs f_term f_run f_isRight f_length f_cell _ _ ls hw hP hD hS (lv_sub hl [1, 2, 3, 4, 5, 0] rfl)
    · have hw := hw.2 k
      refine lv_aload_n hx hb dX8_fillArray_73 rfl (lv_at hl 1 rfl) ?_
      refine va_get (D := D) (ci := 8) (v := .int f_terms) (C := RX8) (T := TX8) (N := 35) hx hb hts hi9 hown hK hP 0 rfl rfl 5 (by decide) g25 (fun _ h9 => h9) rfl dX8_fillArray_74 ?_
      refine lv_istore (lv' := [(6, .int f_terms), (0, .ref (rf 0)), (1, .int v1), (3, .int v3), (4, .int v4), (5, .int v5)]) hx hb dX8_fillArray_77 hl (by decide) rfl (fun ls hl => ?_)
      exact JOIN_79 v4 v5 f_terms f_terms f_runs f_term f_run f_isRight f_length f_cell _ _ ls hw hP hD hS (lv_sub hl [1, 2, 3, 4, 5, 0] rfl)
  refine lv_aload_n hx hb dX8_fillArray_0 rfl (lv_at hl 0 rfl) ?_
  refine lv_iload_n hx hb dX8_fillArray_1 rfl (lv_at hl 1 rfl) ?_
  refine kcRI (wc := [((rf 0), o8 rf f_terms f_runs f_leftAbove f_leftBelow f_rightAbove f_rightBelow f_listed f_fed f_read f_formed f_hasSnapshot)]) hP [0] rfl (fun hPc => oV (As := [.int v1]) (rest := []) C0 hK hN (c8_isArray l D cI cJ cN cR rf f_terms f_runs f_leftAbove f_leftBelow f_rightAbove f_rightBelow f_listed f_fed f_read f_formed f_hasSnapshot v1 _ hw) 1 gX8_fillArray_X8_isArray rfl ⟨rfl, rfl⟩ nm8_isArray ⟨Nat.le_of_ble_eq_true rfl, Nat.le_of_ble_eq_true rfl⟩ (q0 := 0) rfl rfl rfl rfl hl.1 rfl (Nat.le_of_ble_eq_true rfl) dX8_fillArray_2 ⟨Nat.le_of_ble_eq_true rfl, Nat.le_of_ble_eq_true rfl⟩ hPc) (fun r2 hw => ?_)
  obtain ⟨nb2, hw⟩ := hw
  refine lv_if_eq (tgt := 28) hx hb dX8_fillArray_5 (by decide) (fun k => ?_) (fun k => ?_)
  · have hw := hw.1 k
    refine lv_iconst (v := (-1 : Int32)) hx hb dX8_fillArray_28 (by decide) ?_
    exact RET _ _ _ (f_terms, f_runs, f_term, f_run, f_isRight, f_length, f_cell) _ _ hw hP hD hS dX8_fillArray_29
  · have hw := hw.2 k
    refine lv_aload_n hx hb dX8_fillArray_8 rfl (lv_at hl 0 rfl) ?_
    refine lv_iload_n hx hb dX8_fillArray_9 rfl (lv_at hl 2 rfl) ?_
    refine kcRI (wc := [((rf 0), o8 rf f_terms f_runs f_leftAbove f_leftBelow f_rightAbove f_rightBelow f_listed f_fed f_read f_formed f_hasSnapshot)]) hP [0] rfl (fun hPc => oV (As := [.int v2]) (rest := []) C0 hK hN (c8_isRegister l D cI cJ cN cR rf f_terms f_runs f_leftAbove f_leftBelow f_rightAbove f_rightBelow f_listed f_fed f_read f_formed f_hasSnapshot v2 _ hw) 1 gX8_fillArray_X8_isRegister rfl ⟨rfl, rfl⟩ nm8_isRegister ⟨Nat.le_of_ble_eq_true rfl, Nat.le_of_ble_eq_true rfl⟩ (q0 := 0) rfl rfl rfl rfl hl.1 rfl (Nat.le_of_ble_eq_true rfl) dX8_fillArray_10 ⟨Nat.le_of_ble_eq_true rfl, Nat.le_of_ble_eq_true rfl⟩ hPc) (fun r10 hw => ?_)
    obtain ⟨nb10, hw⟩ := hw
    refine lv_if_eq (tgt := 28) hx hb dX8_fillArray_13 (by decide) (fun k => ?_) (fun k => ?_)
    · have hw := hw.1 k
      refine lv_iconst (v := (-1 : Int32)) hx hb dX8_fillArray_28 (by decide) ?_
      exact RET _ _ _ (f_terms, f_runs, f_term, f_run, f_isRight, f_length, f_cell) _ _ hw hP hD hS dX8_fillArray_29
    · have hw := hw.2 k
      refine lv_iload_n hx hb dX8_fillArray_16 rfl (lv_at hl 3 rfl) ?_
      refine lv_i2l hx hb dX8_fillArray_17 rfl ?_
      refine lv_lconst (v := (0 : Int64)) hx hb dX8_fillArray_18 (by decide) ?_
      refine lv_ldc2 (v := (2 : Int64)) hx hb hown (hts (.constantLong RX8 182 (2)) (by decide +kernel)) dX8_fillArray_19 ?_
      refine kcRI (wc := []) hP [] rfl (fun hPc => oS (As := [.long v3.toInt64, .long (0 : Int64), .long (2 : Int64)]) (rest := []) C0 hK hN (c8_within l D cI cJ cN cR   v3.toInt64 (0 : Int64) (2 : Int64) _ hw) 3 gX8_fillArray_X8_within rfl ⟨rfl, rfl⟩ nm8_within ⟨Nat.le_of_ble_eq_true rfl, Nat.le_of_ble_eq_true rfl⟩ rfl hl.1 rfl (Nat.le_of_ble_eq_true rfl) dX8_fillArray_22 ⟨Nat.le_of_ble_eq_true rfl, Nat.le_of_ble_eq_true rfl⟩ hPc) (fun r22 hw => ?_)
      obtain ⟨nb22, hw⟩ := hw
      refine lv_if_ne (tgt := 30) hx hb dX8_fillArray_25 (by decide) (fun k => ?_) (fun k => ?_)
      · have hw := hw.1 k
        refine lv_aload_n hx hb dX8_fillArray_30 rfl (lv_at hl 0 rfl) ?_
        refine va_get (D := D) (ci := 8) (v := .ref (rf 1)) (C := RX8) (T := TX8) (N := 35) hx hb hts hi9 hown hK hP 0 rfl rfl 0 (by decide) g7 (fun _ h9 => h9) rfl dX8_fillArray_31 ?_
        refine lv_iload_n hx hb dX8_fillArray_34 rfl (lv_at hl 2 rfl) ?_
        obtain ⟨hin, hw⟩ := hw
        refine va_iald hx hb hK hP 1 0 rfl rfl hin dX8_fillArray_35 ?_
        refine lv_topi (fun x36 ex36 => ?_)
        have hw := hw x36 ex36
        refine lv_istore (lv' := [(4, .int x36), (0, .ref (rf 0)), (1, .int v1), (2, .int v2), (3, .int v3)]) hx hb dX8_fillArray_36 hl (by decide) rfl (fun ls hl => ?_)
        refine lv_aload_n hx hb dX8_fillArray_38 rfl (lv_at hl 1 rfl) ?_
        refine va_get (D := D) (ci := 8) (v := .ref (rf 2)) (C := RX8) (T := TX8) (N := 35) hx hb hts hi9 hown hK hP 0 rfl rfl 1 (by decide) g13 (fun _ h9 => h9) rfl dX8_fillArray_39 ?_
        refine lv_iload_n hx hb dX8_fillArray_42 rfl (lv_at hl 3 rfl) ?_
        obtain ⟨hin, hw⟩ := hw
        refine va_iald hx hb hK hP 2 0 rfl rfl hin dX8_fillArray_43 ?_
        refine lv_topi (fun x44 ex44 => ?_)
        have hw := hw x44 ex44
        refine lv_istore (lv' := [(5, .int x44), (4, .int x36), (0, .ref (rf 0)), (1, .int v1), (2, .int v2), (3, .int v3)]) hx hb dX8_fillArray_44 hl (by decide) rfl (fun ls hl => ?_)
        refine lv_iload_n hx hb dX8_fillArray_46 rfl (lv_at hl 5 rfl) ?_
        refine lv_iconst (v := (1 : Int32)) hx hb dX8_fillArray_47 (by decide) ?_
        refine lv_icmp_ne (tgt := 59) hx hb dX8_fillArray_48 (by decide) (fun k => ?_) (fun k => ?_)
        · have hw := hw.1 k
          refine lv_aload_n hx hb dX8_fillArray_59 rfl (lv_at hl 2 rfl) ?_
          refine lv_iload hx hb dX8_fillArray_60 (lv_at hl 1 rfl) ?_
          refine lv_iload hx hb dX8_fillArray_62 (lv_at hl 0 rfl) ?_
          refine kcI (wc := [((rf 0), o8 rf f_terms f_runs f_leftAbove f_leftBelow f_rightAbove f_rightBelow f_listed f_fed f_read f_formed f_hasSnapshot), ((rf 3), ai cI 64 f_term), ((rf 4), ai cI 64 f_run), ((rf 5), ai cI 64 f_isRight)]) (wr := [((rf 1), ai cI 8 f_above), ((rf 2), ai cI 8 f_below), ((rf 28), ai cI 3 f_length), ((rf 29), ai cI 180 f_cell)]) hP hD hS hA [0, 3, 4, 5] [1, 2, 6, 7] rfl rfl ⟨rfl, rfl, by decide⟩ (fun hPc hDc => rV (As := [.int x36, .int x44]) (rest := []) C0 hK hN (c8_depthOf l D cI cJ cN cR rf H0.size f_terms f_runs f_leftAbove f_leftBelow f_rightAbove f_rightBelow f_listed f_fed f_read f_formed f_hasSnapshot f_term f_run f_isRight x36 x44 _ hw) 2 gX8_fillArray_X8_depthOf rfl ⟨rfl, rfl⟩ nm8_depthOf ⟨Nat.le_of_ble_eq_true rfl, Nat.le_of_ble_eq_true rfl⟩ (q0 := 0) rfl rfl rfl rfl hl.1 rfl (Nat.le_of_ble_eq_true rfl) dX8_fillArray_64 ⟨Nat.le_of_ble_eq_true rfl, Nat.le_of_ble_eq_true rfl⟩ hPc hDc) (fun r64 u64 H locs hw hP hD hS => ?_)
          obtain ⟨f_terms_64, f_runs_64, f_term_64, f_run_64, f_isRight_64⟩ := u64
          dsimp only at hw
          have hP : va_P D vwCl [((rf 1), ai cI 8 f_above), ((rf 2), ai cI 8 f_below), ((rf 28), ai cI 3 f_length), ((rf 29), ai cI 180 f_cell), ((rf 0), o8 rf f_terms_64 f_runs_64 f_leftAbove f_leftBelow f_rightAbove f_rightBelow f_listed f_fed f_read f_formed f_hasSnapshot), ((rf 3), ai cI 64 f_term_64), ((rf 4), ai cI 64 f_run_64), ((rf 5), ai cI 64 f_isRight_64)] H := hP
          have hD : va_D A [((rf 1), ai cI 8 f_above), ((rf 2), ai cI 8 f_below), ((rf 28), ai cI 3 f_length), ((rf 29), ai cI 180 f_cell), ((rf 0), o8 rf f_terms_64 f_runs_64 f_leftAbove f_leftBelow f_rightAbove f_rightBelow f_listed f_fed f_read f_formed f_hasSnapshot), ((rf 3), ai cI 64 f_term_64), ((rf 4), ai cI 64 f_run_64), ((rf 5), ai cI 64 f_isRight_64)] := hD
          obtain ⟨hP, hD⟩ := k_sub (ws' := [((rf 0), o8 rf f_terms_64 f_runs_64 f_leftAbove f_leftBelow f_rightAbove f_rightBelow f_listed f_fed f_read f_formed f_hasSnapshot), ((rf 1), ai cI 8 f_above), ((rf 2), ai cI 8 f_below), ((rf 3), ai cI 64 f_term_64), ((rf 4), ai cI 64 f_run_64), ((rf 5), ai cI 64 f_isRight_64), ((rf 28), ai cI 3 f_length), ((rf 29), ai cI 180 f_cell)]) hP hD [4, 0, 1, 5, 6, 7, 2, 3] rfl rfl
          exact JOIN_67 x36 x44 f_terms_64 f_runs_64 f_term_64 f_run_64 f_isRight_64 f_length f_cell r64 _ _ ls hw hP hD hS (lv_sub hl [2, 3, 5, 1, 0] rfl)
        · have hw := hw.2 k
          refine lv_iload hx hb dX8_fillArray_51 (lv_at hl 1 rfl) ?_
          refine lv_iload hx hb dX8_fillArray_53 (lv_at hl 0 rfl) ?_
          refine lv_iadd hx hb dX8_fillArray_55 ?_
          refine lv_goto (tgt := 67) hx hb dX8_fillArray_56 (by decide) ?_
          exact JOIN_67 x36 x44 f_terms f_runs f_term f_run f_isRight f_length f_cell (x36 + x44) _ _ ls hw hP hD hS (lv_sub hl [2, 3, 5, 1, 0] rfl)
      · have hw := hw.2 k
        refine lv_iconst (v := (-1 : Int32)) hx hb dX8_fillArray_28 (by decide) ?_
        exact RET _ _ _ (f_terms, f_runs, f_term, f_run, f_isRight, f_length, f_cell) _ _ hw hP hD hS dX8_fillArray_29
abbrev rm8_nodes : Room := { frames := 0, cells := 0, slots := 0, locals := 0 }
theorem nm8_nodes : kNm yX8_nodes 0 := by decide +kernel
set_option maxHeartbeats 4000000 in
set_option maxRecDepth 100000 in
theorem c8_nodes (l : Launch) (D : va_G) (cI cJ cN cR : ClassId) (rf : Nat → Nat) (f_terms : Int32) (f_runs : Int32) (f_leftAbove : Int64) (f_leftBelow : Int64) (f_rightAbove : Int64) (f_rightBelow : Int64) (f_listed : Int32) (f_fed : Int32) (f_read : Int32) (f_formed : Int32) (f_hasSnapshot : Int32) (f_kindOf : (Nat → Int32))  (post : Int32 → Prop) (hw : w8_nodes f_kindOf post) : Met l yX8_nodes wsX8_nodes rm8_nodes (kR D (kT cI cJ cN cR) [.ref (rf 0)] [((rf 0), o8 rf f_terms f_runs f_leftAbove f_leftBelow f_rightAbove f_rightBelow f_listed f_fed f_read f_formed f_hasSnapshot), ((rf 25), ai cI 5 f_kindOf)]) (vp_Si post) 0 0 (fun _ => False) := by
  refine kMetRI (cc := cX8_nodes) (maxL := 3) (by decide +kernel) rfl (Nat.le_of_ble_eq_true rfl) ?_
  intro p e s m args below meth c H ls Q C0 hK hN hP hl RET
  obtain ⟨hx, hb, hml, hown, hts⟩ := id C0
  have hl : lv_has ls 3 [(0, .ref (rf 0))] := hl
  have g85 := hts (.fieldLink RX8 85 "SternBrocotExplorerModel" "kindOf" "[I") (by decide +kernel)
  have hi9 : ∀ w ∈ wsX80, w ∈ wsX8_nodes := fun w h => List.mem_cons_of_mem _ (List.mem_append_right _ h)
  unfold w8_nodes at hw
  refine lv_iconst (v := (0 : Int32)) hx hb dX8_nodes_0 (by decide) ?_
  refine lv_istore_n (lv' := [(1, .int (0 : Int32)), (0, .ref (rf 0))]) hx hb dX8_nodes_1 rfl hl (by decide) rfl (fun ls hl => ?_)
  refine lv_iconst (v := (0 : Int32)) hx hb dX8_nodes_2 (by decide) ?_
  refine lv_istore_n (lv' := [(2, .int (0 : Int32)), (1, .int (0 : Int32)), (0, .ref (rf 0))]) hx hb dX8_nodes_3 rfl hl (by decide) rfl (fun ls hl => ?_)
  obtain ⟨n4, hw⟩ := hw
  have LOOP_4 : ∀ (n4 : Nat) (v1 : Int32) (v2 : Int32) (ls : Array Slot), w8_nodes_L4 f_kindOf post n4 v1 v2 → lv_has ls 3 [(0, .ref (rf 0)), (1, .int v1), (2, .int v2)] → W p l e rm8_nodes s m args below meth c H [] 0 0 Q (F0 m 4 ls []) := by
    clear hw hl
    intro n4
    induction n4 with
    | zero =>
      intro v1 v2 ls hw hl
      rw [w8_nodes_L4] at hw
      exact hw.elim
    | succ n4 ih4 =>
      intro v1 v2 ls hw hl
      rw [w8_nodes_L4] at hw
      refine lv_iload_n hx hb dX8_nodes_4 rfl (lv_at hl 2 rfl) ?_
      refine lv_iconst (v := (5 : Int32)) hx hb dX8_nodes_5 (by decide) ?_
      refine lv_icmp_ge (tgt := 32) hx hb dX8_nodes_6 (by decide) (fun k => ?_) (fun k => ?_)
      · have hw := hw.1 k
        refine lv_iload_n hx hb dX8_nodes_32 rfl (lv_at hl 1 rfl) ?_
        exact RET _ _ _ hw dX8_nodes_33
      · have hw := hw.2 k
        refine lv_iload_n hx hb dX8_nodes_9 rfl (lv_at hl 1 rfl) ?_
        refine lv_aload_n hx hb dX8_nodes_10 rfl (lv_at hl 0 rfl) ?_
        refine va_get (D := D) (ci := 8) (v := .ref (rf 25)) (C := RX8) (T := TX8) (N := 35) hx hb hts hi9 hown hK hP 0 rfl rfl 24 (by decide) g85 (fun _ h9 => h9) rfl dX8_nodes_11 ?_
        refine lv_iload_n hx hb dX8_nodes_14 rfl (lv_at hl 2 rfl) ?_
        obtain ⟨hin, hw⟩ := hw
        refine va_iald hx hb hK hP 1 0 rfl rfl hin dX8_nodes_15 ?_
        refine lv_if_lt (tgt := 23) hx hb dX8_nodes_16 (by decide) (fun k => ?_) (fun k => ?_)
        · have hw := hw.1 k
          refine lv_iconst (v := (0 : Int32)) hx hb dX8_nodes_23 (by decide) ?_
          refine lv_iadd hx hb dX8_nodes_24 ?_
          refine lv_topi (fun x25 ex25 => ?_)
          have hw := hw x25 ex25
          refine lv_istore_n (lv' := [(1, .int x25), (0, .ref (rf 0)), (2, .int v2)]) hx hb dX8_nodes_25 rfl hl (by decide) rfl (fun ls hl => ?_)
          obtain ⟨x26, ex26⟩ : ∃ y : Int32, y = (v2 + (1 : Int32)) := ⟨_, rfl⟩
          have hw := hw x26 ex26
          refine lv_iinc (v := x26) (lv' := [(2, .int x26), (1, .int x25), (0, .ref (rf 0))]) hx hb dX8_nodes_26 hl (k := 2) rfl (by rw [ex26]; rfl) (by decide) rfl (fun ls hl => ?_)
          refine lv_goto (tgt := 4) hx hb dX8_nodes_29 (by decide) ?_
          exact ih4 x25 x26 ls hw (lv_sub hl [2, 1, 0] rfl)
        · have hw := hw.2 k
          refine lv_iconst (v := (1 : Int32)) hx hb dX8_nodes_19 (by decide) ?_
          refine lv_goto (tgt := 24) hx hb dX8_nodes_20 (by decide) ?_
          refine lv_iadd hx hb dX8_nodes_24 ?_
          refine lv_topi (fun x25 ex25 => ?_)
          have hw := hw x25 ex25
          refine lv_istore_n (lv' := [(1, .int x25), (0, .ref (rf 0)), (2, .int v2)]) hx hb dX8_nodes_25 rfl hl (by decide) rfl (fun ls hl => ?_)
          obtain ⟨x26, ex26⟩ : ∃ y : Int32, y = (v2 + (1 : Int32)) := ⟨_, rfl⟩
          have hw := hw x26 ex26
          refine lv_iinc (v := x26) (lv' := [(2, .int x26), (1, .int x25), (0, .ref (rf 0))]) hx hb dX8_nodes_26 hl (k := 2) rfl (by rw [ex26]; rfl) (by decide) rfl (fun ls hl => ?_)
          refine lv_goto (tgt := 4) hx hb dX8_nodes_29 (by decide) ?_
          exact ih4 x25 x26 ls hw (lv_sub hl [2, 1, 0] rfl)
  exact LOOP_4 n4 (0 : Int32) (0 : Int32) ls hw (lv_sub hl [2, 1, 0] rfl)
abbrev rm8_snapshot : Room := { frames := 1, cells := 0, slots := 0, locals := 22 }
theorem nm8_snapshot : kNm yX8_snapshot 0 := by decide +kernel
set_option maxHeartbeats 4000000 in
set_option maxRecDepth 100000 in
theorem c8_snapshot (l : Launch) (D : va_G) (cI cJ cN cR : ClassId) (rf : Nat → Nat) (sz : Nat) (f_terms : Int32) (f_runs : Int32) (f_leftAbove : Int64) (f_leftBelow : Int64) (f_rightAbove : Int64) (f_rightBelow : Int64) (f_listed : Int32) (f_fed : Int32) (f_read : Int32) (f_formed : Int32) (f_hasSnapshot : Int32) (f_above : (Nat → Int32)) (f_below : (Nat → Int32)) (f_kindOf : (Nat → Int32)) (f_nodeAbove : (Nat → Int32)) (f_nodeBelow : (Nat → Int32)) (f_savedAbove : (Nat → Int32)) (f_savedBelow : (Nat → Int32)) (f_savedKind : (Nat → Int32)) (f_savedNodeAbove : (Nat → Int32)) (f_savedNodeBelow : (Nat → Int32))  (post : Int32 → Int32 → (Nat → Int32) → (Nat → Int32) → (Nat → Int32) → (Nat → Int32) → (Nat → Int32) → Prop) (hw : w8_snapshot f_hasSnapshot f_above f_below f_kindOf f_nodeAbove f_nodeBelow f_savedAbove f_savedBelow f_savedKind f_savedNodeAbove f_savedNodeBelow post) : Met l yX8_snapshot wsX8_snapshot rm8_snapshot (kP D (kT cI cJ cN cR) sz [.ref (rf 0)] [((rf 0), o8 rf f_terms f_runs f_leftAbove f_leftBelow f_rightAbove f_rightBelow f_listed f_fed f_read f_formed f_hasSnapshot), ((rf 1), ai cI 8 f_above), ((rf 2), ai cI 8 f_below), ((rf 25), ai cI 5 f_kindOf), ((rf 26), ai cI 5 f_nodeAbove), ((rf 27), ai cI 5 f_nodeBelow), ((rf 31), ai cI 8 f_savedAbove), ((rf 32), ai cI 8 f_savedBelow), ((rf 33), ai cI 5 f_savedKind), ((rf 34), ai cI 5 f_savedNodeAbove), ((rf 35), ai cI 5 f_savedNodeBelow)]) (kQi D [((rf 0), o8 rf f_terms f_runs f_leftAbove f_leftBelow f_rightAbove f_rightBelow f_listed f_fed f_read f_formed f_hasSnapshot), ((rf 1), ai cI 8 f_above), ((rf 2), ai cI 8 f_below), ((rf 25), ai cI 5 f_kindOf), ((rf 26), ai cI 5 f_nodeAbove), ((rf 27), ai cI 5 f_nodeBelow), ((rf 31), ai cI 8 f_savedAbove), ((rf 32), ai cI 8 f_savedBelow), ((rf 33), ai cI 5 f_savedKind), ((rf 34), ai cI 5 f_savedNodeAbove), ((rf 35), ai cI 5 f_savedNodeBelow)] sz (fun (r : Int32) (u : Int32 × (Nat → Int32) × (Nat → Int32) × (Nat → Int32) × (Nat → Int32) × (Nat → Int32)) => post r u.1 u.2.1 u.2.2.1 u.2.2.2.1 u.2.2.2.2.1 u.2.2.2.2.2) (fun (u : Int32 × (Nat → Int32) × (Nat → Int32) × (Nat → Int32) × (Nat → Int32) × (Nat → Int32)) => [((rf 0), o8 rf f_terms f_runs f_leftAbove f_leftBelow f_rightAbove f_rightBelow f_listed f_fed f_read f_formed u.1), ((rf 1), ai cI 8 f_above), ((rf 2), ai cI 8 f_below), ((rf 25), ai cI 5 f_kindOf), ((rf 26), ai cI 5 f_nodeAbove), ((rf 27), ai cI 5 f_nodeBelow), ((rf 31), ai cI 8 u.2.1), ((rf 32), ai cI 8 u.2.2.1), ((rf 33), ai cI 5 u.2.2.2.1), ((rf 34), ai cI 5 u.2.2.2.2.1), ((rf 35), ai cI 5 u.2.2.2.2.2)])) 0 0 (va_A [((rf 0), o8 rf f_terms f_runs f_leftAbove f_leftBelow f_rightAbove f_rightBelow f_listed f_fed f_read f_formed f_hasSnapshot), ((rf 1), ai cI 8 f_above), ((rf 2), ai cI 8 f_below), ((rf 25), ai cI 5 f_kindOf), ((rf 26), ai cI 5 f_nodeAbove), ((rf 27), ai cI 5 f_nodeBelow), ((rf 31), ai cI 8 f_savedAbove), ((rf 32), ai cI 8 f_savedBelow), ((rf 33), ai cI 5 f_savedKind), ((rf 34), ai cI 5 f_savedNodeAbove), ((rf 35), ai cI 5 f_savedNodeBelow)] sz) := by
  refine kMetI (cc := cX8_snapshot) (maxL := 2) (by decide +kernel) rfl (Nat.le_of_ble_eq_true rfl) ?_
  intro p e s m args below meth c H0 ls A Q C0 hK hN hP hD hS hA hl RET
  obtain ⟨hx, hb, hml, hown, hts⟩ := id C0
  have hl : lv_has ls 2 [(0, .ref (rf 0))] := hl
  have g100 := hts (.fieldLink RX8 100 "SternBrocotExplorerModel" "hasSnapshot" "Z") (by decide +kernel)
  have g104 := hts (.fieldLink RX8 104 "SternBrocotExplorerModel" "savedAbove" "[I") (by decide +kernel)
  have g7 := hts (.fieldLink RX8 7 "SternBrocotExplorerModel" "above" "[I") (by decide +kernel)
  have g107 := hts (.fieldLink RX8 107 "SternBrocotExplorerModel" "savedBelow" "[I") (by decide +kernel)
  have g13 := hts (.fieldLink RX8 13 "SternBrocotExplorerModel" "below" "[I") (by decide +kernel)
  have g110 := hts (.fieldLink RX8 110 "SternBrocotExplorerModel" "savedKind" "[I") (by decide +kernel)
  have g85 := hts (.fieldLink RX8 85 "SternBrocotExplorerModel" "kindOf" "[I") (by decide +kernel)
  have g113 := hts (.fieldLink RX8 113 "SternBrocotExplorerModel" "savedNodeAbove" "[I") (by decide +kernel)
  have g88 := hts (.fieldLink RX8 88 "SternBrocotExplorerModel" "nodeAbove" "[I") (by decide +kernel)
  have g116 := hts (.fieldLink RX8 116 "SternBrocotExplorerModel" "savedNodeBelow" "[I") (by decide +kernel)
  have g91 := hts (.fieldLink RX8 91 "SternBrocotExplorerModel" "nodeBelow" "[I") (by decide +kernel)
  have hi9 : ∀ w ∈ wsX80, w ∈ wsX8_snapshot := fun w h => List.mem_cons_of_mem _ (List.mem_append_right _ h)
  unfold w8_snapshot at hw
  have hP : va_P D vwCl [((rf 0), o8 rf f_terms f_runs f_leftAbove f_leftBelow f_rightAbove f_rightBelow f_listed f_fed f_read f_formed f_hasSnapshot), ((rf 1), ai cI 8 f_above), ((rf 2), ai cI 8 f_below), ((rf 25), ai cI 5 f_kindOf), ((rf 26), ai cI 5 f_nodeAbove), ((rf 27), ai cI 5 f_nodeBelow), ((rf 31), ai cI 8 f_savedAbove), ((rf 32), ai cI 8 f_savedBelow), ((rf 33), ai cI 5 f_savedKind), ((rf 34), ai cI 5 f_savedNodeAbove), ((rf 35), ai cI 5 f_savedNodeBelow)] H0 := hP
  refine lv_aload_n hx hb dX8_snapshot_0 rfl (lv_at hl 0 rfl) ?_
  refine lv_iconst (v := (1 : Int32)) hx hb dX8_snapshot_1 (by decide) ?_
  refine va_put (D := D) (ci := 8) (v := .int (1 : Int32)) (ty := .boolean) (C := RX8) (T := TX8) (N := 35) hx hb hts hi9 tyX8 tyX8_ok nmX8 hown hK hP hD hS 0 rfl rfl 29 (by decide) g100 (fun _ h9 => h9) rfl (by decide +kernel) rfl rfl (Nat.le_of_ble_eq_true rfl) dX8_snapshot_2 (fun H locs hP hD hS => ?_)
  have hP : va_P D vwCl [((rf 0), o8 rf f_terms f_runs f_leftAbove f_leftBelow f_rightAbove f_rightBelow f_listed f_fed f_read f_formed (1 : Int32)), ((rf 1), ai cI 8 f_above), ((rf 2), ai cI 8 f_below), ((rf 25), ai cI 5 f_kindOf), ((rf 26), ai cI 5 f_nodeAbove), ((rf 27), ai cI 5 f_nodeBelow), ((rf 31), ai cI 8 f_savedAbove), ((rf 32), ai cI 8 f_savedBelow), ((rf 33), ai cI 5 f_savedKind), ((rf 34), ai cI 5 f_savedNodeAbove), ((rf 35), ai cI 5 f_savedNodeBelow)] H := hP
  have hD : va_D A [((rf 0), o8 rf f_terms f_runs f_leftAbove f_leftBelow f_rightAbove f_rightBelow f_listed f_fed f_read f_formed (1 : Int32)), ((rf 1), ai cI 8 f_above), ((rf 2), ai cI 8 f_below), ((rf 25), ai cI 5 f_kindOf), ((rf 26), ai cI 5 f_nodeAbove), ((rf 27), ai cI 5 f_nodeBelow), ((rf 31), ai cI 8 f_savedAbove), ((rf 32), ai cI 8 f_savedBelow), ((rf 33), ai cI 5 f_savedKind), ((rf 34), ai cI 5 f_savedNodeAbove), ((rf 35), ai cI 5 f_savedNodeBelow)] := hD
  refine lv_iconst (v := (0 : Int32)) hx hb dX8_snapshot_5 (by decide) ?_
  refine lv_istore_n (lv' := [(1, .int (0 : Int32)), (0, .ref (rf 0))]) hx hb dX8_snapshot_6 rfl hl (by decide) rfl (fun ls hl => ?_)
  obtain ⟨n7, hw⟩ := hw
  have LOOP_7 : ∀ (n7 : Nat) (v1 : Int32) (f_savedAbove : (Nat → Int32)) (f_savedBelow : (Nat → Int32)) (H : Heap) (locs : List Loc) (ls : Array Slot), w8_snapshot_L7 (1 : Int32) f_above f_below f_kindOf f_nodeAbove f_nodeBelow f_savedKind f_savedNodeAbove f_savedNodeBelow post n7 v1 f_savedAbove f_savedBelow → va_P D vwCl [((rf 0), o8 rf f_terms f_runs f_leftAbove f_leftBelow f_rightAbove f_rightBelow f_listed f_fed f_read f_formed (1 : Int32)), ((rf 1), ai cI 8 f_above), ((rf 2), ai cI 8 f_below), ((rf 25), ai cI 5 f_kindOf), ((rf 26), ai cI 5 f_nodeAbove), ((rf 27), ai cI 5 f_nodeBelow), ((rf 31), ai cI 8 f_savedAbove), ((rf 32), ai cI 8 f_savedBelow), ((rf 33), ai cI 5 f_savedKind), ((rf 34), ai cI 5 f_savedNodeAbove), ((rf 35), ai cI 5 f_savedNodeBelow)] H → va_D A [((rf 0), o8 rf f_terms f_runs f_leftAbove f_leftBelow f_rightAbove f_rightBelow f_listed f_fed f_read f_formed (1 : Int32)), ((rf 1), ai cI 8 f_above), ((rf 2), ai cI 8 f_below), ((rf 25), ai cI 5 f_kindOf), ((rf 26), ai cI 5 f_nodeAbove), ((rf 27), ai cI 5 f_nodeBelow), ((rf 31), ai cI 8 f_savedAbove), ((rf 32), ai cI 8 f_savedBelow), ((rf 33), ai cI 5 f_savedKind), ((rf 34), ai cI 5 f_savedNodeAbove), ((rf 35), ai cI 5 f_savedNodeBelow)] → va_S A H0 H locs → lv_has ls 2 [(0, .ref (rf 0)), (1, .int v1)] → W p l e rm8_snapshot s m args below meth c H locs 0 0 Q (F0 m 7 ls []) := by
    clear hw hl hP hD hS
    intro n7
    induction n7 with
    | zero =>
      intro v1 f_savedAbove f_savedBelow H locs ls hw hP hD hS hl
      rw [w8_snapshot_L7] at hw
      exact hw.elim
    | succ n7 ih7 =>
      intro v1 f_savedAbove f_savedBelow H locs ls hw hP hD hS hl
      rw [w8_snapshot_L7] at hw
      refine lv_iload_n hx hb dX8_snapshot_7 rfl (lv_at hl 1 rfl) ?_
      refine lv_bipush (v := (8 : Int32)) hx hb dX8_snapshot_8 (by decide) ?_
      refine lv_icmp_ge (tgt := 43) hx hb dX8_snapshot_10 (by decide) (fun k => ?_) (fun k => ?_)
      · have hw := hw.1 k
        refine lv_iconst (v := (0 : Int32)) hx hb dX8_snapshot_43 (by decide) ?_
        refine lv_istore_n (lv' := [(1, .int (0 : Int32)), (0, .ref (rf 0))]) hx hb dX8_snapshot_44 rfl hl (by decide) rfl (fun ls hl => ?_)
        obtain ⟨n45, hw⟩ := hw
        have LOOP_45 : ∀ (n45 : Nat) (v1 : Int32) (f_savedKind : (Nat → Int32)) (f_savedNodeAbove : (Nat → Int32)) (f_savedNodeBelow : (Nat → Int32)) (H : Heap) (locs : List Loc) (ls : Array Slot), w8_snapshot_L45 (1 : Int32) f_kindOf f_nodeAbove f_nodeBelow f_savedAbove f_savedBelow post n45 v1 f_savedKind f_savedNodeAbove f_savedNodeBelow → va_P D vwCl [((rf 0), o8 rf f_terms f_runs f_leftAbove f_leftBelow f_rightAbove f_rightBelow f_listed f_fed f_read f_formed (1 : Int32)), ((rf 1), ai cI 8 f_above), ((rf 2), ai cI 8 f_below), ((rf 25), ai cI 5 f_kindOf), ((rf 26), ai cI 5 f_nodeAbove), ((rf 27), ai cI 5 f_nodeBelow), ((rf 31), ai cI 8 f_savedAbove), ((rf 32), ai cI 8 f_savedBelow), ((rf 33), ai cI 5 f_savedKind), ((rf 34), ai cI 5 f_savedNodeAbove), ((rf 35), ai cI 5 f_savedNodeBelow)] H → va_D A [((rf 0), o8 rf f_terms f_runs f_leftAbove f_leftBelow f_rightAbove f_rightBelow f_listed f_fed f_read f_formed (1 : Int32)), ((rf 1), ai cI 8 f_above), ((rf 2), ai cI 8 f_below), ((rf 25), ai cI 5 f_kindOf), ((rf 26), ai cI 5 f_nodeAbove), ((rf 27), ai cI 5 f_nodeBelow), ((rf 31), ai cI 8 f_savedAbove), ((rf 32), ai cI 8 f_savedBelow), ((rf 33), ai cI 5 f_savedKind), ((rf 34), ai cI 5 f_savedNodeAbove), ((rf 35), ai cI 5 f_savedNodeBelow)] → va_S A H0 H locs → lv_has ls 2 [(0, .ref (rf 0)), (1, .int v1)] → W p l e rm8_snapshot s m args below meth c H locs 0 0 Q (F0 m 45 ls []) := by
          clear hw hl hP hD hS
          intro n45
          induction n45 with
          | zero =>
            intro v1 f_savedKind f_savedNodeAbove f_savedNodeBelow H locs ls hw hP hD hS hl
            rw [w8_snapshot_L45] at hw
            exact hw.elim
          | succ n45 ih45 =>
            intro v1 f_savedKind f_savedNodeAbove f_savedNodeBelow H locs ls hw hP hD hS hl
            rw [w8_snapshot_L45] at hw
            refine lv_iload_n hx hb dX8_snapshot_45 rfl (lv_at hl 1 rfl) ?_
            refine lv_iconst (v := (5 : Int32)) hx hb dX8_snapshot_46 (by decide) ?_
            refine lv_icmp_ge (tgt := 92) hx hb dX8_snapshot_47 (by decide) (fun k => ?_) (fun k => ?_)
            · have hw := hw.1 k
              refine lv_aload_n hx hb dX8_snapshot_92 rfl (lv_at hl 0 rfl) ?_
              refine kcRI (wc := [((rf 0), o8 rf f_terms f_runs f_leftAbove f_leftBelow f_rightAbove f_rightBelow f_listed f_fed f_read f_formed (1 : Int32)), ((rf 25), ai cI 5 f_kindOf)]) hP [0, 3] rfl (fun hPc => oV (As := []) (rest := []) C0 hK hN (c8_nodes l D cI cJ cN cR rf f_terms f_runs f_leftAbove f_leftBelow f_rightAbove f_rightBelow f_listed f_fed f_read f_formed (1 : Int32) f_kindOf  _ hw) 0 gX8_snapshot_X8_nodes rfl ⟨rfl, rfl⟩ nm8_nodes ⟨Nat.le_of_ble_eq_true rfl, Nat.le_of_ble_eq_true rfl⟩ (q0 := 0) rfl rfl rfl rfl hl.1 rfl (Nat.le_of_ble_eq_true rfl) dX8_snapshot_93 ⟨Nat.le_of_ble_eq_true rfl, Nat.le_of_ble_eq_true rfl⟩ hPc) (fun r93 hw => ?_)
              exact RET _ _ _ ((1 : Int32), f_savedAbove, f_savedBelow, f_savedKind, f_savedNodeAbove, f_savedNodeBelow) _ _ hw hP hD hS dX8_snapshot_96
            · have hw := hw.2 k
              refine lv_aload_n hx hb dX8_snapshot_50 rfl (lv_at hl 0 rfl) ?_
              refine va_get (D := D) (ci := 8) (v := .ref (rf 33)) (C := RX8) (T := TX8) (N := 35) hx hb hts hi9 hown hK hP 0 rfl rfl 32 (by decide) g110 (fun _ h9 => h9) rfl dX8_snapshot_51 ?_
              refine lv_iload_n hx hb dX8_snapshot_54 rfl (lv_at hl 1 rfl) ?_
              refine lv_aload_n hx hb dX8_snapshot_55 rfl (lv_at hl 0 rfl) ?_
              refine va_get (D := D) (ci := 8) (v := .ref (rf 25)) (C := RX8) (T := TX8) (N := 35) hx hb hts hi9 hown hK hP 0 rfl rfl 24 (by decide) g85 (fun _ h9 => h9) rfl dX8_snapshot_56 ?_
              refine lv_iload_n hx hb dX8_snapshot_59 rfl (lv_at hl 1 rfl) ?_
              obtain ⟨hin, hw⟩ := hw
              refine va_iald hx hb hK hP 3 0 rfl rfl hin dX8_snapshot_60 ?_
              obtain ⟨hin, hw⟩ := hw
              refine va_iast hx hb hK hP hD hS 8 0 rfl rfl hin dX8_snapshot_61 (fun H locs hP hD hS => ?_)
              have hP : va_P D vwCl [((rf 0), o8 rf f_terms f_runs f_leftAbove f_leftBelow f_rightAbove f_rightBelow f_listed f_fed f_read f_formed (1 : Int32)), ((rf 1), ai cI 8 f_above), ((rf 2), ai cI 8 f_below), ((rf 25), ai cI 5 f_kindOf), ((rf 26), ai cI 5 f_nodeAbove), ((rf 27), ai cI 5 f_nodeBelow), ((rf 31), ai cI 8 f_savedAbove), ((rf 32), ai cI 8 f_savedBelow), ((rf 33), ai cI 5 (upd f_savedKind v1.toNatClampNeg (f_kindOf v1.toNatClampNeg))), ((rf 34), ai cI 5 f_savedNodeAbove), ((rf 35), ai cI 5 f_savedNodeBelow)] H := hP
              have hD : va_D A [((rf 0), o8 rf f_terms f_runs f_leftAbove f_leftBelow f_rightAbove f_rightBelow f_listed f_fed f_read f_formed (1 : Int32)), ((rf 1), ai cI 8 f_above), ((rf 2), ai cI 8 f_below), ((rf 25), ai cI 5 f_kindOf), ((rf 26), ai cI 5 f_nodeAbove), ((rf 27), ai cI 5 f_nodeBelow), ((rf 31), ai cI 8 f_savedAbove), ((rf 32), ai cI 8 f_savedBelow), ((rf 33), ai cI 5 (upd f_savedKind v1.toNatClampNeg (f_kindOf v1.toNatClampNeg))), ((rf 34), ai cI 5 f_savedNodeAbove), ((rf 35), ai cI 5 f_savedNodeBelow)] := hD
              refine lv_aload_n hx hb dX8_snapshot_62 rfl (lv_at hl 0 rfl) ?_
              refine va_get (D := D) (ci := 8) (v := .ref (rf 34)) (C := RX8) (T := TX8) (N := 35) hx hb hts hi9 hown hK hP 0 rfl rfl 33 (by decide) g113 (fun _ h9 => h9) rfl dX8_snapshot_63 ?_
              refine lv_iload_n hx hb dX8_snapshot_66 rfl (lv_at hl 1 rfl) ?_
              refine lv_aload_n hx hb dX8_snapshot_67 rfl (lv_at hl 0 rfl) ?_
              refine va_get (D := D) (ci := 8) (v := .ref (rf 26)) (C := RX8) (T := TX8) (N := 35) hx hb hts hi9 hown hK hP 0 rfl rfl 25 (by decide) g88 (fun _ h9 => h9) rfl dX8_snapshot_68 ?_
              refine lv_iload_n hx hb dX8_snapshot_71 rfl (lv_at hl 1 rfl) ?_
              obtain ⟨hin, hw⟩ := hw
              refine va_iald hx hb hK hP 4 0 rfl rfl hin dX8_snapshot_72 ?_
              obtain ⟨hin, hw⟩ := hw
              refine va_iast hx hb hK hP hD hS 9 0 rfl rfl hin dX8_snapshot_73 (fun H locs hP hD hS => ?_)
              have hP : va_P D vwCl [((rf 0), o8 rf f_terms f_runs f_leftAbove f_leftBelow f_rightAbove f_rightBelow f_listed f_fed f_read f_formed (1 : Int32)), ((rf 1), ai cI 8 f_above), ((rf 2), ai cI 8 f_below), ((rf 25), ai cI 5 f_kindOf), ((rf 26), ai cI 5 f_nodeAbove), ((rf 27), ai cI 5 f_nodeBelow), ((rf 31), ai cI 8 f_savedAbove), ((rf 32), ai cI 8 f_savedBelow), ((rf 33), ai cI 5 (upd f_savedKind v1.toNatClampNeg (f_kindOf v1.toNatClampNeg))), ((rf 34), ai cI 5 (upd f_savedNodeAbove v1.toNatClampNeg (f_nodeAbove v1.toNatClampNeg))), ((rf 35), ai cI 5 f_savedNodeBelow)] H := hP
              have hD : va_D A [((rf 0), o8 rf f_terms f_runs f_leftAbove f_leftBelow f_rightAbove f_rightBelow f_listed f_fed f_read f_formed (1 : Int32)), ((rf 1), ai cI 8 f_above), ((rf 2), ai cI 8 f_below), ((rf 25), ai cI 5 f_kindOf), ((rf 26), ai cI 5 f_nodeAbove), ((rf 27), ai cI 5 f_nodeBelow), ((rf 31), ai cI 8 f_savedAbove), ((rf 32), ai cI 8 f_savedBelow), ((rf 33), ai cI 5 (upd f_savedKind v1.toNatClampNeg (f_kindOf v1.toNatClampNeg))), ((rf 34), ai cI 5 (upd f_savedNodeAbove v1.toNatClampNeg (f_nodeAbove v1.toNatClampNeg))), ((rf 35), ai cI 5 f_savedNodeBelow)] := hD
              refine lv_aload_n hx hb dX8_snapshot_74 rfl (lv_at hl 0 rfl) ?_
              refine va_get (D := D) (ci := 8) (v := .ref (rf 35)) (C := RX8) (T := TX8) (N := 35) hx hb hts hi9 hown hK hP 0 rfl rfl 34 (by decide) g116 (fun _ h9 => h9) rfl dX8_snapshot_75 ?_
              refine lv_iload_n hx hb dX8_snapshot_78 rfl (lv_at hl 1 rfl) ?_
              refine lv_aload_n hx hb dX8_snapshot_79 rfl (lv_at hl 0 rfl) ?_
              refine va_get (D := D) (ci := 8) (v := .ref (rf 27)) (C := RX8) (T := TX8) (N := 35) hx hb hts hi9 hown hK hP 0 rfl rfl 26 (by decide) g91 (fun _ h9 => h9) rfl dX8_snapshot_80 ?_
              refine lv_iload_n hx hb dX8_snapshot_83 rfl (lv_at hl 1 rfl) ?_
              obtain ⟨hin, hw⟩ := hw
              refine va_iald hx hb hK hP 5 0 rfl rfl hin dX8_snapshot_84 ?_
              obtain ⟨hin, hw⟩ := hw
              refine va_iast hx hb hK hP hD hS 10 0 rfl rfl hin dX8_snapshot_85 (fun H locs hP hD hS => ?_)
              have hP : va_P D vwCl [((rf 0), o8 rf f_terms f_runs f_leftAbove f_leftBelow f_rightAbove f_rightBelow f_listed f_fed f_read f_formed (1 : Int32)), ((rf 1), ai cI 8 f_above), ((rf 2), ai cI 8 f_below), ((rf 25), ai cI 5 f_kindOf), ((rf 26), ai cI 5 f_nodeAbove), ((rf 27), ai cI 5 f_nodeBelow), ((rf 31), ai cI 8 f_savedAbove), ((rf 32), ai cI 8 f_savedBelow), ((rf 33), ai cI 5 (upd f_savedKind v1.toNatClampNeg (f_kindOf v1.toNatClampNeg))), ((rf 34), ai cI 5 (upd f_savedNodeAbove v1.toNatClampNeg (f_nodeAbove v1.toNatClampNeg))), ((rf 35), ai cI 5 (upd f_savedNodeBelow v1.toNatClampNeg (f_nodeBelow v1.toNatClampNeg)))] H := hP
              have hD : va_D A [((rf 0), o8 rf f_terms f_runs f_leftAbove f_leftBelow f_rightAbove f_rightBelow f_listed f_fed f_read f_formed (1 : Int32)), ((rf 1), ai cI 8 f_above), ((rf 2), ai cI 8 f_below), ((rf 25), ai cI 5 f_kindOf), ((rf 26), ai cI 5 f_nodeAbove), ((rf 27), ai cI 5 f_nodeBelow), ((rf 31), ai cI 8 f_savedAbove), ((rf 32), ai cI 8 f_savedBelow), ((rf 33), ai cI 5 (upd f_savedKind v1.toNatClampNeg (f_kindOf v1.toNatClampNeg))), ((rf 34), ai cI 5 (upd f_savedNodeAbove v1.toNatClampNeg (f_nodeAbove v1.toNatClampNeg))), ((rf 35), ai cI 5 (upd f_savedNodeBelow v1.toNatClampNeg (f_nodeBelow v1.toNatClampNeg)))] := hD
              obtain ⟨x86, ex86⟩ : ∃ y : Int32, y = (v1 + (1 : Int32)) := ⟨_, rfl⟩
              have hw := hw x86 ex86
              refine lv_iinc (v := x86) (lv' := [(1, .int x86), (0, .ref (rf 0))]) hx hb dX8_snapshot_86 hl (k := 1) rfl (by rw [ex86]; rfl) (by decide) rfl (fun ls hl => ?_)
              refine lv_goto (tgt := 45) hx hb dX8_snapshot_89 (by decide) ?_
              exact ih45 x86 (upd f_savedKind v1.toNatClampNeg (f_kindOf v1.toNatClampNeg)) (upd f_savedNodeAbove v1.toNatClampNeg (f_nodeAbove v1.toNatClampNeg)) (upd f_savedNodeBelow v1.toNatClampNeg (f_nodeBelow v1.toNatClampNeg)) _ _ ls hw hP hD hS (lv_sub hl [1, 0] rfl)
        exact LOOP_45 n45 (0 : Int32) f_savedKind f_savedNodeAbove f_savedNodeBelow _ _ ls hw hP hD hS (lv_sub hl [1, 0] rfl)
      · have hw := hw.2 k
        refine lv_aload_n hx hb dX8_snapshot_13 rfl (lv_at hl 0 rfl) ?_
        refine va_get (D := D) (ci := 8) (v := .ref (rf 31)) (C := RX8) (T := TX8) (N := 35) hx hb hts hi9 hown hK hP 0 rfl rfl 30 (by decide) g104 (fun _ h9 => h9) rfl dX8_snapshot_14 ?_
        refine lv_iload_n hx hb dX8_snapshot_17 rfl (lv_at hl 1 rfl) ?_
        refine lv_aload_n hx hb dX8_snapshot_18 rfl (lv_at hl 0 rfl) ?_
        refine va_get (D := D) (ci := 8) (v := .ref (rf 1)) (C := RX8) (T := TX8) (N := 35) hx hb hts hi9 hown hK hP 0 rfl rfl 0 (by decide) g7 (fun _ h9 => h9) rfl dX8_snapshot_19 ?_
        refine lv_iload_n hx hb dX8_snapshot_22 rfl (lv_at hl 1 rfl) ?_
        obtain ⟨hin, hw⟩ := hw
        refine va_iald hx hb hK hP 1 0 rfl rfl hin dX8_snapshot_23 ?_
        obtain ⟨hin, hw⟩ := hw
        refine va_iast hx hb hK hP hD hS 6 0 rfl rfl hin dX8_snapshot_24 (fun H locs hP hD hS => ?_)
        have hP : va_P D vwCl [((rf 0), o8 rf f_terms f_runs f_leftAbove f_leftBelow f_rightAbove f_rightBelow f_listed f_fed f_read f_formed (1 : Int32)), ((rf 1), ai cI 8 f_above), ((rf 2), ai cI 8 f_below), ((rf 25), ai cI 5 f_kindOf), ((rf 26), ai cI 5 f_nodeAbove), ((rf 27), ai cI 5 f_nodeBelow), ((rf 31), ai cI 8 (upd f_savedAbove v1.toNatClampNeg (f_above v1.toNatClampNeg))), ((rf 32), ai cI 8 f_savedBelow), ((rf 33), ai cI 5 f_savedKind), ((rf 34), ai cI 5 f_savedNodeAbove), ((rf 35), ai cI 5 f_savedNodeBelow)] H := hP
        have hD : va_D A [((rf 0), o8 rf f_terms f_runs f_leftAbove f_leftBelow f_rightAbove f_rightBelow f_listed f_fed f_read f_formed (1 : Int32)), ((rf 1), ai cI 8 f_above), ((rf 2), ai cI 8 f_below), ((rf 25), ai cI 5 f_kindOf), ((rf 26), ai cI 5 f_nodeAbove), ((rf 27), ai cI 5 f_nodeBelow), ((rf 31), ai cI 8 (upd f_savedAbove v1.toNatClampNeg (f_above v1.toNatClampNeg))), ((rf 32), ai cI 8 f_savedBelow), ((rf 33), ai cI 5 f_savedKind), ((rf 34), ai cI 5 f_savedNodeAbove), ((rf 35), ai cI 5 f_savedNodeBelow)] := hD
        refine lv_aload_n hx hb dX8_snapshot_25 rfl (lv_at hl 0 rfl) ?_
        refine va_get (D := D) (ci := 8) (v := .ref (rf 32)) (C := RX8) (T := TX8) (N := 35) hx hb hts hi9 hown hK hP 0 rfl rfl 31 (by decide) g107 (fun _ h9 => h9) rfl dX8_snapshot_26 ?_
        refine lv_iload_n hx hb dX8_snapshot_29 rfl (lv_at hl 1 rfl) ?_
        refine lv_aload_n hx hb dX8_snapshot_30 rfl (lv_at hl 0 rfl) ?_
        refine va_get (D := D) (ci := 8) (v := .ref (rf 2)) (C := RX8) (T := TX8) (N := 35) hx hb hts hi9 hown hK hP 0 rfl rfl 1 (by decide) g13 (fun _ h9 => h9) rfl dX8_snapshot_31 ?_
        refine lv_iload_n hx hb dX8_snapshot_34 rfl (lv_at hl 1 rfl) ?_
        obtain ⟨hin, hw⟩ := hw
        refine va_iald hx hb hK hP 2 0 rfl rfl hin dX8_snapshot_35 ?_
        obtain ⟨hin, hw⟩ := hw
        refine va_iast hx hb hK hP hD hS 7 0 rfl rfl hin dX8_snapshot_36 (fun H locs hP hD hS => ?_)
        have hP : va_P D vwCl [((rf 0), o8 rf f_terms f_runs f_leftAbove f_leftBelow f_rightAbove f_rightBelow f_listed f_fed f_read f_formed (1 : Int32)), ((rf 1), ai cI 8 f_above), ((rf 2), ai cI 8 f_below), ((rf 25), ai cI 5 f_kindOf), ((rf 26), ai cI 5 f_nodeAbove), ((rf 27), ai cI 5 f_nodeBelow), ((rf 31), ai cI 8 (upd f_savedAbove v1.toNatClampNeg (f_above v1.toNatClampNeg))), ((rf 32), ai cI 8 (upd f_savedBelow v1.toNatClampNeg (f_below v1.toNatClampNeg))), ((rf 33), ai cI 5 f_savedKind), ((rf 34), ai cI 5 f_savedNodeAbove), ((rf 35), ai cI 5 f_savedNodeBelow)] H := hP
        have hD : va_D A [((rf 0), o8 rf f_terms f_runs f_leftAbove f_leftBelow f_rightAbove f_rightBelow f_listed f_fed f_read f_formed (1 : Int32)), ((rf 1), ai cI 8 f_above), ((rf 2), ai cI 8 f_below), ((rf 25), ai cI 5 f_kindOf), ((rf 26), ai cI 5 f_nodeAbove), ((rf 27), ai cI 5 f_nodeBelow), ((rf 31), ai cI 8 (upd f_savedAbove v1.toNatClampNeg (f_above v1.toNatClampNeg))), ((rf 32), ai cI 8 (upd f_savedBelow v1.toNatClampNeg (f_below v1.toNatClampNeg))), ((rf 33), ai cI 5 f_savedKind), ((rf 34), ai cI 5 f_savedNodeAbove), ((rf 35), ai cI 5 f_savedNodeBelow)] := hD
        obtain ⟨x37, ex37⟩ : ∃ y : Int32, y = (v1 + (1 : Int32)) := ⟨_, rfl⟩
        have hw := hw x37 ex37
        refine lv_iinc (v := x37) (lv' := [(1, .int x37), (0, .ref (rf 0))]) hx hb dX8_snapshot_37 hl (k := 1) rfl (by rw [ex37]; rfl) (by decide) rfl (fun ls hl => ?_)
        refine lv_goto (tgt := 7) hx hb dX8_snapshot_40 (by decide) ?_
        exact ih7 x37 (upd f_savedAbove v1.toNatClampNeg (f_above v1.toNatClampNeg)) (upd f_savedBelow v1.toNatClampNeg (f_below v1.toNatClampNeg)) _ _ ls hw hP hD hS (lv_sub hl [1, 0] rfl)
  exact LOOP_7 n7 (0 : Int32) f_savedAbove f_savedBelow _ _ ls hw hP hD hS (lv_sub hl [1, 0] rfl)
abbrev rm8_restore : Room := { frames := 1, cells := 0, slots := 0, locals := 22 }
theorem nm8_restore : kNm yX8_restore 0 := by decide +kernel
set_option maxHeartbeats 4000000 in
set_option maxRecDepth 100000 in
theorem c8_restore (l : Launch) (D : va_G) (cI cJ cN cR : ClassId) (rf : Nat → Nat) (sz : Nat) (f_terms : Int32) (f_runs : Int32) (f_leftAbove : Int64) (f_leftBelow : Int64) (f_rightAbove : Int64) (f_rightBelow : Int64) (f_listed : Int32) (f_fed : Int32) (f_read : Int32) (f_formed : Int32) (f_hasSnapshot : Int32) (f_above : (Nat → Int32)) (f_below : (Nat → Int32)) (f_kindOf : (Nat → Int32)) (f_nodeAbove : (Nat → Int32)) (f_nodeBelow : (Nat → Int32)) (f_savedAbove : (Nat → Int32)) (f_savedBelow : (Nat → Int32)) (f_savedKind : (Nat → Int32)) (f_savedNodeAbove : (Nat → Int32)) (f_savedNodeBelow : (Nat → Int32))  (post : Int32 → (Nat → Int32) → (Nat → Int32) → (Nat → Int32) → (Nat → Int32) → (Nat → Int32) → Prop) (hw : w8_restore f_hasSnapshot f_above f_below f_kindOf f_nodeAbove f_nodeBelow f_savedAbove f_savedBelow f_savedKind f_savedNodeAbove f_savedNodeBelow post) : Met l yX8_restore wsX8_restore rm8_restore (kP D (kT cI cJ cN cR) sz [.ref (rf 0)] [((rf 0), o8 rf f_terms f_runs f_leftAbove f_leftBelow f_rightAbove f_rightBelow f_listed f_fed f_read f_formed f_hasSnapshot), ((rf 1), ai cI 8 f_above), ((rf 2), ai cI 8 f_below), ((rf 25), ai cI 5 f_kindOf), ((rf 26), ai cI 5 f_nodeAbove), ((rf 27), ai cI 5 f_nodeBelow), ((rf 31), ai cI 8 f_savedAbove), ((rf 32), ai cI 8 f_savedBelow), ((rf 33), ai cI 5 f_savedKind), ((rf 34), ai cI 5 f_savedNodeAbove), ((rf 35), ai cI 5 f_savedNodeBelow)]) (kQi D [((rf 0), o8 rf f_terms f_runs f_leftAbove f_leftBelow f_rightAbove f_rightBelow f_listed f_fed f_read f_formed f_hasSnapshot), ((rf 1), ai cI 8 f_above), ((rf 2), ai cI 8 f_below), ((rf 25), ai cI 5 f_kindOf), ((rf 26), ai cI 5 f_nodeAbove), ((rf 27), ai cI 5 f_nodeBelow), ((rf 31), ai cI 8 f_savedAbove), ((rf 32), ai cI 8 f_savedBelow), ((rf 33), ai cI 5 f_savedKind), ((rf 34), ai cI 5 f_savedNodeAbove), ((rf 35), ai cI 5 f_savedNodeBelow)] sz (fun (r : Int32) (u : (Nat → Int32) × (Nat → Int32) × (Nat → Int32) × (Nat → Int32) × (Nat → Int32)) => post r u.1 u.2.1 u.2.2.1 u.2.2.2.1 u.2.2.2.2) (fun (u : (Nat → Int32) × (Nat → Int32) × (Nat → Int32) × (Nat → Int32) × (Nat → Int32)) => [((rf 0), o8 rf f_terms f_runs f_leftAbove f_leftBelow f_rightAbove f_rightBelow f_listed f_fed f_read f_formed f_hasSnapshot), ((rf 1), ai cI 8 u.1), ((rf 2), ai cI 8 u.2.1), ((rf 25), ai cI 5 u.2.2.1), ((rf 26), ai cI 5 u.2.2.2.1), ((rf 27), ai cI 5 u.2.2.2.2), ((rf 31), ai cI 8 f_savedAbove), ((rf 32), ai cI 8 f_savedBelow), ((rf 33), ai cI 5 f_savedKind), ((rf 34), ai cI 5 f_savedNodeAbove), ((rf 35), ai cI 5 f_savedNodeBelow)])) 0 0 (va_A [((rf 0), o8 rf f_terms f_runs f_leftAbove f_leftBelow f_rightAbove f_rightBelow f_listed f_fed f_read f_formed f_hasSnapshot), ((rf 1), ai cI 8 f_above), ((rf 2), ai cI 8 f_below), ((rf 25), ai cI 5 f_kindOf), ((rf 26), ai cI 5 f_nodeAbove), ((rf 27), ai cI 5 f_nodeBelow), ((rf 31), ai cI 8 f_savedAbove), ((rf 32), ai cI 8 f_savedBelow), ((rf 33), ai cI 5 f_savedKind), ((rf 34), ai cI 5 f_savedNodeAbove), ((rf 35), ai cI 5 f_savedNodeBelow)] sz) := by
  refine kMetI (cc := cX8_restore) (maxL := 2) (by decide +kernel) rfl (Nat.le_of_ble_eq_true rfl) ?_
  intro p e s m args below meth c H0 ls A Q C0 hK hN hP hD hS hA hl RET
  obtain ⟨hx, hb, hml, hown, hts⟩ := id C0
  have hl : lv_has ls 2 [(0, .ref (rf 0))] := hl
  have g100 := hts (.fieldLink RX8 100 "SternBrocotExplorerModel" "hasSnapshot" "Z") (by decide +kernel)
  have g7 := hts (.fieldLink RX8 7 "SternBrocotExplorerModel" "above" "[I") (by decide +kernel)
  have g104 := hts (.fieldLink RX8 104 "SternBrocotExplorerModel" "savedAbove" "[I") (by decide +kernel)
  have g13 := hts (.fieldLink RX8 13 "SternBrocotExplorerModel" "below" "[I") (by decide +kernel)
  have g107 := hts (.fieldLink RX8 107 "SternBrocotExplorerModel" "savedBelow" "[I") (by decide +kernel)
  have g85 := hts (.fieldLink RX8 85 "SternBrocotExplorerModel" "kindOf" "[I") (by decide +kernel)
  have g110 := hts (.fieldLink RX8 110 "SternBrocotExplorerModel" "savedKind" "[I") (by decide +kernel)
  have g88 := hts (.fieldLink RX8 88 "SternBrocotExplorerModel" "nodeAbove" "[I") (by decide +kernel)
  have g113 := hts (.fieldLink RX8 113 "SternBrocotExplorerModel" "savedNodeAbove" "[I") (by decide +kernel)
  have g91 := hts (.fieldLink RX8 91 "SternBrocotExplorerModel" "nodeBelow" "[I") (by decide +kernel)
  have g116 := hts (.fieldLink RX8 116 "SternBrocotExplorerModel" "savedNodeBelow" "[I") (by decide +kernel)
  have hi9 : ∀ w ∈ wsX80, w ∈ wsX8_restore := fun w h => List.mem_cons_of_mem _ (List.mem_append_right _ h)
  unfold w8_restore at hw
  have hP : va_P D vwCl [((rf 0), o8 rf f_terms f_runs f_leftAbove f_leftBelow f_rightAbove f_rightBelow f_listed f_fed f_read f_formed f_hasSnapshot), ((rf 1), ai cI 8 f_above), ((rf 2), ai cI 8 f_below), ((rf 25), ai cI 5 f_kindOf), ((rf 26), ai cI 5 f_nodeAbove), ((rf 27), ai cI 5 f_nodeBelow), ((rf 31), ai cI 8 f_savedAbove), ((rf 32), ai cI 8 f_savedBelow), ((rf 33), ai cI 5 f_savedKind), ((rf 34), ai cI 5 f_savedNodeAbove), ((rf 35), ai cI 5 f_savedNodeBelow)] H0 := hP
  refine lv_aload_n hx hb dX8_restore_0 rfl (lv_at hl 0 rfl) ?_
  refine va_get (D := D) (ci := 8) (v := .int f_hasSnapshot) (C := RX8) (T := TX8) (N := 35) hx hb hts hi9 hown hK hP 0 rfl rfl 29 (by decide) g100 (fun _ h9 => h9) rfl dX8_restore_1 ?_
  refine lv_if_ne (tgt := 10) hx hb dX8_restore_4 (by decide) (fun k => ?_) (fun k => ?_)
  · have hw := hw.1 k
    refine lv_iconst (v := (0 : Int32)) hx hb dX8_restore_10 (by decide) ?_
    refine lv_istore_n (lv' := [(1, .int (0 : Int32)), (0, .ref (rf 0))]) hx hb dX8_restore_11 rfl hl (by decide) rfl (fun ls hl => ?_)
    obtain ⟨n12, hw⟩ := hw
    have LOOP_12 : ∀ (n12 : Nat) (v1 : Int32) (f_above : (Nat → Int32)) (f_below : (Nat → Int32)) (H : Heap) (locs : List Loc) (ls : Array Slot), w8_restore_L12 f_kindOf f_nodeAbove f_nodeBelow f_savedAbove f_savedBelow f_savedKind f_savedNodeAbove f_savedNodeBelow post n12 v1 f_above f_below → va_P D vwCl [((rf 0), o8 rf f_terms f_runs f_leftAbove f_leftBelow f_rightAbove f_rightBelow f_listed f_fed f_read f_formed f_hasSnapshot), ((rf 1), ai cI 8 f_above), ((rf 2), ai cI 8 f_below), ((rf 25), ai cI 5 f_kindOf), ((rf 26), ai cI 5 f_nodeAbove), ((rf 27), ai cI 5 f_nodeBelow), ((rf 31), ai cI 8 f_savedAbove), ((rf 32), ai cI 8 f_savedBelow), ((rf 33), ai cI 5 f_savedKind), ((rf 34), ai cI 5 f_savedNodeAbove), ((rf 35), ai cI 5 f_savedNodeBelow)] H → va_D A [((rf 0), o8 rf f_terms f_runs f_leftAbove f_leftBelow f_rightAbove f_rightBelow f_listed f_fed f_read f_formed f_hasSnapshot), ((rf 1), ai cI 8 f_above), ((rf 2), ai cI 8 f_below), ((rf 25), ai cI 5 f_kindOf), ((rf 26), ai cI 5 f_nodeAbove), ((rf 27), ai cI 5 f_nodeBelow), ((rf 31), ai cI 8 f_savedAbove), ((rf 32), ai cI 8 f_savedBelow), ((rf 33), ai cI 5 f_savedKind), ((rf 34), ai cI 5 f_savedNodeAbove), ((rf 35), ai cI 5 f_savedNodeBelow)] → va_S A H0 H locs → lv_has ls 2 [(0, .ref (rf 0)), (1, .int v1)] → W p l e rm8_restore s m args below meth c H locs 0 0 Q (F0 m 12 ls []) := by
      clear hw hl hP hD hS
      intro n12
      induction n12 with
      | zero =>
        intro v1 f_above f_below H locs ls hw hP hD hS hl
        rw [w8_restore_L12] at hw
        exact hw.elim
      | succ n12 ih12 =>
        intro v1 f_above f_below H locs ls hw hP hD hS hl
        rw [w8_restore_L12] at hw
        refine lv_iload_n hx hb dX8_restore_12 rfl (lv_at hl 1 rfl) ?_
        refine lv_bipush (v := (8 : Int32)) hx hb dX8_restore_13 (by decide) ?_
        refine lv_icmp_ge (tgt := 48) hx hb dX8_restore_15 (by decide) (fun k => ?_) (fun k => ?_)
        · have hw := hw.1 k
          refine lv_iconst (v := (0 : Int32)) hx hb dX8_restore_48 (by decide) ?_
          refine lv_istore_n (lv' := [(1, .int (0 : Int32)), (0, .ref (rf 0))]) hx hb dX8_restore_49 rfl hl (by decide) rfl (fun ls hl => ?_)
          obtain ⟨n50, hw⟩ := hw
          have LOOP_50 : ∀ (n50 : Nat) (v1 : Int32) (f_kindOf : (Nat → Int32)) (f_nodeAbove : (Nat → Int32)) (f_nodeBelow : (Nat → Int32)) (H : Heap) (locs : List Loc) (ls : Array Slot), w8_restore_L50 f_above f_below f_savedKind f_savedNodeAbove f_savedNodeBelow post n50 v1 f_kindOf f_nodeAbove f_nodeBelow → va_P D vwCl [((rf 0), o8 rf f_terms f_runs f_leftAbove f_leftBelow f_rightAbove f_rightBelow f_listed f_fed f_read f_formed f_hasSnapshot), ((rf 1), ai cI 8 f_above), ((rf 2), ai cI 8 f_below), ((rf 25), ai cI 5 f_kindOf), ((rf 26), ai cI 5 f_nodeAbove), ((rf 27), ai cI 5 f_nodeBelow), ((rf 31), ai cI 8 f_savedAbove), ((rf 32), ai cI 8 f_savedBelow), ((rf 33), ai cI 5 f_savedKind), ((rf 34), ai cI 5 f_savedNodeAbove), ((rf 35), ai cI 5 f_savedNodeBelow)] H → va_D A [((rf 0), o8 rf f_terms f_runs f_leftAbove f_leftBelow f_rightAbove f_rightBelow f_listed f_fed f_read f_formed f_hasSnapshot), ((rf 1), ai cI 8 f_above), ((rf 2), ai cI 8 f_below), ((rf 25), ai cI 5 f_kindOf), ((rf 26), ai cI 5 f_nodeAbove), ((rf 27), ai cI 5 f_nodeBelow), ((rf 31), ai cI 8 f_savedAbove), ((rf 32), ai cI 8 f_savedBelow), ((rf 33), ai cI 5 f_savedKind), ((rf 34), ai cI 5 f_savedNodeAbove), ((rf 35), ai cI 5 f_savedNodeBelow)] → va_S A H0 H locs → lv_has ls 2 [(0, .ref (rf 0)), (1, .int v1)] → W p l e rm8_restore s m args below meth c H locs 0 0 Q (F0 m 50 ls []) := by
            clear hw hl hP hD hS
            intro n50
            induction n50 with
            | zero =>
              intro v1 f_kindOf f_nodeAbove f_nodeBelow H locs ls hw hP hD hS hl
              rw [w8_restore_L50] at hw
              exact hw.elim
            | succ n50 ih50 =>
              intro v1 f_kindOf f_nodeAbove f_nodeBelow H locs ls hw hP hD hS hl
              rw [w8_restore_L50] at hw
              refine lv_iload_n hx hb dX8_restore_50 rfl (lv_at hl 1 rfl) ?_
              refine lv_iconst (v := (5 : Int32)) hx hb dX8_restore_51 (by decide) ?_
              refine lv_icmp_ge (tgt := 97) hx hb dX8_restore_52 (by decide) (fun k => ?_) (fun k => ?_)
              · have hw := hw.1 k
                refine lv_aload_n hx hb dX8_restore_97 rfl (lv_at hl 0 rfl) ?_
                refine kcRI (wc := [((rf 0), o8 rf f_terms f_runs f_leftAbove f_leftBelow f_rightAbove f_rightBelow f_listed f_fed f_read f_formed f_hasSnapshot), ((rf 25), ai cI 5 f_kindOf)]) hP [0, 3] rfl (fun hPc => oV (As := []) (rest := []) C0 hK hN (c8_nodes l D cI cJ cN cR rf f_terms f_runs f_leftAbove f_leftBelow f_rightAbove f_rightBelow f_listed f_fed f_read f_formed f_hasSnapshot f_kindOf  _ hw) 0 gX8_restore_X8_nodes rfl ⟨rfl, rfl⟩ nm8_nodes ⟨Nat.le_of_ble_eq_true rfl, Nat.le_of_ble_eq_true rfl⟩ (q0 := 0) rfl rfl rfl rfl hl.1 rfl (Nat.le_of_ble_eq_true rfl) dX8_restore_98 ⟨Nat.le_of_ble_eq_true rfl, Nat.le_of_ble_eq_true rfl⟩ hPc) (fun r98 hw => ?_)
                exact RET _ _ _ (f_above, f_below, f_kindOf, f_nodeAbove, f_nodeBelow) _ _ hw hP hD hS dX8_restore_101
              · have hw := hw.2 k
                refine lv_aload_n hx hb dX8_restore_55 rfl (lv_at hl 0 rfl) ?_
                refine va_get (D := D) (ci := 8) (v := .ref (rf 25)) (C := RX8) (T := TX8) (N := 35) hx hb hts hi9 hown hK hP 0 rfl rfl 24 (by decide) g85 (fun _ h9 => h9) rfl dX8_restore_56 ?_
                refine lv_iload_n hx hb dX8_restore_59 rfl (lv_at hl 1 rfl) ?_
                refine lv_aload_n hx hb dX8_restore_60 rfl (lv_at hl 0 rfl) ?_
                refine va_get (D := D) (ci := 8) (v := .ref (rf 33)) (C := RX8) (T := TX8) (N := 35) hx hb hts hi9 hown hK hP 0 rfl rfl 32 (by decide) g110 (fun _ h9 => h9) rfl dX8_restore_61 ?_
                refine lv_iload_n hx hb dX8_restore_64 rfl (lv_at hl 1 rfl) ?_
                obtain ⟨hin, hw⟩ := hw
                refine va_iald hx hb hK hP 8 0 rfl rfl hin dX8_restore_65 ?_
                obtain ⟨hin, hw⟩ := hw
                refine va_iast hx hb hK hP hD hS 3 0 rfl rfl hin dX8_restore_66 (fun H locs hP hD hS => ?_)
                have hP : va_P D vwCl [((rf 0), o8 rf f_terms f_runs f_leftAbove f_leftBelow f_rightAbove f_rightBelow f_listed f_fed f_read f_formed f_hasSnapshot), ((rf 1), ai cI 8 f_above), ((rf 2), ai cI 8 f_below), ((rf 25), ai cI 5 (upd f_kindOf v1.toNatClampNeg (f_savedKind v1.toNatClampNeg))), ((rf 26), ai cI 5 f_nodeAbove), ((rf 27), ai cI 5 f_nodeBelow), ((rf 31), ai cI 8 f_savedAbove), ((rf 32), ai cI 8 f_savedBelow), ((rf 33), ai cI 5 f_savedKind), ((rf 34), ai cI 5 f_savedNodeAbove), ((rf 35), ai cI 5 f_savedNodeBelow)] H := hP
                have hD : va_D A [((rf 0), o8 rf f_terms f_runs f_leftAbove f_leftBelow f_rightAbove f_rightBelow f_listed f_fed f_read f_formed f_hasSnapshot), ((rf 1), ai cI 8 f_above), ((rf 2), ai cI 8 f_below), ((rf 25), ai cI 5 (upd f_kindOf v1.toNatClampNeg (f_savedKind v1.toNatClampNeg))), ((rf 26), ai cI 5 f_nodeAbove), ((rf 27), ai cI 5 f_nodeBelow), ((rf 31), ai cI 8 f_savedAbove), ((rf 32), ai cI 8 f_savedBelow), ((rf 33), ai cI 5 f_savedKind), ((rf 34), ai cI 5 f_savedNodeAbove), ((rf 35), ai cI 5 f_savedNodeBelow)] := hD
                refine lv_aload_n hx hb dX8_restore_67 rfl (lv_at hl 0 rfl) ?_
                refine va_get (D := D) (ci := 8) (v := .ref (rf 26)) (C := RX8) (T := TX8) (N := 35) hx hb hts hi9 hown hK hP 0 rfl rfl 25 (by decide) g88 (fun _ h9 => h9) rfl dX8_restore_68 ?_
                refine lv_iload_n hx hb dX8_restore_71 rfl (lv_at hl 1 rfl) ?_
                refine lv_aload_n hx hb dX8_restore_72 rfl (lv_at hl 0 rfl) ?_
                refine va_get (D := D) (ci := 8) (v := .ref (rf 34)) (C := RX8) (T := TX8) (N := 35) hx hb hts hi9 hown hK hP 0 rfl rfl 33 (by decide) g113 (fun _ h9 => h9) rfl dX8_restore_73 ?_
                refine lv_iload_n hx hb dX8_restore_76 rfl (lv_at hl 1 rfl) ?_
                obtain ⟨hin, hw⟩ := hw
                refine va_iald hx hb hK hP 9 0 rfl rfl hin dX8_restore_77 ?_
                obtain ⟨hin, hw⟩ := hw
                refine va_iast hx hb hK hP hD hS 4 0 rfl rfl hin dX8_restore_78 (fun H locs hP hD hS => ?_)
                have hP : va_P D vwCl [((rf 0), o8 rf f_terms f_runs f_leftAbove f_leftBelow f_rightAbove f_rightBelow f_listed f_fed f_read f_formed f_hasSnapshot), ((rf 1), ai cI 8 f_above), ((rf 2), ai cI 8 f_below), ((rf 25), ai cI 5 (upd f_kindOf v1.toNatClampNeg (f_savedKind v1.toNatClampNeg))), ((rf 26), ai cI 5 (upd f_nodeAbove v1.toNatClampNeg (f_savedNodeAbove v1.toNatClampNeg))), ((rf 27), ai cI 5 f_nodeBelow), ((rf 31), ai cI 8 f_savedAbove), ((rf 32), ai cI 8 f_savedBelow), ((rf 33), ai cI 5 f_savedKind), ((rf 34), ai cI 5 f_savedNodeAbove), ((rf 35), ai cI 5 f_savedNodeBelow)] H := hP
                have hD : va_D A [((rf 0), o8 rf f_terms f_runs f_leftAbove f_leftBelow f_rightAbove f_rightBelow f_listed f_fed f_read f_formed f_hasSnapshot), ((rf 1), ai cI 8 f_above), ((rf 2), ai cI 8 f_below), ((rf 25), ai cI 5 (upd f_kindOf v1.toNatClampNeg (f_savedKind v1.toNatClampNeg))), ((rf 26), ai cI 5 (upd f_nodeAbove v1.toNatClampNeg (f_savedNodeAbove v1.toNatClampNeg))), ((rf 27), ai cI 5 f_nodeBelow), ((rf 31), ai cI 8 f_savedAbove), ((rf 32), ai cI 8 f_savedBelow), ((rf 33), ai cI 5 f_savedKind), ((rf 34), ai cI 5 f_savedNodeAbove), ((rf 35), ai cI 5 f_savedNodeBelow)] := hD
                refine lv_aload_n hx hb dX8_restore_79 rfl (lv_at hl 0 rfl) ?_
                refine va_get (D := D) (ci := 8) (v := .ref (rf 27)) (C := RX8) (T := TX8) (N := 35) hx hb hts hi9 hown hK hP 0 rfl rfl 26 (by decide) g91 (fun _ h9 => h9) rfl dX8_restore_80 ?_
                refine lv_iload_n hx hb dX8_restore_83 rfl (lv_at hl 1 rfl) ?_
                refine lv_aload_n hx hb dX8_restore_84 rfl (lv_at hl 0 rfl) ?_
                refine va_get (D := D) (ci := 8) (v := .ref (rf 35)) (C := RX8) (T := TX8) (N := 35) hx hb hts hi9 hown hK hP 0 rfl rfl 34 (by decide) g116 (fun _ h9 => h9) rfl dX8_restore_85 ?_
                refine lv_iload_n hx hb dX8_restore_88 rfl (lv_at hl 1 rfl) ?_
                obtain ⟨hin, hw⟩ := hw
                refine va_iald hx hb hK hP 10 0 rfl rfl hin dX8_restore_89 ?_
                obtain ⟨hin, hw⟩ := hw
                refine va_iast hx hb hK hP hD hS 5 0 rfl rfl hin dX8_restore_90 (fun H locs hP hD hS => ?_)
                have hP : va_P D vwCl [((rf 0), o8 rf f_terms f_runs f_leftAbove f_leftBelow f_rightAbove f_rightBelow f_listed f_fed f_read f_formed f_hasSnapshot), ((rf 1), ai cI 8 f_above), ((rf 2), ai cI 8 f_below), ((rf 25), ai cI 5 (upd f_kindOf v1.toNatClampNeg (f_savedKind v1.toNatClampNeg))), ((rf 26), ai cI 5 (upd f_nodeAbove v1.toNatClampNeg (f_savedNodeAbove v1.toNatClampNeg))), ((rf 27), ai cI 5 (upd f_nodeBelow v1.toNatClampNeg (f_savedNodeBelow v1.toNatClampNeg))), ((rf 31), ai cI 8 f_savedAbove), ((rf 32), ai cI 8 f_savedBelow), ((rf 33), ai cI 5 f_savedKind), ((rf 34), ai cI 5 f_savedNodeAbove), ((rf 35), ai cI 5 f_savedNodeBelow)] H := hP
                have hD : va_D A [((rf 0), o8 rf f_terms f_runs f_leftAbove f_leftBelow f_rightAbove f_rightBelow f_listed f_fed f_read f_formed f_hasSnapshot), ((rf 1), ai cI 8 f_above), ((rf 2), ai cI 8 f_below), ((rf 25), ai cI 5 (upd f_kindOf v1.toNatClampNeg (f_savedKind v1.toNatClampNeg))), ((rf 26), ai cI 5 (upd f_nodeAbove v1.toNatClampNeg (f_savedNodeAbove v1.toNatClampNeg))), ((rf 27), ai cI 5 (upd f_nodeBelow v1.toNatClampNeg (f_savedNodeBelow v1.toNatClampNeg))), ((rf 31), ai cI 8 f_savedAbove), ((rf 32), ai cI 8 f_savedBelow), ((rf 33), ai cI 5 f_savedKind), ((rf 34), ai cI 5 f_savedNodeAbove), ((rf 35), ai cI 5 f_savedNodeBelow)] := hD
                obtain ⟨x91, ex91⟩ : ∃ y : Int32, y = (v1 + (1 : Int32)) := ⟨_, rfl⟩
                have hw := hw x91 ex91
                refine lv_iinc (v := x91) (lv' := [(1, .int x91), (0, .ref (rf 0))]) hx hb dX8_restore_91 hl (k := 1) rfl (by rw [ex91]; rfl) (by decide) rfl (fun ls hl => ?_)
                refine lv_goto (tgt := 50) hx hb dX8_restore_94 (by decide) ?_
                exact ih50 x91 (upd f_kindOf v1.toNatClampNeg (f_savedKind v1.toNatClampNeg)) (upd f_nodeAbove v1.toNatClampNeg (f_savedNodeAbove v1.toNatClampNeg)) (upd f_nodeBelow v1.toNatClampNeg (f_savedNodeBelow v1.toNatClampNeg)) _ _ ls hw hP hD hS (lv_sub hl [1, 0] rfl)
          exact LOOP_50 n50 (0 : Int32) f_kindOf f_nodeAbove f_nodeBelow _ _ ls hw hP hD hS (lv_sub hl [1, 0] rfl)
        · have hw := hw.2 k
          refine lv_aload_n hx hb dX8_restore_18 rfl (lv_at hl 0 rfl) ?_
          refine va_get (D := D) (ci := 8) (v := .ref (rf 1)) (C := RX8) (T := TX8) (N := 35) hx hb hts hi9 hown hK hP 0 rfl rfl 0 (by decide) g7 (fun _ h9 => h9) rfl dX8_restore_19 ?_
          refine lv_iload_n hx hb dX8_restore_22 rfl (lv_at hl 1 rfl) ?_
          refine lv_aload_n hx hb dX8_restore_23 rfl (lv_at hl 0 rfl) ?_
          refine va_get (D := D) (ci := 8) (v := .ref (rf 31)) (C := RX8) (T := TX8) (N := 35) hx hb hts hi9 hown hK hP 0 rfl rfl 30 (by decide) g104 (fun _ h9 => h9) rfl dX8_restore_24 ?_
          refine lv_iload_n hx hb dX8_restore_27 rfl (lv_at hl 1 rfl) ?_
          obtain ⟨hin, hw⟩ := hw
          refine va_iald hx hb hK hP 6 0 rfl rfl hin dX8_restore_28 ?_
          obtain ⟨hin, hw⟩ := hw
          refine va_iast hx hb hK hP hD hS 1 0 rfl rfl hin dX8_restore_29 (fun H locs hP hD hS => ?_)
          have hP : va_P D vwCl [((rf 0), o8 rf f_terms f_runs f_leftAbove f_leftBelow f_rightAbove f_rightBelow f_listed f_fed f_read f_formed f_hasSnapshot), ((rf 1), ai cI 8 (upd f_above v1.toNatClampNeg (f_savedAbove v1.toNatClampNeg))), ((rf 2), ai cI 8 f_below), ((rf 25), ai cI 5 f_kindOf), ((rf 26), ai cI 5 f_nodeAbove), ((rf 27), ai cI 5 f_nodeBelow), ((rf 31), ai cI 8 f_savedAbove), ((rf 32), ai cI 8 f_savedBelow), ((rf 33), ai cI 5 f_savedKind), ((rf 34), ai cI 5 f_savedNodeAbove), ((rf 35), ai cI 5 f_savedNodeBelow)] H := hP
          have hD : va_D A [((rf 0), o8 rf f_terms f_runs f_leftAbove f_leftBelow f_rightAbove f_rightBelow f_listed f_fed f_read f_formed f_hasSnapshot), ((rf 1), ai cI 8 (upd f_above v1.toNatClampNeg (f_savedAbove v1.toNatClampNeg))), ((rf 2), ai cI 8 f_below), ((rf 25), ai cI 5 f_kindOf), ((rf 26), ai cI 5 f_nodeAbove), ((rf 27), ai cI 5 f_nodeBelow), ((rf 31), ai cI 8 f_savedAbove), ((rf 32), ai cI 8 f_savedBelow), ((rf 33), ai cI 5 f_savedKind), ((rf 34), ai cI 5 f_savedNodeAbove), ((rf 35), ai cI 5 f_savedNodeBelow)] := hD
          refine lv_aload_n hx hb dX8_restore_30 rfl (lv_at hl 0 rfl) ?_
          refine va_get (D := D) (ci := 8) (v := .ref (rf 2)) (C := RX8) (T := TX8) (N := 35) hx hb hts hi9 hown hK hP 0 rfl rfl 1 (by decide) g13 (fun _ h9 => h9) rfl dX8_restore_31 ?_
          refine lv_iload_n hx hb dX8_restore_34 rfl (lv_at hl 1 rfl) ?_
          refine lv_aload_n hx hb dX8_restore_35 rfl (lv_at hl 0 rfl) ?_
          refine va_get (D := D) (ci := 8) (v := .ref (rf 32)) (C := RX8) (T := TX8) (N := 35) hx hb hts hi9 hown hK hP 0 rfl rfl 31 (by decide) g107 (fun _ h9 => h9) rfl dX8_restore_36 ?_
          refine lv_iload_n hx hb dX8_restore_39 rfl (lv_at hl 1 rfl) ?_
          obtain ⟨hin, hw⟩ := hw
          refine va_iald hx hb hK hP 7 0 rfl rfl hin dX8_restore_40 ?_
          obtain ⟨hin, hw⟩ := hw
          refine va_iast hx hb hK hP hD hS 2 0 rfl rfl hin dX8_restore_41 (fun H locs hP hD hS => ?_)
          have hP : va_P D vwCl [((rf 0), o8 rf f_terms f_runs f_leftAbove f_leftBelow f_rightAbove f_rightBelow f_listed f_fed f_read f_formed f_hasSnapshot), ((rf 1), ai cI 8 (upd f_above v1.toNatClampNeg (f_savedAbove v1.toNatClampNeg))), ((rf 2), ai cI 8 (upd f_below v1.toNatClampNeg (f_savedBelow v1.toNatClampNeg))), ((rf 25), ai cI 5 f_kindOf), ((rf 26), ai cI 5 f_nodeAbove), ((rf 27), ai cI 5 f_nodeBelow), ((rf 31), ai cI 8 f_savedAbove), ((rf 32), ai cI 8 f_savedBelow), ((rf 33), ai cI 5 f_savedKind), ((rf 34), ai cI 5 f_savedNodeAbove), ((rf 35), ai cI 5 f_savedNodeBelow)] H := hP
          have hD : va_D A [((rf 0), o8 rf f_terms f_runs f_leftAbove f_leftBelow f_rightAbove f_rightBelow f_listed f_fed f_read f_formed f_hasSnapshot), ((rf 1), ai cI 8 (upd f_above v1.toNatClampNeg (f_savedAbove v1.toNatClampNeg))), ((rf 2), ai cI 8 (upd f_below v1.toNatClampNeg (f_savedBelow v1.toNatClampNeg))), ((rf 25), ai cI 5 f_kindOf), ((rf 26), ai cI 5 f_nodeAbove), ((rf 27), ai cI 5 f_nodeBelow), ((rf 31), ai cI 8 f_savedAbove), ((rf 32), ai cI 8 f_savedBelow), ((rf 33), ai cI 5 f_savedKind), ((rf 34), ai cI 5 f_savedNodeAbove), ((rf 35), ai cI 5 f_savedNodeBelow)] := hD
          obtain ⟨x42, ex42⟩ : ∃ y : Int32, y = (v1 + (1 : Int32)) := ⟨_, rfl⟩
          have hw := hw x42 ex42
          refine lv_iinc (v := x42) (lv' := [(1, .int x42), (0, .ref (rf 0))]) hx hb dX8_restore_42 hl (k := 1) rfl (by rw [ex42]; rfl) (by decide) rfl (fun ls hl => ?_)
          refine lv_goto (tgt := 12) hx hb dX8_restore_45 (by decide) ?_
          exact ih12 x42 (upd f_above v1.toNatClampNeg (f_savedAbove v1.toNatClampNeg)) (upd f_below v1.toNatClampNeg (f_savedBelow v1.toNatClampNeg)) _ _ ls hw hP hD hS (lv_sub hl [1, 0] rfl)
    exact LOOP_12 n12 (0 : Int32) f_above f_below _ _ ls hw hP hD hS (lv_sub hl [1, 0] rfl)
  · have hw := hw.2 k
    refine lv_bipush (v := (-2 : Int32)) hx hb dX8_restore_7 (by decide) ?_
    exact RET _ _ _ (f_above, f_below, f_kindOf, f_nodeAbove, f_nodeBelow) _ _ hw hP hD hS dX8_restore_9
abbrev rm8_count : Room := { frames := 1, cells := 0, slots := 0, locals := 22 }
theorem nm8_count : kNm yX8_count 1 := by decide +kernel
set_option maxHeartbeats 4000000 in
set_option maxRecDepth 100000 in
theorem c8_count (l : Launch) (D : va_G) (cI cJ cN cR : ClassId) (rf : Nat → Nat) (f_terms : Int32) (f_runs : Int32) (f_leftAbove : Int64) (f_leftBelow : Int64) (f_rightAbove : Int64) (f_rightBelow : Int64) (f_listed : Int32) (f_fed : Int32) (f_read : Int32) (f_formed : Int32) (f_hasSnapshot : Int32) (f_kindOf : (Nat → Int32)) (f_length : (Nat → Int32)) (v1 : Int32) (post : Int32 → Prop) (hw : w8_count f_listed f_fed f_kindOf f_length v1 post) : Met l yX8_count wsX8_count rm8_count (kR D (kT cI cJ cN cR) [.ref (rf 0), .int v1] [((rf 0), o8 rf f_terms f_runs f_leftAbove f_leftBelow f_rightAbove f_rightBelow f_listed f_fed f_read f_formed f_hasSnapshot), ((rf 25), ai cI 5 f_kindOf), ((rf 28), ai cI 3 f_length)]) (vp_Si post) 0 0 (fun _ => False) := by
  refine kMetRI (cc := cX8_count) (maxL := 2) (by decide +kernel) rfl (Nat.le_of_ble_eq_true rfl) ?_
  intro p e s m args below meth c H ls Q C0 hK hN hP hl RET
  obtain ⟨hx, hb, hml, hown, hts⟩ := id C0
  have hl : lv_has ls 2 [(0, .ref (rf 0)), (1, .int v1)] := hl
  have g54 := hts (.fieldLink RX8 54 "SternBrocotExplorerModel" "listed" "I") (by decide +kernel)
  have g67 := hts (.fieldLink RX8 67 "SternBrocotExplorerModel" "fed" "I") (by decide +kernel)
  have g94 := hts (.fieldLink RX8 94 "SternBrocotExplorerModel" "length" "[I") (by decide +kernel)
  have hi9 : ∀ w ∈ wsX80, w ∈ wsX8_count := fun w h => List.mem_cons_of_mem _ (List.mem_append_right _ h)
  unfold w8_count at hw
  have JOIN_75 : ∀ (s0 : Int32) (s1 : Int32) (ls : Array Slot), w8_count_J75 f_length s0 s1 post → lv_has ls 2 [(0, .ref (rf 0))] → W p l e rm8_count s m args below meth c H [] 0 0 Q (F0 m 75 ls [.int s0, .int s1]) := by
    intro s0 s1 ls hw hl
    unfold w8_count_J75 at hw
    refine lv_iadd hx hb dX8_count_75 ?_
    refine lv_aload_n hx hb dX8_count_76 rfl (lv_at hl 0 rfl) ?_
    refine va_get (D := D) (ci := 8) (v := .ref (rf 28)) (C := RX8) (T := TX8) (N := 35) hx hb hts hi9 hown hK hP 0 rfl rfl 27 (by decide) g94 (fun _ h9 => h9) rfl dX8_count_77 ?_
    refine lv_iconst (v := (2 : Int32)) hx hb dX8_count_80 (by decide) ?_
    obtain ⟨hin, hw⟩ := hw
    refine va_iald hx hb hK hP 2 0 rfl rfl hin dX8_count_81 ?_
    refine lv_if_lt (tgt := 89) hx hb dX8_count_82 (by decide) (fun k => ?_) (fun k => ?_)
    · have hw := hw.1 k
      refine lv_iconst (v := (0 : Int32)) hx hb dX8_count_89 (by decide) ?_
      refine lv_iadd hx hb dX8_count_90 ?_
      exact RET _ _ _ hw dX8_count_91
    · have hw := hw.2 k
      refine lv_iconst (v := (1 : Int32)) hx hb dX8_count_85 (by decide) ?_
      refine lv_goto (tgt := 90) hx hb dX8_count_86 (by decide) ?_
      refine lv_iadd hx hb dX8_count_90 ?_
      exact RET _ _ _ hw dX8_count_91
  have JOIN_61 : ∀ (s0 : Int32) (ls : Array Slot), w8_count_J61 f_length s0 post → lv_has ls 2 [(0, .ref (rf 0))] → W p l e rm8_count s m args below meth c H [] 0 0 Q (F0 m 61 ls [.int s0]) := by
    intro s0 ls hw hl
    unfold w8_count_J61 at hw
    refine lv_aload_n hx hb dX8_count_61 rfl (lv_at hl 0 rfl) ?_
    refine va_get (D := D) (ci := 8) (v := .ref (rf 28)) (C := RX8) (T := TX8) (N := 35) hx hb hts hi9 hown hK hP 0 rfl rfl 27 (by decide) g94 (fun _ h9 => h9) rfl dX8_count_62 ?_
    refine lv_iconst (v := (1 : Int32)) hx hb dX8_count_65 (by decide) ?_
    obtain ⟨hin, hw⟩ := hw
    refine va_iald hx hb hK hP 2 0 rfl rfl hin dX8_count_66 ?_
    refine lv_if_lt (tgt := 74) hx hb dX8_count_67 (by decide) (fun k => ?_) (fun k => ?_)
    · have hw := hw.1 k
      refine lv_iconst (v := (0 : Int32)) hx hb dX8_count_74 (by decide) ?_
      exact JOIN_75 (0 : Int32) s0 ls hw (lv_sub hl [0] rfl)
    · have hw := hw.2 k
      refine lv_iconst (v := (1 : Int32)) hx hb dX8_count_70 (by decide) ?_
      refine lv_goto (tgt := 75) hx hb dX8_count_71 (by decide) ?_
      exact JOIN_75 (1 : Int32) s0 ls hw (lv_sub hl [0] rfl)
  refine lv_iload_n hx hb dX8_count_0 rfl (lv_at hl 1 rfl) ?_
  by_cases ho : v1.toInt < 0 ∨ 3 < v1.toInt
  · have hw := hw.1 ho
    refine lv_tableOut (tgt := 92) hx hb dX8_count_1 ho (by decide) ?_
    refine lv_iconst (v := (-1 : Int32)) hx hb dX8_count_92 (by decide) ?_
    exact RET _ _ _ hw dX8_count_93
  rcases (show v1.toInt = 0 ∨ v1.toInt = 1 ∨ v1.toInt = 2 ∨ v1.toInt = 3 by omega) with h9 | h9 | h9 | h9
  · have hw := hw.2.1 (Int32.toInt_inj.mp (h9.trans (by decide)))
    refine lv_tableIn (tgt := 32) hx hb dX8_count_1 (by rw [h9]; decide) (by rw [h9]; decide) (by rw [h9]; rfl) (by decide) ?_
    refine lv_aload_n hx hb dX8_count_32 rfl (lv_at hl 0 rfl) ?_
    refine va_get (D := D) (ci := 8) (v := .int f_listed) (C := RX8) (T := TX8) (N := 35) hx hb hts hi9 hown hK hP 0 rfl rfl 14 (by decide) g54 (fun _ h9 => h9) rfl dX8_count_33 ?_
    exact RET _ _ _ hw dX8_count_36
  · have hw := hw.2.2.1 (Int32.toInt_inj.mp (h9.trans (by decide)))
    refine lv_tableIn (tgt := 37) hx hb dX8_count_1 (by rw [h9]; decide) (by rw [h9]; decide) (by rw [h9]; rfl) (by decide) ?_
    refine lv_aload_n hx hb dX8_count_37 rfl (lv_at hl 0 rfl) ?_
    refine va_get (D := D) (ci := 8) (v := .int f_fed) (C := RX8) (T := TX8) (N := 35) hx hb hts hi9 hown hK hP 0 rfl rfl 18 (by decide) g67 (fun _ h9 => h9) rfl dX8_count_38 ?_
    exact RET _ _ _ hw dX8_count_41
  · have hw := hw.2.2.2.1 (Int32.toInt_inj.mp (h9.trans (by decide)))
    refine lv_tableIn (tgt := 42) hx hb dX8_count_1 (by rw [h9]; decide) (by rw [h9]; decide) (by rw [h9]; rfl) (by decide) ?_
    refine lv_aload_n hx hb dX8_count_42 rfl (lv_at hl 0 rfl) ?_
    refine kcRI (wc := [((rf 0), o8 rf f_terms f_runs f_leftAbove f_leftBelow f_rightAbove f_rightBelow f_listed f_fed f_read f_formed f_hasSnapshot), ((rf 25), ai cI 5 f_kindOf)]) hP [0, 1] rfl (fun hPc => oV (As := []) (rest := []) C0 hK hN (c8_nodes l D cI cJ cN cR rf f_terms f_runs f_leftAbove f_leftBelow f_rightAbove f_rightBelow f_listed f_fed f_read f_formed f_hasSnapshot f_kindOf  _ hw) 0 gX8_count_X8_nodes rfl ⟨rfl, rfl⟩ nm8_nodes ⟨Nat.le_of_ble_eq_true rfl, Nat.le_of_ble_eq_true rfl⟩ (q0 := 0) rfl rfl rfl rfl hl.1 rfl (Nat.le_of_ble_eq_true rfl) dX8_count_43 ⟨Nat.le_of_ble_eq_true rfl, Nat.le_of_ble_eq_true rfl⟩ hPc) (fun r43 hw => ?_)
    exact RET _ _ _ hw dX8_count_46
  · have hw := hw.2.2.2.2 (Int32.toInt_inj.mp (h9.trans (by decide)))
    refine lv_tableIn (tgt := 47) hx hb dX8_count_1 (by rw [h9]; decide) (by rw [h9]; decide) (by rw [h9]; rfl) (by decide) ?_
    refine lv_aload_n hx hb dX8_count_47 rfl (lv_at hl 0 rfl) ?_
    refine va_get (D := D) (ci := 8) (v := .ref (rf 28)) (C := RX8) (T := TX8) (N := 35) hx hb hts hi9 hown hK hP 0 rfl rfl 27 (by decide) g94 (fun _ h9 => h9) rfl dX8_count_48 ?_
    refine lv_iconst (v := (0 : Int32)) hx hb dX8_count_51 (by decide) ?_
    obtain ⟨hin, hw⟩ := hw
    refine va_iald hx hb hK hP 2 0 rfl rfl hin dX8_count_52 ?_
    refine lv_if_lt (tgt := 60) hx hb dX8_count_53 (by decide) (fun k => ?_) (fun k => ?_)
    · have hw := hw.1 k
      refine lv_iconst (v := (0 : Int32)) hx hb dX8_count_60 (by decide) ?_
      exact JOIN_61 (0 : Int32) ls hw (lv_sub hl [0] rfl)
    · have hw := hw.2 k
      refine lv_iconst (v := (1 : Int32)) hx hb dX8_count_56 (by decide) ?_
      refine lv_goto (tgt := 61) hx hb dX8_count_57 (by decide) ?_
      exact JOIN_61 (1 : Int32) ls hw (lv_sub hl [0] rfl)
