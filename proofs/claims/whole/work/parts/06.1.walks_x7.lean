abbrev rm7_isRegister : Room := { frames := 0, cells := 0, slots := 0, locals := 0 }
theorem nm7_isRegister : kNm yX7_isRegister 1 := by decide +kernel
set_option maxHeartbeats 4000000 in
set_option maxRecDepth 100000 in
theorem c7_isRegister (l : Launch) (D : va_G) (cI cJ cN cR : ClassId)   (v0 : Int32) (post : Int32 → Prop) (hw : w7_isRegister v0 post) : Met l yX7_isRegister wsX7_isRegister rm7_isRegister (kR D (kT cI cJ cN cR) [.int v0] []) (vp_Si (fun (r : Int32) => narrow .boolean (.int r) = .int r ∧ post r)) 0 0 (fun _ => False) := by
  refine kMetRZ (cc := cX7_isRegister) (maxL := 1) (by decide +kernel) rfl (Nat.le_of_ble_eq_true rfl) ?_
  intro p e s m args below meth c H ls Q C0 hK hN hP hl RET
  obtain ⟨hx, hb, hml, hown, hts⟩ := id C0
  have hl : lv_has ls 1 [(0, .int v0)] := hl
  unfold w7_isRegister at hw
  refine lv_iload_n hx hb dX7_isRegister_0 rfl (lv_at hl 0 rfl) ?_
  refine lv_if_lt (tgt := 14) hx hb dX7_isRegister_1 (by decide) (fun k => ?_) (fun k => ?_)
  · have hw := hw.1 k
    refine lv_iconst (v := (0 : Int32)) hx hb dX7_isRegister_14 (by decide) ?_
    exact RET _ _ _ rfl hw dX7_isRegister_15
  · have hw := hw.2 k
    refine lv_iload_n hx hb dX7_isRegister_4 rfl (lv_at hl 0 rfl) ?_
    refine lv_bipush (v := (8 : Int32)) hx hb dX7_isRegister_5 (by decide) ?_
    refine lv_icmp_ge (tgt := 14) hx hb dX7_isRegister_7 (by decide) (fun k => ?_) (fun k => ?_)
    · have hw := hw.1 k
      refine lv_iconst (v := (0 : Int32)) hx hb dX7_isRegister_14 (by decide) ?_
      exact RET _ _ _ rfl hw dX7_isRegister_15
    · have hw := hw.2 k
      refine lv_iconst (v := (1 : Int32)) hx hb dX7_isRegister_10 (by decide) ?_
      refine lv_goto (tgt := 15) hx hb dX7_isRegister_11 (by decide) ?_
      exact RET _ _ _ rfl hw dX7_isRegister_15
abbrev rm7_isIn : Room := { frames := 0, cells := 0, slots := 0, locals := 0 }
theorem nm7_isIn : kNm yX7_isIn 3 := by decide +kernel
set_option maxHeartbeats 4000000 in
set_option maxRecDepth 100000 in
theorem c7_isIn (l : Launch) (D : va_G) (cI cJ cN cR : ClassId)   (v0 : Int32) (v1 : Int32) (v2 : Int32) (post : Int32 → Prop) (hw : w7_isIn v0 v1 v2 post) : Met l yX7_isIn wsX7_isIn rm7_isIn (kR D (kT cI cJ cN cR) [.int v0, .int v1, .int v2] []) (vp_Si (fun (r : Int32) => narrow .boolean (.int r) = .int r ∧ post r)) 0 0 (fun _ => False) := by
  refine kMetRZ (cc := cX7_isIn) (maxL := 3) (by decide +kernel) rfl (Nat.le_of_ble_eq_true rfl) ?_
  intro p e s m args below meth c H ls Q C0 hK hN hP hl RET
  obtain ⟨hx, hb, hml, hown, hts⟩ := id C0
  have hl : lv_has ls 3 [(0, .int v0), (1, .int v1), (2, .int v2)] := hl
  unfold w7_isIn at hw
  refine lv_iload_n hx hb dX7_isIn_0 rfl (lv_at hl 0 rfl) ?_
  refine lv_iload_n hx hb dX7_isIn_1 rfl (lv_at hl 1 rfl) ?_
  refine lv_icmp_lt (tgt := 14) hx hb dX7_isIn_2 (by decide) (fun k => ?_) (fun k => ?_)
  · have hw := hw.1 k
    refine lv_iconst (v := (0 : Int32)) hx hb dX7_isIn_14 (by decide) ?_
    exact RET _ _ _ rfl hw dX7_isIn_15
  · have hw := hw.2 k
    refine lv_iload_n hx hb dX7_isIn_5 rfl (lv_at hl 0 rfl) ?_
    refine lv_iload_n hx hb dX7_isIn_6 rfl (lv_at hl 2 rfl) ?_
    refine lv_icmp_gt (tgt := 14) hx hb dX7_isIn_7 (by decide) (fun k => ?_) (fun k => ?_)
    · have hw := hw.1 k
      refine lv_iconst (v := (0 : Int32)) hx hb dX7_isIn_14 (by decide) ?_
      exact RET _ _ _ rfl hw dX7_isIn_15
    · have hw := hw.2 k
      refine lv_iconst (v := (1 : Int32)) hx hb dX7_isIn_10 (by decide) ?_
      refine lv_goto (tgt := 15) hx hb dX7_isIn_11 (by decide) ?_
      exact RET _ _ _ rfl hw dX7_isIn_15
abbrev rm7_set : Room := { frames := 2, cells := 0, slots := 0, locals := 61 }
theorem nm7_set : kNm yX7_set 3 := by decide +kernel
set_option maxHeartbeats 4000000 in
set_option maxRecDepth 100000 in
theorem c7_set (l : Launch) (D : va_G) (cI cJ cN cR : ClassId) (rf : Nat → Nat) (sz : Nat) (f_hasSnapshot : Int32) (f_termListSize : Int32) (f_textSize : Int32) (f_tops : (Nat → Int32)) (f_bottoms : (Nat → Int32)) (v1 : Int32) (v2 : Int32) (v3 : Int32) (post : Int32 → (Nat → Int32) → (Nat → Int32) → Prop) (hw : w7_set f_tops f_bottoms v1 v2 v3 post) : Met l yX7_set wsX7_set rm7_set (kP D (kT cI cJ cN cR) sz [.ref (rf 0), .int v1, .int v2, .int v3] [((rf 0), o7 rf f_hasSnapshot f_termListSize f_textSize), ((rf 1), ai cI 8 f_tops), ((rf 2), ai cI 8 f_bottoms)]) (kQi D [((rf 0), o7 rf f_hasSnapshot f_termListSize f_textSize), ((rf 1), ai cI 8 f_tops), ((rf 2), ai cI 8 f_bottoms)] sz (fun (r : Int32) (u : (Nat → Int32) × (Nat → Int32)) => post r u.1 u.2) (fun (u : (Nat → Int32) × (Nat → Int32)) => [((rf 0), o7 rf f_hasSnapshot f_termListSize f_textSize), ((rf 1), ai cI 8 u.1), ((rf 2), ai cI 8 u.2)])) 0 0 (va_A [((rf 0), o7 rf f_hasSnapshot f_termListSize f_textSize), ((rf 1), ai cI 8 f_tops), ((rf 2), ai cI 8 f_bottoms)] sz) := by
  refine kMetI (cc := cX7_set) (maxL := 4) (by decide +kernel) rfl (Nat.le_of_ble_eq_true rfl) ?_
  intro p e s m args below meth c H0 ls A Q C0 hK hN hP hD hS hA hl RET
  obtain ⟨hx, hb, hml, hown, hts⟩ := id C0
  have hl : lv_has ls 4 [(0, .ref (rf 0)), (1, .int v1), (2, .int v2), (3, .int v3)] := hl
  unfold w7_set at hw
  have hP : va_P D vwCl [((rf 0), o7 rf f_hasSnapshot f_termListSize f_textSize), ((rf 1), ai cI 8 f_tops), ((rf 2), ai cI 8 f_bottoms)] H0 := hP
  refine lv_iload_n hx hb dX7_set_0 rfl (lv_at hl 1 rfl) ?_
  refine kcRI (wc := []) hP [] rfl (fun hPc => oS (As := [.int v1]) (rest := []) C0 hK hN (c7_isRegister l D cI cJ cN cR   v1 _ hw) 1 gX7_set_X7_isRegister rfl ⟨rfl, rfl⟩ nm7_isRegister ⟨Nat.le_of_ble_eq_true rfl, Nat.le_of_ble_eq_true rfl⟩ rfl hl.1 rfl (Nat.le_of_ble_eq_true rfl) dX7_set_1 ⟨Nat.le_of_ble_eq_true rfl, Nat.le_of_ble_eq_true rfl⟩ hPc) (fun r1 hw => ?_)
  obtain ⟨nb1, hw⟩ := hw
  refine lv_if_eq (tgt := 27) hx hb dX7_set_4 (by decide) (fun k => ?_) (fun k => ?_)
  · have hw := hw.1 k
    refine lv_iconst (v := (-1 : Int32)) hx hb dX7_set_27 (by decide) ?_
    exact RET _ _ _ (f_tops, f_bottoms) _ _ hw hP hD hS dX7_set_28
  · have hw := hw.2 k
    refine lv_iload_n hx hb dX7_set_7 rfl (lv_at hl 2 rfl) ?_
    refine lv_iconst (v := (1 : Int32)) hx hb dX7_set_8 (by decide) ?_
    refine lv_ldc (v := (1000000 : Int32)) hx hb hown (hts (.constant RX7 66 (1000000)) (by decide +kernel)) dX7_set_9 ?_
    refine kcRI (wc := []) hP [] rfl (fun hPc => oS (As := [.int v2, .int (1 : Int32), .int (1000000 : Int32)]) (rest := []) C0 hK hN (c7_isIn l D cI cJ cN cR   v2 (1 : Int32) (1000000 : Int32) _ hw) 3 gX7_set_X7_isIn rfl ⟨rfl, rfl⟩ nm7_isIn ⟨Nat.le_of_ble_eq_true rfl, Nat.le_of_ble_eq_true rfl⟩ rfl hl.1 rfl (Nat.le_of_ble_eq_true rfl) dX7_set_11 ⟨Nat.le_of_ble_eq_true rfl, Nat.le_of_ble_eq_true rfl⟩ hPc) (fun r11 hw => ?_)
    obtain ⟨nb11, hw⟩ := hw
    refine lv_if_eq (tgt := 27) hx hb dX7_set_14 (by decide) (fun k => ?_) (fun k => ?_)
    · have hw := hw.1 k
      refine lv_iconst (v := (-1 : Int32)) hx hb dX7_set_27 (by decide) ?_
      exact RET _ _ _ (f_tops, f_bottoms) _ _ hw hP hD hS dX7_set_28
    · have hw := hw.2 k
      refine lv_iload_n hx hb dX7_set_17 rfl (lv_at hl 3 rfl) ?_
      refine lv_iconst (v := (1 : Int32)) hx hb dX7_set_18 (by decide) ?_
      refine lv_ldc (v := (1000000 : Int32)) hx hb hown (hts (.constant RX7 66 (1000000)) (by decide +kernel)) dX7_set_19 ?_
      refine kcRI (wc := []) hP [] rfl (fun hPc => oS (As := [.int v3, .int (1 : Int32), .int (1000000 : Int32)]) (rest := []) C0 hK hN (c7_isIn l D cI cJ cN cR   v3 (1 : Int32) (1000000 : Int32) _ hw) 3 gX7_set_X7_isIn rfl ⟨rfl, rfl⟩ nm7_isIn ⟨Nat.le_of_ble_eq_true rfl, Nat.le_of_ble_eq_true rfl⟩ rfl hl.1 rfl (Nat.le_of_ble_eq_true rfl) dX7_set_21 ⟨Nat.le_of_ble_eq_true rfl, Nat.le_of_ble_eq_true rfl⟩ hPc) (fun r21 hw => ?_)
      obtain ⟨nb21, hw⟩ := hw
      refine lv_if_ne (tgt := 29) hx hb dX7_set_24 (by decide) (fun k => ?_) (fun k => ?_)
      · have hw := hw.1 k
        refine lv_aload_n hx hb dX7_set_29 rfl (lv_at hl 0 rfl) ?_
        refine lv_iload_n hx hb dX7_set_30 rfl (lv_at hl 1 rfl) ?_
        refine lv_iload_n hx hb dX7_set_31 rfl (lv_at hl 2 rfl) ?_
        refine lv_i2l hx hb dX7_set_32 rfl ?_
        refine lv_iload_n hx hb dX7_set_33 rfl (lv_at hl 3 rfl) ?_
        refine lv_i2l hx hb dX7_set_34 rfl ?_
        refine kcI (wc := [((rf 0), o7 rf f_hasSnapshot f_termListSize f_textSize), ((rf 1), ai cI 8 f_tops), ((rf 2), ai cI 8 f_bottoms)]) (wr := []) hP hD hS hA [0, 1, 2] [] rfl rfl ⟨rfl, rfl, by decide⟩ (fun hPc hDc => rV (As := [.int v1, .long v2.toInt64, .long v3.toInt64]) (rest := []) C0 hK hN (c7_store l D cI cJ cN cR rf H0.size f_hasSnapshot f_termListSize f_textSize f_tops f_bottoms v1 v2.toInt64 v3.toInt64 _ hw) 3 gX7_set_X7_store rfl ⟨rfl, rfl⟩ nm7_store ⟨Nat.le_of_ble_eq_true rfl, Nat.le_of_ble_eq_true rfl⟩ (q0 := 0) rfl rfl rfl rfl hl.1 rfl (Nat.le_of_ble_eq_true rfl) dX7_set_35 ⟨Nat.le_of_ble_eq_true rfl, Nat.le_of_ble_eq_true rfl⟩ hPc hDc) (fun r35 u35 H locs hw hP hD hS => ?_)
        obtain ⟨f_tops_35, f_bottoms_35⟩ := u35
        dsimp only at hw
        have hP : va_P D vwCl [((rf 0), o7 rf f_hasSnapshot f_termListSize f_textSize), ((rf 1), ai cI 8 f_tops_35), ((rf 2), ai cI 8 f_bottoms_35)] H := hP
        have hD : va_D A [((rf 0), o7 rf f_hasSnapshot f_termListSize f_textSize), ((rf 1), ai cI 8 f_tops_35), ((rf 2), ai cI 8 f_bottoms_35)] := hD
        exact RET _ _ _ (f_tops_35, f_bottoms_35) _ _ hw hP hD hS dX7_set_38
      · have hw := hw.2 k
        refine lv_iconst (v := (-1 : Int32)) hx hb dX7_set_27 (by decide) ?_
        exact RET _ _ _ (f_tops, f_bottoms) _ _ hw hP hD hS dX7_set_28
abbrev rm7_numerator : Room := { frames := 1, cells := 0, slots := 0, locals := 20 }
theorem nm7_numerator : kNm yX7_numerator 1 := by decide +kernel
set_option maxHeartbeats 4000000 in
set_option maxRecDepth 100000 in
theorem c7_numerator (l : Launch) (D : va_G) (cI cJ cN cR : ClassId) (rf : Nat → Nat) (f_hasSnapshot : Int32) (f_termListSize : Int32) (f_textSize : Int32) (f_tops : (Nat → Int32)) (v1 : Int32) (post : Int32 → Prop) (hw : w7_numerator f_tops v1 post) : Met l yX7_numerator wsX7_numerator rm7_numerator (kR D (kT cI cJ cN cR) [.ref (rf 0), .int v1] [((rf 0), o7 rf f_hasSnapshot f_termListSize f_textSize), ((rf 1), ai cI 8 f_tops)]) (vp_Si post) 0 0 (fun _ => False) := by
  refine kMetRI (cc := cX7_numerator) (maxL := 2) (by decide +kernel) rfl (Nat.le_of_ble_eq_true rfl) ?_
  intro p e s m args below meth c H ls Q C0 hK hN hP hl RET
  obtain ⟨hx, hb, hml, hown, hts⟩ := id C0
  have hl : lv_has ls 2 [(0, .ref (rf 0)), (1, .int v1)] := hl
  have g9 := hts (.fieldLink RX7 9 "SternBrocotExplorer" "tops" "[I") (by decide +kernel)
  have hi9 : ∀ w ∈ wsX70, w ∈ wsX7_numerator := fun w h => List.mem_cons_of_mem _ (List.mem_append_right _ h)
  unfold w7_numerator at hw
  refine lv_iload_n hx hb dX7_numerator_0 rfl (lv_at hl 1 rfl) ?_
  refine kcRI (wc := []) hP [] rfl (fun hPc => oS (As := [.int v1]) (rest := []) C0 hK hN (c7_isRegister l D cI cJ cN cR   v1 _ hw) 1 gX7_numerator_X7_isRegister rfl ⟨rfl, rfl⟩ nm7_isRegister ⟨Nat.le_of_ble_eq_true rfl, Nat.le_of_ble_eq_true rfl⟩ rfl hl.1 rfl (Nat.le_of_ble_eq_true rfl) dX7_numerator_1 ⟨Nat.le_of_ble_eq_true rfl, Nat.le_of_ble_eq_true rfl⟩ hPc) (fun r1 hw => ?_)
  obtain ⟨nb1, hw⟩ := hw
  refine lv_if_eq (tgt := 16) hx hb dX7_numerator_4 (by decide) (fun k => ?_) (fun k => ?_)
  · have hw := hw.1 k
    refine lv_iconst (v := (-1 : Int32)) hx hb dX7_numerator_16 (by decide) ?_
    exact RET _ _ _ hw dX7_numerator_17
  · have hw := hw.2 k
    refine lv_aload_n hx hb dX7_numerator_7 rfl (lv_at hl 0 rfl) ?_
    refine va_get (D := D) (ci := 7) (v := .ref (rf 1)) (C := RX7) (T := TX7) (N := 16) hx hb hts hi9 hown hK hP 0 rfl rfl 0 (by decide) g9 (fun _ h9 => h9) rfl dX7_numerator_8 ?_
    refine lv_iload_n hx hb dX7_numerator_11 rfl (lv_at hl 1 rfl) ?_
    obtain ⟨hin, hw⟩ := hw
    refine va_iald hx hb hK hP 1 0 rfl rfl hin dX7_numerator_12 ?_
    refine lv_goto (tgt := 17) hx hb dX7_numerator_13 (by decide) ?_
    exact RET _ _ _ hw dX7_numerator_17
abbrev rm7_denominator : Room := { frames := 1, cells := 0, slots := 0, locals := 20 }
theorem nm7_denominator : kNm yX7_denominator 1 := by decide +kernel
set_option maxHeartbeats 4000000 in
set_option maxRecDepth 100000 in
theorem c7_denominator (l : Launch) (D : va_G) (cI cJ cN cR : ClassId) (rf : Nat → Nat) (f_hasSnapshot : Int32) (f_termListSize : Int32) (f_textSize : Int32) (f_bottoms : (Nat → Int32)) (v1 : Int32) (post : Int32 → Prop) (hw : w7_denominator f_bottoms v1 post) : Met l yX7_denominator wsX7_denominator rm7_denominator (kR D (kT cI cJ cN cR) [.ref (rf 0), .int v1] [((rf 0), o7 rf f_hasSnapshot f_termListSize f_textSize), ((rf 2), ai cI 8 f_bottoms)]) (vp_Si post) 0 0 (fun _ => False) := by
  refine kMetRI (cc := cX7_denominator) (maxL := 2) (by decide +kernel) rfl (Nat.le_of_ble_eq_true rfl) ?_
  intro p e s m args below meth c H ls Q C0 hK hN hP hl RET
  obtain ⟨hx, hb, hml, hown, hts⟩ := id C0
  have hl : lv_has ls 2 [(0, .ref (rf 0)), (1, .int v1)] := hl
  have g13 := hts (.fieldLink RX7 13 "SternBrocotExplorer" "bottoms" "[I") (by decide +kernel)
  have hi9 : ∀ w ∈ wsX70, w ∈ wsX7_denominator := fun w h => List.mem_cons_of_mem _ (List.mem_append_right _ h)
  unfold w7_denominator at hw
  refine lv_iload_n hx hb dX7_denominator_0 rfl (lv_at hl 1 rfl) ?_
  refine kcRI (wc := []) hP [] rfl (fun hPc => oS (As := [.int v1]) (rest := []) C0 hK hN (c7_isRegister l D cI cJ cN cR   v1 _ hw) 1 gX7_denominator_X7_isRegister rfl ⟨rfl, rfl⟩ nm7_isRegister ⟨Nat.le_of_ble_eq_true rfl, Nat.le_of_ble_eq_true rfl⟩ rfl hl.1 rfl (Nat.le_of_ble_eq_true rfl) dX7_denominator_1 ⟨Nat.le_of_ble_eq_true rfl, Nat.le_of_ble_eq_true rfl⟩ hPc) (fun r1 hw => ?_)
  obtain ⟨nb1, hw⟩ := hw
  refine lv_if_eq (tgt := 16) hx hb dX7_denominator_4 (by decide) (fun k => ?_) (fun k => ?_)
  · have hw := hw.1 k
    refine lv_iconst (v := (-1 : Int32)) hx hb dX7_denominator_16 (by decide) ?_
    exact RET _ _ _ hw dX7_denominator_17
  · have hw := hw.2 k
    refine lv_aload_n hx hb dX7_denominator_7 rfl (lv_at hl 0 rfl) ?_
    refine va_get (D := D) (ci := 7) (v := .ref (rf 2)) (C := RX7) (T := TX7) (N := 16) hx hb hts hi9 hown hK hP 0 rfl rfl 1 (by decide) g13 (fun _ h9 => h9) rfl dX7_denominator_8 ?_
    refine lv_iload_n hx hb dX7_denominator_11 rfl (lv_at hl 1 rfl) ?_
    obtain ⟨hin, hw⟩ := hw
    refine va_iald hx hb hK hP 1 0 rfl rfl hin dX7_denominator_12 ?_
    refine lv_goto (tgt := 17) hx hb dX7_denominator_13 (by decide) ?_
    exact RET _ _ _ hw dX7_denominator_17
abbrev rm7_crossDifference : Room := { frames := 0, cells := 0, slots := 0, locals := 0 }
theorem nm7_crossDifference : kNm yX7_crossDifference 2 := by decide +kernel
set_option maxHeartbeats 4000000 in
set_option maxRecDepth 100000 in
theorem c7_crossDifference (l : Launch) (D : va_G) (cI cJ cN cR : ClassId) (rf : Nat → Nat) (f_hasSnapshot : Int32) (f_termListSize : Int32) (f_textSize : Int32) (f_tops : (Nat → Int32)) (f_bottoms : (Nat → Int32)) (v1 : Int32) (v2 : Int32) (post : Int64 → Prop) (hw : w7_crossDifference f_tops f_bottoms v1 v2 post) : Met l yX7_crossDifference wsX7_crossDifference rm7_crossDifference (kR D (kT cI cJ cN cR) [.ref (rf 0), .int v1, .int v2] [((rf 0), o7 rf f_hasSnapshot f_termListSize f_textSize), ((rf 1), ai cI 8 f_tops), ((rf 2), ai cI 8 f_bottoms)]) (vp_Sl post) 0 0 (fun _ => False) := by
  refine kMetRL (cc := cX7_crossDifference) (maxL := 3) (by decide +kernel) rfl (Nat.le_of_ble_eq_true rfl) ?_
  intro p e s m args below meth c H ls Q C0 hK hN hP hl RET
  obtain ⟨hx, hb, hml, hown, hts⟩ := id C0
  have hl : lv_has ls 3 [(0, .ref (rf 0)), (1, .int v1), (2, .int v2)] := hl
  have g9 := hts (.fieldLink RX7 9 "SternBrocotExplorer" "tops" "[I") (by decide +kernel)
  have g13 := hts (.fieldLink RX7 13 "SternBrocotExplorer" "bottoms" "[I") (by decide +kernel)
  have hi9 : ∀ w ∈ wsX70, w ∈ wsX7_crossDifference := fun w h => List.mem_cons_of_mem _ (List.mem_append_right _ h)
  unfold w7_crossDifference at hw
  refine lv_aload_n hx hb dX7_crossDifference_0 rfl (lv_at hl 0 rfl) ?_
  refine va_get (D := D) (ci := 7) (v := .ref (rf 1)) (C := RX7) (T := TX7) (N := 16) hx hb hts hi9 hown hK hP 0 rfl rfl 0 (by decide) g9 (fun _ h9 => h9) rfl dX7_crossDifference_1 ?_
  refine lv_iload_n hx hb dX7_crossDifference_4 rfl (lv_at hl 1 rfl) ?_
  obtain ⟨hin, hw⟩ := hw
  refine va_iald hx hb hK hP 1 0 rfl rfl hin dX7_crossDifference_5 ?_
  refine lv_i2l hx hb dX7_crossDifference_6 rfl ?_
  refine lv_aload_n hx hb dX7_crossDifference_7 rfl (lv_at hl 0 rfl) ?_
  refine va_get (D := D) (ci := 7) (v := .ref (rf 2)) (C := RX7) (T := TX7) (N := 16) hx hb hts hi9 hown hK hP 0 rfl rfl 1 (by decide) g13 (fun _ h9 => h9) rfl dX7_crossDifference_8 ?_
  refine lv_iload_n hx hb dX7_crossDifference_11 rfl (lv_at hl 2 rfl) ?_
  obtain ⟨hin, hw⟩ := hw
  refine va_iald hx hb hK hP 2 0 rfl rfl hin dX7_crossDifference_12 ?_
  refine lv_i2l hx hb dX7_crossDifference_13 rfl ?_
  refine lv_lmul hx hb dX7_crossDifference_14 ?_
  refine lv_aload_n hx hb dX7_crossDifference_15 rfl (lv_at hl 0 rfl) ?_
  refine va_get (D := D) (ci := 7) (v := .ref (rf 2)) (C := RX7) (T := TX7) (N := 16) hx hb hts hi9 hown hK hP 0 rfl rfl 1 (by decide) g13 (fun _ h9 => h9) rfl dX7_crossDifference_16 ?_
  refine lv_iload_n hx hb dX7_crossDifference_19 rfl (lv_at hl 1 rfl) ?_
  obtain ⟨hin, hw⟩ := hw
  refine va_iald hx hb hK hP 2 0 rfl rfl hin dX7_crossDifference_20 ?_
  refine lv_i2l hx hb dX7_crossDifference_21 rfl ?_
  refine lv_aload_n hx hb dX7_crossDifference_22 rfl (lv_at hl 0 rfl) ?_
  refine va_get (D := D) (ci := 7) (v := .ref (rf 1)) (C := RX7) (T := TX7) (N := 16) hx hb hts hi9 hown hK hP 0 rfl rfl 0 (by decide) g9 (fun _ h9 => h9) rfl dX7_crossDifference_23 ?_
  refine lv_iload_n hx hb dX7_crossDifference_26 rfl (lv_at hl 2 rfl) ?_
  obtain ⟨hin, hw⟩ := hw
  refine va_iald hx hb hK hP 1 0 rfl rfl hin dX7_crossDifference_27 ?_
  refine lv_i2l hx hb dX7_crossDifference_28 rfl ?_
  refine lv_lmul hx hb dX7_crossDifference_29 ?_
  refine lv_lsub hx hb dX7_crossDifference_30 ?_
  exact RET _ _ _ hw dX7_crossDifference_31
abbrev rm7_compare : Room := { frames := 1, cells := 0, slots := 0, locals := 22 }
theorem nm7_compare : kNm yX7_compare 2 := by decide +kernel
set_option maxHeartbeats 4000000 in
set_option maxRecDepth 100000 in
theorem c7_compare (l : Launch) (D : va_G) (cI cJ cN cR : ClassId) (rf : Nat → Nat) (f_hasSnapshot : Int32) (f_termListSize : Int32) (f_textSize : Int32) (f_tops : (Nat → Int32)) (f_bottoms : (Nat → Int32)) (v1 : Int32) (v2 : Int32) (post : Int32 → Prop) (hw : w7_compare f_tops f_bottoms v1 v2 post) : Met l yX7_compare wsX7_compare rm7_compare (kR D (kT cI cJ cN cR) [.ref (rf 0), .int v1, .int v2] [((rf 0), o7 rf f_hasSnapshot f_termListSize f_textSize), ((rf 1), ai cI 8 f_tops), ((rf 2), ai cI 8 f_bottoms)]) (vp_Si post) 0 0 (fun _ => False) := by
  refine kMetRI (cc := cX7_compare) (maxL := 5) (by decide +kernel) rfl (Nat.le_of_ble_eq_true rfl) ?_
  intro p e s m args below meth c H ls Q C0 hK hN hP hl RET
  obtain ⟨hx, hb, hml, hown, hts⟩ := id C0
  have hl : lv_has ls 5 [(0, .ref (rf 0)), (1, .int v1), (2, .int v2)] := hl
  unfold w7_compare at hw
  refine lv_iload_n hx hb dX7_compare_0 rfl (lv_at hl 1 rfl) ?_
  refine kcRI (wc := []) hP [] rfl (fun hPc => oS (As := [.int v1]) (rest := []) C0 hK hN (c7_isRegister l D cI cJ cN cR   v1 _ hw) 1 gX7_compare_X7_isRegister rfl ⟨rfl, rfl⟩ nm7_isRegister ⟨Nat.le_of_ble_eq_true rfl, Nat.le_of_ble_eq_true rfl⟩ rfl hl.1 rfl (Nat.le_of_ble_eq_true rfl) dX7_compare_1 ⟨Nat.le_of_ble_eq_true rfl, Nat.le_of_ble_eq_true rfl⟩ hPc) (fun r1 hw => ?_)
  obtain ⟨nb1, hw⟩ := hw
  refine lv_if_eq (tgt := 14) hx hb dX7_compare_4 (by decide) (fun k => ?_) (fun k => ?_)
  · have hw := hw.1 k
    refine lv_iconst (v := (-1 : Int32)) hx hb dX7_compare_14 (by decide) ?_
    exact RET _ _ _ hw dX7_compare_15
  · have hw := hw.2 k
    refine lv_iload_n hx hb dX7_compare_7 rfl (lv_at hl 2 rfl) ?_
    refine kcRI (wc := []) hP [] rfl (fun hPc => oS (As := [.int v2]) (rest := []) C0 hK hN (c7_isRegister l D cI cJ cN cR   v2 _ hw) 1 gX7_compare_X7_isRegister rfl ⟨rfl, rfl⟩ nm7_isRegister ⟨Nat.le_of_ble_eq_true rfl, Nat.le_of_ble_eq_true rfl⟩ rfl hl.1 rfl (Nat.le_of_ble_eq_true rfl) dX7_compare_8 ⟨Nat.le_of_ble_eq_true rfl, Nat.le_of_ble_eq_true rfl⟩ hPc) (fun r8 hw => ?_)
    obtain ⟨nb8, hw⟩ := hw
    refine lv_if_ne (tgt := 16) hx hb dX7_compare_11 (by decide) (fun k => ?_) (fun k => ?_)
    · have hw := hw.1 k
      refine lv_aload_n hx hb dX7_compare_16 rfl (lv_at hl 0 rfl) ?_
      refine lv_iload_n hx hb dX7_compare_17 rfl (lv_at hl 1 rfl) ?_
      refine lv_iload_n hx hb dX7_compare_18 rfl (lv_at hl 2 rfl) ?_
      refine kcRL (wc := [((rf 0), o7 rf f_hasSnapshot f_termListSize f_textSize), ((rf 1), ai cI 8 f_tops), ((rf 2), ai cI 8 f_bottoms)]) hP [0, 1, 2] rfl (fun hPc => oV (As := [.int v1, .int v2]) (rest := []) C0 hK hN (c7_crossDifference l D cI cJ cN cR rf f_hasSnapshot f_termListSize f_textSize f_tops f_bottoms v1 v2 _ hw) 2 gX7_compare_X7_crossDifference rfl ⟨rfl, rfl⟩ nm7_crossDifference ⟨Nat.le_of_ble_eq_true rfl, Nat.le_of_ble_eq_true rfl⟩ (q0 := 0) rfl rfl rfl rfl hl.1 rfl (Nat.le_of_ble_eq_true rfl) dX7_compare_19 ⟨Nat.le_of_ble_eq_true rfl, Nat.le_of_ble_eq_true rfl⟩ hPc) (fun r19 hw => ?_)
      refine lv_lstore_n (lv' := [(3, .long r19), (0, .ref (rf 0)), (1, .int v1), (2, .int v2)]) hx hb dX7_compare_22 rfl hl (by decide) rfl (fun ls hl => ?_)
      refine lv_lload_n hx hb dX7_compare_23 rfl (lv_at hl 0 rfl) ?_
      refine lv_lconst (v := (0 : Int64)) hx hb dX7_compare_24 (by decide) ?_
      refine W.lcmp hx hb dX7_compare_25 ?_
      refine lv_if_ge (tgt := 31) hx hb dX7_compare_26 (by decide) (fun k => ?_) (fun k => ?_)
      · have hw := hw.1 ((lg_cmp_ge _ _).mp k)
        refine lv_lload_n hx hb dX7_compare_31 rfl (lv_at hl 0 rfl) ?_
        refine lv_lconst (v := (0 : Int64)) hx hb dX7_compare_32 (by decide) ?_
        refine W.lcmp hx hb dX7_compare_33 ?_
        refine lv_if_ne (tgt := 41) hx hb dX7_compare_34 (by decide) (fun k => ?_) (fun k => ?_)
        · have hw := hw.1 (fun h => k ((lg_cmp_eq _ _).mpr h))
          refine lv_iconst (v := (2 : Int32)) hx hb dX7_compare_41 (by decide) ?_
          exact RET _ _ _ hw dX7_compare_42
        · have hw := hw.2 ((lg_cmp_eq _ _).mp k)
          refine lv_iconst (v := (1 : Int32)) hx hb dX7_compare_37 (by decide) ?_
          refine lv_goto (tgt := 42) hx hb dX7_compare_38 (by decide) ?_
          exact RET _ _ _ hw dX7_compare_42
      · have hw := hw.2 (fun h => k ((lg_cmp_ge _ _).mpr h))
        refine lv_iconst (v := (0 : Int32)) hx hb dX7_compare_29 (by decide) ?_
        exact RET _ _ _ hw dX7_compare_30
    · have hw := hw.2 k
      refine lv_iconst (v := (-1 : Int32)) hx hb dX7_compare_14 (by decide) ?_
      exact RET _ _ _ hw dX7_compare_15
abbrev rm7_combine : Room := { frames := 2, cells := 0, slots := 0, locals := 61 }
theorem nm7_combine : kNm yX7_combine 4 := by decide +kernel
set_option maxHeartbeats 4000000 in
set_option maxRecDepth 100000 in
theorem c7_combine (l : Launch) (D : va_G) (cI cJ cN cR : ClassId) (rf : Nat → Nat) (sz : Nat) (f_hasSnapshot : Int32) (f_termListSize : Int32) (f_textSize : Int32) (f_tops : (Nat → Int32)) (f_bottoms : (Nat → Int32)) (v1 : Int32) (v2 : Int32) (v3 : Int32) (v4 : Int32) (post : Int32 → (Nat → Int32) → (Nat → Int32) → Prop) (hw : w7_combine f_tops f_bottoms v1 v2 v3 v4 post) : Met l yX7_combine wsX7_combine rm7_combine (kP D (kT cI cJ cN cR) sz [.ref (rf 0), .int v1, .int v2, .int v3, .int v4] [((rf 0), o7 rf f_hasSnapshot f_termListSize f_textSize), ((rf 1), ai cI 8 f_tops), ((rf 2), ai cI 8 f_bottoms)]) (kQi D [((rf 0), o7 rf f_hasSnapshot f_termListSize f_textSize), ((rf 1), ai cI 8 f_tops), ((rf 2), ai cI 8 f_bottoms)] sz (fun (r : Int32) (u : (Nat → Int32) × (Nat → Int32)) => post r u.1 u.2) (fun (u : (Nat → Int32) × (Nat → Int32)) => [((rf 0), o7 rf f_hasSnapshot f_termListSize f_textSize), ((rf 1), ai cI 8 u.1), ((rf 2), ai cI 8 u.2)])) 0 0 (va_A [((rf 0), o7 rf f_hasSnapshot f_termListSize f_textSize), ((rf 1), ai cI 8 f_tops), ((rf 2), ai cI 8 f_bottoms)] sz) := by
  refine kMetI (cc := cX7_combine) (maxL := 15) (by decide +kernel) rfl (Nat.le_of_ble_eq_true rfl) ?_
  intro p e s m args below meth c H0 ls A Q C0 hK hN hP hD hS hA hl RET
  obtain ⟨hx, hb, hml, hown, hts⟩ := id C0
  have hl : lv_has ls 15 [(0, .ref (rf 0)), (1, .int v1), (2, .int v2), (3, .int v3), (4, .int v4)] := hl
  have g9 := hts (.fieldLink RX7 9 "SternBrocotExplorer" "tops" "[I") (by decide +kernel)
  have g13 := hts (.fieldLink RX7 13 "SternBrocotExplorer" "bottoms" "[I") (by decide +kernel)
  have hi9 : ∀ w ∈ wsX70, w ∈ wsX7_combine := fun w h => List.mem_cons_of_mem _ (List.mem_append_right _ h)
  unfold w7_combine at hw
  have hP : va_P D vwCl [((rf 0), o7 rf f_hasSnapshot f_termListSize f_textSize), ((rf 1), ai cI 8 f_tops), ((rf 2), ai cI 8 f_bottoms)] H0 := hP
  refine lv_iload_n hx hb dX7_combine_0 rfl (lv_at hl 1 rfl) ?_
  refine kcRI (wc := []) hP [] rfl (fun hPc => oS (As := [.int v1]) (rest := []) C0 hK hN (c7_isRegister l D cI cJ cN cR   v1 _ hw) 1 gX7_combine_X7_isRegister rfl ⟨rfl, rfl⟩ nm7_isRegister ⟨Nat.le_of_ble_eq_true rfl, Nat.le_of_ble_eq_true rfl⟩ rfl hl.1 rfl (Nat.le_of_ble_eq_true rfl) dX7_combine_1 ⟨Nat.le_of_ble_eq_true rfl, Nat.le_of_ble_eq_true rfl⟩ hPc) (fun r1 hw => ?_)
  obtain ⟨nb1, hw⟩ := hw
  refine lv_if_eq (tgt := 31) hx hb dX7_combine_4 (by decide) (fun k => ?_) (fun k => ?_)
  · have hw := hw.1 k
    refine lv_iconst (v := (-1 : Int32)) hx hb dX7_combine_31 (by decide) ?_
    exact RET _ _ _ (f_tops, f_bottoms) _ _ hw hP hD hS dX7_combine_32
  · have hw := hw.2 k
    refine lv_iload_n hx hb dX7_combine_7 rfl (lv_at hl 2 rfl) ?_
    refine kcRI (wc := []) hP [] rfl (fun hPc => oS (As := [.int v2]) (rest := []) C0 hK hN (c7_isRegister l D cI cJ cN cR   v2 _ hw) 1 gX7_combine_X7_isRegister rfl ⟨rfl, rfl⟩ nm7_isRegister ⟨Nat.le_of_ble_eq_true rfl, Nat.le_of_ble_eq_true rfl⟩ rfl hl.1 rfl (Nat.le_of_ble_eq_true rfl) dX7_combine_8 ⟨Nat.le_of_ble_eq_true rfl, Nat.le_of_ble_eq_true rfl⟩ hPc) (fun r8 hw => ?_)
    obtain ⟨nb8, hw⟩ := hw
    refine lv_if_eq (tgt := 31) hx hb dX7_combine_11 (by decide) (fun k => ?_) (fun k => ?_)
    · have hw := hw.1 k
      refine lv_iconst (v := (-1 : Int32)) hx hb dX7_combine_31 (by decide) ?_
      exact RET _ _ _ (f_tops, f_bottoms) _ _ hw hP hD hS dX7_combine_32
    · have hw := hw.2 k
      refine lv_iload_n hx hb dX7_combine_14 rfl (lv_at hl 3 rfl) ?_
      refine kcRI (wc := []) hP [] rfl (fun hPc => oS (As := [.int v3]) (rest := []) C0 hK hN (c7_isRegister l D cI cJ cN cR   v3 _ hw) 1 gX7_combine_X7_isRegister rfl ⟨rfl, rfl⟩ nm7_isRegister ⟨Nat.le_of_ble_eq_true rfl, Nat.le_of_ble_eq_true rfl⟩ rfl hl.1 rfl (Nat.le_of_ble_eq_true rfl) dX7_combine_15 ⟨Nat.le_of_ble_eq_true rfl, Nat.le_of_ble_eq_true rfl⟩ hPc) (fun r15 hw => ?_)
      obtain ⟨nb15, hw⟩ := hw
      refine lv_if_eq (tgt := 31) hx hb dX7_combine_18 (by decide) (fun k => ?_) (fun k => ?_)
      · have hw := hw.1 k
        refine lv_iconst (v := (-1 : Int32)) hx hb dX7_combine_31 (by decide) ?_
        exact RET _ _ _ (f_tops, f_bottoms) _ _ hw hP hD hS dX7_combine_32
      · have hw := hw.2 k
        refine lv_iload hx hb dX7_combine_21 (lv_at hl 4 rfl) ?_
        refine lv_iconst (v := (0 : Int32)) hx hb dX7_combine_23 (by decide) ?_
        refine lv_iconst (v := (4 : Int32)) hx hb dX7_combine_24 (by decide) ?_
        refine kcRI (wc := []) hP [] rfl (fun hPc => oS (As := [.int v4, .int (0 : Int32), .int (4 : Int32)]) (rest := []) C0 hK hN (c7_isIn l D cI cJ cN cR   v4 (0 : Int32) (4 : Int32) _ hw) 3 gX7_combine_X7_isIn rfl ⟨rfl, rfl⟩ nm7_isIn ⟨Nat.le_of_ble_eq_true rfl, Nat.le_of_ble_eq_true rfl⟩ rfl hl.1 rfl (Nat.le_of_ble_eq_true rfl) dX7_combine_25 ⟨Nat.le_of_ble_eq_true rfl, Nat.le_of_ble_eq_true rfl⟩ hPc) (fun r25 hw => ?_)
        obtain ⟨nb25, hw⟩ := hw
        refine lv_if_ne (tgt := 33) hx hb dX7_combine_28 (by decide) (fun k => ?_) (fun k => ?_)
        · have hw := hw.1 k
          refine lv_aload_n hx hb dX7_combine_33 rfl (lv_at hl 0 rfl) ?_
          refine va_get (D := D) (ci := 7) (v := .ref (rf 1)) (C := RX7) (T := TX7) (N := 16) hx hb hts hi9 hown hK hP 0 rfl rfl 0 (by decide) g9 (fun _ h9 => h9) rfl dX7_combine_34 ?_
          refine lv_iload_n hx hb dX7_combine_37 rfl (lv_at hl 2 rfl) ?_
          obtain ⟨hin, hw⟩ := hw
          refine va_iald hx hb hK hP 1 0 rfl rfl hin dX7_combine_38 ?_
          refine lv_i2l hx hb dX7_combine_39 rfl ?_
          refine lv_topl (fun x40 ex40 => ?_)
          have hw := hw x40 ex40
          refine lv_lstore (lv' := [(5, .long x40), (0, .ref (rf 0)), (1, .int v1), (2, .int v2), (3, .int v3), (4, .int v4)]) hx hb dX7_combine_40 hl (by decide) rfl (fun ls hl => ?_)
          refine lv_aload_n hx hb dX7_combine_42 rfl (lv_at hl 1 rfl) ?_
          refine va_get (D := D) (ci := 7) (v := .ref (rf 2)) (C := RX7) (T := TX7) (N := 16) hx hb hts hi9 hown hK hP 0 rfl rfl 1 (by decide) g13 (fun _ h9 => h9) rfl dX7_combine_43 ?_
          refine lv_iload_n hx hb dX7_combine_46 rfl (lv_at hl 3 rfl) ?_
          obtain ⟨hin, hw⟩ := hw
          refine va_iald hx hb hK hP 2 0 rfl rfl hin dX7_combine_47 ?_
          refine lv_i2l hx hb dX7_combine_48 rfl ?_
          refine lv_topl (fun x49 ex49 => ?_)
          have hw := hw x49 ex49
          refine lv_lstore (lv' := [(7, .long x49), (5, .long x40), (0, .ref (rf 0)), (1, .int v1), (2, .int v2), (3, .int v3), (4, .int v4)]) hx hb dX7_combine_49 hl (by decide) rfl (fun ls hl => ?_)
          refine lv_aload_n hx hb dX7_combine_51 rfl (lv_at hl 2 rfl) ?_
          refine va_get (D := D) (ci := 7) (v := .ref (rf 1)) (C := RX7) (T := TX7) (N := 16) hx hb hts hi9 hown hK hP 0 rfl rfl 0 (by decide) g9 (fun _ h9 => h9) rfl dX7_combine_52 ?_
          refine lv_iload_n hx hb dX7_combine_55 rfl (lv_at hl 5 rfl) ?_
          obtain ⟨hin, hw⟩ := hw
          refine va_iald hx hb hK hP 1 0 rfl rfl hin dX7_combine_56 ?_
          refine lv_i2l hx hb dX7_combine_57 rfl ?_
          refine lv_topl (fun x58 ex58 => ?_)
          have hw := hw x58 ex58
          refine lv_lstore (lv' := [(9, .long x58), (7, .long x49), (5, .long x40), (0, .ref (rf 0)), (1, .int v1), (2, .int v2), (3, .int v3), (4, .int v4)]) hx hb dX7_combine_58 hl (by decide) rfl (fun ls hl => ?_)
          refine lv_aload_n hx hb dX7_combine_60 rfl (lv_at hl 3 rfl) ?_
          refine va_get (D := D) (ci := 7) (v := .ref (rf 2)) (C := RX7) (T := TX7) (N := 16) hx hb hts hi9 hown hK hP 0 rfl rfl 1 (by decide) g13 (fun _ h9 => h9) rfl dX7_combine_61 ?_
          refine lv_iload_n hx hb dX7_combine_64 rfl (lv_at hl 6 rfl) ?_
          obtain ⟨hin, hw⟩ := hw
          refine va_iald hx hb hK hP 2 0 rfl rfl hin dX7_combine_65 ?_
          refine lv_i2l hx hb dX7_combine_66 rfl ?_
          refine lv_topl (fun x67 ex67 => ?_)
          have hw := hw x67 ex67
          refine lv_lstore (lv' := [(11, .long x67), (9, .long x58), (7, .long x49), (5, .long x40), (0, .ref (rf 0)), (1, .int v1), (2, .int v2), (3, .int v3), (4, .int v4)]) hx hb dX7_combine_67 hl (by decide) rfl (fun ls hl => ?_)
          refine lv_iload hx hb dX7_combine_69 (lv_at hl 8 rfl) ?_
          by_cases ho : v4.toInt < 0 ∨ 3 < v4.toInt
          · have hw := hw.1 ho
            refine lv_tableOut (tgt := 187) hx hb dX7_combine_71 ho (by decide) ?_
            refine lv_aload_n hx hb dX7_combine_187 rfl (lv_at hl 4 rfl) ?_
            refine lv_iload_n hx hb dX7_combine_188 rfl (lv_at hl 5 rfl) ?_
            refine lv_lload hx hb dX7_combine_189 (lv_at hl 3 rfl) ?_
            refine lv_lload hx hb dX7_combine_191 (lv_at hl 1 rfl) ?_
            refine lv_ladd hx hb dX7_combine_193 ?_
            refine lv_lload hx hb dX7_combine_194 (lv_at hl 2 rfl) ?_
            refine lv_lload hx hb dX7_combine_196 (lv_at hl 0 rfl) ?_
            refine lv_ladd hx hb dX7_combine_198 ?_
            refine kcI (wc := [((rf 0), o7 rf f_hasSnapshot f_termListSize f_textSize), ((rf 1), ai cI 8 f_tops), ((rf 2), ai cI 8 f_bottoms)]) (wr := []) hP hD hS hA [0, 1, 2] [] rfl rfl ⟨rfl, rfl, by decide⟩ (fun hPc hDc => rV (As := [.int v1, .long (x40 + x58), .long (x49 + x67)]) (rest := []) C0 hK hN (c7_store l D cI cJ cN cR rf H0.size f_hasSnapshot f_termListSize f_textSize f_tops f_bottoms v1 (x40 + x58) (x49 + x67) _ hw) 3 gX7_combine_X7_store rfl ⟨rfl, rfl⟩ nm7_store ⟨Nat.le_of_ble_eq_true rfl, Nat.le_of_ble_eq_true rfl⟩ (q0 := 0) rfl rfl rfl rfl hl.1 rfl (Nat.le_of_ble_eq_true rfl) dX7_combine_199 ⟨Nat.le_of_ble_eq_true rfl, Nat.le_of_ble_eq_true rfl⟩ hPc hDc) (fun r199 u199 H locs hw hP hD hS => ?_)
            obtain ⟨f_tops_199, f_bottoms_199⟩ := u199
            dsimp only at hw
            have hP : va_P D vwCl [((rf 0), o7 rf f_hasSnapshot f_termListSize f_textSize), ((rf 1), ai cI 8 f_tops_199), ((rf 2), ai cI 8 f_bottoms_199)] H := hP
            have hD : va_D A [((rf 0), o7 rf f_hasSnapshot f_termListSize f_textSize), ((rf 1), ai cI 8 f_tops_199), ((rf 2), ai cI 8 f_bottoms_199)] := hD
            exact RET _ _ _ (f_tops_199, f_bottoms_199) _ _ hw hP hD hS dX7_combine_202
          rcases (show v4.toInt = 0 ∨ v4.toInt = 1 ∨ v4.toInt = 2 ∨ v4.toInt = 3 by omega) with h9 | h9 | h9 | h9
          · have hw := hw.2.1 (Int32.toInt_inj.mp (h9.trans (by decide)))
            refine lv_tableIn (tgt := 100) hx hb dX7_combine_71 (by rw [h9]; decide) (by rw [h9]; decide) (by rw [h9]; rfl) (by decide) ?_
            refine lv_aload_n hx hb dX7_combine_100 rfl (lv_at hl 4 rfl) ?_
            refine lv_iload_n hx hb dX7_combine_101 rfl (lv_at hl 5 rfl) ?_
            refine lv_lload hx hb dX7_combine_102 (lv_at hl 3 rfl) ?_
            refine lv_lload hx hb dX7_combine_104 (lv_at hl 0 rfl) ?_
            refine lv_lmul hx hb dX7_combine_106 ?_
            refine lv_lload hx hb dX7_combine_107 (lv_at hl 1 rfl) ?_
            refine lv_lload hx hb dX7_combine_109 (lv_at hl 2 rfl) ?_
            refine lv_lmul hx hb dX7_combine_111 ?_
            refine lv_ladd hx hb dX7_combine_112 ?_
            refine lv_lload hx hb dX7_combine_113 (lv_at hl 2 rfl) ?_
            refine lv_lload hx hb dX7_combine_115 (lv_at hl 0 rfl) ?_
            refine lv_lmul hx hb dX7_combine_117 ?_
            refine kcI (wc := [((rf 0), o7 rf f_hasSnapshot f_termListSize f_textSize), ((rf 1), ai cI 8 f_tops), ((rf 2), ai cI 8 f_bottoms)]) (wr := []) hP hD hS hA [0, 1, 2] [] rfl rfl ⟨rfl, rfl, by decide⟩ (fun hPc hDc => rV (As := [.int v1, .long ((x40 * x67) + (x58 * x49)), .long (x49 * x67)]) (rest := []) C0 hK hN (c7_store l D cI cJ cN cR rf H0.size f_hasSnapshot f_termListSize f_textSize f_tops f_bottoms v1 ((x40 * x67) + (x58 * x49)) (x49 * x67) _ hw) 3 gX7_combine_X7_store rfl ⟨rfl, rfl⟩ nm7_store ⟨Nat.le_of_ble_eq_true rfl, Nat.le_of_ble_eq_true rfl⟩ (q0 := 0) rfl rfl rfl rfl hl.1 rfl (Nat.le_of_ble_eq_true rfl) dX7_combine_118 ⟨Nat.le_of_ble_eq_true rfl, Nat.le_of_ble_eq_true rfl⟩ hPc hDc) (fun r118 u118 H locs hw hP hD hS => ?_)
            obtain ⟨f_tops_118, f_bottoms_118⟩ := u118
            dsimp only at hw
            have hP : va_P D vwCl [((rf 0), o7 rf f_hasSnapshot f_termListSize f_textSize), ((rf 1), ai cI 8 f_tops_118), ((rf 2), ai cI 8 f_bottoms_118)] H := hP
            have hD : va_D A [((rf 0), o7 rf f_hasSnapshot f_termListSize f_textSize), ((rf 1), ai cI 8 f_tops_118), ((rf 2), ai cI 8 f_bottoms_118)] := hD
            exact RET _ _ _ (f_tops_118, f_bottoms_118) _ _ hw hP hD hS dX7_combine_121
          · have hw := hw.2.2.1 (Int32.toInt_inj.mp (h9.trans (by decide)))
            refine lv_tableIn (tgt := 122) hx hb dX7_combine_71 (by rw [h9]; decide) (by rw [h9]; decide) (by rw [h9]; rfl) (by decide) ?_
            refine lv_aload_n hx hb dX7_combine_122 rfl (lv_at hl 4 rfl) ?_
            refine lv_iload_n hx hb dX7_combine_123 rfl (lv_at hl 6 rfl) ?_
            refine lv_iload_n hx hb dX7_combine_124 rfl (lv_at hl 7 rfl) ?_
            refine kcRL (wc := [((rf 0), o7 rf f_hasSnapshot f_termListSize f_textSize), ((rf 1), ai cI 8 f_tops), ((rf 2), ai cI 8 f_bottoms)]) hP [0, 1, 2] rfl (fun hPc => oV (As := [.int v2, .int v3]) (rest := []) C0 hK hN (c7_crossDifference l D cI cJ cN cR rf f_hasSnapshot f_termListSize f_textSize f_tops f_bottoms v2 v3 _ hw) 2 gX7_combine_X7_crossDifference rfl ⟨rfl, rfl⟩ nm7_crossDifference ⟨Nat.le_of_ble_eq_true rfl, Nat.le_of_ble_eq_true rfl⟩ (q0 := 0) rfl rfl rfl rfl hl.1 rfl (Nat.le_of_ble_eq_true rfl) dX7_combine_125 ⟨Nat.le_of_ble_eq_true rfl, Nat.le_of_ble_eq_true rfl⟩ hPc) (fun r125 hw => ?_)
            refine lv_lstore (lv' := [(13, .long r125), (11, .long x67), (9, .long x58), (7, .long x49), (5, .long x40), (0, .ref (rf 0)), (1, .int v1), (2, .int v2), (3, .int v3), (4, .int v4)]) hx hb dX7_combine_128 hl (by decide) rfl (fun ls hl => ?_)
            refine lv_lload hx hb dX7_combine_130 (lv_at hl 0 rfl) ?_
            refine lv_lconst (v := (0 : Int64)) hx hb dX7_combine_132 (by decide) ?_
            refine W.lcmp hx hb dX7_combine_133 ?_
            refine lv_if_le (tgt := 152) hx hb dX7_combine_134 (by decide) (fun k => ?_) (fun k => ?_)
            · have hw := hw.1 ((lg_cmp_le _ _).mp k)
              refine lv_bipush (v := (-4 : Int32)) hx hb dX7_combine_152 (by decide) ?_
              exact RET _ _ _ (f_tops, f_bottoms) _ _ hw hP hD hS dX7_combine_154
            · have hw := hw.2 (fun h => k ((lg_cmp_le _ _).mpr h))
              refine lv_aload_n hx hb dX7_combine_137 rfl (lv_at hl 5 rfl) ?_
              refine lv_iload_n hx hb dX7_combine_138 rfl (lv_at hl 6 rfl) ?_
              refine lv_lload hx hb dX7_combine_139 (lv_at hl 0 rfl) ?_
              refine lv_lload hx hb dX7_combine_141 (lv_at hl 3 rfl) ?_
              refine lv_lload hx hb dX7_combine_143 (lv_at hl 1 rfl) ?_
              refine lv_lmul hx hb dX7_combine_145 ?_
              refine kcI (wc := [((rf 0), o7 rf f_hasSnapshot f_termListSize f_textSize), ((rf 1), ai cI 8 f_tops), ((rf 2), ai cI 8 f_bottoms)]) (wr := []) hP hD hS hA [0, 1, 2] [] rfl rfl ⟨rfl, rfl, by decide⟩ (fun hPc hDc => rV (As := [.int v1, .long r125, .long (x49 * x67)]) (rest := []) C0 hK hN (c7_store l D cI cJ cN cR rf H0.size f_hasSnapshot f_termListSize f_textSize f_tops f_bottoms v1 r125 (x49 * x67) _ hw) 3 gX7_combine_X7_store rfl ⟨rfl, rfl⟩ nm7_store ⟨Nat.le_of_ble_eq_true rfl, Nat.le_of_ble_eq_true rfl⟩ (q0 := 0) rfl rfl rfl rfl hl.1 rfl (Nat.le_of_ble_eq_true rfl) dX7_combine_146 ⟨Nat.le_of_ble_eq_true rfl, Nat.le_of_ble_eq_true rfl⟩ hPc hDc) (fun r146 u146 H locs hw hP hD hS => ?_)
              obtain ⟨f_tops_146, f_bottoms_146⟩ := u146
              dsimp only at hw
              have hP : va_P D vwCl [((rf 0), o7 rf f_hasSnapshot f_termListSize f_textSize), ((rf 1), ai cI 8 f_tops_146), ((rf 2), ai cI 8 f_bottoms_146)] H := hP
              have hD : va_D A [((rf 0), o7 rf f_hasSnapshot f_termListSize f_textSize), ((rf 1), ai cI 8 f_tops_146), ((rf 2), ai cI 8 f_bottoms_146)] := hD
              refine lv_goto (tgt := 154) hx hb dX7_combine_149 (by decide) ?_
              exact RET _ _ _ (f_tops_146, f_bottoms_146) _ _ hw hP hD hS dX7_combine_154
          · have hw := hw.2.2.2.1 (Int32.toInt_inj.mp (h9.trans (by decide)))
            refine lv_tableIn (tgt := 155) hx hb dX7_combine_71 (by rw [h9]; decide) (by rw [h9]; decide) (by rw [h9]; rfl) (by decide) ?_
            refine lv_aload_n hx hb dX7_combine_155 rfl (lv_at hl 4 rfl) ?_
            refine lv_iload_n hx hb dX7_combine_156 rfl (lv_at hl 5 rfl) ?_
            refine lv_lload hx hb dX7_combine_157 (lv_at hl 3 rfl) ?_
            refine lv_lload hx hb dX7_combine_159 (lv_at hl 1 rfl) ?_
            refine lv_lmul hx hb dX7_combine_161 ?_
            refine lv_lload hx hb dX7_combine_162 (lv_at hl 2 rfl) ?_
            refine lv_lload hx hb dX7_combine_164 (lv_at hl 0 rfl) ?_
            refine lv_lmul hx hb dX7_combine_166 ?_
            refine kcI (wc := [((rf 0), o7 rf f_hasSnapshot f_termListSize f_textSize), ((rf 1), ai cI 8 f_tops), ((rf 2), ai cI 8 f_bottoms)]) (wr := []) hP hD hS hA [0, 1, 2] [] rfl rfl ⟨rfl, rfl, by decide⟩ (fun hPc hDc => rV (As := [.int v1, .long (x40 * x58), .long (x49 * x67)]) (rest := []) C0 hK hN (c7_store l D cI cJ cN cR rf H0.size f_hasSnapshot f_termListSize f_textSize f_tops f_bottoms v1 (x40 * x58) (x49 * x67) _ hw) 3 gX7_combine_X7_store rfl ⟨rfl, rfl⟩ nm7_store ⟨Nat.le_of_ble_eq_true rfl, Nat.le_of_ble_eq_true rfl⟩ (q0 := 0) rfl rfl rfl rfl hl.1 rfl (Nat.le_of_ble_eq_true rfl) dX7_combine_167 ⟨Nat.le_of_ble_eq_true rfl, Nat.le_of_ble_eq_true rfl⟩ hPc hDc) (fun r167 u167 H locs hw hP hD hS => ?_)
            obtain ⟨f_tops_167, f_bottoms_167⟩ := u167
            dsimp only at hw
            have hP : va_P D vwCl [((rf 0), o7 rf f_hasSnapshot f_termListSize f_textSize), ((rf 1), ai cI 8 f_tops_167), ((rf 2), ai cI 8 f_bottoms_167)] H := hP
            have hD : va_D A [((rf 0), o7 rf f_hasSnapshot f_termListSize f_textSize), ((rf 1), ai cI 8 f_tops_167), ((rf 2), ai cI 8 f_bottoms_167)] := hD
            exact RET _ _ _ (f_tops_167, f_bottoms_167) _ _ hw hP hD hS dX7_combine_170
          · have hw := hw.2.2.2.2 (Int32.toInt_inj.mp (h9.trans (by decide)))
            refine lv_tableIn (tgt := 171) hx hb dX7_combine_71 (by rw [h9]; decide) (by rw [h9]; decide) (by rw [h9]; rfl) (by decide) ?_
            refine lv_aload_n hx hb dX7_combine_171 rfl (lv_at hl 4 rfl) ?_
            refine lv_iload_n hx hb dX7_combine_172 rfl (lv_at hl 5 rfl) ?_
            refine lv_lload hx hb dX7_combine_173 (lv_at hl 3 rfl) ?_
            refine lv_lload hx hb dX7_combine_175 (lv_at hl 0 rfl) ?_
            refine lv_lmul hx hb dX7_combine_177 ?_
            refine lv_lload hx hb dX7_combine_178 (lv_at hl 2 rfl) ?_
            refine lv_lload hx hb dX7_combine_180 (lv_at hl 1 rfl) ?_
            refine lv_lmul hx hb dX7_combine_182 ?_
            refine kcI (wc := [((rf 0), o7 rf f_hasSnapshot f_termListSize f_textSize), ((rf 1), ai cI 8 f_tops), ((rf 2), ai cI 8 f_bottoms)]) (wr := []) hP hD hS hA [0, 1, 2] [] rfl rfl ⟨rfl, rfl, by decide⟩ (fun hPc hDc => rV (As := [.int v1, .long (x40 * x67), .long (x49 * x58)]) (rest := []) C0 hK hN (c7_store l D cI cJ cN cR rf H0.size f_hasSnapshot f_termListSize f_textSize f_tops f_bottoms v1 (x40 * x67) (x49 * x58) _ hw) 3 gX7_combine_X7_store rfl ⟨rfl, rfl⟩ nm7_store ⟨Nat.le_of_ble_eq_true rfl, Nat.le_of_ble_eq_true rfl⟩ (q0 := 0) rfl rfl rfl rfl hl.1 rfl (Nat.le_of_ble_eq_true rfl) dX7_combine_183 ⟨Nat.le_of_ble_eq_true rfl, Nat.le_of_ble_eq_true rfl⟩ hPc hDc) (fun r183 u183 H locs hw hP hD hS => ?_)
            obtain ⟨f_tops_183, f_bottoms_183⟩ := u183
            dsimp only at hw
            have hP : va_P D vwCl [((rf 0), o7 rf f_hasSnapshot f_termListSize f_textSize), ((rf 1), ai cI 8 f_tops_183), ((rf 2), ai cI 8 f_bottoms_183)] H := hP
            have hD : va_D A [((rf 0), o7 rf f_hasSnapshot f_termListSize f_textSize), ((rf 1), ai cI 8 f_tops_183), ((rf 2), ai cI 8 f_bottoms_183)] := hD
            exact RET _ _ _ (f_tops_183, f_bottoms_183) _ _ hw hP hD hS dX7_combine_186
        · have hw := hw.2 k
          refine lv_iconst (v := (-1 : Int32)) hx hb dX7_combine_31 (by decide) ?_
          exact RET _ _ _ (f_tops, f_bottoms) _ _ hw hP hD hS dX7_combine_32
abbrev rm7_determinant : Room := { frames := 1, cells := 0, slots := 0, locals := 22 }
theorem nm7_determinant : kNm yX7_determinant 2 := by decide +kernel
set_option maxHeartbeats 4000000 in
set_option maxRecDepth 100000 in
theorem c7_determinant (l : Launch) (D : va_G) (cI cJ cN cR : ClassId) (rf : Nat → Nat) (f_hasSnapshot : Int32) (f_termListSize : Int32) (f_textSize : Int32) (f_tops : (Nat → Int32)) (f_bottoms : (Nat → Int32)) (v1 : Int32) (v2 : Int32) (post : Int64 → Prop) (hw : w7_determinant f_tops f_bottoms v1 v2 post) : Met l yX7_determinant wsX7_determinant rm7_determinant (kR D (kT cI cJ cN cR) [.ref (rf 0), .int v1, .int v2] [((rf 0), o7 rf f_hasSnapshot f_termListSize f_textSize), ((rf 1), ai cI 8 f_tops), ((rf 2), ai cI 8 f_bottoms)]) (vp_Sl post) 0 0 (fun _ => False) := by
  refine kMetRL (cc := cX7_determinant) (maxL := 3) (by decide +kernel) rfl (Nat.le_of_ble_eq_true rfl) ?_
  intro p e s m args below meth c H ls Q C0 hK hN hP hl RET
  obtain ⟨hx, hb, hml, hown, hts⟩ := id C0
  have hl : lv_has ls 3 [(0, .ref (rf 0)), (1, .int v1), (2, .int v2)] := hl
  unfold w7_determinant at hw
  refine lv_iload_n hx hb dX7_determinant_0 rfl (lv_at hl 1 rfl) ?_
  refine kcRI (wc := []) hP [] rfl (fun hPc => oS (As := [.int v1]) (rest := []) C0 hK hN (c7_isRegister l D cI cJ cN cR   v1 _ hw) 1 gX7_determinant_X7_isRegister rfl ⟨rfl, rfl⟩ nm7_isRegister ⟨Nat.le_of_ble_eq_true rfl, Nat.le_of_ble_eq_true rfl⟩ rfl hl.1 rfl (Nat.le_of_ble_eq_true rfl) dX7_determinant_1 ⟨Nat.le_of_ble_eq_true rfl, Nat.le_of_ble_eq_true rfl⟩ hPc) (fun r1 hw => ?_)
  obtain ⟨nb1, hw⟩ := hw
  refine lv_if_eq (tgt := 23) hx hb dX7_determinant_4 (by decide) (fun k => ?_) (fun k => ?_)
  · have hw := hw.1 k
    refine lv_ldc2 (v := (-9223372036854775808 : Int64)) hx hb hown (hts (.constantLong RX7 79 (-9223372036854775808)) (by decide +kernel)) dX7_determinant_23 ?_
    exact RET _ _ _ hw dX7_determinant_26
  · have hw := hw.2 k
    refine lv_iload_n hx hb dX7_determinant_7 rfl (lv_at hl 2 rfl) ?_
    refine kcRI (wc := []) hP [] rfl (fun hPc => oS (As := [.int v2]) (rest := []) C0 hK hN (c7_isRegister l D cI cJ cN cR   v2 _ hw) 1 gX7_determinant_X7_isRegister rfl ⟨rfl, rfl⟩ nm7_isRegister ⟨Nat.le_of_ble_eq_true rfl, Nat.le_of_ble_eq_true rfl⟩ rfl hl.1 rfl (Nat.le_of_ble_eq_true rfl) dX7_determinant_8 ⟨Nat.le_of_ble_eq_true rfl, Nat.le_of_ble_eq_true rfl⟩ hPc) (fun r8 hw => ?_)
    obtain ⟨nb8, hw⟩ := hw
    refine lv_if_eq (tgt := 23) hx hb dX7_determinant_11 (by decide) (fun k => ?_) (fun k => ?_)
    · have hw := hw.1 k
      refine lv_ldc2 (v := (-9223372036854775808 : Int64)) hx hb hown (hts (.constantLong RX7 79 (-9223372036854775808)) (by decide +kernel)) dX7_determinant_23 ?_
      exact RET _ _ _ hw dX7_determinant_26
    · have hw := hw.2 k
      refine lv_aload_n hx hb dX7_determinant_14 rfl (lv_at hl 0 rfl) ?_
      refine lv_iload_n hx hb dX7_determinant_15 rfl (lv_at hl 1 rfl) ?_
      refine lv_iload_n hx hb dX7_determinant_16 rfl (lv_at hl 2 rfl) ?_
      refine kcRL (wc := [((rf 0), o7 rf f_hasSnapshot f_termListSize f_textSize), ((rf 1), ai cI 8 f_tops), ((rf 2), ai cI 8 f_bottoms)]) hP [0, 1, 2] rfl (fun hPc => oV (As := [.int v1, .int v2]) (rest := []) C0 hK hN (c7_crossDifference l D cI cJ cN cR rf f_hasSnapshot f_termListSize f_textSize f_tops f_bottoms v1 v2 _ hw) 2 gX7_determinant_X7_crossDifference rfl ⟨rfl, rfl⟩ nm7_crossDifference ⟨Nat.le_of_ble_eq_true rfl, Nat.le_of_ble_eq_true rfl⟩ (q0 := 0) rfl rfl rfl rfl hl.1 rfl (Nat.le_of_ble_eq_true rfl) dX7_determinant_17 ⟨Nat.le_of_ble_eq_true rfl, Nat.le_of_ble_eq_true rfl⟩ hPc) (fun r17 hw => ?_)
      refine lv_goto (tgt := 26) hx hb dX7_determinant_20 (by decide) ?_
      exact RET _ _ _ hw dX7_determinant_26
abbrev rm7_expand : Room := { frames := 2, cells := 0, slots := 0, locals := 47 }
theorem nm7_expand : kNm yX7_expand 1 := by decide +kernel
set_option maxHeartbeats 4000000 in
set_option maxRecDepth 100000 in
theorem c7_expand (l : Launch) (D : va_G) (cI cJ cN cR : ClassId) (rf : Nat → Nat) (sz : Nat) (f_hasSnapshot : Int32) (f_termListSize : Int32) (f_textSize : Int32) (f_tops : (Nat → Int32)) (f_bottoms : (Nat → Int32)) (f_E_size : Int32) (f_E_leftTop : Int64) (f_E_leftBottom : Int64) (f_E_rightTop : Int64) (f_E_rightBottom : Int64) (f_E_terms : (Nat → Int32)) (v1 : Int32) (post : Int32 → (Nat → Int32) → Prop) (hw : w7_expand f_tops f_bottoms f_E_size f_E_terms v1 post) : Met l yX7_expand wsX7_expand rm7_expand (kP D (kT cI cJ cN cR) sz [.ref (rf 0), .int v1] [((rf 0), o7 rf f_hasSnapshot f_termListSize f_textSize), ((rf 1), ai cI 8 f_tops), ((rf 2), ai cI 8 f_bottoms), ((rf 14), o1 (rf 17) f_E_size f_E_leftTop f_E_leftBottom f_E_rightTop f_E_rightBottom), ((rf 17), ai cI 64 f_E_terms)]) (kQr D [((rf 0), o7 rf f_hasSnapshot f_termListSize f_textSize), ((rf 1), ai cI 8 f_tops), ((rf 2), ai cI 8 f_bottoms), ((rf 14), o1 (rf 17) f_E_size f_E_leftTop f_E_leftBottom f_E_rightTop f_E_rightBottom), ((rf 17), ai cI 64 f_E_terms)] sz (rf 14) (fun (u : Int32 × (Nat → Int32)) => post u.1 u.2) (fun (u : Int32 × (Nat → Int32)) => [((rf 0), o7 rf f_hasSnapshot f_termListSize f_textSize), ((rf 1), ai cI 8 f_tops), ((rf 2), ai cI 8 f_bottoms), ((rf 14), o1 (rf 17) u.1 f_E_leftTop f_E_leftBottom f_E_rightTop f_E_rightBottom), ((rf 17), ai cI 64 u.2)])) 0 0 (va_A [((rf 0), o7 rf f_hasSnapshot f_termListSize f_textSize), ((rf 1), ai cI 8 f_tops), ((rf 2), ai cI 8 f_bottoms), ((rf 14), o1 (rf 17) f_E_size f_E_leftTop f_E_leftBottom f_E_rightTop f_E_rightBottom), ((rf 17), ai cI 64 f_E_terms)] sz) := by
  refine kMetR (cc := cX7_expand) (maxL := 2) (by decide +kernel) rfl (Nat.le_of_ble_eq_true rfl) ?_
  intro p e s m args below meth c H0 ls A Q C0 hK hN hP hD hS hA hl RET
  obtain ⟨hx, hb, hml, hown, hts⟩ := id C0
  have hl : lv_has ls 2 [(0, .ref (rf 0)), (1, .int v1)] := hl
  have g48 := hts (.fieldLink RX7 48 "SternBrocotExplorer" "expansion" "LSternBrocotExplorer$Expansion;") (by decide +kernel)
  have g9 := hts (.fieldLink RX7 9 "SternBrocotExplorer" "tops" "[I") (by decide +kernel)
  have g13 := hts (.fieldLink RX7 13 "SternBrocotExplorer" "bottoms" "[I") (by decide +kernel)
  have hi9 : ∀ w ∈ wsX70, w ∈ wsX7_expand := fun w h => List.mem_cons_of_mem _ (List.mem_append_left _ (List.mem_append_right _ h))
  unfold w7_expand at hw
  have hP : va_P D vwCl [((rf 0), o7 rf f_hasSnapshot f_termListSize f_textSize), ((rf 1), ai cI 8 f_tops), ((rf 2), ai cI 8 f_bottoms), ((rf 14), o1 (rf 17) f_E_size f_E_leftTop f_E_leftBottom f_E_rightTop f_E_rightBottom), ((rf 17), ai cI 64 f_E_terms)] H0 := hP
  refine lv_aload_n hx hb dX7_expand_0 rfl (lv_at hl 0 rfl) ?_
  refine va_get (D := D) (ci := 7) (v := .ref (rf 14)) (C := RX7) (T := TX7) (N := 16) hx hb hts hi9 hown hK hP 0 rfl rfl 13 (by decide) g48 (fun _ h9 => h9) rfl dX7_expand_1 ?_
  refine lv_aload_n hx hb dX7_expand_4 rfl (lv_at hl 0 rfl) ?_
  refine va_get (D := D) (ci := 7) (v := .ref (rf 1)) (C := RX7) (T := TX7) (N := 16) hx hb hts hi9 hown hK hP 0 rfl rfl 0 (by decide) g9 (fun _ h9 => h9) rfl dX7_expand_5 ?_
  refine lv_iload_n hx hb dX7_expand_8 rfl (lv_at hl 1 rfl) ?_
  obtain ⟨hin, hw⟩ := hw
  refine va_iald hx hb hK hP 1 0 rfl rfl hin dX7_expand_9 ?_
  refine lv_aload_n hx hb dX7_expand_10 rfl (lv_at hl 0 rfl) ?_
  refine va_get (D := D) (ci := 7) (v := .ref (rf 2)) (C := RX7) (T := TX7) (N := 16) hx hb hts hi9 hown hK hP 0 rfl rfl 1 (by decide) g13 (fun _ h9 => h9) rfl dX7_expand_11 ?_
  refine lv_iload_n hx hb dX7_expand_14 rfl (lv_at hl 1 rfl) ?_
  obtain ⟨hin, hw⟩ := hw
  refine va_iald hx hb hK hP 2 0 rfl rfl hin dX7_expand_15 ?_
  refine kcV (wc := [((rf 14), o1 (rf 17) f_E_size f_E_leftTop f_E_leftBottom f_E_rightTop f_E_rightBottom), ((rf 17), ai cI 64 f_E_terms)]) (wr := [((rf 0), o7 rf f_hasSnapshot f_termListSize f_textSize), ((rf 1), ai cI 8 f_tops), ((rf 2), ai cI 8 f_bottoms)]) hP hD hS hA [3, 4] [0, 1, 2] rfl rfl ⟨rfl, rfl, by decide⟩ (fun hPc hDc => rV (As := [.int (f_tops v1.toNatClampNeg), .int (f_bottoms v1.toNatClampNeg)]) (rest := []) C0 hK hN (c1_expand l D cI cJ cN cR (rf 14) (rf 17) H0.size f_E_size f_E_leftTop f_E_leftBottom f_E_rightTop f_E_rightBottom f_E_terms (f_tops v1.toNatClampNeg) (f_bottoms v1.toNatClampNeg) _ hw) 2 gX7_expand_X1_expand rfl ⟨rfl, rfl⟩ nm1_expand ⟨Nat.le_of_ble_eq_true rfl, Nat.le_of_ble_eq_true rfl⟩ (q0 := 0) rfl rfl rfl rfl hl.1 rfl (Nat.le_of_ble_eq_true rfl) dX7_expand_16 ⟨Nat.le_of_ble_eq_true rfl, Nat.le_of_ble_eq_true rfl⟩ hPc hDc) (fun u16 H locs hw hP hD hS => ?_)
  obtain ⟨f_E_size_16, f_E_terms_16⟩ := u16
  dsimp only at hw
  have hP : va_P D vwCl [((rf 0), o7 rf f_hasSnapshot f_termListSize f_textSize), ((rf 1), ai cI 8 f_tops), ((rf 2), ai cI 8 f_bottoms), ((rf 14), o1 (rf 17) f_E_size_16 f_E_leftTop f_E_leftBottom f_E_rightTop f_E_rightBottom), ((rf 17), ai cI 64 f_E_terms_16)] H := hP
  have hD : va_D A [((rf 0), o7 rf f_hasSnapshot f_termListSize f_textSize), ((rf 1), ai cI 8 f_tops), ((rf 2), ai cI 8 f_bottoms), ((rf 14), o1 (rf 17) f_E_size_16 f_E_leftTop f_E_leftBottom f_E_rightTop f_E_rightBottom), ((rf 17), ai cI 64 f_E_terms_16)] := hD
  refine lv_aload_n hx hb dX7_expand_19 rfl (lv_at hl 0 rfl) ?_
  refine va_get (D := D) (ci := 7) (v := .ref (rf 14)) (C := RX7) (T := TX7) (N := 16) hx hb hts hi9 hown hK hP 0 rfl rfl 13 (by decide) g48 (fun _ h9 => h9) rfl dX7_expand_20 ?_
  exact RET _ _ (f_E_size_16, f_E_terms_16) _ _ hw hP hD hS dX7_expand_23
abbrev rm7_depth : Room := { frames := 3, cells := 0, slots := 0, locals := 68 }
theorem nm7_depth : kNm yX7_depth 1 := by decide +kernel
set_option maxHeartbeats 4000000 in
set_option maxRecDepth 100000 in
theorem c7_depth (l : Launch) (D : va_G) (cI cJ cN cR : ClassId) (rf : Nat → Nat) (sz : Nat) (f_hasSnapshot : Int32) (f_termListSize : Int32) (f_textSize : Int32) (f_tops : (Nat → Int32)) (f_bottoms : (Nat → Int32)) (f_E_size : Int32) (f_E_leftTop : Int64) (f_E_leftBottom : Int64) (f_E_rightTop : Int64) (f_E_rightBottom : Int64) (f_E_terms : (Nat → Int32)) (v1 : Int32) (post : Int32 → Int32 → (Nat → Int32) → Prop) (hw : w7_depth f_tops f_bottoms f_E_size f_E_terms v1 post) : Met l yX7_depth wsX7_depth rm7_depth (kP D (kT cI cJ cN cR) sz [.ref (rf 0), .int v1] [((rf 0), o7 rf f_hasSnapshot f_termListSize f_textSize), ((rf 1), ai cI 8 f_tops), ((rf 2), ai cI 8 f_bottoms), ((rf 14), o1 (rf 17) f_E_size f_E_leftTop f_E_leftBottom f_E_rightTop f_E_rightBottom), ((rf 17), ai cI 64 f_E_terms)]) (kQi D [((rf 0), o7 rf f_hasSnapshot f_termListSize f_textSize), ((rf 1), ai cI 8 f_tops), ((rf 2), ai cI 8 f_bottoms), ((rf 14), o1 (rf 17) f_E_size f_E_leftTop f_E_leftBottom f_E_rightTop f_E_rightBottom), ((rf 17), ai cI 64 f_E_terms)] sz (fun (r : Int32) (u : Int32 × (Nat → Int32)) => post r u.1 u.2) (fun (u : Int32 × (Nat → Int32)) => [((rf 0), o7 rf f_hasSnapshot f_termListSize f_textSize), ((rf 1), ai cI 8 f_tops), ((rf 2), ai cI 8 f_bottoms), ((rf 14), o1 (rf 17) u.1 f_E_leftTop f_E_leftBottom f_E_rightTop f_E_rightBottom), ((rf 17), ai cI 64 u.2)])) 0 0 (va_A [((rf 0), o7 rf f_hasSnapshot f_termListSize f_textSize), ((rf 1), ai cI 8 f_tops), ((rf 2), ai cI 8 f_bottoms), ((rf 14), o1 (rf 17) f_E_size f_E_leftTop f_E_leftBottom f_E_rightTop f_E_rightBottom), ((rf 17), ai cI 64 f_E_terms)] sz) := by
  refine kMetI (cc := cX7_depth) (maxL := 2) (by decide +kernel) rfl (Nat.le_of_ble_eq_true rfl) ?_
  intro p e s m args below meth c H0 ls A Q C0 hK hN hP hD hS hA hl RET
  obtain ⟨hx, hb, hml, hown, hts⟩ := id C0
  have hl : lv_has ls 2 [(0, .ref (rf 0)), (1, .int v1)] := hl
  unfold w7_depth at hw
  have hP : va_P D vwCl [((rf 0), o7 rf f_hasSnapshot f_termListSize f_textSize), ((rf 1), ai cI 8 f_tops), ((rf 2), ai cI 8 f_bottoms), ((rf 14), o1 (rf 17) f_E_size f_E_leftTop f_E_leftBottom f_E_rightTop f_E_rightBottom), ((rf 17), ai cI 64 f_E_terms)] H0 := hP
  refine lv_iload_n hx hb dX7_depth_0 rfl (lv_at hl 1 rfl) ?_
  refine kcRI (wc := []) hP [] rfl (fun hPc => oS (As := [.int v1]) (rest := []) C0 hK hN (c7_isRegister l D cI cJ cN cR   v1 _ hw) 1 gX7_depth_X7_isRegister rfl ⟨rfl, rfl⟩ nm7_isRegister ⟨Nat.le_of_ble_eq_true rfl, Nat.le_of_ble_eq_true rfl⟩ rfl hl.1 rfl (Nat.le_of_ble_eq_true rfl) dX7_depth_1 ⟨Nat.le_of_ble_eq_true rfl, Nat.le_of_ble_eq_true rfl⟩ hPc) (fun r1 hw => ?_)
  obtain ⟨nb1, hw⟩ := hw
  refine lv_if_eq (tgt := 18) hx hb dX7_depth_4 (by decide) (fun k => ?_) (fun k => ?_)
  · have hw := hw.1 k
    refine lv_iconst (v := (-1 : Int32)) hx hb dX7_depth_18 (by decide) ?_
    exact RET _ _ _ (f_E_size, f_E_terms) _ _ hw hP hD hS dX7_depth_19
  · have hw := hw.2 k
    refine lv_aload_n hx hb dX7_depth_7 rfl (lv_at hl 0 rfl) ?_
    refine lv_iload_n hx hb dX7_depth_8 rfl (lv_at hl 1 rfl) ?_
    refine kcR (wc := [((rf 0), o7 rf f_hasSnapshot f_termListSize f_textSize), ((rf 1), ai cI 8 f_tops), ((rf 2), ai cI 8 f_bottoms), ((rf 14), o1 (rf 17) f_E_size f_E_leftTop f_E_leftBottom f_E_rightTop f_E_rightBottom), ((rf 17), ai cI 64 f_E_terms)]) (wr := []) hP hD hS hA [0, 1, 2, 3, 4] [] rfl rfl ⟨rfl, rfl, by decide⟩ (fun hPc hDc => rV (As := [.int v1]) (rest := []) C0 hK hN (c7_expand l D cI cJ cN cR rf H0.size f_hasSnapshot f_termListSize f_textSize f_tops f_bottoms f_E_size f_E_leftTop f_E_leftBottom f_E_rightTop f_E_rightBottom f_E_terms v1 _ hw) 1 gX7_depth_X7_expand rfl ⟨rfl, rfl⟩ nm7_expand ⟨Nat.le_of_ble_eq_true rfl, Nat.le_of_ble_eq_true rfl⟩ (q0 := 0) rfl rfl rfl rfl hl.1 rfl (Nat.le_of_ble_eq_true rfl) dX7_depth_9 ⟨Nat.le_of_ble_eq_true rfl, Nat.le_of_ble_eq_true rfl⟩ hPc hDc) (fun u9 H locs hw hP hD hS => ?_)
    obtain ⟨f_E_size_9, f_E_terms_9⟩ := u9
    dsimp only at hw
    have hP : va_P D vwCl [((rf 0), o7 rf f_hasSnapshot f_termListSize f_textSize), ((rf 1), ai cI 8 f_tops), ((rf 2), ai cI 8 f_bottoms), ((rf 14), o1 (rf 17) f_E_size_9 f_E_leftTop f_E_leftBottom f_E_rightTop f_E_rightBottom), ((rf 17), ai cI 64 f_E_terms_9)] H := hP
    have hD : va_D A [((rf 0), o7 rf f_hasSnapshot f_termListSize f_textSize), ((rf 1), ai cI 8 f_tops), ((rf 2), ai cI 8 f_bottoms), ((rf 14), o1 (rf 17) f_E_size_9 f_E_leftTop f_E_leftBottom f_E_rightTop f_E_rightBottom), ((rf 17), ai cI 64 f_E_terms_9)] := hD
    refine kcRI (wc := [((rf 14), o1 (rf 17) f_E_size_9 f_E_leftTop f_E_leftBottom f_E_rightTop f_E_rightBottom), ((rf 17), ai cI 64 f_E_terms_9)]) hP [3, 4] rfl (fun hPc => oV (As := []) (rest := []) C0 hK hN (c1_stepCount l D cI cJ cN cR (rf 14) (rf 17) f_E_size_9 f_E_leftTop f_E_leftBottom f_E_rightTop f_E_rightBottom f_E_terms_9  _ hw) 0 gX7_depth_X1_stepCount rfl ⟨rfl, rfl⟩ nm1_stepCount ⟨Nat.le_of_ble_eq_true rfl, Nat.le_of_ble_eq_true rfl⟩ (q0 := 0) rfl rfl rfl rfl hl.1 rfl (Nat.le_of_ble_eq_true rfl) dX7_depth_12 ⟨Nat.le_of_ble_eq_true rfl, Nat.le_of_ble_eq_true rfl⟩ hPc) (fun r12 hw => ?_)
    refine lv_goto (tgt := 19) hx hb dX7_depth_15 (by decide) ?_
    exact RET _ _ _ (f_E_size_9, f_E_terms_9) _ _ hw hP hD hS dX7_depth_19
abbrev rm7_pathStep : Room := { frames := 3, cells := 0, slots := 0, locals := 68 }
theorem nm7_pathStep : kNm yX7_pathStep 2 := by decide +kernel
set_option maxHeartbeats 4000000 in
set_option maxRecDepth 100000 in
theorem c7_pathStep (l : Launch) (D : va_G) (cI cJ cN cR : ClassId) (rf : Nat → Nat) (sz : Nat) (f_hasSnapshot : Int32) (f_termListSize : Int32) (f_textSize : Int32) (f_tops : (Nat → Int32)) (f_bottoms : (Nat → Int32)) (f_E_size : Int32) (f_E_leftTop : Int64) (f_E_leftBottom : Int64) (f_E_rightTop : Int64) (f_E_rightBottom : Int64) (f_E_terms : (Nat → Int32)) (v1 : Int32) (v2 : Int32) (post : Int32 → Int32 → (Nat → Int32) → Prop) (hw : w7_pathStep f_tops f_bottoms f_E_size f_E_terms v1 v2 post) : Met l yX7_pathStep wsX7_pathStep rm7_pathStep (kP D (kT cI cJ cN cR) sz [.ref (rf 0), .int v1, .int v2] [((rf 0), o7 rf f_hasSnapshot f_termListSize f_textSize), ((rf 1), ai cI 8 f_tops), ((rf 2), ai cI 8 f_bottoms), ((rf 14), o1 (rf 17) f_E_size f_E_leftTop f_E_leftBottom f_E_rightTop f_E_rightBottom), ((rf 17), ai cI 64 f_E_terms)]) (kQi D [((rf 0), o7 rf f_hasSnapshot f_termListSize f_textSize), ((rf 1), ai cI 8 f_tops), ((rf 2), ai cI 8 f_bottoms), ((rf 14), o1 (rf 17) f_E_size f_E_leftTop f_E_leftBottom f_E_rightTop f_E_rightBottom), ((rf 17), ai cI 64 f_E_terms)] sz (fun (r : Int32) (u : Int32 × (Nat → Int32)) => post r u.1 u.2) (fun (u : Int32 × (Nat → Int32)) => [((rf 0), o7 rf f_hasSnapshot f_termListSize f_textSize), ((rf 1), ai cI 8 f_tops), ((rf 2), ai cI 8 f_bottoms), ((rf 14), o1 (rf 17) u.1 f_E_leftTop f_E_leftBottom f_E_rightTop f_E_rightBottom), ((rf 17), ai cI 64 u.2)])) 0 0 (va_A [((rf 0), o7 rf f_hasSnapshot f_termListSize f_textSize), ((rf 1), ai cI 8 f_tops), ((rf 2), ai cI 8 f_bottoms), ((rf 14), o1 (rf 17) f_E_size f_E_leftTop f_E_leftBottom f_E_rightTop f_E_rightBottom), ((rf 17), ai cI 64 f_E_terms)] sz) := by
  refine kMetI (cc := cX7_pathStep) (maxL := 3) (by decide +kernel) rfl (Nat.le_of_ble_eq_true rfl) ?_
  intro p e s m args below meth c H0 ls A Q C0 hK hN hP hD hS hA hl RET
  obtain ⟨hx, hb, hml, hown, hts⟩ := id C0
  have hl : lv_has ls 3 [(0, .ref (rf 0)), (1, .int v1), (2, .int v2)] := hl
  unfold w7_pathStep at hw
  have hP : va_P D vwCl [((rf 0), o7 rf f_hasSnapshot f_termListSize f_textSize), ((rf 1), ai cI 8 f_tops), ((rf 2), ai cI 8 f_bottoms), ((rf 14), o1 (rf 17) f_E_size f_E_leftTop f_E_leftBottom f_E_rightTop f_E_rightBottom), ((rf 17), ai cI 64 f_E_terms)] H0 := hP
  refine lv_iload_n hx hb dX7_pathStep_0 rfl (lv_at hl 1 rfl) ?_
  refine kcRI (wc := []) hP [] rfl (fun hPc => oS (As := [.int v1]) (rest := []) C0 hK hN (c7_isRegister l D cI cJ cN cR   v1 _ hw) 1 gX7_pathStep_X7_isRegister rfl ⟨rfl, rfl⟩ nm7_isRegister ⟨Nat.le_of_ble_eq_true rfl, Nat.le_of_ble_eq_true rfl⟩ rfl hl.1 rfl (Nat.le_of_ble_eq_true rfl) dX7_pathStep_1 ⟨Nat.le_of_ble_eq_true rfl, Nat.le_of_ble_eq_true rfl⟩ hPc) (fun r1 hw => ?_)
  obtain ⟨nb1, hw⟩ := hw
  refine lv_if_eq (tgt := 11) hx hb dX7_pathStep_4 (by decide) (fun k => ?_) (fun k => ?_)
  · have hw := hw.1 k
    refine lv_iconst (v := (-1 : Int32)) hx hb dX7_pathStep_11 (by decide) ?_
    exact RET _ _ _ (f_E_size, f_E_terms) _ _ hw hP hD hS dX7_pathStep_12
  · have hw := hw.2 k
    refine lv_iload_n hx hb dX7_pathStep_7 rfl (lv_at hl 2 rfl) ?_
    refine lv_if_ge (tgt := 13) hx hb dX7_pathStep_8 (by decide) (fun k => ?_) (fun k => ?_)
    · have hw := hw.1 k
      refine lv_aload_n hx hb dX7_pathStep_13 rfl (lv_at hl 0 rfl) ?_
      refine lv_iload_n hx hb dX7_pathStep_14 rfl (lv_at hl 1 rfl) ?_
      refine kcR (wc := [((rf 0), o7 rf f_hasSnapshot f_termListSize f_textSize), ((rf 1), ai cI 8 f_tops), ((rf 2), ai cI 8 f_bottoms), ((rf 14), o1 (rf 17) f_E_size f_E_leftTop f_E_leftBottom f_E_rightTop f_E_rightBottom), ((rf 17), ai cI 64 f_E_terms)]) (wr := []) hP hD hS hA [0, 1, 2, 3, 4] [] rfl rfl ⟨rfl, rfl, by decide⟩ (fun hPc hDc => rV (As := [.int v1]) (rest := []) C0 hK hN (c7_expand l D cI cJ cN cR rf H0.size f_hasSnapshot f_termListSize f_textSize f_tops f_bottoms f_E_size f_E_leftTop f_E_leftBottom f_E_rightTop f_E_rightBottom f_E_terms v1 _ hw) 1 gX7_pathStep_X7_expand rfl ⟨rfl, rfl⟩ nm7_expand ⟨Nat.le_of_ble_eq_true rfl, Nat.le_of_ble_eq_true rfl⟩ (q0 := 0) rfl rfl rfl rfl hl.1 rfl (Nat.le_of_ble_eq_true rfl) dX7_pathStep_15 ⟨Nat.le_of_ble_eq_true rfl, Nat.le_of_ble_eq_true rfl⟩ hPc hDc) (fun u15 H locs hw hP hD hS => ?_)
      obtain ⟨f_E_size_15, f_E_terms_15⟩ := u15
      dsimp only at hw
      have hP : va_P D vwCl [((rf 0), o7 rf f_hasSnapshot f_termListSize f_textSize), ((rf 1), ai cI 8 f_tops), ((rf 2), ai cI 8 f_bottoms), ((rf 14), o1 (rf 17) f_E_size_15 f_E_leftTop f_E_leftBottom f_E_rightTop f_E_rightBottom), ((rf 17), ai cI 64 f_E_terms_15)] H := hP
      have hD : va_D A [((rf 0), o7 rf f_hasSnapshot f_termListSize f_textSize), ((rf 1), ai cI 8 f_tops), ((rf 2), ai cI 8 f_bottoms), ((rf 14), o1 (rf 17) f_E_size_15 f_E_leftTop f_E_leftBottom f_E_rightTop f_E_rightBottom), ((rf 17), ai cI 64 f_E_terms_15)] := hD
      refine lv_iload_n hx hb dX7_pathStep_18 rfl (lv_at hl 2 rfl) ?_
      refine kcRI (wc := [((rf 14), o1 (rf 17) f_E_size_15 f_E_leftTop f_E_leftBottom f_E_rightTop f_E_rightBottom), ((rf 17), ai cI 64 f_E_terms_15)]) hP [3, 4] rfl (fun hPc => oV (As := [.int v2]) (rest := []) C0 hK hN (c1_stepAt l D cI cJ cN cR (rf 14) (rf 17) f_E_size_15 f_E_leftTop f_E_leftBottom f_E_rightTop f_E_rightBottom f_E_terms_15 v2 _ hw) 1 gX7_pathStep_X1_stepAt rfl ⟨rfl, rfl⟩ nm1_stepAt ⟨Nat.le_of_ble_eq_true rfl, Nat.le_of_ble_eq_true rfl⟩ (q0 := 0) rfl rfl rfl rfl hl.1 rfl (Nat.le_of_ble_eq_true rfl) dX7_pathStep_19 ⟨Nat.le_of_ble_eq_true rfl, Nat.le_of_ble_eq_true rfl⟩ hPc) (fun r19 hw => ?_)
      exact RET _ _ _ (f_E_size_15, f_E_terms_15) _ _ hw hP hD hS dX7_pathStep_22
    · have hw := hw.2 k
      refine lv_iconst (v := (-1 : Int32)) hx hb dX7_pathStep_11 (by decide) ?_
      exact RET _ _ _ (f_E_size, f_E_terms) _ _ hw hP hD hS dX7_pathStep_12
abbrev rm7_runCount : Room := { frames := 3, cells := 0, slots := 0, locals := 68 }
theorem nm7_runCount : kNm yX7_runCount 1 := by decide +kernel
set_option maxHeartbeats 4000000 in
set_option maxRecDepth 100000 in
theorem c7_runCount (l : Launch) (D : va_G) (cI cJ cN cR : ClassId) (rf : Nat → Nat) (sz : Nat) (f_hasSnapshot : Int32) (f_termListSize : Int32) (f_textSize : Int32) (f_tops : (Nat → Int32)) (f_bottoms : (Nat → Int32)) (f_E_size : Int32) (f_E_leftTop : Int64) (f_E_leftBottom : Int64) (f_E_rightTop : Int64) (f_E_rightBottom : Int64) (f_E_terms : (Nat → Int32)) (v1 : Int32) (post : Int32 → Int32 → (Nat → Int32) → Prop) (hw : w7_runCount f_tops f_bottoms f_E_size f_E_terms v1 post) : Met l yX7_runCount wsX7_runCount rm7_runCount (kP D (kT cI cJ cN cR) sz [.ref (rf 0), .int v1] [((rf 0), o7 rf f_hasSnapshot f_termListSize f_textSize), ((rf 1), ai cI 8 f_tops), ((rf 2), ai cI 8 f_bottoms), ((rf 14), o1 (rf 17) f_E_size f_E_leftTop f_E_leftBottom f_E_rightTop f_E_rightBottom), ((rf 17), ai cI 64 f_E_terms)]) (kQi D [((rf 0), o7 rf f_hasSnapshot f_termListSize f_textSize), ((rf 1), ai cI 8 f_tops), ((rf 2), ai cI 8 f_bottoms), ((rf 14), o1 (rf 17) f_E_size f_E_leftTop f_E_leftBottom f_E_rightTop f_E_rightBottom), ((rf 17), ai cI 64 f_E_terms)] sz (fun (r : Int32) (u : Int32 × (Nat → Int32)) => post r u.1 u.2) (fun (u : Int32 × (Nat → Int32)) => [((rf 0), o7 rf f_hasSnapshot f_termListSize f_textSize), ((rf 1), ai cI 8 f_tops), ((rf 2), ai cI 8 f_bottoms), ((rf 14), o1 (rf 17) u.1 f_E_leftTop f_E_leftBottom f_E_rightTop f_E_rightBottom), ((rf 17), ai cI 64 u.2)])) 0 0 (va_A [((rf 0), o7 rf f_hasSnapshot f_termListSize f_textSize), ((rf 1), ai cI 8 f_tops), ((rf 2), ai cI 8 f_bottoms), ((rf 14), o1 (rf 17) f_E_size f_E_leftTop f_E_leftBottom f_E_rightTop f_E_rightBottom), ((rf 17), ai cI 64 f_E_terms)] sz) := by
  refine kMetI (cc := cX7_runCount) (maxL := 5) (by decide +kernel) rfl (Nat.le_of_ble_eq_true rfl) ?_
  intro p e s m args below meth c H0 ls A Q C0 hK hN hP hD hS hA hl RET
  obtain ⟨hx, hb, hml, hown, hts⟩ := id C0
  have hl : lv_has ls 5 [(0, .ref (rf 0)), (1, .int v1)] := hl
  unfold w7_runCount at hw
  have hP : va_P D vwCl [((rf 0), o7 rf f_hasSnapshot f_termListSize f_textSize), ((rf 1), ai cI 8 f_tops), ((rf 2), ai cI 8 f_bottoms), ((rf 14), o1 (rf 17) f_E_size f_E_leftTop f_E_leftBottom f_E_rightTop f_E_rightBottom), ((rf 17), ai cI 64 f_E_terms)] H0 := hP
  refine lv_iload_n hx hb dX7_runCount_0 rfl (lv_at hl 1 rfl) ?_
  refine kcRI (wc := []) hP [] rfl (fun hPc => oS (As := [.int v1]) (rest := []) C0 hK hN (c7_isRegister l D cI cJ cN cR   v1 _ hw) 1 gX7_runCount_X7_isRegister rfl ⟨rfl, rfl⟩ nm7_isRegister ⟨Nat.le_of_ble_eq_true rfl, Nat.le_of_ble_eq_true rfl⟩ rfl hl.1 rfl (Nat.le_of_ble_eq_true rfl) dX7_runCount_1 ⟨Nat.le_of_ble_eq_true rfl, Nat.le_of_ble_eq_true rfl⟩ hPc) (fun r1 hw => ?_)
  obtain ⟨nb1, hw⟩ := hw
  refine lv_if_ne (tgt := 9) hx hb dX7_runCount_4 (by decide) (fun k => ?_) (fun k => ?_)
  · have hw := hw.1 k
    refine lv_aload_n hx hb dX7_runCount_9 rfl (lv_at hl 0 rfl) ?_
    refine lv_iload_n hx hb dX7_runCount_10 rfl (lv_at hl 1 rfl) ?_
    refine kcR (wc := [((rf 0), o7 rf f_hasSnapshot f_termListSize f_textSize), ((rf 1), ai cI 8 f_tops), ((rf 2), ai cI 8 f_bottoms), ((rf 14), o1 (rf 17) f_E_size f_E_leftTop f_E_leftBottom f_E_rightTop f_E_rightBottom), ((rf 17), ai cI 64 f_E_terms)]) (wr := []) hP hD hS hA [0, 1, 2, 3, 4] [] rfl rfl ⟨rfl, rfl, by decide⟩ (fun hPc hDc => rV (As := [.int v1]) (rest := []) C0 hK hN (c7_expand l D cI cJ cN cR rf H0.size f_hasSnapshot f_termListSize f_textSize f_tops f_bottoms f_E_size f_E_leftTop f_E_leftBottom f_E_rightTop f_E_rightBottom f_E_terms v1 _ hw) 1 gX7_runCount_X7_expand rfl ⟨rfl, rfl⟩ nm7_expand ⟨Nat.le_of_ble_eq_true rfl, Nat.le_of_ble_eq_true rfl⟩ (q0 := 0) rfl rfl rfl rfl hl.1 rfl (Nat.le_of_ble_eq_true rfl) dX7_runCount_11 ⟨Nat.le_of_ble_eq_true rfl, Nat.le_of_ble_eq_true rfl⟩ hPc hDc) (fun u11 H locs hw hP hD hS => ?_)
    obtain ⟨f_E_size_11, f_E_terms_11⟩ := u11
    dsimp only at hw
    have hP : va_P D vwCl [((rf 0), o7 rf f_hasSnapshot f_termListSize f_textSize), ((rf 1), ai cI 8 f_tops), ((rf 2), ai cI 8 f_bottoms), ((rf 14), o1 (rf 17) f_E_size_11 f_E_leftTop f_E_leftBottom f_E_rightTop f_E_rightBottom), ((rf 17), ai cI 64 f_E_terms_11)] H := hP
    have hD : va_D A [((rf 0), o7 rf f_hasSnapshot f_termListSize f_textSize), ((rf 1), ai cI 8 f_tops), ((rf 2), ai cI 8 f_bottoms), ((rf 14), o1 (rf 17) f_E_size_11 f_E_leftTop f_E_leftBottom f_E_rightTop f_E_rightBottom), ((rf 17), ai cI 64 f_E_terms_11)] := hD
    refine lv_astore_n (lv' := [(2, .ref (rf 14)), (0, .ref (rf 0)), (1, .int v1)]) hx hb dX7_runCount_14 rfl hl (by decide) rfl (fun ls hl => ?_)
    refine lv_iconst (v := (0 : Int32)) hx hb dX7_runCount_15 (by decide) ?_
    refine lv_istore_n (lv' := [(3, .int (0 : Int32)), (2, .ref (rf 14)), (0, .ref (rf 0)), (1, .int v1)]) hx hb dX7_runCount_16 rfl hl (by decide) rfl (fun ls hl => ?_)
    refine lv_iconst (v := (0 : Int32)) hx hb dX7_runCount_17 (by decide) ?_
    refine lv_istore (lv' := [(4, .int (0 : Int32)), (3, .int (0 : Int32)), (2, .ref (rf 14)), (0, .ref (rf 0)), (1, .int v1)]) hx hb dX7_runCount_18 hl (by decide) rfl (fun ls hl => ?_)
    obtain ⟨n20, hw⟩ := hw
    have LOOP_20 : ∀ (n20 : Nat) (v3 : Int32) (v4 : Int32) (H : Heap) (locs : List Loc) (ls : Array Slot), w7_runCount_L20 f_E_size_11 f_E_terms_11 post n20 v3 v4 → va_P D vwCl [((rf 0), o7 rf f_hasSnapshot f_termListSize f_textSize), ((rf 1), ai cI 8 f_tops), ((rf 2), ai cI 8 f_bottoms), ((rf 14), o1 (rf 17) f_E_size_11 f_E_leftTop f_E_leftBottom f_E_rightTop f_E_rightBottom), ((rf 17), ai cI 64 f_E_terms_11)] H → va_D A [((rf 0), o7 rf f_hasSnapshot f_termListSize f_textSize), ((rf 1), ai cI 8 f_tops), ((rf 2), ai cI 8 f_bottoms), ((rf 14), o1 (rf 17) f_E_size_11 f_E_leftTop f_E_leftBottom f_E_rightTop f_E_rightBottom), ((rf 17), ai cI 64 f_E_terms_11)] → va_S A H0 H locs → lv_has ls 5 [(2, .ref (rf 14)), (3, .int v3), (4, .int v4)] → W p l e rm7_runCount s m args below meth c H locs 0 0 Q (F0 m 20 ls []) := by
      clear hw hl hP hD hS
      intro n20
      induction n20 with
      | zero =>
        intro v3 v4 H locs ls hw hP hD hS hl
        rw [w7_runCount_L20] at hw
        exact hw.elim
      | succ n20 ih20 =>
        intro v3 v4 H locs ls hw hP hD hS hl
        rw [w7_runCount_L20] at hw
        refine lv_iload hx hb dX7_runCount_20 (lv_at hl 2 rfl) ?_
        refine lv_aload_n hx hb dX7_runCount_22 rfl (lv_at hl 0 rfl) ?_
        refine kcRI (wc := [((rf 14), o1 (rf 17) f_E_size_11 f_E_leftTop f_E_leftBottom f_E_rightTop f_E_rightBottom)]) hP [3] rfl (fun hPc => oV (As := []) (rest := [.int v4]) C0 hK hN (c1_size l D cI cJ cN cR (rf 14) (rf 17) f_E_size_11 f_E_leftTop f_E_leftBottom f_E_rightTop f_E_rightBottom  _ hw) 0 gX7_runCount_X1_size rfl ⟨rfl, rfl⟩ nm1_size ⟨Nat.le_of_ble_eq_true rfl, Nat.le_of_ble_eq_true rfl⟩ (q0 := 0) rfl rfl rfl rfl hl.1 rfl (Nat.le_of_ble_eq_true rfl) dX7_runCount_23 ⟨Nat.le_of_ble_eq_true rfl, Nat.le_of_ble_eq_true rfl⟩ hPc) (fun r23 hw => ?_)
        refine lv_icmp_ge (tgt := 47) hx hb dX7_runCount_26 (by decide) (fun k => ?_) (fun k => ?_)
        · have hw := hw.1 k
          refine lv_iload_n hx hb dX7_runCount_47 rfl (lv_at hl 1 rfl) ?_
          exact RET _ _ _ (f_E_size_11, f_E_terms_11) _ _ hw hP hD hS dX7_runCount_48
        · have hw := hw.2 k
          refine lv_aload_n hx hb dX7_runCount_29 rfl (lv_at hl 0 rfl) ?_
          refine lv_iload hx hb dX7_runCount_30 (lv_at hl 2 rfl) ?_
          refine kcRI (wc := [((rf 14), o1 (rf 17) f_E_size_11 f_E_leftTop f_E_leftBottom f_E_rightTop f_E_rightBottom), ((rf 17), ai cI 64 f_E_terms_11)]) hP [3, 4] rfl (fun hPc => oV (As := [.int v4]) (rest := []) C0 hK hN (c1_runAt l D cI cJ cN cR (rf 14) (rf 17) f_E_size_11 f_E_leftTop f_E_leftBottom f_E_rightTop f_E_rightBottom f_E_terms_11 v4 _ hw) 1 gX7_runCount_X1_runAt rfl ⟨rfl, rfl⟩ nm1_runAt ⟨Nat.le_of_ble_eq_true rfl, Nat.le_of_ble_eq_true rfl⟩ (q0 := 0) rfl rfl rfl rfl hl.1 rfl (Nat.le_of_ble_eq_true rfl) dX7_runCount_32 ⟨Nat.le_of_ble_eq_true rfl, Nat.le_of_ble_eq_true rfl⟩ hPc) (fun r32 hw => ?_)
          refine lv_if_le (tgt := 41) hx hb dX7_runCount_35 (by decide) (fun k => ?_) (fun k => ?_)
          · have hw := hw.1 k
            obtain ⟨x41, ex41⟩ : ∃ y : Int32, y = (v4 + (1 : Int32)) := ⟨_, rfl⟩
            have hw := hw x41 ex41
            refine lv_iinc (v := x41) (lv' := [(4, .int x41), (2, .ref (rf 14)), (3, .int v3)]) hx hb dX7_runCount_41 hl (k := 2) rfl (by rw [ex41]; rfl) (by decide) rfl (fun ls hl => ?_)
            refine lv_goto (tgt := 20) hx hb dX7_runCount_44 (by decide) ?_
            exact ih20 v3 x41 _ _ ls hw hP hD hS (lv_sub hl [1, 2, 0] rfl)
          · have hw := hw.2 k
            obtain ⟨x38, ex38⟩ : ∃ y : Int32, y = (v3 + (1 : Int32)) := ⟨_, rfl⟩
            have hw := hw x38 ex38
            refine lv_iinc (v := x38) (lv' := [(3, .int x38), (2, .ref (rf 14)), (4, .int v4)]) hx hb dX7_runCount_38 hl (k := 1) rfl (by rw [ex38]; rfl) (by decide) rfl (fun ls hl => ?_)
            obtain ⟨x41, ex41⟩ : ∃ y : Int32, y = (v4 + (1 : Int32)) := ⟨_, rfl⟩
            have hw := hw x41 ex41
            refine lv_iinc (v := x41) (lv' := [(4, .int x41), (3, .int x38), (2, .ref (rf 14))]) hx hb dX7_runCount_41 hl (k := 2) rfl (by rw [ex41]; rfl) (by decide) rfl (fun ls hl => ?_)
            refine lv_goto (tgt := 20) hx hb dX7_runCount_44 (by decide) ?_
            exact ih20 x38 x41 _ _ ls hw hP hD hS (lv_sub hl [2, 1, 0] rfl)
    exact LOOP_20 n20 (0 : Int32) (0 : Int32) _ _ ls hw hP hD hS (lv_sub hl [2, 1, 0] rfl)
  · have hw := hw.2 k
    refine lv_iconst (v := (-1 : Int32)) hx hb dX7_runCount_7 (by decide) ?_
    exact RET _ _ _ (f_E_size, f_E_terms) _ _ hw hP hD hS dX7_runCount_8
abbrev rm7_run : Room := { frames := 3, cells := 0, slots := 0, locals := 68 }
theorem nm7_run : kNm yX7_run 2 := by decide +kernel
set_option maxHeartbeats 4000000 in
set_option maxRecDepth 100000 in
theorem c7_run (l : Launch) (D : va_G) (cI cJ cN cR : ClassId) (rf : Nat → Nat) (sz : Nat) (f_hasSnapshot : Int32) (f_termListSize : Int32) (f_textSize : Int32) (f_tops : (Nat → Int32)) (f_bottoms : (Nat → Int32)) (f_E_size : Int32) (f_E_leftTop : Int64) (f_E_leftBottom : Int64) (f_E_rightTop : Int64) (f_E_rightBottom : Int64) (f_E_terms : (Nat → Int32)) (v1 : Int32) (v2 : Int32) (post : Int32 → Int32 → (Nat → Int32) → Prop) (hw : w7_run f_tops f_bottoms f_E_size f_E_terms v1 v2 post) : Met l yX7_run wsX7_run rm7_run (kP D (kT cI cJ cN cR) sz [.ref (rf 0), .int v1, .int v2] [((rf 0), o7 rf f_hasSnapshot f_termListSize f_textSize), ((rf 1), ai cI 8 f_tops), ((rf 2), ai cI 8 f_bottoms), ((rf 14), o1 (rf 17) f_E_size f_E_leftTop f_E_leftBottom f_E_rightTop f_E_rightBottom), ((rf 17), ai cI 64 f_E_terms)]) (kQi D [((rf 0), o7 rf f_hasSnapshot f_termListSize f_textSize), ((rf 1), ai cI 8 f_tops), ((rf 2), ai cI 8 f_bottoms), ((rf 14), o1 (rf 17) f_E_size f_E_leftTop f_E_leftBottom f_E_rightTop f_E_rightBottom), ((rf 17), ai cI 64 f_E_terms)] sz (fun (r : Int32) (u : Int32 × (Nat → Int32)) => post r u.1 u.2) (fun (u : Int32 × (Nat → Int32)) => [((rf 0), o7 rf f_hasSnapshot f_termListSize f_textSize), ((rf 1), ai cI 8 f_tops), ((rf 2), ai cI 8 f_bottoms), ((rf 14), o1 (rf 17) u.1 f_E_leftTop f_E_leftBottom f_E_rightTop f_E_rightBottom), ((rf 17), ai cI 64 u.2)])) 0 0 (va_A [((rf 0), o7 rf f_hasSnapshot f_termListSize f_textSize), ((rf 1), ai cI 8 f_tops), ((rf 2), ai cI 8 f_bottoms), ((rf 14), o1 (rf 17) f_E_size f_E_leftTop f_E_leftBottom f_E_rightTop f_E_rightBottom), ((rf 17), ai cI 64 f_E_terms)] sz) := by
  refine kMetI (cc := cX7_run) (maxL := 6) (by decide +kernel) rfl (Nat.le_of_ble_eq_true rfl) ?_
  intro p e s m args below meth c H0 ls A Q C0 hK hN hP hD hS hA hl RET
  obtain ⟨hx, hb, hml, hown, hts⟩ := id C0
  have hl : lv_has ls 6 [(0, .ref (rf 0)), (1, .int v1), (2, .int v2)] := hl
  unfold w7_run at hw
  have hP : va_P D vwCl [((rf 0), o7 rf f_hasSnapshot f_termListSize f_textSize), ((rf 1), ai cI 8 f_tops), ((rf 2), ai cI 8 f_bottoms), ((rf 14), o1 (rf 17) f_E_size f_E_leftTop f_E_leftBottom f_E_rightTop f_E_rightBottom), ((rf 17), ai cI 64 f_E_terms)] H0 := hP
  refine lv_iload_n hx hb dX7_run_0 rfl (lv_at hl 1 rfl) ?_
  refine kcRI (wc := []) hP [] rfl (fun hPc => oS (As := [.int v1]) (rest := []) C0 hK hN (c7_isRegister l D cI cJ cN cR   v1 _ hw) 1 gX7_run_X7_isRegister rfl ⟨rfl, rfl⟩ nm7_isRegister ⟨Nat.le_of_ble_eq_true rfl, Nat.le_of_ble_eq_true rfl⟩ rfl hl.1 rfl (Nat.le_of_ble_eq_true rfl) dX7_run_1 ⟨Nat.le_of_ble_eq_true rfl, Nat.le_of_ble_eq_true rfl⟩ hPc) (fun r1 hw => ?_)
  obtain ⟨nb1, hw⟩ := hw
  refine lv_if_eq (tgt := 11) hx hb dX7_run_4 (by decide) (fun k => ?_) (fun k => ?_)
  · have hw := hw.1 k
    refine lv_iconst (v := (-1 : Int32)) hx hb dX7_run_11 (by decide) ?_
    exact RET _ _ _ (f_E_size, f_E_terms) _ _ hw hP hD hS dX7_run_12
  · have hw := hw.2 k
    refine lv_iload_n hx hb dX7_run_7 rfl (lv_at hl 2 rfl) ?_
    refine lv_if_ge (tgt := 13) hx hb dX7_run_8 (by decide) (fun k => ?_) (fun k => ?_)
    · have hw := hw.1 k
      refine lv_aload_n hx hb dX7_run_13 rfl (lv_at hl 0 rfl) ?_
      refine lv_iload_n hx hb dX7_run_14 rfl (lv_at hl 1 rfl) ?_
      refine kcR (wc := [((rf 0), o7 rf f_hasSnapshot f_termListSize f_textSize), ((rf 1), ai cI 8 f_tops), ((rf 2), ai cI 8 f_bottoms), ((rf 14), o1 (rf 17) f_E_size f_E_leftTop f_E_leftBottom f_E_rightTop f_E_rightBottom), ((rf 17), ai cI 64 f_E_terms)]) (wr := []) hP hD hS hA [0, 1, 2, 3, 4] [] rfl rfl ⟨rfl, rfl, by decide⟩ (fun hPc hDc => rV (As := [.int v1]) (rest := []) C0 hK hN (c7_expand l D cI cJ cN cR rf H0.size f_hasSnapshot f_termListSize f_textSize f_tops f_bottoms f_E_size f_E_leftTop f_E_leftBottom f_E_rightTop f_E_rightBottom f_E_terms v1 _ hw) 1 gX7_run_X7_expand rfl ⟨rfl, rfl⟩ nm7_expand ⟨Nat.le_of_ble_eq_true rfl, Nat.le_of_ble_eq_true rfl⟩ (q0 := 0) rfl rfl rfl rfl hl.1 rfl (Nat.le_of_ble_eq_true rfl) dX7_run_15 ⟨Nat.le_of_ble_eq_true rfl, Nat.le_of_ble_eq_true rfl⟩ hPc hDc) (fun u15 H locs hw hP hD hS => ?_)
      obtain ⟨f_E_size_15, f_E_terms_15⟩ := u15
      dsimp only at hw
      have hP : va_P D vwCl [((rf 0), o7 rf f_hasSnapshot f_termListSize f_textSize), ((rf 1), ai cI 8 f_tops), ((rf 2), ai cI 8 f_bottoms), ((rf 14), o1 (rf 17) f_E_size_15 f_E_leftTop f_E_leftBottom f_E_rightTop f_E_rightBottom), ((rf 17), ai cI 64 f_E_terms_15)] H := hP
      have hD : va_D A [((rf 0), o7 rf f_hasSnapshot f_termListSize f_textSize), ((rf 1), ai cI 8 f_tops), ((rf 2), ai cI 8 f_bottoms), ((rf 14), o1 (rf 17) f_E_size_15 f_E_leftTop f_E_leftBottom f_E_rightTop f_E_rightBottom), ((rf 17), ai cI 64 f_E_terms_15)] := hD
      refine lv_astore_n (lv' := [(3, .ref (rf 14)), (0, .ref (rf 0)), (1, .int v1), (2, .int v2)]) hx hb dX7_run_18 rfl hl (by decide) rfl (fun ls hl => ?_)
      refine lv_iconst (v := (0 : Int32)) hx hb dX7_run_19 (by decide) ?_
      refine lv_istore (lv' := [(4, .int (0 : Int32)), (3, .ref (rf 14)), (0, .ref (rf 0)), (1, .int v1), (2, .int v2)]) hx hb dX7_run_20 hl (by decide) rfl (fun ls hl => ?_)
      refine lv_iconst (v := (0 : Int32)) hx hb dX7_run_22 (by decide) ?_
      refine lv_istore (lv' := [(5, .int (0 : Int32)), (4, .int (0 : Int32)), (3, .ref (rf 14)), (0, .ref (rf 0)), (1, .int v1), (2, .int v2)]) hx hb dX7_run_23 hl (by decide) rfl (fun ls hl => ?_)
      obtain ⟨n25, hw⟩ := hw
      have LOOP_25 : ∀ (n25 : Nat) (v4 : Int32) (v5 : Int32) (H : Heap) (locs : List Loc) (ls : Array Slot), w7_run_L25 f_E_size_15 f_E_terms_15 v2 post n25 v4 v5 → va_P D vwCl [((rf 0), o7 rf f_hasSnapshot f_termListSize f_textSize), ((rf 1), ai cI 8 f_tops), ((rf 2), ai cI 8 f_bottoms), ((rf 14), o1 (rf 17) f_E_size_15 f_E_leftTop f_E_leftBottom f_E_rightTop f_E_rightBottom), ((rf 17), ai cI 64 f_E_terms_15)] H → va_D A [((rf 0), o7 rf f_hasSnapshot f_termListSize f_textSize), ((rf 1), ai cI 8 f_tops), ((rf 2), ai cI 8 f_bottoms), ((rf 14), o1 (rf 17) f_E_size_15 f_E_leftTop f_E_leftBottom f_E_rightTop f_E_rightBottom), ((rf 17), ai cI 64 f_E_terms_15)] → va_S A H0 H locs → lv_has ls 6 [(2, .int v2), (3, .ref (rf 14)), (4, .int v4), (5, .int v5)] → W p l e rm7_run s m args below meth c H locs 0 0 Q (F0 m 25 ls []) := by
        clear hw hl hP hD hS
        intro n25
        induction n25 with
        | zero =>
          intro v4 v5 H locs ls hw hP hD hS hl
          rw [w7_run_L25] at hw
          exact hw.elim
        | succ n25 ih25 =>
          intro v4 v5 H locs ls hw hP hD hS hl
          rw [w7_run_L25] at hw
          refine lv_iload hx hb dX7_run_25 (lv_at hl 3 rfl) ?_
          refine lv_aload_n hx hb dX7_run_27 rfl (lv_at hl 1 rfl) ?_
          refine kcRI (wc := [((rf 14), o1 (rf 17) f_E_size_15 f_E_leftTop f_E_leftBottom f_E_rightTop f_E_rightBottom)]) hP [3] rfl (fun hPc => oV (As := []) (rest := [.int v5]) C0 hK hN (c1_size l D cI cJ cN cR (rf 14) (rf 17) f_E_size_15 f_E_leftTop f_E_leftBottom f_E_rightTop f_E_rightBottom  _ hw) 0 gX7_run_X1_size rfl ⟨rfl, rfl⟩ nm1_size ⟨Nat.le_of_ble_eq_true rfl, Nat.le_of_ble_eq_true rfl⟩ (q0 := 0) rfl rfl rfl rfl hl.1 rfl (Nat.le_of_ble_eq_true rfl) dX7_run_28 ⟨Nat.le_of_ble_eq_true rfl, Nat.le_of_ble_eq_true rfl⟩ hPc) (fun r28 hw => ?_)
          refine lv_icmp_ge (tgt := 65) hx hb dX7_run_31 (by decide) (fun k => ?_) (fun k => ?_)
          · have hw := hw.1 k
            refine lv_bipush (v := (-2 : Int32)) hx hb dX7_run_65 (by decide) ?_
            exact RET _ _ _ (f_E_size_15, f_E_terms_15) _ _ hw hP hD hS dX7_run_67
          · have hw := hw.2 k
            refine lv_aload_n hx hb dX7_run_34 rfl (lv_at hl 1 rfl) ?_
            refine lv_iload hx hb dX7_run_35 (lv_at hl 3 rfl) ?_
            refine kcRI (wc := [((rf 14), o1 (rf 17) f_E_size_15 f_E_leftTop f_E_leftBottom f_E_rightTop f_E_rightBottom), ((rf 17), ai cI 64 f_E_terms_15)]) hP [3, 4] rfl (fun hPc => oV (As := [.int v5]) (rest := []) C0 hK hN (c1_runAt l D cI cJ cN cR (rf 14) (rf 17) f_E_size_15 f_E_leftTop f_E_leftBottom f_E_rightTop f_E_rightBottom f_E_terms_15 v5 _ hw) 1 gX7_run_X1_runAt rfl ⟨rfl, rfl⟩ nm1_runAt ⟨Nat.le_of_ble_eq_true rfl, Nat.le_of_ble_eq_true rfl⟩ (q0 := 0) rfl rfl rfl rfl hl.1 rfl (Nat.le_of_ble_eq_true rfl) dX7_run_37 ⟨Nat.le_of_ble_eq_true rfl, Nat.le_of_ble_eq_true rfl⟩ hPc) (fun r37 hw => ?_)
            refine lv_if_le (tgt := 59) hx hb dX7_run_40 (by decide) (fun k => ?_) (fun k => ?_)
            · have hw := hw.1 k
              obtain ⟨x59, ex59⟩ : ∃ y : Int32, y = (v5 + (1 : Int32)) := ⟨_, rfl⟩
              have hw := hw x59 ex59
              refine lv_iinc (v := x59) (lv' := [(5, .int x59), (2, .int v2), (3, .ref (rf 14)), (4, .int v4)]) hx hb dX7_run_59 hl (k := 3) rfl (by rw [ex59]; rfl) (by decide) rfl (fun ls hl => ?_)
              refine lv_goto (tgt := 25) hx hb dX7_run_62 (by decide) ?_
              exact ih25 v4 x59 _ _ ls hw hP hD hS (lv_sub hl [1, 2, 3, 0] rfl)
            · have hw := hw.2 k
              refine lv_iload hx hb dX7_run_43 (lv_at hl 2 rfl) ?_
              refine lv_iload_n hx hb dX7_run_45 rfl (lv_at hl 0 rfl) ?_
              refine lv_icmp_ne (tgt := 56) hx hb dX7_run_46 (by decide) (fun k => ?_) (fun k => ?_)
              · have hw := hw.1 k
                obtain ⟨x56, ex56⟩ : ∃ y : Int32, y = (v4 + (1 : Int32)) := ⟨_, rfl⟩
                have hw := hw x56 ex56
                refine lv_iinc (v := x56) (lv' := [(4, .int x56), (2, .int v2), (3, .ref (rf 14)), (5, .int v5)]) hx hb dX7_run_56 hl (k := 2) rfl (by rw [ex56]; rfl) (by decide) rfl (fun ls hl => ?_)
                obtain ⟨x59, ex59⟩ : ∃ y : Int32, y = (v5 + (1 : Int32)) := ⟨_, rfl⟩
                have hw := hw x59 ex59
                refine lv_iinc (v := x59) (lv' := [(5, .int x59), (4, .int x56), (2, .int v2), (3, .ref (rf 14))]) hx hb dX7_run_59 hl (k := 3) rfl (by rw [ex59]; rfl) (by decide) rfl (fun ls hl => ?_)
                refine lv_goto (tgt := 25) hx hb dX7_run_62 (by decide) ?_
                exact ih25 x56 x59 _ _ ls hw hP hD hS (lv_sub hl [2, 3, 1, 0] rfl)
              · have hw := hw.2 k
                refine lv_aload_n hx hb dX7_run_49 rfl (lv_at hl 1 rfl) ?_
                refine lv_iload hx hb dX7_run_50 (lv_at hl 3 rfl) ?_
                refine kcRI (wc := [((rf 14), o1 (rf 17) f_E_size_15 f_E_leftTop f_E_leftBottom f_E_rightTop f_E_rightBottom), ((rf 17), ai cI 64 f_E_terms_15)]) hP [3, 4] rfl (fun hPc => oV (As := [.int v5]) (rest := []) C0 hK hN (c1_runAt l D cI cJ cN cR (rf 14) (rf 17) f_E_size_15 f_E_leftTop f_E_leftBottom f_E_rightTop f_E_rightBottom f_E_terms_15 v5 _ hw) 1 gX7_run_X1_runAt rfl ⟨rfl, rfl⟩ nm1_runAt ⟨Nat.le_of_ble_eq_true rfl, Nat.le_of_ble_eq_true rfl⟩ (q0 := 0) rfl rfl rfl rfl hl.1 rfl (Nat.le_of_ble_eq_true rfl) dX7_run_52 ⟨Nat.le_of_ble_eq_true rfl, Nat.le_of_ble_eq_true rfl⟩ hPc) (fun r52 hw => ?_)
                exact RET _ _ _ (f_E_size_15, f_E_terms_15) _ _ hw hP hD hS dX7_run_55
      exact LOOP_25 n25 (0 : Int32) (0 : Int32) _ _ ls hw hP hD hS (lv_sub hl [5, 2, 1, 0] rfl)
    · have hw := hw.2 k
      refine lv_iconst (v := (-1 : Int32)) hx hb dX7_run_11 (by decide) ?_
      exact RET _ _ _ (f_E_size, f_E_terms) _ _ hw hP hD hS dX7_run_12
abbrev rm7_storeConvergent : Room := { frames := 2, cells := 0, slots := 0, locals := 61 }
theorem nm7_storeConvergent : kNm yX7_storeConvergent 3 := by decide +kernel
set_option maxHeartbeats 4000000 in
set_option maxRecDepth 100000 in
theorem c7_storeConvergent (l : Launch) (D : va_G) (cI cJ cN cR : ClassId) (rf : Nat → Nat) (g0 : Nat) (g1 : Nat) (sz : Nat) (f_hasSnapshot : Int32) (f_termListSize : Int32) (f_textSize : Int32) (f_tops : (Nat → Int32)) (f_bottoms : (Nat → Int32)) (f_P_size : Int32) (f_P_leftTop : Int64) (f_P_leftBottom : Int64) (f_P_rightTop : Int64) (f_P_rightBottom : Int64) (f_P_terms : (Nat → Int32)) (v1 : Int32) (v3 : Int32) (post : Int32 → (Nat → Int32) → (Nat → Int32) → Prop) (hw : w7_storeConvergent f_tops f_bottoms f_P_size f_P_terms v1 v3 post) : Met l yX7_storeConvergent wsX7_storeConvergent rm7_storeConvergent (kP D (kT cI cJ cN cR) sz [.ref (rf 0), .int v1, .ref g0, .int v3] [((rf 0), o7 rf f_hasSnapshot f_termListSize f_textSize), ((rf 1), ai cI 8 f_tops), ((rf 2), ai cI 8 f_bottoms), (g0, o1 g1 f_P_size f_P_leftTop f_P_leftBottom f_P_rightTop f_P_rightBottom), (g1, ai cI 64 f_P_terms)]) (kQi D [((rf 0), o7 rf f_hasSnapshot f_termListSize f_textSize), ((rf 1), ai cI 8 f_tops), ((rf 2), ai cI 8 f_bottoms), (g0, o1 g1 f_P_size f_P_leftTop f_P_leftBottom f_P_rightTop f_P_rightBottom), (g1, ai cI 64 f_P_terms)] sz (fun (r : Int32) (u : (Nat → Int32) × (Nat → Int32)) => post r u.1 u.2) (fun (u : (Nat → Int32) × (Nat → Int32)) => [((rf 0), o7 rf f_hasSnapshot f_termListSize f_textSize), ((rf 1), ai cI 8 u.1), ((rf 2), ai cI 8 u.2), (g0, o1 g1 f_P_size f_P_leftTop f_P_leftBottom f_P_rightTop f_P_rightBottom), (g1, ai cI 64 f_P_terms)])) 0 0 (va_A [((rf 0), o7 rf f_hasSnapshot f_termListSize f_textSize), ((rf 1), ai cI 8 f_tops), ((rf 2), ai cI 8 f_bottoms), (g0, o1 g1 f_P_size f_P_leftTop f_P_leftBottom f_P_rightTop f_P_rightBottom), (g1, ai cI 64 f_P_terms)] sz) := by
  refine kMetI (cc := cX7_storeConvergent) (maxL := 4) (by decide +kernel) rfl (Nat.le_of_ble_eq_true rfl) ?_
  intro p e s m args below meth c H0 ls A Q C0 hK hN hP hD hS hA hl RET
  obtain ⟨hx, hb, hml, hown, hts⟩ := id C0
  have hl : lv_has ls 4 [(0, .ref (rf 0)), (1, .int v1), (2, .ref g0), (3, .int v3)] := hl
  unfold w7_storeConvergent at hw
  have hP : va_P D vwCl [((rf 0), o7 rf f_hasSnapshot f_termListSize f_textSize), ((rf 1), ai cI 8 f_tops), ((rf 2), ai cI 8 f_bottoms), (g0, o1 g1 f_P_size f_P_leftTop f_P_leftBottom f_P_rightTop f_P_rightBottom), (g1, ai cI 64 f_P_terms)] H0 := hP
  refine lv_aload_n hx hb dX7_storeConvergent_0 rfl (lv_at hl 0 rfl) ?_
  refine lv_iload_n hx hb dX7_storeConvergent_1 rfl (lv_at hl 1 rfl) ?_
  refine lv_aload_n hx hb dX7_storeConvergent_2 rfl (lv_at hl 2 rfl) ?_
  refine lv_iload_n hx hb dX7_storeConvergent_3 rfl (lv_at hl 3 rfl) ?_
  refine kcRL (wc := [(g0, o1 g1 f_P_size f_P_leftTop f_P_leftBottom f_P_rightTop f_P_rightBottom), (g1, ai cI 64 f_P_terms)]) hP [3, 4] rfl (fun hPc => oV (As := [.int v3]) (rest := [.int v1, .ref (rf 0)]) C0 hK hN (c1_convergentTop l D cI cJ cN cR g0 g1 f_P_size f_P_leftTop f_P_leftBottom f_P_rightTop f_P_rightBottom f_P_terms v3 _ hw) 1 gX7_storeConvergent_X1_convergentTop rfl ⟨rfl, rfl⟩ nm1_convergentTop ⟨Nat.le_of_ble_eq_true rfl, Nat.le_of_ble_eq_true rfl⟩ (q0 := 0) rfl rfl rfl rfl hl.1 rfl (Nat.le_of_ble_eq_true rfl) dX7_storeConvergent_4 ⟨Nat.le_of_ble_eq_true rfl, Nat.le_of_ble_eq_true rfl⟩ hPc) (fun r4 hw => ?_)
  refine lv_aload_n hx hb dX7_storeConvergent_7 rfl (lv_at hl 2 rfl) ?_
  refine lv_iload_n hx hb dX7_storeConvergent_8 rfl (lv_at hl 3 rfl) ?_
  refine kcRL (wc := [(g0, o1 g1 f_P_size f_P_leftTop f_P_leftBottom f_P_rightTop f_P_rightBottom), (g1, ai cI 64 f_P_terms)]) hP [3, 4] rfl (fun hPc => oV (As := [.int v3]) (rest := [.long r4, .int v1, .ref (rf 0)]) C0 hK hN (c1_convergentBottom l D cI cJ cN cR g0 g1 f_P_size f_P_leftTop f_P_leftBottom f_P_rightTop f_P_rightBottom f_P_terms v3 _ hw) 1 gX7_storeConvergent_X1_convergentBottom rfl ⟨rfl, rfl⟩ nm1_convergentBottom ⟨Nat.le_of_ble_eq_true rfl, Nat.le_of_ble_eq_true rfl⟩ (q0 := 0) rfl rfl rfl rfl hl.1 rfl (Nat.le_of_ble_eq_true rfl) dX7_storeConvergent_9 ⟨Nat.le_of_ble_eq_true rfl, Nat.le_of_ble_eq_true rfl⟩ hPc) (fun r9 hw => ?_)
  refine kcI (wc := [((rf 0), o7 rf f_hasSnapshot f_termListSize f_textSize), ((rf 1), ai cI 8 f_tops), ((rf 2), ai cI 8 f_bottoms)]) (wr := [(g0, o1 g1 f_P_size f_P_leftTop f_P_leftBottom f_P_rightTop f_P_rightBottom), (g1, ai cI 64 f_P_terms)]) hP hD hS hA [0, 1, 2] [3, 4] rfl rfl ⟨rfl, rfl, by decide⟩ (fun hPc hDc => rV (As := [.int v1, .long r4, .long r9]) (rest := []) C0 hK hN (c7_store l D cI cJ cN cR rf H0.size f_hasSnapshot f_termListSize f_textSize f_tops f_bottoms v1 r4 r9 _ hw) 3 gX7_storeConvergent_X7_store rfl ⟨rfl, rfl⟩ nm7_store ⟨Nat.le_of_ble_eq_true rfl, Nat.le_of_ble_eq_true rfl⟩ (q0 := 0) rfl rfl rfl rfl hl.1 rfl (Nat.le_of_ble_eq_true rfl) dX7_storeConvergent_12 ⟨Nat.le_of_ble_eq_true rfl, Nat.le_of_ble_eq_true rfl⟩ hPc hDc) (fun r12 u12 H locs hw hP hD hS => ?_)
  obtain ⟨f_tops_12, f_bottoms_12⟩ := u12
  dsimp only at hw
  have hP : va_P D vwCl [(g0, o1 g1 f_P_size f_P_leftTop f_P_leftBottom f_P_rightTop f_P_rightBottom), (g1, ai cI 64 f_P_terms), ((rf 0), o7 rf f_hasSnapshot f_termListSize f_textSize), ((rf 1), ai cI 8 f_tops_12), ((rf 2), ai cI 8 f_bottoms_12)] H := hP
  have hD : va_D A [(g0, o1 g1 f_P_size f_P_leftTop f_P_leftBottom f_P_rightTop f_P_rightBottom), (g1, ai cI 64 f_P_terms), ((rf 0), o7 rf f_hasSnapshot f_termListSize f_textSize), ((rf 1), ai cI 8 f_tops_12), ((rf 2), ai cI 8 f_bottoms_12)] := hD
  obtain ⟨hP, hD⟩ := k_sub (ws' := [((rf 0), o7 rf f_hasSnapshot f_termListSize f_textSize), ((rf 1), ai cI 8 f_tops_12), ((rf 2), ai cI 8 f_bottoms_12), (g0, o1 g1 f_P_size f_P_leftTop f_P_leftBottom f_P_rightTop f_P_rightBottom), (g1, ai cI 64 f_P_terms)]) hP hD [2, 3, 4, 0, 1] rfl rfl
  exact RET _ _ _ (f_tops_12, f_bottoms_12) _ _ hw hP hD hS dX7_storeConvergent_15
abbrev rm7_ancestor : Room := { frames := 3, cells := 0, slots := 0, locals := 84 }
theorem nm7_ancestor : kNm yX7_ancestor 3 := by decide +kernel
set_option maxHeartbeats 4000000 in
set_option maxRecDepth 100000 in
theorem c7_ancestor (l : Launch) (D : va_G) (cI cJ cN cR : ClassId) (rf : Nat → Nat) (sz : Nat) (f_hasSnapshot : Int32) (f_termListSize : Int32) (f_textSize : Int32) (f_tops : (Nat → Int32)) (f_bottoms : (Nat → Int32)) (f_E_size : Int32) (f_E_leftTop : Int64) (f_E_leftBottom : Int64) (f_E_rightTop : Int64) (f_E_rightBottom : Int64) (f_E_terms : (Nat → Int32)) (v1 : Int32) (v2 : Int32) (v3 : Int32) (post : Int32 → (Nat → Int32) → (Nat → Int32) → Int32 → (Nat → Int32) → Prop) (hw : w7_ancestor f_tops f_bottoms f_E_size f_E_terms v1 v2 v3 post) : Met l yX7_ancestor wsX7_ancestor rm7_ancestor (kP D (kT cI cJ cN cR) sz [.ref (rf 0), .int v1, .int v2, .int v3] [((rf 0), o7 rf f_hasSnapshot f_termListSize f_textSize), ((rf 1), ai cI 8 f_tops), ((rf 2), ai cI 8 f_bottoms), ((rf 14), o1 (rf 17) f_E_size f_E_leftTop f_E_leftBottom f_E_rightTop f_E_rightBottom), ((rf 17), ai cI 64 f_E_terms)]) (kQi D [((rf 0), o7 rf f_hasSnapshot f_termListSize f_textSize), ((rf 1), ai cI 8 f_tops), ((rf 2), ai cI 8 f_bottoms), ((rf 14), o1 (rf 17) f_E_size f_E_leftTop f_E_leftBottom f_E_rightTop f_E_rightBottom), ((rf 17), ai cI 64 f_E_terms)] sz (fun (r : Int32) (u : (Nat → Int32) × (Nat → Int32) × Int32 × (Nat → Int32)) => post r u.1 u.2.1 u.2.2.1 u.2.2.2) (fun (u : (Nat → Int32) × (Nat → Int32) × Int32 × (Nat → Int32)) => [((rf 0), o7 rf f_hasSnapshot f_termListSize f_textSize), ((rf 1), ai cI 8 u.1), ((rf 2), ai cI 8 u.2.1), ((rf 14), o1 (rf 17) u.2.2.1 f_E_leftTop f_E_leftBottom f_E_rightTop f_E_rightBottom), ((rf 17), ai cI 64 u.2.2.2)])) 0 0 (va_A [((rf 0), o7 rf f_hasSnapshot f_termListSize f_textSize), ((rf 1), ai cI 8 f_tops), ((rf 2), ai cI 8 f_bottoms), ((rf 14), o1 (rf 17) f_E_size f_E_leftTop f_E_leftBottom f_E_rightTop f_E_rightBottom), ((rf 17), ai cI 64 f_E_terms)] sz) := by
  refine kMetI (cc := cX7_ancestor) (maxL := 5) (by decide +kernel) rfl (Nat.le_of_ble_eq_true rfl) ?_
  intro p e s m args below meth c H0 ls A Q C0 hK hN hP hD hS hA hl RET
  obtain ⟨hx, hb, hml, hown, hts⟩ := id C0
  have hl : lv_has ls 5 [(0, .ref (rf 0)), (1, .int v1), (2, .int v2), (3, .int v3)] := hl
  unfold w7_ancestor at hw
  have hP : va_P D vwCl [((rf 0), o7 rf f_hasSnapshot f_termListSize f_textSize), ((rf 1), ai cI 8 f_tops), ((rf 2), ai cI 8 f_bottoms), ((rf 14), o1 (rf 17) f_E_size f_E_leftTop f_E_leftBottom f_E_rightTop f_E_rightBottom), ((rf 17), ai cI 64 f_E_terms)] H0 := hP
  refine lv_iload_n hx hb dX7_ancestor_0 rfl (lv_at hl 1 rfl) ?_
  refine kcRI (wc := []) hP [] rfl (fun hPc => oS (As := [.int v1]) (rest := []) C0 hK hN (c7_isRegister l D cI cJ cN cR   v1 _ hw) 1 gX7_ancestor_X7_isRegister rfl ⟨rfl, rfl⟩ nm7_isRegister ⟨Nat.le_of_ble_eq_true rfl, Nat.le_of_ble_eq_true rfl⟩ rfl hl.1 rfl (Nat.le_of_ble_eq_true rfl) dX7_ancestor_1 ⟨Nat.le_of_ble_eq_true rfl, Nat.le_of_ble_eq_true rfl⟩ hPc) (fun r1 hw => ?_)
  obtain ⟨nb1, hw⟩ := hw
  refine lv_if_eq (tgt := 18) hx hb dX7_ancestor_4 (by decide) (fun k => ?_) (fun k => ?_)
  · have hw := hw.1 k
    refine lv_iconst (v := (-1 : Int32)) hx hb dX7_ancestor_18 (by decide) ?_
    exact RET _ _ _ (f_tops, f_bottoms, f_E_size, f_E_terms) _ _ hw hP hD hS dX7_ancestor_19
  · have hw := hw.2 k
    refine lv_iload_n hx hb dX7_ancestor_7 rfl (lv_at hl 2 rfl) ?_
    refine kcRI (wc := []) hP [] rfl (fun hPc => oS (As := [.int v2]) (rest := []) C0 hK hN (c7_isRegister l D cI cJ cN cR   v2 _ hw) 1 gX7_ancestor_X7_isRegister rfl ⟨rfl, rfl⟩ nm7_isRegister ⟨Nat.le_of_ble_eq_true rfl, Nat.le_of_ble_eq_true rfl⟩ rfl hl.1 rfl (Nat.le_of_ble_eq_true rfl) dX7_ancestor_8 ⟨Nat.le_of_ble_eq_true rfl, Nat.le_of_ble_eq_true rfl⟩ hPc) (fun r8 hw => ?_)
    obtain ⟨nb8, hw⟩ := hw
    refine lv_if_eq (tgt := 18) hx hb dX7_ancestor_11 (by decide) (fun k => ?_) (fun k => ?_)
    · have hw := hw.1 k
      refine lv_iconst (v := (-1 : Int32)) hx hb dX7_ancestor_18 (by decide) ?_
      exact RET _ _ _ (f_tops, f_bottoms, f_E_size, f_E_terms) _ _ hw hP hD hS dX7_ancestor_19
    · have hw := hw.2 k
      refine lv_iload_n hx hb dX7_ancestor_14 rfl (lv_at hl 3 rfl) ?_
      refine lv_if_ge (tgt := 20) hx hb dX7_ancestor_15 (by decide) (fun k => ?_) (fun k => ?_)
      · have hw := hw.1 k
        refine lv_aload_n hx hb dX7_ancestor_20 rfl (lv_at hl 0 rfl) ?_
        refine lv_iload_n hx hb dX7_ancestor_21 rfl (lv_at hl 2 rfl) ?_
        refine kcR (wc := [((rf 0), o7 rf f_hasSnapshot f_termListSize f_textSize), ((rf 1), ai cI 8 f_tops), ((rf 2), ai cI 8 f_bottoms), ((rf 14), o1 (rf 17) f_E_size f_E_leftTop f_E_leftBottom f_E_rightTop f_E_rightBottom), ((rf 17), ai cI 64 f_E_terms)]) (wr := []) hP hD hS hA [0, 1, 2, 3, 4] [] rfl rfl ⟨rfl, rfl, by decide⟩ (fun hPc hDc => rV (As := [.int v2]) (rest := []) C0 hK hN (c7_expand l D cI cJ cN cR rf H0.size f_hasSnapshot f_termListSize f_textSize f_tops f_bottoms f_E_size f_E_leftTop f_E_leftBottom f_E_rightTop f_E_rightBottom f_E_terms v2 _ hw) 1 gX7_ancestor_X7_expand rfl ⟨rfl, rfl⟩ nm7_expand ⟨Nat.le_of_ble_eq_true rfl, Nat.le_of_ble_eq_true rfl⟩ (q0 := 0) rfl rfl rfl rfl hl.1 rfl (Nat.le_of_ble_eq_true rfl) dX7_ancestor_22 ⟨Nat.le_of_ble_eq_true rfl, Nat.le_of_ble_eq_true rfl⟩ hPc hDc) (fun u22 H locs hw hP hD hS => ?_)
        obtain ⟨f_E_size_22, f_E_terms_22⟩ := u22
        dsimp only at hw
        have hP : va_P D vwCl [((rf 0), o7 rf f_hasSnapshot f_termListSize f_textSize), ((rf 1), ai cI 8 f_tops), ((rf 2), ai cI 8 f_bottoms), ((rf 14), o1 (rf 17) f_E_size_22 f_E_leftTop f_E_leftBottom f_E_rightTop f_E_rightBottom), ((rf 17), ai cI 64 f_E_terms_22)] H := hP
        have hD : va_D A [((rf 0), o7 rf f_hasSnapshot f_termListSize f_textSize), ((rf 1), ai cI 8 f_tops), ((rf 2), ai cI 8 f_bottoms), ((rf 14), o1 (rf 17) f_E_size_22 f_E_leftTop f_E_leftBottom f_E_rightTop f_E_rightBottom), ((rf 17), ai cI 64 f_E_terms_22)] := hD
        refine lv_astore (lv' := [(4, .ref (rf 14)), (0, .ref (rf 0)), (1, .int v1), (2, .int v2), (3, .int v3)]) hx hb dX7_ancestor_25 hl (by decide) rfl (fun ls hl => ?_)
        refine lv_iload_n hx hb dX7_ancestor_27 rfl (lv_at hl 4 rfl) ?_
        refine lv_aload hx hb dX7_ancestor_28 (lv_at hl 0 rfl) ?_
        refine kcRI (wc := [((rf 14), o1 (rf 17) f_E_size_22 f_E_leftTop f_E_leftBottom f_E_rightTop f_E_rightBottom), ((rf 17), ai cI 64 f_E_terms_22)]) hP [3, 4] rfl (fun hPc => oV (As := []) (rest := [.int v3]) C0 hK hN (c1_stepCount l D cI cJ cN cR (rf 14) (rf 17) f_E_size_22 f_E_leftTop f_E_leftBottom f_E_rightTop f_E_rightBottom f_E_terms_22  _ hw) 0 gX7_ancestor_X1_stepCount rfl ⟨rfl, rfl⟩ nm1_stepCount ⟨Nat.le_of_ble_eq_true rfl, Nat.le_of_ble_eq_true rfl⟩ (q0 := 0) rfl rfl rfl rfl hl.1 rfl (Nat.le_of_ble_eq_true rfl) dX7_ancestor_30 ⟨Nat.le_of_ble_eq_true rfl, Nat.le_of_ble_eq_true rfl⟩ hPc) (fun r30 hw => ?_)
        refine lv_icmp_le (tgt := 39) hx hb dX7_ancestor_33 (by decide) (fun k => ?_) (fun k => ?_)
        · have hw := hw.1 k
          refine lv_aload hx hb dX7_ancestor_39 (lv_at hl 0 rfl) ?_
          refine lv_iload_n hx hb dX7_ancestor_41 rfl (lv_at hl 4 rfl) ?_
          refine kcV (wc := [((rf 14), o1 (rf 17) f_E_size_22 f_E_leftTop f_E_leftBottom f_E_rightTop f_E_rightBottom), ((rf 17), ai cI 64 f_E_terms_22)]) (wr := [((rf 0), o7 rf f_hasSnapshot f_termListSize f_textSize), ((rf 1), ai cI 8 f_tops), ((rf 2), ai cI 8 f_bottoms)]) hP hD hS hA [3, 4] [0, 1, 2] rfl rfl ⟨rfl, rfl, by decide⟩ (fun hPc hDc => rV (As := [.int v3]) (rest := []) C0 hK hN (c1_cutToDepth l D cI cJ cN cR (rf 14) (rf 17) H.size f_E_size_22 f_E_leftTop f_E_leftBottom f_E_rightTop f_E_rightBottom f_E_terms_22 v3 _ hw) 1 gX7_ancestor_X1_cutToDepth rfl ⟨rfl, rfl⟩ nm1_cutToDepth ⟨Nat.le_of_ble_eq_true rfl, Nat.le_of_ble_eq_true rfl⟩ (q0 := 0) rfl rfl rfl rfl hl.1 rfl (Nat.le_of_ble_eq_true rfl) dX7_ancestor_42 ⟨Nat.le_of_ble_eq_true rfl, Nat.le_of_ble_eq_true rfl⟩ hPc hDc) (fun u42 H locs hw hP hD hS => ?_)
          obtain ⟨f_E_size_42, f_E_terms_42⟩ := u42
          dsimp only at hw
          have hP : va_P D vwCl [((rf 0), o7 rf f_hasSnapshot f_termListSize f_textSize), ((rf 1), ai cI 8 f_tops), ((rf 2), ai cI 8 f_bottoms), ((rf 14), o1 (rf 17) f_E_size_42 f_E_leftTop f_E_leftBottom f_E_rightTop f_E_rightBottom), ((rf 17), ai cI 64 f_E_terms_42)] H := hP
          have hD : va_D A [((rf 0), o7 rf f_hasSnapshot f_termListSize f_textSize), ((rf 1), ai cI 8 f_tops), ((rf 2), ai cI 8 f_bottoms), ((rf 14), o1 (rf 17) f_E_size_42 f_E_leftTop f_E_leftBottom f_E_rightTop f_E_rightBottom), ((rf 17), ai cI 64 f_E_terms_42)] := hD
          refine lv_aload_n hx hb dX7_ancestor_45 rfl (lv_at hl 1 rfl) ?_
          refine lv_iload_n hx hb dX7_ancestor_46 rfl (lv_at hl 2 rfl) ?_
          refine lv_aload hx hb dX7_ancestor_47 (lv_at hl 0 rfl) ?_
          refine lv_aload hx hb dX7_ancestor_49 (lv_at hl 0 rfl) ?_
          refine kcRI (wc := [((rf 14), o1 (rf 17) f_E_size_42 f_E_leftTop f_E_leftBottom f_E_rightTop f_E_rightBottom)]) hP [3] rfl (fun hPc => oV (As := []) (rest := [.ref (rf 14), .int v1, .ref (rf 0)]) C0 hK hN (c1_size l D cI cJ cN cR (rf 14) (rf 17) f_E_size_42 f_E_leftTop f_E_leftBottom f_E_rightTop f_E_rightBottom  _ hw) 0 gX7_ancestor_X1_size rfl ⟨rfl, rfl⟩ nm1_size ⟨Nat.le_of_ble_eq_true rfl, Nat.le_of_ble_eq_true rfl⟩ (q0 := 0) rfl rfl rfl rfl hl.1 rfl (Nat.le_of_ble_eq_true rfl) dX7_ancestor_51 ⟨Nat.le_of_ble_eq_true rfl, Nat.le_of_ble_eq_true rfl⟩ hPc) (fun r51 hw => ?_)
          refine lv_iconst (v := (1 : Int32)) hx hb dX7_ancestor_54 (by decide) ?_
          refine lv_isub hx hb dX7_ancestor_55 ?_
          refine kcI (wc := [((rf 0), o7 rf f_hasSnapshot f_termListSize f_textSize), ((rf 1), ai cI 8 f_tops), ((rf 2), ai cI 8 f_bottoms), ((rf 14), o1 (rf 17) f_E_size_42 f_E_leftTop f_E_leftBottom f_E_rightTop f_E_rightBottom), ((rf 17), ai cI 64 f_E_terms_42)]) (wr := []) hP hD hS hA [0, 1, 2, 3, 4] [] rfl rfl ⟨rfl, rfl, by decide⟩ (fun hPc hDc => rV (As := [.int v1, .ref (rf 14), .int (r51 - (1 : Int32))]) (rest := []) C0 hK hN (c7_storeConvergent l D cI cJ cN cR rf (rf 14) (rf 17) H.size f_hasSnapshot f_termListSize f_textSize f_tops f_bottoms f_E_size_42 f_E_leftTop f_E_leftBottom f_E_rightTop f_E_rightBottom f_E_terms_42 v1 (r51 - (1 : Int32)) _ hw) 3 gX7_ancestor_X7_storeConvergent rfl ⟨rfl, rfl⟩ nm7_storeConvergent ⟨Nat.le_of_ble_eq_true rfl, Nat.le_of_ble_eq_true rfl⟩ (q0 := 0) rfl rfl rfl rfl hl.1 rfl (Nat.le_of_ble_eq_true rfl) dX7_ancestor_56 ⟨Nat.le_of_ble_eq_true rfl, Nat.le_of_ble_eq_true rfl⟩ hPc hDc) (fun r56 u56 H locs hw hP hD hS => ?_)
          obtain ⟨f_tops_56, f_bottoms_56⟩ := u56
          dsimp only at hw
          have hP : va_P D vwCl [((rf 0), o7 rf f_hasSnapshot f_termListSize f_textSize), ((rf 1), ai cI 8 f_tops_56), ((rf 2), ai cI 8 f_bottoms_56), ((rf 14), o1 (rf 17) f_E_size_42 f_E_leftTop f_E_leftBottom f_E_rightTop f_E_rightBottom), ((rf 17), ai cI 64 f_E_terms_42)] H := hP
          have hD : va_D A [((rf 0), o7 rf f_hasSnapshot f_termListSize f_textSize), ((rf 1), ai cI 8 f_tops_56), ((rf 2), ai cI 8 f_bottoms_56), ((rf 14), o1 (rf 17) f_E_size_42 f_E_leftTop f_E_leftBottom f_E_rightTop f_E_rightBottom), ((rf 17), ai cI 64 f_E_terms_42)] := hD
          exact RET _ _ _ (f_tops_56, f_bottoms_56, f_E_size_42, f_E_terms_42) _ _ hw hP hD hS dX7_ancestor_59
        · have hw := hw.2 k
          refine lv_bipush (v := (-2 : Int32)) hx hb dX7_ancestor_36 (by decide) ?_
          exact RET _ _ _ (f_tops, f_bottoms, f_E_size_22, f_E_terms_22) _ _ hw hP hD hS dX7_ancestor_38
      · have hw := hw.2 k
        refine lv_iconst (v := (-1 : Int32)) hx hb dX7_ancestor_18 (by decide) ?_
        exact RET _ _ _ (f_tops, f_bottoms, f_E_size, f_E_terms) _ _ hw hP hD hS dX7_ancestor_19
abbrev rm7_bound : Room := { frames := 4, cells := 0, slots := 0, locals := 105 }
theorem nm7_bound : kNm yX7_bound 3 := by decide +kernel
set_option maxHeartbeats 4000000 in
set_option maxRecDepth 100000 in
theorem c7_bound (l : Launch) (D : va_G) (cI cJ cN cR : ClassId) (rf : Nat → Nat) (sz : Nat) (f_hasSnapshot : Int32) (f_termListSize : Int32) (f_textSize : Int32) (f_tops : (Nat → Int32)) (f_bottoms : (Nat → Int32)) (f_E_size : Int32) (f_E_leftTop : Int64) (f_E_leftBottom : Int64) (f_E_rightTop : Int64) (f_E_rightBottom : Int64) (f_E_terms : (Nat → Int32)) (v1 : Int32) (v2 : Int32) (v3 : Int32) (post : Int32 → (Nat → Int32) → (Nat → Int32) → Int32 → Int64 → Int64 → Int64 → Int64 → (Nat → Int32) → Prop) (hw : w7_bound f_tops f_bottoms f_E_size f_E_leftTop f_E_leftBottom f_E_rightTop f_E_rightBottom f_E_terms v1 v2 v3 post) : Met l yX7_bound wsX7_bound rm7_bound (kP D (kT cI cJ cN cR) sz [.ref (rf 0), .int v1, .int v2, .int v3] [((rf 0), o7 rf f_hasSnapshot f_termListSize f_textSize), ((rf 1), ai cI 8 f_tops), ((rf 2), ai cI 8 f_bottoms), ((rf 14), o1 (rf 17) f_E_size f_E_leftTop f_E_leftBottom f_E_rightTop f_E_rightBottom), ((rf 17), ai cI 64 f_E_terms)]) (kQi D [((rf 0), o7 rf f_hasSnapshot f_termListSize f_textSize), ((rf 1), ai cI 8 f_tops), ((rf 2), ai cI 8 f_bottoms), ((rf 14), o1 (rf 17) f_E_size f_E_leftTop f_E_leftBottom f_E_rightTop f_E_rightBottom), ((rf 17), ai cI 64 f_E_terms)] sz (fun (r : Int32) (u : (Nat → Int32) × (Nat → Int32) × Int32 × Int64 × Int64 × Int64 × Int64 × (Nat → Int32)) => post r u.1 u.2.1 u.2.2.1 u.2.2.2.1 u.2.2.2.2.1 u.2.2.2.2.2.1 u.2.2.2.2.2.2.1 u.2.2.2.2.2.2.2) (fun (u : (Nat → Int32) × (Nat → Int32) × Int32 × Int64 × Int64 × Int64 × Int64 × (Nat → Int32)) => [((rf 0), o7 rf f_hasSnapshot f_termListSize f_textSize), ((rf 1), ai cI 8 u.1), ((rf 2), ai cI 8 u.2.1), ((rf 14), o1 (rf 17) u.2.2.1 u.2.2.2.1 u.2.2.2.2.1 u.2.2.2.2.2.1 u.2.2.2.2.2.2.1), ((rf 17), ai cI 64 u.2.2.2.2.2.2.2)])) 0 0 (va_A [((rf 0), o7 rf f_hasSnapshot f_termListSize f_textSize), ((rf 1), ai cI 8 f_tops), ((rf 2), ai cI 8 f_bottoms), ((rf 14), o1 (rf 17) f_E_size f_E_leftTop f_E_leftBottom f_E_rightTop f_E_rightBottom), ((rf 17), ai cI 64 f_E_terms)] sz) := by
  refine kMetI (cc := cX7_bound) (maxL := 5) (by decide +kernel) rfl (Nat.le_of_ble_eq_true rfl) ?_
  intro p e s m args below meth c H0 ls A Q C0 hK hN hP hD hS hA hl RET
  obtain ⟨hx, hb, hml, hown, hts⟩ := id C0
  have hl : lv_has ls 5 [(0, .ref (rf 0)), (1, .int v1), (2, .int v2), (3, .int v3)] := hl
  unfold w7_bound at hw
  have hP : va_P D vwCl [((rf 0), o7 rf f_hasSnapshot f_termListSize f_textSize), ((rf 1), ai cI 8 f_tops), ((rf 2), ai cI 8 f_bottoms), ((rf 14), o1 (rf 17) f_E_size f_E_leftTop f_E_leftBottom f_E_rightTop f_E_rightBottom), ((rf 17), ai cI 64 f_E_terms)] H0 := hP
  refine lv_iload_n hx hb dX7_bound_0 rfl (lv_at hl 1 rfl) ?_
  refine kcRI (wc := []) hP [] rfl (fun hPc => oS (As := [.int v1]) (rest := []) C0 hK hN (c7_isRegister l D cI cJ cN cR   v1 _ hw) 1 gX7_bound_X7_isRegister rfl ⟨rfl, rfl⟩ nm7_isRegister ⟨Nat.le_of_ble_eq_true rfl, Nat.le_of_ble_eq_true rfl⟩ rfl hl.1 rfl (Nat.le_of_ble_eq_true rfl) dX7_bound_1 ⟨Nat.le_of_ble_eq_true rfl, Nat.le_of_ble_eq_true rfl⟩ hPc) (fun r1 hw => ?_)
  obtain ⟨nb1, hw⟩ := hw
  refine lv_if_eq (tgt := 23) hx hb dX7_bound_4 (by decide) (fun k => ?_) (fun k => ?_)
  · have hw := hw.1 k
    refine lv_iconst (v := (-1 : Int32)) hx hb dX7_bound_23 (by decide) ?_
    exact RET _ _ _ (f_tops, f_bottoms, f_E_size, f_E_leftTop, f_E_leftBottom, f_E_rightTop, f_E_rightBottom, f_E_terms) _ _ hw hP hD hS dX7_bound_24
  · have hw := hw.2 k
    refine lv_iload_n hx hb dX7_bound_7 rfl (lv_at hl 2 rfl) ?_
    refine kcRI (wc := []) hP [] rfl (fun hPc => oS (As := [.int v2]) (rest := []) C0 hK hN (c7_isRegister l D cI cJ cN cR   v2 _ hw) 1 gX7_bound_X7_isRegister rfl ⟨rfl, rfl⟩ nm7_isRegister ⟨Nat.le_of_ble_eq_true rfl, Nat.le_of_ble_eq_true rfl⟩ rfl hl.1 rfl (Nat.le_of_ble_eq_true rfl) dX7_bound_8 ⟨Nat.le_of_ble_eq_true rfl, Nat.le_of_ble_eq_true rfl⟩ hPc) (fun r8 hw => ?_)
    obtain ⟨nb8, hw⟩ := hw
    refine lv_if_eq (tgt := 23) hx hb dX7_bound_11 (by decide) (fun k => ?_) (fun k => ?_)
    · have hw := hw.1 k
      refine lv_iconst (v := (-1 : Int32)) hx hb dX7_bound_23 (by decide) ?_
      exact RET _ _ _ (f_tops, f_bottoms, f_E_size, f_E_leftTop, f_E_leftBottom, f_E_rightTop, f_E_rightBottom, f_E_terms) _ _ hw hP hD hS dX7_bound_24
    · have hw := hw.2 k
      refine lv_iload_n hx hb dX7_bound_14 rfl (lv_at hl 3 rfl) ?_
      refine lv_iconst (v := (0 : Int32)) hx hb dX7_bound_15 (by decide) ?_
      refine lv_iconst (v := (1 : Int32)) hx hb dX7_bound_16 (by decide) ?_
      refine kcRI (wc := []) hP [] rfl (fun hPc => oS (As := [.int v3, .int (0 : Int32), .int (1 : Int32)]) (rest := []) C0 hK hN (c7_isIn l D cI cJ cN cR   v3 (0 : Int32) (1 : Int32) _ hw) 3 gX7_bound_X7_isIn rfl ⟨rfl, rfl⟩ nm7_isIn ⟨Nat.le_of_ble_eq_true rfl, Nat.le_of_ble_eq_true rfl⟩ rfl hl.1 rfl (Nat.le_of_ble_eq_true rfl) dX7_bound_17 ⟨Nat.le_of_ble_eq_true rfl, Nat.le_of_ble_eq_true rfl⟩ hPc) (fun r17 hw => ?_)
      obtain ⟨nb17, hw⟩ := hw
      refine lv_if_ne (tgt := 25) hx hb dX7_bound_20 (by decide) (fun k => ?_) (fun k => ?_)
      · have hw := hw.1 k
        refine lv_aload_n hx hb dX7_bound_25 rfl (lv_at hl 0 rfl) ?_
        refine lv_iload_n hx hb dX7_bound_26 rfl (lv_at hl 2 rfl) ?_
        refine kcR (wc := [((rf 0), o7 rf f_hasSnapshot f_termListSize f_textSize), ((rf 1), ai cI 8 f_tops), ((rf 2), ai cI 8 f_bottoms), ((rf 14), o1 (rf 17) f_E_size f_E_leftTop f_E_leftBottom f_E_rightTop f_E_rightBottom), ((rf 17), ai cI 64 f_E_terms)]) (wr := []) hP hD hS hA [0, 1, 2, 3, 4] [] rfl rfl ⟨rfl, rfl, by decide⟩ (fun hPc hDc => rV (As := [.int v2]) (rest := []) C0 hK hN (c7_expand l D cI cJ cN cR rf H0.size f_hasSnapshot f_termListSize f_textSize f_tops f_bottoms f_E_size f_E_leftTop f_E_leftBottom f_E_rightTop f_E_rightBottom f_E_terms v2 _ hw) 1 gX7_bound_X7_expand rfl ⟨rfl, rfl⟩ nm7_expand ⟨Nat.le_of_ble_eq_true rfl, Nat.le_of_ble_eq_true rfl⟩ (q0 := 0) rfl rfl rfl rfl hl.1 rfl (Nat.le_of_ble_eq_true rfl) dX7_bound_27 ⟨Nat.le_of_ble_eq_true rfl, Nat.le_of_ble_eq_true rfl⟩ hPc hDc) (fun u27 H locs hw hP hD hS => ?_)
        obtain ⟨f_E_size_27, f_E_terms_27⟩ := u27
        dsimp only at hw
        have hP : va_P D vwCl [((rf 0), o7 rf f_hasSnapshot f_termListSize f_textSize), ((rf 1), ai cI 8 f_tops), ((rf 2), ai cI 8 f_bottoms), ((rf 14), o1 (rf 17) f_E_size_27 f_E_leftTop f_E_leftBottom f_E_rightTop f_E_rightBottom), ((rf 17), ai cI 64 f_E_terms_27)] H := hP
        have hD : va_D A [((rf 0), o7 rf f_hasSnapshot f_termListSize f_textSize), ((rf 1), ai cI 8 f_tops), ((rf 2), ai cI 8 f_bottoms), ((rf 14), o1 (rf 17) f_E_size_27 f_E_leftTop f_E_leftBottom f_E_rightTop f_E_rightBottom), ((rf 17), ai cI 64 f_E_terms_27)] := hD
        refine lv_astore (lv' := [(4, .ref (rf 14)), (0, .ref (rf 0)), (1, .int v1), (2, .int v2), (3, .int v3)]) hx hb dX7_bound_30 hl (by decide) rfl (fun ls hl => ?_)
        refine lv_aload hx hb dX7_bound_32 (lv_at hl 0 rfl) ?_
        refine kcV (wc := [((rf 14), o1 (rf 17) f_E_size_27 f_E_leftTop f_E_leftBottom f_E_rightTop f_E_rightBottom), ((rf 17), ai cI 64 f_E_terms_27)]) (wr := [((rf 0), o7 rf f_hasSnapshot f_termListSize f_textSize), ((rf 1), ai cI 8 f_tops), ((rf 2), ai cI 8 f_bottoms)]) hP hD hS hA [3, 4] [0, 1, 2] rfl rfl ⟨rfl, rfl, by decide⟩ (fun hPc hDc => rV (As := []) (rest := []) C0 hK hN (c1_findBounds l D cI cJ cN cR (rf 14) (rf 17) H.size f_E_size_27 f_E_leftTop f_E_leftBottom f_E_rightTop f_E_rightBottom f_E_terms_27  _ hw) 0 gX7_bound_X1_findBounds rfl ⟨rfl, rfl⟩ nm1_findBounds ⟨Nat.le_of_ble_eq_true rfl, Nat.le_of_ble_eq_true rfl⟩ (q0 := 0) rfl rfl rfl rfl hl.1 rfl (Nat.le_of_ble_eq_true rfl) dX7_bound_34 ⟨Nat.le_of_ble_eq_true rfl, Nat.le_of_ble_eq_true rfl⟩ hPc hDc) (fun u34 H locs hw hP hD hS => ?_)
        obtain ⟨f_E_leftTop_34, f_E_leftBottom_34, f_E_rightTop_34, f_E_rightBottom_34⟩ := u34
        dsimp only at hw
        have hP : va_P D vwCl [((rf 0), o7 rf f_hasSnapshot f_termListSize f_textSize), ((rf 1), ai cI 8 f_tops), ((rf 2), ai cI 8 f_bottoms), ((rf 14), o1 (rf 17) f_E_size_27 f_E_leftTop_34 f_E_leftBottom_34 f_E_rightTop_34 f_E_rightBottom_34), ((rf 17), ai cI 64 f_E_terms_27)] H := hP
        have hD : va_D A [((rf 0), o7 rf f_hasSnapshot f_termListSize f_textSize), ((rf 1), ai cI 8 f_tops), ((rf 2), ai cI 8 f_bottoms), ((rf 14), o1 (rf 17) f_E_size_27 f_E_leftTop_34 f_E_leftBottom_34 f_E_rightTop_34 f_E_rightBottom_34), ((rf 17), ai cI 64 f_E_terms_27)] := hD
        refine lv_aload hx hb dX7_bound_37 (lv_at hl 0 rfl) ?_
        refine lv_iload_n hx hb dX7_bound_39 rfl (lv_at hl 4 rfl) ?_
        refine kcRL (wc := [((rf 14), o1 (rf 17) f_E_size_27 f_E_leftTop_34 f_E_leftBottom_34 f_E_rightTop_34 f_E_rightBottom_34)]) hP [3] rfl (fun hPc => oV (As := [.int v3]) (rest := []) C0 hK hN (c1_boundTop l D cI cJ cN cR (rf 14) (rf 17) f_E_size_27 f_E_leftTop_34 f_E_leftBottom_34 f_E_rightTop_34 f_E_rightBottom_34 v3 _ hw) 1 gX7_bound_X1_boundTop rfl ⟨rfl, rfl⟩ nm1_boundTop ⟨Nat.le_of_ble_eq_true rfl, Nat.le_of_ble_eq_true rfl⟩ (q0 := 0) rfl rfl rfl rfl hl.1 rfl (Nat.le_of_ble_eq_true rfl) dX7_bound_40 ⟨Nat.le_of_ble_eq_true rfl, Nat.le_of_ble_eq_true rfl⟩ hPc) (fun r40 hw => ?_)
        refine lv_lconst (v := (0 : Int64)) hx hb dX7_bound_43 (by decide) ?_
        refine W.lcmp hx hb dX7_bound_44 ?_
        refine lv_if_eq (tgt := 59) hx hb dX7_bound_45 (by decide) (fun k => ?_) (fun k => ?_)
        · have hw := hw.1 ((lg_cmp_eq _ _).mp k)
          refine lv_bipush (v := (-2 : Int32)) hx hb dX7_bound_59 (by decide) ?_
          exact RET _ _ _ (f_tops, f_bottoms, f_E_size_27, f_E_leftTop_34, f_E_leftBottom_34, f_E_rightTop_34, f_E_rightBottom_34, f_E_terms_27) _ _ hw hP hD hS dX7_bound_61
        · have hw := hw.2 (fun h => k ((lg_cmp_eq _ _).mpr h))
          refine lv_aload hx hb dX7_bound_48 (lv_at hl 0 rfl) ?_
          refine lv_iload_n hx hb dX7_bound_50 rfl (lv_at hl 4 rfl) ?_
          refine kcRL (wc := [((rf 14), o1 (rf 17) f_E_size_27 f_E_leftTop_34 f_E_leftBottom_34 f_E_rightTop_34 f_E_rightBottom_34)]) hP [3] rfl (fun hPc => oV (As := [.int v3]) (rest := []) C0 hK hN (c1_boundBottom l D cI cJ cN cR (rf 14) (rf 17) f_E_size_27 f_E_leftTop_34 f_E_leftBottom_34 f_E_rightTop_34 f_E_rightBottom_34 v3 _ hw) 1 gX7_bound_X1_boundBottom rfl ⟨rfl, rfl⟩ nm1_boundBottom ⟨Nat.le_of_ble_eq_true rfl, Nat.le_of_ble_eq_true rfl⟩ (q0 := 0) rfl rfl rfl rfl hl.1 rfl (Nat.le_of_ble_eq_true rfl) dX7_bound_51 ⟨Nat.le_of_ble_eq_true rfl, Nat.le_of_ble_eq_true rfl⟩ hPc) (fun r51 hw => ?_)
          refine lv_lconst (v := (0 : Int64)) hx hb dX7_bound_54 (by decide) ?_
          refine W.lcmp hx hb dX7_bound_55 ?_
          refine lv_if_ne (tgt := 62) hx hb dX7_bound_56 (by decide) (fun k => ?_) (fun k => ?_)
          · have hw := hw.1 (fun h => k ((lg_cmp_eq _ _).mpr h))
            refine lv_aload_n hx hb dX7_bound_62 rfl (lv_at hl 1 rfl) ?_
            refine lv_iload_n hx hb dX7_bound_63 rfl (lv_at hl 2 rfl) ?_
            refine lv_aload hx hb dX7_bound_64 (lv_at hl 0 rfl) ?_
            refine lv_iload_n hx hb dX7_bound_66 rfl (lv_at hl 4 rfl) ?_
            refine kcRL (wc := [((rf 14), o1 (rf 17) f_E_size_27 f_E_leftTop_34 f_E_leftBottom_34 f_E_rightTop_34 f_E_rightBottom_34)]) hP [3] rfl (fun hPc => oV (As := [.int v3]) (rest := [.int v1, .ref (rf 0)]) C0 hK hN (c1_boundTop l D cI cJ cN cR (rf 14) (rf 17) f_E_size_27 f_E_leftTop_34 f_E_leftBottom_34 f_E_rightTop_34 f_E_rightBottom_34 v3 _ hw) 1 gX7_bound_X1_boundTop rfl ⟨rfl, rfl⟩ nm1_boundTop ⟨Nat.le_of_ble_eq_true rfl, Nat.le_of_ble_eq_true rfl⟩ (q0 := 0) rfl rfl rfl rfl hl.1 rfl (Nat.le_of_ble_eq_true rfl) dX7_bound_67 ⟨Nat.le_of_ble_eq_true rfl, Nat.le_of_ble_eq_true rfl⟩ hPc) (fun r67 hw => ?_)
            refine lv_aload hx hb dX7_bound_70 (lv_at hl 0 rfl) ?_
            refine lv_iload_n hx hb dX7_bound_72 rfl (lv_at hl 4 rfl) ?_
            refine kcRL (wc := [((rf 14), o1 (rf 17) f_E_size_27 f_E_leftTop_34 f_E_leftBottom_34 f_E_rightTop_34 f_E_rightBottom_34)]) hP [3] rfl (fun hPc => oV (As := [.int v3]) (rest := [.long r67, .int v1, .ref (rf 0)]) C0 hK hN (c1_boundBottom l D cI cJ cN cR (rf 14) (rf 17) f_E_size_27 f_E_leftTop_34 f_E_leftBottom_34 f_E_rightTop_34 f_E_rightBottom_34 v3 _ hw) 1 gX7_bound_X1_boundBottom rfl ⟨rfl, rfl⟩ nm1_boundBottom ⟨Nat.le_of_ble_eq_true rfl, Nat.le_of_ble_eq_true rfl⟩ (q0 := 0) rfl rfl rfl rfl hl.1 rfl (Nat.le_of_ble_eq_true rfl) dX7_bound_73 ⟨Nat.le_of_ble_eq_true rfl, Nat.le_of_ble_eq_true rfl⟩ hPc) (fun r73 hw => ?_)
            refine kcI (wc := [((rf 0), o7 rf f_hasSnapshot f_termListSize f_textSize), ((rf 1), ai cI 8 f_tops), ((rf 2), ai cI 8 f_bottoms)]) (wr := [((rf 14), o1 (rf 17) f_E_size_27 f_E_leftTop_34 f_E_leftBottom_34 f_E_rightTop_34 f_E_rightBottom_34), ((rf 17), ai cI 64 f_E_terms_27)]) hP hD hS hA [0, 1, 2] [3, 4] rfl rfl ⟨rfl, rfl, by decide⟩ (fun hPc hDc => rV (As := [.int v1, .long r67, .long r73]) (rest := []) C0 hK hN (c7_store l D cI cJ cN cR rf H.size f_hasSnapshot f_termListSize f_textSize f_tops f_bottoms v1 r67 r73 _ hw) 3 gX7_bound_X7_store rfl ⟨rfl, rfl⟩ nm7_store ⟨Nat.le_of_ble_eq_true rfl, Nat.le_of_ble_eq_true rfl⟩ (q0 := 0) rfl rfl rfl rfl hl.1 rfl (Nat.le_of_ble_eq_true rfl) dX7_bound_76 ⟨Nat.le_of_ble_eq_true rfl, Nat.le_of_ble_eq_true rfl⟩ hPc hDc) (fun r76 u76 H locs hw hP hD hS => ?_)
            obtain ⟨f_tops_76, f_bottoms_76⟩ := u76
            dsimp only at hw
            have hP : va_P D vwCl [((rf 14), o1 (rf 17) f_E_size_27 f_E_leftTop_34 f_E_leftBottom_34 f_E_rightTop_34 f_E_rightBottom_34), ((rf 17), ai cI 64 f_E_terms_27), ((rf 0), o7 rf f_hasSnapshot f_termListSize f_textSize), ((rf 1), ai cI 8 f_tops_76), ((rf 2), ai cI 8 f_bottoms_76)] H := hP
            have hD : va_D A [((rf 14), o1 (rf 17) f_E_size_27 f_E_leftTop_34 f_E_leftBottom_34 f_E_rightTop_34 f_E_rightBottom_34), ((rf 17), ai cI 64 f_E_terms_27), ((rf 0), o7 rf f_hasSnapshot f_termListSize f_textSize), ((rf 1), ai cI 8 f_tops_76), ((rf 2), ai cI 8 f_bottoms_76)] := hD
            obtain ⟨hP, hD⟩ := k_sub (ws' := [((rf 0), o7 rf f_hasSnapshot f_termListSize f_textSize), ((rf 1), ai cI 8 f_tops_76), ((rf 2), ai cI 8 f_bottoms_76), ((rf 14), o1 (rf 17) f_E_size_27 f_E_leftTop_34 f_E_leftBottom_34 f_E_rightTop_34 f_E_rightBottom_34), ((rf 17), ai cI 64 f_E_terms_27)]) hP hD [2, 3, 4, 0, 1] rfl rfl
            exact RET _ _ _ (f_tops_76, f_bottoms_76, f_E_size_27, f_E_leftTop_34, f_E_leftBottom_34, f_E_rightTop_34, f_E_rightBottom_34, f_E_terms_27) _ _ hw hP hD hS dX7_bound_79
          · have hw := hw.2 ((lg_cmp_eq _ _).mp k)
            refine lv_bipush (v := (-2 : Int32)) hx hb dX7_bound_59 (by decide) ?_
            exact RET _ _ _ (f_tops, f_bottoms, f_E_size_27, f_E_leftTop_34, f_E_leftBottom_34, f_E_rightTop_34, f_E_rightBottom_34, f_E_terms_27) _ _ hw hP hD hS dX7_bound_61
      · have hw := hw.2 k
        refine lv_iconst (v := (-1 : Int32)) hx hb dX7_bound_23 (by decide) ?_
        exact RET _ _ _ (f_tops, f_bottoms, f_E_size, f_E_leftTop, f_E_leftBottom, f_E_rightTop, f_E_rightBottom, f_E_terms) _ _ hw hP hD hS dX7_bound_24
abbrev rm7_child : Room := { frames := 4, cells := 0, slots := 0, locals := 105 }
theorem nm7_child : kNm yX7_child 3 := by decide +kernel
set_option maxHeartbeats 4000000 in
set_option maxRecDepth 100000 in
theorem c7_child (l : Launch) (D : va_G) (cI cJ cN cR : ClassId) (rf : Nat → Nat) (sz : Nat) (f_hasSnapshot : Int32) (f_termListSize : Int32) (f_textSize : Int32) (f_tops : (Nat → Int32)) (f_bottoms : (Nat → Int32)) (f_E_size : Int32) (f_E_leftTop : Int64) (f_E_leftBottom : Int64) (f_E_rightTop : Int64) (f_E_rightBottom : Int64) (f_E_terms : (Nat → Int32)) (v1 : Int32) (v2 : Int32) (v3 : Int32) (post : Int32 → (Nat → Int32) → (Nat → Int32) → Int32 → Int64 → Int64 → Int64 → Int64 → (Nat → Int32) → Prop) (hw : w7_child f_tops f_bottoms f_E_size f_E_leftTop f_E_leftBottom f_E_rightTop f_E_rightBottom f_E_terms v1 v2 v3 post) : Met l yX7_child wsX7_child rm7_child (kP D (kT cI cJ cN cR) sz [.ref (rf 0), .int v1, .int v2, .int v3] [((rf 0), o7 rf f_hasSnapshot f_termListSize f_textSize), ((rf 1), ai cI 8 f_tops), ((rf 2), ai cI 8 f_bottoms), ((rf 14), o1 (rf 17) f_E_size f_E_leftTop f_E_leftBottom f_E_rightTop f_E_rightBottom), ((rf 17), ai cI 64 f_E_terms)]) (kQi D [((rf 0), o7 rf f_hasSnapshot f_termListSize f_textSize), ((rf 1), ai cI 8 f_tops), ((rf 2), ai cI 8 f_bottoms), ((rf 14), o1 (rf 17) f_E_size f_E_leftTop f_E_leftBottom f_E_rightTop f_E_rightBottom), ((rf 17), ai cI 64 f_E_terms)] sz (fun (r : Int32) (u : (Nat → Int32) × (Nat → Int32) × Int32 × Int64 × Int64 × Int64 × Int64 × (Nat → Int32)) => post r u.1 u.2.1 u.2.2.1 u.2.2.2.1 u.2.2.2.2.1 u.2.2.2.2.2.1 u.2.2.2.2.2.2.1 u.2.2.2.2.2.2.2) (fun (u : (Nat → Int32) × (Nat → Int32) × Int32 × Int64 × Int64 × Int64 × Int64 × (Nat → Int32)) => [((rf 0), o7 rf f_hasSnapshot f_termListSize f_textSize), ((rf 1), ai cI 8 u.1), ((rf 2), ai cI 8 u.2.1), ((rf 14), o1 (rf 17) u.2.2.1 u.2.2.2.1 u.2.2.2.2.1 u.2.2.2.2.2.1 u.2.2.2.2.2.2.1), ((rf 17), ai cI 64 u.2.2.2.2.2.2.2)])) 0 0 (va_A [((rf 0), o7 rf f_hasSnapshot f_termListSize f_textSize), ((rf 1), ai cI 8 f_tops), ((rf 2), ai cI 8 f_bottoms), ((rf 14), o1 (rf 17) f_E_size f_E_leftTop f_E_leftBottom f_E_rightTop f_E_rightBottom), ((rf 17), ai cI 64 f_E_terms)] sz) := by
  refine kMetI (cc := cX7_child) (maxL := 5) (by decide +kernel) rfl (Nat.le_of_ble_eq_true rfl) ?_
  intro p e s m args below meth c H0 ls A Q C0 hK hN hP hD hS hA hl RET
  obtain ⟨hx, hb, hml, hown, hts⟩ := id C0
  have hl : lv_has ls 5 [(0, .ref (rf 0)), (1, .int v1), (2, .int v2), (3, .int v3)] := hl
  have g9 := hts (.fieldLink RX7 9 "SternBrocotExplorer" "tops" "[I") (by decide +kernel)
  have g13 := hts (.fieldLink RX7 13 "SternBrocotExplorer" "bottoms" "[I") (by decide +kernel)
  have hi9 : ∀ w ∈ wsX70, w ∈ wsX7_child := fun w h => List.mem_cons_of_mem _ (List.mem_append_left _ (List.mem_append_right _ h))
  unfold w7_child at hw
  have hP : va_P D vwCl [((rf 0), o7 rf f_hasSnapshot f_termListSize f_textSize), ((rf 1), ai cI 8 f_tops), ((rf 2), ai cI 8 f_bottoms), ((rf 14), o1 (rf 17) f_E_size f_E_leftTop f_E_leftBottom f_E_rightTop f_E_rightBottom), ((rf 17), ai cI 64 f_E_terms)] H0 := hP
  refine lv_iload_n hx hb dX7_child_0 rfl (lv_at hl 1 rfl) ?_
  refine kcRI (wc := []) hP [] rfl (fun hPc => oS (As := [.int v1]) (rest := []) C0 hK hN (c7_isRegister l D cI cJ cN cR   v1 _ hw) 1 gX7_child_X7_isRegister rfl ⟨rfl, rfl⟩ nm7_isRegister ⟨Nat.le_of_ble_eq_true rfl, Nat.le_of_ble_eq_true rfl⟩ rfl hl.1 rfl (Nat.le_of_ble_eq_true rfl) dX7_child_1 ⟨Nat.le_of_ble_eq_true rfl, Nat.le_of_ble_eq_true rfl⟩ hPc) (fun r1 hw => ?_)
  obtain ⟨nb1, hw⟩ := hw
  refine lv_if_eq (tgt := 23) hx hb dX7_child_4 (by decide) (fun k => ?_) (fun k => ?_)
  · have hw := hw.1 k
    refine lv_iconst (v := (-1 : Int32)) hx hb dX7_child_23 (by decide) ?_
    exact RET _ _ _ (f_tops, f_bottoms, f_E_size, f_E_leftTop, f_E_leftBottom, f_E_rightTop, f_E_rightBottom, f_E_terms) _ _ hw hP hD hS dX7_child_24
  · have hw := hw.2 k
    refine lv_iload_n hx hb dX7_child_7 rfl (lv_at hl 2 rfl) ?_
    refine kcRI (wc := []) hP [] rfl (fun hPc => oS (As := [.int v2]) (rest := []) C0 hK hN (c7_isRegister l D cI cJ cN cR   v2 _ hw) 1 gX7_child_X7_isRegister rfl ⟨rfl, rfl⟩ nm7_isRegister ⟨Nat.le_of_ble_eq_true rfl, Nat.le_of_ble_eq_true rfl⟩ rfl hl.1 rfl (Nat.le_of_ble_eq_true rfl) dX7_child_8 ⟨Nat.le_of_ble_eq_true rfl, Nat.le_of_ble_eq_true rfl⟩ hPc) (fun r8 hw => ?_)
    obtain ⟨nb8, hw⟩ := hw
    refine lv_if_eq (tgt := 23) hx hb dX7_child_11 (by decide) (fun k => ?_) (fun k => ?_)
    · have hw := hw.1 k
      refine lv_iconst (v := (-1 : Int32)) hx hb dX7_child_23 (by decide) ?_
      exact RET _ _ _ (f_tops, f_bottoms, f_E_size, f_E_leftTop, f_E_leftBottom, f_E_rightTop, f_E_rightBottom, f_E_terms) _ _ hw hP hD hS dX7_child_24
    · have hw := hw.2 k
      refine lv_iload_n hx hb dX7_child_14 rfl (lv_at hl 3 rfl) ?_
      refine lv_iconst (v := (0 : Int32)) hx hb dX7_child_15 (by decide) ?_
      refine lv_iconst (v := (1 : Int32)) hx hb dX7_child_16 (by decide) ?_
      refine kcRI (wc := []) hP [] rfl (fun hPc => oS (As := [.int v3, .int (0 : Int32), .int (1 : Int32)]) (rest := []) C0 hK hN (c7_isIn l D cI cJ cN cR   v3 (0 : Int32) (1 : Int32) _ hw) 3 gX7_child_X7_isIn rfl ⟨rfl, rfl⟩ nm7_isIn ⟨Nat.le_of_ble_eq_true rfl, Nat.le_of_ble_eq_true rfl⟩ rfl hl.1 rfl (Nat.le_of_ble_eq_true rfl) dX7_child_17 ⟨Nat.le_of_ble_eq_true rfl, Nat.le_of_ble_eq_true rfl⟩ hPc) (fun r17 hw => ?_)
      obtain ⟨nb17, hw⟩ := hw
      refine lv_if_ne (tgt := 25) hx hb dX7_child_20 (by decide) (fun k => ?_) (fun k => ?_)
      · have hw := hw.1 k
        refine lv_aload_n hx hb dX7_child_25 rfl (lv_at hl 0 rfl) ?_
        refine lv_iload_n hx hb dX7_child_26 rfl (lv_at hl 2 rfl) ?_
        refine kcR (wc := [((rf 0), o7 rf f_hasSnapshot f_termListSize f_textSize), ((rf 1), ai cI 8 f_tops), ((rf 2), ai cI 8 f_bottoms), ((rf 14), o1 (rf 17) f_E_size f_E_leftTop f_E_leftBottom f_E_rightTop f_E_rightBottom), ((rf 17), ai cI 64 f_E_terms)]) (wr := []) hP hD hS hA [0, 1, 2, 3, 4] [] rfl rfl ⟨rfl, rfl, by decide⟩ (fun hPc hDc => rV (As := [.int v2]) (rest := []) C0 hK hN (c7_expand l D cI cJ cN cR rf H0.size f_hasSnapshot f_termListSize f_textSize f_tops f_bottoms f_E_size f_E_leftTop f_E_leftBottom f_E_rightTop f_E_rightBottom f_E_terms v2 _ hw) 1 gX7_child_X7_expand rfl ⟨rfl, rfl⟩ nm7_expand ⟨Nat.le_of_ble_eq_true rfl, Nat.le_of_ble_eq_true rfl⟩ (q0 := 0) rfl rfl rfl rfl hl.1 rfl (Nat.le_of_ble_eq_true rfl) dX7_child_27 ⟨Nat.le_of_ble_eq_true rfl, Nat.le_of_ble_eq_true rfl⟩ hPc hDc) (fun u27 H locs hw hP hD hS => ?_)
        obtain ⟨f_E_size_27, f_E_terms_27⟩ := u27
        dsimp only at hw
        have hP : va_P D vwCl [((rf 0), o7 rf f_hasSnapshot f_termListSize f_textSize), ((rf 1), ai cI 8 f_tops), ((rf 2), ai cI 8 f_bottoms), ((rf 14), o1 (rf 17) f_E_size_27 f_E_leftTop f_E_leftBottom f_E_rightTop f_E_rightBottom), ((rf 17), ai cI 64 f_E_terms_27)] H := hP
        have hD : va_D A [((rf 0), o7 rf f_hasSnapshot f_termListSize f_textSize), ((rf 1), ai cI 8 f_tops), ((rf 2), ai cI 8 f_bottoms), ((rf 14), o1 (rf 17) f_E_size_27 f_E_leftTop f_E_leftBottom f_E_rightTop f_E_rightBottom), ((rf 17), ai cI 64 f_E_terms_27)] := hD
        refine lv_astore (lv' := [(4, .ref (rf 14)), (0, .ref (rf 0)), (1, .int v1), (2, .int v2), (3, .int v3)]) hx hb dX7_child_30 hl (by decide) rfl (fun ls hl => ?_)
        refine lv_aload hx hb dX7_child_32 (lv_at hl 0 rfl) ?_
        refine kcV (wc := [((rf 14), o1 (rf 17) f_E_size_27 f_E_leftTop f_E_leftBottom f_E_rightTop f_E_rightBottom), ((rf 17), ai cI 64 f_E_terms_27)]) (wr := [((rf 0), o7 rf f_hasSnapshot f_termListSize f_textSize), ((rf 1), ai cI 8 f_tops), ((rf 2), ai cI 8 f_bottoms)]) hP hD hS hA [3, 4] [0, 1, 2] rfl rfl ⟨rfl, rfl, by decide⟩ (fun hPc hDc => rV (As := []) (rest := []) C0 hK hN (c1_findBounds l D cI cJ cN cR (rf 14) (rf 17) H.size f_E_size_27 f_E_leftTop f_E_leftBottom f_E_rightTop f_E_rightBottom f_E_terms_27  _ hw) 0 gX7_child_X1_findBounds rfl ⟨rfl, rfl⟩ nm1_findBounds ⟨Nat.le_of_ble_eq_true rfl, Nat.le_of_ble_eq_true rfl⟩ (q0 := 0) rfl rfl rfl rfl hl.1 rfl (Nat.le_of_ble_eq_true rfl) dX7_child_34 ⟨Nat.le_of_ble_eq_true rfl, Nat.le_of_ble_eq_true rfl⟩ hPc hDc) (fun u34 H locs hw hP hD hS => ?_)
        obtain ⟨f_E_leftTop_34, f_E_leftBottom_34, f_E_rightTop_34, f_E_rightBottom_34⟩ := u34
        dsimp only at hw
        have hP : va_P D vwCl [((rf 0), o7 rf f_hasSnapshot f_termListSize f_textSize), ((rf 1), ai cI 8 f_tops), ((rf 2), ai cI 8 f_bottoms), ((rf 14), o1 (rf 17) f_E_size_27 f_E_leftTop_34 f_E_leftBottom_34 f_E_rightTop_34 f_E_rightBottom_34), ((rf 17), ai cI 64 f_E_terms_27)] H := hP
        have hD : va_D A [((rf 0), o7 rf f_hasSnapshot f_termListSize f_textSize), ((rf 1), ai cI 8 f_tops), ((rf 2), ai cI 8 f_bottoms), ((rf 14), o1 (rf 17) f_E_size_27 f_E_leftTop_34 f_E_leftBottom_34 f_E_rightTop_34 f_E_rightBottom_34), ((rf 17), ai cI 64 f_E_terms_27)] := hD
        refine lv_aload_n hx hb dX7_child_37 rfl (lv_at hl 1 rfl) ?_
        refine lv_iload_n hx hb dX7_child_38 rfl (lv_at hl 2 rfl) ?_
        refine lv_aload hx hb dX7_child_39 (lv_at hl 0 rfl) ?_
        refine lv_iload_n hx hb dX7_child_41 rfl (lv_at hl 4 rfl) ?_
        refine kcRL (wc := [((rf 14), o1 (rf 17) f_E_size_27 f_E_leftTop_34 f_E_leftBottom_34 f_E_rightTop_34 f_E_rightBottom_34)]) hP [3] rfl (fun hPc => oV (As := [.int v3]) (rest := [.int v1, .ref (rf 0)]) C0 hK hN (c1_boundTop l D cI cJ cN cR (rf 14) (rf 17) f_E_size_27 f_E_leftTop_34 f_E_leftBottom_34 f_E_rightTop_34 f_E_rightBottom_34 v3 _ hw) 1 gX7_child_X1_boundTop rfl ⟨rfl, rfl⟩ nm1_boundTop ⟨Nat.le_of_ble_eq_true rfl, Nat.le_of_ble_eq_true rfl⟩ (q0 := 0) rfl rfl rfl rfl hl.1 rfl (Nat.le_of_ble_eq_true rfl) dX7_child_42 ⟨Nat.le_of_ble_eq_true rfl, Nat.le_of_ble_eq_true rfl⟩ hPc) (fun r42 hw => ?_)
        refine lv_aload_n hx hb dX7_child_45 rfl (lv_at hl 1 rfl) ?_
        refine va_get (D := D) (ci := 7) (v := .ref (rf 1)) (C := RX7) (T := TX7) (N := 16) hx hb hts hi9 hown hK hP 0 rfl rfl 0 (by decide) g9 (fun _ h9 => h9) rfl dX7_child_46 ?_
        refine lv_iload_n hx hb dX7_child_49 rfl (lv_at hl 3 rfl) ?_
        obtain ⟨hin, hw⟩ := hw
        refine va_iald hx hb hK hP 1 0 rfl rfl hin dX7_child_50 ?_
        refine lv_i2l hx hb dX7_child_51 rfl ?_
        refine lv_ladd hx hb dX7_child_52 ?_
        refine lv_aload hx hb dX7_child_53 (lv_at hl 0 rfl) ?_
        refine lv_iload_n hx hb dX7_child_55 rfl (lv_at hl 4 rfl) ?_
        refine kcRL (wc := [((rf 14), o1 (rf 17) f_E_size_27 f_E_leftTop_34 f_E_leftBottom_34 f_E_rightTop_34 f_E_rightBottom_34)]) hP [3] rfl (fun hPc => oV (As := [.int v3]) (rest := [.long (r42 + (f_tops v2.toNatClampNeg).toInt64), .int v1, .ref (rf 0)]) C0 hK hN (c1_boundBottom l D cI cJ cN cR (rf 14) (rf 17) f_E_size_27 f_E_leftTop_34 f_E_leftBottom_34 f_E_rightTop_34 f_E_rightBottom_34 v3 _ hw) 1 gX7_child_X1_boundBottom rfl ⟨rfl, rfl⟩ nm1_boundBottom ⟨Nat.le_of_ble_eq_true rfl, Nat.le_of_ble_eq_true rfl⟩ (q0 := 0) rfl rfl rfl rfl hl.1 rfl (Nat.le_of_ble_eq_true rfl) dX7_child_56 ⟨Nat.le_of_ble_eq_true rfl, Nat.le_of_ble_eq_true rfl⟩ hPc) (fun r56 hw => ?_)
        refine lv_aload_n hx hb dX7_child_59 rfl (lv_at hl 1 rfl) ?_
        refine va_get (D := D) (ci := 7) (v := .ref (rf 2)) (C := RX7) (T := TX7) (N := 16) hx hb hts hi9 hown hK hP 0 rfl rfl 1 (by decide) g13 (fun _ h9 => h9) rfl dX7_child_60 ?_
        refine lv_iload_n hx hb dX7_child_63 rfl (lv_at hl 3 rfl) ?_
        obtain ⟨hin, hw⟩ := hw
        refine va_iald hx hb hK hP 2 0 rfl rfl hin dX7_child_64 ?_
        refine lv_i2l hx hb dX7_child_65 rfl ?_
        refine lv_ladd hx hb dX7_child_66 ?_
        refine kcI (wc := [((rf 0), o7 rf f_hasSnapshot f_termListSize f_textSize), ((rf 1), ai cI 8 f_tops), ((rf 2), ai cI 8 f_bottoms)]) (wr := [((rf 14), o1 (rf 17) f_E_size_27 f_E_leftTop_34 f_E_leftBottom_34 f_E_rightTop_34 f_E_rightBottom_34), ((rf 17), ai cI 64 f_E_terms_27)]) hP hD hS hA [0, 1, 2] [3, 4] rfl rfl ⟨rfl, rfl, by decide⟩ (fun hPc hDc => rV (As := [.int v1, .long (r42 + (f_tops v2.toNatClampNeg).toInt64), .long (r56 + (f_bottoms v2.toNatClampNeg).toInt64)]) (rest := []) C0 hK hN (c7_store l D cI cJ cN cR rf H.size f_hasSnapshot f_termListSize f_textSize f_tops f_bottoms v1 (r42 + (f_tops v2.toNatClampNeg).toInt64) (r56 + (f_bottoms v2.toNatClampNeg).toInt64) _ hw) 3 gX7_child_X7_store rfl ⟨rfl, rfl⟩ nm7_store ⟨Nat.le_of_ble_eq_true rfl, Nat.le_of_ble_eq_true rfl⟩ (q0 := 0) rfl rfl rfl rfl hl.1 rfl (Nat.le_of_ble_eq_true rfl) dX7_child_67 ⟨Nat.le_of_ble_eq_true rfl, Nat.le_of_ble_eq_true rfl⟩ hPc hDc) (fun r67 u67 H locs hw hP hD hS => ?_)
        obtain ⟨f_tops_67, f_bottoms_67⟩ := u67
        dsimp only at hw
        have hP : va_P D vwCl [((rf 14), o1 (rf 17) f_E_size_27 f_E_leftTop_34 f_E_leftBottom_34 f_E_rightTop_34 f_E_rightBottom_34), ((rf 17), ai cI 64 f_E_terms_27), ((rf 0), o7 rf f_hasSnapshot f_termListSize f_textSize), ((rf 1), ai cI 8 f_tops_67), ((rf 2), ai cI 8 f_bottoms_67)] H := hP
        have hD : va_D A [((rf 14), o1 (rf 17) f_E_size_27 f_E_leftTop_34 f_E_leftBottom_34 f_E_rightTop_34 f_E_rightBottom_34), ((rf 17), ai cI 64 f_E_terms_27), ((rf 0), o7 rf f_hasSnapshot f_termListSize f_textSize), ((rf 1), ai cI 8 f_tops_67), ((rf 2), ai cI 8 f_bottoms_67)] := hD
        obtain ⟨hP, hD⟩ := k_sub (ws' := [((rf 0), o7 rf f_hasSnapshot f_termListSize f_textSize), ((rf 1), ai cI 8 f_tops_67), ((rf 2), ai cI 8 f_bottoms_67), ((rf 14), o1 (rf 17) f_E_size_27 f_E_leftTop_34 f_E_leftBottom_34 f_E_rightTop_34 f_E_rightBottom_34), ((rf 17), ai cI 64 f_E_terms_27)]) hP hD [2, 3, 4, 0, 1] rfl rfl
        exact RET _ _ _ (f_tops_67, f_bottoms_67, f_E_size_27, f_E_leftTop_34, f_E_leftBottom_34, f_E_rightTop_34, f_E_rightBottom_34, f_E_terms_27) _ _ hw hP hD hS dX7_child_70
      · have hw := hw.2 k
        refine lv_iconst (v := (-1 : Int32)) hx hb dX7_child_23 (by decide) ?_
        exact RET _ _ _ (f_tops, f_bottoms, f_E_size, f_E_leftTop, f_E_leftBottom, f_E_rightTop, f_E_rightBottom, f_E_terms) _ _ hw hP hD hS dX7_child_24
abbrev rm7_commonAncestor : Room := { frames := 3, cells := 0, slots := 0, locals := 84 }
theorem nm7_commonAncestor : kNm yX7_commonAncestor 3 := by decide +kernel
set_option maxHeartbeats 4000000 in
set_option maxRecDepth 100000 in
theorem c7_commonAncestor (l : Launch) (D : va_G) (cI cJ cN cR : ClassId) (rf : Nat → Nat) (sz : Nat) (f_hasSnapshot : Int32) (f_termListSize : Int32) (f_textSize : Int32) (f_tops : (Nat → Int32)) (f_bottoms : (Nat → Int32)) (f_E_size : Int32) (f_E_leftTop : Int64) (f_E_leftBottom : Int64) (f_E_rightTop : Int64) (f_E_rightBottom : Int64) (f_O_size : Int32) (f_O_leftTop : Int64) (f_O_leftBottom : Int64) (f_O_rightTop : Int64) (f_O_rightBottom : Int64) (f_E_terms : (Nat → Int32)) (f_O_terms : (Nat → Int32)) (v1 : Int32) (v2 : Int32) (v3 : Int32) (post : Int32 → (Nat → Int32) → (Nat → Int32) → Int32 → Int32 → (Nat → Int32) → (Nat → Int32) → Prop) (hw : w7_commonAncestor f_tops f_bottoms f_E_size f_O_size f_E_terms f_O_terms v1 v2 v3 post) : Met l yX7_commonAncestor wsX7_commonAncestor rm7_commonAncestor (kP D (kT cI cJ cN cR) sz [.ref (rf 0), .int v1, .int v2, .int v3] [((rf 0), o7 rf f_hasSnapshot f_termListSize f_textSize), ((rf 1), ai cI 8 f_tops), ((rf 2), ai cI 8 f_bottoms), ((rf 14), o1 (rf 17) f_E_size f_E_leftTop f_E_leftBottom f_E_rightTop f_E_rightBottom), ((rf 15), o1 (rf 18) f_O_size f_O_leftTop f_O_leftBottom f_O_rightTop f_O_rightBottom), ((rf 17), ai cI 64 f_E_terms), ((rf 18), ai cI 64 f_O_terms)]) (kQi D [((rf 0), o7 rf f_hasSnapshot f_termListSize f_textSize), ((rf 1), ai cI 8 f_tops), ((rf 2), ai cI 8 f_bottoms), ((rf 14), o1 (rf 17) f_E_size f_E_leftTop f_E_leftBottom f_E_rightTop f_E_rightBottom), ((rf 15), o1 (rf 18) f_O_size f_O_leftTop f_O_leftBottom f_O_rightTop f_O_rightBottom), ((rf 17), ai cI 64 f_E_terms), ((rf 18), ai cI 64 f_O_terms)] sz (fun (r : Int32) (u : (Nat → Int32) × (Nat → Int32) × Int32 × Int32 × (Nat → Int32) × (Nat → Int32)) => post r u.1 u.2.1 u.2.2.1 u.2.2.2.1 u.2.2.2.2.1 u.2.2.2.2.2) (fun (u : (Nat → Int32) × (Nat → Int32) × Int32 × Int32 × (Nat → Int32) × (Nat → Int32)) => [((rf 0), o7 rf f_hasSnapshot f_termListSize f_textSize), ((rf 1), ai cI 8 u.1), ((rf 2), ai cI 8 u.2.1), ((rf 14), o1 (rf 17) u.2.2.1 f_E_leftTop f_E_leftBottom f_E_rightTop f_E_rightBottom), ((rf 15), o1 (rf 18) u.2.2.2.1 f_O_leftTop f_O_leftBottom f_O_rightTop f_O_rightBottom), ((rf 17), ai cI 64 u.2.2.2.2.1), ((rf 18), ai cI 64 u.2.2.2.2.2)])) 0 0 (va_A [((rf 0), o7 rf f_hasSnapshot f_termListSize f_textSize), ((rf 1), ai cI 8 f_tops), ((rf 2), ai cI 8 f_bottoms), ((rf 14), o1 (rf 17) f_E_size f_E_leftTop f_E_leftBottom f_E_rightTop f_E_rightBottom), ((rf 15), o1 (rf 18) f_O_size f_O_leftTop f_O_leftBottom f_O_rightTop f_O_rightBottom), ((rf 17), ai cI 64 f_E_terms), ((rf 18), ai cI 64 f_O_terms)] sz) := by
  refine kMetI (cc := cX7_commonAncestor) (maxL := 6) (by decide +kernel) rfl (Nat.le_of_ble_eq_true rfl) ?_
  intro p e s m args below meth c H0 ls A Q C0 hK hN hP hD hS hA hl RET
  obtain ⟨hx, hb, hml, hown, hts⟩ := id C0
  have hl : lv_has ls 6 [(0, .ref (rf 0)), (1, .int v1), (2, .int v2), (3, .int v3)] := hl
  have g52 := hts (.fieldLink RX7 52 "SternBrocotExplorer" "otherExpansion" "LSternBrocotExplorer$Expansion;") (by decide +kernel)
  have g9 := hts (.fieldLink RX7 9 "SternBrocotExplorer" "tops" "[I") (by decide +kernel)
  have g13 := hts (.fieldLink RX7 13 "SternBrocotExplorer" "bottoms" "[I") (by decide +kernel)
  have hi9 : ∀ w ∈ wsX70, w ∈ wsX7_commonAncestor := fun w h => List.mem_cons_of_mem _ (List.mem_append_left _ (List.mem_append_right _ h))
  unfold w7_commonAncestor at hw
  have hP : va_P D vwCl [((rf 0), o7 rf f_hasSnapshot f_termListSize f_textSize), ((rf 1), ai cI 8 f_tops), ((rf 2), ai cI 8 f_bottoms), ((rf 14), o1 (rf 17) f_E_size f_E_leftTop f_E_leftBottom f_E_rightTop f_E_rightBottom), ((rf 15), o1 (rf 18) f_O_size f_O_leftTop f_O_leftBottom f_O_rightTop f_O_rightBottom), ((rf 17), ai cI 64 f_E_terms), ((rf 18), ai cI 64 f_O_terms)] H0 := hP
  refine lv_iload_n hx hb dX7_commonAncestor_0 rfl (lv_at hl 1 rfl) ?_
  refine kcRI (wc := []) hP [] rfl (fun hPc => oS (As := [.int v1]) (rest := []) C0 hK hN (c7_isRegister l D cI cJ cN cR   v1 _ hw) 1 gX7_commonAncestor_X7_isRegister rfl ⟨rfl, rfl⟩ nm7_isRegister ⟨Nat.le_of_ble_eq_true rfl, Nat.le_of_ble_eq_true rfl⟩ rfl hl.1 rfl (Nat.le_of_ble_eq_true rfl) dX7_commonAncestor_1 ⟨Nat.le_of_ble_eq_true rfl, Nat.le_of_ble_eq_true rfl⟩ hPc) (fun r1 hw => ?_)
  obtain ⟨nb1, hw⟩ := hw
  refine lv_if_eq (tgt := 21) hx hb dX7_commonAncestor_4 (by decide) (fun k => ?_) (fun k => ?_)
  · have hw := hw.1 k
    refine lv_iconst (v := (-1 : Int32)) hx hb dX7_commonAncestor_21 (by decide) ?_
    exact RET _ _ _ (f_tops, f_bottoms, f_E_size, f_O_size, f_E_terms, f_O_terms) _ _ hw hP hD hS dX7_commonAncestor_22
  · have hw := hw.2 k
    refine lv_iload_n hx hb dX7_commonAncestor_7 rfl (lv_at hl 2 rfl) ?_
    refine kcRI (wc := []) hP [] rfl (fun hPc => oS (As := [.int v2]) (rest := []) C0 hK hN (c7_isRegister l D cI cJ cN cR   v2 _ hw) 1 gX7_commonAncestor_X7_isRegister rfl ⟨rfl, rfl⟩ nm7_isRegister ⟨Nat.le_of_ble_eq_true rfl, Nat.le_of_ble_eq_true rfl⟩ rfl hl.1 rfl (Nat.le_of_ble_eq_true rfl) dX7_commonAncestor_8 ⟨Nat.le_of_ble_eq_true rfl, Nat.le_of_ble_eq_true rfl⟩ hPc) (fun r8 hw => ?_)
    obtain ⟨nb8, hw⟩ := hw
    refine lv_if_eq (tgt := 21) hx hb dX7_commonAncestor_11 (by decide) (fun k => ?_) (fun k => ?_)
    · have hw := hw.1 k
      refine lv_iconst (v := (-1 : Int32)) hx hb dX7_commonAncestor_21 (by decide) ?_
      exact RET _ _ _ (f_tops, f_bottoms, f_E_size, f_O_size, f_E_terms, f_O_terms) _ _ hw hP hD hS dX7_commonAncestor_22
    · have hw := hw.2 k
      refine lv_iload_n hx hb dX7_commonAncestor_14 rfl (lv_at hl 3 rfl) ?_
      refine kcRI (wc := []) hP [] rfl (fun hPc => oS (As := [.int v3]) (rest := []) C0 hK hN (c7_isRegister l D cI cJ cN cR   v3 _ hw) 1 gX7_commonAncestor_X7_isRegister rfl ⟨rfl, rfl⟩ nm7_isRegister ⟨Nat.le_of_ble_eq_true rfl, Nat.le_of_ble_eq_true rfl⟩ rfl hl.1 rfl (Nat.le_of_ble_eq_true rfl) dX7_commonAncestor_15 ⟨Nat.le_of_ble_eq_true rfl, Nat.le_of_ble_eq_true rfl⟩ hPc) (fun r15 hw => ?_)
      obtain ⟨nb15, hw⟩ := hw
      refine lv_if_ne (tgt := 23) hx hb dX7_commonAncestor_18 (by decide) (fun k => ?_) (fun k => ?_)
      · have hw := hw.1 k
        refine lv_aload_n hx hb dX7_commonAncestor_23 rfl (lv_at hl 0 rfl) ?_
        refine lv_iload_n hx hb dX7_commonAncestor_24 rfl (lv_at hl 2 rfl) ?_
        refine kcR (wc := [((rf 0), o7 rf f_hasSnapshot f_termListSize f_textSize), ((rf 1), ai cI 8 f_tops), ((rf 2), ai cI 8 f_bottoms), ((rf 14), o1 (rf 17) f_E_size f_E_leftTop f_E_leftBottom f_E_rightTop f_E_rightBottom), ((rf 17), ai cI 64 f_E_terms)]) (wr := [((rf 15), o1 (rf 18) f_O_size f_O_leftTop f_O_leftBottom f_O_rightTop f_O_rightBottom), ((rf 18), ai cI 64 f_O_terms)]) hP hD hS hA [0, 1, 2, 3, 5] [4, 6] rfl rfl ⟨rfl, rfl, by decide⟩ (fun hPc hDc => rV (As := [.int v2]) (rest := []) C0 hK hN (c7_expand l D cI cJ cN cR rf H0.size f_hasSnapshot f_termListSize f_textSize f_tops f_bottoms f_E_size f_E_leftTop f_E_leftBottom f_E_rightTop f_E_rightBottom f_E_terms v2 _ hw) 1 gX7_commonAncestor_X7_expand rfl ⟨rfl, rfl⟩ nm7_expand ⟨Nat.le_of_ble_eq_true rfl, Nat.le_of_ble_eq_true rfl⟩ (q0 := 0) rfl rfl rfl rfl hl.1 rfl (Nat.le_of_ble_eq_true rfl) dX7_commonAncestor_25 ⟨Nat.le_of_ble_eq_true rfl, Nat.le_of_ble_eq_true rfl⟩ hPc hDc) (fun u25 H locs hw hP hD hS => ?_)
        obtain ⟨f_E_size_25, f_E_terms_25⟩ := u25
        dsimp only at hw
        have hP : va_P D vwCl [((rf 15), o1 (rf 18) f_O_size f_O_leftTop f_O_leftBottom f_O_rightTop f_O_rightBottom), ((rf 18), ai cI 64 f_O_terms), ((rf 0), o7 rf f_hasSnapshot f_termListSize f_textSize), ((rf 1), ai cI 8 f_tops), ((rf 2), ai cI 8 f_bottoms), ((rf 14), o1 (rf 17) f_E_size_25 f_E_leftTop f_E_leftBottom f_E_rightTop f_E_rightBottom), ((rf 17), ai cI 64 f_E_terms_25)] H := hP
        have hD : va_D A [((rf 15), o1 (rf 18) f_O_size f_O_leftTop f_O_leftBottom f_O_rightTop f_O_rightBottom), ((rf 18), ai cI 64 f_O_terms), ((rf 0), o7 rf f_hasSnapshot f_termListSize f_textSize), ((rf 1), ai cI 8 f_tops), ((rf 2), ai cI 8 f_bottoms), ((rf 14), o1 (rf 17) f_E_size_25 f_E_leftTop f_E_leftBottom f_E_rightTop f_E_rightBottom), ((rf 17), ai cI 64 f_E_terms_25)] := hD
        refine lv_astore (lv' := [(4, .ref (rf 14)), (0, .ref (rf 0)), (1, .int v1), (2, .int v2), (3, .int v3)]) hx hb dX7_commonAncestor_28 hl (by decide) rfl (fun ls hl => ?_)
        refine lv_aload_n hx hb dX7_commonAncestor_30 rfl (lv_at hl 1 rfl) ?_
        refine va_get (D := D) (ci := 7) (v := .ref (rf 15)) (C := RX7) (T := TX7) (N := 16) hx hb hts hi9 hown hK hP 2 rfl rfl 14 (by decide) g52 (fun _ h9 => h9) rfl dX7_commonAncestor_31 ?_
        refine lv_aload_n hx hb dX7_commonAncestor_34 rfl (lv_at hl 1 rfl) ?_
        refine va_get (D := D) (ci := 7) (v := .ref (rf 1)) (C := RX7) (T := TX7) (N := 16) hx hb hts hi9 hown hK hP 2 rfl rfl 0 (by decide) g9 (fun _ h9 => h9) rfl dX7_commonAncestor_35 ?_
        refine lv_iload_n hx hb dX7_commonAncestor_38 rfl (lv_at hl 4 rfl) ?_
        obtain ⟨hin, hw⟩ := hw
        refine va_iald hx hb hK hP 3 0 rfl rfl hin dX7_commonAncestor_39 ?_
        refine lv_aload_n hx hb dX7_commonAncestor_40 rfl (lv_at hl 1 rfl) ?_
        refine va_get (D := D) (ci := 7) (v := .ref (rf 2)) (C := RX7) (T := TX7) (N := 16) hx hb hts hi9 hown hK hP 2 rfl rfl 1 (by decide) g13 (fun _ h9 => h9) rfl dX7_commonAncestor_41 ?_
        refine lv_iload_n hx hb dX7_commonAncestor_44 rfl (lv_at hl 4 rfl) ?_
        obtain ⟨hin, hw⟩ := hw
        refine va_iald hx hb hK hP 4 0 rfl rfl hin dX7_commonAncestor_45 ?_
        refine kcV (wc := [((rf 15), o1 (rf 18) f_O_size f_O_leftTop f_O_leftBottom f_O_rightTop f_O_rightBottom), ((rf 18), ai cI 64 f_O_terms)]) (wr := [((rf 0), o7 rf f_hasSnapshot f_termListSize f_textSize), ((rf 1), ai cI 8 f_tops), ((rf 2), ai cI 8 f_bottoms), ((rf 14), o1 (rf 17) f_E_size_25 f_E_leftTop f_E_leftBottom f_E_rightTop f_E_rightBottom), ((rf 17), ai cI 64 f_E_terms_25)]) hP hD hS hA [0, 1] [2, 3, 4, 5, 6] rfl rfl ⟨rfl, rfl, by decide⟩ (fun hPc hDc => rV (As := [.int (f_tops v3.toNatClampNeg), .int (f_bottoms v3.toNatClampNeg)]) (rest := []) C0 hK hN (c1_expand l D cI cJ cN cR (rf 15) (rf 18) H.size f_O_size f_O_leftTop f_O_leftBottom f_O_rightTop f_O_rightBottom f_O_terms (f_tops v3.toNatClampNeg) (f_bottoms v3.toNatClampNeg) _ hw) 2 gX7_commonAncestor_X1_expand rfl ⟨rfl, rfl⟩ nm1_expand ⟨Nat.le_of_ble_eq_true rfl, Nat.le_of_ble_eq_true rfl⟩ (q0 := 0) rfl rfl rfl rfl hl.1 rfl (Nat.le_of_ble_eq_true rfl) dX7_commonAncestor_46 ⟨Nat.le_of_ble_eq_true rfl, Nat.le_of_ble_eq_true rfl⟩ hPc hDc) (fun u46 H locs hw hP hD hS => ?_)
        obtain ⟨f_O_size_46, f_O_terms_46⟩ := u46
        dsimp only at hw
        have hP : va_P D vwCl [((rf 0), o7 rf f_hasSnapshot f_termListSize f_textSize), ((rf 1), ai cI 8 f_tops), ((rf 2), ai cI 8 f_bottoms), ((rf 14), o1 (rf 17) f_E_size_25 f_E_leftTop f_E_leftBottom f_E_rightTop f_E_rightBottom), ((rf 17), ai cI 64 f_E_terms_25), ((rf 15), o1 (rf 18) f_O_size_46 f_O_leftTop f_O_leftBottom f_O_rightTop f_O_rightBottom), ((rf 18), ai cI 64 f_O_terms_46)] H := hP
        have hD : va_D A [((rf 0), o7 rf f_hasSnapshot f_termListSize f_textSize), ((rf 1), ai cI 8 f_tops), ((rf 2), ai cI 8 f_bottoms), ((rf 14), o1 (rf 17) f_E_size_25 f_E_leftTop f_E_leftBottom f_E_rightTop f_E_rightBottom), ((rf 17), ai cI 64 f_E_terms_25), ((rf 15), o1 (rf 18) f_O_size_46 f_O_leftTop f_O_leftBottom f_O_rightTop f_O_rightBottom), ((rf 18), ai cI 64 f_O_terms_46)] := hD
        refine lv_aload hx hb dX7_commonAncestor_49 (lv_at hl 0 rfl) ?_
        refine lv_aload_n hx hb dX7_commonAncestor_51 rfl (lv_at hl 1 rfl) ?_
        refine va_get (D := D) (ci := 7) (v := .ref (rf 15)) (C := RX7) (T := TX7) (N := 16) hx hb hts hi9 hown hK hP 0 rfl rfl 14 (by decide) g52 (fun _ h9 => h9) rfl dX7_commonAncestor_52 ?_
        refine kcRI (wc := [((rf 14), o1 (rf 17) f_E_size_25 f_E_leftTop f_E_leftBottom f_E_rightTop f_E_rightBottom), ((rf 17), ai cI 64 f_E_terms_25), ((rf 15), o1 (rf 18) f_O_size_46 f_O_leftTop f_O_leftBottom f_O_rightTop f_O_rightBottom), ((rf 18), ai cI 64 f_O_terms_46)]) hP [3, 4, 5, 6] rfl (fun hPc => oV (As := [.ref (rf 15)]) (rest := []) C0 hK hN (c1_commonSteps l D cI cJ cN cR (rf 14) (rf 17) (rf 15) (rf 18) f_E_size_25 f_E_leftTop f_E_leftBottom f_E_rightTop f_E_rightBottom f_E_terms_25 f_O_size_46 f_O_leftTop f_O_leftBottom f_O_rightTop f_O_rightBottom f_O_terms_46  _ hw) 1 gX7_commonAncestor_X1_commonSteps rfl ⟨rfl, rfl⟩ nm1_commonSteps ⟨Nat.le_of_ble_eq_true rfl, Nat.le_of_ble_eq_true rfl⟩ (q0 := 0) rfl rfl rfl rfl hl.1 rfl (Nat.le_of_ble_eq_true rfl) dX7_commonAncestor_55 ⟨Nat.le_of_ble_eq_true rfl, Nat.le_of_ble_eq_true rfl⟩ hPc) (fun r55 hw => ?_)
        refine lv_istore (lv' := [(5, .int r55), (4, .ref (rf 14)), (0, .ref (rf 0)), (1, .int v1), (2, .int v2), (3, .int v3)]) hx hb dX7_commonAncestor_58 hl (by decide) rfl (fun ls hl => ?_)
        refine lv_aload hx hb dX7_commonAncestor_60 (lv_at hl 1 rfl) ?_
        refine lv_iload hx hb dX7_commonAncestor_62 (lv_at hl 0 rfl) ?_
        refine kcV (wc := [((rf 14), o1 (rf 17) f_E_size_25 f_E_leftTop f_E_leftBottom f_E_rightTop f_E_rightBottom), ((rf 17), ai cI 64 f_E_terms_25)]) (wr := [((rf 0), o7 rf f_hasSnapshot f_termListSize f_textSize), ((rf 1), ai cI 8 f_tops), ((rf 2), ai cI 8 f_bottoms), ((rf 15), o1 (rf 18) f_O_size_46 f_O_leftTop f_O_leftBottom f_O_rightTop f_O_rightBottom), ((rf 18), ai cI 64 f_O_terms_46)]) hP hD hS hA [3, 4] [0, 1, 2, 5, 6] rfl rfl ⟨rfl, rfl, by decide⟩ (fun hPc hDc => rV (As := [.int r55]) (rest := []) C0 hK hN (c1_cutToDepth l D cI cJ cN cR (rf 14) (rf 17) H.size f_E_size_25 f_E_leftTop f_E_leftBottom f_E_rightTop f_E_rightBottom f_E_terms_25 r55 _ hw) 1 gX7_commonAncestor_X1_cutToDepth rfl ⟨rfl, rfl⟩ nm1_cutToDepth ⟨Nat.le_of_ble_eq_true rfl, Nat.le_of_ble_eq_true rfl⟩ (q0 := 0) rfl rfl rfl rfl hl.1 rfl (Nat.le_of_ble_eq_true rfl) dX7_commonAncestor_64 ⟨Nat.le_of_ble_eq_true rfl, Nat.le_of_ble_eq_true rfl⟩ hPc hDc) (fun u64 H locs hw hP hD hS => ?_)
        obtain ⟨f_E_size_64, f_E_terms_64⟩ := u64
        dsimp only at hw
        have hP : va_P D vwCl [((rf 0), o7 rf f_hasSnapshot f_termListSize f_textSize), ((rf 1), ai cI 8 f_tops), ((rf 2), ai cI 8 f_bottoms), ((rf 15), o1 (rf 18) f_O_size_46 f_O_leftTop f_O_leftBottom f_O_rightTop f_O_rightBottom), ((rf 18), ai cI 64 f_O_terms_46), ((rf 14), o1 (rf 17) f_E_size_64 f_E_leftTop f_E_leftBottom f_E_rightTop f_E_rightBottom), ((rf 17), ai cI 64 f_E_terms_64)] H := hP
        have hD : va_D A [((rf 0), o7 rf f_hasSnapshot f_termListSize f_textSize), ((rf 1), ai cI 8 f_tops), ((rf 2), ai cI 8 f_bottoms), ((rf 15), o1 (rf 18) f_O_size_46 f_O_leftTop f_O_leftBottom f_O_rightTop f_O_rightBottom), ((rf 18), ai cI 64 f_O_terms_46), ((rf 14), o1 (rf 17) f_E_size_64 f_E_leftTop f_E_leftBottom f_E_rightTop f_E_rightBottom), ((rf 17), ai cI 64 f_E_terms_64)] := hD
        refine lv_aload_n hx hb dX7_commonAncestor_67 rfl (lv_at hl 2 rfl) ?_
        refine lv_iload_n hx hb dX7_commonAncestor_68 rfl (lv_at hl 3 rfl) ?_
        refine lv_aload hx hb dX7_commonAncestor_69 (lv_at hl 1 rfl) ?_
        refine lv_aload hx hb dX7_commonAncestor_71 (lv_at hl 1 rfl) ?_
        refine kcRI (wc := [((rf 14), o1 (rf 17) f_E_size_64 f_E_leftTop f_E_leftBottom f_E_rightTop f_E_rightBottom)]) hP [5] rfl (fun hPc => oV (As := []) (rest := [.ref (rf 14), .int v1, .ref (rf 0)]) C0 hK hN (c1_size l D cI cJ cN cR (rf 14) (rf 17) f_E_size_64 f_E_leftTop f_E_leftBottom f_E_rightTop f_E_rightBottom  _ hw) 0 gX7_commonAncestor_X1_size rfl ⟨rfl, rfl⟩ nm1_size ⟨Nat.le_of_ble_eq_true rfl, Nat.le_of_ble_eq_true rfl⟩ (q0 := 0) rfl rfl rfl rfl hl.1 rfl (Nat.le_of_ble_eq_true rfl) dX7_commonAncestor_73 ⟨Nat.le_of_ble_eq_true rfl, Nat.le_of_ble_eq_true rfl⟩ hPc) (fun r73 hw => ?_)
        refine lv_iconst (v := (1 : Int32)) hx hb dX7_commonAncestor_76 (by decide) ?_
        refine lv_isub hx hb dX7_commonAncestor_77 ?_
        refine kcI (wc := [((rf 0), o7 rf f_hasSnapshot f_termListSize f_textSize), ((rf 1), ai cI 8 f_tops), ((rf 2), ai cI 8 f_bottoms), ((rf 14), o1 (rf 17) f_E_size_64 f_E_leftTop f_E_leftBottom f_E_rightTop f_E_rightBottom), ((rf 17), ai cI 64 f_E_terms_64)]) (wr := [((rf 15), o1 (rf 18) f_O_size_46 f_O_leftTop f_O_leftBottom f_O_rightTop f_O_rightBottom), ((rf 18), ai cI 64 f_O_terms_46)]) hP hD hS hA [0, 1, 2, 5, 6] [3, 4] rfl rfl ⟨rfl, rfl, by decide⟩ (fun hPc hDc => rV (As := [.int v1, .ref (rf 14), .int (r73 - (1 : Int32))]) (rest := []) C0 hK hN (c7_storeConvergent l D cI cJ cN cR rf (rf 14) (rf 17) H.size f_hasSnapshot f_termListSize f_textSize f_tops f_bottoms f_E_size_64 f_E_leftTop f_E_leftBottom f_E_rightTop f_E_rightBottom f_E_terms_64 v1 (r73 - (1 : Int32)) _ hw) 3 gX7_commonAncestor_X7_storeConvergent rfl ⟨rfl, rfl⟩ nm7_storeConvergent ⟨Nat.le_of_ble_eq_true rfl, Nat.le_of_ble_eq_true rfl⟩ (q0 := 0) rfl rfl rfl rfl hl.1 rfl (Nat.le_of_ble_eq_true rfl) dX7_commonAncestor_78 ⟨Nat.le_of_ble_eq_true rfl, Nat.le_of_ble_eq_true rfl⟩ hPc hDc) (fun r78 u78 H locs hw hP hD hS => ?_)
        obtain ⟨f_tops_78, f_bottoms_78⟩ := u78
        dsimp only at hw
        have hP : va_P D vwCl [((rf 15), o1 (rf 18) f_O_size_46 f_O_leftTop f_O_leftBottom f_O_rightTop f_O_rightBottom), ((rf 18), ai cI 64 f_O_terms_46), ((rf 0), o7 rf f_hasSnapshot f_termListSize f_textSize), ((rf 1), ai cI 8 f_tops_78), ((rf 2), ai cI 8 f_bottoms_78), ((rf 14), o1 (rf 17) f_E_size_64 f_E_leftTop f_E_leftBottom f_E_rightTop f_E_rightBottom), ((rf 17), ai cI 64 f_E_terms_64)] H := hP
        have hD : va_D A [((rf 15), o1 (rf 18) f_O_size_46 f_O_leftTop f_O_leftBottom f_O_rightTop f_O_rightBottom), ((rf 18), ai cI 64 f_O_terms_46), ((rf 0), o7 rf f_hasSnapshot f_termListSize f_textSize), ((rf 1), ai cI 8 f_tops_78), ((rf 2), ai cI 8 f_bottoms_78), ((rf 14), o1 (rf 17) f_E_size_64 f_E_leftTop f_E_leftBottom f_E_rightTop f_E_rightBottom), ((rf 17), ai cI 64 f_E_terms_64)] := hD
        refine lv_pop hx hb dX7_commonAncestor_81 rfl ?_
        refine lv_iload hx hb dX7_commonAncestor_82 (lv_at hl 0 rfl) ?_
        obtain ⟨hP, hD⟩ := k_sub (ws' := [((rf 0), o7 rf f_hasSnapshot f_termListSize f_textSize), ((rf 1), ai cI 8 f_tops_78), ((rf 2), ai cI 8 f_bottoms_78), ((rf 14), o1 (rf 17) f_E_size_64 f_E_leftTop f_E_leftBottom f_E_rightTop f_E_rightBottom), ((rf 15), o1 (rf 18) f_O_size_46 f_O_leftTop f_O_leftBottom f_O_rightTop f_O_rightBottom), ((rf 17), ai cI 64 f_E_terms_64), ((rf 18), ai cI 64 f_O_terms_46)]) hP hD [2, 3, 4, 5, 0, 6, 1] rfl rfl
        exact RET _ _ _ (f_tops_78, f_bottoms_78, f_E_size_64, f_O_size_46, f_E_terms_64, f_O_terms_46) _ _ hw hP hD hS dX7_commonAncestor_84
      · have hw := hw.2 k
        refine lv_iconst (v := (-1 : Int32)) hx hb dX7_commonAncestor_21 (by decide) ?_
        exact RET _ _ _ (f_tops, f_bottoms, f_E_size, f_O_size, f_E_terms, f_O_terms) _ _ hw hP hD hS dX7_commonAncestor_22
abbrev rm7_termCount : Room := { frames := 3, cells := 0, slots := 0, locals := 68 }
theorem nm7_termCount : kNm yX7_termCount 1 := by decide +kernel
set_option maxHeartbeats 4000000 in
set_option maxRecDepth 100000 in
theorem c7_termCount (l : Launch) (D : va_G) (cI cJ cN cR : ClassId) (rf : Nat → Nat) (sz : Nat) (f_hasSnapshot : Int32) (f_termListSize : Int32) (f_textSize : Int32) (f_tops : (Nat → Int32)) (f_bottoms : (Nat → Int32)) (f_E_size : Int32) (f_E_leftTop : Int64) (f_E_leftBottom : Int64) (f_E_rightTop : Int64) (f_E_rightBottom : Int64) (f_E_terms : (Nat → Int32)) (v1 : Int32) (post : Int32 → Int32 → (Nat → Int32) → Prop) (hw : w7_termCount f_tops f_bottoms f_E_size f_E_terms v1 post) : Met l yX7_termCount wsX7_termCount rm7_termCount (kP D (kT cI cJ cN cR) sz [.ref (rf 0), .int v1] [((rf 0), o7 rf f_hasSnapshot f_termListSize f_textSize), ((rf 1), ai cI 8 f_tops), ((rf 2), ai cI 8 f_bottoms), ((rf 14), o1 (rf 17) f_E_size f_E_leftTop f_E_leftBottom f_E_rightTop f_E_rightBottom), ((rf 17), ai cI 64 f_E_terms)]) (kQi D [((rf 0), o7 rf f_hasSnapshot f_termListSize f_textSize), ((rf 1), ai cI 8 f_tops), ((rf 2), ai cI 8 f_bottoms), ((rf 14), o1 (rf 17) f_E_size f_E_leftTop f_E_leftBottom f_E_rightTop f_E_rightBottom), ((rf 17), ai cI 64 f_E_terms)] sz (fun (r : Int32) (u : Int32 × (Nat → Int32)) => post r u.1 u.2) (fun (u : Int32 × (Nat → Int32)) => [((rf 0), o7 rf f_hasSnapshot f_termListSize f_textSize), ((rf 1), ai cI 8 f_tops), ((rf 2), ai cI 8 f_bottoms), ((rf 14), o1 (rf 17) u.1 f_E_leftTop f_E_leftBottom f_E_rightTop f_E_rightBottom), ((rf 17), ai cI 64 u.2)])) 0 0 (va_A [((rf 0), o7 rf f_hasSnapshot f_termListSize f_textSize), ((rf 1), ai cI 8 f_tops), ((rf 2), ai cI 8 f_bottoms), ((rf 14), o1 (rf 17) f_E_size f_E_leftTop f_E_leftBottom f_E_rightTop f_E_rightBottom), ((rf 17), ai cI 64 f_E_terms)] sz) := by
  refine kMetI (cc := cX7_termCount) (maxL := 2) (by decide +kernel) rfl (Nat.le_of_ble_eq_true rfl) ?_
  intro p e s m args below meth c H0 ls A Q C0 hK hN hP hD hS hA hl RET
  obtain ⟨hx, hb, hml, hown, hts⟩ := id C0
  have hl : lv_has ls 2 [(0, .ref (rf 0)), (1, .int v1)] := hl
  unfold w7_termCount at hw
  have hP : va_P D vwCl [((rf 0), o7 rf f_hasSnapshot f_termListSize f_textSize), ((rf 1), ai cI 8 f_tops), ((rf 2), ai cI 8 f_bottoms), ((rf 14), o1 (rf 17) f_E_size f_E_leftTop f_E_leftBottom f_E_rightTop f_E_rightBottom), ((rf 17), ai cI 64 f_E_terms)] H0 := hP
  refine lv_iload_n hx hb dX7_termCount_0 rfl (lv_at hl 1 rfl) ?_
  refine kcRI (wc := []) hP [] rfl (fun hPc => oS (As := [.int v1]) (rest := []) C0 hK hN (c7_isRegister l D cI cJ cN cR   v1 _ hw) 1 gX7_termCount_X7_isRegister rfl ⟨rfl, rfl⟩ nm7_isRegister ⟨Nat.le_of_ble_eq_true rfl, Nat.le_of_ble_eq_true rfl⟩ rfl hl.1 rfl (Nat.le_of_ble_eq_true rfl) dX7_termCount_1 ⟨Nat.le_of_ble_eq_true rfl, Nat.le_of_ble_eq_true rfl⟩ hPc) (fun r1 hw => ?_)
  obtain ⟨nb1, hw⟩ := hw
  refine lv_if_eq (tgt := 18) hx hb dX7_termCount_4 (by decide) (fun k => ?_) (fun k => ?_)
  · have hw := hw.1 k
    refine lv_iconst (v := (-1 : Int32)) hx hb dX7_termCount_18 (by decide) ?_
    exact RET _ _ _ (f_E_size, f_E_terms) _ _ hw hP hD hS dX7_termCount_19
  · have hw := hw.2 k
    refine lv_aload_n hx hb dX7_termCount_7 rfl (lv_at hl 0 rfl) ?_
    refine lv_iload_n hx hb dX7_termCount_8 rfl (lv_at hl 1 rfl) ?_
    refine kcR (wc := [((rf 0), o7 rf f_hasSnapshot f_termListSize f_textSize), ((rf 1), ai cI 8 f_tops), ((rf 2), ai cI 8 f_bottoms), ((rf 14), o1 (rf 17) f_E_size f_E_leftTop f_E_leftBottom f_E_rightTop f_E_rightBottom), ((rf 17), ai cI 64 f_E_terms)]) (wr := []) hP hD hS hA [0, 1, 2, 3, 4] [] rfl rfl ⟨rfl, rfl, by decide⟩ (fun hPc hDc => rV (As := [.int v1]) (rest := []) C0 hK hN (c7_expand l D cI cJ cN cR rf H0.size f_hasSnapshot f_termListSize f_textSize f_tops f_bottoms f_E_size f_E_leftTop f_E_leftBottom f_E_rightTop f_E_rightBottom f_E_terms v1 _ hw) 1 gX7_termCount_X7_expand rfl ⟨rfl, rfl⟩ nm7_expand ⟨Nat.le_of_ble_eq_true rfl, Nat.le_of_ble_eq_true rfl⟩ (q0 := 0) rfl rfl rfl rfl hl.1 rfl (Nat.le_of_ble_eq_true rfl) dX7_termCount_9 ⟨Nat.le_of_ble_eq_true rfl, Nat.le_of_ble_eq_true rfl⟩ hPc hDc) (fun u9 H locs hw hP hD hS => ?_)
    obtain ⟨f_E_size_9, f_E_terms_9⟩ := u9
    dsimp only at hw
    have hP : va_P D vwCl [((rf 0), o7 rf f_hasSnapshot f_termListSize f_textSize), ((rf 1), ai cI 8 f_tops), ((rf 2), ai cI 8 f_bottoms), ((rf 14), o1 (rf 17) f_E_size_9 f_E_leftTop f_E_leftBottom f_E_rightTop f_E_rightBottom), ((rf 17), ai cI 64 f_E_terms_9)] H := hP
    have hD : va_D A [((rf 0), o7 rf f_hasSnapshot f_termListSize f_textSize), ((rf 1), ai cI 8 f_tops), ((rf 2), ai cI 8 f_bottoms), ((rf 14), o1 (rf 17) f_E_size_9 f_E_leftTop f_E_leftBottom f_E_rightTop f_E_rightBottom), ((rf 17), ai cI 64 f_E_terms_9)] := hD
    refine kcRI (wc := [((rf 14), o1 (rf 17) f_E_size_9 f_E_leftTop f_E_leftBottom f_E_rightTop f_E_rightBottom)]) hP [3] rfl (fun hPc => oV (As := []) (rest := []) C0 hK hN (c1_size l D cI cJ cN cR (rf 14) (rf 17) f_E_size_9 f_E_leftTop f_E_leftBottom f_E_rightTop f_E_rightBottom  _ hw) 0 gX7_termCount_X1_size rfl ⟨rfl, rfl⟩ nm1_size ⟨Nat.le_of_ble_eq_true rfl, Nat.le_of_ble_eq_true rfl⟩ (q0 := 0) rfl rfl rfl rfl hl.1 rfl (Nat.le_of_ble_eq_true rfl) dX7_termCount_12 ⟨Nat.le_of_ble_eq_true rfl, Nat.le_of_ble_eq_true rfl⟩ hPc) (fun r12 hw => ?_)
    refine lv_goto (tgt := 19) hx hb dX7_termCount_15 (by decide) ?_
    exact RET _ _ _ (f_E_size_9, f_E_terms_9) _ _ hw hP hD hS dX7_termCount_19
abbrev rm7_term : Room := { frames := 3, cells := 0, slots := 0, locals := 68 }
theorem nm7_term : kNm yX7_term 2 := by decide +kernel
set_option maxHeartbeats 4000000 in
set_option maxRecDepth 100000 in
theorem c7_term (l : Launch) (D : va_G) (cI cJ cN cR : ClassId) (rf : Nat → Nat) (sz : Nat) (f_hasSnapshot : Int32) (f_termListSize : Int32) (f_textSize : Int32) (f_tops : (Nat → Int32)) (f_bottoms : (Nat → Int32)) (f_E_size : Int32) (f_E_leftTop : Int64) (f_E_leftBottom : Int64) (f_E_rightTop : Int64) (f_E_rightBottom : Int64) (f_E_terms : (Nat → Int32)) (v1 : Int32) (v2 : Int32) (post : Int32 → Int32 → (Nat → Int32) → Prop) (hw : w7_term f_tops f_bottoms f_E_size f_E_terms v1 v2 post) : Met l yX7_term wsX7_term rm7_term (kP D (kT cI cJ cN cR) sz [.ref (rf 0), .int v1, .int v2] [((rf 0), o7 rf f_hasSnapshot f_termListSize f_textSize), ((rf 1), ai cI 8 f_tops), ((rf 2), ai cI 8 f_bottoms), ((rf 14), o1 (rf 17) f_E_size f_E_leftTop f_E_leftBottom f_E_rightTop f_E_rightBottom), ((rf 17), ai cI 64 f_E_terms)]) (kQi D [((rf 0), o7 rf f_hasSnapshot f_termListSize f_textSize), ((rf 1), ai cI 8 f_tops), ((rf 2), ai cI 8 f_bottoms), ((rf 14), o1 (rf 17) f_E_size f_E_leftTop f_E_leftBottom f_E_rightTop f_E_rightBottom), ((rf 17), ai cI 64 f_E_terms)] sz (fun (r : Int32) (u : Int32 × (Nat → Int32)) => post r u.1 u.2) (fun (u : Int32 × (Nat → Int32)) => [((rf 0), o7 rf f_hasSnapshot f_termListSize f_textSize), ((rf 1), ai cI 8 f_tops), ((rf 2), ai cI 8 f_bottoms), ((rf 14), o1 (rf 17) u.1 f_E_leftTop f_E_leftBottom f_E_rightTop f_E_rightBottom), ((rf 17), ai cI 64 u.2)])) 0 0 (va_A [((rf 0), o7 rf f_hasSnapshot f_termListSize f_textSize), ((rf 1), ai cI 8 f_tops), ((rf 2), ai cI 8 f_bottoms), ((rf 14), o1 (rf 17) f_E_size f_E_leftTop f_E_leftBottom f_E_rightTop f_E_rightBottom), ((rf 17), ai cI 64 f_E_terms)] sz) := by
  refine kMetI (cc := cX7_term) (maxL := 4) (by decide +kernel) rfl (Nat.le_of_ble_eq_true rfl) ?_
  intro p e s m args below meth c H0 ls A Q C0 hK hN hP hD hS hA hl RET
  obtain ⟨hx, hb, hml, hown, hts⟩ := id C0
  have hl : lv_has ls 4 [(0, .ref (rf 0)), (1, .int v1), (2, .int v2)] := hl
  unfold w7_term at hw
  have hP : va_P D vwCl [((rf 0), o7 rf f_hasSnapshot f_termListSize f_textSize), ((rf 1), ai cI 8 f_tops), ((rf 2), ai cI 8 f_bottoms), ((rf 14), o1 (rf 17) f_E_size f_E_leftTop f_E_leftBottom f_E_rightTop f_E_rightBottom), ((rf 17), ai cI 64 f_E_terms)] H0 := hP
  refine lv_iload_n hx hb dX7_term_0 rfl (lv_at hl 1 rfl) ?_
  refine kcRI (wc := []) hP [] rfl (fun hPc => oS (As := [.int v1]) (rest := []) C0 hK hN (c7_isRegister l D cI cJ cN cR   v1 _ hw) 1 gX7_term_X7_isRegister rfl ⟨rfl, rfl⟩ nm7_isRegister ⟨Nat.le_of_ble_eq_true rfl, Nat.le_of_ble_eq_true rfl⟩ rfl hl.1 rfl (Nat.le_of_ble_eq_true rfl) dX7_term_1 ⟨Nat.le_of_ble_eq_true rfl, Nat.le_of_ble_eq_true rfl⟩ hPc) (fun r1 hw => ?_)
  obtain ⟨nb1, hw⟩ := hw
  refine lv_if_eq (tgt := 11) hx hb dX7_term_4 (by decide) (fun k => ?_) (fun k => ?_)
  · have hw := hw.1 k
    refine lv_iconst (v := (-1 : Int32)) hx hb dX7_term_11 (by decide) ?_
    exact RET _ _ _ (f_E_size, f_E_terms) _ _ hw hP hD hS dX7_term_12
  · have hw := hw.2 k
    refine lv_iload_n hx hb dX7_term_7 rfl (lv_at hl 2 rfl) ?_
    refine lv_if_ge (tgt := 13) hx hb dX7_term_8 (by decide) (fun k => ?_) (fun k => ?_)
    · have hw := hw.1 k
      refine lv_aload_n hx hb dX7_term_13 rfl (lv_at hl 0 rfl) ?_
      refine lv_iload_n hx hb dX7_term_14 rfl (lv_at hl 1 rfl) ?_
      refine kcR (wc := [((rf 0), o7 rf f_hasSnapshot f_termListSize f_textSize), ((rf 1), ai cI 8 f_tops), ((rf 2), ai cI 8 f_bottoms), ((rf 14), o1 (rf 17) f_E_size f_E_leftTop f_E_leftBottom f_E_rightTop f_E_rightBottom), ((rf 17), ai cI 64 f_E_terms)]) (wr := []) hP hD hS hA [0, 1, 2, 3, 4] [] rfl rfl ⟨rfl, rfl, by decide⟩ (fun hPc hDc => rV (As := [.int v1]) (rest := []) C0 hK hN (c7_expand l D cI cJ cN cR rf H0.size f_hasSnapshot f_termListSize f_textSize f_tops f_bottoms f_E_size f_E_leftTop f_E_leftBottom f_E_rightTop f_E_rightBottom f_E_terms v1 _ hw) 1 gX7_term_X7_expand rfl ⟨rfl, rfl⟩ nm7_expand ⟨Nat.le_of_ble_eq_true rfl, Nat.le_of_ble_eq_true rfl⟩ (q0 := 0) rfl rfl rfl rfl hl.1 rfl (Nat.le_of_ble_eq_true rfl) dX7_term_15 ⟨Nat.le_of_ble_eq_true rfl, Nat.le_of_ble_eq_true rfl⟩ hPc hDc) (fun u15 H locs hw hP hD hS => ?_)
      obtain ⟨f_E_size_15, f_E_terms_15⟩ := u15
      dsimp only at hw
      have hP : va_P D vwCl [((rf 0), o7 rf f_hasSnapshot f_termListSize f_textSize), ((rf 1), ai cI 8 f_tops), ((rf 2), ai cI 8 f_bottoms), ((rf 14), o1 (rf 17) f_E_size_15 f_E_leftTop f_E_leftBottom f_E_rightTop f_E_rightBottom), ((rf 17), ai cI 64 f_E_terms_15)] H := hP
      have hD : va_D A [((rf 0), o7 rf f_hasSnapshot f_termListSize f_textSize), ((rf 1), ai cI 8 f_tops), ((rf 2), ai cI 8 f_bottoms), ((rf 14), o1 (rf 17) f_E_size_15 f_E_leftTop f_E_leftBottom f_E_rightTop f_E_rightBottom), ((rf 17), ai cI 64 f_E_terms_15)] := hD
      refine lv_astore_n (lv' := [(3, .ref (rf 14)), (0, .ref (rf 0)), (1, .int v1), (2, .int v2)]) hx hb dX7_term_18 rfl hl (by decide) rfl (fun ls hl => ?_)
      refine lv_iload_n hx hb dX7_term_19 rfl (lv_at hl 3 rfl) ?_
      refine lv_aload_n hx hb dX7_term_20 rfl (lv_at hl 0 rfl) ?_
      refine kcRI (wc := [((rf 14), o1 (rf 17) f_E_size_15 f_E_leftTop f_E_leftBottom f_E_rightTop f_E_rightBottom)]) hP [3] rfl (fun hPc => oV (As := []) (rest := [.int v2]) C0 hK hN (c1_size l D cI cJ cN cR (rf 14) (rf 17) f_E_size_15 f_E_leftTop f_E_leftBottom f_E_rightTop f_E_rightBottom  _ hw) 0 gX7_term_X1_size rfl ⟨rfl, rfl⟩ nm1_size ⟨Nat.le_of_ble_eq_true rfl, Nat.le_of_ble_eq_true rfl⟩ (q0 := 0) rfl rfl rfl rfl hl.1 rfl (Nat.le_of_ble_eq_true rfl) dX7_term_21 ⟨Nat.le_of_ble_eq_true rfl, Nat.le_of_ble_eq_true rfl⟩ hPc) (fun r21 hw => ?_)
      refine lv_icmp_ge (tgt := 35) hx hb dX7_term_24 (by decide) (fun k => ?_) (fun k => ?_)
      · have hw := hw.1 k
        refine lv_bipush (v := (-2 : Int32)) hx hb dX7_term_35 (by decide) ?_
        exact RET _ _ _ (f_E_size_15, f_E_terms_15) _ _ hw hP hD hS dX7_term_37
      · have hw := hw.2 k
        refine lv_aload_n hx hb dX7_term_27 rfl (lv_at hl 0 rfl) ?_
        refine lv_iload_n hx hb dX7_term_28 rfl (lv_at hl 3 rfl) ?_
        refine kcRI (wc := [((rf 14), o1 (rf 17) f_E_size_15 f_E_leftTop f_E_leftBottom f_E_rightTop f_E_rightBottom), ((rf 17), ai cI 64 f_E_terms_15)]) hP [3, 4] rfl (fun hPc => oV (As := [.int v2]) (rest := []) C0 hK hN (c1_at l D cI cJ cN cR (rf 14) (rf 17) f_E_size_15 f_E_leftTop f_E_leftBottom f_E_rightTop f_E_rightBottom f_E_terms_15 v2 _ hw) 1 gX7_term_X1_at rfl ⟨rfl, rfl⟩ nm1_at ⟨Nat.le_of_ble_eq_true rfl, Nat.le_of_ble_eq_true rfl⟩ (q0 := 0) rfl rfl rfl rfl hl.1 rfl (Nat.le_of_ble_eq_true rfl) dX7_term_29 ⟨Nat.le_of_ble_eq_true rfl, Nat.le_of_ble_eq_true rfl⟩ hPc) (fun r29 hw => ?_)
        refine lv_goto (tgt := 37) hx hb dX7_term_32 (by decide) ?_
        exact RET _ _ _ (f_E_size_15, f_E_terms_15) _ _ hw hP hD hS dX7_term_37
    · have hw := hw.2 k
      refine lv_iconst (v := (-1 : Int32)) hx hb dX7_term_11 (by decide) ?_
      exact RET _ _ _ (f_E_size, f_E_terms) _ _ hw hP hD hS dX7_term_12
