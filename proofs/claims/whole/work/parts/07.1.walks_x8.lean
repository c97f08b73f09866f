abbrev rm8_within : Room := { frames := 0, cells := 0, slots := 0, locals := 0 }
theorem nm8_within : kNm yX8_within 3 := by decide +kernel
set_option maxHeartbeats 4000000 in
set_option maxRecDepth 100000 in
theorem c8_within (l : Launch) (D : va_G) (cI cJ cN cR : ClassId)   (v0 : Int64) (v2 : Int64) (v4 : Int64) (post : Int32 → Prop) (hw : w8_within v0 v2 v4 post) : Met l yX8_within wsX8_within rm8_within (kR D (kT cI cJ cN cR) [.long v0, .long v2, .long v4] []) (vp_Si (fun (r : Int32) => narrow .boolean (.int r) = .int r ∧ post r)) 0 0 (fun _ => False) := by
  refine kMetRZ (cc := cX8_within) (maxL := 6) (by decide +kernel) rfl (Nat.le_of_ble_eq_true rfl) ?_
  intro p e s m args below meth c H ls Q C0 hK hN hP hl RET
  obtain ⟨hx, hb, hml, hown, hts⟩ := id C0
  have hl : lv_has ls 6 [(0, .long v0), (2, .long v2), (4, .long v4)] := hl
  unfold w8_within at hw
  refine lv_lload_n hx hb dX8_within_0 rfl (lv_at hl 0 rfl) ?_
  refine lv_lload_n hx hb dX8_within_1 rfl (lv_at hl 1 rfl) ?_
  refine W.lcmp hx hb dX8_within_2 ?_
  refine lv_if_lt (tgt := 17) hx hb dX8_within_3 (by decide) (fun k => ?_) (fun k => ?_)
  · have hw := hw.1 ((lg_cmp_lt _ _).mp k)
    refine lv_iconst (v := (0 : Int32)) hx hb dX8_within_17 (by decide) ?_
    exact RET _ _ _ rfl hw dX8_within_18
  · have hw := hw.2 (fun h => k ((lg_cmp_lt _ _).mpr h))
    refine lv_lload_n hx hb dX8_within_6 rfl (lv_at hl 0 rfl) ?_
    refine lv_lload hx hb dX8_within_7 (lv_at hl 2 rfl) ?_
    refine W.lcmp hx hb dX8_within_9 ?_
    refine lv_if_gt (tgt := 17) hx hb dX8_within_10 (by decide) (fun k => ?_) (fun k => ?_)
    · have hw := hw.1 ((lg_cmp_gt _ _).mp k)
      refine lv_iconst (v := (0 : Int32)) hx hb dX8_within_17 (by decide) ?_
      exact RET _ _ _ rfl hw dX8_within_18
    · have hw := hw.2 (fun h => k ((lg_cmp_gt _ _).mpr h))
      refine lv_iconst (v := (1 : Int32)) hx hb dX8_within_13 (by decide) ?_
      refine lv_goto (tgt := 18) hx hb dX8_within_14 (by decide) ?_
      exact RET _ _ _ rfl hw dX8_within_18
abbrev rm8_isRegister : Room := { frames := 1, cells := 0, slots := 0, locals := 25 }
theorem nm8_isRegister : kNm yX8_isRegister 1 := by decide +kernel
set_option maxHeartbeats 4000000 in
set_option maxRecDepth 100000 in
theorem c8_isRegister (l : Launch) (D : va_G) (cI cJ cN cR : ClassId) (rf : Nat → Nat) (f_terms : Int32) (f_runs : Int32) (f_leftAbove : Int64) (f_leftBelow : Int64) (f_rightAbove : Int64) (f_rightBelow : Int64) (f_listed : Int32) (f_fed : Int32) (f_read : Int32) (f_formed : Int32) (f_hasSnapshot : Int32) (v1 : Int32) (post : Int32 → Prop) (hw : w8_isRegister v1 post) : Met l yX8_isRegister wsX8_isRegister rm8_isRegister (kR D (kT cI cJ cN cR) [.ref (rf 0), .int v1] [((rf 0), o8 rf f_terms f_runs f_leftAbove f_leftBelow f_rightAbove f_rightBelow f_listed f_fed f_read f_formed f_hasSnapshot)]) (vp_Si (fun (r : Int32) => narrow .boolean (.int r) = .int r ∧ post r)) 0 0 (fun _ => False) := by
  refine kMetRZ (cc := cX8_isRegister) (maxL := 2) (by decide +kernel) rfl (Nat.le_of_ble_eq_true rfl) ?_
  intro p e s m args below meth c H ls Q C0 hK hN hP hl RET
  obtain ⟨hx, hb, hml, hown, hts⟩ := id C0
  have hl : lv_has ls 2 [(0, .ref (rf 0)), (1, .int v1)] := hl
  unfold w8_isRegister at hw
  refine lv_iload_n hx hb dX8_isRegister_0 rfl (lv_at hl 1 rfl) ?_
  refine lv_i2l hx hb dX8_isRegister_1 rfl ?_
  refine lv_lconst (v := (0 : Int64)) hx hb dX8_isRegister_2 (by decide) ?_
  refine lv_ldc2 (v := (7 : Int64)) hx hb hown (hts (.constantLong RX8 119 (7)) (by decide +kernel)) dX8_isRegister_3 ?_
  refine kcRI (wc := []) hP [] rfl (fun hPc => oS (As := [.long v1.toInt64, .long (0 : Int64), .long (7 : Int64)]) (rest := []) C0 hK hN (c8_within l D cI cJ cN cR   v1.toInt64 (0 : Int64) (7 : Int64) _ hw) 3 gX8_isRegister_X8_within rfl ⟨rfl, rfl⟩ nm8_within ⟨Nat.le_of_ble_eq_true rfl, Nat.le_of_ble_eq_true rfl⟩ rfl hl.1 rfl (Nat.le_of_ble_eq_true rfl) dX8_isRegister_6 ⟨Nat.le_of_ble_eq_true rfl, Nat.le_of_ble_eq_true rfl⟩ hPc) (fun r6 hw => ?_)
  obtain ⟨nb6, hw⟩ := hw
  exact RET _ _ _ nb6 hw dX8_isRegister_9
abbrev rm8_divisor : Room := { frames := 0, cells := 0, slots := 0, locals := 0 }
theorem nm8_divisor : kNm yX8_divisor 2 := by decide +kernel
set_option maxHeartbeats 4000000 in
set_option maxRecDepth 100000 in
theorem c8_divisor (l : Launch) (D : va_G) (cI cJ cN cR : ClassId) (rf : Nat → Nat) (f_terms : Int32) (f_runs : Int32) (f_leftAbove : Int64) (f_leftBelow : Int64) (f_rightAbove : Int64) (f_rightBelow : Int64) (f_listed : Int32) (f_fed : Int32) (f_read : Int32) (f_formed : Int32) (f_hasSnapshot : Int32) (v1 : Int64) (v3 : Int64) (post : Int64 → Prop) (hw : w8_divisor v1 v3 post) : Met l yX8_divisor wsX8_divisor rm8_divisor (kR D (kT cI cJ cN cR) [.ref (rf 0), .long v1, .long v3] [((rf 0), o8 rf f_terms f_runs f_leftAbove f_leftBelow f_rightAbove f_rightBelow f_listed f_fed f_read f_formed f_hasSnapshot)]) (vp_Sl post) 0 0 (fun _ => False) := by
  refine kMetRL (cc := cX8_divisor) (maxL := 11) (by decide +kernel) rfl (Nat.le_of_ble_eq_true rfl) ?_
  intro p e s m args below meth c H ls Q C0 hK hN hP hl RET
  obtain ⟨hx, hb, hml, hown, hts⟩ := id C0
  have hl : lv_has ls 11 [(0, .ref (rf 0)), (1, .long v1), (3, .long v3)] := hl
  unfold w8_divisor at hw
  refine lv_lload_n hx hb dX8_divisor_0 rfl (lv_at hl 1 rfl) ?_
  refine lv_lstore (lv' := [(5, .long v1), (0, .ref (rf 0)), (1, .long v1), (3, .long v3)]) hx hb dX8_divisor_1 hl (by decide) rfl (fun ls hl => ?_)
  refine lv_lload_n hx hb dX8_divisor_3 rfl (lv_at hl 3 rfl) ?_
  refine lv_lstore (lv' := [(7, .long v3), (5, .long v1), (0, .ref (rf 0)), (1, .long v1), (3, .long v3)]) hx hb dX8_divisor_4 hl (by decide) rfl (fun ls hl => ?_)
  obtain ⟨n6, hw⟩ := hw
  have LOOP_6 : ∀ (n6 : Nat) (v5 : Int64) (v7 : Int64) (ls : Array Slot), w8_divisor_L6 post n6 v5 v7 → lv_has ls 11 [(5, .long v5), (7, .long v7)] → W p l e rm8_divisor s m args below meth c H [] 0 0 Q (F0 m 6 ls []) := by
    clear hw hl
    intro n6
    induction n6 with
    | zero =>
      intro v5 v7 ls hw hl
      rw [w8_divisor_L6] at hw
      exact hw.elim
    | succ n6 ih6 =>
      intro v5 v7 ls hw hl
      rw [w8_divisor_L6] at hw
      refine lv_lload hx hb dX8_divisor_6 (lv_at hl 1 rfl) ?_
      refine lv_lconst (v := (0 : Int64)) hx hb dX8_divisor_8 (by decide) ?_
      refine W.lcmp hx hb dX8_divisor_9 ?_
      refine lv_if_eq (tgt := 31) hx hb dX8_divisor_10 (by decide) (fun k => ?_) (fun k => ?_)
      · have hw := hw.1 ((lg_cmp_eq _ _).mp k)
        refine lv_lload hx hb dX8_divisor_31 (lv_at hl 0 rfl) ?_
        exact RET _ _ _ hw dX8_divisor_33
      · have hw := hw.2 (fun h => k ((lg_cmp_eq _ _).mpr h))
        refine lv_lload hx hb dX8_divisor_13 (lv_at hl 0 rfl) ?_
        refine lv_lload hx hb dX8_divisor_15 (lv_at hl 1 rfl) ?_
        obtain ⟨hne, hw⟩ := hw
        refine lv_lrem hx hb dX8_divisor_17 hne ?_
        refine lv_topl (fun x18 ex18 => ?_)
        have hw := hw x18 ex18
        refine lv_lstore (lv' := [(9, .long x18), (5, .long v5), (7, .long v7)]) hx hb dX8_divisor_18 hl (by decide) rfl (fun ls hl => ?_)
        refine lv_lload hx hb dX8_divisor_20 (lv_at hl 2 rfl) ?_
        refine lv_lstore (lv' := [(5, .long v7), (9, .long x18), (7, .long v7)]) hx hb dX8_divisor_22 hl (by decide) rfl (fun ls hl => ?_)
        refine lv_lload hx hb dX8_divisor_24 (lv_at hl 1 rfl) ?_
        refine lv_lstore (lv' := [(7, .long x18), (5, .long v7), (9, .long x18)]) hx hb dX8_divisor_26 hl (by decide) rfl (fun ls hl => ?_)
        refine lv_goto (tgt := 6) hx hb dX8_divisor_28 (by decide) ?_
        exact ih6 v7 x18 ls hw (lv_sub hl [1, 0] rfl)
  exact LOOP_6 n6 v1 v3 ls hw (lv_sub hl [1, 0] rfl)
abbrev rm8_put : Room := { frames := 1, cells := 0, slots := 0, locals := 30 }
theorem nm8_put : kNm yX8_put 3 := by decide +kernel
set_option maxHeartbeats 4000000 in
set_option maxRecDepth 100000 in
theorem c8_put (l : Launch) (D : va_G) (cI cJ cN cR : ClassId) (rf : Nat → Nat) (sz : Nat) (f_terms : Int32) (f_runs : Int32) (f_leftAbove : Int64) (f_leftBelow : Int64) (f_rightAbove : Int64) (f_rightBelow : Int64) (f_listed : Int32) (f_fed : Int32) (f_read : Int32) (f_formed : Int32) (f_hasSnapshot : Int32) (f_above : (Nat → Int32)) (f_below : (Nat → Int32)) (v1 : Int32) (v2 : Int64) (v4 : Int64) (post : Int32 → (Nat → Int32) → (Nat → Int32) → Prop) (hw : w8_put f_above f_below v1 v2 v4 post) : Met l yX8_put wsX8_put rm8_put (kP D (kT cI cJ cN cR) sz [.ref (rf 0), .int v1, .long v2, .long v4] [((rf 0), o8 rf f_terms f_runs f_leftAbove f_leftBelow f_rightAbove f_rightBelow f_listed f_fed f_read f_formed f_hasSnapshot), ((rf 1), ai cI 8 f_above), ((rf 2), ai cI 8 f_below)]) (kQi D [((rf 0), o8 rf f_terms f_runs f_leftAbove f_leftBelow f_rightAbove f_rightBelow f_listed f_fed f_read f_formed f_hasSnapshot), ((rf 1), ai cI 8 f_above), ((rf 2), ai cI 8 f_below)] sz (fun (r : Int32) (u : (Nat → Int32) × (Nat → Int32)) => post r u.1 u.2) (fun (u : (Nat → Int32) × (Nat → Int32)) => [((rf 0), o8 rf f_terms f_runs f_leftAbove f_leftBelow f_rightAbove f_rightBelow f_listed f_fed f_read f_formed f_hasSnapshot), ((rf 1), ai cI 8 u.1), ((rf 2), ai cI 8 u.2)])) 0 0 (va_A [((rf 0), o8 rf f_terms f_runs f_leftAbove f_leftBelow f_rightAbove f_rightBelow f_listed f_fed f_read f_formed f_hasSnapshot), ((rf 1), ai cI 8 f_above), ((rf 2), ai cI 8 f_below)] sz) := by
  refine kMetI (cc := cX8_put) (maxL := 8) (by decide +kernel) rfl (Nat.le_of_ble_eq_true rfl) ?_
  intro p e s m args below meth c H0 ls A Q C0 hK hN hP hD hS hA hl RET
  obtain ⟨hx, hb, hml, hown, hts⟩ := id C0
  have hl : lv_has ls 8 [(0, .ref (rf 0)), (1, .int v1), (2, .long v2), (4, .long v4)] := hl
  have g7 := hts (.fieldLink RX8 7 "SternBrocotExplorerModel" "above" "[I") (by decide +kernel)
  have g13 := hts (.fieldLink RX8 13 "SternBrocotExplorerModel" "below" "[I") (by decide +kernel)
  have hi9 : ∀ w ∈ wsX80, w ∈ wsX8_put := fun w h => List.mem_cons_of_mem _ (List.mem_append_right _ h)
  unfold w8_put at hw
  have hP : va_P D vwCl [((rf 0), o8 rf f_terms f_runs f_leftAbove f_leftBelow f_rightAbove f_rightBelow f_listed f_fed f_read f_formed f_hasSnapshot), ((rf 1), ai cI 8 f_above), ((rf 2), ai cI 8 f_below)] H0 := hP
  refine lv_aload_n hx hb dX8_put_0 rfl (lv_at hl 0 rfl) ?_
  refine lv_lload_n hx hb dX8_put_1 rfl (lv_at hl 2 rfl) ?_
  refine lv_lload hx hb dX8_put_2 (lv_at hl 3 rfl) ?_
  refine kcRL (wc := [((rf 0), o8 rf f_terms f_runs f_leftAbove f_leftBelow f_rightAbove f_rightBelow f_listed f_fed f_read f_formed f_hasSnapshot)]) hP [0] rfl (fun hPc => oV (As := [.long v2, .long v4]) (rest := []) C0 hK hN (c8_divisor l D cI cJ cN cR rf f_terms f_runs f_leftAbove f_leftBelow f_rightAbove f_rightBelow f_listed f_fed f_read f_formed f_hasSnapshot v2 v4 _ hw) 2 gX8_put_X8_divisor rfl ⟨rfl, rfl⟩ nm8_divisor ⟨Nat.le_of_ble_eq_true rfl, Nat.le_of_ble_eq_true rfl⟩ (q0 := 0) rfl rfl rfl rfl hl.1 rfl (Nat.le_of_ble_eq_true rfl) dX8_put_4 ⟨Nat.le_of_ble_eq_true rfl, Nat.le_of_ble_eq_true rfl⟩ hPc) (fun r4 hw => ?_)
  refine lv_lstore (lv' := [(6, .long r4), (0, .ref (rf 0)), (1, .int v1), (2, .long v2), (4, .long v4)]) hx hb dX8_put_7 hl (by decide) rfl (fun ls hl => ?_)
  refine lv_lload_n hx hb dX8_put_9 rfl (lv_at hl 3 rfl) ?_
  refine lv_lload hx hb dX8_put_10 (lv_at hl 0 rfl) ?_
  obtain ⟨hne, hw⟩ := hw
  refine lv_ldiv hx hb dX8_put_12 hne ?_
  refine lv_ldc2 (v := (1000000 : Int64)) hx hb hown (hts (.constantLong RX8 129 (1000000)) (by decide +kernel)) dX8_put_13 ?_
  refine W.lcmp hx hb dX8_put_16 ?_
  refine lv_if_gt (tgt := 32) hx hb dX8_put_17 (by decide) (fun k => ?_) (fun k => ?_)
  · have hw := hw.1 ((lg_cmp_gt _ _).mp k)
    refine lv_bipush (v := (-3 : Int32)) hx hb dX8_put_32 (by decide) ?_
    exact RET _ _ _ (f_above, f_below) _ _ hw hP hD hS dX8_put_34
  · have hw := hw.2 (fun h => k ((lg_cmp_gt _ _).mpr h))
    refine lv_lload hx hb dX8_put_20 (lv_at hl 4 rfl) ?_
    refine lv_lload hx hb dX8_put_22 (lv_at hl 0 rfl) ?_
    obtain ⟨hne, hw⟩ := hw
    refine lv_ldiv hx hb dX8_put_24 hne ?_
    refine lv_ldc2 (v := (1000000 : Int64)) hx hb hown (hts (.constantLong RX8 129 (1000000)) (by decide +kernel)) dX8_put_25 ?_
    refine W.lcmp hx hb dX8_put_28 ?_
    refine lv_if_le (tgt := 35) hx hb dX8_put_29 (by decide) (fun k => ?_) (fun k => ?_)
    · have hw := hw.1 ((lg_cmp_le _ _).mp k)
      refine lv_aload_n hx hb dX8_put_35 rfl (lv_at hl 1 rfl) ?_
      refine va_get (D := D) (ci := 8) (v := .ref (rf 1)) (C := RX8) (T := TX8) (N := 35) hx hb hts hi9 hown hK hP 0 rfl rfl 0 (by decide) g7 (fun _ h9 => h9) rfl dX8_put_36 ?_
      refine lv_iload_n hx hb dX8_put_39 rfl (lv_at hl 2 rfl) ?_
      refine lv_lload_n hx hb dX8_put_40 rfl (lv_at hl 3 rfl) ?_
      refine lv_lload hx hb dX8_put_41 (lv_at hl 0 rfl) ?_
      obtain ⟨hne, hw⟩ := hw
      refine lv_ldiv hx hb dX8_put_43 hne ?_
      refine lv_l2i hx hb dX8_put_44 rfl ?_
      obtain ⟨hin, hw⟩ := hw
      refine va_iast hx hb hK hP hD hS 1 0 rfl rfl hin dX8_put_45 (fun H locs hP hD hS => ?_)
      have hP : va_P D vwCl [((rf 0), o8 rf f_terms f_runs f_leftAbove f_leftBelow f_rightAbove f_rightBelow f_listed f_fed f_read f_formed f_hasSnapshot), ((rf 1), ai cI 8 (upd f_above v1.toNatClampNeg ((v2 / r4).toInt32))), ((rf 2), ai cI 8 f_below)] H := hP
      have hD : va_D A [((rf 0), o8 rf f_terms f_runs f_leftAbove f_leftBelow f_rightAbove f_rightBelow f_listed f_fed f_read f_formed f_hasSnapshot), ((rf 1), ai cI 8 (upd f_above v1.toNatClampNeg ((v2 / r4).toInt32))), ((rf 2), ai cI 8 f_below)] := hD
      refine lv_aload_n hx hb dX8_put_46 rfl (lv_at hl 1 rfl) ?_
      refine va_get (D := D) (ci := 8) (v := .ref (rf 2)) (C := RX8) (T := TX8) (N := 35) hx hb hts hi9 hown hK hP 0 rfl rfl 1 (by decide) g13 (fun _ h9 => h9) rfl dX8_put_47 ?_
      refine lv_iload_n hx hb dX8_put_50 rfl (lv_at hl 2 rfl) ?_
      refine lv_lload hx hb dX8_put_51 (lv_at hl 4 rfl) ?_
      refine lv_lload hx hb dX8_put_53 (lv_at hl 0 rfl) ?_
      obtain ⟨hne, hw⟩ := hw
      refine lv_ldiv hx hb dX8_put_55 hne ?_
      refine lv_l2i hx hb dX8_put_56 rfl ?_
      obtain ⟨hin, hw⟩ := hw
      refine va_iast hx hb hK hP hD hS 2 0 rfl rfl hin dX8_put_57 (fun H locs hP hD hS => ?_)
      have hP : va_P D vwCl [((rf 0), o8 rf f_terms f_runs f_leftAbove f_leftBelow f_rightAbove f_rightBelow f_listed f_fed f_read f_formed f_hasSnapshot), ((rf 1), ai cI 8 (upd f_above v1.toNatClampNeg ((v2 / r4).toInt32))), ((rf 2), ai cI 8 (upd f_below v1.toNatClampNeg ((v4 / r4).toInt32)))] H := hP
      have hD : va_D A [((rf 0), o8 rf f_terms f_runs f_leftAbove f_leftBelow f_rightAbove f_rightBelow f_listed f_fed f_read f_formed f_hasSnapshot), ((rf 1), ai cI 8 (upd f_above v1.toNatClampNeg ((v2 / r4).toInt32))), ((rf 2), ai cI 8 (upd f_below v1.toNatClampNeg ((v4 / r4).toInt32)))] := hD
      refine lv_iconst (v := (1 : Int32)) hx hb dX8_put_58 (by decide) ?_
      exact RET _ _ _ ((upd f_above v1.toNatClampNeg ((v2 / r4).toInt32)), (upd f_below v1.toNatClampNeg ((v4 / r4).toInt32))) _ _ hw hP hD hS dX8_put_59
    · have hw := hw.2 (fun h => k ((lg_cmp_le _ _).mpr h))
      refine lv_bipush (v := (-3 : Int32)) hx hb dX8_put_32 (by decide) ?_
      exact RET _ _ _ (f_above, f_below) _ _ hw hP hD hS dX8_put_34
abbrev rm8_set : Room := { frames := 2, cells := 0, slots := 0, locals := 57 }
theorem nm8_set : kNm yX8_set 3 := by decide +kernel
set_option maxHeartbeats 4000000 in
set_option maxRecDepth 100000 in
theorem c8_set (l : Launch) (D : va_G) (cI cJ cN cR : ClassId) (rf : Nat → Nat) (sz : Nat) (f_terms : Int32) (f_runs : Int32) (f_leftAbove : Int64) (f_leftBelow : Int64) (f_rightAbove : Int64) (f_rightBelow : Int64) (f_listed : Int32) (f_fed : Int32) (f_read : Int32) (f_formed : Int32) (f_hasSnapshot : Int32) (f_above : (Nat → Int32)) (f_below : (Nat → Int32)) (v1 : Int32) (v2 : Int32) (v3 : Int32) (post : Int32 → (Nat → Int32) → (Nat → Int32) → Prop) (hw : w8_set f_above f_below v1 v2 v3 post) : Met l yX8_set wsX8_set rm8_set (kP D (kT cI cJ cN cR) sz [.ref (rf 0), .int v1, .int v2, .int v3] [((rf 0), o8 rf f_terms f_runs f_leftAbove f_leftBelow f_rightAbove f_rightBelow f_listed f_fed f_read f_formed f_hasSnapshot), ((rf 1), ai cI 8 f_above), ((rf 2), ai cI 8 f_below)]) (kQi D [((rf 0), o8 rf f_terms f_runs f_leftAbove f_leftBelow f_rightAbove f_rightBelow f_listed f_fed f_read f_formed f_hasSnapshot), ((rf 1), ai cI 8 f_above), ((rf 2), ai cI 8 f_below)] sz (fun (r : Int32) (u : (Nat → Int32) × (Nat → Int32)) => post r u.1 u.2) (fun (u : (Nat → Int32) × (Nat → Int32)) => [((rf 0), o8 rf f_terms f_runs f_leftAbove f_leftBelow f_rightAbove f_rightBelow f_listed f_fed f_read f_formed f_hasSnapshot), ((rf 1), ai cI 8 u.1), ((rf 2), ai cI 8 u.2)])) 0 0 (va_A [((rf 0), o8 rf f_terms f_runs f_leftAbove f_leftBelow f_rightAbove f_rightBelow f_listed f_fed f_read f_formed f_hasSnapshot), ((rf 1), ai cI 8 f_above), ((rf 2), ai cI 8 f_below)] sz) := by
  refine kMetI (cc := cX8_set) (maxL := 4) (by decide +kernel) rfl (Nat.le_of_ble_eq_true rfl) ?_
  intro p e s m args below meth c H0 ls A Q C0 hK hN hP hD hS hA hl RET
  obtain ⟨hx, hb, hml, hown, hts⟩ := id C0
  have hl : lv_has ls 4 [(0, .ref (rf 0)), (1, .int v1), (2, .int v2), (3, .int v3)] := hl
  unfold w8_set at hw
  have hP : va_P D vwCl [((rf 0), o8 rf f_terms f_runs f_leftAbove f_leftBelow f_rightAbove f_rightBelow f_listed f_fed f_read f_formed f_hasSnapshot), ((rf 1), ai cI 8 f_above), ((rf 2), ai cI 8 f_below)] H0 := hP
  refine lv_aload_n hx hb dX8_set_0 rfl (lv_at hl 0 rfl) ?_
  refine lv_iload_n hx hb dX8_set_1 rfl (lv_at hl 1 rfl) ?_
  refine kcRI (wc := [((rf 0), o8 rf f_terms f_runs f_leftAbove f_leftBelow f_rightAbove f_rightBelow f_listed f_fed f_read f_formed f_hasSnapshot)]) hP [0] rfl (fun hPc => oV (As := [.int v1]) (rest := []) C0 hK hN (c8_isRegister l D cI cJ cN cR rf f_terms f_runs f_leftAbove f_leftBelow f_rightAbove f_rightBelow f_listed f_fed f_read f_formed f_hasSnapshot v1 _ hw) 1 gX8_set_X8_isRegister rfl ⟨rfl, rfl⟩ nm8_isRegister ⟨Nat.le_of_ble_eq_true rfl, Nat.le_of_ble_eq_true rfl⟩ (q0 := 0) rfl rfl rfl rfl hl.1 rfl (Nat.le_of_ble_eq_true rfl) dX8_set_2 ⟨Nat.le_of_ble_eq_true rfl, Nat.le_of_ble_eq_true rfl⟩ hPc) (fun r2 hw => ?_)
  obtain ⟨nb2, hw⟩ := hw
  refine lv_if_eq (tgt := 32) hx hb dX8_set_5 (by decide) (fun k => ?_) (fun k => ?_)
  · have hw := hw.1 k
    refine lv_iconst (v := (-1 : Int32)) hx hb dX8_set_32 (by decide) ?_
    exact RET _ _ _ (f_above, f_below) _ _ hw hP hD hS dX8_set_33
  · have hw := hw.2 k
    refine lv_iload_n hx hb dX8_set_8 rfl (lv_at hl 2 rfl) ?_
    refine lv_i2l hx hb dX8_set_9 rfl ?_
    refine lv_lconst (v := (1 : Int64)) hx hb dX8_set_10 (by decide) ?_
    refine lv_ldc2 (v := (1000000 : Int64)) hx hb hown (hts (.constantLong RX8 129 (1000000)) (by decide +kernel)) dX8_set_11 ?_
    refine kcRI (wc := []) hP [] rfl (fun hPc => oS (As := [.long v2.toInt64, .long (1 : Int64), .long (1000000 : Int64)]) (rest := []) C0 hK hN (c8_within l D cI cJ cN cR   v2.toInt64 (1 : Int64) (1000000 : Int64) _ hw) 3 gX8_set_X8_within rfl ⟨rfl, rfl⟩ nm8_within ⟨Nat.le_of_ble_eq_true rfl, Nat.le_of_ble_eq_true rfl⟩ rfl hl.1 rfl (Nat.le_of_ble_eq_true rfl) dX8_set_14 ⟨Nat.le_of_ble_eq_true rfl, Nat.le_of_ble_eq_true rfl⟩ hPc) (fun r14 hw => ?_)
    obtain ⟨nb14, hw⟩ := hw
    refine lv_if_eq (tgt := 32) hx hb dX8_set_17 (by decide) (fun k => ?_) (fun k => ?_)
    · have hw := hw.1 k
      refine lv_iconst (v := (-1 : Int32)) hx hb dX8_set_32 (by decide) ?_
      exact RET _ _ _ (f_above, f_below) _ _ hw hP hD hS dX8_set_33
    · have hw := hw.2 k
      refine lv_iload_n hx hb dX8_set_20 rfl (lv_at hl 3 rfl) ?_
      refine lv_i2l hx hb dX8_set_21 rfl ?_
      refine lv_lconst (v := (1 : Int64)) hx hb dX8_set_22 (by decide) ?_
      refine lv_ldc2 (v := (1000000 : Int64)) hx hb hown (hts (.constantLong RX8 129 (1000000)) (by decide +kernel)) dX8_set_23 ?_
      refine kcRI (wc := []) hP [] rfl (fun hPc => oS (As := [.long v3.toInt64, .long (1 : Int64), .long (1000000 : Int64)]) (rest := []) C0 hK hN (c8_within l D cI cJ cN cR   v3.toInt64 (1 : Int64) (1000000 : Int64) _ hw) 3 gX8_set_X8_within rfl ⟨rfl, rfl⟩ nm8_within ⟨Nat.le_of_ble_eq_true rfl, Nat.le_of_ble_eq_true rfl⟩ rfl hl.1 rfl (Nat.le_of_ble_eq_true rfl) dX8_set_26 ⟨Nat.le_of_ble_eq_true rfl, Nat.le_of_ble_eq_true rfl⟩ hPc) (fun r26 hw => ?_)
      obtain ⟨nb26, hw⟩ := hw
      refine lv_if_ne (tgt := 34) hx hb dX8_set_29 (by decide) (fun k => ?_) (fun k => ?_)
      · have hw := hw.1 k
        refine lv_aload_n hx hb dX8_set_34 rfl (lv_at hl 0 rfl) ?_
        refine lv_iload_n hx hb dX8_set_35 rfl (lv_at hl 1 rfl) ?_
        refine lv_iload_n hx hb dX8_set_36 rfl (lv_at hl 2 rfl) ?_
        refine lv_i2l hx hb dX8_set_37 rfl ?_
        refine lv_iload_n hx hb dX8_set_38 rfl (lv_at hl 3 rfl) ?_
        refine lv_i2l hx hb dX8_set_39 rfl ?_
        refine kcI (wc := [((rf 0), o8 rf f_terms f_runs f_leftAbove f_leftBelow f_rightAbove f_rightBelow f_listed f_fed f_read f_formed f_hasSnapshot), ((rf 1), ai cI 8 f_above), ((rf 2), ai cI 8 f_below)]) (wr := []) hP hD hS hA [0, 1, 2] [] rfl rfl ⟨rfl, rfl, by decide⟩ (fun hPc hDc => rV (As := [.int v1, .long v2.toInt64, .long v3.toInt64]) (rest := []) C0 hK hN (c8_put l D cI cJ cN cR rf H0.size f_terms f_runs f_leftAbove f_leftBelow f_rightAbove f_rightBelow f_listed f_fed f_read f_formed f_hasSnapshot f_above f_below v1 v2.toInt64 v3.toInt64 _ hw) 3 gX8_set_X8_put rfl ⟨rfl, rfl⟩ nm8_put ⟨Nat.le_of_ble_eq_true rfl, Nat.le_of_ble_eq_true rfl⟩ (q0 := 0) rfl rfl rfl rfl hl.1 rfl (Nat.le_of_ble_eq_true rfl) dX8_set_40 ⟨Nat.le_of_ble_eq_true rfl, Nat.le_of_ble_eq_true rfl⟩ hPc hDc) (fun r40 u40 H locs hw hP hD hS => ?_)
        obtain ⟨f_above_40, f_below_40⟩ := u40
        dsimp only at hw
        have hP : va_P D vwCl [((rf 0), o8 rf f_terms f_runs f_leftAbove f_leftBelow f_rightAbove f_rightBelow f_listed f_fed f_read f_formed f_hasSnapshot), ((rf 1), ai cI 8 f_above_40), ((rf 2), ai cI 8 f_below_40)] H := hP
        have hD : va_D A [((rf 0), o8 rf f_terms f_runs f_leftAbove f_leftBelow f_rightAbove f_rightBelow f_listed f_fed f_read f_formed f_hasSnapshot), ((rf 1), ai cI 8 f_above_40), ((rf 2), ai cI 8 f_below_40)] := hD
        exact RET _ _ _ (f_above_40, f_below_40) _ _ hw hP hD hS dX8_set_43
      · have hw := hw.2 k
        refine lv_iconst (v := (-1 : Int32)) hx hb dX8_set_32 (by decide) ?_
        exact RET _ _ _ (f_above, f_below) _ _ hw hP hD hS dX8_set_33
abbrev rm8_numerator : Room := { frames := 2, cells := 0, slots := 0, locals := 46 }
theorem nm8_numerator : kNm yX8_numerator 1 := by decide +kernel
set_option maxHeartbeats 4000000 in
set_option maxRecDepth 100000 in
theorem c8_numerator (l : Launch) (D : va_G) (cI cJ cN cR : ClassId) (rf : Nat → Nat) (f_terms : Int32) (f_runs : Int32) (f_leftAbove : Int64) (f_leftBelow : Int64) (f_rightAbove : Int64) (f_rightBelow : Int64) (f_listed : Int32) (f_fed : Int32) (f_read : Int32) (f_formed : Int32) (f_hasSnapshot : Int32) (f_above : (Nat → Int32)) (v1 : Int32) (post : Int32 → Prop) (hw : w8_numerator f_above v1 post) : Met l yX8_numerator wsX8_numerator rm8_numerator (kR D (kT cI cJ cN cR) [.ref (rf 0), .int v1] [((rf 0), o8 rf f_terms f_runs f_leftAbove f_leftBelow f_rightAbove f_rightBelow f_listed f_fed f_read f_formed f_hasSnapshot), ((rf 1), ai cI 8 f_above)]) (vp_Si post) 0 0 (fun _ => False) := by
  refine kMetRI (cc := cX8_numerator) (maxL := 2) (by decide +kernel) rfl (Nat.le_of_ble_eq_true rfl) ?_
  intro p e s m args below meth c H ls Q C0 hK hN hP hl RET
  obtain ⟨hx, hb, hml, hown, hts⟩ := id C0
  have hl : lv_has ls 2 [(0, .ref (rf 0)), (1, .int v1)] := hl
  have g7 := hts (.fieldLink RX8 7 "SternBrocotExplorerModel" "above" "[I") (by decide +kernel)
  have hi9 : ∀ w ∈ wsX80, w ∈ wsX8_numerator := fun w h => List.mem_cons_of_mem _ (List.mem_append_right _ h)
  unfold w8_numerator at hw
  refine lv_aload_n hx hb dX8_numerator_0 rfl (lv_at hl 0 rfl) ?_
  refine lv_iload_n hx hb dX8_numerator_1 rfl (lv_at hl 1 rfl) ?_
  refine kcRI (wc := [((rf 0), o8 rf f_terms f_runs f_leftAbove f_leftBelow f_rightAbove f_rightBelow f_listed f_fed f_read f_formed f_hasSnapshot)]) hP [0] rfl (fun hPc => oV (As := [.int v1]) (rest := []) C0 hK hN (c8_isRegister l D cI cJ cN cR rf f_terms f_runs f_leftAbove f_leftBelow f_rightAbove f_rightBelow f_listed f_fed f_read f_formed f_hasSnapshot v1 _ hw) 1 gX8_numerator_X8_isRegister rfl ⟨rfl, rfl⟩ nm8_isRegister ⟨Nat.le_of_ble_eq_true rfl, Nat.le_of_ble_eq_true rfl⟩ (q0 := 0) rfl rfl rfl rfl hl.1 rfl (Nat.le_of_ble_eq_true rfl) dX8_numerator_2 ⟨Nat.le_of_ble_eq_true rfl, Nat.le_of_ble_eq_true rfl⟩ hPc) (fun r2 hw => ?_)
  obtain ⟨nb2, hw⟩ := hw
  refine lv_if_eq (tgt := 17) hx hb dX8_numerator_5 (by decide) (fun k => ?_) (fun k => ?_)
  · have hw := hw.1 k
    refine lv_iconst (v := (-1 : Int32)) hx hb dX8_numerator_17 (by decide) ?_
    exact RET _ _ _ hw dX8_numerator_18
  · have hw := hw.2 k
    refine lv_aload_n hx hb dX8_numerator_8 rfl (lv_at hl 0 rfl) ?_
    refine va_get (D := D) (ci := 8) (v := .ref (rf 1)) (C := RX8) (T := TX8) (N := 35) hx hb hts hi9 hown hK hP 0 rfl rfl 0 (by decide) g7 (fun _ h9 => h9) rfl dX8_numerator_9 ?_
    refine lv_iload_n hx hb dX8_numerator_12 rfl (lv_at hl 1 rfl) ?_
    obtain ⟨hin, hw⟩ := hw
    refine va_iald hx hb hK hP 1 0 rfl rfl hin dX8_numerator_13 ?_
    refine lv_goto (tgt := 18) hx hb dX8_numerator_14 (by decide) ?_
    exact RET _ _ _ hw dX8_numerator_18
abbrev rm8_denominator : Room := { frames := 2, cells := 0, slots := 0, locals := 46 }
theorem nm8_denominator : kNm yX8_denominator 1 := by decide +kernel
set_option maxHeartbeats 4000000 in
set_option maxRecDepth 100000 in
theorem c8_denominator (l : Launch) (D : va_G) (cI cJ cN cR : ClassId) (rf : Nat → Nat) (f_terms : Int32) (f_runs : Int32) (f_leftAbove : Int64) (f_leftBelow : Int64) (f_rightAbove : Int64) (f_rightBelow : Int64) (f_listed : Int32) (f_fed : Int32) (f_read : Int32) (f_formed : Int32) (f_hasSnapshot : Int32) (f_below : (Nat → Int32)) (v1 : Int32) (post : Int32 → Prop) (hw : w8_denominator f_below v1 post) : Met l yX8_denominator wsX8_denominator rm8_denominator (kR D (kT cI cJ cN cR) [.ref (rf 0), .int v1] [((rf 0), o8 rf f_terms f_runs f_leftAbove f_leftBelow f_rightAbove f_rightBelow f_listed f_fed f_read f_formed f_hasSnapshot), ((rf 2), ai cI 8 f_below)]) (vp_Si post) 0 0 (fun _ => False) := by
  refine kMetRI (cc := cX8_denominator) (maxL := 2) (by decide +kernel) rfl (Nat.le_of_ble_eq_true rfl) ?_
  intro p e s m args below meth c H ls Q C0 hK hN hP hl RET
  obtain ⟨hx, hb, hml, hown, hts⟩ := id C0
  have hl : lv_has ls 2 [(0, .ref (rf 0)), (1, .int v1)] := hl
  have g13 := hts (.fieldLink RX8 13 "SternBrocotExplorerModel" "below" "[I") (by decide +kernel)
  have hi9 : ∀ w ∈ wsX80, w ∈ wsX8_denominator := fun w h => List.mem_cons_of_mem _ (List.mem_append_right _ h)
  unfold w8_denominator at hw
  refine lv_aload_n hx hb dX8_denominator_0 rfl (lv_at hl 0 rfl) ?_
  refine lv_iload_n hx hb dX8_denominator_1 rfl (lv_at hl 1 rfl) ?_
  refine kcRI (wc := [((rf 0), o8 rf f_terms f_runs f_leftAbove f_leftBelow f_rightAbove f_rightBelow f_listed f_fed f_read f_formed f_hasSnapshot)]) hP [0] rfl (fun hPc => oV (As := [.int v1]) (rest := []) C0 hK hN (c8_isRegister l D cI cJ cN cR rf f_terms f_runs f_leftAbove f_leftBelow f_rightAbove f_rightBelow f_listed f_fed f_read f_formed f_hasSnapshot v1 _ hw) 1 gX8_denominator_X8_isRegister rfl ⟨rfl, rfl⟩ nm8_isRegister ⟨Nat.le_of_ble_eq_true rfl, Nat.le_of_ble_eq_true rfl⟩ (q0 := 0) rfl rfl rfl rfl hl.1 rfl (Nat.le_of_ble_eq_true rfl) dX8_denominator_2 ⟨Nat.le_of_ble_eq_true rfl, Nat.le_of_ble_eq_true rfl⟩ hPc) (fun r2 hw => ?_)
  obtain ⟨nb2, hw⟩ := hw
  refine lv_if_eq (tgt := 17) hx hb dX8_denominator_5 (by decide) (fun k => ?_) (fun k => ?_)
  · have hw := hw.1 k
    refine lv_iconst (v := (-1 : Int32)) hx hb dX8_denominator_17 (by decide) ?_
    exact RET _ _ _ hw dX8_denominator_18
  · have hw := hw.2 k
    refine lv_aload_n hx hb dX8_denominator_8 rfl (lv_at hl 0 rfl) ?_
    refine va_get (D := D) (ci := 8) (v := .ref (rf 2)) (C := RX8) (T := TX8) (N := 35) hx hb hts hi9 hown hK hP 0 rfl rfl 1 (by decide) g13 (fun _ h9 => h9) rfl dX8_denominator_9 ?_
    refine lv_iload_n hx hb dX8_denominator_12 rfl (lv_at hl 1 rfl) ?_
    obtain ⟨hin, hw⟩ := hw
    refine va_iald hx hb hK hP 1 0 rfl rfl hin dX8_denominator_13 ?_
    refine lv_goto (tgt := 18) hx hb dX8_denominator_14 (by decide) ?_
    exact RET _ _ _ hw dX8_denominator_18
abbrev rm8_cross : Room := { frames := 0, cells := 0, slots := 0, locals := 0 }
theorem nm8_cross : kNm yX8_cross 2 := by decide +kernel
set_option maxHeartbeats 4000000 in
set_option maxRecDepth 100000 in
theorem c8_cross (l : Launch) (D : va_G) (cI cJ cN cR : ClassId) (rf : Nat → Nat) (f_terms : Int32) (f_runs : Int32) (f_leftAbove : Int64) (f_leftBelow : Int64) (f_rightAbove : Int64) (f_rightBelow : Int64) (f_listed : Int32) (f_fed : Int32) (f_read : Int32) (f_formed : Int32) (f_hasSnapshot : Int32) (f_above : (Nat → Int32)) (f_below : (Nat → Int32)) (v1 : Int32) (v2 : Int32) (post : Int64 → Prop) (hw : w8_cross f_above f_below v1 v2 post) : Met l yX8_cross wsX8_cross rm8_cross (kR D (kT cI cJ cN cR) [.ref (rf 0), .int v1, .int v2] [((rf 0), o8 rf f_terms f_runs f_leftAbove f_leftBelow f_rightAbove f_rightBelow f_listed f_fed f_read f_formed f_hasSnapshot), ((rf 1), ai cI 8 f_above), ((rf 2), ai cI 8 f_below)]) (vp_Sl post) 0 0 (fun _ => False) := by
  refine kMetRL (cc := cX8_cross) (maxL := 3) (by decide +kernel) rfl (Nat.le_of_ble_eq_true rfl) ?_
  intro p e s m args below meth c H ls Q C0 hK hN hP hl RET
  obtain ⟨hx, hb, hml, hown, hts⟩ := id C0
  have hl : lv_has ls 3 [(0, .ref (rf 0)), (1, .int v1), (2, .int v2)] := hl
  have g7 := hts (.fieldLink RX8 7 "SternBrocotExplorerModel" "above" "[I") (by decide +kernel)
  have g13 := hts (.fieldLink RX8 13 "SternBrocotExplorerModel" "below" "[I") (by decide +kernel)
  have hi9 : ∀ w ∈ wsX80, w ∈ wsX8_cross := fun w h => List.mem_cons_of_mem _ (List.mem_append_right _ h)
  unfold w8_cross at hw
  refine lv_aload_n hx hb dX8_cross_0 rfl (lv_at hl 0 rfl) ?_
  refine va_get (D := D) (ci := 8) (v := .ref (rf 1)) (C := RX8) (T := TX8) (N := 35) hx hb hts hi9 hown hK hP 0 rfl rfl 0 (by decide) g7 (fun _ h9 => h9) rfl dX8_cross_1 ?_
  refine lv_iload_n hx hb dX8_cross_4 rfl (lv_at hl 1 rfl) ?_
  obtain ⟨hin, hw⟩ := hw
  refine va_iald hx hb hK hP 1 0 rfl rfl hin dX8_cross_5 ?_
  refine lv_i2l hx hb dX8_cross_6 rfl ?_
  refine lv_aload_n hx hb dX8_cross_7 rfl (lv_at hl 0 rfl) ?_
  refine va_get (D := D) (ci := 8) (v := .ref (rf 2)) (C := RX8) (T := TX8) (N := 35) hx hb hts hi9 hown hK hP 0 rfl rfl 1 (by decide) g13 (fun _ h9 => h9) rfl dX8_cross_8 ?_
  refine lv_iload_n hx hb dX8_cross_11 rfl (lv_at hl 2 rfl) ?_
  obtain ⟨hin, hw⟩ := hw
  refine va_iald hx hb hK hP 2 0 rfl rfl hin dX8_cross_12 ?_
  refine lv_i2l hx hb dX8_cross_13 rfl ?_
  refine lv_lmul hx hb dX8_cross_14 ?_
  refine lv_aload_n hx hb dX8_cross_15 rfl (lv_at hl 0 rfl) ?_
  refine va_get (D := D) (ci := 8) (v := .ref (rf 2)) (C := RX8) (T := TX8) (N := 35) hx hb hts hi9 hown hK hP 0 rfl rfl 1 (by decide) g13 (fun _ h9 => h9) rfl dX8_cross_16 ?_
  refine lv_iload_n hx hb dX8_cross_19 rfl (lv_at hl 1 rfl) ?_
  obtain ⟨hin, hw⟩ := hw
  refine va_iald hx hb hK hP 2 0 rfl rfl hin dX8_cross_20 ?_
  refine lv_i2l hx hb dX8_cross_21 rfl ?_
  refine lv_aload_n hx hb dX8_cross_22 rfl (lv_at hl 0 rfl) ?_
  refine va_get (D := D) (ci := 8) (v := .ref (rf 1)) (C := RX8) (T := TX8) (N := 35) hx hb hts hi9 hown hK hP 0 rfl rfl 0 (by decide) g7 (fun _ h9 => h9) rfl dX8_cross_23 ?_
  refine lv_iload_n hx hb dX8_cross_26 rfl (lv_at hl 2 rfl) ?_
  obtain ⟨hin, hw⟩ := hw
  refine va_iald hx hb hK hP 1 0 rfl rfl hin dX8_cross_27 ?_
  refine lv_i2l hx hb dX8_cross_28 rfl ?_
  refine lv_lmul hx hb dX8_cross_29 ?_
  refine lv_lsub hx hb dX8_cross_30 ?_
  exact RET _ _ _ hw dX8_cross_31
abbrev rm8_compare : Room := { frames := 2, cells := 0, slots := 0, locals := 46 }
theorem nm8_compare : kNm yX8_compare 2 := by decide +kernel
set_option maxHeartbeats 4000000 in
set_option maxRecDepth 100000 in
theorem c8_compare (l : Launch) (D : va_G) (cI cJ cN cR : ClassId) (rf : Nat → Nat) (f_terms : Int32) (f_runs : Int32) (f_leftAbove : Int64) (f_leftBelow : Int64) (f_rightAbove : Int64) (f_rightBelow : Int64) (f_listed : Int32) (f_fed : Int32) (f_read : Int32) (f_formed : Int32) (f_hasSnapshot : Int32) (f_above : (Nat → Int32)) (f_below : (Nat → Int32)) (v1 : Int32) (v2 : Int32) (post : Int32 → Prop) (hw : w8_compare f_above f_below v1 v2 post) : Met l yX8_compare wsX8_compare rm8_compare (kR D (kT cI cJ cN cR) [.ref (rf 0), .int v1, .int v2] [((rf 0), o8 rf f_terms f_runs f_leftAbove f_leftBelow f_rightAbove f_rightBelow f_listed f_fed f_read f_formed f_hasSnapshot), ((rf 1), ai cI 8 f_above), ((rf 2), ai cI 8 f_below)]) (vp_Si post) 0 0 (fun _ => False) := by
  refine kMetRI (cc := cX8_compare) (maxL := 5) (by decide +kernel) rfl (Nat.le_of_ble_eq_true rfl) ?_
  intro p e s m args below meth c H ls Q C0 hK hN hP hl RET
  obtain ⟨hx, hb, hml, hown, hts⟩ := id C0
  have hl : lv_has ls 5 [(0, .ref (rf 0)), (1, .int v1), (2, .int v2)] := hl
  unfold w8_compare at hw
  refine lv_aload_n hx hb dX8_compare_0 rfl (lv_at hl 0 rfl) ?_
  refine lv_iload_n hx hb dX8_compare_1 rfl (lv_at hl 1 rfl) ?_
  refine kcRI (wc := [((rf 0), o8 rf f_terms f_runs f_leftAbove f_leftBelow f_rightAbove f_rightBelow f_listed f_fed f_read f_formed f_hasSnapshot)]) hP [0] rfl (fun hPc => oV (As := [.int v1]) (rest := []) C0 hK hN (c8_isRegister l D cI cJ cN cR rf f_terms f_runs f_leftAbove f_leftBelow f_rightAbove f_rightBelow f_listed f_fed f_read f_formed f_hasSnapshot v1 _ hw) 1 gX8_compare_X8_isRegister rfl ⟨rfl, rfl⟩ nm8_isRegister ⟨Nat.le_of_ble_eq_true rfl, Nat.le_of_ble_eq_true rfl⟩ (q0 := 0) rfl rfl rfl rfl hl.1 rfl (Nat.le_of_ble_eq_true rfl) dX8_compare_2 ⟨Nat.le_of_ble_eq_true rfl, Nat.le_of_ble_eq_true rfl⟩ hPc) (fun r2 hw => ?_)
  obtain ⟨nb2, hw⟩ := hw
  refine lv_if_eq (tgt := 16) hx hb dX8_compare_5 (by decide) (fun k => ?_) (fun k => ?_)
  · have hw := hw.1 k
    refine lv_iconst (v := (-1 : Int32)) hx hb dX8_compare_16 (by decide) ?_
    exact RET _ _ _ hw dX8_compare_17
  · have hw := hw.2 k
    refine lv_aload_n hx hb dX8_compare_8 rfl (lv_at hl 0 rfl) ?_
    refine lv_iload_n hx hb dX8_compare_9 rfl (lv_at hl 2 rfl) ?_
    refine kcRI (wc := [((rf 0), o8 rf f_terms f_runs f_leftAbove f_leftBelow f_rightAbove f_rightBelow f_listed f_fed f_read f_formed f_hasSnapshot)]) hP [0] rfl (fun hPc => oV (As := [.int v2]) (rest := []) C0 hK hN (c8_isRegister l D cI cJ cN cR rf f_terms f_runs f_leftAbove f_leftBelow f_rightAbove f_rightBelow f_listed f_fed f_read f_formed f_hasSnapshot v2 _ hw) 1 gX8_compare_X8_isRegister rfl ⟨rfl, rfl⟩ nm8_isRegister ⟨Nat.le_of_ble_eq_true rfl, Nat.le_of_ble_eq_true rfl⟩ (q0 := 0) rfl rfl rfl rfl hl.1 rfl (Nat.le_of_ble_eq_true rfl) dX8_compare_10 ⟨Nat.le_of_ble_eq_true rfl, Nat.le_of_ble_eq_true rfl⟩ hPc) (fun r10 hw => ?_)
    obtain ⟨nb10, hw⟩ := hw
    refine lv_if_ne (tgt := 18) hx hb dX8_compare_13 (by decide) (fun k => ?_) (fun k => ?_)
    · have hw := hw.1 k
      refine lv_aload_n hx hb dX8_compare_18 rfl (lv_at hl 0 rfl) ?_
      refine lv_iload_n hx hb dX8_compare_19 rfl (lv_at hl 1 rfl) ?_
      refine lv_iload_n hx hb dX8_compare_20 rfl (lv_at hl 2 rfl) ?_
      refine kcRL (wc := [((rf 0), o8 rf f_terms f_runs f_leftAbove f_leftBelow f_rightAbove f_rightBelow f_listed f_fed f_read f_formed f_hasSnapshot), ((rf 1), ai cI 8 f_above), ((rf 2), ai cI 8 f_below)]) hP [0, 1, 2] rfl (fun hPc => oV (As := [.int v1, .int v2]) (rest := []) C0 hK hN (c8_cross l D cI cJ cN cR rf f_terms f_runs f_leftAbove f_leftBelow f_rightAbove f_rightBelow f_listed f_fed f_read f_formed f_hasSnapshot f_above f_below v1 v2 _ hw) 2 gX8_compare_X8_cross rfl ⟨rfl, rfl⟩ nm8_cross ⟨Nat.le_of_ble_eq_true rfl, Nat.le_of_ble_eq_true rfl⟩ (q0 := 0) rfl rfl rfl rfl hl.1 rfl (Nat.le_of_ble_eq_true rfl) dX8_compare_21 ⟨Nat.le_of_ble_eq_true rfl, Nat.le_of_ble_eq_true rfl⟩ hPc) (fun r21 hw => ?_)
      refine lv_lstore_n (lv' := [(3, .long r21), (0, .ref (rf 0)), (1, .int v1), (2, .int v2)]) hx hb dX8_compare_24 rfl hl (by decide) rfl (fun ls hl => ?_)
      refine lv_lload_n hx hb dX8_compare_25 rfl (lv_at hl 0 rfl) ?_
      refine lv_lconst (v := (0 : Int64)) hx hb dX8_compare_26 (by decide) ?_
      refine W.lcmp hx hb dX8_compare_27 ?_
      refine lv_if_ge (tgt := 35) hx hb dX8_compare_28 (by decide) (fun k => ?_) (fun k => ?_)
      · have hw := hw.1 ((lg_cmp_ge _ _).mp k)
        refine lv_lload_n hx hb dX8_compare_35 rfl (lv_at hl 0 rfl) ?_
        refine lv_lconst (v := (0 : Int64)) hx hb dX8_compare_36 (by decide) ?_
        refine W.lcmp hx hb dX8_compare_37 ?_
        refine lv_if_ne (tgt := 45) hx hb dX8_compare_38 (by decide) (fun k => ?_) (fun k => ?_)
        · have hw := hw.1 (fun h => k ((lg_cmp_eq _ _).mpr h))
          refine lv_iconst (v := (2 : Int32)) hx hb dX8_compare_45 (by decide) ?_
          exact RET _ _ _ hw dX8_compare_46
        · have hw := hw.2 ((lg_cmp_eq _ _).mp k)
          refine lv_iconst (v := (1 : Int32)) hx hb dX8_compare_41 (by decide) ?_
          refine lv_goto (tgt := 46) hx hb dX8_compare_42 (by decide) ?_
          exact RET _ _ _ hw dX8_compare_46
      · have hw := hw.2 (fun h => k ((lg_cmp_ge _ _).mpr h))
        refine lv_iconst (v := (0 : Int32)) hx hb dX8_compare_31 (by decide) ?_
        refine lv_goto (tgt := 46) hx hb dX8_compare_32 (by decide) ?_
        exact RET _ _ _ hw dX8_compare_46
    · have hw := hw.2 k
      refine lv_iconst (v := (-1 : Int32)) hx hb dX8_compare_16 (by decide) ?_
      exact RET _ _ _ hw dX8_compare_17
abbrev rm8_combine : Room := { frames := 2, cells := 0, slots := 0, locals := 57 }
theorem nm8_combine : kNm yX8_combine 4 := by decide +kernel
set_option maxHeartbeats 4000000 in
set_option maxRecDepth 100000 in
theorem c8_combine (l : Launch) (D : va_G) (cI cJ cN cR : ClassId) (rf : Nat → Nat) (sz : Nat) (f_terms : Int32) (f_runs : Int32) (f_leftAbove : Int64) (f_leftBelow : Int64) (f_rightAbove : Int64) (f_rightBelow : Int64) (f_listed : Int32) (f_fed : Int32) (f_read : Int32) (f_formed : Int32) (f_hasSnapshot : Int32) (f_above : (Nat → Int32)) (f_below : (Nat → Int32)) (v1 : Int32) (v2 : Int32) (v3 : Int32) (v4 : Int32) (post : Int32 → (Nat → Int32) → (Nat → Int32) → Prop) (hw : w8_combine f_above f_below v1 v2 v3 v4 post) : Met l yX8_combine wsX8_combine rm8_combine (kP D (kT cI cJ cN cR) sz [.ref (rf 0), .int v1, .int v2, .int v3, .int v4] [((rf 0), o8 rf f_terms f_runs f_leftAbove f_leftBelow f_rightAbove f_rightBelow f_listed f_fed f_read f_formed f_hasSnapshot), ((rf 1), ai cI 8 f_above), ((rf 2), ai cI 8 f_below)]) (kQi D [((rf 0), o8 rf f_terms f_runs f_leftAbove f_leftBelow f_rightAbove f_rightBelow f_listed f_fed f_read f_formed f_hasSnapshot), ((rf 1), ai cI 8 f_above), ((rf 2), ai cI 8 f_below)] sz (fun (r : Int32) (u : (Nat → Int32) × (Nat → Int32)) => post r u.1 u.2) (fun (u : (Nat → Int32) × (Nat → Int32)) => [((rf 0), o8 rf f_terms f_runs f_leftAbove f_leftBelow f_rightAbove f_rightBelow f_listed f_fed f_read f_formed f_hasSnapshot), ((rf 1), ai cI 8 u.1), ((rf 2), ai cI 8 u.2)])) 0 0 (va_A [((rf 0), o8 rf f_terms f_runs f_leftAbove f_leftBelow f_rightAbove f_rightBelow f_listed f_fed f_read f_formed f_hasSnapshot), ((rf 1), ai cI 8 f_above), ((rf 2), ai cI 8 f_below)] sz) := by
  refine kMetI (cc := cX8_combine) (maxL := 13) (by decide +kernel) rfl (Nat.le_of_ble_eq_true rfl) ?_
  intro p e s m args below meth c H0 ls A Q C0 hK hN hP hD hS hA hl RET
  obtain ⟨hx, hb, hml, hown, hts⟩ := id C0
  have hl : lv_has ls 13 [(0, .ref (rf 0)), (1, .int v1), (2, .int v2), (3, .int v3), (4, .int v4)] := hl
  have g7 := hts (.fieldLink RX8 7 "SternBrocotExplorerModel" "above" "[I") (by decide +kernel)
  have g13 := hts (.fieldLink RX8 13 "SternBrocotExplorerModel" "below" "[I") (by decide +kernel)
  have hi9 : ∀ w ∈ wsX80, w ∈ wsX8_combine := fun w h => List.mem_cons_of_mem _ (List.mem_append_right _ h)
  unfold w8_combine at hw
  have hP : va_P D vwCl [((rf 0), o8 rf f_terms f_runs f_leftAbove f_leftBelow f_rightAbove f_rightBelow f_listed f_fed f_read f_formed f_hasSnapshot), ((rf 1), ai cI 8 f_above), ((rf 2), ai cI 8 f_below)] H0 := hP
  refine lv_aload_n hx hb dX8_combine_0 rfl (lv_at hl 0 rfl) ?_
  refine lv_iload_n hx hb dX8_combine_1 rfl (lv_at hl 1 rfl) ?_
  refine kcRI (wc := [((rf 0), o8 rf f_terms f_runs f_leftAbove f_leftBelow f_rightAbove f_rightBelow f_listed f_fed f_read f_formed f_hasSnapshot)]) hP [0] rfl (fun hPc => oV (As := [.int v1]) (rest := []) C0 hK hN (c8_isRegister l D cI cJ cN cR rf f_terms f_runs f_leftAbove f_leftBelow f_rightAbove f_rightBelow f_listed f_fed f_read f_formed f_hasSnapshot v1 _ hw) 1 gX8_combine_X8_isRegister rfl ⟨rfl, rfl⟩ nm8_isRegister ⟨Nat.le_of_ble_eq_true rfl, Nat.le_of_ble_eq_true rfl⟩ (q0 := 0) rfl rfl rfl rfl hl.1 rfl (Nat.le_of_ble_eq_true rfl) dX8_combine_2 ⟨Nat.le_of_ble_eq_true rfl, Nat.le_of_ble_eq_true rfl⟩ hPc) (fun r2 hw => ?_)
  obtain ⟨nb2, hw⟩ := hw
  refine lv_if_eq (tgt := 37) hx hb dX8_combine_5 (by decide) (fun k => ?_) (fun k => ?_)
  · have hw := hw.1 k
    refine lv_iconst (v := (-1 : Int32)) hx hb dX8_combine_37 (by decide) ?_
    exact RET _ _ _ (f_above, f_below) _ _ hw hP hD hS dX8_combine_38
  · have hw := hw.2 k
    refine lv_aload_n hx hb dX8_combine_8 rfl (lv_at hl 0 rfl) ?_
    refine lv_iload_n hx hb dX8_combine_9 rfl (lv_at hl 2 rfl) ?_
    refine kcRI (wc := [((rf 0), o8 rf f_terms f_runs f_leftAbove f_leftBelow f_rightAbove f_rightBelow f_listed f_fed f_read f_formed f_hasSnapshot)]) hP [0] rfl (fun hPc => oV (As := [.int v2]) (rest := []) C0 hK hN (c8_isRegister l D cI cJ cN cR rf f_terms f_runs f_leftAbove f_leftBelow f_rightAbove f_rightBelow f_listed f_fed f_read f_formed f_hasSnapshot v2 _ hw) 1 gX8_combine_X8_isRegister rfl ⟨rfl, rfl⟩ nm8_isRegister ⟨Nat.le_of_ble_eq_true rfl, Nat.le_of_ble_eq_true rfl⟩ (q0 := 0) rfl rfl rfl rfl hl.1 rfl (Nat.le_of_ble_eq_true rfl) dX8_combine_10 ⟨Nat.le_of_ble_eq_true rfl, Nat.le_of_ble_eq_true rfl⟩ hPc) (fun r10 hw => ?_)
    obtain ⟨nb10, hw⟩ := hw
    refine lv_if_eq (tgt := 37) hx hb dX8_combine_13 (by decide) (fun k => ?_) (fun k => ?_)
    · have hw := hw.1 k
      refine lv_iconst (v := (-1 : Int32)) hx hb dX8_combine_37 (by decide) ?_
      exact RET _ _ _ (f_above, f_below) _ _ hw hP hD hS dX8_combine_38
    · have hw := hw.2 k
      refine lv_aload_n hx hb dX8_combine_16 rfl (lv_at hl 0 rfl) ?_
      refine lv_iload_n hx hb dX8_combine_17 rfl (lv_at hl 3 rfl) ?_
      refine kcRI (wc := [((rf 0), o8 rf f_terms f_runs f_leftAbove f_leftBelow f_rightAbove f_rightBelow f_listed f_fed f_read f_formed f_hasSnapshot)]) hP [0] rfl (fun hPc => oV (As := [.int v3]) (rest := []) C0 hK hN (c8_isRegister l D cI cJ cN cR rf f_terms f_runs f_leftAbove f_leftBelow f_rightAbove f_rightBelow f_listed f_fed f_read f_formed f_hasSnapshot v3 _ hw) 1 gX8_combine_X8_isRegister rfl ⟨rfl, rfl⟩ nm8_isRegister ⟨Nat.le_of_ble_eq_true rfl, Nat.le_of_ble_eq_true rfl⟩ (q0 := 0) rfl rfl rfl rfl hl.1 rfl (Nat.le_of_ble_eq_true rfl) dX8_combine_18 ⟨Nat.le_of_ble_eq_true rfl, Nat.le_of_ble_eq_true rfl⟩ hPc) (fun r18 hw => ?_)
      obtain ⟨nb18, hw⟩ := hw
      refine lv_if_eq (tgt := 37) hx hb dX8_combine_21 (by decide) (fun k => ?_) (fun k => ?_)
      · have hw := hw.1 k
        refine lv_iconst (v := (-1 : Int32)) hx hb dX8_combine_37 (by decide) ?_
        exact RET _ _ _ (f_above, f_below) _ _ hw hP hD hS dX8_combine_38
      · have hw := hw.2 k
        refine lv_iload hx hb dX8_combine_24 (lv_at hl 4 rfl) ?_
        refine lv_i2l hx hb dX8_combine_26 rfl ?_
        refine lv_lconst (v := (0 : Int64)) hx hb dX8_combine_27 (by decide) ?_
        refine lv_ldc2 (v := (4 : Int64)) hx hb hown (hts (.constantLong RX8 143 (4)) (by decide +kernel)) dX8_combine_28 ?_
        refine kcRI (wc := []) hP [] rfl (fun hPc => oS (As := [.long v4.toInt64, .long (0 : Int64), .long (4 : Int64)]) (rest := []) C0 hK hN (c8_within l D cI cJ cN cR   v4.toInt64 (0 : Int64) (4 : Int64) _ hw) 3 gX8_combine_X8_within rfl ⟨rfl, rfl⟩ nm8_within ⟨Nat.le_of_ble_eq_true rfl, Nat.le_of_ble_eq_true rfl⟩ rfl hl.1 rfl (Nat.le_of_ble_eq_true rfl) dX8_combine_31 ⟨Nat.le_of_ble_eq_true rfl, Nat.le_of_ble_eq_true rfl⟩ hPc) (fun r31 hw => ?_)
        obtain ⟨nb31, hw⟩ := hw
        refine lv_if_ne (tgt := 39) hx hb dX8_combine_34 (by decide) (fun k => ?_) (fun k => ?_)
        · have hw := hw.1 k
          refine lv_aload_n hx hb dX8_combine_39 rfl (lv_at hl 0 rfl) ?_
          refine va_get (D := D) (ci := 8) (v := .ref (rf 1)) (C := RX8) (T := TX8) (N := 35) hx hb hts hi9 hown hK hP 0 rfl rfl 0 (by decide) g7 (fun _ h9 => h9) rfl dX8_combine_40 ?_
          refine lv_iload_n hx hb dX8_combine_43 rfl (lv_at hl 2 rfl) ?_
          obtain ⟨hin, hw⟩ := hw
          refine va_iald hx hb hK hP 1 0 rfl rfl hin dX8_combine_44 ?_
          refine lv_i2l hx hb dX8_combine_45 rfl ?_
          refine lv_topl (fun x46 ex46 => ?_)
          have hw := hw x46 ex46
          refine lv_lstore (lv' := [(5, .long x46), (0, .ref (rf 0)), (1, .int v1), (2, .int v2), (3, .int v3), (4, .int v4)]) hx hb dX8_combine_46 hl (by decide) rfl (fun ls hl => ?_)
          refine lv_aload_n hx hb dX8_combine_48 rfl (lv_at hl 1 rfl) ?_
          refine va_get (D := D) (ci := 8) (v := .ref (rf 2)) (C := RX8) (T := TX8) (N := 35) hx hb hts hi9 hown hK hP 0 rfl rfl 1 (by decide) g13 (fun _ h9 => h9) rfl dX8_combine_49 ?_
          refine lv_iload_n hx hb dX8_combine_52 rfl (lv_at hl 3 rfl) ?_
          obtain ⟨hin, hw⟩ := hw
          refine va_iald hx hb hK hP 2 0 rfl rfl hin dX8_combine_53 ?_
          refine lv_i2l hx hb dX8_combine_54 rfl ?_
          refine lv_topl (fun x55 ex55 => ?_)
          have hw := hw x55 ex55
          refine lv_lstore (lv' := [(7, .long x55), (5, .long x46), (0, .ref (rf 0)), (1, .int v1), (2, .int v2), (3, .int v3), (4, .int v4)]) hx hb dX8_combine_55 hl (by decide) rfl (fun ls hl => ?_)
          refine lv_aload_n hx hb dX8_combine_57 rfl (lv_at hl 2 rfl) ?_
          refine va_get (D := D) (ci := 8) (v := .ref (rf 1)) (C := RX8) (T := TX8) (N := 35) hx hb hts hi9 hown hK hP 0 rfl rfl 0 (by decide) g7 (fun _ h9 => h9) rfl dX8_combine_58 ?_
          refine lv_iload_n hx hb dX8_combine_61 rfl (lv_at hl 5 rfl) ?_
          obtain ⟨hin, hw⟩ := hw
          refine va_iald hx hb hK hP 1 0 rfl rfl hin dX8_combine_62 ?_
          refine lv_i2l hx hb dX8_combine_63 rfl ?_
          refine lv_topl (fun x64 ex64 => ?_)
          have hw := hw x64 ex64
          refine lv_lstore (lv' := [(9, .long x64), (7, .long x55), (5, .long x46), (0, .ref (rf 0)), (1, .int v1), (2, .int v2), (3, .int v3), (4, .int v4)]) hx hb dX8_combine_64 hl (by decide) rfl (fun ls hl => ?_)
          refine lv_aload_n hx hb dX8_combine_66 rfl (lv_at hl 3 rfl) ?_
          refine va_get (D := D) (ci := 8) (v := .ref (rf 2)) (C := RX8) (T := TX8) (N := 35) hx hb hts hi9 hown hK hP 0 rfl rfl 1 (by decide) g13 (fun _ h9 => h9) rfl dX8_combine_67 ?_
          refine lv_iload_n hx hb dX8_combine_70 rfl (lv_at hl 6 rfl) ?_
          obtain ⟨hin, hw⟩ := hw
          refine va_iald hx hb hK hP 2 0 rfl rfl hin dX8_combine_71 ?_
          refine lv_i2l hx hb dX8_combine_72 rfl ?_
          refine lv_topl (fun x73 ex73 => ?_)
          have hw := hw x73 ex73
          refine lv_lstore (lv' := [(11, .long x73), (9, .long x64), (7, .long x55), (5, .long x46), (0, .ref (rf 0)), (1, .int v1), (2, .int v2), (3, .int v3), (4, .int v4)]) hx hb dX8_combine_73 hl (by decide) rfl (fun ls hl => ?_)
          refine lv_iload hx hb dX8_combine_75 (lv_at hl 8 rfl) ?_
          by_cases ho : v4.toInt < 0 ∨ 3 < v4.toInt
          · have hw := hw.1 ho
            refine lv_tableOut (tgt := 203) hx hb dX8_combine_77 ho (by decide) ?_
            refine lv_aload_n hx hb dX8_combine_203 rfl (lv_at hl 4 rfl) ?_
            refine lv_iload_n hx hb dX8_combine_204 rfl (lv_at hl 5 rfl) ?_
            refine lv_lload hx hb dX8_combine_205 (lv_at hl 3 rfl) ?_
            refine lv_lload hx hb dX8_combine_207 (lv_at hl 1 rfl) ?_
            refine lv_ladd hx hb dX8_combine_209 ?_
            refine lv_lload hx hb dX8_combine_210 (lv_at hl 2 rfl) ?_
            refine lv_lload hx hb dX8_combine_212 (lv_at hl 0 rfl) ?_
            refine lv_ladd hx hb dX8_combine_214 ?_
            refine kcI (wc := [((rf 0), o8 rf f_terms f_runs f_leftAbove f_leftBelow f_rightAbove f_rightBelow f_listed f_fed f_read f_formed f_hasSnapshot), ((rf 1), ai cI 8 f_above), ((rf 2), ai cI 8 f_below)]) (wr := []) hP hD hS hA [0, 1, 2] [] rfl rfl ⟨rfl, rfl, by decide⟩ (fun hPc hDc => rV (As := [.int v1, .long (x46 + x64), .long (x55 + x73)]) (rest := []) C0 hK hN (c8_put l D cI cJ cN cR rf H0.size f_terms f_runs f_leftAbove f_leftBelow f_rightAbove f_rightBelow f_listed f_fed f_read f_formed f_hasSnapshot f_above f_below v1 (x46 + x64) (x55 + x73) _ hw) 3 gX8_combine_X8_put rfl ⟨rfl, rfl⟩ nm8_put ⟨Nat.le_of_ble_eq_true rfl, Nat.le_of_ble_eq_true rfl⟩ (q0 := 0) rfl rfl rfl rfl hl.1 rfl (Nat.le_of_ble_eq_true rfl) dX8_combine_215 ⟨Nat.le_of_ble_eq_true rfl, Nat.le_of_ble_eq_true rfl⟩ hPc hDc) (fun r215 u215 H locs hw hP hD hS => ?_)
            obtain ⟨f_above_215, f_below_215⟩ := u215
            dsimp only at hw
            have hP : va_P D vwCl [((rf 0), o8 rf f_terms f_runs f_leftAbove f_leftBelow f_rightAbove f_rightBelow f_listed f_fed f_read f_formed f_hasSnapshot), ((rf 1), ai cI 8 f_above_215), ((rf 2), ai cI 8 f_below_215)] H := hP
            have hD : va_D A [((rf 0), o8 rf f_terms f_runs f_leftAbove f_leftBelow f_rightAbove f_rightBelow f_listed f_fed f_read f_formed f_hasSnapshot), ((rf 1), ai cI 8 f_above_215), ((rf 2), ai cI 8 f_below_215)] := hD
            exact RET _ _ _ (f_above_215, f_below_215) _ _ hw hP hD hS dX8_combine_218
          rcases (show v4.toInt = 0 ∨ v4.toInt = 1 ∨ v4.toInt = 2 ∨ v4.toInt = 3 by omega) with h9 | h9 | h9 | h9
          · have hw := hw.2.1 (Int32.toInt_inj.mp (h9.trans (by decide)))
            refine lv_tableIn (tgt := 108) hx hb dX8_combine_77 (by rw [h9]; decide) (by rw [h9]; decide) (by rw [h9]; rfl) (by decide) ?_
            refine lv_aload_n hx hb dX8_combine_108 rfl (lv_at hl 4 rfl) ?_
            refine lv_iload_n hx hb dX8_combine_109 rfl (lv_at hl 5 rfl) ?_
            refine lv_lload hx hb dX8_combine_110 (lv_at hl 3 rfl) ?_
            refine lv_lload hx hb dX8_combine_112 (lv_at hl 0 rfl) ?_
            refine lv_lmul hx hb dX8_combine_114 ?_
            refine lv_lload hx hb dX8_combine_115 (lv_at hl 1 rfl) ?_
            refine lv_lload hx hb dX8_combine_117 (lv_at hl 2 rfl) ?_
            refine lv_lmul hx hb dX8_combine_119 ?_
            refine lv_ladd hx hb dX8_combine_120 ?_
            refine lv_lload hx hb dX8_combine_121 (lv_at hl 2 rfl) ?_
            refine lv_lload hx hb dX8_combine_123 (lv_at hl 0 rfl) ?_
            refine lv_lmul hx hb dX8_combine_125 ?_
            refine kcI (wc := [((rf 0), o8 rf f_terms f_runs f_leftAbove f_leftBelow f_rightAbove f_rightBelow f_listed f_fed f_read f_formed f_hasSnapshot), ((rf 1), ai cI 8 f_above), ((rf 2), ai cI 8 f_below)]) (wr := []) hP hD hS hA [0, 1, 2] [] rfl rfl ⟨rfl, rfl, by decide⟩ (fun hPc hDc => rV (As := [.int v1, .long ((x46 * x73) + (x64 * x55)), .long (x55 * x73)]) (rest := []) C0 hK hN (c8_put l D cI cJ cN cR rf H0.size f_terms f_runs f_leftAbove f_leftBelow f_rightAbove f_rightBelow f_listed f_fed f_read f_formed f_hasSnapshot f_above f_below v1 ((x46 * x73) + (x64 * x55)) (x55 * x73) _ hw) 3 gX8_combine_X8_put rfl ⟨rfl, rfl⟩ nm8_put ⟨Nat.le_of_ble_eq_true rfl, Nat.le_of_ble_eq_true rfl⟩ (q0 := 0) rfl rfl rfl rfl hl.1 rfl (Nat.le_of_ble_eq_true rfl) dX8_combine_126 ⟨Nat.le_of_ble_eq_true rfl, Nat.le_of_ble_eq_true rfl⟩ hPc hDc) (fun r126 u126 H locs hw hP hD hS => ?_)
            obtain ⟨f_above_126, f_below_126⟩ := u126
            dsimp only at hw
            have hP : va_P D vwCl [((rf 0), o8 rf f_terms f_runs f_leftAbove f_leftBelow f_rightAbove f_rightBelow f_listed f_fed f_read f_formed f_hasSnapshot), ((rf 1), ai cI 8 f_above_126), ((rf 2), ai cI 8 f_below_126)] H := hP
            have hD : va_D A [((rf 0), o8 rf f_terms f_runs f_leftAbove f_leftBelow f_rightAbove f_rightBelow f_listed f_fed f_read f_formed f_hasSnapshot), ((rf 1), ai cI 8 f_above_126), ((rf 2), ai cI 8 f_below_126)] := hD
            exact RET _ _ _ (f_above_126, f_below_126) _ _ hw hP hD hS dX8_combine_129
          · have hw := hw.2.2.1 (Int32.toInt_inj.mp (h9.trans (by decide)))
            refine lv_tableIn (tgt := 130) hx hb dX8_combine_77 (by rw [h9]; decide) (by rw [h9]; decide) (by rw [h9]; rfl) (by decide) ?_
            refine lv_lload hx hb dX8_combine_130 (lv_at hl 3 rfl) ?_
            refine lv_lload hx hb dX8_combine_132 (lv_at hl 0 rfl) ?_
            refine lv_lmul hx hb dX8_combine_134 ?_
            refine lv_lload hx hb dX8_combine_135 (lv_at hl 1 rfl) ?_
            refine lv_lload hx hb dX8_combine_137 (lv_at hl 2 rfl) ?_
            refine lv_lmul hx hb dX8_combine_139 ?_
            refine W.lcmp hx hb dX8_combine_140 ?_
            refine lv_if_gt (tgt := 149) hx hb dX8_combine_141 (by decide) (fun k => ?_) (fun k => ?_)
            · have hw := hw.1 ((lg_cmp_gt _ _).mp k)
              refine lv_aload_n hx hb dX8_combine_149 rfl (lv_at hl 4 rfl) ?_
              refine lv_iload_n hx hb dX8_combine_150 rfl (lv_at hl 5 rfl) ?_
              refine lv_lload hx hb dX8_combine_151 (lv_at hl 3 rfl) ?_
              refine lv_lload hx hb dX8_combine_153 (lv_at hl 0 rfl) ?_
              refine lv_lmul hx hb dX8_combine_155 ?_
              refine lv_lload hx hb dX8_combine_156 (lv_at hl 1 rfl) ?_
              refine lv_lload hx hb dX8_combine_158 (lv_at hl 2 rfl) ?_
              refine lv_lmul hx hb dX8_combine_160 ?_
              refine lv_lsub hx hb dX8_combine_161 ?_
              refine lv_lload hx hb dX8_combine_162 (lv_at hl 2 rfl) ?_
              refine lv_lload hx hb dX8_combine_164 (lv_at hl 0 rfl) ?_
              refine lv_lmul hx hb dX8_combine_166 ?_
              refine kcI (wc := [((rf 0), o8 rf f_terms f_runs f_leftAbove f_leftBelow f_rightAbove f_rightBelow f_listed f_fed f_read f_formed f_hasSnapshot), ((rf 1), ai cI 8 f_above), ((rf 2), ai cI 8 f_below)]) (wr := []) hP hD hS hA [0, 1, 2] [] rfl rfl ⟨rfl, rfl, by decide⟩ (fun hPc hDc => rV (As := [.int v1, .long ((x46 * x73) - (x64 * x55)), .long (x55 * x73)]) (rest := []) C0 hK hN (c8_put l D cI cJ cN cR rf H0.size f_terms f_runs f_leftAbove f_leftBelow f_rightAbove f_rightBelow f_listed f_fed f_read f_formed f_hasSnapshot f_above f_below v1 ((x46 * x73) - (x64 * x55)) (x55 * x73) _ hw) 3 gX8_combine_X8_put rfl ⟨rfl, rfl⟩ nm8_put ⟨Nat.le_of_ble_eq_true rfl, Nat.le_of_ble_eq_true rfl⟩ (q0 := 0) rfl rfl rfl rfl hl.1 rfl (Nat.le_of_ble_eq_true rfl) dX8_combine_167 ⟨Nat.le_of_ble_eq_true rfl, Nat.le_of_ble_eq_true rfl⟩ hPc hDc) (fun r167 u167 H locs hw hP hD hS => ?_)
              obtain ⟨f_above_167, f_below_167⟩ := u167
              dsimp only at hw
              have hP : va_P D vwCl [((rf 0), o8 rf f_terms f_runs f_leftAbove f_leftBelow f_rightAbove f_rightBelow f_listed f_fed f_read f_formed f_hasSnapshot), ((rf 1), ai cI 8 f_above_167), ((rf 2), ai cI 8 f_below_167)] H := hP
              have hD : va_D A [((rf 0), o8 rf f_terms f_runs f_leftAbove f_leftBelow f_rightAbove f_rightBelow f_listed f_fed f_read f_formed f_hasSnapshot), ((rf 1), ai cI 8 f_above_167), ((rf 2), ai cI 8 f_below_167)] := hD
              exact RET _ _ _ (f_above_167, f_below_167) _ _ hw hP hD hS dX8_combine_170
            · have hw := hw.2 (fun h => k ((lg_cmp_gt _ _).mpr h))
              refine lv_bipush (v := (-4 : Int32)) hx hb dX8_combine_144 (by decide) ?_
              refine lv_goto (tgt := 170) hx hb dX8_combine_146 (by decide) ?_
              exact RET _ _ _ (f_above, f_below) _ _ hw hP hD hS dX8_combine_170
          · have hw := hw.2.2.2.1 (Int32.toInt_inj.mp (h9.trans (by decide)))
            refine lv_tableIn (tgt := 171) hx hb dX8_combine_77 (by rw [h9]; decide) (by rw [h9]; decide) (by rw [h9]; rfl) (by decide) ?_
            refine lv_aload_n hx hb dX8_combine_171 rfl (lv_at hl 4 rfl) ?_
            refine lv_iload_n hx hb dX8_combine_172 rfl (lv_at hl 5 rfl) ?_
            refine lv_lload hx hb dX8_combine_173 (lv_at hl 3 rfl) ?_
            refine lv_lload hx hb dX8_combine_175 (lv_at hl 1 rfl) ?_
            refine lv_lmul hx hb dX8_combine_177 ?_
            refine lv_lload hx hb dX8_combine_178 (lv_at hl 2 rfl) ?_
            refine lv_lload hx hb dX8_combine_180 (lv_at hl 0 rfl) ?_
            refine lv_lmul hx hb dX8_combine_182 ?_
            refine kcI (wc := [((rf 0), o8 rf f_terms f_runs f_leftAbove f_leftBelow f_rightAbove f_rightBelow f_listed f_fed f_read f_formed f_hasSnapshot), ((rf 1), ai cI 8 f_above), ((rf 2), ai cI 8 f_below)]) (wr := []) hP hD hS hA [0, 1, 2] [] rfl rfl ⟨rfl, rfl, by decide⟩ (fun hPc hDc => rV (As := [.int v1, .long (x46 * x64), .long (x55 * x73)]) (rest := []) C0 hK hN (c8_put l D cI cJ cN cR rf H0.size f_terms f_runs f_leftAbove f_leftBelow f_rightAbove f_rightBelow f_listed f_fed f_read f_formed f_hasSnapshot f_above f_below v1 (x46 * x64) (x55 * x73) _ hw) 3 gX8_combine_X8_put rfl ⟨rfl, rfl⟩ nm8_put ⟨Nat.le_of_ble_eq_true rfl, Nat.le_of_ble_eq_true rfl⟩ (q0 := 0) rfl rfl rfl rfl hl.1 rfl (Nat.le_of_ble_eq_true rfl) dX8_combine_183 ⟨Nat.le_of_ble_eq_true rfl, Nat.le_of_ble_eq_true rfl⟩ hPc hDc) (fun r183 u183 H locs hw hP hD hS => ?_)
            obtain ⟨f_above_183, f_below_183⟩ := u183
            dsimp only at hw
            have hP : va_P D vwCl [((rf 0), o8 rf f_terms f_runs f_leftAbove f_leftBelow f_rightAbove f_rightBelow f_listed f_fed f_read f_formed f_hasSnapshot), ((rf 1), ai cI 8 f_above_183), ((rf 2), ai cI 8 f_below_183)] H := hP
            have hD : va_D A [((rf 0), o8 rf f_terms f_runs f_leftAbove f_leftBelow f_rightAbove f_rightBelow f_listed f_fed f_read f_formed f_hasSnapshot), ((rf 1), ai cI 8 f_above_183), ((rf 2), ai cI 8 f_below_183)] := hD
            exact RET _ _ _ (f_above_183, f_below_183) _ _ hw hP hD hS dX8_combine_186
          · have hw := hw.2.2.2.2 (Int32.toInt_inj.mp (h9.trans (by decide)))
            refine lv_tableIn (tgt := 187) hx hb dX8_combine_77 (by rw [h9]; decide) (by rw [h9]; decide) (by rw [h9]; rfl) (by decide) ?_
            refine lv_aload_n hx hb dX8_combine_187 rfl (lv_at hl 4 rfl) ?_
            refine lv_iload_n hx hb dX8_combine_188 rfl (lv_at hl 5 rfl) ?_
            refine lv_lload hx hb dX8_combine_189 (lv_at hl 3 rfl) ?_
            refine lv_lload hx hb dX8_combine_191 (lv_at hl 0 rfl) ?_
            refine lv_lmul hx hb dX8_combine_193 ?_
            refine lv_lload hx hb dX8_combine_194 (lv_at hl 2 rfl) ?_
            refine lv_lload hx hb dX8_combine_196 (lv_at hl 1 rfl) ?_
            refine lv_lmul hx hb dX8_combine_198 ?_
            refine kcI (wc := [((rf 0), o8 rf f_terms f_runs f_leftAbove f_leftBelow f_rightAbove f_rightBelow f_listed f_fed f_read f_formed f_hasSnapshot), ((rf 1), ai cI 8 f_above), ((rf 2), ai cI 8 f_below)]) (wr := []) hP hD hS hA [0, 1, 2] [] rfl rfl ⟨rfl, rfl, by decide⟩ (fun hPc hDc => rV (As := [.int v1, .long (x46 * x73), .long (x55 * x64)]) (rest := []) C0 hK hN (c8_put l D cI cJ cN cR rf H0.size f_terms f_runs f_leftAbove f_leftBelow f_rightAbove f_rightBelow f_listed f_fed f_read f_formed f_hasSnapshot f_above f_below v1 (x46 * x73) (x55 * x64) _ hw) 3 gX8_combine_X8_put rfl ⟨rfl, rfl⟩ nm8_put ⟨Nat.le_of_ble_eq_true rfl, Nat.le_of_ble_eq_true rfl⟩ (q0 := 0) rfl rfl rfl rfl hl.1 rfl (Nat.le_of_ble_eq_true rfl) dX8_combine_199 ⟨Nat.le_of_ble_eq_true rfl, Nat.le_of_ble_eq_true rfl⟩ hPc hDc) (fun r199 u199 H locs hw hP hD hS => ?_)
            obtain ⟨f_above_199, f_below_199⟩ := u199
            dsimp only at hw
            have hP : va_P D vwCl [((rf 0), o8 rf f_terms f_runs f_leftAbove f_leftBelow f_rightAbove f_rightBelow f_listed f_fed f_read f_formed f_hasSnapshot), ((rf 1), ai cI 8 f_above_199), ((rf 2), ai cI 8 f_below_199)] H := hP
            have hD : va_D A [((rf 0), o8 rf f_terms f_runs f_leftAbove f_leftBelow f_rightAbove f_rightBelow f_listed f_fed f_read f_formed f_hasSnapshot), ((rf 1), ai cI 8 f_above_199), ((rf 2), ai cI 8 f_below_199)] := hD
            exact RET _ _ _ (f_above_199, f_below_199) _ _ hw hP hD hS dX8_combine_202
        · have hw := hw.2 k
          refine lv_iconst (v := (-1 : Int32)) hx hb dX8_combine_37 (by decide) ?_
          exact RET _ _ _ (f_above, f_below) _ _ hw hP hD hS dX8_combine_38
abbrev rm8_determinant : Room := { frames := 2, cells := 0, slots := 0, locals := 46 }
theorem nm8_determinant : kNm yX8_determinant 2 := by decide +kernel
set_option maxHeartbeats 4000000 in
set_option maxRecDepth 100000 in
theorem c8_determinant (l : Launch) (D : va_G) (cI cJ cN cR : ClassId) (rf : Nat → Nat) (f_terms : Int32) (f_runs : Int32) (f_leftAbove : Int64) (f_leftBelow : Int64) (f_rightAbove : Int64) (f_rightBelow : Int64) (f_listed : Int32) (f_fed : Int32) (f_read : Int32) (f_formed : Int32) (f_hasSnapshot : Int32) (f_above : (Nat → Int32)) (f_below : (Nat → Int32)) (v1 : Int32) (v2 : Int32) (post : Int64 → Prop) (hw : w8_determinant f_above f_below v1 v2 post) : Met l yX8_determinant wsX8_determinant rm8_determinant (kR D (kT cI cJ cN cR) [.ref (rf 0), .int v1, .int v2] [((rf 0), o8 rf f_terms f_runs f_leftAbove f_leftBelow f_rightAbove f_rightBelow f_listed f_fed f_read f_formed f_hasSnapshot), ((rf 1), ai cI 8 f_above), ((rf 2), ai cI 8 f_below)]) (vp_Sl post) 0 0 (fun _ => False) := by
  refine kMetRL (cc := cX8_determinant) (maxL := 3) (by decide +kernel) rfl (Nat.le_of_ble_eq_true rfl) ?_
  intro p e s m args below meth c H ls Q C0 hK hN hP hl RET
  obtain ⟨hx, hb, hml, hown, hts⟩ := id C0
  have hl : lv_has ls 3 [(0, .ref (rf 0)), (1, .int v1), (2, .int v2)] := hl
  unfold w8_determinant at hw
  refine lv_aload_n hx hb dX8_determinant_0 rfl (lv_at hl 0 rfl) ?_
  refine lv_iload_n hx hb dX8_determinant_1 rfl (lv_at hl 1 rfl) ?_
  refine kcRI (wc := [((rf 0), o8 rf f_terms f_runs f_leftAbove f_leftBelow f_rightAbove f_rightBelow f_listed f_fed f_read f_formed f_hasSnapshot)]) hP [0] rfl (fun hPc => oV (As := [.int v1]) (rest := []) C0 hK hN (c8_isRegister l D cI cJ cN cR rf f_terms f_runs f_leftAbove f_leftBelow f_rightAbove f_rightBelow f_listed f_fed f_read f_formed f_hasSnapshot v1 _ hw) 1 gX8_determinant_X8_isRegister rfl ⟨rfl, rfl⟩ nm8_isRegister ⟨Nat.le_of_ble_eq_true rfl, Nat.le_of_ble_eq_true rfl⟩ (q0 := 0) rfl rfl rfl rfl hl.1 rfl (Nat.le_of_ble_eq_true rfl) dX8_determinant_2 ⟨Nat.le_of_ble_eq_true rfl, Nat.le_of_ble_eq_true rfl⟩ hPc) (fun r2 hw => ?_)
  obtain ⟨nb2, hw⟩ := hw
  refine lv_if_eq (tgt := 25) hx hb dX8_determinant_5 (by decide) (fun k => ?_) (fun k => ?_)
  · have hw := hw.1 k
    refine lv_ldc2 (v := (-9223372036854775808 : Int64)) hx hb hown (hts (.constantLong RX8 145 (-9223372036854775808)) (by decide +kernel)) dX8_determinant_25 ?_
    exact RET _ _ _ hw dX8_determinant_28
  · have hw := hw.2 k
    refine lv_aload_n hx hb dX8_determinant_8 rfl (lv_at hl 0 rfl) ?_
    refine lv_iload_n hx hb dX8_determinant_9 rfl (lv_at hl 2 rfl) ?_
    refine kcRI (wc := [((rf 0), o8 rf f_terms f_runs f_leftAbove f_leftBelow f_rightAbove f_rightBelow f_listed f_fed f_read f_formed f_hasSnapshot)]) hP [0] rfl (fun hPc => oV (As := [.int v2]) (rest := []) C0 hK hN (c8_isRegister l D cI cJ cN cR rf f_terms f_runs f_leftAbove f_leftBelow f_rightAbove f_rightBelow f_listed f_fed f_read f_formed f_hasSnapshot v2 _ hw) 1 gX8_determinant_X8_isRegister rfl ⟨rfl, rfl⟩ nm8_isRegister ⟨Nat.le_of_ble_eq_true rfl, Nat.le_of_ble_eq_true rfl⟩ (q0 := 0) rfl rfl rfl rfl hl.1 rfl (Nat.le_of_ble_eq_true rfl) dX8_determinant_10 ⟨Nat.le_of_ble_eq_true rfl, Nat.le_of_ble_eq_true rfl⟩ hPc) (fun r10 hw => ?_)
    obtain ⟨nb10, hw⟩ := hw
    refine lv_if_eq (tgt := 25) hx hb dX8_determinant_13 (by decide) (fun k => ?_) (fun k => ?_)
    · have hw := hw.1 k
      refine lv_ldc2 (v := (-9223372036854775808 : Int64)) hx hb hown (hts (.constantLong RX8 145 (-9223372036854775808)) (by decide +kernel)) dX8_determinant_25 ?_
      exact RET _ _ _ hw dX8_determinant_28
    · have hw := hw.2 k
      refine lv_aload_n hx hb dX8_determinant_16 rfl (lv_at hl 0 rfl) ?_
      refine lv_iload_n hx hb dX8_determinant_17 rfl (lv_at hl 1 rfl) ?_
      refine lv_iload_n hx hb dX8_determinant_18 rfl (lv_at hl 2 rfl) ?_
      refine kcRL (wc := [((rf 0), o8 rf f_terms f_runs f_leftAbove f_leftBelow f_rightAbove f_rightBelow f_listed f_fed f_read f_formed f_hasSnapshot), ((rf 1), ai cI 8 f_above), ((rf 2), ai cI 8 f_below)]) hP [0, 1, 2] rfl (fun hPc => oV (As := [.int v1, .int v2]) (rest := []) C0 hK hN (c8_cross l D cI cJ cN cR rf f_terms f_runs f_leftAbove f_leftBelow f_rightAbove f_rightBelow f_listed f_fed f_read f_formed f_hasSnapshot f_above f_below v1 v2 _ hw) 2 gX8_determinant_X8_cross rfl ⟨rfl, rfl⟩ nm8_cross ⟨Nat.le_of_ble_eq_true rfl, Nat.le_of_ble_eq_true rfl⟩ (q0 := 0) rfl rfl rfl rfl hl.1 rfl (Nat.le_of_ble_eq_true rfl) dX8_determinant_19 ⟨Nat.le_of_ble_eq_true rfl, Nat.le_of_ble_eq_true rfl⟩ hPc) (fun r19 hw => ?_)
      refine lv_goto (tgt := 28) hx hb dX8_determinant_22 (by decide) ?_
      exact RET _ _ _ hw dX8_determinant_28
abbrev rm8_layTerms : Room := { frames := 0, cells := 0, slots := 0, locals := 0 }
theorem nm8_layTerms : kNm yX8_layTerms 2 := by decide +kernel
set_option maxHeartbeats 4000000 in
set_option maxRecDepth 100000 in
theorem c8_layTerms (l : Launch) (D : va_G) (cI cJ cN cR : ClassId) (rf : Nat → Nat) (sz : Nat) (f_terms : Int32) (f_runs : Int32) (f_leftAbove : Int64) (f_leftBelow : Int64) (f_rightAbove : Int64) (f_rightBelow : Int64) (f_listed : Int32) (f_fed : Int32) (f_read : Int32) (f_formed : Int32) (f_hasSnapshot : Int32) (f_term : (Nat → Int32)) (v1 : Int32) (v2 : Int32) (post : Int32 → (Nat → Int32) → Prop) (hw : w8_layTerms f_terms f_term v1 v2 post) : Met l yX8_layTerms wsX8_layTerms rm8_layTerms (kP D (kT cI cJ cN cR) sz [.ref (rf 0), .int v1, .int v2] [((rf 0), o8 rf f_terms f_runs f_leftAbove f_leftBelow f_rightAbove f_rightBelow f_listed f_fed f_read f_formed f_hasSnapshot), ((rf 3), ai cI 64 f_term)]) (kQv D [((rf 0), o8 rf f_terms f_runs f_leftAbove f_leftBelow f_rightAbove f_rightBelow f_listed f_fed f_read f_formed f_hasSnapshot), ((rf 3), ai cI 64 f_term)] sz (fun (u : Int32 × (Nat → Int32)) => post u.1 u.2) (fun (u : Int32 × (Nat → Int32)) => [((rf 0), o8 rf u.1 f_runs f_leftAbove f_leftBelow f_rightAbove f_rightBelow f_listed f_fed f_read f_formed f_hasSnapshot), ((rf 3), ai cI 64 u.2)])) 0 0 (va_A [((rf 0), o8 rf f_terms f_runs f_leftAbove f_leftBelow f_rightAbove f_rightBelow f_listed f_fed f_read f_formed f_hasSnapshot), ((rf 3), ai cI 64 f_term)] sz) := by
  refine kMetV (cc := cX8_layTerms) (maxL := 6) (by decide +kernel) rfl (Nat.le_of_ble_eq_true rfl) ?_
  intro p e s m args below meth c H0 ls A Q C0 hK hN hP hD hS hA hl RET
  obtain ⟨hx, hb, hml, hown, hts⟩ := id C0
  have hl : lv_has ls 6 [(0, .ref (rf 0)), (1, .int v1), (2, .int v2)] := hl
  have g25 := hts (.fieldLink RX8 25 "SternBrocotExplorerModel" "terms" "I") (by decide +kernel)
  have g16 := hts (.fieldLink RX8 16 "SternBrocotExplorerModel" "term" "[I") (by decide +kernel)
  have hi9 : ∀ w ∈ wsX80, w ∈ wsX8_layTerms := fun w h => List.mem_cons_of_mem _ (List.mem_append_right _ h)
  unfold w8_layTerms at hw
  have hP : va_P D vwCl [((rf 0), o8 rf f_terms f_runs f_leftAbove f_leftBelow f_rightAbove f_rightBelow f_listed f_fed f_read f_formed f_hasSnapshot), ((rf 3), ai cI 64 f_term)] H0 := hP
  refine lv_aload_n hx hb dX8_layTerms_0 rfl (lv_at hl 0 rfl) ?_
  refine lv_iconst (v := (0 : Int32)) hx hb dX8_layTerms_1 (by decide) ?_
  refine va_put (D := D) (ci := 8) (v := .int (0 : Int32)) (ty := .int) (C := RX8) (T := TX8) (N := 35) hx hb hts hi9 tyX8 tyX8_ok nmX8 hown hK hP hD hS 0 rfl rfl 5 (by decide) g25 (fun _ h9 => h9) rfl (by decide +kernel) rfl rfl (Nat.le_of_ble_eq_true rfl) dX8_layTerms_2 (fun H locs hP hD hS => ?_)
  have hP : va_P D vwCl [((rf 0), o8 rf (0 : Int32) f_runs f_leftAbove f_leftBelow f_rightAbove f_rightBelow f_listed f_fed f_read f_formed f_hasSnapshot), ((rf 3), ai cI 64 f_term)] H := hP
  have hD : va_D A [((rf 0), o8 rf (0 : Int32) f_runs f_leftAbove f_leftBelow f_rightAbove f_rightBelow f_listed f_fed f_read f_formed f_hasSnapshot), ((rf 3), ai cI 64 f_term)] := hD
  refine lv_iload_n hx hb dX8_layTerms_5 rfl (lv_at hl 1 rfl) ?_
  refine lv_istore_n (lv' := [(3, .int v1), (0, .ref (rf 0)), (1, .int v1), (2, .int v2)]) hx hb dX8_layTerms_6 rfl hl (by decide) rfl (fun ls hl => ?_)
  refine lv_iload_n hx hb dX8_layTerms_7 rfl (lv_at hl 3 rfl) ?_
  refine lv_istore (lv' := [(4, .int v2), (3, .int v1), (0, .ref (rf 0)), (1, .int v1), (2, .int v2)]) hx hb dX8_layTerms_8 hl (by decide) rfl (fun ls hl => ?_)
  obtain ⟨n10, hw⟩ := hw
  have LOOP_10 : ∀ (n10 : Nat) (v3 : Int32) (v4 : Int32) (f_terms : Int32) (f_term : (Nat → Int32)) (H : Heap) (locs : List Loc) (ls : Array Slot), w8_layTerms_L10 post n10 v3 v4 f_terms f_term → va_P D vwCl [((rf 0), o8 rf f_terms f_runs f_leftAbove f_leftBelow f_rightAbove f_rightBelow f_listed f_fed f_read f_formed f_hasSnapshot), ((rf 3), ai cI 64 f_term)] H → va_D A [((rf 0), o8 rf f_terms f_runs f_leftAbove f_leftBelow f_rightAbove f_rightBelow f_listed f_fed f_read f_formed f_hasSnapshot), ((rf 3), ai cI 64 f_term)] → va_S A H0 H locs → lv_has ls 6 [(0, .ref (rf 0)), (3, .int v3), (4, .int v4)] → W p l e rm8_layTerms s m args below meth c H locs 0 0 Q (F0 m 10 ls []) := by
    clear hw hl hP hD hS
    intro n10
    induction n10 with
    | zero =>
      intro v3 v4 f_terms f_term H locs ls hw hP hD hS hl
      rw [w8_layTerms_L10] at hw
      exact hw.elim
    | succ n10 ih10 =>
      intro v3 v4 f_terms f_term H locs ls hw hP hD hS hl
      rw [w8_layTerms_L10] at hw
      refine lv_iload hx hb dX8_layTerms_10 (lv_at hl 2 rfl) ?_
      refine lv_if_eq (tgt := 54) hx hb dX8_layTerms_12 (by decide) (fun k => ?_) (fun k => ?_)
      · have hw := hw.1 k
        exact RET _ _ (f_terms, f_term) _ _ hw hP hD hS dX8_layTerms_54
      · have hw := hw.2 k
        refine lv_aload_n hx hb dX8_layTerms_15 rfl (lv_at hl 0 rfl) ?_
        refine va_get (D := D) (ci := 8) (v := .ref (rf 3)) (C := RX8) (T := TX8) (N := 35) hx hb hts hi9 hown hK hP 0 rfl rfl 2 (by decide) g16 (fun _ h9 => h9) rfl dX8_layTerms_16 ?_
        refine lv_aload_n hx hb dX8_layTerms_19 rfl (lv_at hl 0 rfl) ?_
        refine va_get (D := D) (ci := 8) (v := .int f_terms) (C := RX8) (T := TX8) (N := 35) hx hb hts hi9 hown hK hP 0 rfl rfl 5 (by decide) g25 (fun _ h9 => h9) rfl dX8_layTerms_20 ?_
        refine lv_iload_n hx hb dX8_layTerms_23 rfl (lv_at hl 1 rfl) ?_
        refine lv_iload hx hb dX8_layTerms_24 (lv_at hl 2 rfl) ?_
        obtain ⟨hne, hw⟩ := hw
        refine lv_idiv hx hb dX8_layTerms_26 hne ?_
        obtain ⟨hin, hw⟩ := hw
        refine va_iast hx hb hK hP hD hS 1 0 rfl rfl hin dX8_layTerms_27 (fun H locs hP hD hS => ?_)
        have hP : va_P D vwCl [((rf 0), o8 rf f_terms f_runs f_leftAbove f_leftBelow f_rightAbove f_rightBelow f_listed f_fed f_read f_formed f_hasSnapshot), ((rf 3), ai cI 64 (upd f_term f_terms.toNatClampNeg (v3 / v4)))] H := hP
        have hD : va_D A [((rf 0), o8 rf f_terms f_runs f_leftAbove f_leftBelow f_rightAbove f_rightBelow f_listed f_fed f_read f_formed f_hasSnapshot), ((rf 3), ai cI 64 (upd f_term f_terms.toNatClampNeg (v3 / v4)))] := hD
        refine lv_aload_n hx hb dX8_layTerms_28 rfl (lv_at hl 0 rfl) ?_
        refine lv_dup hx hb dX8_layTerms_29 rfl ?_
        refine va_get (D := D) (ci := 8) (v := .int f_terms) (C := RX8) (T := TX8) (N := 35) hx hb hts hi9 hown hK hP 0 rfl rfl 5 (by decide) g25 (fun _ h9 => h9) rfl dX8_layTerms_30 ?_
        refine lv_iconst (v := (1 : Int32)) hx hb dX8_layTerms_33 (by decide) ?_
        refine lv_iadd hx hb dX8_layTerms_34 ?_
        refine lv_topi (fun x35 ex35 => ?_)
        have hw := hw x35 ex35
        refine va_put (D := D) (ci := 8) (v := .int x35) (ty := .int) (C := RX8) (T := TX8) (N := 35) hx hb hts hi9 tyX8 tyX8_ok nmX8 hown hK hP hD hS 0 rfl rfl 5 (by decide) g25 (fun _ h9 => h9) rfl (by decide +kernel) rfl rfl (Nat.le_of_ble_eq_true rfl) dX8_layTerms_35 (fun H locs hP hD hS => ?_)
        have hP : va_P D vwCl [((rf 0), o8 rf x35 f_runs f_leftAbove f_leftBelow f_rightAbove f_rightBelow f_listed f_fed f_read f_formed f_hasSnapshot), ((rf 3), ai cI 64 (upd f_term f_terms.toNatClampNeg (v3 / v4)))] H := hP
        have hD : va_D A [((rf 0), o8 rf x35 f_runs f_leftAbove f_leftBelow f_rightAbove f_rightBelow f_listed f_fed f_read f_formed f_hasSnapshot), ((rf 3), ai cI 64 (upd f_term f_terms.toNatClampNeg (v3 / v4)))] := hD
        refine lv_iload_n hx hb dX8_layTerms_38 rfl (lv_at hl 1 rfl) ?_
        refine lv_iload hx hb dX8_layTerms_39 (lv_at hl 2 rfl) ?_
        obtain ⟨hne, hw⟩ := hw
        refine lv_irem hx hb dX8_layTerms_41 hne ?_
        refine lv_topi (fun x42 ex42 => ?_)
        have hw := hw x42 ex42
        refine lv_istore (lv' := [(5, .int x42), (0, .ref (rf 0)), (3, .int v3), (4, .int v4)]) hx hb dX8_layTerms_42 hl (by decide) rfl (fun ls hl => ?_)
        refine lv_iload hx hb dX8_layTerms_44 (lv_at hl 3 rfl) ?_
        refine lv_istore_n (lv' := [(3, .int v4), (5, .int x42), (0, .ref (rf 0)), (4, .int v4)]) hx hb dX8_layTerms_46 rfl hl (by decide) rfl (fun ls hl => ?_)
        refine lv_iload hx hb dX8_layTerms_47 (lv_at hl 1 rfl) ?_
        refine lv_istore (lv' := [(4, .int x42), (3, .int v4), (5, .int x42), (0, .ref (rf 0))]) hx hb dX8_layTerms_49 hl (by decide) rfl (fun ls hl => ?_)
        refine lv_goto (tgt := 10) hx hb dX8_layTerms_51 (by decide) ?_
        exact ih10 v4 x42 x35 (upd f_term f_terms.toNatClampNeg (v3 / v4)) _ _ ls hw hP hD hS (lv_sub hl [3, 1, 0] rfl)
  exact LOOP_10 n10 v1 v2 (0 : Int32) f_term _ _ ls hw hP hD hS (lv_sub hl [2, 1, 0] rfl)
abbrev rm8_layRuns : Room := { frames := 1, cells := 0, slots := 0, locals := 25 }
theorem nm8_layRuns : kNm yX8_layRuns 2 := by decide +kernel
set_option maxHeartbeats 4000000 in
set_option maxRecDepth 100000 in
theorem c8_layRuns (l : Launch) (D : va_G) (cI cJ cN cR : ClassId) (rf : Nat → Nat) (sz : Nat) (f_terms : Int32) (f_runs : Int32) (f_leftAbove : Int64) (f_leftBelow : Int64) (f_rightAbove : Int64) (f_rightBelow : Int64) (f_listed : Int32) (f_fed : Int32) (f_read : Int32) (f_formed : Int32) (f_hasSnapshot : Int32) (f_term : (Nat → Int32)) (f_run : (Nat → Int32)) (f_isRight : (Nat → Int32)) (v1 : Int32) (v2 : Int32) (post : Int32 → Int32 → (Nat → Int32) → (Nat → Int32) → (Nat → Int32) → Prop) (hw : w8_layRuns f_terms f_runs f_term f_run f_isRight v1 v2 post) : Met l yX8_layRuns wsX8_layRuns rm8_layRuns (kP D (kT cI cJ cN cR) sz [.ref (rf 0), .int v1, .int v2] [((rf 0), o8 rf f_terms f_runs f_leftAbove f_leftBelow f_rightAbove f_rightBelow f_listed f_fed f_read f_formed f_hasSnapshot), ((rf 3), ai cI 64 f_term), ((rf 4), ai cI 64 f_run), ((rf 5), ai cI 64 f_isRight)]) (kQv D [((rf 0), o8 rf f_terms f_runs f_leftAbove f_leftBelow f_rightAbove f_rightBelow f_listed f_fed f_read f_formed f_hasSnapshot), ((rf 3), ai cI 64 f_term), ((rf 4), ai cI 64 f_run), ((rf 5), ai cI 64 f_isRight)] sz (fun (u : Int32 × Int32 × (Nat → Int32) × (Nat → Int32) × (Nat → Int32)) => post u.1 u.2.1 u.2.2.1 u.2.2.2.1 u.2.2.2.2) (fun (u : Int32 × Int32 × (Nat → Int32) × (Nat → Int32) × (Nat → Int32)) => [((rf 0), o8 rf u.1 u.2.1 f_leftAbove f_leftBelow f_rightAbove f_rightBelow f_listed f_fed f_read f_formed f_hasSnapshot), ((rf 3), ai cI 64 u.2.2.1), ((rf 4), ai cI 64 u.2.2.2.1), ((rf 5), ai cI 64 u.2.2.2.2)])) 0 0 (va_A [((rf 0), o8 rf f_terms f_runs f_leftAbove f_leftBelow f_rightAbove f_rightBelow f_listed f_fed f_read f_formed f_hasSnapshot), ((rf 3), ai cI 64 f_term), ((rf 4), ai cI 64 f_run), ((rf 5), ai cI 64 f_isRight)] sz) := by
  refine kMetV (cc := cX8_layRuns) (maxL := 5) (by decide +kernel) rfl (Nat.le_of_ble_eq_true rfl) ?_
  intro p e s m args below meth c H0 ls A Q C0 hK hN hP hD hS hA hl RET
  obtain ⟨hx, hb, hml, hown, hts⟩ := id C0
  have hl : lv_has ls 5 [(0, .ref (rf 0)), (1, .int v1), (2, .int v2)] := hl
  have g29 := hts (.fieldLink RX8 29 "SternBrocotExplorerModel" "runs" "I") (by decide +kernel)
  have g25 := hts (.fieldLink RX8 25 "SternBrocotExplorerModel" "terms" "I") (by decide +kernel)
  have g16 := hts (.fieldLink RX8 16 "SternBrocotExplorerModel" "term" "[I") (by decide +kernel)
  have g19 := hts (.fieldLink RX8 19 "SternBrocotExplorerModel" "run" "[I") (by decide +kernel)
  have g22 := hts (.fieldLink RX8 22 "SternBrocotExplorerModel" "isRight" "[I") (by decide +kernel)
  have hi9 : ∀ w ∈ wsX80, w ∈ wsX8_layRuns := fun w h => List.mem_cons_of_mem _ (List.mem_append_right _ h)
  unfold w8_layRuns at hw
  have hP : va_P D vwCl [((rf 0), o8 rf f_terms f_runs f_leftAbove f_leftBelow f_rightAbove f_rightBelow f_listed f_fed f_read f_formed f_hasSnapshot), ((rf 3), ai cI 64 f_term), ((rf 4), ai cI 64 f_run), ((rf 5), ai cI 64 f_isRight)] H0 := hP
  refine lv_aload_n hx hb dX8_layRuns_0 rfl (lv_at hl 0 rfl) ?_
  refine lv_iload_n hx hb dX8_layRuns_1 rfl (lv_at hl 1 rfl) ?_
  refine lv_iload_n hx hb dX8_layRuns_2 rfl (lv_at hl 2 rfl) ?_
  refine kcV (wc := [((rf 0), o8 rf f_terms f_runs f_leftAbove f_leftBelow f_rightAbove f_rightBelow f_listed f_fed f_read f_formed f_hasSnapshot), ((rf 3), ai cI 64 f_term)]) (wr := [((rf 4), ai cI 64 f_run), ((rf 5), ai cI 64 f_isRight)]) hP hD hS hA [0, 1] [2, 3] rfl rfl ⟨rfl, rfl, by decide⟩ (fun hPc hDc => rV (As := [.int v1, .int v2]) (rest := []) C0 hK hN (c8_layTerms l D cI cJ cN cR rf H0.size f_terms f_runs f_leftAbove f_leftBelow f_rightAbove f_rightBelow f_listed f_fed f_read f_formed f_hasSnapshot f_term v1 v2 _ hw) 2 gX8_layRuns_X8_layTerms rfl ⟨rfl, rfl⟩ nm8_layTerms ⟨Nat.le_of_ble_eq_true rfl, Nat.le_of_ble_eq_true rfl⟩ (q0 := 0) rfl rfl rfl rfl hl.1 rfl (Nat.le_of_ble_eq_true rfl) dX8_layRuns_3 ⟨Nat.le_of_ble_eq_true rfl, Nat.le_of_ble_eq_true rfl⟩ hPc hDc) (fun u3 H locs hw hP hD hS => ?_)
  obtain ⟨f_terms_3, f_term_3⟩ := u3
  dsimp only at hw
  have hP : va_P D vwCl [((rf 4), ai cI 64 f_run), ((rf 5), ai cI 64 f_isRight), ((rf 0), o8 rf f_terms_3 f_runs f_leftAbove f_leftBelow f_rightAbove f_rightBelow f_listed f_fed f_read f_formed f_hasSnapshot), ((rf 3), ai cI 64 f_term_3)] H := hP
  have hD : va_D A [((rf 4), ai cI 64 f_run), ((rf 5), ai cI 64 f_isRight), ((rf 0), o8 rf f_terms_3 f_runs f_leftAbove f_leftBelow f_rightAbove f_rightBelow f_listed f_fed f_read f_formed f_hasSnapshot), ((rf 3), ai cI 64 f_term_3)] := hD
  refine lv_aload_n hx hb dX8_layRuns_6 rfl (lv_at hl 0 rfl) ?_
  refine lv_iconst (v := (0 : Int32)) hx hb dX8_layRuns_7 (by decide) ?_
  refine va_put (D := D) (ci := 8) (v := .int (0 : Int32)) (ty := .int) (C := RX8) (T := TX8) (N := 35) hx hb hts hi9 tyX8 tyX8_ok nmX8 hown hK hP hD hS 2 rfl rfl 6 (by decide) g29 (fun _ h9 => h9) rfl (by decide +kernel) rfl rfl (Nat.le_of_ble_eq_true rfl) dX8_layRuns_8 (fun H locs hP hD hS => ?_)
  have hP : va_P D vwCl [((rf 4), ai cI 64 f_run), ((rf 5), ai cI 64 f_isRight), ((rf 0), o8 rf f_terms_3 (0 : Int32) f_leftAbove f_leftBelow f_rightAbove f_rightBelow f_listed f_fed f_read f_formed f_hasSnapshot), ((rf 3), ai cI 64 f_term_3)] H := hP
  have hD : va_D A [((rf 4), ai cI 64 f_run), ((rf 5), ai cI 64 f_isRight), ((rf 0), o8 rf f_terms_3 (0 : Int32) f_leftAbove f_leftBelow f_rightAbove f_rightBelow f_listed f_fed f_read f_formed f_hasSnapshot), ((rf 3), ai cI 64 f_term_3)] := hD
  refine lv_iconst (v := (0 : Int32)) hx hb dX8_layRuns_11 (by decide) ?_
  refine lv_istore_n (lv' := [(3, .int (0 : Int32)), (0, .ref (rf 0)), (1, .int v1), (2, .int v2)]) hx hb dX8_layRuns_12 rfl hl (by decide) rfl (fun ls hl => ?_)
  obtain ⟨n13, hw⟩ := hw
  have LOOP_13 : ∀ (n13 : Nat) (v3 : Int32) (f_runs : Int32) (f_run : (Nat → Int32)) (f_isRight : (Nat → Int32)) (H : Heap) (locs : List Loc) (ls : Array Slot), w8_layRuns_L13 f_terms_3 f_term_3 post n13 v3 f_runs f_run f_isRight → va_P D vwCl [((rf 0), o8 rf f_terms_3 f_runs f_leftAbove f_leftBelow f_rightAbove f_rightBelow f_listed f_fed f_read f_formed f_hasSnapshot), ((rf 3), ai cI 64 f_term_3), ((rf 4), ai cI 64 f_run), ((rf 5), ai cI 64 f_isRight)] H → va_D A [((rf 0), o8 rf f_terms_3 f_runs f_leftAbove f_leftBelow f_rightAbove f_rightBelow f_listed f_fed f_read f_formed f_hasSnapshot), ((rf 3), ai cI 64 f_term_3), ((rf 4), ai cI 64 f_run), ((rf 5), ai cI 64 f_isRight)] → va_S A H0 H locs → lv_has ls 5 [(0, .ref (rf 0)), (3, .int v3)] → W p l e rm8_layRuns s m args below meth c H locs 0 0 Q (F0 m 13 ls []) := by
    clear hw hl hP hD hS
    intro n13
    induction n13 with
    | zero =>
      intro v3 f_runs f_run f_isRight H locs ls hw hP hD hS hl
      rw [w8_layRuns_L13] at hw
      exact hw.elim
    | succ n13 ih13 =>
      intro v3 f_runs f_run f_isRight H locs ls hw hP hD hS hl
      rw [w8_layRuns_L13] at hw
      have JOIN_48 : ∀ (v3 : Int32) (f_runs : Int32) (f_run : (Nat → Int32)) (f_isRight : (Nat → Int32)) (s0 : Int32) (H : Heap) (locs : List Loc) (ls : Array Slot), w8_layRuns_J48 f_terms_3 f_runs f_term_3 f_run f_isRight v3 s0 post (fun z0 z1 z2 z3 => w8_layRuns_L13 f_terms_3 f_term_3 post n13 z0 z1 z2 z3) → va_P D vwCl [((rf 0), o8 rf f_terms_3 f_runs f_leftAbove f_leftBelow f_rightAbove f_rightBelow f_listed f_fed f_read f_formed f_hasSnapshot), ((rf 3), ai cI 64 f_term_3), ((rf 4), ai cI 64 f_run), ((rf 5), ai cI 64 f_isRight)] H → va_D A [((rf 0), o8 rf f_terms_3 f_runs f_leftAbove f_leftBelow f_rightAbove f_rightBelow f_listed f_fed f_read f_formed f_hasSnapshot), ((rf 3), ai cI 64 f_term_3), ((rf 4), ai cI 64 f_run), ((rf 5), ai cI 64 f_isRight)] → va_S A H0 H locs → lv_has ls 5 [(0, .ref (rf 0)), (3, .int v3)] → W p l e rm8_layRuns s m args below meth c H locs 0 0 Q (F0 m 48 ls [.int s0]) := by
        intro v3 f_runs f_run f_isRight s0 H locs ls hw hP hD hS hl
        unfold w8_layRuns_J48 at hw
        refine lv_istore (lv' := [(4, .int s0), (0, .ref (rf 0)), (3, .int v3)]) hx hb dX8_layRuns_48 hl (by decide) rfl (fun ls hl => ?_)
        refine lv_iload hx hb dX8_layRuns_50 (lv_at hl 0 rfl) ?_
        refine lv_if_ne (tgt := 58) hx hb dX8_layRuns_52 (by decide) (fun k => ?_) (fun k => ?_)
        · have hw := hw.1 k
          refine lv_aload_n hx hb dX8_layRuns_58 rfl (lv_at hl 1 rfl) ?_
          refine va_get (D := D) (ci := 8) (v := .ref (rf 4)) (C := RX8) (T := TX8) (N := 35) hx hb hts hi9 hown hK hP 0 rfl rfl 3 (by decide) g19 (fun _ h9 => h9) rfl dX8_layRuns_59 ?_
          refine lv_aload_n hx hb dX8_layRuns_62 rfl (lv_at hl 1 rfl) ?_
          refine va_get (D := D) (ci := 8) (v := .int f_runs) (C := RX8) (T := TX8) (N := 35) hx hb hts hi9 hown hK hP 0 rfl rfl 6 (by decide) g29 (fun _ h9 => h9) rfl dX8_layRuns_63 ?_
          refine lv_iload hx hb dX8_layRuns_66 (lv_at hl 0 rfl) ?_
          obtain ⟨hin, hw⟩ := hw
          refine va_iast hx hb hK hP hD hS 2 0 rfl rfl hin dX8_layRuns_68 (fun H locs hP hD hS => ?_)
          have hP : va_P D vwCl [((rf 0), o8 rf f_terms_3 f_runs f_leftAbove f_leftBelow f_rightAbove f_rightBelow f_listed f_fed f_read f_formed f_hasSnapshot), ((rf 3), ai cI 64 f_term_3), ((rf 4), ai cI 64 (upd f_run f_runs.toNatClampNeg s0)), ((rf 5), ai cI 64 f_isRight)] H := hP
          have hD : va_D A [((rf 0), o8 rf f_terms_3 f_runs f_leftAbove f_leftBelow f_rightAbove f_rightBelow f_listed f_fed f_read f_formed f_hasSnapshot), ((rf 3), ai cI 64 f_term_3), ((rf 4), ai cI 64 (upd f_run f_runs.toNatClampNeg s0)), ((rf 5), ai cI 64 f_isRight)] := hD
          refine lv_aload_n hx hb dX8_layRuns_69 rfl (lv_at hl 1 rfl) ?_
          refine va_get (D := D) (ci := 8) (v := .ref (rf 5)) (C := RX8) (T := TX8) (N := 35) hx hb hts hi9 hown hK hP 0 rfl rfl 4 (by decide) g22 (fun _ h9 => h9) rfl dX8_layRuns_70 ?_
          refine lv_aload_n hx hb dX8_layRuns_73 rfl (lv_at hl 1 rfl) ?_
          refine va_get (D := D) (ci := 8) (v := .int f_runs) (C := RX8) (T := TX8) (N := 35) hx hb hts hi9 hown hK hP 0 rfl rfl 6 (by decide) g29 (fun _ h9 => h9) rfl dX8_layRuns_74 ?_
          refine lv_iload_n hx hb dX8_layRuns_77 rfl (lv_at hl 2 rfl) ?_
          refine lv_iconst (v := (2 : Int32)) hx hb dX8_layRuns_78 (by decide) ?_
          obtain ⟨hne, hw⟩ := hw
          refine lv_irem hx hb dX8_layRuns_79 hne ?_
          refine lv_if_ne (tgt := 87) hx hb dX8_layRuns_80 (by decide) (fun k => ?_) (fun k => ?_)
          · have hw := hw.1 k
            refine lv_iconst (v := (0 : Int32)) hx hb dX8_layRuns_87 (by decide) ?_
            obtain ⟨hin, hw⟩ := hw
            refine va_iast hx hb hK hP hD hS 3 0 rfl rfl hin dX8_layRuns_88 (fun H locs hP hD hS => ?_)
            have hP : va_P D vwCl [((rf 0), o8 rf f_terms_3 f_runs f_leftAbove f_leftBelow f_rightAbove f_rightBelow f_listed f_fed f_read f_formed f_hasSnapshot), ((rf 3), ai cI 64 f_term_3), ((rf 4), ai cI 64 (upd f_run f_runs.toNatClampNeg s0)), ((rf 5), ai cI 64 (upd f_isRight f_runs.toNatClampNeg (0 : Int32)))] H := hP
            have hD : va_D A [((rf 0), o8 rf f_terms_3 f_runs f_leftAbove f_leftBelow f_rightAbove f_rightBelow f_listed f_fed f_read f_formed f_hasSnapshot), ((rf 3), ai cI 64 f_term_3), ((rf 4), ai cI 64 (upd f_run f_runs.toNatClampNeg s0)), ((rf 5), ai cI 64 (upd f_isRight f_runs.toNatClampNeg (0 : Int32)))] := hD
            refine lv_aload_n hx hb dX8_layRuns_89 rfl (lv_at hl 1 rfl) ?_
            refine lv_dup hx hb dX8_layRuns_90 rfl ?_
            refine va_get (D := D) (ci := 8) (v := .int f_runs) (C := RX8) (T := TX8) (N := 35) hx hb hts hi9 hown hK hP 0 rfl rfl 6 (by decide) g29 (fun _ h9 => h9) rfl dX8_layRuns_91 ?_
            refine lv_iconst (v := (1 : Int32)) hx hb dX8_layRuns_94 (by decide) ?_
            refine lv_iadd hx hb dX8_layRuns_95 ?_
            refine lv_topi (fun x96 ex96 => ?_)
            have hw := hw x96 ex96
            refine va_put (D := D) (ci := 8) (v := .int x96) (ty := .int) (C := RX8) (T := TX8) (N := 35) hx hb hts hi9 tyX8 tyX8_ok nmX8 hown hK hP hD hS 0 rfl rfl 6 (by decide) g29 (fun _ h9 => h9) rfl (by decide +kernel) rfl rfl (Nat.le_of_ble_eq_true rfl) dX8_layRuns_96 (fun H locs hP hD hS => ?_)
            have hP : va_P D vwCl [((rf 0), o8 rf f_terms_3 x96 f_leftAbove f_leftBelow f_rightAbove f_rightBelow f_listed f_fed f_read f_formed f_hasSnapshot), ((rf 3), ai cI 64 f_term_3), ((rf 4), ai cI 64 (upd f_run f_runs.toNatClampNeg s0)), ((rf 5), ai cI 64 (upd f_isRight f_runs.toNatClampNeg (0 : Int32)))] H := hP
            have hD : va_D A [((rf 0), o8 rf f_terms_3 x96 f_leftAbove f_leftBelow f_rightAbove f_rightBelow f_listed f_fed f_read f_formed f_hasSnapshot), ((rf 3), ai cI 64 f_term_3), ((rf 4), ai cI 64 (upd f_run f_runs.toNatClampNeg s0)), ((rf 5), ai cI 64 (upd f_isRight f_runs.toNatClampNeg (0 : Int32)))] := hD
            obtain ⟨x99, ex99⟩ : ∃ y : Int32, y = (v3 + (1 : Int32)) := ⟨_, rfl⟩
            have hw := hw x99 ex99
            refine lv_iinc (v := x99) (lv' := [(3, .int x99), (4, .int s0), (0, .ref (rf 0))]) hx hb dX8_layRuns_99 hl (k := 2) rfl (by rw [ex99]; rfl) (by decide) rfl (fun ls hl => ?_)
            refine lv_goto (tgt := 13) hx hb dX8_layRuns_102 (by decide) ?_
            exact ih13 x99 x96 (upd f_run f_runs.toNatClampNeg s0) (upd f_isRight f_runs.toNatClampNeg (0 : Int32)) _ _ ls hw hP hD hS (lv_sub hl [2, 0] rfl)
          · have hw := hw.2 k
            refine lv_iconst (v := (1 : Int32)) hx hb dX8_layRuns_83 (by decide) ?_
            refine lv_goto (tgt := 88) hx hb dX8_layRuns_84 (by decide) ?_
            obtain ⟨hin, hw⟩ := hw
            refine va_iast hx hb hK hP hD hS 3 0 rfl rfl hin dX8_layRuns_88 (fun H locs hP hD hS => ?_)
            have hP : va_P D vwCl [((rf 0), o8 rf f_terms_3 f_runs f_leftAbove f_leftBelow f_rightAbove f_rightBelow f_listed f_fed f_read f_formed f_hasSnapshot), ((rf 3), ai cI 64 f_term_3), ((rf 4), ai cI 64 (upd f_run f_runs.toNatClampNeg s0)), ((rf 5), ai cI 64 (upd f_isRight f_runs.toNatClampNeg (1 : Int32)))] H := hP
            have hD : va_D A [((rf 0), o8 rf f_terms_3 f_runs f_leftAbove f_leftBelow f_rightAbove f_rightBelow f_listed f_fed f_read f_formed f_hasSnapshot), ((rf 3), ai cI 64 f_term_3), ((rf 4), ai cI 64 (upd f_run f_runs.toNatClampNeg s0)), ((rf 5), ai cI 64 (upd f_isRight f_runs.toNatClampNeg (1 : Int32)))] := hD
            refine lv_aload_n hx hb dX8_layRuns_89 rfl (lv_at hl 1 rfl) ?_
            refine lv_dup hx hb dX8_layRuns_90 rfl ?_
            refine va_get (D := D) (ci := 8) (v := .int f_runs) (C := RX8) (T := TX8) (N := 35) hx hb hts hi9 hown hK hP 0 rfl rfl 6 (by decide) g29 (fun _ h9 => h9) rfl dX8_layRuns_91 ?_
            refine lv_iconst (v := (1 : Int32)) hx hb dX8_layRuns_94 (by decide) ?_
            refine lv_iadd hx hb dX8_layRuns_95 ?_
            refine lv_topi (fun x96 ex96 => ?_)
            have hw := hw x96 ex96
            refine va_put (D := D) (ci := 8) (v := .int x96) (ty := .int) (C := RX8) (T := TX8) (N := 35) hx hb hts hi9 tyX8 tyX8_ok nmX8 hown hK hP hD hS 0 rfl rfl 6 (by decide) g29 (fun _ h9 => h9) rfl (by decide +kernel) rfl rfl (Nat.le_of_ble_eq_true rfl) dX8_layRuns_96 (fun H locs hP hD hS => ?_)
            have hP : va_P D vwCl [((rf 0), o8 rf f_terms_3 x96 f_leftAbove f_leftBelow f_rightAbove f_rightBelow f_listed f_fed f_read f_formed f_hasSnapshot), ((rf 3), ai cI 64 f_term_3), ((rf 4), ai cI 64 (upd f_run f_runs.toNatClampNeg s0)), ((rf 5), ai cI 64 (upd f_isRight f_runs.toNatClampNeg (1 : Int32)))] H := hP
            have hD : va_D A [((rf 0), o8 rf f_terms_3 x96 f_leftAbove f_leftBelow f_rightAbove f_rightBelow f_listed f_fed f_read f_formed f_hasSnapshot), ((rf 3), ai cI 64 f_term_3), ((rf 4), ai cI 64 (upd f_run f_runs.toNatClampNeg s0)), ((rf 5), ai cI 64 (upd f_isRight f_runs.toNatClampNeg (1 : Int32)))] := hD
            obtain ⟨x99, ex99⟩ : ∃ y : Int32, y = (v3 + (1 : Int32)) := ⟨_, rfl⟩
            have hw := hw x99 ex99
            refine lv_iinc (v := x99) (lv' := [(3, .int x99), (4, .int s0), (0, .ref (rf 0))]) hx hb dX8_layRuns_99 hl (k := 2) rfl (by rw [ex99]; rfl) (by decide) rfl (fun ls hl => ?_)
            refine lv_goto (tgt := 13) hx hb dX8_layRuns_102 (by decide) ?_
            exact ih13 x99 x96 (upd f_run f_runs.toNatClampNeg s0) (upd f_isRight f_runs.toNatClampNeg (1 : Int32)) _ _ ls hw hP hD hS (lv_sub hl [2, 0] rfl)
        · have hw := hw.2 k
          refine lv_goto (tgt := 99) hx hb dX8_layRuns_55 (by decide) ?_
          obtain ⟨x99, ex99⟩ : ∃ y : Int32, y = (v3 + (1 : Int32)) := ⟨_, rfl⟩
          have hw := hw x99 ex99
          refine lv_iinc (v := x99) (lv' := [(3, .int x99), (4, .int s0), (0, .ref (rf 0))]) hx hb dX8_layRuns_99 hl (k := 2) rfl (by rw [ex99]; rfl) (by decide) rfl (fun ls hl => ?_)
          refine lv_goto (tgt := 13) hx hb dX8_layRuns_102 (by decide) ?_
          exact ih13 x99 f_runs f_run f_isRight _ _ ls hw hP hD hS (lv_sub hl [2, 0] rfl)
      refine lv_iload_n hx hb dX8_layRuns_13 rfl (lv_at hl 1 rfl) ?_
      refine lv_aload_n hx hb dX8_layRuns_14 rfl (lv_at hl 0 rfl) ?_
      refine va_get (D := D) (ci := 8) (v := .int f_terms_3) (C := RX8) (T := TX8) (N := 35) hx hb hts hi9 hown hK hP 0 rfl rfl 5 (by decide) g25 (fun _ h9 => h9) rfl dX8_layRuns_15 ?_
      refine lv_icmp_ge (tgt := 105) hx hb dX8_layRuns_18 (by decide) (fun k => ?_) (fun k => ?_)
      · have hw := hw.1 k
        exact RET _ _ (f_terms_3, f_runs, f_term_3, f_run, f_isRight) _ _ hw hP hD hS dX8_layRuns_105
      · have hw := hw.2 k
        refine lv_iload_n hx hb dX8_layRuns_21 rfl (lv_at hl 1 rfl) ?_
        refine lv_aload_n hx hb dX8_layRuns_22 rfl (lv_at hl 0 rfl) ?_
        refine va_get (D := D) (ci := 8) (v := .int f_terms_3) (C := RX8) (T := TX8) (N := 35) hx hb hts hi9 hown hK hP 0 rfl rfl 5 (by decide) g25 (fun _ h9 => h9) rfl dX8_layRuns_23 ?_
        refine lv_iconst (v := (1 : Int32)) hx hb dX8_layRuns_26 (by decide) ?_
        refine lv_isub hx hb dX8_layRuns_27 ?_
        refine lv_icmp_ne (tgt := 42) hx hb dX8_layRuns_28 (by decide) (fun k => ?_) (fun k => ?_)
        · have hw := hw.1 k
          refine lv_aload_n hx hb dX8_layRuns_42 rfl (lv_at hl 0 rfl) ?_
          refine va_get (D := D) (ci := 8) (v := .ref (rf 3)) (C := RX8) (T := TX8) (N := 35) hx hb hts hi9 hown hK hP 0 rfl rfl 2 (by decide) g16 (fun _ h9 => h9) rfl dX8_layRuns_43 ?_
          refine lv_iload_n hx hb dX8_layRuns_46 rfl (lv_at hl 1 rfl) ?_
          obtain ⟨hin, hw⟩ := hw
          refine va_iald hx hb hK hP 1 0 rfl rfl hin dX8_layRuns_47 ?_
          exact JOIN_48 v3 f_runs f_run f_isRight (f_term_3 v3.toNatClampNeg) _ _ ls hw hP hD hS (lv_sub hl [0, 1] rfl)
        · have hw := hw.2 k
          refine lv_aload_n hx hb dX8_layRuns_31 rfl (lv_at hl 0 rfl) ?_
          refine va_get (D := D) (ci := 8) (v := .ref (rf 3)) (C := RX8) (T := TX8) (N := 35) hx hb hts hi9 hown hK hP 0 rfl rfl 2 (by decide) g16 (fun _ h9 => h9) rfl dX8_layRuns_32 ?_
          refine lv_iload_n hx hb dX8_layRuns_35 rfl (lv_at hl 1 rfl) ?_
          obtain ⟨hin, hw⟩ := hw
          refine va_iald hx hb hK hP 1 0 rfl rfl hin dX8_layRuns_36 ?_
          refine lv_iconst (v := (1 : Int32)) hx hb dX8_layRuns_37 (by decide) ?_
          refine lv_isub hx hb dX8_layRuns_38 ?_
          refine lv_goto (tgt := 48) hx hb dX8_layRuns_39 (by decide) ?_
          exact JOIN_48 v3 f_runs f_run f_isRight ((f_term_3 v3.toNatClampNeg) - (1 : Int32)) _ _ ls hw hP hD hS (lv_sub hl [0, 1] rfl)
  obtain ⟨hP, hD⟩ := k_sub (ws' := [((rf 0), o8 rf f_terms_3 (0 : Int32) f_leftAbove f_leftBelow f_rightAbove f_rightBelow f_listed f_fed f_read f_formed f_hasSnapshot), ((rf 3), ai cI 64 f_term_3), ((rf 4), ai cI 64 f_run), ((rf 5), ai cI 64 f_isRight)]) hP hD [2, 3, 0, 1] rfl rfl
  exact LOOP_13 n13 (0 : Int32) (0 : Int32) f_run f_isRight _ _ ls hw hP hD hS (lv_sub hl [1, 0] rfl)
abbrev rm8_depthOf : Room := { frames := 2, cells := 0, slots := 0, locals := 49 }
theorem nm8_depthOf : kNm yX8_depthOf 2 := by decide +kernel
set_option maxHeartbeats 4000000 in
set_option maxRecDepth 100000 in
theorem c8_depthOf (l : Launch) (D : va_G) (cI cJ cN cR : ClassId) (rf : Nat → Nat) (sz : Nat) (f_terms : Int32) (f_runs : Int32) (f_leftAbove : Int64) (f_leftBelow : Int64) (f_rightAbove : Int64) (f_rightBelow : Int64) (f_listed : Int32) (f_fed : Int32) (f_read : Int32) (f_formed : Int32) (f_hasSnapshot : Int32) (f_term : (Nat → Int32)) (f_run : (Nat → Int32)) (f_isRight : (Nat → Int32)) (v1 : Int32) (v2 : Int32) (post : Int32 → Int32 → Int32 → (Nat → Int32) → (Nat → Int32) → (Nat → Int32) → Prop) (hw : w8_depthOf f_terms f_runs f_term f_run f_isRight v1 v2 post) : Met l yX8_depthOf wsX8_depthOf rm8_depthOf (kP D (kT cI cJ cN cR) sz [.ref (rf 0), .int v1, .int v2] [((rf 0), o8 rf f_terms f_runs f_leftAbove f_leftBelow f_rightAbove f_rightBelow f_listed f_fed f_read f_formed f_hasSnapshot), ((rf 3), ai cI 64 f_term), ((rf 4), ai cI 64 f_run), ((rf 5), ai cI 64 f_isRight)]) (kQi D [((rf 0), o8 rf f_terms f_runs f_leftAbove f_leftBelow f_rightAbove f_rightBelow f_listed f_fed f_read f_formed f_hasSnapshot), ((rf 3), ai cI 64 f_term), ((rf 4), ai cI 64 f_run), ((rf 5), ai cI 64 f_isRight)] sz (fun (r : Int32) (u : Int32 × Int32 × (Nat → Int32) × (Nat → Int32) × (Nat → Int32)) => post r u.1 u.2.1 u.2.2.1 u.2.2.2.1 u.2.2.2.2) (fun (u : Int32 × Int32 × (Nat → Int32) × (Nat → Int32) × (Nat → Int32)) => [((rf 0), o8 rf u.1 u.2.1 f_leftAbove f_leftBelow f_rightAbove f_rightBelow f_listed f_fed f_read f_formed f_hasSnapshot), ((rf 3), ai cI 64 u.2.2.1), ((rf 4), ai cI 64 u.2.2.2.1), ((rf 5), ai cI 64 u.2.2.2.2)])) 0 0 (va_A [((rf 0), o8 rf f_terms f_runs f_leftAbove f_leftBelow f_rightAbove f_rightBelow f_listed f_fed f_read f_formed f_hasSnapshot), ((rf 3), ai cI 64 f_term), ((rf 4), ai cI 64 f_run), ((rf 5), ai cI 64 f_isRight)] sz) := by
  refine kMetI (cc := cX8_depthOf) (maxL := 5) (by decide +kernel) rfl (Nat.le_of_ble_eq_true rfl) ?_
  intro p e s m args below meth c H0 ls A Q C0 hK hN hP hD hS hA hl RET
  obtain ⟨hx, hb, hml, hown, hts⟩ := id C0
  have hl : lv_has ls 5 [(0, .ref (rf 0)), (1, .int v1), (2, .int v2)] := hl
  have g29 := hts (.fieldLink RX8 29 "SternBrocotExplorerModel" "runs" "I") (by decide +kernel)
  have g19 := hts (.fieldLink RX8 19 "SternBrocotExplorerModel" "run" "[I") (by decide +kernel)
  have hi9 : ∀ w ∈ wsX80, w ∈ wsX8_depthOf := fun w h => List.mem_cons_of_mem _ (List.mem_append_right _ h)
  unfold w8_depthOf at hw
  have hP : va_P D vwCl [((rf 0), o8 rf f_terms f_runs f_leftAbove f_leftBelow f_rightAbove f_rightBelow f_listed f_fed f_read f_formed f_hasSnapshot), ((rf 3), ai cI 64 f_term), ((rf 4), ai cI 64 f_run), ((rf 5), ai cI 64 f_isRight)] H0 := hP
  refine lv_aload_n hx hb dX8_depthOf_0 rfl (lv_at hl 0 rfl) ?_
  refine lv_iload_n hx hb dX8_depthOf_1 rfl (lv_at hl 1 rfl) ?_
  refine lv_iload_n hx hb dX8_depthOf_2 rfl (lv_at hl 2 rfl) ?_
  refine kcV (wc := [((rf 0), o8 rf f_terms f_runs f_leftAbove f_leftBelow f_rightAbove f_rightBelow f_listed f_fed f_read f_formed f_hasSnapshot), ((rf 3), ai cI 64 f_term), ((rf 4), ai cI 64 f_run), ((rf 5), ai cI 64 f_isRight)]) (wr := []) hP hD hS hA [0, 1, 2, 3] [] rfl rfl ⟨rfl, rfl, by decide⟩ (fun hPc hDc => rV (As := [.int v1, .int v2]) (rest := []) C0 hK hN (c8_layRuns l D cI cJ cN cR rf H0.size f_terms f_runs f_leftAbove f_leftBelow f_rightAbove f_rightBelow f_listed f_fed f_read f_formed f_hasSnapshot f_term f_run f_isRight v1 v2 _ hw) 2 gX8_depthOf_X8_layRuns rfl ⟨rfl, rfl⟩ nm8_layRuns ⟨Nat.le_of_ble_eq_true rfl, Nat.le_of_ble_eq_true rfl⟩ (q0 := 0) rfl rfl rfl rfl hl.1 rfl (Nat.le_of_ble_eq_true rfl) dX8_depthOf_3 ⟨Nat.le_of_ble_eq_true rfl, Nat.le_of_ble_eq_true rfl⟩ hPc hDc) (fun u3 H locs hw hP hD hS => ?_)
  obtain ⟨f_terms_3, f_runs_3, f_term_3, f_run_3, f_isRight_3⟩ := u3
  dsimp only at hw
  have hP : va_P D vwCl [((rf 0), o8 rf f_terms_3 f_runs_3 f_leftAbove f_leftBelow f_rightAbove f_rightBelow f_listed f_fed f_read f_formed f_hasSnapshot), ((rf 3), ai cI 64 f_term_3), ((rf 4), ai cI 64 f_run_3), ((rf 5), ai cI 64 f_isRight_3)] H := hP
  have hD : va_D A [((rf 0), o8 rf f_terms_3 f_runs_3 f_leftAbove f_leftBelow f_rightAbove f_rightBelow f_listed f_fed f_read f_formed f_hasSnapshot), ((rf 3), ai cI 64 f_term_3), ((rf 4), ai cI 64 f_run_3), ((rf 5), ai cI 64 f_isRight_3)] := hD
  refine lv_iconst (v := (0 : Int32)) hx hb dX8_depthOf_6 (by decide) ?_
  refine lv_istore_n (lv' := [(3, .int (0 : Int32)), (0, .ref (rf 0)), (1, .int v1), (2, .int v2)]) hx hb dX8_depthOf_7 rfl hl (by decide) rfl (fun ls hl => ?_)
  refine lv_iconst (v := (0 : Int32)) hx hb dX8_depthOf_8 (by decide) ?_
  refine lv_istore (lv' := [(4, .int (0 : Int32)), (3, .int (0 : Int32)), (0, .ref (rf 0)), (1, .int v1), (2, .int v2)]) hx hb dX8_depthOf_9 hl (by decide) rfl (fun ls hl => ?_)
  obtain ⟨n11, hw⟩ := hw
  have LOOP_11 : ∀ (n11 : Nat) (v3 : Int32) (v4 : Int32) (H : Heap) (locs : List Loc) (ls : Array Slot), w8_depthOf_L11 f_terms_3 f_runs_3 f_term_3 f_run_3 f_isRight_3 post n11 v3 v4 → va_P D vwCl [((rf 0), o8 rf f_terms_3 f_runs_3 f_leftAbove f_leftBelow f_rightAbove f_rightBelow f_listed f_fed f_read f_formed f_hasSnapshot), ((rf 3), ai cI 64 f_term_3), ((rf 4), ai cI 64 f_run_3), ((rf 5), ai cI 64 f_isRight_3)] H → va_D A [((rf 0), o8 rf f_terms_3 f_runs_3 f_leftAbove f_leftBelow f_rightAbove f_rightBelow f_listed f_fed f_read f_formed f_hasSnapshot), ((rf 3), ai cI 64 f_term_3), ((rf 4), ai cI 64 f_run_3), ((rf 5), ai cI 64 f_isRight_3)] → va_S A H0 H locs → lv_has ls 5 [(0, .ref (rf 0)), (3, .int v3), (4, .int v4)] → W p l e rm8_depthOf s m args below meth c H locs 0 0 Q (F0 m 11 ls []) := by
    clear hw hl hP hD hS
    intro n11
    induction n11 with
    | zero =>
      intro v3 v4 H locs ls hw hP hD hS hl
      rw [w8_depthOf_L11] at hw
      exact hw.elim
    | succ n11 ih11 =>
      intro v3 v4 H locs ls hw hP hD hS hl
      rw [w8_depthOf_L11] at hw
      refine lv_iload hx hb dX8_depthOf_11 (lv_at hl 2 rfl) ?_
      refine lv_aload_n hx hb dX8_depthOf_13 rfl (lv_at hl 0 rfl) ?_
      refine va_get (D := D) (ci := 8) (v := .int f_runs_3) (C := RX8) (T := TX8) (N := 35) hx hb hts hi9 hown hK hP 0 rfl rfl 6 (by decide) g29 (fun _ h9 => h9) rfl dX8_depthOf_14 ?_
      refine lv_icmp_ge (tgt := 36) hx hb dX8_depthOf_17 (by decide) (fun k => ?_) (fun k => ?_)
      · have hw := hw.1 k
        refine lv_iload_n hx hb dX8_depthOf_36 rfl (lv_at hl 1 rfl) ?_
        exact RET _ _ _ (f_terms_3, f_runs_3, f_term_3, f_run_3, f_isRight_3) _ _ hw hP hD hS dX8_depthOf_37
      · have hw := hw.2 k
        refine lv_iload_n hx hb dX8_depthOf_20 rfl (lv_at hl 1 rfl) ?_
        refine lv_aload_n hx hb dX8_depthOf_21 rfl (lv_at hl 0 rfl) ?_
        refine va_get (D := D) (ci := 8) (v := .ref (rf 4)) (C := RX8) (T := TX8) (N := 35) hx hb hts hi9 hown hK hP 0 rfl rfl 3 (by decide) g19 (fun _ h9 => h9) rfl dX8_depthOf_22 ?_
        refine lv_iload hx hb dX8_depthOf_25 (lv_at hl 2 rfl) ?_
        obtain ⟨hin, hw⟩ := hw
        refine va_iald hx hb hK hP 2 0 rfl rfl hin dX8_depthOf_27 ?_
        refine lv_iadd hx hb dX8_depthOf_28 ?_
        refine lv_topi (fun x29 ex29 => ?_)
        have hw := hw x29 ex29
        refine lv_istore_n (lv' := [(3, .int x29), (0, .ref (rf 0)), (4, .int v4)]) hx hb dX8_depthOf_29 rfl hl (by decide) rfl (fun ls hl => ?_)
        obtain ⟨x30, ex30⟩ : ∃ y : Int32, y = (v4 + (1 : Int32)) := ⟨_, rfl⟩
        have hw := hw x30 ex30
        refine lv_iinc (v := x30) (lv' := [(4, .int x30), (3, .int x29), (0, .ref (rf 0))]) hx hb dX8_depthOf_30 hl (k := 2) rfl (by rw [ex30]; rfl) (by decide) rfl (fun ls hl => ?_)
        refine lv_goto (tgt := 11) hx hb dX8_depthOf_33 (by decide) ?_
        exact ih11 x29 x30 _ _ ls hw hP hD hS (lv_sub hl [2, 1, 0] rfl)
  exact LOOP_11 n11 (0 : Int32) (0 : Int32) _ _ ls hw hP hD hS (lv_sub hl [2, 1, 0] rfl)
abbrev rm8_depth : Room := { frames := 3, cells := 0, slots := 0, locals := 73 }
theorem nm8_depth : kNm yX8_depth 1 := by decide +kernel
set_option maxHeartbeats 4000000 in
set_option maxRecDepth 100000 in
theorem c8_depth (l : Launch) (D : va_G) (cI cJ cN cR : ClassId) (rf : Nat → Nat) (sz : Nat) (f_terms : Int32) (f_runs : Int32) (f_leftAbove : Int64) (f_leftBelow : Int64) (f_rightAbove : Int64) (f_rightBelow : Int64) (f_listed : Int32) (f_fed : Int32) (f_read : Int32) (f_formed : Int32) (f_hasSnapshot : Int32) (f_above : (Nat → Int32)) (f_below : (Nat → Int32)) (f_term : (Nat → Int32)) (f_run : (Nat → Int32)) (f_isRight : (Nat → Int32)) (v1 : Int32) (post : Int32 → Int32 → Int32 → (Nat → Int32) → (Nat → Int32) → (Nat → Int32) → Prop) (hw : w8_depth f_terms f_runs f_above f_below f_term f_run f_isRight v1 post) : Met l yX8_depth wsX8_depth rm8_depth (kP D (kT cI cJ cN cR) sz [.ref (rf 0), .int v1] [((rf 0), o8 rf f_terms f_runs f_leftAbove f_leftBelow f_rightAbove f_rightBelow f_listed f_fed f_read f_formed f_hasSnapshot), ((rf 1), ai cI 8 f_above), ((rf 2), ai cI 8 f_below), ((rf 3), ai cI 64 f_term), ((rf 4), ai cI 64 f_run), ((rf 5), ai cI 64 f_isRight)]) (kQi D [((rf 0), o8 rf f_terms f_runs f_leftAbove f_leftBelow f_rightAbove f_rightBelow f_listed f_fed f_read f_formed f_hasSnapshot), ((rf 1), ai cI 8 f_above), ((rf 2), ai cI 8 f_below), ((rf 3), ai cI 64 f_term), ((rf 4), ai cI 64 f_run), ((rf 5), ai cI 64 f_isRight)] sz (fun (r : Int32) (u : Int32 × Int32 × (Nat → Int32) × (Nat → Int32) × (Nat → Int32)) => post r u.1 u.2.1 u.2.2.1 u.2.2.2.1 u.2.2.2.2) (fun (u : Int32 × Int32 × (Nat → Int32) × (Nat → Int32) × (Nat → Int32)) => [((rf 0), o8 rf u.1 u.2.1 f_leftAbove f_leftBelow f_rightAbove f_rightBelow f_listed f_fed f_read f_formed f_hasSnapshot), ((rf 1), ai cI 8 f_above), ((rf 2), ai cI 8 f_below), ((rf 3), ai cI 64 u.2.2.1), ((rf 4), ai cI 64 u.2.2.2.1), ((rf 5), ai cI 64 u.2.2.2.2)])) 0 0 (va_A [((rf 0), o8 rf f_terms f_runs f_leftAbove f_leftBelow f_rightAbove f_rightBelow f_listed f_fed f_read f_formed f_hasSnapshot), ((rf 1), ai cI 8 f_above), ((rf 2), ai cI 8 f_below), ((rf 3), ai cI 64 f_term), ((rf 4), ai cI 64 f_run), ((rf 5), ai cI 64 f_isRight)] sz) := by
  refine kMetI (cc := cX8_depth) (maxL := 2) (by decide +kernel) rfl (Nat.le_of_ble_eq_true rfl) ?_
  intro p e s m args below meth c H0 ls A Q C0 hK hN hP hD hS hA hl RET
  obtain ⟨hx, hb, hml, hown, hts⟩ := id C0
  have hl : lv_has ls 2 [(0, .ref (rf 0)), (1, .int v1)] := hl
  have g7 := hts (.fieldLink RX8 7 "SternBrocotExplorerModel" "above" "[I") (by decide +kernel)
  have g13 := hts (.fieldLink RX8 13 "SternBrocotExplorerModel" "below" "[I") (by decide +kernel)
  have hi9 : ∀ w ∈ wsX80, w ∈ wsX8_depth := fun w h => List.mem_cons_of_mem _ (List.mem_append_right _ h)
  unfold w8_depth at hw
  have hP : va_P D vwCl [((rf 0), o8 rf f_terms f_runs f_leftAbove f_leftBelow f_rightAbove f_rightBelow f_listed f_fed f_read f_formed f_hasSnapshot), ((rf 1), ai cI 8 f_above), ((rf 2), ai cI 8 f_below), ((rf 3), ai cI 64 f_term), ((rf 4), ai cI 64 f_run), ((rf 5), ai cI 64 f_isRight)] H0 := hP
  refine lv_aload_n hx hb dX8_depth_0 rfl (lv_at hl 0 rfl) ?_
  refine lv_iload_n hx hb dX8_depth_1 rfl (lv_at hl 1 rfl) ?_
  refine kcRI (wc := [((rf 0), o8 rf f_terms f_runs f_leftAbove f_leftBelow f_rightAbove f_rightBelow f_listed f_fed f_read f_formed f_hasSnapshot)]) hP [0] rfl (fun hPc => oV (As := [.int v1]) (rest := []) C0 hK hN (c8_isRegister l D cI cJ cN cR rf f_terms f_runs f_leftAbove f_leftBelow f_rightAbove f_rightBelow f_listed f_fed f_read f_formed f_hasSnapshot v1 _ hw) 1 gX8_depth_X8_isRegister rfl ⟨rfl, rfl⟩ nm8_isRegister ⟨Nat.le_of_ble_eq_true rfl, Nat.le_of_ble_eq_true rfl⟩ (q0 := 0) rfl rfl rfl rfl hl.1 rfl (Nat.le_of_ble_eq_true rfl) dX8_depth_2 ⟨Nat.le_of_ble_eq_true rfl, Nat.le_of_ble_eq_true rfl⟩ hPc) (fun r2 hw => ?_)
  obtain ⟨nb2, hw⟩ := hw
  refine lv_if_eq (tgt := 27) hx hb dX8_depth_5 (by decide) (fun k => ?_) (fun k => ?_)
  · have hw := hw.1 k
    refine lv_iconst (v := (-1 : Int32)) hx hb dX8_depth_27 (by decide) ?_
    exact RET _ _ _ (f_terms, f_runs, f_term, f_run, f_isRight) _ _ hw hP hD hS dX8_depth_28
  · have hw := hw.2 k
    refine lv_aload_n hx hb dX8_depth_8 rfl (lv_at hl 0 rfl) ?_
    refine lv_aload_n hx hb dX8_depth_9 rfl (lv_at hl 0 rfl) ?_
    refine va_get (D := D) (ci := 8) (v := .ref (rf 1)) (C := RX8) (T := TX8) (N := 35) hx hb hts hi9 hown hK hP 0 rfl rfl 0 (by decide) g7 (fun _ h9 => h9) rfl dX8_depth_10 ?_
    refine lv_iload_n hx hb dX8_depth_13 rfl (lv_at hl 1 rfl) ?_
    obtain ⟨hin, hw⟩ := hw
    refine va_iald hx hb hK hP 1 0 rfl rfl hin dX8_depth_14 ?_
    refine lv_aload_n hx hb dX8_depth_15 rfl (lv_at hl 0 rfl) ?_
    refine va_get (D := D) (ci := 8) (v := .ref (rf 2)) (C := RX8) (T := TX8) (N := 35) hx hb hts hi9 hown hK hP 0 rfl rfl 1 (by decide) g13 (fun _ h9 => h9) rfl dX8_depth_16 ?_
    refine lv_iload_n hx hb dX8_depth_19 rfl (lv_at hl 1 rfl) ?_
    obtain ⟨hin, hw⟩ := hw
    refine va_iald hx hb hK hP 2 0 rfl rfl hin dX8_depth_20 ?_
    refine kcI (wc := [((rf 0), o8 rf f_terms f_runs f_leftAbove f_leftBelow f_rightAbove f_rightBelow f_listed f_fed f_read f_formed f_hasSnapshot), ((rf 3), ai cI 64 f_term), ((rf 4), ai cI 64 f_run), ((rf 5), ai cI 64 f_isRight)]) (wr := [((rf 1), ai cI 8 f_above), ((rf 2), ai cI 8 f_below)]) hP hD hS hA [0, 3, 4, 5] [1, 2] rfl rfl ⟨rfl, rfl, by decide⟩ (fun hPc hDc => rV (As := [.int (f_above v1.toNatClampNeg), .int (f_below v1.toNatClampNeg)]) (rest := []) C0 hK hN (c8_depthOf l D cI cJ cN cR rf H0.size f_terms f_runs f_leftAbove f_leftBelow f_rightAbove f_rightBelow f_listed f_fed f_read f_formed f_hasSnapshot f_term f_run f_isRight (f_above v1.toNatClampNeg) (f_below v1.toNatClampNeg) _ hw) 2 gX8_depth_X8_depthOf rfl ⟨rfl, rfl⟩ nm8_depthOf ⟨Nat.le_of_ble_eq_true rfl, Nat.le_of_ble_eq_true rfl⟩ (q0 := 0) rfl rfl rfl rfl hl.1 rfl (Nat.le_of_ble_eq_true rfl) dX8_depth_21 ⟨Nat.le_of_ble_eq_true rfl, Nat.le_of_ble_eq_true rfl⟩ hPc hDc) (fun r21 u21 H locs hw hP hD hS => ?_)
    obtain ⟨f_terms_21, f_runs_21, f_term_21, f_run_21, f_isRight_21⟩ := u21
    dsimp only at hw
    have hP : va_P D vwCl [((rf 1), ai cI 8 f_above), ((rf 2), ai cI 8 f_below), ((rf 0), o8 rf f_terms_21 f_runs_21 f_leftAbove f_leftBelow f_rightAbove f_rightBelow f_listed f_fed f_read f_formed f_hasSnapshot), ((rf 3), ai cI 64 f_term_21), ((rf 4), ai cI 64 f_run_21), ((rf 5), ai cI 64 f_isRight_21)] H := hP
    have hD : va_D A [((rf 1), ai cI 8 f_above), ((rf 2), ai cI 8 f_below), ((rf 0), o8 rf f_terms_21 f_runs_21 f_leftAbove f_leftBelow f_rightAbove f_rightBelow f_listed f_fed f_read f_formed f_hasSnapshot), ((rf 3), ai cI 64 f_term_21), ((rf 4), ai cI 64 f_run_21), ((rf 5), ai cI 64 f_isRight_21)] := hD
    refine lv_goto (tgt := 28) hx hb dX8_depth_24 (by decide) ?_
    obtain ⟨hP, hD⟩ := k_sub (ws' := [((rf 0), o8 rf f_terms_21 f_runs_21 f_leftAbove f_leftBelow f_rightAbove f_rightBelow f_listed f_fed f_read f_formed f_hasSnapshot), ((rf 1), ai cI 8 f_above), ((rf 2), ai cI 8 f_below), ((rf 3), ai cI 64 f_term_21), ((rf 4), ai cI 64 f_run_21), ((rf 5), ai cI 64 f_isRight_21)]) hP hD [2, 0, 1, 3, 4, 5] rfl rfl
    exact RET _ _ _ (f_terms_21, f_runs_21, f_term_21, f_run_21, f_isRight_21) _ _ hw hP hD hS dX8_depth_28
abbrev rm8_step : Room := { frames := 0, cells := 0, slots := 0, locals := 0 }
theorem nm8_step : kNm yX8_step 1 := by decide +kernel
set_option maxHeartbeats 4000000 in
set_option maxRecDepth 100000 in
theorem c8_step (l : Launch) (D : va_G) (cI cJ cN cR : ClassId) (rf : Nat → Nat) (f_terms : Int32) (f_runs : Int32) (f_leftAbove : Int64) (f_leftBelow : Int64) (f_rightAbove : Int64) (f_rightBelow : Int64) (f_listed : Int32) (f_fed : Int32) (f_read : Int32) (f_formed : Int32) (f_hasSnapshot : Int32) (f_run : (Nat → Int32)) (f_isRight : (Nat → Int32)) (v1 : Int32) (post : Int32 → Prop) (hw : w8_step f_runs f_run f_isRight v1 post) : Met l yX8_step wsX8_step rm8_step (kR D (kT cI cJ cN cR) [.ref (rf 0), .int v1] [((rf 0), o8 rf f_terms f_runs f_leftAbove f_leftBelow f_rightAbove f_rightBelow f_listed f_fed f_read f_formed f_hasSnapshot), ((rf 4), ai cI 64 f_run), ((rf 5), ai cI 64 f_isRight)]) (vp_Si post) 0 0 (fun _ => False) := by
  refine kMetRI (cc := cX8_step) (maxL := 4) (by decide +kernel) rfl (Nat.le_of_ble_eq_true rfl) ?_
  intro p e s m args below meth c H ls Q C0 hK hN hP hl RET
  obtain ⟨hx, hb, hml, hown, hts⟩ := id C0
  have hl : lv_has ls 4 [(0, .ref (rf 0)), (1, .int v1)] := hl
  have g29 := hts (.fieldLink RX8 29 "SternBrocotExplorerModel" "runs" "I") (by decide +kernel)
  have g19 := hts (.fieldLink RX8 19 "SternBrocotExplorerModel" "run" "[I") (by decide +kernel)
  have g22 := hts (.fieldLink RX8 22 "SternBrocotExplorerModel" "isRight" "[I") (by decide +kernel)
  have hi9 : ∀ w ∈ wsX80, w ∈ wsX8_step := fun w h => List.mem_cons_of_mem _ (List.mem_append_right _ h)
  unfold w8_step at hw
  refine lv_iload_n hx hb dX8_step_0 rfl (lv_at hl 1 rfl) ?_
  refine lv_istore_n (lv' := [(2, .int v1), (0, .ref (rf 0)), (1, .int v1)]) hx hb dX8_step_1 rfl hl (by decide) rfl (fun ls hl => ?_)
  refine lv_iconst (v := (0 : Int32)) hx hb dX8_step_2 (by decide) ?_
  refine lv_istore_n (lv' := [(3, .int (0 : Int32)), (2, .int v1), (0, .ref (rf 0)), (1, .int v1)]) hx hb dX8_step_3 rfl hl (by decide) rfl (fun ls hl => ?_)
  obtain ⟨n4, hw⟩ := hw
  have LOOP_4 : ∀ (n4 : Nat) (v2 : Int32) (v3 : Int32) (ls : Array Slot), w8_step_L4 f_runs f_run f_isRight post n4 v2 v3 → lv_has ls 4 [(0, .ref (rf 0)), (2, .int v2), (3, .int v3)] → W p l e rm8_step s m args below meth c H [] 0 0 Q (F0 m 4 ls []) := by
    clear hw hl
    intro n4
    induction n4 with
    | zero =>
      intro v2 v3 ls hw hl
      rw [w8_step_L4] at hw
      exact hw.elim
    | succ n4 ih4 =>
      intro v2 v3 ls hw hl
      rw [w8_step_L4] at hw
      refine lv_iload_n hx hb dX8_step_4 rfl (lv_at hl 2 rfl) ?_
      refine lv_aload_n hx hb dX8_step_5 rfl (lv_at hl 0 rfl) ?_
      refine va_get (D := D) (ci := 8) (v := .int f_runs) (C := RX8) (T := TX8) (N := 35) hx hb hts hi9 hown hK hP 0 rfl rfl 6 (by decide) g29 (fun _ h9 => h9) rfl dX8_step_6 ?_
      refine lv_icmp_ge (tgt := 44) hx hb dX8_step_9 (by decide) (fun k => ?_) (fun k => ?_)
      · have hw := hw.1 k
        refine lv_iconst (v := (-1 : Int32)) hx hb dX8_step_44 (by decide) ?_
        exact RET _ _ _ hw dX8_step_45
      · have hw := hw.2 k
        refine lv_iload_n hx hb dX8_step_12 rfl (lv_at hl 1 rfl) ?_
        refine lv_aload_n hx hb dX8_step_13 rfl (lv_at hl 0 rfl) ?_
        refine va_get (D := D) (ci := 8) (v := .ref (rf 4)) (C := RX8) (T := TX8) (N := 35) hx hb hts hi9 hown hK hP 0 rfl rfl 3 (by decide) g19 (fun _ h9 => h9) rfl dX8_step_14 ?_
        refine lv_iload_n hx hb dX8_step_17 rfl (lv_at hl 2 rfl) ?_
        obtain ⟨hin, hw⟩ := hw
        refine va_iald hx hb hK hP 1 0 rfl rfl hin dX8_step_18 ?_
        refine lv_icmp_ge (tgt := 29) hx hb dX8_step_19 (by decide) (fun k => ?_) (fun k => ?_)
        · have hw := hw.1 k
          refine lv_iload_n hx hb dX8_step_29 rfl (lv_at hl 1 rfl) ?_
          refine lv_aload_n hx hb dX8_step_30 rfl (lv_at hl 0 rfl) ?_
          refine va_get (D := D) (ci := 8) (v := .ref (rf 4)) (C := RX8) (T := TX8) (N := 35) hx hb hts hi9 hown hK hP 0 rfl rfl 3 (by decide) g19 (fun _ h9 => h9) rfl dX8_step_31 ?_
          refine lv_iload_n hx hb dX8_step_34 rfl (lv_at hl 2 rfl) ?_
          obtain ⟨hin, hw⟩ := hw
          refine va_iald hx hb hK hP 1 0 rfl rfl hin dX8_step_35 ?_
          refine lv_isub hx hb dX8_step_36 ?_
          refine lv_topi (fun x37 ex37 => ?_)
          have hw := hw x37 ex37
          refine lv_istore_n (lv' := [(2, .int x37), (0, .ref (rf 0)), (3, .int v3)]) hx hb dX8_step_37 rfl hl (by decide) rfl (fun ls hl => ?_)
          obtain ⟨x38, ex38⟩ : ∃ y : Int32, y = (v3 + (1 : Int32)) := ⟨_, rfl⟩
          have hw := hw x38 ex38
          refine lv_iinc (v := x38) (lv' := [(3, .int x38), (2, .int x37), (0, .ref (rf 0))]) hx hb dX8_step_38 hl (k := 2) rfl (by rw [ex38]; rfl) (by decide) rfl (fun ls hl => ?_)
          refine lv_goto (tgt := 4) hx hb dX8_step_41 (by decide) ?_
          exact ih4 x37 x38 ls hw (lv_sub hl [2, 1, 0] rfl)
        · have hw := hw.2 k
          refine lv_aload_n hx hb dX8_step_22 rfl (lv_at hl 0 rfl) ?_
          refine va_get (D := D) (ci := 8) (v := .ref (rf 5)) (C := RX8) (T := TX8) (N := 35) hx hb hts hi9 hown hK hP 0 rfl rfl 4 (by decide) g22 (fun _ h9 => h9) rfl dX8_step_23 ?_
          refine lv_iload_n hx hb dX8_step_26 rfl (lv_at hl 2 rfl) ?_
          obtain ⟨hin, hw⟩ := hw
          refine va_iald hx hb hK hP 2 0 rfl rfl hin dX8_step_27 ?_
          exact RET _ _ _ hw dX8_step_28
  exact LOOP_4 n4 v1 (0 : Int32) ls hw (lv_sub hl [2, 1, 0] rfl)
abbrev rm8_pathStep : Room := { frames := 2, cells := 0, slots := 0, locals := 49 }
theorem nm8_pathStep : kNm yX8_pathStep 2 := by decide +kernel
set_option maxHeartbeats 4000000 in
set_option maxRecDepth 100000 in
theorem c8_pathStep (l : Launch) (D : va_G) (cI cJ cN cR : ClassId) (rf : Nat → Nat) (sz : Nat) (f_terms : Int32) (f_runs : Int32) (f_leftAbove : Int64) (f_leftBelow : Int64) (f_rightAbove : Int64) (f_rightBelow : Int64) (f_listed : Int32) (f_fed : Int32) (f_read : Int32) (f_formed : Int32) (f_hasSnapshot : Int32) (f_above : (Nat → Int32)) (f_below : (Nat → Int32)) (f_term : (Nat → Int32)) (f_run : (Nat → Int32)) (f_isRight : (Nat → Int32)) (v1 : Int32) (v2 : Int32) (post : Int32 → Int32 → Int32 → (Nat → Int32) → (Nat → Int32) → (Nat → Int32) → Prop) (hw : w8_pathStep f_terms f_runs f_above f_below f_term f_run f_isRight v1 v2 post) : Met l yX8_pathStep wsX8_pathStep rm8_pathStep (kP D (kT cI cJ cN cR) sz [.ref (rf 0), .int v1, .int v2] [((rf 0), o8 rf f_terms f_runs f_leftAbove f_leftBelow f_rightAbove f_rightBelow f_listed f_fed f_read f_formed f_hasSnapshot), ((rf 1), ai cI 8 f_above), ((rf 2), ai cI 8 f_below), ((rf 3), ai cI 64 f_term), ((rf 4), ai cI 64 f_run), ((rf 5), ai cI 64 f_isRight)]) (kQi D [((rf 0), o8 rf f_terms f_runs f_leftAbove f_leftBelow f_rightAbove f_rightBelow f_listed f_fed f_read f_formed f_hasSnapshot), ((rf 1), ai cI 8 f_above), ((rf 2), ai cI 8 f_below), ((rf 3), ai cI 64 f_term), ((rf 4), ai cI 64 f_run), ((rf 5), ai cI 64 f_isRight)] sz (fun (r : Int32) (u : Int32 × Int32 × (Nat → Int32) × (Nat → Int32) × (Nat → Int32)) => post r u.1 u.2.1 u.2.2.1 u.2.2.2.1 u.2.2.2.2) (fun (u : Int32 × Int32 × (Nat → Int32) × (Nat → Int32) × (Nat → Int32)) => [((rf 0), o8 rf u.1 u.2.1 f_leftAbove f_leftBelow f_rightAbove f_rightBelow f_listed f_fed f_read f_formed f_hasSnapshot), ((rf 1), ai cI 8 f_above), ((rf 2), ai cI 8 f_below), ((rf 3), ai cI 64 u.2.2.1), ((rf 4), ai cI 64 u.2.2.2.1), ((rf 5), ai cI 64 u.2.2.2.2)])) 0 0 (va_A [((rf 0), o8 rf f_terms f_runs f_leftAbove f_leftBelow f_rightAbove f_rightBelow f_listed f_fed f_read f_formed f_hasSnapshot), ((rf 1), ai cI 8 f_above), ((rf 2), ai cI 8 f_below), ((rf 3), ai cI 64 f_term), ((rf 4), ai cI 64 f_run), ((rf 5), ai cI 64 f_isRight)] sz) := by
  refine kMetI (cc := cX8_pathStep) (maxL := 4) (by decide +kernel) rfl (Nat.le_of_ble_eq_true rfl) ?_
  intro p e s m args below meth c H0 ls A Q C0 hK hN hP hD hS hA hl RET
  obtain ⟨hx, hb, hml, hown, hts⟩ := id C0
  have hl : lv_has ls 4 [(0, .ref (rf 0)), (1, .int v1), (2, .int v2)] := hl
  have g7 := hts (.fieldLink RX8 7 "SternBrocotExplorerModel" "above" "[I") (by decide +kernel)
  have g13 := hts (.fieldLink RX8 13 "SternBrocotExplorerModel" "below" "[I") (by decide +kernel)
  have hi9 : ∀ w ∈ wsX80, w ∈ wsX8_pathStep := fun w h => List.mem_cons_of_mem _ (List.mem_append_right _ h)
  unfold w8_pathStep at hw
  have hP : va_P D vwCl [((rf 0), o8 rf f_terms f_runs f_leftAbove f_leftBelow f_rightAbove f_rightBelow f_listed f_fed f_read f_formed f_hasSnapshot), ((rf 1), ai cI 8 f_above), ((rf 2), ai cI 8 f_below), ((rf 3), ai cI 64 f_term), ((rf 4), ai cI 64 f_run), ((rf 5), ai cI 64 f_isRight)] H0 := hP
  refine lv_aload_n hx hb dX8_pathStep_0 rfl (lv_at hl 0 rfl) ?_
  refine lv_iload_n hx hb dX8_pathStep_1 rfl (lv_at hl 1 rfl) ?_
  refine kcRI (wc := [((rf 0), o8 rf f_terms f_runs f_leftAbove f_leftBelow f_rightAbove f_rightBelow f_listed f_fed f_read f_formed f_hasSnapshot)]) hP [0] rfl (fun hPc => oV (As := [.int v1]) (rest := []) C0 hK hN (c8_isRegister l D cI cJ cN cR rf f_terms f_runs f_leftAbove f_leftBelow f_rightAbove f_rightBelow f_listed f_fed f_read f_formed f_hasSnapshot v1 _ hw) 1 gX8_pathStep_X8_isRegister rfl ⟨rfl, rfl⟩ nm8_isRegister ⟨Nat.le_of_ble_eq_true rfl, Nat.le_of_ble_eq_true rfl⟩ (q0 := 0) rfl rfl rfl rfl hl.1 rfl (Nat.le_of_ble_eq_true rfl) dX8_pathStep_2 ⟨Nat.le_of_ble_eq_true rfl, Nat.le_of_ble_eq_true rfl⟩ hPc) (fun r2 hw => ?_)
  obtain ⟨nb2, hw⟩ := hw
  refine lv_if_eq (tgt := 12) hx hb dX8_pathStep_5 (by decide) (fun k => ?_) (fun k => ?_)
  · have hw := hw.1 k
    refine lv_iconst (v := (-1 : Int32)) hx hb dX8_pathStep_12 (by decide) ?_
    exact RET _ _ _ (f_terms, f_runs, f_term, f_run, f_isRight) _ _ hw hP hD hS dX8_pathStep_13
  · have hw := hw.2 k
    refine lv_iload_n hx hb dX8_pathStep_8 rfl (lv_at hl 2 rfl) ?_
    refine lv_if_ge (tgt := 14) hx hb dX8_pathStep_9 (by decide) (fun k => ?_) (fun k => ?_)
    · have hw := hw.1 k
      refine lv_aload_n hx hb dX8_pathStep_14 rfl (lv_at hl 0 rfl) ?_
      refine lv_aload_n hx hb dX8_pathStep_15 rfl (lv_at hl 0 rfl) ?_
      refine va_get (D := D) (ci := 8) (v := .ref (rf 1)) (C := RX8) (T := TX8) (N := 35) hx hb hts hi9 hown hK hP 0 rfl rfl 0 (by decide) g7 (fun _ h9 => h9) rfl dX8_pathStep_16 ?_
      refine lv_iload_n hx hb dX8_pathStep_19 rfl (lv_at hl 1 rfl) ?_
      obtain ⟨hin, hw⟩ := hw
      refine va_iald hx hb hK hP 1 0 rfl rfl hin dX8_pathStep_20 ?_
      refine lv_aload_n hx hb dX8_pathStep_21 rfl (lv_at hl 0 rfl) ?_
      refine va_get (D := D) (ci := 8) (v := .ref (rf 2)) (C := RX8) (T := TX8) (N := 35) hx hb hts hi9 hown hK hP 0 rfl rfl 1 (by decide) g13 (fun _ h9 => h9) rfl dX8_pathStep_22 ?_
      refine lv_iload_n hx hb dX8_pathStep_25 rfl (lv_at hl 1 rfl) ?_
      obtain ⟨hin, hw⟩ := hw
      refine va_iald hx hb hK hP 2 0 rfl rfl hin dX8_pathStep_26 ?_
      refine kcV (wc := [((rf 0), o8 rf f_terms f_runs f_leftAbove f_leftBelow f_rightAbove f_rightBelow f_listed f_fed f_read f_formed f_hasSnapshot), ((rf 3), ai cI 64 f_term), ((rf 4), ai cI 64 f_run), ((rf 5), ai cI 64 f_isRight)]) (wr := [((rf 1), ai cI 8 f_above), ((rf 2), ai cI 8 f_below)]) hP hD hS hA [0, 3, 4, 5] [1, 2] rfl rfl ⟨rfl, rfl, by decide⟩ (fun hPc hDc => rV (As := [.int (f_above v1.toNatClampNeg), .int (f_below v1.toNatClampNeg)]) (rest := []) C0 hK hN (c8_layRuns l D cI cJ cN cR rf H0.size f_terms f_runs f_leftAbove f_leftBelow f_rightAbove f_rightBelow f_listed f_fed f_read f_formed f_hasSnapshot f_term f_run f_isRight (f_above v1.toNatClampNeg) (f_below v1.toNatClampNeg) _ hw) 2 gX8_pathStep_X8_layRuns rfl ⟨rfl, rfl⟩ nm8_layRuns ⟨Nat.le_of_ble_eq_true rfl, Nat.le_of_ble_eq_true rfl⟩ (q0 := 0) rfl rfl rfl rfl hl.1 rfl (Nat.le_of_ble_eq_true rfl) dX8_pathStep_27 ⟨Nat.le_of_ble_eq_true rfl, Nat.le_of_ble_eq_true rfl⟩ hPc hDc) (fun u27 H locs hw hP hD hS => ?_)
      obtain ⟨f_terms_27, f_runs_27, f_term_27, f_run_27, f_isRight_27⟩ := u27
      dsimp only at hw
      have hP : va_P D vwCl [((rf 1), ai cI 8 f_above), ((rf 2), ai cI 8 f_below), ((rf 0), o8 rf f_terms_27 f_runs_27 f_leftAbove f_leftBelow f_rightAbove f_rightBelow f_listed f_fed f_read f_formed f_hasSnapshot), ((rf 3), ai cI 64 f_term_27), ((rf 4), ai cI 64 f_run_27), ((rf 5), ai cI 64 f_isRight_27)] H := hP
      have hD : va_D A [((rf 1), ai cI 8 f_above), ((rf 2), ai cI 8 f_below), ((rf 0), o8 rf f_terms_27 f_runs_27 f_leftAbove f_leftBelow f_rightAbove f_rightBelow f_listed f_fed f_read f_formed f_hasSnapshot), ((rf 3), ai cI 64 f_term_27), ((rf 4), ai cI 64 f_run_27), ((rf 5), ai cI 64 f_isRight_27)] := hD
      refine lv_aload_n hx hb dX8_pathStep_30 rfl (lv_at hl 0 rfl) ?_
      refine lv_iload_n hx hb dX8_pathStep_31 rfl (lv_at hl 2 rfl) ?_
      refine kcRI (wc := [((rf 0), o8 rf f_terms_27 f_runs_27 f_leftAbove f_leftBelow f_rightAbove f_rightBelow f_listed f_fed f_read f_formed f_hasSnapshot), ((rf 4), ai cI 64 f_run_27), ((rf 5), ai cI 64 f_isRight_27)]) hP [2, 4, 5] rfl (fun hPc => oV (As := [.int v2]) (rest := []) C0 hK hN (c8_step l D cI cJ cN cR rf f_terms_27 f_runs_27 f_leftAbove f_leftBelow f_rightAbove f_rightBelow f_listed f_fed f_read f_formed f_hasSnapshot f_run_27 f_isRight_27 v2 _ hw) 1 gX8_pathStep_X8_step rfl ⟨rfl, rfl⟩ nm8_step ⟨Nat.le_of_ble_eq_true rfl, Nat.le_of_ble_eq_true rfl⟩ (q0 := 0) rfl rfl rfl rfl hl.1 rfl (Nat.le_of_ble_eq_true rfl) dX8_pathStep_32 ⟨Nat.le_of_ble_eq_true rfl, Nat.le_of_ble_eq_true rfl⟩ hPc) (fun r32 hw => ?_)
      refine lv_istore_n (lv' := [(3, .int r32), (0, .ref (rf 0)), (1, .int v1), (2, .int v2)]) hx hb dX8_pathStep_35 rfl hl (by decide) rfl (fun ls hl => ?_)
      refine lv_iload_n hx hb dX8_pathStep_36 rfl (lv_at hl 0 rfl) ?_
      refine lv_if_ge (tgt := 45) hx hb dX8_pathStep_37 (by decide) (fun k => ?_) (fun k => ?_)
      · have hw := hw.1 k
        refine lv_iload_n hx hb dX8_pathStep_45 rfl (lv_at hl 0 rfl) ?_
        obtain ⟨hP, hD⟩ := k_sub (ws' := [((rf 0), o8 rf f_terms_27 f_runs_27 f_leftAbove f_leftBelow f_rightAbove f_rightBelow f_listed f_fed f_read f_formed f_hasSnapshot), ((rf 1), ai cI 8 f_above), ((rf 2), ai cI 8 f_below), ((rf 3), ai cI 64 f_term_27), ((rf 4), ai cI 64 f_run_27), ((rf 5), ai cI 64 f_isRight_27)]) hP hD [2, 0, 1, 3, 4, 5] rfl rfl
        exact RET _ _ _ (f_terms_27, f_runs_27, f_term_27, f_run_27, f_isRight_27) _ _ hw hP hD hS dX8_pathStep_46
      · have hw := hw.2 k
        refine lv_bipush (v := (-2 : Int32)) hx hb dX8_pathStep_40 (by decide) ?_
        refine lv_goto (tgt := 46) hx hb dX8_pathStep_42 (by decide) ?_
        obtain ⟨hP, hD⟩ := k_sub (ws' := [((rf 0), o8 rf f_terms_27 f_runs_27 f_leftAbove f_leftBelow f_rightAbove f_rightBelow f_listed f_fed f_read f_formed f_hasSnapshot), ((rf 1), ai cI 8 f_above), ((rf 2), ai cI 8 f_below), ((rf 3), ai cI 64 f_term_27), ((rf 4), ai cI 64 f_run_27), ((rf 5), ai cI 64 f_isRight_27)]) hP hD [2, 0, 1, 3, 4, 5] rfl rfl
        exact RET _ _ _ (f_terms_27, f_runs_27, f_term_27, f_run_27, f_isRight_27) _ _ hw hP hD hS dX8_pathStep_46
    · have hw := hw.2 k
      refine lv_iconst (v := (-1 : Int32)) hx hb dX8_pathStep_12 (by decide) ?_
      exact RET _ _ _ (f_terms, f_runs, f_term, f_run, f_isRight) _ _ hw hP hD hS dX8_pathStep_13
abbrev rm8_runCount : Room := { frames := 2, cells := 0, slots := 0, locals := 49 }
theorem nm8_runCount : kNm yX8_runCount 1 := by decide +kernel
set_option maxHeartbeats 4000000 in
set_option maxRecDepth 100000 in
theorem c8_runCount (l : Launch) (D : va_G) (cI cJ cN cR : ClassId) (rf : Nat → Nat) (sz : Nat) (f_terms : Int32) (f_runs : Int32) (f_leftAbove : Int64) (f_leftBelow : Int64) (f_rightAbove : Int64) (f_rightBelow : Int64) (f_listed : Int32) (f_fed : Int32) (f_read : Int32) (f_formed : Int32) (f_hasSnapshot : Int32) (f_above : (Nat → Int32)) (f_below : (Nat → Int32)) (f_term : (Nat → Int32)) (f_run : (Nat → Int32)) (f_isRight : (Nat → Int32)) (v1 : Int32) (post : Int32 → Int32 → Int32 → (Nat → Int32) → (Nat → Int32) → (Nat → Int32) → Prop) (hw : w8_runCount f_terms f_runs f_above f_below f_term f_run f_isRight v1 post) : Met l yX8_runCount wsX8_runCount rm8_runCount (kP D (kT cI cJ cN cR) sz [.ref (rf 0), .int v1] [((rf 0), o8 rf f_terms f_runs f_leftAbove f_leftBelow f_rightAbove f_rightBelow f_listed f_fed f_read f_formed f_hasSnapshot), ((rf 1), ai cI 8 f_above), ((rf 2), ai cI 8 f_below), ((rf 3), ai cI 64 f_term), ((rf 4), ai cI 64 f_run), ((rf 5), ai cI 64 f_isRight)]) (kQi D [((rf 0), o8 rf f_terms f_runs f_leftAbove f_leftBelow f_rightAbove f_rightBelow f_listed f_fed f_read f_formed f_hasSnapshot), ((rf 1), ai cI 8 f_above), ((rf 2), ai cI 8 f_below), ((rf 3), ai cI 64 f_term), ((rf 4), ai cI 64 f_run), ((rf 5), ai cI 64 f_isRight)] sz (fun (r : Int32) (u : Int32 × Int32 × (Nat → Int32) × (Nat → Int32) × (Nat → Int32)) => post r u.1 u.2.1 u.2.2.1 u.2.2.2.1 u.2.2.2.2) (fun (u : Int32 × Int32 × (Nat → Int32) × (Nat → Int32) × (Nat → Int32)) => [((rf 0), o8 rf u.1 u.2.1 f_leftAbove f_leftBelow f_rightAbove f_rightBelow f_listed f_fed f_read f_formed f_hasSnapshot), ((rf 1), ai cI 8 f_above), ((rf 2), ai cI 8 f_below), ((rf 3), ai cI 64 u.2.2.1), ((rf 4), ai cI 64 u.2.2.2.1), ((rf 5), ai cI 64 u.2.2.2.2)])) 0 0 (va_A [((rf 0), o8 rf f_terms f_runs f_leftAbove f_leftBelow f_rightAbove f_rightBelow f_listed f_fed f_read f_formed f_hasSnapshot), ((rf 1), ai cI 8 f_above), ((rf 2), ai cI 8 f_below), ((rf 3), ai cI 64 f_term), ((rf 4), ai cI 64 f_run), ((rf 5), ai cI 64 f_isRight)] sz) := by
  refine kMetI (cc := cX8_runCount) (maxL := 2) (by decide +kernel) rfl (Nat.le_of_ble_eq_true rfl) ?_
  intro p e s m args below meth c H0 ls A Q C0 hK hN hP hD hS hA hl RET
  obtain ⟨hx, hb, hml, hown, hts⟩ := id C0
  have hl : lv_has ls 2 [(0, .ref (rf 0)), (1, .int v1)] := hl
  have g7 := hts (.fieldLink RX8 7 "SternBrocotExplorerModel" "above" "[I") (by decide +kernel)
  have g13 := hts (.fieldLink RX8 13 "SternBrocotExplorerModel" "below" "[I") (by decide +kernel)
  have g29 := hts (.fieldLink RX8 29 "SternBrocotExplorerModel" "runs" "I") (by decide +kernel)
  have hi9 : ∀ w ∈ wsX80, w ∈ wsX8_runCount := fun w h => List.mem_cons_of_mem _ (List.mem_append_right _ h)
  unfold w8_runCount at hw
  have hP : va_P D vwCl [((rf 0), o8 rf f_terms f_runs f_leftAbove f_leftBelow f_rightAbove f_rightBelow f_listed f_fed f_read f_formed f_hasSnapshot), ((rf 1), ai cI 8 f_above), ((rf 2), ai cI 8 f_below), ((rf 3), ai cI 64 f_term), ((rf 4), ai cI 64 f_run), ((rf 5), ai cI 64 f_isRight)] H0 := hP
  refine lv_aload_n hx hb dX8_runCount_0 rfl (lv_at hl 0 rfl) ?_
  refine lv_iload_n hx hb dX8_runCount_1 rfl (lv_at hl 1 rfl) ?_
  refine kcRI (wc := [((rf 0), o8 rf f_terms f_runs f_leftAbove f_leftBelow f_rightAbove f_rightBelow f_listed f_fed f_read f_formed f_hasSnapshot)]) hP [0] rfl (fun hPc => oV (As := [.int v1]) (rest := []) C0 hK hN (c8_isRegister l D cI cJ cN cR rf f_terms f_runs f_leftAbove f_leftBelow f_rightAbove f_rightBelow f_listed f_fed f_read f_formed f_hasSnapshot v1 _ hw) 1 gX8_runCount_X8_isRegister rfl ⟨rfl, rfl⟩ nm8_isRegister ⟨Nat.le_of_ble_eq_true rfl, Nat.le_of_ble_eq_true rfl⟩ (q0 := 0) rfl rfl rfl rfl hl.1 rfl (Nat.le_of_ble_eq_true rfl) dX8_runCount_2 ⟨Nat.le_of_ble_eq_true rfl, Nat.le_of_ble_eq_true rfl⟩ hPc) (fun r2 hw => ?_)
  obtain ⟨nb2, hw⟩ := hw
  refine lv_if_ne (tgt := 10) hx hb dX8_runCount_5 (by decide) (fun k => ?_) (fun k => ?_)
  · have hw := hw.1 k
    refine lv_aload_n hx hb dX8_runCount_10 rfl (lv_at hl 0 rfl) ?_
    refine lv_aload_n hx hb dX8_runCount_11 rfl (lv_at hl 0 rfl) ?_
    refine va_get (D := D) (ci := 8) (v := .ref (rf 1)) (C := RX8) (T := TX8) (N := 35) hx hb hts hi9 hown hK hP 0 rfl rfl 0 (by decide) g7 (fun _ h9 => h9) rfl dX8_runCount_12 ?_
    refine lv_iload_n hx hb dX8_runCount_15 rfl (lv_at hl 1 rfl) ?_
    obtain ⟨hin, hw⟩ := hw
    refine va_iald hx hb hK hP 1 0 rfl rfl hin dX8_runCount_16 ?_
    refine lv_aload_n hx hb dX8_runCount_17 rfl (lv_at hl 0 rfl) ?_
    refine va_get (D := D) (ci := 8) (v := .ref (rf 2)) (C := RX8) (T := TX8) (N := 35) hx hb hts hi9 hown hK hP 0 rfl rfl 1 (by decide) g13 (fun _ h9 => h9) rfl dX8_runCount_18 ?_
    refine lv_iload_n hx hb dX8_runCount_21 rfl (lv_at hl 1 rfl) ?_
    obtain ⟨hin, hw⟩ := hw
    refine va_iald hx hb hK hP 2 0 rfl rfl hin dX8_runCount_22 ?_
    refine kcV (wc := [((rf 0), o8 rf f_terms f_runs f_leftAbove f_leftBelow f_rightAbove f_rightBelow f_listed f_fed f_read f_formed f_hasSnapshot), ((rf 3), ai cI 64 f_term), ((rf 4), ai cI 64 f_run), ((rf 5), ai cI 64 f_isRight)]) (wr := [((rf 1), ai cI 8 f_above), ((rf 2), ai cI 8 f_below)]) hP hD hS hA [0, 3, 4, 5] [1, 2] rfl rfl ⟨rfl, rfl, by decide⟩ (fun hPc hDc => rV (As := [.int (f_above v1.toNatClampNeg), .int (f_below v1.toNatClampNeg)]) (rest := []) C0 hK hN (c8_layRuns l D cI cJ cN cR rf H0.size f_terms f_runs f_leftAbove f_leftBelow f_rightAbove f_rightBelow f_listed f_fed f_read f_formed f_hasSnapshot f_term f_run f_isRight (f_above v1.toNatClampNeg) (f_below v1.toNatClampNeg) _ hw) 2 gX8_runCount_X8_layRuns rfl ⟨rfl, rfl⟩ nm8_layRuns ⟨Nat.le_of_ble_eq_true rfl, Nat.le_of_ble_eq_true rfl⟩ (q0 := 0) rfl rfl rfl rfl hl.1 rfl (Nat.le_of_ble_eq_true rfl) dX8_runCount_23 ⟨Nat.le_of_ble_eq_true rfl, Nat.le_of_ble_eq_true rfl⟩ hPc hDc) (fun u23 H locs hw hP hD hS => ?_)
    obtain ⟨f_terms_23, f_runs_23, f_term_23, f_run_23, f_isRight_23⟩ := u23
    dsimp only at hw
    have hP : va_P D vwCl [((rf 1), ai cI 8 f_above), ((rf 2), ai cI 8 f_below), ((rf 0), o8 rf f_terms_23 f_runs_23 f_leftAbove f_leftBelow f_rightAbove f_rightBelow f_listed f_fed f_read f_formed f_hasSnapshot), ((rf 3), ai cI 64 f_term_23), ((rf 4), ai cI 64 f_run_23), ((rf 5), ai cI 64 f_isRight_23)] H := hP
    have hD : va_D A [((rf 1), ai cI 8 f_above), ((rf 2), ai cI 8 f_below), ((rf 0), o8 rf f_terms_23 f_runs_23 f_leftAbove f_leftBelow f_rightAbove f_rightBelow f_listed f_fed f_read f_formed f_hasSnapshot), ((rf 3), ai cI 64 f_term_23), ((rf 4), ai cI 64 f_run_23), ((rf 5), ai cI 64 f_isRight_23)] := hD
    refine lv_aload_n hx hb dX8_runCount_26 rfl (lv_at hl 0 rfl) ?_
    refine va_get (D := D) (ci := 8) (v := .int f_runs_23) (C := RX8) (T := TX8) (N := 35) hx hb hts hi9 hown hK hP 2 rfl rfl 6 (by decide) g29 (fun _ h9 => h9) rfl dX8_runCount_27 ?_
    obtain ⟨hP, hD⟩ := k_sub (ws' := [((rf 0), o8 rf f_terms_23 f_runs_23 f_leftAbove f_leftBelow f_rightAbove f_rightBelow f_listed f_fed f_read f_formed f_hasSnapshot), ((rf 1), ai cI 8 f_above), ((rf 2), ai cI 8 f_below), ((rf 3), ai cI 64 f_term_23), ((rf 4), ai cI 64 f_run_23), ((rf 5), ai cI 64 f_isRight_23)]) hP hD [2, 0, 1, 3, 4, 5] rfl rfl
    exact RET _ _ _ (f_terms_23, f_runs_23, f_term_23, f_run_23, f_isRight_23) _ _ hw hP hD hS dX8_runCount_30
  · have hw := hw.2 k
    refine lv_iconst (v := (-1 : Int32)) hx hb dX8_runCount_8 (by decide) ?_
    exact RET _ _ _ (f_terms, f_runs, f_term, f_run, f_isRight) _ _ hw hP hD hS dX8_runCount_9
abbrev rm8_run : Room := { frames := 2, cells := 0, slots := 0, locals := 49 }
theorem nm8_run : kNm yX8_run 2 := by decide +kernel
set_option maxHeartbeats 4000000 in
set_option maxRecDepth 100000 in
theorem c8_run (l : Launch) (D : va_G) (cI cJ cN cR : ClassId) (rf : Nat → Nat) (sz : Nat) (f_terms : Int32) (f_runs : Int32) (f_leftAbove : Int64) (f_leftBelow : Int64) (f_rightAbove : Int64) (f_rightBelow : Int64) (f_listed : Int32) (f_fed : Int32) (f_read : Int32) (f_formed : Int32) (f_hasSnapshot : Int32) (f_above : (Nat → Int32)) (f_below : (Nat → Int32)) (f_term : (Nat → Int32)) (f_run : (Nat → Int32)) (f_isRight : (Nat → Int32)) (v1 : Int32) (v2 : Int32) (post : Int32 → Int32 → Int32 → (Nat → Int32) → (Nat → Int32) → (Nat → Int32) → Prop) (hw : w8_run f_terms f_runs f_above f_below f_term f_run f_isRight v1 v2 post) : Met l yX8_run wsX8_run rm8_run (kP D (kT cI cJ cN cR) sz [.ref (rf 0), .int v1, .int v2] [((rf 0), o8 rf f_terms f_runs f_leftAbove f_leftBelow f_rightAbove f_rightBelow f_listed f_fed f_read f_formed f_hasSnapshot), ((rf 1), ai cI 8 f_above), ((rf 2), ai cI 8 f_below), ((rf 3), ai cI 64 f_term), ((rf 4), ai cI 64 f_run), ((rf 5), ai cI 64 f_isRight)]) (kQi D [((rf 0), o8 rf f_terms f_runs f_leftAbove f_leftBelow f_rightAbove f_rightBelow f_listed f_fed f_read f_formed f_hasSnapshot), ((rf 1), ai cI 8 f_above), ((rf 2), ai cI 8 f_below), ((rf 3), ai cI 64 f_term), ((rf 4), ai cI 64 f_run), ((rf 5), ai cI 64 f_isRight)] sz (fun (r : Int32) (u : Int32 × Int32 × (Nat → Int32) × (Nat → Int32) × (Nat → Int32)) => post r u.1 u.2.1 u.2.2.1 u.2.2.2.1 u.2.2.2.2) (fun (u : Int32 × Int32 × (Nat → Int32) × (Nat → Int32) × (Nat → Int32)) => [((rf 0), o8 rf u.1 u.2.1 f_leftAbove f_leftBelow f_rightAbove f_rightBelow f_listed f_fed f_read f_formed f_hasSnapshot), ((rf 1), ai cI 8 f_above), ((rf 2), ai cI 8 f_below), ((rf 3), ai cI 64 u.2.2.1), ((rf 4), ai cI 64 u.2.2.2.1), ((rf 5), ai cI 64 u.2.2.2.2)])) 0 0 (va_A [((rf 0), o8 rf f_terms f_runs f_leftAbove f_leftBelow f_rightAbove f_rightBelow f_listed f_fed f_read f_formed f_hasSnapshot), ((rf 1), ai cI 8 f_above), ((rf 2), ai cI 8 f_below), ((rf 3), ai cI 64 f_term), ((rf 4), ai cI 64 f_run), ((rf 5), ai cI 64 f_isRight)] sz) := by
  refine kMetI (cc := cX8_run) (maxL := 3) (by decide +kernel) rfl (Nat.le_of_ble_eq_true rfl) ?_
  intro p e s m args below meth c H0 ls A Q C0 hK hN hP hD hS hA hl RET
  obtain ⟨hx, hb, hml, hown, hts⟩ := id C0
  have hl : lv_has ls 3 [(0, .ref (rf 0)), (1, .int v1), (2, .int v2)] := hl
  have g7 := hts (.fieldLink RX8 7 "SternBrocotExplorerModel" "above" "[I") (by decide +kernel)
  have g13 := hts (.fieldLink RX8 13 "SternBrocotExplorerModel" "below" "[I") (by decide +kernel)
  have g29 := hts (.fieldLink RX8 29 "SternBrocotExplorerModel" "runs" "I") (by decide +kernel)
  have g19 := hts (.fieldLink RX8 19 "SternBrocotExplorerModel" "run" "[I") (by decide +kernel)
  have hi9 : ∀ w ∈ wsX80, w ∈ wsX8_run := fun w h => List.mem_cons_of_mem _ (List.mem_append_right _ h)
  unfold w8_run at hw
  have hP : va_P D vwCl [((rf 0), o8 rf f_terms f_runs f_leftAbove f_leftBelow f_rightAbove f_rightBelow f_listed f_fed f_read f_formed f_hasSnapshot), ((rf 1), ai cI 8 f_above), ((rf 2), ai cI 8 f_below), ((rf 3), ai cI 64 f_term), ((rf 4), ai cI 64 f_run), ((rf 5), ai cI 64 f_isRight)] H0 := hP
  refine lv_aload_n hx hb dX8_run_0 rfl (lv_at hl 0 rfl) ?_
  refine lv_iload_n hx hb dX8_run_1 rfl (lv_at hl 1 rfl) ?_
  refine kcRI (wc := [((rf 0), o8 rf f_terms f_runs f_leftAbove f_leftBelow f_rightAbove f_rightBelow f_listed f_fed f_read f_formed f_hasSnapshot)]) hP [0] rfl (fun hPc => oV (As := [.int v1]) (rest := []) C0 hK hN (c8_isRegister l D cI cJ cN cR rf f_terms f_runs f_leftAbove f_leftBelow f_rightAbove f_rightBelow f_listed f_fed f_read f_formed f_hasSnapshot v1 _ hw) 1 gX8_run_X8_isRegister rfl ⟨rfl, rfl⟩ nm8_isRegister ⟨Nat.le_of_ble_eq_true rfl, Nat.le_of_ble_eq_true rfl⟩ (q0 := 0) rfl rfl rfl rfl hl.1 rfl (Nat.le_of_ble_eq_true rfl) dX8_run_2 ⟨Nat.le_of_ble_eq_true rfl, Nat.le_of_ble_eq_true rfl⟩ hPc) (fun r2 hw => ?_)
  obtain ⟨nb2, hw⟩ := hw
  refine lv_if_eq (tgt := 12) hx hb dX8_run_5 (by decide) (fun k => ?_) (fun k => ?_)
  · have hw := hw.1 k
    refine lv_iconst (v := (-1 : Int32)) hx hb dX8_run_12 (by decide) ?_
    exact RET _ _ _ (f_terms, f_runs, f_term, f_run, f_isRight) _ _ hw hP hD hS dX8_run_13
  · have hw := hw.2 k
    refine lv_iload_n hx hb dX8_run_8 rfl (lv_at hl 2 rfl) ?_
    refine lv_if_ge (tgt := 14) hx hb dX8_run_9 (by decide) (fun k => ?_) (fun k => ?_)
    · have hw := hw.1 k
      refine lv_aload_n hx hb dX8_run_14 rfl (lv_at hl 0 rfl) ?_
      refine lv_aload_n hx hb dX8_run_15 rfl (lv_at hl 0 rfl) ?_
      refine va_get (D := D) (ci := 8) (v := .ref (rf 1)) (C := RX8) (T := TX8) (N := 35) hx hb hts hi9 hown hK hP 0 rfl rfl 0 (by decide) g7 (fun _ h9 => h9) rfl dX8_run_16 ?_
      refine lv_iload_n hx hb dX8_run_19 rfl (lv_at hl 1 rfl) ?_
      obtain ⟨hin, hw⟩ := hw
      refine va_iald hx hb hK hP 1 0 rfl rfl hin dX8_run_20 ?_
      refine lv_aload_n hx hb dX8_run_21 rfl (lv_at hl 0 rfl) ?_
      refine va_get (D := D) (ci := 8) (v := .ref (rf 2)) (C := RX8) (T := TX8) (N := 35) hx hb hts hi9 hown hK hP 0 rfl rfl 1 (by decide) g13 (fun _ h9 => h9) rfl dX8_run_22 ?_
      refine lv_iload_n hx hb dX8_run_25 rfl (lv_at hl 1 rfl) ?_
      obtain ⟨hin, hw⟩ := hw
      refine va_iald hx hb hK hP 2 0 rfl rfl hin dX8_run_26 ?_
      refine kcV (wc := [((rf 0), o8 rf f_terms f_runs f_leftAbove f_leftBelow f_rightAbove f_rightBelow f_listed f_fed f_read f_formed f_hasSnapshot), ((rf 3), ai cI 64 f_term), ((rf 4), ai cI 64 f_run), ((rf 5), ai cI 64 f_isRight)]) (wr := [((rf 1), ai cI 8 f_above), ((rf 2), ai cI 8 f_below)]) hP hD hS hA [0, 3, 4, 5] [1, 2] rfl rfl ⟨rfl, rfl, by decide⟩ (fun hPc hDc => rV (As := [.int (f_above v1.toNatClampNeg), .int (f_below v1.toNatClampNeg)]) (rest := []) C0 hK hN (c8_layRuns l D cI cJ cN cR rf H0.size f_terms f_runs f_leftAbove f_leftBelow f_rightAbove f_rightBelow f_listed f_fed f_read f_formed f_hasSnapshot f_term f_run f_isRight (f_above v1.toNatClampNeg) (f_below v1.toNatClampNeg) _ hw) 2 gX8_run_X8_layRuns rfl ⟨rfl, rfl⟩ nm8_layRuns ⟨Nat.le_of_ble_eq_true rfl, Nat.le_of_ble_eq_true rfl⟩ (q0 := 0) rfl rfl rfl rfl hl.1 rfl (Nat.le_of_ble_eq_true rfl) dX8_run_27 ⟨Nat.le_of_ble_eq_true rfl, Nat.le_of_ble_eq_true rfl⟩ hPc hDc) (fun u27 H locs hw hP hD hS => ?_)
      obtain ⟨f_terms_27, f_runs_27, f_term_27, f_run_27, f_isRight_27⟩ := u27
      dsimp only at hw
      have hP : va_P D vwCl [((rf 1), ai cI 8 f_above), ((rf 2), ai cI 8 f_below), ((rf 0), o8 rf f_terms_27 f_runs_27 f_leftAbove f_leftBelow f_rightAbove f_rightBelow f_listed f_fed f_read f_formed f_hasSnapshot), ((rf 3), ai cI 64 f_term_27), ((rf 4), ai cI 64 f_run_27), ((rf 5), ai cI 64 f_isRight_27)] H := hP
      have hD : va_D A [((rf 1), ai cI 8 f_above), ((rf 2), ai cI 8 f_below), ((rf 0), o8 rf f_terms_27 f_runs_27 f_leftAbove f_leftBelow f_rightAbove f_rightBelow f_listed f_fed f_read f_formed f_hasSnapshot), ((rf 3), ai cI 64 f_term_27), ((rf 4), ai cI 64 f_run_27), ((rf 5), ai cI 64 f_isRight_27)] := hD
      refine lv_iload_n hx hb dX8_run_30 rfl (lv_at hl 2 rfl) ?_
      refine lv_aload_n hx hb dX8_run_31 rfl (lv_at hl 0 rfl) ?_
      refine va_get (D := D) (ci := 8) (v := .int f_runs_27) (C := RX8) (T := TX8) (N := 35) hx hb hts hi9 hown hK hP 2 rfl rfl 6 (by decide) g29 (fun _ h9 => h9) rfl dX8_run_32 ?_
      refine lv_icmp_ge (tgt := 47) hx hb dX8_run_35 (by decide) (fun k => ?_) (fun k => ?_)
      · have hw := hw.1 k
        refine lv_bipush (v := (-2 : Int32)) hx hb dX8_run_47 (by decide) ?_
        obtain ⟨hP, hD⟩ := k_sub (ws' := [((rf 0), o8 rf f_terms_27 f_runs_27 f_leftAbove f_leftBelow f_rightAbove f_rightBelow f_listed f_fed f_read f_formed f_hasSnapshot), ((rf 1), ai cI 8 f_above), ((rf 2), ai cI 8 f_below), ((rf 3), ai cI 64 f_term_27), ((rf 4), ai cI 64 f_run_27), ((rf 5), ai cI 64 f_isRight_27)]) hP hD [2, 0, 1, 3, 4, 5] rfl rfl
        exact RET _ _ _ (f_terms_27, f_runs_27, f_term_27, f_run_27, f_isRight_27) _ _ hw hP hD hS dX8_run_49
      · have hw := hw.2 k
        refine lv_aload_n hx hb dX8_run_38 rfl (lv_at hl 0 rfl) ?_
        refine va_get (D := D) (ci := 8) (v := .ref (rf 4)) (C := RX8) (T := TX8) (N := 35) hx hb hts hi9 hown hK hP 2 rfl rfl 3 (by decide) g19 (fun _ h9 => h9) rfl dX8_run_39 ?_
        refine lv_iload_n hx hb dX8_run_42 rfl (lv_at hl 2 rfl) ?_
        obtain ⟨hin, hw⟩ := hw
        refine va_iald hx hb hK hP 4 0 rfl rfl hin dX8_run_43 ?_
        refine lv_goto (tgt := 49) hx hb dX8_run_44 (by decide) ?_
        obtain ⟨hP, hD⟩ := k_sub (ws' := [((rf 0), o8 rf f_terms_27 f_runs_27 f_leftAbove f_leftBelow f_rightAbove f_rightBelow f_listed f_fed f_read f_formed f_hasSnapshot), ((rf 1), ai cI 8 f_above), ((rf 2), ai cI 8 f_below), ((rf 3), ai cI 64 f_term_27), ((rf 4), ai cI 64 f_run_27), ((rf 5), ai cI 64 f_isRight_27)]) hP hD [2, 0, 1, 3, 4, 5] rfl rfl
        exact RET _ _ _ (f_terms_27, f_runs_27, f_term_27, f_run_27, f_isRight_27) _ _ hw hP hD hS dX8_run_49
    · have hw := hw.2 k
      refine lv_iconst (v := (-1 : Int32)) hx hb dX8_run_12 (by decide) ?_
      exact RET _ _ _ (f_terms, f_runs, f_term, f_run, f_isRight) _ _ hw hP hD hS dX8_run_13
abbrev rm8_toRoot : Room := { frames := 0, cells := 0, slots := 0, locals := 0 }
theorem nm8_toRoot : kNm yX8_toRoot 0 := by decide +kernel
set_option maxHeartbeats 4000000 in
set_option maxRecDepth 100000 in
theorem c8_toRoot (l : Launch) (D : va_G) (cI cJ cN cR : ClassId) (rf : Nat → Nat) (sz : Nat) (f_terms : Int32) (f_runs : Int32) (f_leftAbove : Int64) (f_leftBelow : Int64) (f_rightAbove : Int64) (f_rightBelow : Int64) (f_listed : Int32) (f_fed : Int32) (f_read : Int32) (f_formed : Int32) (f_hasSnapshot : Int32)  (post : Int64 → Int64 → Int64 → Int64 → Prop) (hw : w8_toRoot f_leftAbove f_leftBelow f_rightAbove f_rightBelow post) : Met l yX8_toRoot wsX8_toRoot rm8_toRoot (kP D (kT cI cJ cN cR) sz [.ref (rf 0)] [((rf 0), o8 rf f_terms f_runs f_leftAbove f_leftBelow f_rightAbove f_rightBelow f_listed f_fed f_read f_formed f_hasSnapshot)]) (kQv D [((rf 0), o8 rf f_terms f_runs f_leftAbove f_leftBelow f_rightAbove f_rightBelow f_listed f_fed f_read f_formed f_hasSnapshot)] sz (fun (u : Int64 × Int64 × Int64 × Int64) => post u.1 u.2.1 u.2.2.1 u.2.2.2) (fun (u : Int64 × Int64 × Int64 × Int64) => [((rf 0), o8 rf f_terms f_runs u.1 u.2.1 u.2.2.1 u.2.2.2 f_listed f_fed f_read f_formed f_hasSnapshot)])) 0 0 (va_A [((rf 0), o8 rf f_terms f_runs f_leftAbove f_leftBelow f_rightAbove f_rightBelow f_listed f_fed f_read f_formed f_hasSnapshot)] sz) := by
  refine kMetV (cc := cX8_toRoot) (maxL := 1) (by decide +kernel) rfl (Nat.le_of_ble_eq_true rfl) ?_
  intro p e s m args below meth c H0 ls A Q C0 hK hN hP hD hS hA hl RET
  obtain ⟨hx, hb, hml, hown, hts⟩ := id C0
  have hl : lv_has ls 1 [(0, .ref (rf 0))] := hl
  have g32 := hts (.fieldLink RX8 32 "SternBrocotExplorerModel" "leftAbove" "J") (by decide +kernel)
  have g36 := hts (.fieldLink RX8 36 "SternBrocotExplorerModel" "leftBelow" "J") (by decide +kernel)
  have g39 := hts (.fieldLink RX8 39 "SternBrocotExplorerModel" "rightAbove" "J") (by decide +kernel)
  have g42 := hts (.fieldLink RX8 42 "SternBrocotExplorerModel" "rightBelow" "J") (by decide +kernel)
  have hi9 : ∀ w ∈ wsX80, w ∈ wsX8_toRoot := fun w h => List.mem_cons_of_mem _ (List.mem_append_right _ h)
  unfold w8_toRoot at hw
  have hP : va_P D vwCl [((rf 0), o8 rf f_terms f_runs f_leftAbove f_leftBelow f_rightAbove f_rightBelow f_listed f_fed f_read f_formed f_hasSnapshot)] H0 := hP
  refine lv_aload_n hx hb dX8_toRoot_0 rfl (lv_at hl 0 rfl) ?_
  refine lv_lconst (v := (0 : Int64)) hx hb dX8_toRoot_1 (by decide) ?_
  refine va_put (D := D) (ci := 8) (v := .long (0 : Int64)) (ty := .long) (C := RX8) (T := TX8) (N := 35) hx hb hts hi9 tyX8 tyX8_ok nmX8 hown hK hP hD hS 0 rfl rfl 7 (by decide) g32 (fun _ h9 => h9) rfl (by decide +kernel) rfl rfl (Nat.le_of_ble_eq_true rfl) dX8_toRoot_2 (fun H locs hP hD hS => ?_)
  have hP : va_P D vwCl [((rf 0), o8 rf f_terms f_runs (0 : Int64) f_leftBelow f_rightAbove f_rightBelow f_listed f_fed f_read f_formed f_hasSnapshot)] H := hP
  have hD : va_D A [((rf 0), o8 rf f_terms f_runs (0 : Int64) f_leftBelow f_rightAbove f_rightBelow f_listed f_fed f_read f_formed f_hasSnapshot)] := hD
  refine lv_aload_n hx hb dX8_toRoot_5 rfl (lv_at hl 0 rfl) ?_
  refine lv_lconst (v := (1 : Int64)) hx hb dX8_toRoot_6 (by decide) ?_
  refine va_put (D := D) (ci := 8) (v := .long (1 : Int64)) (ty := .long) (C := RX8) (T := TX8) (N := 35) hx hb hts hi9 tyX8 tyX8_ok nmX8 hown hK hP hD hS 0 rfl rfl 8 (by decide) g36 (fun _ h9 => h9) rfl (by decide +kernel) rfl rfl (Nat.le_of_ble_eq_true rfl) dX8_toRoot_7 (fun H locs hP hD hS => ?_)
  have hP : va_P D vwCl [((rf 0), o8 rf f_terms f_runs (0 : Int64) (1 : Int64) f_rightAbove f_rightBelow f_listed f_fed f_read f_formed f_hasSnapshot)] H := hP
  have hD : va_D A [((rf 0), o8 rf f_terms f_runs (0 : Int64) (1 : Int64) f_rightAbove f_rightBelow f_listed f_fed f_read f_formed f_hasSnapshot)] := hD
  refine lv_aload_n hx hb dX8_toRoot_10 rfl (lv_at hl 0 rfl) ?_
  refine lv_lconst (v := (1 : Int64)) hx hb dX8_toRoot_11 (by decide) ?_
  refine va_put (D := D) (ci := 8) (v := .long (1 : Int64)) (ty := .long) (C := RX8) (T := TX8) (N := 35) hx hb hts hi9 tyX8 tyX8_ok nmX8 hown hK hP hD hS 0 rfl rfl 9 (by decide) g39 (fun _ h9 => h9) rfl (by decide +kernel) rfl rfl (Nat.le_of_ble_eq_true rfl) dX8_toRoot_12 (fun H locs hP hD hS => ?_)
  have hP : va_P D vwCl [((rf 0), o8 rf f_terms f_runs (0 : Int64) (1 : Int64) (1 : Int64) f_rightBelow f_listed f_fed f_read f_formed f_hasSnapshot)] H := hP
  have hD : va_D A [((rf 0), o8 rf f_terms f_runs (0 : Int64) (1 : Int64) (1 : Int64) f_rightBelow f_listed f_fed f_read f_formed f_hasSnapshot)] := hD
  refine lv_aload_n hx hb dX8_toRoot_15 rfl (lv_at hl 0 rfl) ?_
  refine lv_lconst (v := (0 : Int64)) hx hb dX8_toRoot_16 (by decide) ?_
  refine va_put (D := D) (ci := 8) (v := .long (0 : Int64)) (ty := .long) (C := RX8) (T := TX8) (N := 35) hx hb hts hi9 tyX8 tyX8_ok nmX8 hown hK hP hD hS 0 rfl rfl 10 (by decide) g42 (fun _ h9 => h9) rfl (by decide +kernel) rfl rfl (Nat.le_of_ble_eq_true rfl) dX8_toRoot_17 (fun H locs hP hD hS => ?_)
  have hP : va_P D vwCl [((rf 0), o8 rf f_terms f_runs (0 : Int64) (1 : Int64) (1 : Int64) (0 : Int64) f_listed f_fed f_read f_formed f_hasSnapshot)] H := hP
  have hD : va_D A [((rf 0), o8 rf f_terms f_runs (0 : Int64) (1 : Int64) (1 : Int64) (0 : Int64) f_listed f_fed f_read f_formed f_hasSnapshot)] := hD
  exact RET _ _ ((0 : Int64), (1 : Int64), (1 : Int64), (0 : Int64)) _ _ hw hP hD hS dX8_toRoot_20
abbrev rm8_goRight : Room := { frames := 0, cells := 0, slots := 0, locals := 0 }
theorem nm8_goRight : kNm yX8_goRight 1 := by decide +kernel
set_option maxHeartbeats 4000000 in
set_option maxRecDepth 100000 in
theorem c8_goRight (l : Launch) (D : va_G) (cI cJ cN cR : ClassId) (rf : Nat → Nat) (sz : Nat) (f_terms : Int32) (f_runs : Int32) (f_leftAbove : Int64) (f_leftBelow : Int64) (f_rightAbove : Int64) (f_rightBelow : Int64) (f_listed : Int32) (f_fed : Int32) (f_read : Int32) (f_formed : Int32) (f_hasSnapshot : Int32) (v1 : Int64) (post : Int64 → Int64 → Prop) (hw : w8_goRight f_leftAbove f_leftBelow f_rightAbove f_rightBelow v1 post) : Met l yX8_goRight wsX8_goRight rm8_goRight (kP D (kT cI cJ cN cR) sz [.ref (rf 0), .long v1] [((rf 0), o8 rf f_terms f_runs f_leftAbove f_leftBelow f_rightAbove f_rightBelow f_listed f_fed f_read f_formed f_hasSnapshot)]) (kQv D [((rf 0), o8 rf f_terms f_runs f_leftAbove f_leftBelow f_rightAbove f_rightBelow f_listed f_fed f_read f_formed f_hasSnapshot)] sz (fun (u : Int64 × Int64) => post u.1 u.2) (fun (u : Int64 × Int64) => [((rf 0), o8 rf f_terms f_runs u.1 u.2 f_rightAbove f_rightBelow f_listed f_fed f_read f_formed f_hasSnapshot)])) 0 0 (va_A [((rf 0), o8 rf f_terms f_runs f_leftAbove f_leftBelow f_rightAbove f_rightBelow f_listed f_fed f_read f_formed f_hasSnapshot)] sz) := by
  refine kMetV (cc := cX8_goRight) (maxL := 3) (by decide +kernel) rfl (Nat.le_of_ble_eq_true rfl) ?_
  intro p e s m args below meth c H0 ls A Q C0 hK hN hP hD hS hA hl RET
  obtain ⟨hx, hb, hml, hown, hts⟩ := id C0
  have hl : lv_has ls 3 [(0, .ref (rf 0)), (1, .long v1)] := hl
  have g32 := hts (.fieldLink RX8 32 "SternBrocotExplorerModel" "leftAbove" "J") (by decide +kernel)
  have g39 := hts (.fieldLink RX8 39 "SternBrocotExplorerModel" "rightAbove" "J") (by decide +kernel)
  have g36 := hts (.fieldLink RX8 36 "SternBrocotExplorerModel" "leftBelow" "J") (by decide +kernel)
  have g42 := hts (.fieldLink RX8 42 "SternBrocotExplorerModel" "rightBelow" "J") (by decide +kernel)
  have hi9 : ∀ w ∈ wsX80, w ∈ wsX8_goRight := fun w h => List.mem_cons_of_mem _ (List.mem_append_right _ h)
  unfold w8_goRight at hw
  have hP : va_P D vwCl [((rf 0), o8 rf f_terms f_runs f_leftAbove f_leftBelow f_rightAbove f_rightBelow f_listed f_fed f_read f_formed f_hasSnapshot)] H0 := hP
  refine lv_aload_n hx hb dX8_goRight_0 rfl (lv_at hl 0 rfl) ?_
  refine lv_dup hx hb dX8_goRight_1 rfl ?_
  refine va_get (D := D) (ci := 8) (v := .long f_leftAbove) (C := RX8) (T := TX8) (N := 35) hx hb hts hi9 hown hK hP 0 rfl rfl 7 (by decide) g32 (fun _ h9 => h9) rfl dX8_goRight_2 ?_
  refine lv_lload_n hx hb dX8_goRight_5 rfl (lv_at hl 1 rfl) ?_
  refine lv_aload_n hx hb dX8_goRight_6 rfl (lv_at hl 0 rfl) ?_
  refine va_get (D := D) (ci := 8) (v := .long f_rightAbove) (C := RX8) (T := TX8) (N := 35) hx hb hts hi9 hown hK hP 0 rfl rfl 9 (by decide) g39 (fun _ h9 => h9) rfl dX8_goRight_7 ?_
  refine lv_lmul hx hb dX8_goRight_10 ?_
  refine lv_ladd hx hb dX8_goRight_11 ?_
  refine lv_topl (fun x12 ex12 => ?_)
  have hw := hw x12 ex12
  refine va_put (D := D) (ci := 8) (v := .long x12) (ty := .long) (C := RX8) (T := TX8) (N := 35) hx hb hts hi9 tyX8 tyX8_ok nmX8 hown hK hP hD hS 0 rfl rfl 7 (by decide) g32 (fun _ h9 => h9) rfl (by decide +kernel) rfl rfl (Nat.le_of_ble_eq_true rfl) dX8_goRight_12 (fun H locs hP hD hS => ?_)
  have hP : va_P D vwCl [((rf 0), o8 rf f_terms f_runs x12 f_leftBelow f_rightAbove f_rightBelow f_listed f_fed f_read f_formed f_hasSnapshot)] H := hP
  have hD : va_D A [((rf 0), o8 rf f_terms f_runs x12 f_leftBelow f_rightAbove f_rightBelow f_listed f_fed f_read f_formed f_hasSnapshot)] := hD
  refine lv_aload_n hx hb dX8_goRight_15 rfl (lv_at hl 0 rfl) ?_
  refine lv_dup hx hb dX8_goRight_16 rfl ?_
  refine va_get (D := D) (ci := 8) (v := .long f_leftBelow) (C := RX8) (T := TX8) (N := 35) hx hb hts hi9 hown hK hP 0 rfl rfl 8 (by decide) g36 (fun _ h9 => h9) rfl dX8_goRight_17 ?_
  refine lv_lload_n hx hb dX8_goRight_20 rfl (lv_at hl 1 rfl) ?_
  refine lv_aload_n hx hb dX8_goRight_21 rfl (lv_at hl 0 rfl) ?_
  refine va_get (D := D) (ci := 8) (v := .long f_rightBelow) (C := RX8) (T := TX8) (N := 35) hx hb hts hi9 hown hK hP 0 rfl rfl 10 (by decide) g42 (fun _ h9 => h9) rfl dX8_goRight_22 ?_
  refine lv_lmul hx hb dX8_goRight_25 ?_
  refine lv_ladd hx hb dX8_goRight_26 ?_
  refine lv_topl (fun x27 ex27 => ?_)
  have hw := hw x27 ex27
  refine va_put (D := D) (ci := 8) (v := .long x27) (ty := .long) (C := RX8) (T := TX8) (N := 35) hx hb hts hi9 tyX8 tyX8_ok nmX8 hown hK hP hD hS 0 rfl rfl 8 (by decide) g36 (fun _ h9 => h9) rfl (by decide +kernel) rfl rfl (Nat.le_of_ble_eq_true rfl) dX8_goRight_27 (fun H locs hP hD hS => ?_)
  have hP : va_P D vwCl [((rf 0), o8 rf f_terms f_runs x12 x27 f_rightAbove f_rightBelow f_listed f_fed f_read f_formed f_hasSnapshot)] H := hP
  have hD : va_D A [((rf 0), o8 rf f_terms f_runs x12 x27 f_rightAbove f_rightBelow f_listed f_fed f_read f_formed f_hasSnapshot)] := hD
  exact RET _ _ (x12, x27) _ _ hw hP hD hS dX8_goRight_30
abbrev rm8_goLeft : Room := { frames := 0, cells := 0, slots := 0, locals := 0 }
theorem nm8_goLeft : kNm yX8_goLeft 1 := by decide +kernel
set_option maxHeartbeats 4000000 in
set_option maxRecDepth 100000 in
theorem c8_goLeft (l : Launch) (D : va_G) (cI cJ cN cR : ClassId) (rf : Nat → Nat) (sz : Nat) (f_terms : Int32) (f_runs : Int32) (f_leftAbove : Int64) (f_leftBelow : Int64) (f_rightAbove : Int64) (f_rightBelow : Int64) (f_listed : Int32) (f_fed : Int32) (f_read : Int32) (f_formed : Int32) (f_hasSnapshot : Int32) (v1 : Int64) (post : Int64 → Int64 → Prop) (hw : w8_goLeft f_leftAbove f_leftBelow f_rightAbove f_rightBelow v1 post) : Met l yX8_goLeft wsX8_goLeft rm8_goLeft (kP D (kT cI cJ cN cR) sz [.ref (rf 0), .long v1] [((rf 0), o8 rf f_terms f_runs f_leftAbove f_leftBelow f_rightAbove f_rightBelow f_listed f_fed f_read f_formed f_hasSnapshot)]) (kQv D [((rf 0), o8 rf f_terms f_runs f_leftAbove f_leftBelow f_rightAbove f_rightBelow f_listed f_fed f_read f_formed f_hasSnapshot)] sz (fun (u : Int64 × Int64) => post u.1 u.2) (fun (u : Int64 × Int64) => [((rf 0), o8 rf f_terms f_runs f_leftAbove f_leftBelow u.1 u.2 f_listed f_fed f_read f_formed f_hasSnapshot)])) 0 0 (va_A [((rf 0), o8 rf f_terms f_runs f_leftAbove f_leftBelow f_rightAbove f_rightBelow f_listed f_fed f_read f_formed f_hasSnapshot)] sz) := by
  refine kMetV (cc := cX8_goLeft) (maxL := 3) (by decide +kernel) rfl (Nat.le_of_ble_eq_true rfl) ?_
  intro p e s m args below meth c H0 ls A Q C0 hK hN hP hD hS hA hl RET
  obtain ⟨hx, hb, hml, hown, hts⟩ := id C0
  have hl : lv_has ls 3 [(0, .ref (rf 0)), (1, .long v1)] := hl
  have g39 := hts (.fieldLink RX8 39 "SternBrocotExplorerModel" "rightAbove" "J") (by decide +kernel)
  have g32 := hts (.fieldLink RX8 32 "SternBrocotExplorerModel" "leftAbove" "J") (by decide +kernel)
  have g42 := hts (.fieldLink RX8 42 "SternBrocotExplorerModel" "rightBelow" "J") (by decide +kernel)
  have g36 := hts (.fieldLink RX8 36 "SternBrocotExplorerModel" "leftBelow" "J") (by decide +kernel)
  have hi9 : ∀ w ∈ wsX80, w ∈ wsX8_goLeft := fun w h => List.mem_cons_of_mem _ (List.mem_append_right _ h)
  unfold w8_goLeft at hw
  have hP : va_P D vwCl [((rf 0), o8 rf f_terms f_runs f_leftAbove f_leftBelow f_rightAbove f_rightBelow f_listed f_fed f_read f_formed f_hasSnapshot)] H0 := hP
  refine lv_aload_n hx hb dX8_goLeft_0 rfl (lv_at hl 0 rfl) ?_
  refine lv_dup hx hb dX8_goLeft_1 rfl ?_
  refine va_get (D := D) (ci := 8) (v := .long f_rightAbove) (C := RX8) (T := TX8) (N := 35) hx hb hts hi9 hown hK hP 0 rfl rfl 9 (by decide) g39 (fun _ h9 => h9) rfl dX8_goLeft_2 ?_
  refine lv_lload_n hx hb dX8_goLeft_5 rfl (lv_at hl 1 rfl) ?_
  refine lv_aload_n hx hb dX8_goLeft_6 rfl (lv_at hl 0 rfl) ?_
  refine va_get (D := D) (ci := 8) (v := .long f_leftAbove) (C := RX8) (T := TX8) (N := 35) hx hb hts hi9 hown hK hP 0 rfl rfl 7 (by decide) g32 (fun _ h9 => h9) rfl dX8_goLeft_7 ?_
  refine lv_lmul hx hb dX8_goLeft_10 ?_
  refine lv_ladd hx hb dX8_goLeft_11 ?_
  refine lv_topl (fun x12 ex12 => ?_)
  have hw := hw x12 ex12
  refine va_put (D := D) (ci := 8) (v := .long x12) (ty := .long) (C := RX8) (T := TX8) (N := 35) hx hb hts hi9 tyX8 tyX8_ok nmX8 hown hK hP hD hS 0 rfl rfl 9 (by decide) g39 (fun _ h9 => h9) rfl (by decide +kernel) rfl rfl (Nat.le_of_ble_eq_true rfl) dX8_goLeft_12 (fun H locs hP hD hS => ?_)
  have hP : va_P D vwCl [((rf 0), o8 rf f_terms f_runs f_leftAbove f_leftBelow x12 f_rightBelow f_listed f_fed f_read f_formed f_hasSnapshot)] H := hP
  have hD : va_D A [((rf 0), o8 rf f_terms f_runs f_leftAbove f_leftBelow x12 f_rightBelow f_listed f_fed f_read f_formed f_hasSnapshot)] := hD
  refine lv_aload_n hx hb dX8_goLeft_15 rfl (lv_at hl 0 rfl) ?_
  refine lv_dup hx hb dX8_goLeft_16 rfl ?_
  refine va_get (D := D) (ci := 8) (v := .long f_rightBelow) (C := RX8) (T := TX8) (N := 35) hx hb hts hi9 hown hK hP 0 rfl rfl 10 (by decide) g42 (fun _ h9 => h9) rfl dX8_goLeft_17 ?_
  refine lv_lload_n hx hb dX8_goLeft_20 rfl (lv_at hl 1 rfl) ?_
  refine lv_aload_n hx hb dX8_goLeft_21 rfl (lv_at hl 0 rfl) ?_
  refine va_get (D := D) (ci := 8) (v := .long f_leftBelow) (C := RX8) (T := TX8) (N := 35) hx hb hts hi9 hown hK hP 0 rfl rfl 8 (by decide) g36 (fun _ h9 => h9) rfl dX8_goLeft_22 ?_
  refine lv_lmul hx hb dX8_goLeft_25 ?_
  refine lv_ladd hx hb dX8_goLeft_26 ?_
  refine lv_topl (fun x27 ex27 => ?_)
  have hw := hw x27 ex27
  refine va_put (D := D) (ci := 8) (v := .long x27) (ty := .long) (C := RX8) (T := TX8) (N := 35) hx hb hts hi9 tyX8 tyX8_ok nmX8 hown hK hP hD hS 0 rfl rfl 10 (by decide) g42 (fun _ h9 => h9) rfl (by decide +kernel) rfl rfl (Nat.le_of_ble_eq_true rfl) dX8_goLeft_27 (fun H locs hP hD hS => ?_)
  have hP : va_P D vwCl [((rf 0), o8 rf f_terms f_runs f_leftAbove f_leftBelow x12 x27 f_listed f_fed f_read f_formed f_hasSnapshot)] H := hP
  have hD : va_D A [((rf 0), o8 rf f_terms f_runs f_leftAbove f_leftBelow x12 x27 f_listed f_fed f_read f_formed f_hasSnapshot)] := hD
  exact RET _ _ (x12, x27) _ _ hw hP hD hS dX8_goLeft_30
abbrev rm8_goDown : Room := { frames := 1, cells := 0, slots := 0, locals := 22 }
theorem nm8_goDown : kNm yX8_goDown 1 := by decide +kernel
set_option maxHeartbeats 4000000 in
set_option maxRecDepth 100000 in
theorem c8_goDown (l : Launch) (D : va_G) (cI cJ cN cR : ClassId) (rf : Nat → Nat) (sz : Nat) (f_terms : Int32) (f_runs : Int32) (f_leftAbove : Int64) (f_leftBelow : Int64) (f_rightAbove : Int64) (f_rightBelow : Int64) (f_listed : Int32) (f_fed : Int32) (f_read : Int32) (f_formed : Int32) (f_hasSnapshot : Int32) (f_run : (Nat → Int32)) (f_isRight : (Nat → Int32)) (v1 : Int32) (post : Int64 → Int64 → Int64 → Int64 → Prop) (hw : w8_goDown f_runs f_leftAbove f_leftBelow f_rightAbove f_rightBelow f_run f_isRight v1 post) : Met l yX8_goDown wsX8_goDown rm8_goDown (kP D (kT cI cJ cN cR) sz [.ref (rf 0), .int v1] [((rf 0), o8 rf f_terms f_runs f_leftAbove f_leftBelow f_rightAbove f_rightBelow f_listed f_fed f_read f_formed f_hasSnapshot), ((rf 4), ai cI 64 f_run), ((rf 5), ai cI 64 f_isRight)]) (kQv D [((rf 0), o8 rf f_terms f_runs f_leftAbove f_leftBelow f_rightAbove f_rightBelow f_listed f_fed f_read f_formed f_hasSnapshot), ((rf 4), ai cI 64 f_run), ((rf 5), ai cI 64 f_isRight)] sz (fun (u : Int64 × Int64 × Int64 × Int64) => post u.1 u.2.1 u.2.2.1 u.2.2.2) (fun (u : Int64 × Int64 × Int64 × Int64) => [((rf 0), o8 rf f_terms f_runs u.1 u.2.1 u.2.2.1 u.2.2.2 f_listed f_fed f_read f_formed f_hasSnapshot), ((rf 4), ai cI 64 f_run), ((rf 5), ai cI 64 f_isRight)])) 0 0 (va_A [((rf 0), o8 rf f_terms f_runs f_leftAbove f_leftBelow f_rightAbove f_rightBelow f_listed f_fed f_read f_formed f_hasSnapshot), ((rf 4), ai cI 64 f_run), ((rf 5), ai cI 64 f_isRight)] sz) := by
  refine kMetV (cc := cX8_goDown) (maxL := 5) (by decide +kernel) rfl (Nat.le_of_ble_eq_true rfl) ?_
  intro p e s m args below meth c H0 ls A Q C0 hK hN hP hD hS hA hl RET
  obtain ⟨hx, hb, hml, hown, hts⟩ := id C0
  have hl : lv_has ls 5 [(0, .ref (rf 0)), (1, .int v1)] := hl
  have g29 := hts (.fieldLink RX8 29 "SternBrocotExplorerModel" "runs" "I") (by decide +kernel)
  have g19 := hts (.fieldLink RX8 19 "SternBrocotExplorerModel" "run" "[I") (by decide +kernel)
  have g22 := hts (.fieldLink RX8 22 "SternBrocotExplorerModel" "isRight" "[I") (by decide +kernel)
  have hi9 : ∀ w ∈ wsX80, w ∈ wsX8_goDown := fun w h => List.mem_cons_of_mem _ (List.mem_append_right _ h)
  unfold w8_goDown at hw
  have hP : va_P D vwCl [((rf 0), o8 rf f_terms f_runs f_leftAbove f_leftBelow f_rightAbove f_rightBelow f_listed f_fed f_read f_formed f_hasSnapshot), ((rf 4), ai cI 64 f_run), ((rf 5), ai cI 64 f_isRight)] H0 := hP
  refine lv_aload_n hx hb dX8_goDown_0 rfl (lv_at hl 0 rfl) ?_
  refine kcV (wc := [((rf 0), o8 rf f_terms f_runs f_leftAbove f_leftBelow f_rightAbove f_rightBelow f_listed f_fed f_read f_formed f_hasSnapshot)]) (wr := [((rf 4), ai cI 64 f_run), ((rf 5), ai cI 64 f_isRight)]) hP hD hS hA [0] [1, 2] rfl rfl ⟨rfl, rfl, by decide⟩ (fun hPc hDc => rV (As := []) (rest := []) C0 hK hN (c8_toRoot l D cI cJ cN cR rf H0.size f_terms f_runs f_leftAbove f_leftBelow f_rightAbove f_rightBelow f_listed f_fed f_read f_formed f_hasSnapshot  _ hw) 0 gX8_goDown_X8_toRoot rfl ⟨rfl, rfl⟩ nm8_toRoot ⟨Nat.le_of_ble_eq_true rfl, Nat.le_of_ble_eq_true rfl⟩ (q0 := 0) rfl rfl rfl rfl hl.1 rfl (Nat.le_of_ble_eq_true rfl) dX8_goDown_1 ⟨Nat.le_of_ble_eq_true rfl, Nat.le_of_ble_eq_true rfl⟩ hPc hDc) (fun u1 H locs hw hP hD hS => ?_)
  obtain ⟨f_leftAbove_1, f_leftBelow_1, f_rightAbove_1, f_rightBelow_1⟩ := u1
  dsimp only at hw
  have hP : va_P D vwCl [((rf 4), ai cI 64 f_run), ((rf 5), ai cI 64 f_isRight), ((rf 0), o8 rf f_terms f_runs f_leftAbove_1 f_leftBelow_1 f_rightAbove_1 f_rightBelow_1 f_listed f_fed f_read f_formed f_hasSnapshot)] H := hP
  have hD : va_D A [((rf 4), ai cI 64 f_run), ((rf 5), ai cI 64 f_isRight), ((rf 0), o8 rf f_terms f_runs f_leftAbove_1 f_leftBelow_1 f_rightAbove_1 f_rightBelow_1 f_listed f_fed f_read f_formed f_hasSnapshot)] := hD
  refine lv_iload_n hx hb dX8_goDown_4 rfl (lv_at hl 1 rfl) ?_
  refine lv_istore_n (lv' := [(2, .int v1), (0, .ref (rf 0)), (1, .int v1)]) hx hb dX8_goDown_5 rfl hl (by decide) rfl (fun ls hl => ?_)
  refine lv_iconst (v := (0 : Int32)) hx hb dX8_goDown_6 (by decide) ?_
  refine lv_istore_n (lv' := [(3, .int (0 : Int32)), (2, .int v1), (0, .ref (rf 0)), (1, .int v1)]) hx hb dX8_goDown_7 rfl hl (by decide) rfl (fun ls hl => ?_)
  obtain ⟨n8, hw⟩ := hw
  have LOOP_8 : ∀ (n8 : Nat) (v2 : Int32) (v3 : Int32) (f_leftAbove : Int64) (f_leftBelow : Int64) (f_rightAbove : Int64) (f_rightBelow : Int64) (H : Heap) (locs : List Loc) (ls : Array Slot), w8_goDown_L8 f_runs f_run f_isRight post n8 v2 v3 f_leftAbove f_leftBelow f_rightAbove f_rightBelow → va_P D vwCl [((rf 0), o8 rf f_terms f_runs f_leftAbove f_leftBelow f_rightAbove f_rightBelow f_listed f_fed f_read f_formed f_hasSnapshot), ((rf 4), ai cI 64 f_run), ((rf 5), ai cI 64 f_isRight)] H → va_D A [((rf 0), o8 rf f_terms f_runs f_leftAbove f_leftBelow f_rightAbove f_rightBelow f_listed f_fed f_read f_formed f_hasSnapshot), ((rf 4), ai cI 64 f_run), ((rf 5), ai cI 64 f_isRight)] → va_S A H0 H locs → lv_has ls 5 [(0, .ref (rf 0)), (2, .int v2), (3, .int v3)] → W p l e rm8_goDown s m args below meth c H locs 0 0 Q (F0 m 8 ls []) := by
    clear hw hl hP hD hS
    intro n8
    induction n8 with
    | zero =>
      intro v2 v3 f_leftAbove f_leftBelow f_rightAbove f_rightBelow H locs ls hw hP hD hS hl
      rw [w8_goDown_L8] at hw
      exact hw.elim
    | succ n8 ih8 =>
      intro v2 v3 f_leftAbove f_leftBelow f_rightAbove f_rightBelow H locs ls hw hP hD hS hl
      rw [w8_goDown_L8] at hw
      have JOIN_40 : ∀ (v2 : Int32) (v3 : Int32) (f_leftAbove : Int64) (f_leftBelow : Int64) (f_rightAbove : Int64) (f_rightBelow : Int64) (s0 : Int32) (H : Heap) (locs : List Loc) (ls : Array Slot), w8_goDown_J40 f_runs f_leftAbove f_leftBelow f_rightAbove f_rightBelow f_run f_isRight v2 v3 s0 post (fun z0 z1 z2 z3 z4 z5 => w8_goDown_L8 f_runs f_run f_isRight post n8 z0 z1 z2 z3 z4 z5) → va_P D vwCl [((rf 0), o8 rf f_terms f_runs f_leftAbove f_leftBelow f_rightAbove f_rightBelow f_listed f_fed f_read f_formed f_hasSnapshot), ((rf 4), ai cI 64 f_run), ((rf 5), ai cI 64 f_isRight)] H → va_D A [((rf 0), o8 rf f_terms f_runs f_leftAbove f_leftBelow f_rightAbove f_rightBelow f_listed f_fed f_read f_formed f_hasSnapshot), ((rf 4), ai cI 64 f_run), ((rf 5), ai cI 64 f_isRight)] → va_S A H0 H locs → lv_has ls 5 [(0, .ref (rf 0)), (2, .int v2), (3, .int v3)] → W p l e rm8_goDown s m args below meth c H locs 0 0 Q (F0 m 40 ls [.int s0]) := by
        intro v2 v3 f_leftAbove f_leftBelow f_rightAbove f_rightBelow s0 H locs ls hw hP hD hS hl
        unfold w8_goDown_J40 at hw
        refine lv_istore (lv' := [(4, .int s0), (0, .ref (rf 0)), (2, .int v2), (3, .int v3)]) hx hb dX8_goDown_40 hl (by decide) rfl (fun ls hl => ?_)
        refine lv_aload_n hx hb dX8_goDown_42 rfl (lv_at hl 1 rfl) ?_
        refine va_get (D := D) (ci := 8) (v := .ref (rf 5)) (C := RX8) (T := TX8) (N := 35) hx hb hts hi9 hown hK hP 0 rfl rfl 4 (by decide) g22 (fun _ h9 => h9) rfl dX8_goDown_43 ?_
        refine lv_iload_n hx hb dX8_goDown_46 rfl (lv_at hl 3 rfl) ?_
        obtain ⟨hin, hw⟩ := hw
        refine va_iald hx hb hK hP 2 0 rfl rfl hin dX8_goDown_47 ?_
        refine lv_iconst (v := (1 : Int32)) hx hb dX8_goDown_48 (by decide) ?_
        refine lv_icmp_ne (tgt := 62) hx hb dX8_goDown_49 (by decide) (fun k => ?_) (fun k => ?_)
        · have hw := hw.1 k
          refine lv_aload_n hx hb dX8_goDown_62 rfl (lv_at hl 1 rfl) ?_
          refine lv_iload hx hb dX8_goDown_63 (lv_at hl 0 rfl) ?_
          refine lv_i2l hx hb dX8_goDown_65 rfl ?_
          refine kcV (wc := [((rf 0), o8 rf f_terms f_runs f_leftAbove f_leftBelow f_rightAbove f_rightBelow f_listed f_fed f_read f_formed f_hasSnapshot)]) (wr := [((rf 4), ai cI 64 f_run), ((rf 5), ai cI 64 f_isRight)]) hP hD hS hA [0] [1, 2] rfl rfl ⟨rfl, rfl, by decide⟩ (fun hPc hDc => rV (As := [.long s0.toInt64]) (rest := []) C0 hK hN (c8_goLeft l D cI cJ cN cR rf H.size f_terms f_runs f_leftAbove f_leftBelow f_rightAbove f_rightBelow f_listed f_fed f_read f_formed f_hasSnapshot s0.toInt64 _ hw) 1 gX8_goDown_X8_goLeft rfl ⟨rfl, rfl⟩ nm8_goLeft ⟨Nat.le_of_ble_eq_true rfl, Nat.le_of_ble_eq_true rfl⟩ (q0 := 0) rfl rfl rfl rfl hl.1 rfl (Nat.le_of_ble_eq_true rfl) dX8_goDown_66 ⟨Nat.le_of_ble_eq_true rfl, Nat.le_of_ble_eq_true rfl⟩ hPc hDc) (fun u66 H locs hw hP hD hS => ?_)
          obtain ⟨f_rightAbove_66, f_rightBelow_66⟩ := u66
          dsimp only at hw
          have hP : va_P D vwCl [((rf 4), ai cI 64 f_run), ((rf 5), ai cI 64 f_isRight), ((rf 0), o8 rf f_terms f_runs f_leftAbove f_leftBelow f_rightAbove_66 f_rightBelow_66 f_listed f_fed f_read f_formed f_hasSnapshot)] H := hP
          have hD : va_D A [((rf 4), ai cI 64 f_run), ((rf 5), ai cI 64 f_isRight), ((rf 0), o8 rf f_terms f_runs f_leftAbove f_leftBelow f_rightAbove_66 f_rightBelow_66 f_listed f_fed f_read f_formed f_hasSnapshot)] := hD
          refine lv_iload_n hx hb dX8_goDown_69 rfl (lv_at hl 2 rfl) ?_
          refine lv_iload hx hb dX8_goDown_70 (lv_at hl 0 rfl) ?_
          refine lv_isub hx hb dX8_goDown_72 ?_
          refine lv_topi (fun x73 ex73 => ?_)
          have hw := hw x73 ex73
          refine lv_istore_n (lv' := [(2, .int x73), (4, .int s0), (0, .ref (rf 0)), (3, .int v3)]) hx hb dX8_goDown_73 rfl hl (by decide) rfl (fun ls hl => ?_)
          obtain ⟨x74, ex74⟩ : ∃ y : Int32, y = (v3 + (1 : Int32)) := ⟨_, rfl⟩
          have hw := hw x74 ex74
          refine lv_iinc (v := x74) (lv' := [(3, .int x74), (2, .int x73), (4, .int s0), (0, .ref (rf 0))]) hx hb dX8_goDown_74 hl (k := 3) rfl (by rw [ex74]; rfl) (by decide) rfl (fun ls hl => ?_)
          refine lv_goto (tgt := 8) hx hb dX8_goDown_77 (by decide) ?_
          obtain ⟨hP, hD⟩ := k_sub (ws' := [((rf 0), o8 rf f_terms f_runs f_leftAbove f_leftBelow f_rightAbove_66 f_rightBelow_66 f_listed f_fed f_read f_formed f_hasSnapshot), ((rf 4), ai cI 64 f_run), ((rf 5), ai cI 64 f_isRight)]) hP hD [2, 0, 1] rfl rfl
          exact ih8 x73 x74 f_leftAbove f_leftBelow f_rightAbove_66 f_rightBelow_66 _ _ ls hw hP hD hS (lv_sub hl [3, 1, 0] rfl)
        · have hw := hw.2 k
          refine lv_aload_n hx hb dX8_goDown_52 rfl (lv_at hl 1 rfl) ?_
          refine lv_iload hx hb dX8_goDown_53 (lv_at hl 0 rfl) ?_
          refine lv_i2l hx hb dX8_goDown_55 rfl ?_
          refine kcV (wc := [((rf 0), o8 rf f_terms f_runs f_leftAbove f_leftBelow f_rightAbove f_rightBelow f_listed f_fed f_read f_formed f_hasSnapshot)]) (wr := [((rf 4), ai cI 64 f_run), ((rf 5), ai cI 64 f_isRight)]) hP hD hS hA [0] [1, 2] rfl rfl ⟨rfl, rfl, by decide⟩ (fun hPc hDc => rV (As := [.long s0.toInt64]) (rest := []) C0 hK hN (c8_goRight l D cI cJ cN cR rf H.size f_terms f_runs f_leftAbove f_leftBelow f_rightAbove f_rightBelow f_listed f_fed f_read f_formed f_hasSnapshot s0.toInt64 _ hw) 1 gX8_goDown_X8_goRight rfl ⟨rfl, rfl⟩ nm8_goRight ⟨Nat.le_of_ble_eq_true rfl, Nat.le_of_ble_eq_true rfl⟩ (q0 := 0) rfl rfl rfl rfl hl.1 rfl (Nat.le_of_ble_eq_true rfl) dX8_goDown_56 ⟨Nat.le_of_ble_eq_true rfl, Nat.le_of_ble_eq_true rfl⟩ hPc hDc) (fun u56 H locs hw hP hD hS => ?_)
          obtain ⟨f_leftAbove_56, f_leftBelow_56⟩ := u56
          dsimp only at hw
          have hP : va_P D vwCl [((rf 4), ai cI 64 f_run), ((rf 5), ai cI 64 f_isRight), ((rf 0), o8 rf f_terms f_runs f_leftAbove_56 f_leftBelow_56 f_rightAbove f_rightBelow f_listed f_fed f_read f_formed f_hasSnapshot)] H := hP
          have hD : va_D A [((rf 4), ai cI 64 f_run), ((rf 5), ai cI 64 f_isRight), ((rf 0), o8 rf f_terms f_runs f_leftAbove_56 f_leftBelow_56 f_rightAbove f_rightBelow f_listed f_fed f_read f_formed f_hasSnapshot)] := hD
          refine lv_goto (tgt := 69) hx hb dX8_goDown_59 (by decide) ?_
          refine lv_iload_n hx hb dX8_goDown_69 rfl (lv_at hl 2 rfl) ?_
          refine lv_iload hx hb dX8_goDown_70 (lv_at hl 0 rfl) ?_
          refine lv_isub hx hb dX8_goDown_72 ?_
          refine lv_topi (fun x73 ex73 => ?_)
          have hw := hw x73 ex73
          refine lv_istore_n (lv' := [(2, .int x73), (4, .int s0), (0, .ref (rf 0)), (3, .int v3)]) hx hb dX8_goDown_73 rfl hl (by decide) rfl (fun ls hl => ?_)
          obtain ⟨x74, ex74⟩ : ∃ y : Int32, y = (v3 + (1 : Int32)) := ⟨_, rfl⟩
          have hw := hw x74 ex74
          refine lv_iinc (v := x74) (lv' := [(3, .int x74), (2, .int x73), (4, .int s0), (0, .ref (rf 0))]) hx hb dX8_goDown_74 hl (k := 3) rfl (by rw [ex74]; rfl) (by decide) rfl (fun ls hl => ?_)
          refine lv_goto (tgt := 8) hx hb dX8_goDown_77 (by decide) ?_
          obtain ⟨hP, hD⟩ := k_sub (ws' := [((rf 0), o8 rf f_terms f_runs f_leftAbove_56 f_leftBelow_56 f_rightAbove f_rightBelow f_listed f_fed f_read f_formed f_hasSnapshot), ((rf 4), ai cI 64 f_run), ((rf 5), ai cI 64 f_isRight)]) hP hD [2, 0, 1] rfl rfl
          exact ih8 x73 x74 f_leftAbove_56 f_leftBelow_56 f_rightAbove f_rightBelow _ _ ls hw hP hD hS (lv_sub hl [3, 1, 0] rfl)
      refine lv_iload_n hx hb dX8_goDown_8 rfl (lv_at hl 2 rfl) ?_
      refine lv_aload_n hx hb dX8_goDown_9 rfl (lv_at hl 0 rfl) ?_
      refine va_get (D := D) (ci := 8) (v := .int f_runs) (C := RX8) (T := TX8) (N := 35) hx hb hts hi9 hown hK hP 0 rfl rfl 6 (by decide) g29 (fun _ h9 => h9) rfl dX8_goDown_10 ?_
      refine lv_icmp_ge (tgt := 80) hx hb dX8_goDown_13 (by decide) (fun k => ?_) (fun k => ?_)
      · have hw := hw.1 k
        exact RET _ _ (f_leftAbove, f_leftBelow, f_rightAbove, f_rightBelow) _ _ hw hP hD hS dX8_goDown_80
      · have hw := hw.2 k
        refine lv_iload_n hx hb dX8_goDown_16 rfl (lv_at hl 1 rfl) ?_
        refine lv_if_le (tgt := 80) hx hb dX8_goDown_17 (by decide) (fun k => ?_) (fun k => ?_)
        · have hw := hw.1 k
          exact RET _ _ (f_leftAbove, f_leftBelow, f_rightAbove, f_rightBelow) _ _ hw hP hD hS dX8_goDown_80
        · have hw := hw.2 k
          refine lv_iload_n hx hb dX8_goDown_20 rfl (lv_at hl 1 rfl) ?_
          refine lv_aload_n hx hb dX8_goDown_21 rfl (lv_at hl 0 rfl) ?_
          refine va_get (D := D) (ci := 8) (v := .ref (rf 4)) (C := RX8) (T := TX8) (N := 35) hx hb hts hi9 hown hK hP 0 rfl rfl 3 (by decide) g19 (fun _ h9 => h9) rfl dX8_goDown_22 ?_
          refine lv_iload_n hx hb dX8_goDown_25 rfl (lv_at hl 2 rfl) ?_
          obtain ⟨hin, hw⟩ := hw
          refine va_iald hx hb hK hP 1 0 rfl rfl hin dX8_goDown_26 ?_
          refine lv_icmp_ge (tgt := 34) hx hb dX8_goDown_27 (by decide) (fun k => ?_) (fun k => ?_)
          · have hw := hw.1 k
            refine lv_aload_n hx hb dX8_goDown_34 rfl (lv_at hl 0 rfl) ?_
            refine va_get (D := D) (ci := 8) (v := .ref (rf 4)) (C := RX8) (T := TX8) (N := 35) hx hb hts hi9 hown hK hP 0 rfl rfl 3 (by decide) g19 (fun _ h9 => h9) rfl dX8_goDown_35 ?_
            refine lv_iload_n hx hb dX8_goDown_38 rfl (lv_at hl 2 rfl) ?_
            obtain ⟨hin, hw⟩ := hw
            refine va_iald hx hb hK hP 1 0 rfl rfl hin dX8_goDown_39 ?_
            exact JOIN_40 v2 v3 f_leftAbove f_leftBelow f_rightAbove f_rightBelow (f_run v3.toNatClampNeg) _ _ ls hw hP hD hS (lv_sub hl [0, 1, 2] rfl)
          · have hw := hw.2 k
            refine lv_iload_n hx hb dX8_goDown_30 rfl (lv_at hl 1 rfl) ?_
            refine lv_goto (tgt := 40) hx hb dX8_goDown_31 (by decide) ?_
            exact JOIN_40 v2 v3 f_leftAbove f_leftBelow f_rightAbove f_rightBelow v2 _ _ ls hw hP hD hS (lv_sub hl [0, 1, 2] rfl)
  obtain ⟨hP, hD⟩ := k_sub (ws' := [((rf 0), o8 rf f_terms f_runs f_leftAbove_1 f_leftBelow_1 f_rightAbove_1 f_rightBelow_1 f_listed f_fed f_read f_formed f_hasSnapshot), ((rf 4), ai cI 64 f_run), ((rf 5), ai cI 64 f_isRight)]) hP hD [2, 0, 1] rfl rfl
  exact LOOP_8 n8 v1 (0 : Int32) f_leftAbove_1 f_leftBelow_1 f_rightAbove_1 f_rightBelow_1 _ _ ls hw hP hD hS (lv_sub hl [2, 1, 0] rfl)
abbrev rm8_ancestor : Room := { frames := 3, cells := 0, slots := 0, locals := 73 }
theorem nm8_ancestor : kNm yX8_ancestor 3 := by decide +kernel
set_option maxHeartbeats 4000000 in
set_option maxRecDepth 100000 in
theorem c8_ancestor (l : Launch) (D : va_G) (cI cJ cN cR : ClassId) (rf : Nat → Nat) (sz : Nat) (f_terms : Int32) (f_runs : Int32) (f_leftAbove : Int64) (f_leftBelow : Int64) (f_rightAbove : Int64) (f_rightBelow : Int64) (f_listed : Int32) (f_fed : Int32) (f_read : Int32) (f_formed : Int32) (f_hasSnapshot : Int32) (f_above : (Nat → Int32)) (f_below : (Nat → Int32)) (f_term : (Nat → Int32)) (f_run : (Nat → Int32)) (f_isRight : (Nat → Int32)) (v1 : Int32) (v2 : Int32) (v3 : Int32) (post : Int32 → Int32 → Int32 → Int64 → Int64 → Int64 → Int64 → (Nat → Int32) → (Nat → Int32) → (Nat → Int32) → (Nat → Int32) → (Nat → Int32) → Prop) (hw : w8_ancestor f_terms f_runs f_leftAbove f_leftBelow f_rightAbove f_rightBelow f_above f_below f_term f_run f_isRight v1 v2 v3 post) : Met l yX8_ancestor wsX8_ancestor rm8_ancestor (kP D (kT cI cJ cN cR) sz [.ref (rf 0), .int v1, .int v2, .int v3] [((rf 0), o8 rf f_terms f_runs f_leftAbove f_leftBelow f_rightAbove f_rightBelow f_listed f_fed f_read f_formed f_hasSnapshot), ((rf 1), ai cI 8 f_above), ((rf 2), ai cI 8 f_below), ((rf 3), ai cI 64 f_term), ((rf 4), ai cI 64 f_run), ((rf 5), ai cI 64 f_isRight)]) (kQi D [((rf 0), o8 rf f_terms f_runs f_leftAbove f_leftBelow f_rightAbove f_rightBelow f_listed f_fed f_read f_formed f_hasSnapshot), ((rf 1), ai cI 8 f_above), ((rf 2), ai cI 8 f_below), ((rf 3), ai cI 64 f_term), ((rf 4), ai cI 64 f_run), ((rf 5), ai cI 64 f_isRight)] sz (fun (r : Int32) (u : Int32 × Int32 × Int64 × Int64 × Int64 × Int64 × (Nat → Int32) × (Nat → Int32) × (Nat → Int32) × (Nat → Int32) × (Nat → Int32)) => post r u.1 u.2.1 u.2.2.1 u.2.2.2.1 u.2.2.2.2.1 u.2.2.2.2.2.1 u.2.2.2.2.2.2.1 u.2.2.2.2.2.2.2.1 u.2.2.2.2.2.2.2.2.1 u.2.2.2.2.2.2.2.2.2.1 u.2.2.2.2.2.2.2.2.2.2) (fun (u : Int32 × Int32 × Int64 × Int64 × Int64 × Int64 × (Nat → Int32) × (Nat → Int32) × (Nat → Int32) × (Nat → Int32) × (Nat → Int32)) => [((rf 0), o8 rf u.1 u.2.1 u.2.2.1 u.2.2.2.1 u.2.2.2.2.1 u.2.2.2.2.2.1 f_listed f_fed f_read f_formed f_hasSnapshot), ((rf 1), ai cI 8 u.2.2.2.2.2.2.1), ((rf 2), ai cI 8 u.2.2.2.2.2.2.2.1), ((rf 3), ai cI 64 u.2.2.2.2.2.2.2.2.1), ((rf 4), ai cI 64 u.2.2.2.2.2.2.2.2.2.1), ((rf 5), ai cI 64 u.2.2.2.2.2.2.2.2.2.2)])) 0 0 (va_A [((rf 0), o8 rf f_terms f_runs f_leftAbove f_leftBelow f_rightAbove f_rightBelow f_listed f_fed f_read f_formed f_hasSnapshot), ((rf 1), ai cI 8 f_above), ((rf 2), ai cI 8 f_below), ((rf 3), ai cI 64 f_term), ((rf 4), ai cI 64 f_run), ((rf 5), ai cI 64 f_isRight)] sz) := by
  refine kMetI (cc := cX8_ancestor) (maxL := 4) (by decide +kernel) rfl (Nat.le_of_ble_eq_true rfl) ?_
  intro p e s m args below meth c H0 ls A Q C0 hK hN hP hD hS hA hl RET
  obtain ⟨hx, hb, hml, hown, hts⟩ := id C0
  have hl : lv_has ls 4 [(0, .ref (rf 0)), (1, .int v1), (2, .int v2), (3, .int v3)] := hl
  have g7 := hts (.fieldLink RX8 7 "SternBrocotExplorerModel" "above" "[I") (by decide +kernel)
  have g13 := hts (.fieldLink RX8 13 "SternBrocotExplorerModel" "below" "[I") (by decide +kernel)
  have g32 := hts (.fieldLink RX8 32 "SternBrocotExplorerModel" "leftAbove" "J") (by decide +kernel)
  have g39 := hts (.fieldLink RX8 39 "SternBrocotExplorerModel" "rightAbove" "J") (by decide +kernel)
  have g36 := hts (.fieldLink RX8 36 "SternBrocotExplorerModel" "leftBelow" "J") (by decide +kernel)
  have g42 := hts (.fieldLink RX8 42 "SternBrocotExplorerModel" "rightBelow" "J") (by decide +kernel)
  have hi9 : ∀ w ∈ wsX80, w ∈ wsX8_ancestor := fun w h => List.mem_cons_of_mem _ (List.mem_append_right _ h)
  unfold w8_ancestor at hw
  have hP : va_P D vwCl [((rf 0), o8 rf f_terms f_runs f_leftAbove f_leftBelow f_rightAbove f_rightBelow f_listed f_fed f_read f_formed f_hasSnapshot), ((rf 1), ai cI 8 f_above), ((rf 2), ai cI 8 f_below), ((rf 3), ai cI 64 f_term), ((rf 4), ai cI 64 f_run), ((rf 5), ai cI 64 f_isRight)] H0 := hP
  refine lv_aload_n hx hb dX8_ancestor_0 rfl (lv_at hl 0 rfl) ?_
  refine lv_iload_n hx hb dX8_ancestor_1 rfl (lv_at hl 1 rfl) ?_
  refine kcRI (wc := [((rf 0), o8 rf f_terms f_runs f_leftAbove f_leftBelow f_rightAbove f_rightBelow f_listed f_fed f_read f_formed f_hasSnapshot)]) hP [0] rfl (fun hPc => oV (As := [.int v1]) (rest := []) C0 hK hN (c8_isRegister l D cI cJ cN cR rf f_terms f_runs f_leftAbove f_leftBelow f_rightAbove f_rightBelow f_listed f_fed f_read f_formed f_hasSnapshot v1 _ hw) 1 gX8_ancestor_X8_isRegister rfl ⟨rfl, rfl⟩ nm8_isRegister ⟨Nat.le_of_ble_eq_true rfl, Nat.le_of_ble_eq_true rfl⟩ (q0 := 0) rfl rfl rfl rfl hl.1 rfl (Nat.le_of_ble_eq_true rfl) dX8_ancestor_2 ⟨Nat.le_of_ble_eq_true rfl, Nat.le_of_ble_eq_true rfl⟩ hPc) (fun r2 hw => ?_)
  obtain ⟨nb2, hw⟩ := hw
  refine lv_if_eq (tgt := 20) hx hb dX8_ancestor_5 (by decide) (fun k => ?_) (fun k => ?_)
  · have hw := hw.1 k
    refine lv_iconst (v := (-1 : Int32)) hx hb dX8_ancestor_20 (by decide) ?_
    exact RET _ _ _ (f_terms, f_runs, f_leftAbove, f_leftBelow, f_rightAbove, f_rightBelow, f_above, f_below, f_term, f_run, f_isRight) _ _ hw hP hD hS dX8_ancestor_21
  · have hw := hw.2 k
    refine lv_aload_n hx hb dX8_ancestor_8 rfl (lv_at hl 0 rfl) ?_
    refine lv_iload_n hx hb dX8_ancestor_9 rfl (lv_at hl 2 rfl) ?_
    refine kcRI (wc := [((rf 0), o8 rf f_terms f_runs f_leftAbove f_leftBelow f_rightAbove f_rightBelow f_listed f_fed f_read f_formed f_hasSnapshot)]) hP [0] rfl (fun hPc => oV (As := [.int v2]) (rest := []) C0 hK hN (c8_isRegister l D cI cJ cN cR rf f_terms f_runs f_leftAbove f_leftBelow f_rightAbove f_rightBelow f_listed f_fed f_read f_formed f_hasSnapshot v2 _ hw) 1 gX8_ancestor_X8_isRegister rfl ⟨rfl, rfl⟩ nm8_isRegister ⟨Nat.le_of_ble_eq_true rfl, Nat.le_of_ble_eq_true rfl⟩ (q0 := 0) rfl rfl rfl rfl hl.1 rfl (Nat.le_of_ble_eq_true rfl) dX8_ancestor_10 ⟨Nat.le_of_ble_eq_true rfl, Nat.le_of_ble_eq_true rfl⟩ hPc) (fun r10 hw => ?_)
    obtain ⟨nb10, hw⟩ := hw
    refine lv_if_eq (tgt := 20) hx hb dX8_ancestor_13 (by decide) (fun k => ?_) (fun k => ?_)
    · have hw := hw.1 k
      refine lv_iconst (v := (-1 : Int32)) hx hb dX8_ancestor_20 (by decide) ?_
      exact RET _ _ _ (f_terms, f_runs, f_leftAbove, f_leftBelow, f_rightAbove, f_rightBelow, f_above, f_below, f_term, f_run, f_isRight) _ _ hw hP hD hS dX8_ancestor_21
    · have hw := hw.2 k
      refine lv_iload_n hx hb dX8_ancestor_16 rfl (lv_at hl 3 rfl) ?_
      refine lv_if_ge (tgt := 22) hx hb dX8_ancestor_17 (by decide) (fun k => ?_) (fun k => ?_)
      · have hw := hw.1 k
        refine lv_iload_n hx hb dX8_ancestor_22 rfl (lv_at hl 3 rfl) ?_
        refine lv_aload_n hx hb dX8_ancestor_23 rfl (lv_at hl 0 rfl) ?_
        refine lv_aload_n hx hb dX8_ancestor_24 rfl (lv_at hl 0 rfl) ?_
        refine va_get (D := D) (ci := 8) (v := .ref (rf 1)) (C := RX8) (T := TX8) (N := 35) hx hb hts hi9 hown hK hP 0 rfl rfl 0 (by decide) g7 (fun _ h9 => h9) rfl dX8_ancestor_25 ?_
        refine lv_iload_n hx hb dX8_ancestor_28 rfl (lv_at hl 2 rfl) ?_
        obtain ⟨hin, hw⟩ := hw
        refine va_iald hx hb hK hP 1 0 rfl rfl hin dX8_ancestor_29 ?_
        refine lv_aload_n hx hb dX8_ancestor_30 rfl (lv_at hl 0 rfl) ?_
        refine va_get (D := D) (ci := 8) (v := .ref (rf 2)) (C := RX8) (T := TX8) (N := 35) hx hb hts hi9 hown hK hP 0 rfl rfl 1 (by decide) g13 (fun _ h9 => h9) rfl dX8_ancestor_31 ?_
        refine lv_iload_n hx hb dX8_ancestor_34 rfl (lv_at hl 2 rfl) ?_
        obtain ⟨hin, hw⟩ := hw
        refine va_iald hx hb hK hP 2 0 rfl rfl hin dX8_ancestor_35 ?_
        refine kcI (wc := [((rf 0), o8 rf f_terms f_runs f_leftAbove f_leftBelow f_rightAbove f_rightBelow f_listed f_fed f_read f_formed f_hasSnapshot), ((rf 3), ai cI 64 f_term), ((rf 4), ai cI 64 f_run), ((rf 5), ai cI 64 f_isRight)]) (wr := [((rf 1), ai cI 8 f_above), ((rf 2), ai cI 8 f_below)]) hP hD hS hA [0, 3, 4, 5] [1, 2] rfl rfl ⟨rfl, rfl, by decide⟩ (fun hPc hDc => rV (As := [.int (f_above v2.toNatClampNeg), .int (f_below v2.toNatClampNeg)]) (rest := [.int v3]) C0 hK hN (c8_depthOf l D cI cJ cN cR rf H0.size f_terms f_runs f_leftAbove f_leftBelow f_rightAbove f_rightBelow f_listed f_fed f_read f_formed f_hasSnapshot f_term f_run f_isRight (f_above v2.toNatClampNeg) (f_below v2.toNatClampNeg) _ hw) 2 gX8_ancestor_X8_depthOf rfl ⟨rfl, rfl⟩ nm8_depthOf ⟨Nat.le_of_ble_eq_true rfl, Nat.le_of_ble_eq_true rfl⟩ (q0 := 0) rfl rfl rfl rfl hl.1 rfl (Nat.le_of_ble_eq_true rfl) dX8_ancestor_36 ⟨Nat.le_of_ble_eq_true rfl, Nat.le_of_ble_eq_true rfl⟩ hPc hDc) (fun r36 u36 H locs hw hP hD hS => ?_)
        obtain ⟨f_terms_36, f_runs_36, f_term_36, f_run_36, f_isRight_36⟩ := u36
        dsimp only at hw
        have hP : va_P D vwCl [((rf 1), ai cI 8 f_above), ((rf 2), ai cI 8 f_below), ((rf 0), o8 rf f_terms_36 f_runs_36 f_leftAbove f_leftBelow f_rightAbove f_rightBelow f_listed f_fed f_read f_formed f_hasSnapshot), ((rf 3), ai cI 64 f_term_36), ((rf 4), ai cI 64 f_run_36), ((rf 5), ai cI 64 f_isRight_36)] H := hP
        have hD : va_D A [((rf 1), ai cI 8 f_above), ((rf 2), ai cI 8 f_below), ((rf 0), o8 rf f_terms_36 f_runs_36 f_leftAbove f_leftBelow f_rightAbove f_rightBelow f_listed f_fed f_read f_formed f_hasSnapshot), ((rf 3), ai cI 64 f_term_36), ((rf 4), ai cI 64 f_run_36), ((rf 5), ai cI 64 f_isRight_36)] := hD
        refine lv_icmp_le (tgt := 45) hx hb dX8_ancestor_39 (by decide) (fun k => ?_) (fun k => ?_)
        · have hw := hw.1 k
          refine lv_aload_n hx hb dX8_ancestor_45 rfl (lv_at hl 0 rfl) ?_
          refine lv_iload_n hx hb dX8_ancestor_46 rfl (lv_at hl 3 rfl) ?_
          refine kcV (wc := [((rf 0), o8 rf f_terms_36 f_runs_36 f_leftAbove f_leftBelow f_rightAbove f_rightBelow f_listed f_fed f_read f_formed f_hasSnapshot), ((rf 4), ai cI 64 f_run_36), ((rf 5), ai cI 64 f_isRight_36)]) (wr := [((rf 1), ai cI 8 f_above), ((rf 2), ai cI 8 f_below), ((rf 3), ai cI 64 f_term_36)]) hP hD hS hA [2, 4, 5] [0, 1, 3] rfl rfl ⟨rfl, rfl, by decide⟩ (fun hPc hDc => rV (As := [.int v3]) (rest := []) C0 hK hN (c8_goDown l D cI cJ cN cR rf H.size f_terms_36 f_runs_36 f_leftAbove f_leftBelow f_rightAbove f_rightBelow f_listed f_fed f_read f_formed f_hasSnapshot f_run_36 f_isRight_36 v3 _ hw) 1 gX8_ancestor_X8_goDown rfl ⟨rfl, rfl⟩ nm8_goDown ⟨Nat.le_of_ble_eq_true rfl, Nat.le_of_ble_eq_true rfl⟩ (q0 := 0) rfl rfl rfl rfl hl.1 rfl (Nat.le_of_ble_eq_true rfl) dX8_ancestor_47 ⟨Nat.le_of_ble_eq_true rfl, Nat.le_of_ble_eq_true rfl⟩ hPc hDc) (fun u47 H locs hw hP hD hS => ?_)
          obtain ⟨f_leftAbove_47, f_leftBelow_47, f_rightAbove_47, f_rightBelow_47⟩ := u47
          dsimp only at hw
          have hP : va_P D vwCl [((rf 1), ai cI 8 f_above), ((rf 2), ai cI 8 f_below), ((rf 3), ai cI 64 f_term_36), ((rf 0), o8 rf f_terms_36 f_runs_36 f_leftAbove_47 f_leftBelow_47 f_rightAbove_47 f_rightBelow_47 f_listed f_fed f_read f_formed f_hasSnapshot), ((rf 4), ai cI 64 f_run_36), ((rf 5), ai cI 64 f_isRight_36)] H := hP
          have hD : va_D A [((rf 1), ai cI 8 f_above), ((rf 2), ai cI 8 f_below), ((rf 3), ai cI 64 f_term_36), ((rf 0), o8 rf f_terms_36 f_runs_36 f_leftAbove_47 f_leftBelow_47 f_rightAbove_47 f_rightBelow_47 f_listed f_fed f_read f_formed f_hasSnapshot), ((rf 4), ai cI 64 f_run_36), ((rf 5), ai cI 64 f_isRight_36)] := hD
          refine lv_aload_n hx hb dX8_ancestor_50 rfl (lv_at hl 0 rfl) ?_
          refine lv_iload_n hx hb dX8_ancestor_51 rfl (lv_at hl 1 rfl) ?_
          refine lv_aload_n hx hb dX8_ancestor_52 rfl (lv_at hl 0 rfl) ?_
          refine va_get (D := D) (ci := 8) (v := .long f_leftAbove_47) (C := RX8) (T := TX8) (N := 35) hx hb hts hi9 hown hK hP 3 rfl rfl 7 (by decide) g32 (fun _ h9 => h9) rfl dX8_ancestor_53 ?_
          refine lv_aload_n hx hb dX8_ancestor_56 rfl (lv_at hl 0 rfl) ?_
          refine va_get (D := D) (ci := 8) (v := .long f_rightAbove_47) (C := RX8) (T := TX8) (N := 35) hx hb hts hi9 hown hK hP 3 rfl rfl 9 (by decide) g39 (fun _ h9 => h9) rfl dX8_ancestor_57 ?_
          refine lv_ladd hx hb dX8_ancestor_60 ?_
          refine lv_aload_n hx hb dX8_ancestor_61 rfl (lv_at hl 0 rfl) ?_
          refine va_get (D := D) (ci := 8) (v := .long f_leftBelow_47) (C := RX8) (T := TX8) (N := 35) hx hb hts hi9 hown hK hP 3 rfl rfl 8 (by decide) g36 (fun _ h9 => h9) rfl dX8_ancestor_62 ?_
          refine lv_aload_n hx hb dX8_ancestor_65 rfl (lv_at hl 0 rfl) ?_
          refine va_get (D := D) (ci := 8) (v := .long f_rightBelow_47) (C := RX8) (T := TX8) (N := 35) hx hb hts hi9 hown hK hP 3 rfl rfl 10 (by decide) g42 (fun _ h9 => h9) rfl dX8_ancestor_66 ?_
          refine lv_ladd hx hb dX8_ancestor_69 ?_
          refine kcI (wc := [((rf 0), o8 rf f_terms_36 f_runs_36 f_leftAbove_47 f_leftBelow_47 f_rightAbove_47 f_rightBelow_47 f_listed f_fed f_read f_formed f_hasSnapshot), ((rf 1), ai cI 8 f_above), ((rf 2), ai cI 8 f_below)]) (wr := [((rf 3), ai cI 64 f_term_36), ((rf 4), ai cI 64 f_run_36), ((rf 5), ai cI 64 f_isRight_36)]) hP hD hS hA [3, 0, 1] [2, 4, 5] rfl rfl ⟨rfl, rfl, by decide⟩ (fun hPc hDc => rV (As := [.int v1, .long (f_leftAbove_47 + f_rightAbove_47), .long (f_leftBelow_47 + f_rightBelow_47)]) (rest := []) C0 hK hN (c8_put l D cI cJ cN cR rf H.size f_terms_36 f_runs_36 f_leftAbove_47 f_leftBelow_47 f_rightAbove_47 f_rightBelow_47 f_listed f_fed f_read f_formed f_hasSnapshot f_above f_below v1 (f_leftAbove_47 + f_rightAbove_47) (f_leftBelow_47 + f_rightBelow_47) _ hw) 3 gX8_ancestor_X8_put rfl ⟨rfl, rfl⟩ nm8_put ⟨Nat.le_of_ble_eq_true rfl, Nat.le_of_ble_eq_true rfl⟩ (q0 := 0) rfl rfl rfl rfl hl.1 rfl (Nat.le_of_ble_eq_true rfl) dX8_ancestor_70 ⟨Nat.le_of_ble_eq_true rfl, Nat.le_of_ble_eq_true rfl⟩ hPc hDc) (fun r70 u70 H locs hw hP hD hS => ?_)
          obtain ⟨f_above_70, f_below_70⟩ := u70
          dsimp only at hw
          have hP : va_P D vwCl [((rf 3), ai cI 64 f_term_36), ((rf 4), ai cI 64 f_run_36), ((rf 5), ai cI 64 f_isRight_36), ((rf 0), o8 rf f_terms_36 f_runs_36 f_leftAbove_47 f_leftBelow_47 f_rightAbove_47 f_rightBelow_47 f_listed f_fed f_read f_formed f_hasSnapshot), ((rf 1), ai cI 8 f_above_70), ((rf 2), ai cI 8 f_below_70)] H := hP
          have hD : va_D A [((rf 3), ai cI 64 f_term_36), ((rf 4), ai cI 64 f_run_36), ((rf 5), ai cI 64 f_isRight_36), ((rf 0), o8 rf f_terms_36 f_runs_36 f_leftAbove_47 f_leftBelow_47 f_rightAbove_47 f_rightBelow_47 f_listed f_fed f_read f_formed f_hasSnapshot), ((rf 1), ai cI 8 f_above_70), ((rf 2), ai cI 8 f_below_70)] := hD
          obtain ⟨hP, hD⟩ := k_sub (ws' := [((rf 0), o8 rf f_terms_36 f_runs_36 f_leftAbove_47 f_leftBelow_47 f_rightAbove_47 f_rightBelow_47 f_listed f_fed f_read f_formed f_hasSnapshot), ((rf 1), ai cI 8 f_above_70), ((rf 2), ai cI 8 f_below_70), ((rf 3), ai cI 64 f_term_36), ((rf 4), ai cI 64 f_run_36), ((rf 5), ai cI 64 f_isRight_36)]) hP hD [3, 4, 5, 0, 1, 2] rfl rfl
          exact RET _ _ _ (f_terms_36, f_runs_36, f_leftAbove_47, f_leftBelow_47, f_rightAbove_47, f_rightBelow_47, f_above_70, f_below_70, f_term_36, f_run_36, f_isRight_36) _ _ hw hP hD hS dX8_ancestor_73
        · have hw := hw.2 k
          refine lv_bipush (v := (-2 : Int32)) hx hb dX8_ancestor_42 (by decide) ?_
          obtain ⟨hP, hD⟩ := k_sub (ws' := [((rf 0), o8 rf f_terms_36 f_runs_36 f_leftAbove f_leftBelow f_rightAbove f_rightBelow f_listed f_fed f_read f_formed f_hasSnapshot), ((rf 1), ai cI 8 f_above), ((rf 2), ai cI 8 f_below), ((rf 3), ai cI 64 f_term_36), ((rf 4), ai cI 64 f_run_36), ((rf 5), ai cI 64 f_isRight_36)]) hP hD [2, 0, 1, 3, 4, 5] rfl rfl
          exact RET _ _ _ (f_terms_36, f_runs_36, f_leftAbove, f_leftBelow, f_rightAbove, f_rightBelow, f_above, f_below, f_term_36, f_run_36, f_isRight_36) _ _ hw hP hD hS dX8_ancestor_44
      · have hw := hw.2 k
        refine lv_iconst (v := (-1 : Int32)) hx hb dX8_ancestor_20 (by decide) ?_
        exact RET _ _ _ (f_terms, f_runs, f_leftAbove, f_leftBelow, f_rightAbove, f_rightBelow, f_above, f_below, f_term, f_run, f_isRight) _ _ hw hP hD hS dX8_ancestor_21
abbrev rm8_isSide : Room := { frames := 1, cells := 0, slots := 0, locals := 25 }
theorem nm8_isSide : kNm yX8_isSide 1 := by decide +kernel
set_option maxHeartbeats 4000000 in
set_option maxRecDepth 100000 in
theorem c8_isSide (l : Launch) (D : va_G) (cI cJ cN cR : ClassId) (rf : Nat → Nat) (f_terms : Int32) (f_runs : Int32) (f_leftAbove : Int64) (f_leftBelow : Int64) (f_rightAbove : Int64) (f_rightBelow : Int64) (f_listed : Int32) (f_fed : Int32) (f_read : Int32) (f_formed : Int32) (f_hasSnapshot : Int32) (v1 : Int32) (post : Int32 → Prop) (hw : w8_isSide v1 post) : Met l yX8_isSide wsX8_isSide rm8_isSide (kR D (kT cI cJ cN cR) [.ref (rf 0), .int v1] [((rf 0), o8 rf f_terms f_runs f_leftAbove f_leftBelow f_rightAbove f_rightBelow f_listed f_fed f_read f_formed f_hasSnapshot)]) (vp_Si (fun (r : Int32) => narrow .boolean (.int r) = .int r ∧ post r)) 0 0 (fun _ => False) := by
  refine kMetRZ (cc := cX8_isSide) (maxL := 2) (by decide +kernel) rfl (Nat.le_of_ble_eq_true rfl) ?_
  intro p e s m args below meth c H ls Q C0 hK hN hP hl RET
  obtain ⟨hx, hb, hml, hown, hts⟩ := id C0
  have hl : lv_has ls 2 [(0, .ref (rf 0)), (1, .int v1)] := hl
  unfold w8_isSide at hw
  refine lv_iload_n hx hb dX8_isSide_0 rfl (lv_at hl 1 rfl) ?_
  refine lv_i2l hx hb dX8_isSide_1 rfl ?_
  refine lv_lconst (v := (0 : Int64)) hx hb dX8_isSide_2 (by decide) ?_
  refine lv_lconst (v := (1 : Int64)) hx hb dX8_isSide_3 (by decide) ?_
  refine kcRI (wc := []) hP [] rfl (fun hPc => oS (As := [.long v1.toInt64, .long (0 : Int64), .long (1 : Int64)]) (rest := []) C0 hK hN (c8_within l D cI cJ cN cR   v1.toInt64 (0 : Int64) (1 : Int64) _ hw) 3 gX8_isSide_X8_within rfl ⟨rfl, rfl⟩ nm8_within ⟨Nat.le_of_ble_eq_true rfl, Nat.le_of_ble_eq_true rfl⟩ rfl hl.1 rfl (Nat.le_of_ble_eq_true rfl) dX8_isSide_4 ⟨Nat.le_of_ble_eq_true rfl, Nat.le_of_ble_eq_true rfl⟩ hPc) (fun r4 hw => ?_)
  obtain ⟨nb4, hw⟩ := hw
  exact RET _ _ _ nb4 hw dX8_isSide_7
abbrev rm8_bound : Room := { frames := 3, cells := 0, slots := 0, locals := 73 }
theorem nm8_bound : kNm yX8_bound 3 := by decide +kernel
set_option maxHeartbeats 4000000 in
set_option maxRecDepth 100000 in
theorem c8_bound (l : Launch) (D : va_G) (cI cJ cN cR : ClassId) (rf : Nat → Nat) (sz : Nat) (f_terms : Int32) (f_runs : Int32) (f_leftAbove : Int64) (f_leftBelow : Int64) (f_rightAbove : Int64) (f_rightBelow : Int64) (f_listed : Int32) (f_fed : Int32) (f_read : Int32) (f_formed : Int32) (f_hasSnapshot : Int32) (f_above : (Nat → Int32)) (f_below : (Nat → Int32)) (f_term : (Nat → Int32)) (f_run : (Nat → Int32)) (f_isRight : (Nat → Int32)) (v1 : Int32) (v2 : Int32) (v3 : Int32) (post : Int32 → Int32 → Int32 → Int64 → Int64 → Int64 → Int64 → (Nat → Int32) → (Nat → Int32) → (Nat → Int32) → (Nat → Int32) → (Nat → Int32) → Prop) (hw : w8_bound f_terms f_runs f_leftAbove f_leftBelow f_rightAbove f_rightBelow f_above f_below f_term f_run f_isRight v1 v2 v3 post) : Met l yX8_bound wsX8_bound rm8_bound (kP D (kT cI cJ cN cR) sz [.ref (rf 0), .int v1, .int v2, .int v3] [((rf 0), o8 rf f_terms f_runs f_leftAbove f_leftBelow f_rightAbove f_rightBelow f_listed f_fed f_read f_formed f_hasSnapshot), ((rf 1), ai cI 8 f_above), ((rf 2), ai cI 8 f_below), ((rf 3), ai cI 64 f_term), ((rf 4), ai cI 64 f_run), ((rf 5), ai cI 64 f_isRight)]) (kQi D [((rf 0), o8 rf f_terms f_runs f_leftAbove f_leftBelow f_rightAbove f_rightBelow f_listed f_fed f_read f_formed f_hasSnapshot), ((rf 1), ai cI 8 f_above), ((rf 2), ai cI 8 f_below), ((rf 3), ai cI 64 f_term), ((rf 4), ai cI 64 f_run), ((rf 5), ai cI 64 f_isRight)] sz (fun (r : Int32) (u : Int32 × Int32 × Int64 × Int64 × Int64 × Int64 × (Nat → Int32) × (Nat → Int32) × (Nat → Int32) × (Nat → Int32) × (Nat → Int32)) => post r u.1 u.2.1 u.2.2.1 u.2.2.2.1 u.2.2.2.2.1 u.2.2.2.2.2.1 u.2.2.2.2.2.2.1 u.2.2.2.2.2.2.2.1 u.2.2.2.2.2.2.2.2.1 u.2.2.2.2.2.2.2.2.2.1 u.2.2.2.2.2.2.2.2.2.2) (fun (u : Int32 × Int32 × Int64 × Int64 × Int64 × Int64 × (Nat → Int32) × (Nat → Int32) × (Nat → Int32) × (Nat → Int32) × (Nat → Int32)) => [((rf 0), o8 rf u.1 u.2.1 u.2.2.1 u.2.2.2.1 u.2.2.2.2.1 u.2.2.2.2.2.1 f_listed f_fed f_read f_formed f_hasSnapshot), ((rf 1), ai cI 8 u.2.2.2.2.2.2.1), ((rf 2), ai cI 8 u.2.2.2.2.2.2.2.1), ((rf 3), ai cI 64 u.2.2.2.2.2.2.2.2.1), ((rf 4), ai cI 64 u.2.2.2.2.2.2.2.2.2.1), ((rf 5), ai cI 64 u.2.2.2.2.2.2.2.2.2.2)])) 0 0 (va_A [((rf 0), o8 rf f_terms f_runs f_leftAbove f_leftBelow f_rightAbove f_rightBelow f_listed f_fed f_read f_formed f_hasSnapshot), ((rf 1), ai cI 8 f_above), ((rf 2), ai cI 8 f_below), ((rf 3), ai cI 64 f_term), ((rf 4), ai cI 64 f_run), ((rf 5), ai cI 64 f_isRight)] sz) := by
  refine kMetI (cc := cX8_bound) (maxL := 8) (by decide +kernel) rfl (Nat.le_of_ble_eq_true rfl) ?_
  intro p e s m args below meth c H0 ls A Q C0 hK hN hP hD hS hA hl RET
  obtain ⟨hx, hb, hml, hown, hts⟩ := id C0
  have hl : lv_has ls 8 [(0, .ref (rf 0)), (1, .int v1), (2, .int v2), (3, .int v3)] := hl
  have g7 := hts (.fieldLink RX8 7 "SternBrocotExplorerModel" "above" "[I") (by decide +kernel)
  have g13 := hts (.fieldLink RX8 13 "SternBrocotExplorerModel" "below" "[I") (by decide +kernel)
  have g32 := hts (.fieldLink RX8 32 "SternBrocotExplorerModel" "leftAbove" "J") (by decide +kernel)
  have g39 := hts (.fieldLink RX8 39 "SternBrocotExplorerModel" "rightAbove" "J") (by decide +kernel)
  have g36 := hts (.fieldLink RX8 36 "SternBrocotExplorerModel" "leftBelow" "J") (by decide +kernel)
  have g42 := hts (.fieldLink RX8 42 "SternBrocotExplorerModel" "rightBelow" "J") (by decide +kernel)
  have hi9 : ∀ w ∈ wsX80, w ∈ wsX8_bound := fun w h => List.mem_cons_of_mem _ (List.mem_append_right _ h)
  unfold w8_bound at hw
  have hP : va_P D vwCl [((rf 0), o8 rf f_terms f_runs f_leftAbove f_leftBelow f_rightAbove f_rightBelow f_listed f_fed f_read f_formed f_hasSnapshot), ((rf 1), ai cI 8 f_above), ((rf 2), ai cI 8 f_below), ((rf 3), ai cI 64 f_term), ((rf 4), ai cI 64 f_run), ((rf 5), ai cI 64 f_isRight)] H0 := hP
  have JOIN_78 : ∀ (v4 : Int64) (f_terms : Int32) (f_runs : Int32) (f_leftAbove : Int64) (f_leftBelow : Int64) (f_rightAbove : Int64) (f_rightBelow : Int64) (f_above : (Nat → Int32)) (f_below : (Nat → Int32)) (f_term : (Nat → Int32)) (f_run : (Nat → Int32)) (f_isRight : (Nat → Int32)) (s0 : Int64) (H : Heap) (locs : List Loc) (ls : Array Slot), w8_bound_J78 f_terms f_runs f_leftAbove f_leftBelow f_rightAbove f_rightBelow f_above f_below f_term f_run f_isRight v1 v4 s0 post → va_P D vwCl [((rf 0), o8 rf f_terms f_runs f_leftAbove f_leftBelow f_rightAbove f_rightBelow f_listed f_fed f_read f_formed f_hasSnapshot), ((rf 1), ai cI 8 f_above), ((rf 2), ai cI 8 f_below), ((rf 3), ai cI 64 f_term), ((rf 4), ai cI 64 f_run), ((rf 5), ai cI 64 f_isRight)] H → va_D A [((rf 0), o8 rf f_terms f_runs f_leftAbove f_leftBelow f_rightAbove f_rightBelow f_listed f_fed f_read f_formed f_hasSnapshot), ((rf 1), ai cI 8 f_above), ((rf 2), ai cI 8 f_below), ((rf 3), ai cI 64 f_term), ((rf 4), ai cI 64 f_run), ((rf 5), ai cI 64 f_isRight)] → va_S A H0 H locs → lv_has ls 8 [(0, .ref (rf 0)), (1, .int v1), (4, .long v4)] → W p l e rm8_bound s m args below meth c H locs 0 0 Q (F0 m 78 ls [.long s0]) := by
    intro v4 f_terms f_runs f_leftAbove f_leftBelow f_rightAbove f_rightBelow f_above f_below f_term f_run f_isRight s0 H locs ls hw hP hD hS hl
    unfold w8_bound_J78 at hw
    refine lv_lstore (lv' := [(6, .long s0), (0, .ref (rf 0)), (1, .int v1), (4, .long v4)]) hx hb dX8_bound_78 hl (by decide) rfl (fun ls hl => ?_)
    refine lv_lload hx hb dX8_bound_80 (lv_at hl 3 rfl) ?_
    refine lv_lconst (v := (0 : Int64)) hx hb dX8_bound_82 (by decide) ?_
    refine W.lcmp hx hb dX8_bound_83 ?_
    refine lv_if_eq (tgt := 94) hx hb dX8_bound_84 (by decide) (fun k => ?_) (fun k => ?_)
    · have hw := hw.1 ((lg_cmp_eq _ _).mp k)
      refine lv_bipush (v := (-2 : Int32)) hx hb dX8_bound_94 (by decide) ?_
      refine lv_goto (tgt := 108) hx hb dX8_bound_96 (by decide) ?_
      exact RET _ _ _ (f_terms, f_runs, f_leftAbove, f_leftBelow, f_rightAbove, f_rightBelow, f_above, f_below, f_term, f_run, f_isRight) _ _ hw hP hD hS dX8_bound_108
    · have hw := hw.2 (fun h => k ((lg_cmp_eq _ _).mpr h))
      refine lv_lload hx hb dX8_bound_87 (lv_at hl 0 rfl) ?_
      refine lv_lconst (v := (0 : Int64)) hx hb dX8_bound_89 (by decide) ?_
      refine W.lcmp hx hb dX8_bound_90 ?_
      refine lv_if_ne (tgt := 99) hx hb dX8_bound_91 (by decide) (fun k => ?_) (fun k => ?_)
      · have hw := hw.1 (fun h => k ((lg_cmp_eq _ _).mpr h))
        refine lv_aload_n hx hb dX8_bound_99 rfl (lv_at hl 1 rfl) ?_
        refine lv_iload_n hx hb dX8_bound_100 rfl (lv_at hl 2 rfl) ?_
        refine lv_lload hx hb dX8_bound_101 (lv_at hl 3 rfl) ?_
        refine lv_lload hx hb dX8_bound_103 (lv_at hl 0 rfl) ?_
        refine kcI (wc := [((rf 0), o8 rf f_terms f_runs f_leftAbove f_leftBelow f_rightAbove f_rightBelow f_listed f_fed f_read f_formed f_hasSnapshot), ((rf 1), ai cI 8 f_above), ((rf 2), ai cI 8 f_below)]) (wr := [((rf 3), ai cI 64 f_term), ((rf 4), ai cI 64 f_run), ((rf 5), ai cI 64 f_isRight)]) hP hD hS hA [0, 1, 2] [3, 4, 5] rfl rfl ⟨rfl, rfl, by decide⟩ (fun hPc hDc => rV (As := [.int v1, .long v4, .long s0]) (rest := []) C0 hK hN (c8_put l D cI cJ cN cR rf H.size f_terms f_runs f_leftAbove f_leftBelow f_rightAbove f_rightBelow f_listed f_fed f_read f_formed f_hasSnapshot f_above f_below v1 v4 s0 _ hw) 3 gX8_bound_X8_put rfl ⟨rfl, rfl⟩ nm8_put ⟨Nat.le_of_ble_eq_true rfl, Nat.le_of_ble_eq_true rfl⟩ (q0 := 0) rfl rfl rfl rfl hl.1 rfl (Nat.le_of_ble_eq_true rfl) dX8_bound_105 ⟨Nat.le_of_ble_eq_true rfl, Nat.le_of_ble_eq_true rfl⟩ hPc hDc) (fun r105 u105 H locs hw hP hD hS => ?_)
        obtain ⟨f_above_105, f_below_105⟩ := u105
        dsimp only at hw
        have hP : va_P D vwCl [((rf 3), ai cI 64 f_term), ((rf 4), ai cI 64 f_run), ((rf 5), ai cI 64 f_isRight), ((rf 0), o8 rf f_terms f_runs f_leftAbove f_leftBelow f_rightAbove f_rightBelow f_listed f_fed f_read f_formed f_hasSnapshot), ((rf 1), ai cI 8 f_above_105), ((rf 2), ai cI 8 f_below_105)] H := hP
        have hD : va_D A [((rf 3), ai cI 64 f_term), ((rf 4), ai cI 64 f_run), ((rf 5), ai cI 64 f_isRight), ((rf 0), o8 rf f_terms f_runs f_leftAbove f_leftBelow f_rightAbove f_rightBelow f_listed f_fed f_read f_formed f_hasSnapshot), ((rf 1), ai cI 8 f_above_105), ((rf 2), ai cI 8 f_below_105)] := hD
        obtain ⟨hP, hD⟩ := k_sub (ws' := [((rf 0), o8 rf f_terms f_runs f_leftAbove f_leftBelow f_rightAbove f_rightBelow f_listed f_fed f_read f_formed f_hasSnapshot), ((rf 1), ai cI 8 f_above_105), ((rf 2), ai cI 8 f_below_105), ((rf 3), ai cI 64 f_term), ((rf 4), ai cI 64 f_run), ((rf 5), ai cI 64 f_isRight)]) hP hD [3, 4, 5, 0, 1, 2] rfl rfl
        exact RET _ _ _ (f_terms, f_runs, f_leftAbove, f_leftBelow, f_rightAbove, f_rightBelow, f_above_105, f_below_105, f_term, f_run, f_isRight) _ _ hw hP hD hS dX8_bound_108
      · have hw := hw.2 ((lg_cmp_eq _ _).mp k)
        refine lv_bipush (v := (-2 : Int32)) hx hb dX8_bound_94 (by decide) ?_
        refine lv_goto (tgt := 108) hx hb dX8_bound_96 (by decide) ?_
        exact RET _ _ _ (f_terms, f_runs, f_leftAbove, f_leftBelow, f_rightAbove, f_rightBelow, f_above, f_below, f_term, f_run, f_isRight) _ _ hw hP hD hS dX8_bound_108
  have JOIN_61 : ∀ (f_terms : Int32) (f_runs : Int32) (f_leftAbove : Int64) (f_leftBelow : Int64) (f_rightAbove : Int64) (f_rightBelow : Int64) (f_above : (Nat → Int32)) (f_below : (Nat → Int32)) (f_term : (Nat → Int32)) (f_run : (Nat → Int32)) (f_isRight : (Nat → Int32)) (s0 : Int64) (H : Heap) (locs : List Loc) (ls : Array Slot), w8_bound_J61 f_terms f_runs f_leftAbove f_leftBelow f_rightAbove f_rightBelow f_above f_below f_term f_run f_isRight v1 v3 s0 post → va_P D vwCl [((rf 0), o8 rf f_terms f_runs f_leftAbove f_leftBelow f_rightAbove f_rightBelow f_listed f_fed f_read f_formed f_hasSnapshot), ((rf 1), ai cI 8 f_above), ((rf 2), ai cI 8 f_below), ((rf 3), ai cI 64 f_term), ((rf 4), ai cI 64 f_run), ((rf 5), ai cI 64 f_isRight)] H → va_D A [((rf 0), o8 rf f_terms f_runs f_leftAbove f_leftBelow f_rightAbove f_rightBelow f_listed f_fed f_read f_formed f_hasSnapshot), ((rf 1), ai cI 8 f_above), ((rf 2), ai cI 8 f_below), ((rf 3), ai cI 64 f_term), ((rf 4), ai cI 64 f_run), ((rf 5), ai cI 64 f_isRight)] → va_S A H0 H locs → lv_has ls 8 [(0, .ref (rf 0)), (1, .int v1), (3, .int v3)] → W p l e rm8_bound s m args below meth c H locs 0 0 Q (F0 m 61 ls [.long s0]) := by
    intro f_terms f_runs f_leftAbove f_leftBelow f_rightAbove f_rightBelow f_above f_below f_term f_run f_isRight s0 H locs ls hw hP hD hS hl
    unfold w8_bound_J61 at hw
    refine lv_lstore (lv' := [(4, .long s0), (0, .ref (rf 0)), (1, .int v1), (3, .int v3)]) hx hb dX8_bound_61 hl (by decide) rfl (fun ls hl => ?_)
    refine lv_iload_n hx hb dX8_bound_63 rfl (lv_at hl 3 rfl) ?_
    refine lv_if_ne (tgt := 74) hx hb dX8_bound_64 (by decide) (fun k => ?_) (fun k => ?_)
    · have hw := hw.1 k
      refine lv_aload_n hx hb dX8_bound_74 rfl (lv_at hl 1 rfl) ?_
      refine va_get (D := D) (ci := 8) (v := .long f_rightBelow) (C := RX8) (T := TX8) (N := 35) hx hb hts hi9 hown hK hP 0 rfl rfl 10 (by decide) g42 (fun _ h9 => h9) rfl dX8_bound_75 ?_
      exact JOIN_78 s0 f_terms f_runs f_leftAbove f_leftBelow f_rightAbove f_rightBelow f_above f_below f_term f_run f_isRight f_rightBelow _ _ ls hw hP hD hS (lv_sub hl [1, 2, 0] rfl)
    · have hw := hw.2 k
      refine lv_aload_n hx hb dX8_bound_67 rfl (lv_at hl 1 rfl) ?_
      refine va_get (D := D) (ci := 8) (v := .long f_leftBelow) (C := RX8) (T := TX8) (N := 35) hx hb hts hi9 hown hK hP 0 rfl rfl 8 (by decide) g36 (fun _ h9 => h9) rfl dX8_bound_68 ?_
      refine lv_goto (tgt := 78) hx hb dX8_bound_71 (by decide) ?_
      exact JOIN_78 s0 f_terms f_runs f_leftAbove f_leftBelow f_rightAbove f_rightBelow f_above f_below f_term f_run f_isRight f_leftBelow _ _ ls hw hP hD hS (lv_sub hl [1, 2, 0] rfl)
  refine lv_aload_n hx hb dX8_bound_0 rfl (lv_at hl 0 rfl) ?_
  refine lv_iload_n hx hb dX8_bound_1 rfl (lv_at hl 1 rfl) ?_
  refine kcRI (wc := [((rf 0), o8 rf f_terms f_runs f_leftAbove f_leftBelow f_rightAbove f_rightBelow f_listed f_fed f_read f_formed f_hasSnapshot)]) hP [0] rfl (fun hPc => oV (As := [.int v1]) (rest := []) C0 hK hN (c8_isRegister l D cI cJ cN cR rf f_terms f_runs f_leftAbove f_leftBelow f_rightAbove f_rightBelow f_listed f_fed f_read f_formed f_hasSnapshot v1 _ hw) 1 gX8_bound_X8_isRegister rfl ⟨rfl, rfl⟩ nm8_isRegister ⟨Nat.le_of_ble_eq_true rfl, Nat.le_of_ble_eq_true rfl⟩ (q0 := 0) rfl rfl rfl rfl hl.1 rfl (Nat.le_of_ble_eq_true rfl) dX8_bound_2 ⟨Nat.le_of_ble_eq_true rfl, Nat.le_of_ble_eq_true rfl⟩ hPc) (fun r2 hw => ?_)
  obtain ⟨nb2, hw⟩ := hw
  refine lv_if_eq (tgt := 24) hx hb dX8_bound_5 (by decide) (fun k => ?_) (fun k => ?_)
  · have hw := hw.1 k
    refine lv_iconst (v := (-1 : Int32)) hx hb dX8_bound_24 (by decide) ?_
    exact RET _ _ _ (f_terms, f_runs, f_leftAbove, f_leftBelow, f_rightAbove, f_rightBelow, f_above, f_below, f_term, f_run, f_isRight) _ _ hw hP hD hS dX8_bound_25
  · have hw := hw.2 k
    refine lv_aload_n hx hb dX8_bound_8 rfl (lv_at hl 0 rfl) ?_
    refine lv_iload_n hx hb dX8_bound_9 rfl (lv_at hl 2 rfl) ?_
    refine kcRI (wc := [((rf 0), o8 rf f_terms f_runs f_leftAbove f_leftBelow f_rightAbove f_rightBelow f_listed f_fed f_read f_formed f_hasSnapshot)]) hP [0] rfl (fun hPc => oV (As := [.int v2]) (rest := []) C0 hK hN (c8_isRegister l D cI cJ cN cR rf f_terms f_runs f_leftAbove f_leftBelow f_rightAbove f_rightBelow f_listed f_fed f_read f_formed f_hasSnapshot v2 _ hw) 1 gX8_bound_X8_isRegister rfl ⟨rfl, rfl⟩ nm8_isRegister ⟨Nat.le_of_ble_eq_true rfl, Nat.le_of_ble_eq_true rfl⟩ (q0 := 0) rfl rfl rfl rfl hl.1 rfl (Nat.le_of_ble_eq_true rfl) dX8_bound_10 ⟨Nat.le_of_ble_eq_true rfl, Nat.le_of_ble_eq_true rfl⟩ hPc) (fun r10 hw => ?_)
    obtain ⟨nb10, hw⟩ := hw
    refine lv_if_eq (tgt := 24) hx hb dX8_bound_13 (by decide) (fun k => ?_) (fun k => ?_)
    · have hw := hw.1 k
      refine lv_iconst (v := (-1 : Int32)) hx hb dX8_bound_24 (by decide) ?_
      exact RET _ _ _ (f_terms, f_runs, f_leftAbove, f_leftBelow, f_rightAbove, f_rightBelow, f_above, f_below, f_term, f_run, f_isRight) _ _ hw hP hD hS dX8_bound_25
    · have hw := hw.2 k
      refine lv_aload_n hx hb dX8_bound_16 rfl (lv_at hl 0 rfl) ?_
      refine lv_iload_n hx hb dX8_bound_17 rfl (lv_at hl 3 rfl) ?_
      refine kcRI (wc := [((rf 0), o8 rf f_terms f_runs f_leftAbove f_leftBelow f_rightAbove f_rightBelow f_listed f_fed f_read f_formed f_hasSnapshot)]) hP [0] rfl (fun hPc => oV (As := [.int v3]) (rest := []) C0 hK hN (c8_isSide l D cI cJ cN cR rf f_terms f_runs f_leftAbove f_leftBelow f_rightAbove f_rightBelow f_listed f_fed f_read f_formed f_hasSnapshot v3 _ hw) 1 gX8_bound_X8_isSide rfl ⟨rfl, rfl⟩ nm8_isSide ⟨Nat.le_of_ble_eq_true rfl, Nat.le_of_ble_eq_true rfl⟩ (q0 := 0) rfl rfl rfl rfl hl.1 rfl (Nat.le_of_ble_eq_true rfl) dX8_bound_18 ⟨Nat.le_of_ble_eq_true rfl, Nat.le_of_ble_eq_true rfl⟩ hPc) (fun r18 hw => ?_)
      obtain ⟨nb18, hw⟩ := hw
      refine lv_if_ne (tgt := 26) hx hb dX8_bound_21 (by decide) (fun k => ?_) (fun k => ?_)
      · have hw := hw.1 k
        refine lv_aload_n hx hb dX8_bound_26 rfl (lv_at hl 0 rfl) ?_
        refine lv_aload_n hx hb dX8_bound_27 rfl (lv_at hl 0 rfl) ?_
        refine lv_aload_n hx hb dX8_bound_28 rfl (lv_at hl 0 rfl) ?_
        refine va_get (D := D) (ci := 8) (v := .ref (rf 1)) (C := RX8) (T := TX8) (N := 35) hx hb hts hi9 hown hK hP 0 rfl rfl 0 (by decide) g7 (fun _ h9 => h9) rfl dX8_bound_29 ?_
        refine lv_iload_n hx hb dX8_bound_32 rfl (lv_at hl 2 rfl) ?_
        obtain ⟨hin, hw⟩ := hw
        refine va_iald hx hb hK hP 1 0 rfl rfl hin dX8_bound_33 ?_
        refine lv_aload_n hx hb dX8_bound_34 rfl (lv_at hl 0 rfl) ?_
        refine va_get (D := D) (ci := 8) (v := .ref (rf 2)) (C := RX8) (T := TX8) (N := 35) hx hb hts hi9 hown hK hP 0 rfl rfl 1 (by decide) g13 (fun _ h9 => h9) rfl dX8_bound_35 ?_
        refine lv_iload_n hx hb dX8_bound_38 rfl (lv_at hl 2 rfl) ?_
        obtain ⟨hin, hw⟩ := hw
        refine va_iald hx hb hK hP 2 0 rfl rfl hin dX8_bound_39 ?_
        refine kcI (wc := [((rf 0), o8 rf f_terms f_runs f_leftAbove f_leftBelow f_rightAbove f_rightBelow f_listed f_fed f_read f_formed f_hasSnapshot), ((rf 3), ai cI 64 f_term), ((rf 4), ai cI 64 f_run), ((rf 5), ai cI 64 f_isRight)]) (wr := [((rf 1), ai cI 8 f_above), ((rf 2), ai cI 8 f_below)]) hP hD hS hA [0, 3, 4, 5] [1, 2] rfl rfl ⟨rfl, rfl, by decide⟩ (fun hPc hDc => rV (As := [.int (f_above v2.toNatClampNeg), .int (f_below v2.toNatClampNeg)]) (rest := [.ref (rf 0)]) C0 hK hN (c8_depthOf l D cI cJ cN cR rf H0.size f_terms f_runs f_leftAbove f_leftBelow f_rightAbove f_rightBelow f_listed f_fed f_read f_formed f_hasSnapshot f_term f_run f_isRight (f_above v2.toNatClampNeg) (f_below v2.toNatClampNeg) _ hw) 2 gX8_bound_X8_depthOf rfl ⟨rfl, rfl⟩ nm8_depthOf ⟨Nat.le_of_ble_eq_true rfl, Nat.le_of_ble_eq_true rfl⟩ (q0 := 0) rfl rfl rfl rfl hl.1 rfl (Nat.le_of_ble_eq_true rfl) dX8_bound_40 ⟨Nat.le_of_ble_eq_true rfl, Nat.le_of_ble_eq_true rfl⟩ hPc hDc) (fun r40 u40 H locs hw hP hD hS => ?_)
        obtain ⟨f_terms_40, f_runs_40, f_term_40, f_run_40, f_isRight_40⟩ := u40
        dsimp only at hw
        have hP : va_P D vwCl [((rf 1), ai cI 8 f_above), ((rf 2), ai cI 8 f_below), ((rf 0), o8 rf f_terms_40 f_runs_40 f_leftAbove f_leftBelow f_rightAbove f_rightBelow f_listed f_fed f_read f_formed f_hasSnapshot), ((rf 3), ai cI 64 f_term_40), ((rf 4), ai cI 64 f_run_40), ((rf 5), ai cI 64 f_isRight_40)] H := hP
        have hD : va_D A [((rf 1), ai cI 8 f_above), ((rf 2), ai cI 8 f_below), ((rf 0), o8 rf f_terms_40 f_runs_40 f_leftAbove f_leftBelow f_rightAbove f_rightBelow f_listed f_fed f_read f_formed f_hasSnapshot), ((rf 3), ai cI 64 f_term_40), ((rf 4), ai cI 64 f_run_40), ((rf 5), ai cI 64 f_isRight_40)] := hD
        refine kcV (wc := [((rf 0), o8 rf f_terms_40 f_runs_40 f_leftAbove f_leftBelow f_rightAbove f_rightBelow f_listed f_fed f_read f_formed f_hasSnapshot), ((rf 4), ai cI 64 f_run_40), ((rf 5), ai cI 64 f_isRight_40)]) (wr := [((rf 1), ai cI 8 f_above), ((rf 2), ai cI 8 f_below), ((rf 3), ai cI 64 f_term_40)]) hP hD hS hA [2, 4, 5] [0, 1, 3] rfl rfl ⟨rfl, rfl, by decide⟩ (fun hPc hDc => rV (As := [.int r40]) (rest := []) C0 hK hN (c8_goDown l D cI cJ cN cR rf H.size f_terms_40 f_runs_40 f_leftAbove f_leftBelow f_rightAbove f_rightBelow f_listed f_fed f_read f_formed f_hasSnapshot f_run_40 f_isRight_40 r40 _ hw) 1 gX8_bound_X8_goDown rfl ⟨rfl, rfl⟩ nm8_goDown ⟨Nat.le_of_ble_eq_true rfl, Nat.le_of_ble_eq_true rfl⟩ (q0 := 0) rfl rfl rfl rfl hl.1 rfl (Nat.le_of_ble_eq_true rfl) dX8_bound_43 ⟨Nat.le_of_ble_eq_true rfl, Nat.le_of_ble_eq_true rfl⟩ hPc hDc) (fun u43 H locs hw hP hD hS => ?_)
        obtain ⟨f_leftAbove_43, f_leftBelow_43, f_rightAbove_43, f_rightBelow_43⟩ := u43
        dsimp only at hw
        have hP : va_P D vwCl [((rf 1), ai cI 8 f_above), ((rf 2), ai cI 8 f_below), ((rf 3), ai cI 64 f_term_40), ((rf 0), o8 rf f_terms_40 f_runs_40 f_leftAbove_43 f_leftBelow_43 f_rightAbove_43 f_rightBelow_43 f_listed f_fed f_read f_formed f_hasSnapshot), ((rf 4), ai cI 64 f_run_40), ((rf 5), ai cI 64 f_isRight_40)] H := hP
        have hD : va_D A [((rf 1), ai cI 8 f_above), ((rf 2), ai cI 8 f_below), ((rf 3), ai cI 64 f_term_40), ((rf 0), o8 rf f_terms_40 f_runs_40 f_leftAbove_43 f_leftBelow_43 f_rightAbove_43 f_rightBelow_43 f_listed f_fed f_read f_formed f_hasSnapshot), ((rf 4), ai cI 64 f_run_40), ((rf 5), ai cI 64 f_isRight_40)] := hD
        refine lv_iload_n hx hb dX8_bound_46 rfl (lv_at hl 3 rfl) ?_
        refine lv_if_ne (tgt := 57) hx hb dX8_bound_47 (by decide) (fun k => ?_) (fun k => ?_)
        · have hw := hw.1 k
          refine lv_aload_n hx hb dX8_bound_57 rfl (lv_at hl 0 rfl) ?_
          refine va_get (D := D) (ci := 8) (v := .long f_rightAbove_43) (C := RX8) (T := TX8) (N := 35) hx hb hts hi9 hown hK hP 3 rfl rfl 9 (by decide) g39 (fun _ h9 => h9) rfl dX8_bound_58 ?_
          obtain ⟨hP, hD⟩ := k_sub (ws' := [((rf 0), o8 rf f_terms_40 f_runs_40 f_leftAbove_43 f_leftBelow_43 f_rightAbove_43 f_rightBelow_43 f_listed f_fed f_read f_formed f_hasSnapshot), ((rf 1), ai cI 8 f_above), ((rf 2), ai cI 8 f_below), ((rf 3), ai cI 64 f_term_40), ((rf 4), ai cI 64 f_run_40), ((rf 5), ai cI 64 f_isRight_40)]) hP hD [3, 0, 1, 2, 4, 5] rfl rfl
          exact JOIN_61 f_terms_40 f_runs_40 f_leftAbove_43 f_leftBelow_43 f_rightAbove_43 f_rightBelow_43 f_above f_below f_term_40 f_run_40 f_isRight_40 f_rightAbove_43 _ _ ls hw hP hD hS (lv_sub hl [0, 1, 3] rfl)
        · have hw := hw.2 k
          refine lv_aload_n hx hb dX8_bound_50 rfl (lv_at hl 0 rfl) ?_
          refine va_get (D := D) (ci := 8) (v := .long f_leftAbove_43) (C := RX8) (T := TX8) (N := 35) hx hb hts hi9 hown hK hP 3 rfl rfl 7 (by decide) g32 (fun _ h9 => h9) rfl dX8_bound_51 ?_
          refine lv_goto (tgt := 61) hx hb dX8_bound_54 (by decide) ?_
          obtain ⟨hP, hD⟩ := k_sub (ws' := [((rf 0), o8 rf f_terms_40 f_runs_40 f_leftAbove_43 f_leftBelow_43 f_rightAbove_43 f_rightBelow_43 f_listed f_fed f_read f_formed f_hasSnapshot), ((rf 1), ai cI 8 f_above), ((rf 2), ai cI 8 f_below), ((rf 3), ai cI 64 f_term_40), ((rf 4), ai cI 64 f_run_40), ((rf 5), ai cI 64 f_isRight_40)]) hP hD [3, 0, 1, 2, 4, 5] rfl rfl
          exact JOIN_61 f_terms_40 f_runs_40 f_leftAbove_43 f_leftBelow_43 f_rightAbove_43 f_rightBelow_43 f_above f_below f_term_40 f_run_40 f_isRight_40 f_leftAbove_43 _ _ ls hw hP hD hS (lv_sub hl [0, 1, 3] rfl)
      · have hw := hw.2 k
        refine lv_iconst (v := (-1 : Int32)) hx hb dX8_bound_24 (by decide) ?_
        exact RET _ _ _ (f_terms, f_runs, f_leftAbove, f_leftBelow, f_rightAbove, f_rightBelow, f_above, f_below, f_term, f_run, f_isRight) _ _ hw hP hD hS dX8_bound_25
abbrev rm8_child : Room := { frames := 3, cells := 0, slots := 0, locals := 73 }
theorem nm8_child : kNm yX8_child 3 := by decide +kernel
set_option maxHeartbeats 4000000 in
set_option maxRecDepth 100000 in
theorem c8_child (l : Launch) (D : va_G) (cI cJ cN cR : ClassId) (rf : Nat → Nat) (sz : Nat) (f_terms : Int32) (f_runs : Int32) (f_leftAbove : Int64) (f_leftBelow : Int64) (f_rightAbove : Int64) (f_rightBelow : Int64) (f_listed : Int32) (f_fed : Int32) (f_read : Int32) (f_formed : Int32) (f_hasSnapshot : Int32) (f_above : (Nat → Int32)) (f_below : (Nat → Int32)) (f_term : (Nat → Int32)) (f_run : (Nat → Int32)) (f_isRight : (Nat → Int32)) (v1 : Int32) (v2 : Int32) (v3 : Int32) (post : Int32 → Int32 → Int32 → Int64 → Int64 → Int64 → Int64 → (Nat → Int32) → (Nat → Int32) → (Nat → Int32) → (Nat → Int32) → (Nat → Int32) → Prop) (hw : w8_child f_terms f_runs f_leftAbove f_leftBelow f_rightAbove f_rightBelow f_above f_below f_term f_run f_isRight v1 v2 v3 post) : Met l yX8_child wsX8_child rm8_child (kP D (kT cI cJ cN cR) sz [.ref (rf 0), .int v1, .int v2, .int v3] [((rf 0), o8 rf f_terms f_runs f_leftAbove f_leftBelow f_rightAbove f_rightBelow f_listed f_fed f_read f_formed f_hasSnapshot), ((rf 1), ai cI 8 f_above), ((rf 2), ai cI 8 f_below), ((rf 3), ai cI 64 f_term), ((rf 4), ai cI 64 f_run), ((rf 5), ai cI 64 f_isRight)]) (kQi D [((rf 0), o8 rf f_terms f_runs f_leftAbove f_leftBelow f_rightAbove f_rightBelow f_listed f_fed f_read f_formed f_hasSnapshot), ((rf 1), ai cI 8 f_above), ((rf 2), ai cI 8 f_below), ((rf 3), ai cI 64 f_term), ((rf 4), ai cI 64 f_run), ((rf 5), ai cI 64 f_isRight)] sz (fun (r : Int32) (u : Int32 × Int32 × Int64 × Int64 × Int64 × Int64 × (Nat → Int32) × (Nat → Int32) × (Nat → Int32) × (Nat → Int32) × (Nat → Int32)) => post r u.1 u.2.1 u.2.2.1 u.2.2.2.1 u.2.2.2.2.1 u.2.2.2.2.2.1 u.2.2.2.2.2.2.1 u.2.2.2.2.2.2.2.1 u.2.2.2.2.2.2.2.2.1 u.2.2.2.2.2.2.2.2.2.1 u.2.2.2.2.2.2.2.2.2.2) (fun (u : Int32 × Int32 × Int64 × Int64 × Int64 × Int64 × (Nat → Int32) × (Nat → Int32) × (Nat → Int32) × (Nat → Int32) × (Nat → Int32)) => [((rf 0), o8 rf u.1 u.2.1 u.2.2.1 u.2.2.2.1 u.2.2.2.2.1 u.2.2.2.2.2.1 f_listed f_fed f_read f_formed f_hasSnapshot), ((rf 1), ai cI 8 u.2.2.2.2.2.2.1), ((rf 2), ai cI 8 u.2.2.2.2.2.2.2.1), ((rf 3), ai cI 64 u.2.2.2.2.2.2.2.2.1), ((rf 4), ai cI 64 u.2.2.2.2.2.2.2.2.2.1), ((rf 5), ai cI 64 u.2.2.2.2.2.2.2.2.2.2)])) 0 0 (va_A [((rf 0), o8 rf f_terms f_runs f_leftAbove f_leftBelow f_rightAbove f_rightBelow f_listed f_fed f_read f_formed f_hasSnapshot), ((rf 1), ai cI 8 f_above), ((rf 2), ai cI 8 f_below), ((rf 3), ai cI 64 f_term), ((rf 4), ai cI 64 f_run), ((rf 5), ai cI 64 f_isRight)] sz) := by
  refine kMetI (cc := cX8_child) (maxL := 4) (by decide +kernel) rfl (Nat.le_of_ble_eq_true rfl) ?_
  intro p e s m args below meth c H0 ls A Q C0 hK hN hP hD hS hA hl RET
  obtain ⟨hx, hb, hml, hown, hts⟩ := id C0
  have hl : lv_has ls 4 [(0, .ref (rf 0)), (1, .int v1), (2, .int v2), (3, .int v3)] := hl
  have g7 := hts (.fieldLink RX8 7 "SternBrocotExplorerModel" "above" "[I") (by decide +kernel)
  have g13 := hts (.fieldLink RX8 13 "SternBrocotExplorerModel" "below" "[I") (by decide +kernel)
  have g32 := hts (.fieldLink RX8 32 "SternBrocotExplorerModel" "leftAbove" "J") (by decide +kernel)
  have g39 := hts (.fieldLink RX8 39 "SternBrocotExplorerModel" "rightAbove" "J") (by decide +kernel)
  have g36 := hts (.fieldLink RX8 36 "SternBrocotExplorerModel" "leftBelow" "J") (by decide +kernel)
  have g42 := hts (.fieldLink RX8 42 "SternBrocotExplorerModel" "rightBelow" "J") (by decide +kernel)
  have hi9 : ∀ w ∈ wsX80, w ∈ wsX8_child := fun w h => List.mem_cons_of_mem _ (List.mem_append_right _ h)
  unfold w8_child at hw
  have hP : va_P D vwCl [((rf 0), o8 rf f_terms f_runs f_leftAbove f_leftBelow f_rightAbove f_rightBelow f_listed f_fed f_read f_formed f_hasSnapshot), ((rf 1), ai cI 8 f_above), ((rf 2), ai cI 8 f_below), ((rf 3), ai cI 64 f_term), ((rf 4), ai cI 64 f_run), ((rf 5), ai cI 64 f_isRight)] H0 := hP
  have JOIN_70 : ∀ (f_terms : Int32) (f_runs : Int32) (f_leftAbove : Int64) (f_leftBelow : Int64) (f_rightAbove : Int64) (f_rightBelow : Int64) (f_above : (Nat → Int32)) (f_below : (Nat → Int32)) (f_term : (Nat → Int32)) (f_run : (Nat → Int32)) (f_isRight : (Nat → Int32)) (s0 : Int64) (s1 : Int64) (s2 : Int32) (H : Heap) (locs : List Loc) (ls : Array Slot), w8_child_J70 f_terms f_runs f_leftAbove f_leftBelow f_rightAbove f_rightBelow f_above f_below f_term f_run f_isRight v2 v3 s0 s1 s2 post → va_P D vwCl [((rf 0), o8 rf f_terms f_runs f_leftAbove f_leftBelow f_rightAbove f_rightBelow f_listed f_fed f_read f_formed f_hasSnapshot), ((rf 1), ai cI 8 f_above), ((rf 2), ai cI 8 f_below), ((rf 3), ai cI 64 f_term), ((rf 4), ai cI 64 f_run), ((rf 5), ai cI 64 f_isRight)] H → va_D A [((rf 0), o8 rf f_terms f_runs f_leftAbove f_leftBelow f_rightAbove f_rightBelow f_listed f_fed f_read f_formed f_hasSnapshot), ((rf 1), ai cI 8 f_above), ((rf 2), ai cI 8 f_below), ((rf 3), ai cI 64 f_term), ((rf 4), ai cI 64 f_run), ((rf 5), ai cI 64 f_isRight)] → va_S A H0 H locs → lv_has ls 4 [(0, .ref (rf 0)), (2, .int v2), (3, .int v3)] → W p l e rm8_child s m args below meth c H locs 0 0 Q (F0 m 70 ls [.long s0, .long s1, .int s2, .ref (rf 0)]) := by
    intro f_terms f_runs f_leftAbove f_leftBelow f_rightAbove f_rightBelow f_above f_below f_term f_run f_isRight s0 s1 s2 H locs ls hw hP hD hS hl
    unfold w8_child_J70 at hw
    refine lv_ladd hx hb dX8_child_70 ?_
    refine lv_aload_n hx hb dX8_child_71 rfl (lv_at hl 0 rfl) ?_
    refine va_get (D := D) (ci := 8) (v := .ref (rf 2)) (C := RX8) (T := TX8) (N := 35) hx hb hts hi9 hown hK hP 0 rfl rfl 1 (by decide) g13 (fun _ h9 => h9) rfl dX8_child_72 ?_
    refine lv_iload_n hx hb dX8_child_75 rfl (lv_at hl 1 rfl) ?_
    obtain ⟨hin, hw⟩ := hw
    refine va_iald hx hb hK hP 2 0 rfl rfl hin dX8_child_76 ?_
    refine lv_i2l hx hb dX8_child_77 rfl ?_
    refine lv_iload_n hx hb dX8_child_78 rfl (lv_at hl 2 rfl) ?_
    refine lv_if_ne (tgt := 89) hx hb dX8_child_79 (by decide) (fun k => ?_) (fun k => ?_)
    · have hw := hw.1 k
      refine lv_aload_n hx hb dX8_child_89 rfl (lv_at hl 0 rfl) ?_
      refine va_get (D := D) (ci := 8) (v := .long f_rightBelow) (C := RX8) (T := TX8) (N := 35) hx hb hts hi9 hown hK hP 0 rfl rfl 10 (by decide) g42 (fun _ h9 => h9) rfl dX8_child_90 ?_
      refine lv_ladd hx hb dX8_child_93 ?_
      refine kcI (wc := [((rf 0), o8 rf f_terms f_runs f_leftAbove f_leftBelow f_rightAbove f_rightBelow f_listed f_fed f_read f_formed f_hasSnapshot), ((rf 1), ai cI 8 f_above), ((rf 2), ai cI 8 f_below)]) (wr := [((rf 3), ai cI 64 f_term), ((rf 4), ai cI 64 f_run), ((rf 5), ai cI 64 f_isRight)]) hP hD hS hA [0, 1, 2] [3, 4, 5] rfl rfl ⟨rfl, rfl, by decide⟩ (fun hPc hDc => rV (As := [.int s2, .long (s1 + s0), .long ((f_below v2.toNatClampNeg).toInt64 + f_rightBelow)]) (rest := []) C0 hK hN (c8_put l D cI cJ cN cR rf H.size f_terms f_runs f_leftAbove f_leftBelow f_rightAbove f_rightBelow f_listed f_fed f_read f_formed f_hasSnapshot f_above f_below s2 (s1 + s0) ((f_below v2.toNatClampNeg).toInt64 + f_rightBelow) _ hw) 3 gX8_child_X8_put rfl ⟨rfl, rfl⟩ nm8_put ⟨Nat.le_of_ble_eq_true rfl, Nat.le_of_ble_eq_true rfl⟩ (q0 := 0) rfl rfl rfl rfl hl.1 rfl (Nat.le_of_ble_eq_true rfl) dX8_child_94 ⟨Nat.le_of_ble_eq_true rfl, Nat.le_of_ble_eq_true rfl⟩ hPc hDc) (fun r94 u94 H locs hw hP hD hS => ?_)
      obtain ⟨f_above_94, f_below_94⟩ := u94
      dsimp only at hw
      have hP : va_P D vwCl [((rf 3), ai cI 64 f_term), ((rf 4), ai cI 64 f_run), ((rf 5), ai cI 64 f_isRight), ((rf 0), o8 rf f_terms f_runs f_leftAbove f_leftBelow f_rightAbove f_rightBelow f_listed f_fed f_read f_formed f_hasSnapshot), ((rf 1), ai cI 8 f_above_94), ((rf 2), ai cI 8 f_below_94)] H := hP
      have hD : va_D A [((rf 3), ai cI 64 f_term), ((rf 4), ai cI 64 f_run), ((rf 5), ai cI 64 f_isRight), ((rf 0), o8 rf f_terms f_runs f_leftAbove f_leftBelow f_rightAbove f_rightBelow f_listed f_fed f_read f_formed f_hasSnapshot), ((rf 1), ai cI 8 f_above_94), ((rf 2), ai cI 8 f_below_94)] := hD
      obtain ⟨hP, hD⟩ := k_sub (ws' := [((rf 0), o8 rf f_terms f_runs f_leftAbove f_leftBelow f_rightAbove f_rightBelow f_listed f_fed f_read f_formed f_hasSnapshot), ((rf 1), ai cI 8 f_above_94), ((rf 2), ai cI 8 f_below_94), ((rf 3), ai cI 64 f_term), ((rf 4), ai cI 64 f_run), ((rf 5), ai cI 64 f_isRight)]) hP hD [3, 4, 5, 0, 1, 2] rfl rfl
      exact RET _ _ _ (f_terms, f_runs, f_leftAbove, f_leftBelow, f_rightAbove, f_rightBelow, f_above_94, f_below_94, f_term, f_run, f_isRight) _ _ hw hP hD hS dX8_child_97
    · have hw := hw.2 k
      refine lv_aload_n hx hb dX8_child_82 rfl (lv_at hl 0 rfl) ?_
      refine va_get (D := D) (ci := 8) (v := .long f_leftBelow) (C := RX8) (T := TX8) (N := 35) hx hb hts hi9 hown hK hP 0 rfl rfl 8 (by decide) g36 (fun _ h9 => h9) rfl dX8_child_83 ?_
      refine lv_goto (tgt := 93) hx hb dX8_child_86 (by decide) ?_
      refine lv_ladd hx hb dX8_child_93 ?_
      refine kcI (wc := [((rf 0), o8 rf f_terms f_runs f_leftAbove f_leftBelow f_rightAbove f_rightBelow f_listed f_fed f_read f_formed f_hasSnapshot), ((rf 1), ai cI 8 f_above), ((rf 2), ai cI 8 f_below)]) (wr := [((rf 3), ai cI 64 f_term), ((rf 4), ai cI 64 f_run), ((rf 5), ai cI 64 f_isRight)]) hP hD hS hA [0, 1, 2] [3, 4, 5] rfl rfl ⟨rfl, rfl, by decide⟩ (fun hPc hDc => rV (As := [.int s2, .long (s1 + s0), .long ((f_below v2.toNatClampNeg).toInt64 + f_leftBelow)]) (rest := []) C0 hK hN (c8_put l D cI cJ cN cR rf H.size f_terms f_runs f_leftAbove f_leftBelow f_rightAbove f_rightBelow f_listed f_fed f_read f_formed f_hasSnapshot f_above f_below s2 (s1 + s0) ((f_below v2.toNatClampNeg).toInt64 + f_leftBelow) _ hw) 3 gX8_child_X8_put rfl ⟨rfl, rfl⟩ nm8_put ⟨Nat.le_of_ble_eq_true rfl, Nat.le_of_ble_eq_true rfl⟩ (q0 := 0) rfl rfl rfl rfl hl.1 rfl (Nat.le_of_ble_eq_true rfl) dX8_child_94 ⟨Nat.le_of_ble_eq_true rfl, Nat.le_of_ble_eq_true rfl⟩ hPc hDc) (fun r94 u94 H locs hw hP hD hS => ?_)
      obtain ⟨f_above_94, f_below_94⟩ := u94
      dsimp only at hw
      have hP : va_P D vwCl [((rf 3), ai cI 64 f_term), ((rf 4), ai cI 64 f_run), ((rf 5), ai cI 64 f_isRight), ((rf 0), o8 rf f_terms f_runs f_leftAbove f_leftBelow f_rightAbove f_rightBelow f_listed f_fed f_read f_formed f_hasSnapshot), ((rf 1), ai cI 8 f_above_94), ((rf 2), ai cI 8 f_below_94)] H := hP
      have hD : va_D A [((rf 3), ai cI 64 f_term), ((rf 4), ai cI 64 f_run), ((rf 5), ai cI 64 f_isRight), ((rf 0), o8 rf f_terms f_runs f_leftAbove f_leftBelow f_rightAbove f_rightBelow f_listed f_fed f_read f_formed f_hasSnapshot), ((rf 1), ai cI 8 f_above_94), ((rf 2), ai cI 8 f_below_94)] := hD
      obtain ⟨hP, hD⟩ := k_sub (ws' := [((rf 0), o8 rf f_terms f_runs f_leftAbove f_leftBelow f_rightAbove f_rightBelow f_listed f_fed f_read f_formed f_hasSnapshot), ((rf 1), ai cI 8 f_above_94), ((rf 2), ai cI 8 f_below_94), ((rf 3), ai cI 64 f_term), ((rf 4), ai cI 64 f_run), ((rf 5), ai cI 64 f_isRight)]) hP hD [3, 4, 5, 0, 1, 2] rfl rfl
      exact RET _ _ _ (f_terms, f_runs, f_leftAbove, f_leftBelow, f_rightAbove, f_rightBelow, f_above_94, f_below_94, f_term, f_run, f_isRight) _ _ hw hP hD hS dX8_child_97
  refine lv_aload_n hx hb dX8_child_0 rfl (lv_at hl 0 rfl) ?_
  refine lv_iload_n hx hb dX8_child_1 rfl (lv_at hl 1 rfl) ?_
  refine kcRI (wc := [((rf 0), o8 rf f_terms f_runs f_leftAbove f_leftBelow f_rightAbove f_rightBelow f_listed f_fed f_read f_formed f_hasSnapshot)]) hP [0] rfl (fun hPc => oV (As := [.int v1]) (rest := []) C0 hK hN (c8_isRegister l D cI cJ cN cR rf f_terms f_runs f_leftAbove f_leftBelow f_rightAbove f_rightBelow f_listed f_fed f_read f_formed f_hasSnapshot v1 _ hw) 1 gX8_child_X8_isRegister rfl ⟨rfl, rfl⟩ nm8_isRegister ⟨Nat.le_of_ble_eq_true rfl, Nat.le_of_ble_eq_true rfl⟩ (q0 := 0) rfl rfl rfl rfl hl.1 rfl (Nat.le_of_ble_eq_true rfl) dX8_child_2 ⟨Nat.le_of_ble_eq_true rfl, Nat.le_of_ble_eq_true rfl⟩ hPc) (fun r2 hw => ?_)
  obtain ⟨nb2, hw⟩ := hw
  refine lv_if_eq (tgt := 24) hx hb dX8_child_5 (by decide) (fun k => ?_) (fun k => ?_)
  · have hw := hw.1 k
    refine lv_iconst (v := (-1 : Int32)) hx hb dX8_child_24 (by decide) ?_
    exact RET _ _ _ (f_terms, f_runs, f_leftAbove, f_leftBelow, f_rightAbove, f_rightBelow, f_above, f_below, f_term, f_run, f_isRight) _ _ hw hP hD hS dX8_child_25
  · have hw := hw.2 k
    refine lv_aload_n hx hb dX8_child_8 rfl (lv_at hl 0 rfl) ?_
    refine lv_iload_n hx hb dX8_child_9 rfl (lv_at hl 2 rfl) ?_
    refine kcRI (wc := [((rf 0), o8 rf f_terms f_runs f_leftAbove f_leftBelow f_rightAbove f_rightBelow f_listed f_fed f_read f_formed f_hasSnapshot)]) hP [0] rfl (fun hPc => oV (As := [.int v2]) (rest := []) C0 hK hN (c8_isRegister l D cI cJ cN cR rf f_terms f_runs f_leftAbove f_leftBelow f_rightAbove f_rightBelow f_listed f_fed f_read f_formed f_hasSnapshot v2 _ hw) 1 gX8_child_X8_isRegister rfl ⟨rfl, rfl⟩ nm8_isRegister ⟨Nat.le_of_ble_eq_true rfl, Nat.le_of_ble_eq_true rfl⟩ (q0 := 0) rfl rfl rfl rfl hl.1 rfl (Nat.le_of_ble_eq_true rfl) dX8_child_10 ⟨Nat.le_of_ble_eq_true rfl, Nat.le_of_ble_eq_true rfl⟩ hPc) (fun r10 hw => ?_)
    obtain ⟨nb10, hw⟩ := hw
    refine lv_if_eq (tgt := 24) hx hb dX8_child_13 (by decide) (fun k => ?_) (fun k => ?_)
    · have hw := hw.1 k
      refine lv_iconst (v := (-1 : Int32)) hx hb dX8_child_24 (by decide) ?_
      exact RET _ _ _ (f_terms, f_runs, f_leftAbove, f_leftBelow, f_rightAbove, f_rightBelow, f_above, f_below, f_term, f_run, f_isRight) _ _ hw hP hD hS dX8_child_25
    · have hw := hw.2 k
      refine lv_aload_n hx hb dX8_child_16 rfl (lv_at hl 0 rfl) ?_
      refine lv_iload_n hx hb dX8_child_17 rfl (lv_at hl 3 rfl) ?_
      refine kcRI (wc := [((rf 0), o8 rf f_terms f_runs f_leftAbove f_leftBelow f_rightAbove f_rightBelow f_listed f_fed f_read f_formed f_hasSnapshot)]) hP [0] rfl (fun hPc => oV (As := [.int v3]) (rest := []) C0 hK hN (c8_isSide l D cI cJ cN cR rf f_terms f_runs f_leftAbove f_leftBelow f_rightAbove f_rightBelow f_listed f_fed f_read f_formed f_hasSnapshot v3 _ hw) 1 gX8_child_X8_isSide rfl ⟨rfl, rfl⟩ nm8_isSide ⟨Nat.le_of_ble_eq_true rfl, Nat.le_of_ble_eq_true rfl⟩ (q0 := 0) rfl rfl rfl rfl hl.1 rfl (Nat.le_of_ble_eq_true rfl) dX8_child_18 ⟨Nat.le_of_ble_eq_true rfl, Nat.le_of_ble_eq_true rfl⟩ hPc) (fun r18 hw => ?_)
      obtain ⟨nb18, hw⟩ := hw
      refine lv_if_ne (tgt := 26) hx hb dX8_child_21 (by decide) (fun k => ?_) (fun k => ?_)
      · have hw := hw.1 k
        refine lv_aload_n hx hb dX8_child_26 rfl (lv_at hl 0 rfl) ?_
        refine lv_aload_n hx hb dX8_child_27 rfl (lv_at hl 0 rfl) ?_
        refine lv_aload_n hx hb dX8_child_28 rfl (lv_at hl 0 rfl) ?_
        refine va_get (D := D) (ci := 8) (v := .ref (rf 1)) (C := RX8) (T := TX8) (N := 35) hx hb hts hi9 hown hK hP 0 rfl rfl 0 (by decide) g7 (fun _ h9 => h9) rfl dX8_child_29 ?_
        refine lv_iload_n hx hb dX8_child_32 rfl (lv_at hl 2 rfl) ?_
        obtain ⟨hin, hw⟩ := hw
        refine va_iald hx hb hK hP 1 0 rfl rfl hin dX8_child_33 ?_
        refine lv_aload_n hx hb dX8_child_34 rfl (lv_at hl 0 rfl) ?_
        refine va_get (D := D) (ci := 8) (v := .ref (rf 2)) (C := RX8) (T := TX8) (N := 35) hx hb hts hi9 hown hK hP 0 rfl rfl 1 (by decide) g13 (fun _ h9 => h9) rfl dX8_child_35 ?_
        refine lv_iload_n hx hb dX8_child_38 rfl (lv_at hl 2 rfl) ?_
        obtain ⟨hin, hw⟩ := hw
        refine va_iald hx hb hK hP 2 0 rfl rfl hin dX8_child_39 ?_
        refine kcI (wc := [((rf 0), o8 rf f_terms f_runs f_leftAbove f_leftBelow f_rightAbove f_rightBelow f_listed f_fed f_read f_formed f_hasSnapshot), ((rf 3), ai cI 64 f_term), ((rf 4), ai cI 64 f_run), ((rf 5), ai cI 64 f_isRight)]) (wr := [((rf 1), ai cI 8 f_above), ((rf 2), ai cI 8 f_below)]) hP hD hS hA [0, 3, 4, 5] [1, 2] rfl rfl ⟨rfl, rfl, by decide⟩ (fun hPc hDc => rV (As := [.int (f_above v2.toNatClampNeg), .int (f_below v2.toNatClampNeg)]) (rest := [.ref (rf 0)]) C0 hK hN (c8_depthOf l D cI cJ cN cR rf H0.size f_terms f_runs f_leftAbove f_leftBelow f_rightAbove f_rightBelow f_listed f_fed f_read f_formed f_hasSnapshot f_term f_run f_isRight (f_above v2.toNatClampNeg) (f_below v2.toNatClampNeg) _ hw) 2 gX8_child_X8_depthOf rfl ⟨rfl, rfl⟩ nm8_depthOf ⟨Nat.le_of_ble_eq_true rfl, Nat.le_of_ble_eq_true rfl⟩ (q0 := 0) rfl rfl rfl rfl hl.1 rfl (Nat.le_of_ble_eq_true rfl) dX8_child_40 ⟨Nat.le_of_ble_eq_true rfl, Nat.le_of_ble_eq_true rfl⟩ hPc hDc) (fun r40 u40 H locs hw hP hD hS => ?_)
        obtain ⟨f_terms_40, f_runs_40, f_term_40, f_run_40, f_isRight_40⟩ := u40
        dsimp only at hw
        have hP : va_P D vwCl [((rf 1), ai cI 8 f_above), ((rf 2), ai cI 8 f_below), ((rf 0), o8 rf f_terms_40 f_runs_40 f_leftAbove f_leftBelow f_rightAbove f_rightBelow f_listed f_fed f_read f_formed f_hasSnapshot), ((rf 3), ai cI 64 f_term_40), ((rf 4), ai cI 64 f_run_40), ((rf 5), ai cI 64 f_isRight_40)] H := hP
        have hD : va_D A [((rf 1), ai cI 8 f_above), ((rf 2), ai cI 8 f_below), ((rf 0), o8 rf f_terms_40 f_runs_40 f_leftAbove f_leftBelow f_rightAbove f_rightBelow f_listed f_fed f_read f_formed f_hasSnapshot), ((rf 3), ai cI 64 f_term_40), ((rf 4), ai cI 64 f_run_40), ((rf 5), ai cI 64 f_isRight_40)] := hD
        refine kcV (wc := [((rf 0), o8 rf f_terms_40 f_runs_40 f_leftAbove f_leftBelow f_rightAbove f_rightBelow f_listed f_fed f_read f_formed f_hasSnapshot), ((rf 4), ai cI 64 f_run_40), ((rf 5), ai cI 64 f_isRight_40)]) (wr := [((rf 1), ai cI 8 f_above), ((rf 2), ai cI 8 f_below), ((rf 3), ai cI 64 f_term_40)]) hP hD hS hA [2, 4, 5] [0, 1, 3] rfl rfl ⟨rfl, rfl, by decide⟩ (fun hPc hDc => rV (As := [.int r40]) (rest := []) C0 hK hN (c8_goDown l D cI cJ cN cR rf H.size f_terms_40 f_runs_40 f_leftAbove f_leftBelow f_rightAbove f_rightBelow f_listed f_fed f_read f_formed f_hasSnapshot f_run_40 f_isRight_40 r40 _ hw) 1 gX8_child_X8_goDown rfl ⟨rfl, rfl⟩ nm8_goDown ⟨Nat.le_of_ble_eq_true rfl, Nat.le_of_ble_eq_true rfl⟩ (q0 := 0) rfl rfl rfl rfl hl.1 rfl (Nat.le_of_ble_eq_true rfl) dX8_child_43 ⟨Nat.le_of_ble_eq_true rfl, Nat.le_of_ble_eq_true rfl⟩ hPc hDc) (fun u43 H locs hw hP hD hS => ?_)
        obtain ⟨f_leftAbove_43, f_leftBelow_43, f_rightAbove_43, f_rightBelow_43⟩ := u43
        dsimp only at hw
        have hP : va_P D vwCl [((rf 1), ai cI 8 f_above), ((rf 2), ai cI 8 f_below), ((rf 3), ai cI 64 f_term_40), ((rf 0), o8 rf f_terms_40 f_runs_40 f_leftAbove_43 f_leftBelow_43 f_rightAbove_43 f_rightBelow_43 f_listed f_fed f_read f_formed f_hasSnapshot), ((rf 4), ai cI 64 f_run_40), ((rf 5), ai cI 64 f_isRight_40)] H := hP
        have hD : va_D A [((rf 1), ai cI 8 f_above), ((rf 2), ai cI 8 f_below), ((rf 3), ai cI 64 f_term_40), ((rf 0), o8 rf f_terms_40 f_runs_40 f_leftAbove_43 f_leftBelow_43 f_rightAbove_43 f_rightBelow_43 f_listed f_fed f_read f_formed f_hasSnapshot), ((rf 4), ai cI 64 f_run_40), ((rf 5), ai cI 64 f_isRight_40)] := hD
        refine lv_aload_n hx hb dX8_child_46 rfl (lv_at hl 0 rfl) ?_
        refine lv_iload_n hx hb dX8_child_47 rfl (lv_at hl 1 rfl) ?_
        refine lv_aload_n hx hb dX8_child_48 rfl (lv_at hl 0 rfl) ?_
        refine va_get (D := D) (ci := 8) (v := .ref (rf 1)) (C := RX8) (T := TX8) (N := 35) hx hb hts hi9 hown hK hP 3 rfl rfl 0 (by decide) g7 (fun _ h9 => h9) rfl dX8_child_49 ?_
        refine lv_iload_n hx hb dX8_child_52 rfl (lv_at hl 2 rfl) ?_
        obtain ⟨hin, hw⟩ := hw
        refine va_iald hx hb hK hP 0 0 rfl rfl hin dX8_child_53 ?_
        refine lv_i2l hx hb dX8_child_54 rfl ?_
        refine lv_iload_n hx hb dX8_child_55 rfl (lv_at hl 3 rfl) ?_
        refine lv_if_ne (tgt := 66) hx hb dX8_child_56 (by decide) (fun k => ?_) (fun k => ?_)
        · have hw := hw.1 k
          refine lv_aload_n hx hb dX8_child_66 rfl (lv_at hl 0 rfl) ?_
          refine va_get (D := D) (ci := 8) (v := .long f_rightAbove_43) (C := RX8) (T := TX8) (N := 35) hx hb hts hi9 hown hK hP 3 rfl rfl 9 (by decide) g39 (fun _ h9 => h9) rfl dX8_child_67 ?_
          obtain ⟨hP, hD⟩ := k_sub (ws' := [((rf 0), o8 rf f_terms_40 f_runs_40 f_leftAbove_43 f_leftBelow_43 f_rightAbove_43 f_rightBelow_43 f_listed f_fed f_read f_formed f_hasSnapshot), ((rf 1), ai cI 8 f_above), ((rf 2), ai cI 8 f_below), ((rf 3), ai cI 64 f_term_40), ((rf 4), ai cI 64 f_run_40), ((rf 5), ai cI 64 f_isRight_40)]) hP hD [3, 0, 1, 2, 4, 5] rfl rfl
          exact JOIN_70 f_terms_40 f_runs_40 f_leftAbove_43 f_leftBelow_43 f_rightAbove_43 f_rightBelow_43 f_above f_below f_term_40 f_run_40 f_isRight_40 f_rightAbove_43 ((f_above v2.toNatClampNeg).toInt64) v1 _ _ ls hw hP hD hS (lv_sub hl [0, 2, 3] rfl)
        · have hw := hw.2 k
          refine lv_aload_n hx hb dX8_child_59 rfl (lv_at hl 0 rfl) ?_
          refine va_get (D := D) (ci := 8) (v := .long f_leftAbove_43) (C := RX8) (T := TX8) (N := 35) hx hb hts hi9 hown hK hP 3 rfl rfl 7 (by decide) g32 (fun _ h9 => h9) rfl dX8_child_60 ?_
          refine lv_goto (tgt := 70) hx hb dX8_child_63 (by decide) ?_
          obtain ⟨hP, hD⟩ := k_sub (ws' := [((rf 0), o8 rf f_terms_40 f_runs_40 f_leftAbove_43 f_leftBelow_43 f_rightAbove_43 f_rightBelow_43 f_listed f_fed f_read f_formed f_hasSnapshot), ((rf 1), ai cI 8 f_above), ((rf 2), ai cI 8 f_below), ((rf 3), ai cI 64 f_term_40), ((rf 4), ai cI 64 f_run_40), ((rf 5), ai cI 64 f_isRight_40)]) hP hD [3, 0, 1, 2, 4, 5] rfl rfl
          exact JOIN_70 f_terms_40 f_runs_40 f_leftAbove_43 f_leftBelow_43 f_rightAbove_43 f_rightBelow_43 f_above f_below f_term_40 f_run_40 f_isRight_40 f_leftAbove_43 ((f_above v2.toNatClampNeg).toInt64) v1 _ _ ls hw hP hD hS (lv_sub hl [0, 2, 3] rfl)
      · have hw := hw.2 k
        refine lv_iconst (v := (-1 : Int32)) hx hb dX8_child_24 (by decide) ?_
        exact RET _ _ _ (f_terms, f_runs, f_leftAbove, f_leftBelow, f_rightAbove, f_rightBelow, f_above, f_below, f_term, f_run, f_isRight) _ _ hw hP hD hS dX8_child_25
