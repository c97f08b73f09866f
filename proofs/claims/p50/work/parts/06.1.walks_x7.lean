abbrev rm7_isRegister : Room := { frames := 0, cells := 0, slots := 0, locals := 0 }
theorem nm7_isRegister : kNm yX7_isRegister 1 := by decide +kernel
set_option maxHeartbeats 4000000 in
set_option maxRecDepth 100000 in
theorem c7_isRegister (l : Launch) (D : va_G) (cI cJ cN cR : ClassId)   (v0 : Int32) (post : Int32 → Prop) (hw : w7_isRegister v0 post) : Met l yX7_isRegister wsX7_isRegister rm7_isRegister (kR D (kT cI cJ cN cR) [.int v0] []) (vp_Si (fun (r : Int32) => narrow .boolean (.int r) = .int r ∧ post r)) 0 0 (fun _ => False) := by
  refine kMetRZ (cc := cX7_isRegister) (maxL := 1) (by decide +kernel) rfl (Nat.le_of_ble_eq_true rfl) ?_
  intro p e s m args below meth c H ls Q C0 hK hN hP hl RET
  obtain ⟨hx, hb, hml, hown, hts⟩ := id C0
  have hl : lv_has ls 1 [(0, .int v0)] := hl
  unfold w7_isRegister at hw
  refine lv_iload_n hx hb dX7_isRegister_0 rfl (lv_at hl 0 rfl) ?_
  refine lv_if_lt (tgt := 14) hx hb dX7_isRegister_1 (by decide) (fun k => ?_) (fun k => ?_)
  · have hw := hw.1 k
    refine lv_iconst (v := (0 : Int32)) hx hb dX7_isRegister_14 (by decide) ?_
    exact RET _ _ _ rfl hw dX7_isRegister_15
  · have hw := hw.2 k
    refine lv_iload_n hx hb dX7_isRegister_4 rfl (lv_at hl 0 rfl) ?_
    refine lv_bipush (v := (8 : Int32)) hx hb dX7_isRegister_5 (by decide) ?_
    refine lv_icmp_ge (tgt := 14) hx hb dX7_isRegister_7 (by decide) (fun k => ?_) (fun k => ?_)
    · have hw := hw.1 k
      refine lv_iconst (v := (0 : Int32)) hx hb dX7_isRegister_14 (by decide) ?_
      exact RET _ _ _ rfl hw dX7_isRegister_15
    · have hw := hw.2 k
      refine lv_iconst (v := (1 : Int32)) hx hb dX7_isRegister_10 (by decide) ?_
      refine lv_goto (tgt := 15) hx hb dX7_isRegister_11 (by decide) ?_
      exact RET _ _ _ rfl hw dX7_isRegister_15
abbrev rm7_isIn : Room := { frames := 0, cells := 0, slots := 0, locals := 0 }
theorem nm7_isIn : kNm yX7_isIn 3 := by decide +kernel
set_option maxHeartbeats 4000000 in
set_option maxRecDepth 100000 in
theorem c7_isIn (l : Launch) (D : va_G) (cI cJ cN cR : ClassId)   (v0 : Int32) (v1 : Int32) (v2 : Int32) (post : Int32 → Prop) (hw : w7_isIn v0 v1 v2 post) : Met l yX7_isIn wsX7_isIn rm7_isIn (kR D (kT cI cJ cN cR) [.int v0, .int v1, .int v2] []) (vp_Si (fun (r : Int32) => narrow .boolean (.int r) = .int r ∧ post r)) 0 0 (fun _ => False) := by
  refine kMetRZ (cc := cX7_isIn) (maxL := 3) (by decide +kernel) rfl (Nat.le_of_ble_eq_true rfl) ?_
  intro p e s m args below meth c H ls Q C0 hK hN hP hl RET
  obtain ⟨hx, hb, hml, hown, hts⟩ := id C0
  have hl : lv_has ls 3 [(0, .int v0), (1, .int v1), (2, .int v2)] := hl
  unfold w7_isIn at hw
  refine lv_iload_n hx hb dX7_isIn_0 rfl (lv_at hl 0 rfl) ?_
  refine lv_iload_n hx hb dX7_isIn_1 rfl (lv_at hl 1 rfl) ?_
  refine lv_icmp_lt (tgt := 14) hx hb dX7_isIn_2 (by decide) (fun k => ?_) (fun k => ?_)
  · have hw := hw.1 k
    refine lv_iconst (v := (0 : Int32)) hx hb dX7_isIn_14 (by decide) ?_
    exact RET _ _ _ rfl hw dX7_isIn_15
  · have hw := hw.2 k
    refine lv_iload_n hx hb dX7_isIn_5 rfl (lv_at hl 0 rfl) ?_
    refine lv_iload_n hx hb dX7_isIn_6 rfl (lv_at hl 2 rfl) ?_
    refine lv_icmp_gt (tgt := 14) hx hb dX7_isIn_7 (by decide) (fun k => ?_) (fun k => ?_)
    · have hw := hw.1 k
      refine lv_iconst (v := (0 : Int32)) hx hb dX7_isIn_14 (by decide) ?_
      exact RET _ _ _ rfl hw dX7_isIn_15
    · have hw := hw.2 k
      refine lv_iconst (v := (1 : Int32)) hx hb dX7_isIn_10 (by decide) ?_
      refine lv_goto (tgt := 15) hx hb dX7_isIn_11 (by decide) ?_
      exact RET _ _ _ rfl hw dX7_isIn_15
abbrev rm7_gcd : Room := { frames := 0, cells := 0, slots := 0, locals := 0 }
theorem nm7_gcd : kNm yX7_gcd 2 := by decide +kernel
set_option maxHeartbeats 4000000 in
set_option maxRecDepth 100000 in
theorem c7_gcd (l : Launch) (D : va_G) (cI cJ cN cR : ClassId)   (v0 : Int64) (v2 : Int64) (post : Int64 → Prop) (hw : w7_gcd v0 v2 post) : Met l yX7_gcd wsX7_gcd rm7_gcd (kR D (kT cI cJ cN cR) [.long v0, .long v2] []) (vp_Sl post) 0 0 (fun _ => False) := by
  refine kMetRL (cc := cX7_gcd) (maxL := 11) (by decide +kernel) rfl (Nat.le_of_ble_eq_true rfl) ?_
  intro p e s m args below meth c H ls Q C0 hK hN hP hl RET
  obtain ⟨hx, hb, hml, hown, hts⟩ := id C0
  have hl : lv_has ls 11 [(0, .long v0), (2, .long v2)] := hl
  unfold w7_gcd at hw
  refine lv_lload_n hx hb dX7_gcd_0 rfl (lv_at hl 0 rfl) ?_
  refine lv_lstore (lv' := [(4, .long v0), (0, .long v0), (2, .long v2)]) hx hb dX7_gcd_1 hl (by decide) rfl (fun ls hl => ?_)
  refine lv_lload_n hx hb dX7_gcd_3 rfl (lv_at hl 2 rfl) ?_
  refine lv_lstore (lv' := [(6, .long v2), (4, .long v0), (0, .long v0), (2, .long v2)]) hx hb dX7_gcd_4 hl (by decide) rfl (fun ls hl => ?_)
  refine lv_iconst (v := (0 : Int32)) hx hb dX7_gcd_6 (by decide) ?_
  refine lv_istore (lv' := [(8, .int (0 : Int32)), (6, .long v2), (4, .long v0), (0, .long v0), (2, .long v2)]) hx hb dX7_gcd_7 hl (by decide) rfl (fun ls hl => ?_)
  obtain ⟨n9, hw⟩ := hw
  have LOOP_9 : ∀ (n9 : Nat) (v4 : Int64) (v6 : Int64) (v8 : Int32) (ls : Array Slot), w7_gcd_L9 post n9 v4 v6 v8 → lv_has ls 11 [(4, .long v4), (6, .long v6), (8, .int v8)] → W p l e rm7_gcd s m args below meth c H [] 0 0 Q (F0 m 9 ls []) := by
    clear hw hl
    intro n9
    induction n9 with
    | zero =>
      intro v4 v6 v8 ls hw hl
      rw [w7_gcd_L9] at hw
      exact hw.elim
    | succ n9 ih9 =>
      intro v4 v6 v8 ls hw hl
      rw [w7_gcd_L9] at hw
      refine lv_iload hx hb dX7_gcd_9 (lv_at hl 2 rfl) ?_
      refine lv_sipush (v := (1000 : Int32)) hx hb dX7_gcd_11 (by decide) ?_
      refine lv_icmp_ge (tgt := 45) hx hb dX7_gcd_14 (by decide) (fun k => ?_) (fun k => ?_)
      · have hw := hw.1 k
        refine lv_lload hx hb dX7_gcd_45 (lv_at hl 0 rfl) ?_
        exact RET _ _ _ hw dX7_gcd_47
      · have hw := hw.2 k
        refine lv_lload hx hb dX7_gcd_17 (lv_at hl 1 rfl) ?_
        refine lv_lconst (v := (0 : Int64)) hx hb dX7_gcd_19 (by decide) ?_
        refine W.lcmp hx hb dX7_gcd_20 ?_
        refine lv_if_le (tgt := 45) hx hb dX7_gcd_21 (by decide) (fun k => ?_) (fun k => ?_)
        · have hw := hw.1 ((lg_cmp_le _ _).mp k)
          refine lv_lload hx hb dX7_gcd_45 (lv_at hl 0 rfl) ?_
          exact RET _ _ _ hw dX7_gcd_47
        · have hw := hw.2 (fun h => k ((lg_cmp_le _ _).mpr h))
          refine lv_lload hx hb dX7_gcd_24 (lv_at hl 0 rfl) ?_
          refine lv_lload hx hb dX7_gcd_26 (lv_at hl 1 rfl) ?_
          obtain ⟨hne, hw⟩ := hw
          refine lv_lrem hx hb dX7_gcd_28 hne ?_
          refine lv_topl (fun x29 ex29 => ?_)
          have hw := hw x29 ex29
          refine lv_lstore (lv' := [(9, .long x29), (4, .long v4), (6, .long v6), (8, .int v8)]) hx hb dX7_gcd_29 hl (by decide) rfl (fun ls hl => ?_)
          refine lv_lload hx hb dX7_gcd_31 (lv_at hl 2 rfl) ?_
          refine lv_lstore (lv' := [(4, .long v6), (9, .long x29), (6, .long v6), (8, .int v8)]) hx hb dX7_gcd_33 hl (by decide) rfl (fun ls hl => ?_)
          refine lv_lload hx hb dX7_gcd_35 (lv_at hl 1 rfl) ?_
          refine lv_lstore (lv' := [(6, .long x29), (4, .long v6), (9, .long x29), (8, .int v8)]) hx hb dX7_gcd_37 hl (by decide) rfl (fun ls hl => ?_)
          obtain ⟨x39, ex39⟩ : ∃ y : Int32, y = (v8 + (1 : Int32)) := ⟨_, rfl⟩
          have hw := hw x39 ex39
          refine lv_iinc (v := x39) (lv' := [(8, .int x39), (6, .long x29), (4, .long v6), (9, .long x29)]) hx hb dX7_gcd_39 hl (k := 3) rfl (by rw [ex39]; rfl) (by decide) rfl (fun ls hl => ?_)
          refine lv_goto (tgt := 9) hx hb dX7_gcd_42 (by decide) ?_
          exact ih9 v6 x29 x39 ls hw (lv_sub hl [2, 1, 0] rfl)
  exact LOOP_9 n9 v0 v2 (0 : Int32) ls hw (lv_sub hl [2, 1, 0] rfl)
abbrev rm7_store : Room := { frames := 1, cells := 0, slots := 0, locals := 30 }
theorem nm7_store : kNm yX7_store 3 := by decide +kernel
set_option maxHeartbeats 4000000 in
set_option maxRecDepth 100000 in
theorem c7_store (l : Launch) (D : va_G) (cI cJ cN cR : ClassId) (rf : Nat → Nat) (sz : Nat) (f_hasSnapshot : Int32) (f_termListSize : Int32) (f_textSize : Int32) (f_tops : (Nat → Int32)) (f_bottoms : (Nat → Int32)) (v1 : Int32) (v2 : Int64) (v4 : Int64) (post : Int32 → (Nat → Int32) → (Nat → Int32) → Prop) (hw : w7_store f_tops f_bottoms v1 v2 v4 post) : Met l yX7_store wsX7_store rm7_store (kP D (kT cI cJ cN cR) sz [.ref (rf 0), .int v1, .long v2, .long v4] [((rf 0), o7 rf f_hasSnapshot f_termListSize f_textSize), ((rf 1), ai cI 8 f_tops), ((rf 2), ai cI 8 f_bottoms)]) (kQi D [((rf 0), o7 rf f_hasSnapshot f_termListSize f_textSize), ((rf 1), ai cI 8 f_tops), ((rf 2), ai cI 8 f_bottoms)] sz (fun (r : Int32) (u : (Nat → Int32) × (Nat → Int32)) => post r u.1 u.2) (fun (u : (Nat → Int32) × (Nat → Int32)) => [((rf 0), o7 rf f_hasSnapshot f_termListSize f_textSize), ((rf 1), ai cI 8 u.1), ((rf 2), ai cI 8 u.2)])) 0 0 (va_A [((rf 0), o7 rf f_hasSnapshot f_termListSize f_textSize), ((rf 1), ai cI 8 f_tops), ((rf 2), ai cI 8 f_bottoms)] sz) := by
  refine kMetI (cc := cX7_store) (maxL := 12) (by decide +kernel) rfl (Nat.le_of_ble_eq_true rfl) ?_
  intro p e s m args below meth c H0 ls A Q C0 hK hN hP hD hS hA hl RET
  obtain ⟨hx, hb, hml, hown, hts⟩ := id C0
  have hl : lv_has ls 12 [(0, .ref (rf 0)), (1, .int v1), (2, .long v2), (4, .long v4)] := hl
  have g9 := hts (.fieldLink RX7 9 "SternBrocotExplorer" "tops" "[I") (by decide +kernel)
  have g13 := hts (.fieldLink RX7 13 "SternBrocotExplorer" "bottoms" "[I") (by decide +kernel)
  have hi9 : ∀ w ∈ wsX70, w ∈ wsX7_store := fun w h => List.mem_cons_of_mem _ (List.mem_append_right _ h)
  unfold w7_store at hw
  have hP : va_P D vwCl [((rf 0), o7 rf f_hasSnapshot f_termListSize f_textSize), ((rf 1), ai cI 8 f_tops), ((rf 2), ai cI 8 f_bottoms)] H0 := hP
  refine lv_lload_n hx hb dX7_store_0 rfl (lv_at hl 2 rfl) ?_
  refine lv_lload hx hb dX7_store_1 (lv_at hl 3 rfl) ?_
  refine kcRL (wc := []) hP [] rfl (fun hPc => oS (As := [.long v2, .long v4]) (rest := []) C0 hK hN (c7_gcd l D cI cJ cN cR   v2 v4 _ hw) 2 gX7_store_X7_gcd rfl ⟨rfl, rfl⟩ nm7_gcd ⟨Nat.le_of_ble_eq_true rfl, Nat.le_of_ble_eq_true rfl⟩ rfl hl.1 rfl (Nat.le_of_ble_eq_true rfl) dX7_store_3 ⟨Nat.le_of_ble_eq_true rfl, Nat.le_of_ble_eq_true rfl⟩ hPc) (fun r3 hw => ?_)
  refine lv_lstore (lv' := [(6, .long r3), (0, .ref (rf 0)), (1, .int v1), (2, .long v2), (4, .long v4)]) hx hb dX7_store_6 hl (by decide) rfl (fun ls hl => ?_)
  refine lv_lload_n hx hb dX7_store_8 rfl (lv_at hl 3 rfl) ?_
  refine lv_lload hx hb dX7_store_9 (lv_at hl 0 rfl) ?_
  refine kcRL (wc := []) hP [] rfl (fun hPc => oS (As := [.long v2, .long r3]) (rest := []) C0 hK hN (c7_quotient l D cI cJ cN cR   v2 r3 _ hw) 2 gX7_store_X7_quotient rfl ⟨rfl, rfl⟩ nm7_quotient ⟨Nat.le_of_ble_eq_true rfl, Nat.le_of_ble_eq_true rfl⟩ rfl hl.1 rfl (Nat.le_of_ble_eq_true rfl) dX7_store_11 ⟨Nat.le_of_ble_eq_true rfl, Nat.le_of_ble_eq_true rfl⟩ hPc) (fun r11 hw => ?_)
  refine lv_lstore (lv' := [(8, .long r11), (6, .long r3), (0, .ref (rf 0)), (1, .int v1), (2, .long v2), (4, .long v4)]) hx hb dX7_store_14 hl (by decide) rfl (fun ls hl => ?_)
  refine lv_lload hx hb dX7_store_16 (lv_at hl 5 rfl) ?_
  refine lv_lload hx hb dX7_store_18 (lv_at hl 1 rfl) ?_
  refine kcRL (wc := []) hP [] rfl (fun hPc => oS (As := [.long v4, .long r3]) (rest := []) C0 hK hN (c7_quotient l D cI cJ cN cR   v4 r3 _ hw) 2 gX7_store_X7_quotient rfl ⟨rfl, rfl⟩ nm7_quotient ⟨Nat.le_of_ble_eq_true rfl, Nat.le_of_ble_eq_true rfl⟩ rfl hl.1 rfl (Nat.le_of_ble_eq_true rfl) dX7_store_20 ⟨Nat.le_of_ble_eq_true rfl, Nat.le_of_ble_eq_true rfl⟩ hPc) (fun r20 hw => ?_)
  refine lv_lstore (lv' := [(10, .long r20), (8, .long r11), (6, .long r3), (0, .ref (rf 0)), (1, .int v1), (2, .long v2), (4, .long v4)]) hx hb dX7_store_23 hl (by decide) rfl (fun ls hl => ?_)
  refine lv_lload hx hb dX7_store_25 (lv_at hl 1 rfl) ?_
  refine lv_ldc2 (v := (1000000 : Int64)) hx hb hown (hts (.constantLong RX7 138 (1000000)) (by decide +kernel)) dX7_store_27 ?_
  refine W.lcmp hx hb dX7_store_30 ?_
  refine lv_if_gt (tgt := 43) hx hb dX7_store_31 (by decide) (fun k => ?_) (fun k => ?_)
  · have hw := hw.1 ((lg_cmp_gt _ _).mp k)
    refine lv_bipush (v := (-3 : Int32)) hx hb dX7_store_43 (by decide) ?_
    exact RET _ _ _ (f_tops, f_bottoms) _ _ hw hP hD hS dX7_store_45
  · have hw := hw.2 (fun h => k ((lg_cmp_gt _ _).mpr h))
    refine lv_lload hx hb dX7_store_34 (lv_at hl 0 rfl) ?_
    refine lv_ldc2 (v := (1000000 : Int64)) hx hb hown (hts (.constantLong RX7 138 (1000000)) (by decide +kernel)) dX7_store_36 ?_
    refine W.lcmp hx hb dX7_store_39 ?_
    refine lv_if_le (tgt := 46) hx hb dX7_store_40 (by decide) (fun k => ?_) (fun k => ?_)
    · have hw := hw.1 ((lg_cmp_le _ _).mp k)
      refine lv_aload_n hx hb dX7_store_46 rfl (lv_at hl 3 rfl) ?_
      refine va_get (D := D) (ci := 2) (v := .ref (rf 1)) (C := RX7) (T := TX7) (N := 16) hx hb hts hi9 hown hK hP 0 rfl rfl 0 (by decide) g9 (fun _ h9 => h9) rfl dX7_store_47 ?_
      refine lv_iload_n hx hb dX7_store_50 rfl (lv_at hl 4 rfl) ?_
      refine lv_lload hx hb dX7_store_51 (lv_at hl 1 rfl) ?_
      refine lv_l2i hx hb dX7_store_53 rfl ?_
      obtain ⟨hin, hw⟩ := hw
      refine va_iast hx hb hK hP hD hS 1 0 rfl rfl hin dX7_store_54 (fun H locs hP hD hS => ?_)
      have hP : va_P D vwCl [((rf 0), o7 rf f_hasSnapshot f_termListSize f_textSize), ((rf 1), ai cI 8 (upd f_tops v1.toNatClampNeg r11.toInt32)), ((rf 2), ai cI 8 f_bottoms)] H := hP
      have hD : va_D A [((rf 0), o7 rf f_hasSnapshot f_termListSize f_textSize), ((rf 1), ai cI 8 (upd f_tops v1.toNatClampNeg r11.toInt32)), ((rf 2), ai cI 8 f_bottoms)] := hD
      refine lv_aload_n hx hb dX7_store_55 rfl (lv_at hl 3 rfl) ?_
      refine va_get (D := D) (ci := 2) (v := .ref (rf 2)) (C := RX7) (T := TX7) (N := 16) hx hb hts hi9 hown hK hP 0 rfl rfl 1 (by decide) g13 (fun _ h9 => h9) rfl dX7_store_56 ?_
      refine lv_iload_n hx hb dX7_store_59 rfl (lv_at hl 4 rfl) ?_
      refine lv_lload hx hb dX7_store_60 (lv_at hl 0 rfl) ?_
      refine lv_l2i hx hb dX7_store_62 rfl ?_
      obtain ⟨hin, hw⟩ := hw
      refine va_iast hx hb hK hP hD hS 2 0 rfl rfl hin dX7_store_63 (fun H locs hP hD hS => ?_)
      have hP : va_P D vwCl [((rf 0), o7 rf f_hasSnapshot f_termListSize f_textSize), ((rf 1), ai cI 8 (upd f_tops v1.toNatClampNeg r11.toInt32)), ((rf 2), ai cI 8 (upd f_bottoms v1.toNatClampNeg r20.toInt32))] H := hP
      have hD : va_D A [((rf 0), o7 rf f_hasSnapshot f_termListSize f_textSize), ((rf 1), ai cI 8 (upd f_tops v1.toNatClampNeg r11.toInt32)), ((rf 2), ai cI 8 (upd f_bottoms v1.toNatClampNeg r20.toInt32))] := hD
      refine lv_iconst (v := (1 : Int32)) hx hb dX7_store_64 (by decide) ?_
      exact RET _ _ _ ((upd f_tops v1.toNatClampNeg r11.toInt32), (upd f_bottoms v1.toNatClampNeg r20.toInt32)) _ _ hw hP hD hS dX7_store_65
    · have hw := hw.2 (fun h => k ((lg_cmp_le _ _).mpr h))
      refine lv_bipush (v := (-3 : Int32)) hx hb dX7_store_43 (by decide) ?_
      exact RET _ _ _ (f_tops, f_bottoms) _ _ hw hP hD hS dX7_store_45
abbrev rm7_set : Room := { frames := 2, cells := 0, slots := 0, locals := 61 }
theorem nm7_set : kNm yX7_set 3 := by decide +kernel
set_option maxHeartbeats 4000000 in
set_option maxRecDepth 100000 in
theorem c7_set (l : Launch) (D : va_G) (cI cJ cN cR : ClassId) (rf : Nat → Nat) (sz : Nat) (f_hasSnapshot : Int32) (f_termListSize : Int32) (f_textSize : Int32) (f_tops : (Nat → Int32)) (f_bottoms : (Nat → Int32)) (v1 : Int32) (v2 : Int32) (v3 : Int32) (post : Int32 → (Nat → Int32) → (Nat → Int32) → Prop) (hw : w7_set f_tops f_bottoms v1 v2 v3 post) : Met l yX7_set wsX7_set rm7_set (kP D (kT cI cJ cN cR) sz [.ref (rf 0), .int v1, .int v2, .int v3] [((rf 0), o7 rf f_hasSnapshot f_termListSize f_textSize), ((rf 1), ai cI 8 f_tops), ((rf 2), ai cI 8 f_bottoms)]) (kQi D [((rf 0), o7 rf f_hasSnapshot f_termListSize f_textSize), ((rf 1), ai cI 8 f_tops), ((rf 2), ai cI 8 f_bottoms)] sz (fun (r : Int32) (u : (Nat → Int32) × (Nat → Int32)) => post r u.1 u.2) (fun (u : (Nat → Int32) × (Nat → Int32)) => [((rf 0), o7 rf f_hasSnapshot f_termListSize f_textSize), ((rf 1), ai cI 8 u.1), ((rf 2), ai cI 8 u.2)])) 0 0 (va_A [((rf 0), o7 rf f_hasSnapshot f_termListSize f_textSize), ((rf 1), ai cI 8 f_tops), ((rf 2), ai cI 8 f_bottoms)] sz) := by
  refine kMetI (cc := cX7_set) (maxL := 4) (by decide +kernel) rfl (Nat.le_of_ble_eq_true rfl) ?_
  intro p e s m args below meth c H0 ls A Q C0 hK hN hP hD hS hA hl RET
  obtain ⟨hx, hb, hml, hown, hts⟩ := id C0
  have hl : lv_has ls 4 [(0, .ref (rf 0)), (1, .int v1), (2, .int v2), (3, .int v3)] := hl
  unfold w7_set at hw
  have hP : va_P D vwCl [((rf 0), o7 rf f_hasSnapshot f_termListSize f_textSize), ((rf 1), ai cI 8 f_tops), ((rf 2), ai cI 8 f_bottoms)] H0 := hP
  refine lv_iload_n hx hb dX7_set_0 rfl (lv_at hl 1 rfl) ?_
  refine kcRI (wc := []) hP [] rfl (fun hPc => oS (As := [.int v1]) (rest := []) C0 hK hN (c7_isRegister l D cI cJ cN cR   v1 _ hw) 1 gX7_set_X7_isRegister rfl ⟨rfl, rfl⟩ nm7_isRegister ⟨Nat.le_of_ble_eq_true rfl, Nat.le_of_ble_eq_true rfl⟩ rfl hl.1 rfl (Nat.le_of_ble_eq_true rfl) dX7_set_1 ⟨Nat.le_of_ble_eq_true rfl, Nat.le_of_ble_eq_true rfl⟩ hPc) (fun r1 hw => ?_)
  obtain ⟨nb1, hw⟩ := hw
  refine lv_if_eq (tgt := 27) hx hb dX7_set_4 (by decide) (fun k => ?_) (fun k => ?_)
  · have hw := hw.1 k
    refine lv_iconst (v := (-1 : Int32)) hx hb dX7_set_27 (by decide) ?_
    exact RET _ _ _ (f_tops, f_bottoms) _ _ hw hP hD hS dX7_set_28
  · have hw := hw.2 k
    refine lv_iload_n hx hb dX7_set_7 rfl (lv_at hl 2 rfl) ?_
    refine lv_iconst (v := (1 : Int32)) hx hb dX7_set_8 (by decide) ?_
    refine lv_ldc (v := (1000000 : Int32)) hx hb hown (hts (.constant RX7 66 (1000000)) (by decide +kernel)) dX7_set_9 ?_
    refine kcRI (wc := []) hP [] rfl (fun hPc => oS (As := [.int v2, .int (1 : Int32), .int (1000000 : Int32)]) (rest := []) C0 hK hN (c7_isIn l D cI cJ cN cR   v2 (1 : Int32) (1000000 : Int32) _ hw) 3 gX7_set_X7_isIn rfl ⟨rfl, rfl⟩ nm7_isIn ⟨Nat.le_of_ble_eq_true rfl, Nat.le_of_ble_eq_true rfl⟩ rfl hl.1 rfl (Nat.le_of_ble_eq_true rfl) dX7_set_11 ⟨Nat.le_of_ble_eq_true rfl, Nat.le_of_ble_eq_true rfl⟩ hPc) (fun r11 hw => ?_)
    obtain ⟨nb11, hw⟩ := hw
    refine lv_if_eq (tgt := 27) hx hb dX7_set_14 (by decide) (fun k => ?_) (fun k => ?_)
    · have hw := hw.1 k
      refine lv_iconst (v := (-1 : Int32)) hx hb dX7_set_27 (by decide) ?_
      exact RET _ _ _ (f_tops, f_bottoms) _ _ hw hP hD hS dX7_set_28
    · have hw := hw.2 k
      refine lv_iload_n hx hb dX7_set_17 rfl (lv_at hl 3 rfl) ?_
      refine lv_iconst (v := (1 : Int32)) hx hb dX7_set_18 (by decide) ?_
      refine lv_ldc (v := (1000000 : Int32)) hx hb hown (hts (.constant RX7 66 (1000000)) (by decide +kernel)) dX7_set_19 ?_
      refine kcRI (wc := []) hP [] rfl (fun hPc => oS (As := [.int v3, .int (1 : Int32), .int (1000000 : Int32)]) (rest := []) C0 hK hN (c7_isIn l D cI cJ cN cR   v3 (1 : Int32) (1000000 : Int32) _ hw) 3 gX7_set_X7_isIn rfl ⟨rfl, rfl⟩ nm7_isIn ⟨Nat.le_of_ble_eq_true rfl, Nat.le_of_ble_eq_true rfl⟩ rfl hl.1 rfl (Nat.le_of_ble_eq_true rfl) dX7_set_21 ⟨Nat.le_of_ble_eq_true rfl, Nat.le_of_ble_eq_true rfl⟩ hPc) (fun r21 hw => ?_)
      obtain ⟨nb21, hw⟩ := hw
      refine lv_if_ne (tgt := 29) hx hb dX7_set_24 (by decide) (fun k => ?_) (fun k => ?_)
      · have hw := hw.1 k
        refine lv_aload_n hx hb dX7_set_29 rfl (lv_at hl 0 rfl) ?_
        refine lv_iload_n hx hb dX7_set_30 rfl (lv_at hl 1 rfl) ?_
        refine lv_iload_n hx hb dX7_set_31 rfl (lv_at hl 2 rfl) ?_
        refine lv_i2l hx hb dX7_set_32 rfl ?_
        refine lv_iload_n hx hb dX7_set_33 rfl (lv_at hl 3 rfl) ?_
        refine lv_i2l hx hb dX7_set_34 rfl ?_
        refine kcI (wc := [((rf 0), o7 rf f_hasSnapshot f_termListSize f_textSize), ((rf 1), ai cI 8 f_tops), ((rf 2), ai cI 8 f_bottoms)]) (wr := []) hP hD hS hA [0, 1, 2] [] rfl rfl ⟨rfl, rfl, by decide⟩ (fun hPc hDc => rV (As := [.int v1, .long v2.toInt64, .long v3.toInt64]) (rest := []) C0 hK hN (c7_store l D cI cJ cN cR rf H0.size f_hasSnapshot f_termListSize f_textSize f_tops f_bottoms v1 v2.toInt64 v3.toInt64 _ hw) 3 gX7_set_X7_store rfl ⟨rfl, rfl⟩ nm7_store ⟨Nat.le_of_ble_eq_true rfl, Nat.le_of_ble_eq_true rfl⟩ (q0 := 0) rfl rfl rfl rfl hl.1 rfl (Nat.le_of_ble_eq_true rfl) dX7_set_35 ⟨Nat.le_of_ble_eq_true rfl, Nat.le_of_ble_eq_true rfl⟩ hPc hDc) (fun r35 u35 H locs hw hP hD hS => ?_)
        obtain ⟨f_tops_35, f_bottoms_35⟩ := u35
        dsimp only at hw
        have hP : va_P D vwCl [((rf 0), o7 rf f_hasSnapshot f_termListSize f_textSize), ((rf 1), ai cI 8 f_tops_35), ((rf 2), ai cI 8 f_bottoms_35)] H := hP
        have hD : va_D A [((rf 0), o7 rf f_hasSnapshot f_termListSize f_textSize), ((rf 1), ai cI 8 f_tops_35), ((rf 2), ai cI 8 f_bottoms_35)] := hD
        exact RET _ _ _ (f_tops_35, f_bottoms_35) _ _ hw hP hD hS dX7_set_38
      · have hw := hw.2 k
        refine lv_iconst (v := (-1 : Int32)) hx hb dX7_set_27 (by decide) ?_
        exact RET _ _ _ (f_tops, f_bottoms) _ _ hw hP hD hS dX7_set_28
abbrev rm7_crossDifference : Room := { frames := 0, cells := 0, slots := 0, locals := 0 }
theorem nm7_crossDifference : kNm yX7_crossDifference 2 := by decide +kernel
set_option maxHeartbeats 4000000 in
set_option maxRecDepth 100000 in
theorem c7_crossDifference (l : Launch) (D : va_G) (cI cJ cN cR : ClassId) (rf : Nat → Nat) (f_hasSnapshot : Int32) (f_termListSize : Int32) (f_textSize : Int32) (f_tops : (Nat → Int32)) (f_bottoms : (Nat → Int32)) (v1 : Int32) (v2 : Int32) (post : Int64 → Prop) (hw : w7_crossDifference f_tops f_bottoms v1 v2 post) : Met l yX7_crossDifference wsX7_crossDifference rm7_crossDifference (kR D (kT cI cJ cN cR) [.ref (rf 0), .int v1, .int v2] [((rf 0), o7 rf f_hasSnapshot f_termListSize f_textSize), ((rf 1), ai cI 8 f_tops), ((rf 2), ai cI 8 f_bottoms)]) (vp_Sl post) 0 0 (fun _ => False) := by
  refine kMetRL (cc := cX7_crossDifference) (maxL := 3) (by decide +kernel) rfl (Nat.le_of_ble_eq_true rfl) ?_
  intro p e s m args below meth c H ls Q C0 hK hN hP hl RET
  obtain ⟨hx, hb, hml, hown, hts⟩ := id C0
  have hl : lv_has ls 3 [(0, .ref (rf 0)), (1, .int v1), (2, .int v2)] := hl
  have g9 := hts (.fieldLink RX7 9 "SternBrocotExplorer" "tops" "[I") (by decide +kernel)
  have g13 := hts (.fieldLink RX7 13 "SternBrocotExplorer" "bottoms" "[I") (by decide +kernel)
  have hi9 : ∀ w ∈ wsX70, w ∈ wsX7_crossDifference := fun w h => List.mem_cons_of_mem _ (List.mem_append_right _ h)
  unfold w7_crossDifference at hw
  refine lv_aload_n hx hb dX7_crossDifference_0 rfl (lv_at hl 0 rfl) ?_
  refine va_get (D := D) (ci := 2) (v := .ref (rf 1)) (C := RX7) (T := TX7) (N := 16) hx hb hts hi9 hown hK hP 0 rfl rfl 0 (by decide) g9 (fun _ h9 => h9) rfl dX7_crossDifference_1 ?_
  refine lv_iload_n hx hb dX7_crossDifference_4 rfl (lv_at hl 1 rfl) ?_
  obtain ⟨hin, hw⟩ := hw
  refine va_iald hx hb hK hP 1 0 rfl rfl hin dX7_crossDifference_5 ?_
  refine lv_i2l hx hb dX7_crossDifference_6 rfl ?_
  refine lv_aload_n hx hb dX7_crossDifference_7 rfl (lv_at hl 0 rfl) ?_
  refine va_get (D := D) (ci := 2) (v := .ref (rf 2)) (C := RX7) (T := TX7) (N := 16) hx hb hts hi9 hown hK hP 0 rfl rfl 1 (by decide) g13 (fun _ h9 => h9) rfl dX7_crossDifference_8 ?_
  refine lv_iload_n hx hb dX7_crossDifference_11 rfl (lv_at hl 2 rfl) ?_
  obtain ⟨hin, hw⟩ := hw
  refine va_iald hx hb hK hP 2 0 rfl rfl hin dX7_crossDifference_12 ?_
  refine lv_i2l hx hb dX7_crossDifference_13 rfl ?_
  refine lv_lmul hx hb dX7_crossDifference_14 ?_
  refine lv_aload_n hx hb dX7_crossDifference_15 rfl (lv_at hl 0 rfl) ?_
  refine va_get (D := D) (ci := 2) (v := .ref (rf 2)) (C := RX7) (T := TX7) (N := 16) hx hb hts hi9 hown hK hP 0 rfl rfl 1 (by decide) g13 (fun _ h9 => h9) rfl dX7_crossDifference_16 ?_
  refine lv_iload_n hx hb dX7_crossDifference_19 rfl (lv_at hl 1 rfl) ?_
  obtain ⟨hin, hw⟩ := hw
  refine va_iald hx hb hK hP 2 0 rfl rfl hin dX7_crossDifference_20 ?_
  refine lv_i2l hx hb dX7_crossDifference_21 rfl ?_
  refine lv_aload_n hx hb dX7_crossDifference_22 rfl (lv_at hl 0 rfl) ?_
  refine va_get (D := D) (ci := 2) (v := .ref (rf 1)) (C := RX7) (T := TX7) (N := 16) hx hb hts hi9 hown hK hP 0 rfl rfl 0 (by decide) g9 (fun _ h9 => h9) rfl dX7_crossDifference_23 ?_
  refine lv_iload_n hx hb dX7_crossDifference_26 rfl (lv_at hl 2 rfl) ?_
  obtain ⟨hin, hw⟩ := hw
  refine va_iald hx hb hK hP 1 0 rfl rfl hin dX7_crossDifference_27 ?_
  refine lv_i2l hx hb dX7_crossDifference_28 rfl ?_
  refine lv_lmul hx hb dX7_crossDifference_29 ?_
  refine lv_lsub hx hb dX7_crossDifference_30 ?_
  exact RET _ _ _ hw dX7_crossDifference_31
abbrev rm7_compare : Room := { frames := 1, cells := 0, slots := 0, locals := 22 }
theorem nm7_compare : kNm yX7_compare 2 := by decide +kernel
set_option maxHeartbeats 4000000 in
set_option maxRecDepth 100000 in
theorem c7_compare (l : Launch) (D : va_G) (cI cJ cN cR : ClassId) (rf : Nat → Nat) (f_hasSnapshot : Int32) (f_termListSize : Int32) (f_textSize : Int32) (f_tops : (Nat → Int32)) (f_bottoms : (Nat → Int32)) (v1 : Int32) (v2 : Int32) (post : Int32 → Prop) (hw : w7_compare f_tops f_bottoms v1 v2 post) : Met l yX7_compare wsX7_compare rm7_compare (kR D (kT cI cJ cN cR) [.ref (rf 0), .int v1, .int v2] [((rf 0), o7 rf f_hasSnapshot f_termListSize f_textSize), ((rf 1), ai cI 8 f_tops), ((rf 2), ai cI 8 f_bottoms)]) (vp_Si post) 0 0 (fun _ => False) := by
  refine kMetRI (cc := cX7_compare) (maxL := 5) (by decide +kernel) rfl (Nat.le_of_ble_eq_true rfl) ?_
  intro p e s m args below meth c H ls Q C0 hK hN hP hl RET
  obtain ⟨hx, hb, hml, hown, hts⟩ := id C0
  have hl : lv_has ls 5 [(0, .ref (rf 0)), (1, .int v1), (2, .int v2)] := hl
  unfold w7_compare at hw
  refine lv_iload_n hx hb dX7_compare_0 rfl (lv_at hl 1 rfl) ?_
  refine kcRI (wc := []) hP [] rfl (fun hPc => oS (As := [.int v1]) (rest := []) C0 hK hN (c7_isRegister l D cI cJ cN cR   v1 _ hw) 1 gX7_compare_X7_isRegister rfl ⟨rfl, rfl⟩ nm7_isRegister ⟨Nat.le_of_ble_eq_true rfl, Nat.le_of_ble_eq_true rfl⟩ rfl hl.1 rfl (Nat.le_of_ble_eq_true rfl) dX7_compare_1 ⟨Nat.le_of_ble_eq_true rfl, Nat.le_of_ble_eq_true rfl⟩ hPc) (fun r1 hw => ?_)
  obtain ⟨nb1, hw⟩ := hw
  refine lv_if_eq (tgt := 14) hx hb dX7_compare_4 (by decide) (fun k => ?_) (fun k => ?_)
  · have hw := hw.1 k
    refine lv_iconst (v := (-1 : Int32)) hx hb dX7_compare_14 (by decide) ?_
    exact RET _ _ _ hw dX7_compare_15
  · have hw := hw.2 k
    refine lv_iload_n hx hb dX7_compare_7 rfl (lv_at hl 2 rfl) ?_
    refine kcRI (wc := []) hP [] rfl (fun hPc => oS (As := [.int v2]) (rest := []) C0 hK hN (c7_isRegister l D cI cJ cN cR   v2 _ hw) 1 gX7_compare_X7_isRegister rfl ⟨rfl, rfl⟩ nm7_isRegister ⟨Nat.le_of_ble_eq_true rfl, Nat.le_of_ble_eq_true rfl⟩ rfl hl.1 rfl (Nat.le_of_ble_eq_true rfl) dX7_compare_8 ⟨Nat.le_of_ble_eq_true rfl, Nat.le_of_ble_eq_true rfl⟩ hPc) (fun r8 hw => ?_)
    obtain ⟨nb8, hw⟩ := hw
    refine lv_if_ne (tgt := 16) hx hb dX7_compare_11 (by decide) (fun k => ?_) (fun k => ?_)
    · have hw := hw.1 k
      refine lv_aload_n hx hb dX7_compare_16 rfl (lv_at hl 0 rfl) ?_
      refine lv_iload_n hx hb dX7_compare_17 rfl (lv_at hl 1 rfl) ?_
      refine lv_iload_n hx hb dX7_compare_18 rfl (lv_at hl 2 rfl) ?_
      refine kcRL (wc := [((rf 0), o7 rf f_hasSnapshot f_termListSize f_textSize), ((rf 1), ai cI 8 f_tops), ((rf 2), ai cI 8 f_bottoms)]) hP [0, 1, 2] rfl (fun hPc => oV (As := [.int v1, .int v2]) (rest := []) C0 hK hN (c7_crossDifference l D cI cJ cN cR rf f_hasSnapshot f_termListSize f_textSize f_tops f_bottoms v1 v2 _ hw) 2 gX7_compare_X7_crossDifference rfl ⟨rfl, rfl⟩ nm7_crossDifference ⟨Nat.le_of_ble_eq_true rfl, Nat.le_of_ble_eq_true rfl⟩ (q0 := 0) rfl rfl rfl rfl hl.1 rfl (Nat.le_of_ble_eq_true rfl) dX7_compare_19 ⟨Nat.le_of_ble_eq_true rfl, Nat.le_of_ble_eq_true rfl⟩ hPc) (fun r19 hw => ?_)
      refine lv_lstore_n (lv' := [(3, .long r19), (0, .ref (rf 0)), (1, .int v1), (2, .int v2)]) hx hb dX7_compare_22 rfl hl (by decide) rfl (fun ls hl => ?_)
      refine lv_lload_n hx hb dX7_compare_23 rfl (lv_at hl 0 rfl) ?_
      refine lv_lconst (v := (0 : Int64)) hx hb dX7_compare_24 (by decide) ?_
      refine W.lcmp hx hb dX7_compare_25 ?_
      refine lv_if_ge (tgt := 31) hx hb dX7_compare_26 (by decide) (fun k => ?_) (fun k => ?_)
      · have hw := hw.1 ((lg_cmp_ge _ _).mp k)
        refine lv_lload_n hx hb dX7_compare_31 rfl (lv_at hl 0 rfl) ?_
        refine lv_lconst (v := (0 : Int64)) hx hb dX7_compare_32 (by decide) ?_
        refine W.lcmp hx hb dX7_compare_33 ?_
        refine lv_if_ne (tgt := 41) hx hb dX7_compare_34 (by decide) (fun k => ?_) (fun k => ?_)
        · have hw := hw.1 (fun h => k ((lg_cmp_eq _ _).mpr h))
          refine lv_iconst (v := (2 : Int32)) hx hb dX7_compare_41 (by decide) ?_
          exact RET _ _ _ hw dX7_compare_42
        · have hw := hw.2 ((lg_cmp_eq _ _).mp k)
          refine lv_iconst (v := (1 : Int32)) hx hb dX7_compare_37 (by decide) ?_
          refine lv_goto (tgt := 42) hx hb dX7_compare_38 (by decide) ?_
          exact RET _ _ _ hw dX7_compare_42
      · have hw := hw.2 (fun h => k ((lg_cmp_ge _ _).mpr h))
        refine lv_iconst (v := (0 : Int32)) hx hb dX7_compare_29 (by decide) ?_
        exact RET _ _ _ hw dX7_compare_30
    · have hw := hw.2 k
      refine lv_iconst (v := (-1 : Int32)) hx hb dX7_compare_14 (by decide) ?_
      exact RET _ _ _ hw dX7_compare_15
abbrev rm7_expand : Room := { frames := 2, cells := 0, slots := 0, locals := 47 }
theorem nm7_expand : kNm yX7_expand 1 := by decide +kernel
set_option maxHeartbeats 4000000 in
set_option maxRecDepth 100000 in
theorem c7_expand (l : Launch) (D : va_G) (cI cJ cN cR : ClassId) (rf : Nat → Nat) (sz : Nat) (f_hasSnapshot : Int32) (f_termListSize : Int32) (f_textSize : Int32) (f_tops : (Nat → Int32)) (f_bottoms : (Nat → Int32)) (f_E_size : Int32) (f_E_leftTop : Int64) (f_E_leftBottom : Int64) (f_E_rightTop : Int64) (f_E_rightBottom : Int64) (f_E_terms : (Nat → Int32)) (v1 : Int32) (post : Int32 → (Nat → Int32) → Prop) (hw : w7_expand f_tops f_bottoms f_E_size f_E_terms v1 post) : Met l yX7_expand wsX7_expand rm7_expand (kP D (kT cI cJ cN cR) sz [.ref (rf 0), .int v1] [((rf 0), o7 rf f_hasSnapshot f_termListSize f_textSize), ((rf 1), ai cI 8 f_tops), ((rf 2), ai cI 8 f_bottoms), ((rf 14), o1 (rf 17) f_E_size f_E_leftTop f_E_leftBottom f_E_rightTop f_E_rightBottom), ((rf 17), ai cI 64 f_E_terms)]) (kQr D [((rf 0), o7 rf f_hasSnapshot f_termListSize f_textSize), ((rf 1), ai cI 8 f_tops), ((rf 2), ai cI 8 f_bottoms), ((rf 14), o1 (rf 17) f_E_size f_E_leftTop f_E_leftBottom f_E_rightTop f_E_rightBottom), ((rf 17), ai cI 64 f_E_terms)] sz (rf 14) (fun (u : Int32 × (Nat → Int32)) => post u.1 u.2) (fun (u : Int32 × (Nat → Int32)) => [((rf 0), o7 rf f_hasSnapshot f_termListSize f_textSize), ((rf 1), ai cI 8 f_tops), ((rf 2), ai cI 8 f_bottoms), ((rf 14), o1 (rf 17) u.1 f_E_leftTop f_E_leftBottom f_E_rightTop f_E_rightBottom), ((rf 17), ai cI 64 u.2)])) 0 0 (va_A [((rf 0), o7 rf f_hasSnapshot f_termListSize f_textSize), ((rf 1), ai cI 8 f_tops), ((rf 2), ai cI 8 f_bottoms), ((rf 14), o1 (rf 17) f_E_size f_E_leftTop f_E_leftBottom f_E_rightTop f_E_rightBottom), ((rf 17), ai cI 64 f_E_terms)] sz) := by
  refine kMetR (cc := cX7_expand) (maxL := 2) (by decide +kernel) rfl (Nat.le_of_ble_eq_true rfl) ?_
  intro p e s m args below meth c H0 ls A Q C0 hK hN hP hD hS hA hl RET
  obtain ⟨hx, hb, hml, hown, hts⟩ := id C0
  have hl : lv_has ls 2 [(0, .ref (rf 0)), (1, .int v1)] := hl
  have g48 := hts (.fieldLink RX7 48 "SternBrocotExplorer" "expansion" "LSternBrocotExplorer$Expansion;") (by decide +kernel)
  have g9 := hts (.fieldLink RX7 9 "SternBrocotExplorer" "tops" "[I") (by decide +kernel)
  have g13 := hts (.fieldLink RX7 13 "SternBrocotExplorer" "bottoms" "[I") (by decide +kernel)
  have hi9 : ∀ w ∈ wsX70, w ∈ wsX7_expand := fun w h => List.mem_cons_of_mem _ (List.mem_append_left _ (List.mem_append_right _ h))
  unfold w7_expand at hw
  have hP : va_P D vwCl [((rf 0), o7 rf f_hasSnapshot f_termListSize f_textSize), ((rf 1), ai cI 8 f_tops), ((rf 2), ai cI 8 f_bottoms), ((rf 14), o1 (rf 17) f_E_size f_E_leftTop f_E_leftBottom f_E_rightTop f_E_rightBottom), ((rf 17), ai cI 64 f_E_terms)] H0 := hP
  refine lv_aload_n hx hb dX7_expand_0 rfl (lv_at hl 0 rfl) ?_
  refine va_get (D := D) (ci := 2) (v := .ref (rf 14)) (C := RX7) (T := TX7) (N := 16) hx hb hts hi9 hown hK hP 0 rfl rfl 13 (by decide) g48 (fun _ h9 => h9) rfl dX7_expand_1 ?_
  refine lv_aload_n hx hb dX7_expand_4 rfl (lv_at hl 0 rfl) ?_
  refine va_get (D := D) (ci := 2) (v := .ref (rf 1)) (C := RX7) (T := TX7) (N := 16) hx hb hts hi9 hown hK hP 0 rfl rfl 0 (by decide) g9 (fun _ h9 => h9) rfl dX7_expand_5 ?_
  refine lv_iload_n hx hb dX7_expand_8 rfl (lv_at hl 1 rfl) ?_
  obtain ⟨hin, hw⟩ := hw
  refine va_iald hx hb hK hP 1 0 rfl rfl hin dX7_expand_9 ?_
  refine lv_aload_n hx hb dX7_expand_10 rfl (lv_at hl 0 rfl) ?_
  refine va_get (D := D) (ci := 2) (v := .ref (rf 2)) (C := RX7) (T := TX7) (N := 16) hx hb hts hi9 hown hK hP 0 rfl rfl 1 (by decide) g13 (fun _ h9 => h9) rfl dX7_expand_11 ?_
  refine lv_iload_n hx hb dX7_expand_14 rfl (lv_at hl 1 rfl) ?_
  obtain ⟨hin, hw⟩ := hw
  refine va_iald hx hb hK hP 2 0 rfl rfl hin dX7_expand_15 ?_
  refine kcV (wc := [((rf 14), o1 (rf 17) f_E_size f_E_leftTop f_E_leftBottom f_E_rightTop f_E_rightBottom), ((rf 17), ai cI 64 f_E_terms)]) (wr := [((rf 0), o7 rf f_hasSnapshot f_termListSize f_textSize), ((rf 1), ai cI 8 f_tops), ((rf 2), ai cI 8 f_bottoms)]) hP hD hS hA [3, 4] [0, 1, 2] rfl rfl ⟨rfl, rfl, by decide⟩ (fun hPc hDc => rV (As := [.int (f_tops v1.toNatClampNeg), .int (f_bottoms v1.toNatClampNeg)]) (rest := []) C0 hK hN (c1_expand l D cI cJ cN cR (rf 14) (rf 17) H0.size f_E_size f_E_leftTop f_E_leftBottom f_E_rightTop f_E_rightBottom f_E_terms (f_tops v1.toNatClampNeg) (f_bottoms v1.toNatClampNeg) _ hw) 2 gX7_expand_X1_expand rfl ⟨rfl, rfl⟩ nm1_expand ⟨Nat.le_of_ble_eq_true rfl, Nat.le_of_ble_eq_true rfl⟩ (q0 := 0) rfl rfl rfl rfl hl.1 rfl (Nat.le_of_ble_eq_true rfl) dX7_expand_16 ⟨Nat.le_of_ble_eq_true rfl, Nat.le_of_ble_eq_true rfl⟩ hPc hDc) (fun u16 H locs hw hP hD hS => ?_)
  obtain ⟨f_E_size_16, f_E_terms_16⟩ := u16
  dsimp only at hw
  have hP : va_P D vwCl [((rf 0), o7 rf f_hasSnapshot f_termListSize f_textSize), ((rf 1), ai cI 8 f_tops), ((rf 2), ai cI 8 f_bottoms), ((rf 14), o1 (rf 17) f_E_size_16 f_E_leftTop f_E_leftBottom f_E_rightTop f_E_rightBottom), ((rf 17), ai cI 64 f_E_terms_16)] H := hP
  have hD : va_D A [((rf 0), o7 rf f_hasSnapshot f_termListSize f_textSize), ((rf 1), ai cI 8 f_tops), ((rf 2), ai cI 8 f_bottoms), ((rf 14), o1 (rf 17) f_E_size_16 f_E_leftTop f_E_leftBottom f_E_rightTop f_E_rightBottom), ((rf 17), ai cI 64 f_E_terms_16)] := hD
  refine lv_aload_n hx hb dX7_expand_19 rfl (lv_at hl 0 rfl) ?_
  refine va_get (D := D) (ci := 2) (v := .ref (rf 14)) (C := RX7) (T := TX7) (N := 16) hx hb hts hi9 hown hK hP 0 rfl rfl 13 (by decide) g48 (fun _ h9 => h9) rfl dX7_expand_20 ?_
  exact RET _ _ (f_E_size_16, f_E_terms_16) _ _ hw hP hD hS dX7_expand_23
abbrev rm7_depth : Room := { frames := 3, cells := 0, slots := 0, locals := 68 }
theorem nm7_depth : kNm yX7_depth 1 := by decide +kernel
set_option maxHeartbeats 4000000 in
set_option maxRecDepth 100000 in
theorem c7_depth (l : Launch) (D : va_G) (cI cJ cN cR : ClassId) (rf : Nat → Nat) (sz : Nat) (f_hasSnapshot : Int32) (f_termListSize : Int32) (f_textSize : Int32) (f_tops : (Nat → Int32)) (f_bottoms : (Nat → Int32)) (f_E_size : Int32) (f_E_leftTop : Int64) (f_E_leftBottom : Int64) (f_E_rightTop : Int64) (f_E_rightBottom : Int64) (f_E_terms : (Nat → Int32)) (v1 : Int32) (post : Int32 → Int32 → (Nat → Int32) → Prop) (hw : w7_depth f_tops f_bottoms f_E_size f_E_terms v1 post) : Met l yX7_depth wsX7_depth rm7_depth (kP D (kT cI cJ cN cR) sz [.ref (rf 0), .int v1] [((rf 0), o7 rf f_hasSnapshot f_termListSize f_textSize), ((rf 1), ai cI 8 f_tops), ((rf 2), ai cI 8 f_bottoms), ((rf 14), o1 (rf 17) f_E_size f_E_leftTop f_E_leftBottom f_E_rightTop f_E_rightBottom), ((rf 17), ai cI 64 f_E_terms)]) (kQi D [((rf 0), o7 rf f_hasSnapshot f_termListSize f_textSize), ((rf 1), ai cI 8 f_tops), ((rf 2), ai cI 8 f_bottoms), ((rf 14), o1 (rf 17) f_E_size f_E_leftTop f_E_leftBottom f_E_rightTop f_E_rightBottom), ((rf 17), ai cI 64 f_E_terms)] sz (fun (r : Int32) (u : Int32 × (Nat → Int32)) => post r u.1 u.2) (fun (u : Int32 × (Nat → Int32)) => [((rf 0), o7 rf f_hasSnapshot f_termListSize f_textSize), ((rf 1), ai cI 8 f_tops), ((rf 2), ai cI 8 f_bottoms), ((rf 14), o1 (rf 17) u.1 f_E_leftTop f_E_leftBottom f_E_rightTop f_E_rightBottom), ((rf 17), ai cI 64 u.2)])) 0 0 (va_A [((rf 0), o7 rf f_hasSnapshot f_termListSize f_textSize), ((rf 1), ai cI 8 f_tops), ((rf 2), ai cI 8 f_bottoms), ((rf 14), o1 (rf 17) f_E_size f_E_leftTop f_E_leftBottom f_E_rightTop f_E_rightBottom), ((rf 17), ai cI 64 f_E_terms)] sz) := by
  refine kMetI (cc := cX7_depth) (maxL := 2) (by decide +kernel) rfl (Nat.le_of_ble_eq_true rfl) ?_
  intro p e s m args below meth c H0 ls A Q C0 hK hN hP hD hS hA hl RET
  obtain ⟨hx, hb, hml, hown, hts⟩ := id C0
  have hl : lv_has ls 2 [(0, .ref (rf 0)), (1, .int v1)] := hl
  unfold w7_depth at hw
  have hP : va_P D vwCl [((rf 0), o7 rf f_hasSnapshot f_termListSize f_textSize), ((rf 1), ai cI 8 f_tops), ((rf 2), ai cI 8 f_bottoms), ((rf 14), o1 (rf 17) f_E_size f_E_leftTop f_E_leftBottom f_E_rightTop f_E_rightBottom), ((rf 17), ai cI 64 f_E_terms)] H0 := hP
  refine lv_iload_n hx hb dX7_depth_0 rfl (lv_at hl 1 rfl) ?_
  refine kcRI (wc := []) hP [] rfl (fun hPc => oS (As := [.int v1]) (rest := []) C0 hK hN (c7_isRegister l D cI cJ cN cR   v1 _ hw) 1 gX7_depth_X7_isRegister rfl ⟨rfl, rfl⟩ nm7_isRegister ⟨Nat.le_of_ble_eq_true rfl, Nat.le_of_ble_eq_true rfl⟩ rfl hl.1 rfl (Nat.le_of_ble_eq_true rfl) dX7_depth_1 ⟨Nat.le_of_ble_eq_true rfl, Nat.le_of_ble_eq_true rfl⟩ hPc) (fun r1 hw => ?_)
  obtain ⟨nb1, hw⟩ := hw
  refine lv_if_eq (tgt := 18) hx hb dX7_depth_4 (by decide) (fun k => ?_) (fun k => ?_)
  · have hw := hw.1 k
    refine lv_iconst (v := (-1 : Int32)) hx hb dX7_depth_18 (by decide) ?_
    exact RET _ _ _ (f_E_size, f_E_terms) _ _ hw hP hD hS dX7_depth_19
  · have hw := hw.2 k
    refine lv_aload_n hx hb dX7_depth_7 rfl (lv_at hl 0 rfl) ?_
    refine lv_iload_n hx hb dX7_depth_8 rfl (lv_at hl 1 rfl) ?_
    refine kcR (wc := [((rf 0), o7 rf f_hasSnapshot f_termListSize f_textSize), ((rf 1), ai cI 8 f_tops), ((rf 2), ai cI 8 f_bottoms), ((rf 14), o1 (rf 17) f_E_size f_E_leftTop f_E_leftBottom f_E_rightTop f_E_rightBottom), ((rf 17), ai cI 64 f_E_terms)]) (wr := []) hP hD hS hA [0, 1, 2, 3, 4] [] rfl rfl ⟨rfl, rfl, by decide⟩ (fun hPc hDc => rV (As := [.int v1]) (rest := []) C0 hK hN (c7_expand l D cI cJ cN cR rf H0.size f_hasSnapshot f_termListSize f_textSize f_tops f_bottoms f_E_size f_E_leftTop f_E_leftBottom f_E_rightTop f_E_rightBottom f_E_terms v1 _ hw) 1 gX7_depth_X7_expand rfl ⟨rfl, rfl⟩ nm7_expand ⟨Nat.le_of_ble_eq_true rfl, Nat.le_of_ble_eq_true rfl⟩ (q0 := 0) rfl rfl rfl rfl hl.1 rfl (Nat.le_of_ble_eq_true rfl) dX7_depth_9 ⟨Nat.le_of_ble_eq_true rfl, Nat.le_of_ble_eq_true rfl⟩ hPc hDc) (fun u9 H locs hw hP hD hS => ?_)
    obtain ⟨f_E_size_9, f_E_terms_9⟩ := u9
    dsimp only at hw
    have hP : va_P D vwCl [((rf 0), o7 rf f_hasSnapshot f_termListSize f_textSize), ((rf 1), ai cI 8 f_tops), ((rf 2), ai cI 8 f_bottoms), ((rf 14), o1 (rf 17) f_E_size_9 f_E_leftTop f_E_leftBottom f_E_rightTop f_E_rightBottom), ((rf 17), ai cI 64 f_E_terms_9)] H := hP
    have hD : va_D A [((rf 0), o7 rf f_hasSnapshot f_termListSize f_textSize), ((rf 1), ai cI 8 f_tops), ((rf 2), ai cI 8 f_bottoms), ((rf 14), o1 (rf 17) f_E_size_9 f_E_leftTop f_E_leftBottom f_E_rightTop f_E_rightBottom), ((rf 17), ai cI 64 f_E_terms_9)] := hD
    refine kcRI (wc := [((rf 14), o1 (rf 17) f_E_size_9 f_E_leftTop f_E_leftBottom f_E_rightTop f_E_rightBottom), ((rf 17), ai cI 64 f_E_terms_9)]) hP [3, 4] rfl (fun hPc => oV (As := []) (rest := []) C0 hK hN (c1_stepCount l D cI cJ cN cR (rf 14) (rf 17) f_E_size_9 f_E_leftTop f_E_leftBottom f_E_rightTop f_E_rightBottom f_E_terms_9  _ hw) 0 gX7_depth_X1_stepCount rfl ⟨rfl, rfl⟩ nm1_stepCount ⟨Nat.le_of_ble_eq_true rfl, Nat.le_of_ble_eq_true rfl⟩ (q0 := 0) rfl rfl rfl rfl hl.1 rfl (Nat.le_of_ble_eq_true rfl) dX7_depth_12 ⟨Nat.le_of_ble_eq_true rfl, Nat.le_of_ble_eq_true rfl⟩ hPc) (fun r12 hw => ?_)
    refine lv_goto (tgt := 19) hx hb dX7_depth_15 (by decide) ?_
    exact RET _ _ _ (f_E_size_9, f_E_terms_9) _ _ hw hP hD hS dX7_depth_19
abbrev rm7_storeConvergent : Room := { frames := 2, cells := 0, slots := 0, locals := 61 }
theorem nm7_storeConvergent : kNm yX7_storeConvergent 3 := by decide +kernel
set_option maxHeartbeats 4000000 in
set_option maxRecDepth 100000 in
theorem c7_storeConvergent (l : Launch) (D : va_G) (cI cJ cN cR : ClassId) (rf : Nat → Nat) (g0 : Nat) (g1 : Nat) (sz : Nat) (f_hasSnapshot : Int32) (f_termListSize : Int32) (f_textSize : Int32) (f_tops : (Nat → Int32)) (f_bottoms : (Nat → Int32)) (f_P_size : Int32) (f_P_leftTop : Int64) (f_P_leftBottom : Int64) (f_P_rightTop : Int64) (f_P_rightBottom : Int64) (f_P_terms : (Nat → Int32)) (v1 : Int32) (v3 : Int32) (post : Int32 → (Nat → Int32) → (Nat → Int32) → Prop) (hw : w7_storeConvergent f_tops f_bottoms f_P_size f_P_terms v1 v3 post) : Met l yX7_storeConvergent wsX7_storeConvergent rm7_storeConvergent (kP D (kT cI cJ cN cR) sz [.ref (rf 0), .int v1, .ref g0, .int v3] [((rf 0), o7 rf f_hasSnapshot f_termListSize f_textSize), ((rf 1), ai cI 8 f_tops), ((rf 2), ai cI 8 f_bottoms), (g0, o1 g1 f_P_size f_P_leftTop f_P_leftBottom f_P_rightTop f_P_rightBottom), (g1, ai cI 64 f_P_terms)]) (kQi D [((rf 0), o7 rf f_hasSnapshot f_termListSize f_textSize), ((rf 1), ai cI 8 f_tops), ((rf 2), ai cI 8 f_bottoms), (g0, o1 g1 f_P_size f_P_leftTop f_P_leftBottom f_P_rightTop f_P_rightBottom), (g1, ai cI 64 f_P_terms)] sz (fun (r : Int32) (u : (Nat → Int32) × (Nat → Int32)) => post r u.1 u.2) (fun (u : (Nat → Int32) × (Nat → Int32)) => [((rf 0), o7 rf f_hasSnapshot f_termListSize f_textSize), ((rf 1), ai cI 8 u.1), ((rf 2), ai cI 8 u.2), (g0, o1 g1 f_P_size f_P_leftTop f_P_leftBottom f_P_rightTop f_P_rightBottom), (g1, ai cI 64 f_P_terms)])) 0 0 (va_A [((rf 0), o7 rf f_hasSnapshot f_termListSize f_textSize), ((rf 1), ai cI 8 f_tops), ((rf 2), ai cI 8 f_bottoms), (g0, o1 g1 f_P_size f_P_leftTop f_P_leftBottom f_P_rightTop f_P_rightBottom), (g1, ai cI 64 f_P_terms)] sz) := by
  refine kMetI (cc := cX7_storeConvergent) (maxL := 4) (by decide +kernel) rfl (Nat.le_of_ble_eq_true rfl) ?_
  intro p e s m args below meth c H0 ls A Q C0 hK hN hP hD hS hA hl RET
  obtain ⟨hx, hb, hml, hown, hts⟩ := id C0
  have hl : lv_has ls 4 [(0, .ref (rf 0)), (1, .int v1), (2, .ref g0), (3, .int v3)] := hl
  unfold w7_storeConvergent at hw
  have hP : va_P D vwCl [((rf 0), o7 rf f_hasSnapshot f_termListSize f_textSize), ((rf 1), ai cI 8 f_tops), ((rf 2), ai cI 8 f_bottoms), (g0, o1 g1 f_P_size f_P_leftTop f_P_leftBottom f_P_rightTop f_P_rightBottom), (g1, ai cI 64 f_P_terms)] H0 := hP
  refine lv_aload_n hx hb dX7_storeConvergent_0 rfl (lv_at hl 0 rfl) ?_
  refine lv_iload_n hx hb dX7_storeConvergent_1 rfl (lv_at hl 1 rfl) ?_
  refine lv_aload_n hx hb dX7_storeConvergent_2 rfl (lv_at hl 2 rfl) ?_
  refine lv_iload_n hx hb dX7_storeConvergent_3 rfl (lv_at hl 3 rfl) ?_
  refine kcRL (wc := [(g0, o1 g1 f_P_size f_P_leftTop f_P_leftBottom f_P_rightTop f_P_rightBottom), (g1, ai cI 64 f_P_terms)]) hP [3, 4] rfl (fun hPc => oV (As := [.int v3]) (rest := [.int v1, .ref (rf 0)]) C0 hK hN (c1_convergentTop l D cI cJ cN cR g0 g1 f_P_size f_P_leftTop f_P_leftBottom f_P_rightTop f_P_rightBottom f_P_terms v3 _ hw) 1 gX7_storeConvergent_X1_convergentTop rfl ⟨rfl, rfl⟩ nm1_convergentTop ⟨Nat.le_of_ble_eq_true rfl, Nat.le_of_ble_eq_true rfl⟩ (q0 := 0) rfl rfl rfl rfl hl.1 rfl (Nat.le_of_ble_eq_true rfl) dX7_storeConvergent_4 ⟨Nat.le_of_ble_eq_true rfl, Nat.le_of_ble_eq_true rfl⟩ hPc) (fun r4 hw => ?_)
  refine lv_aload_n hx hb dX7_storeConvergent_7 rfl (lv_at hl 2 rfl) ?_
  refine lv_iload_n hx hb dX7_storeConvergent_8 rfl (lv_at hl 3 rfl) ?_
  refine kcRL (wc := [(g0, o1 g1 f_P_size f_P_leftTop f_P_leftBottom f_P_rightTop f_P_rightBottom), (g1, ai cI 64 f_P_terms)]) hP [3, 4] rfl (fun hPc => oV (As := [.int v3]) (rest := [.long r4, .int v1, .ref (rf 0)]) C0 hK hN (c1_convergentBottom l D cI cJ cN cR g0 g1 f_P_size f_P_leftTop f_P_leftBottom f_P_rightTop f_P_rightBottom f_P_terms v3 _ hw) 1 gX7_storeConvergent_X1_convergentBottom rfl ⟨rfl, rfl⟩ nm1_convergentBottom ⟨Nat.le_of_ble_eq_true rfl, Nat.le_of_ble_eq_true rfl⟩ (q0 := 0) rfl rfl rfl rfl hl.1 rfl (Nat.le_of_ble_eq_true rfl) dX7_storeConvergent_9 ⟨Nat.le_of_ble_eq_true rfl, Nat.le_of_ble_eq_true rfl⟩ hPc) (fun r9 hw => ?_)
  refine kcI (wc := [((rf 0), o7 rf f_hasSnapshot f_termListSize f_textSize), ((rf 1), ai cI 8 f_tops), ((rf 2), ai cI 8 f_bottoms)]) (wr := [(g0, o1 g1 f_P_size f_P_leftTop f_P_leftBottom f_P_rightTop f_P_rightBottom), (g1, ai cI 64 f_P_terms)]) hP hD hS hA [0, 1, 2] [3, 4] rfl rfl ⟨rfl, rfl, by decide⟩ (fun hPc hDc => rV (As := [.int v1, .long r4, .long r9]) (rest := []) C0 hK hN (c7_store l D cI cJ cN cR rf H0.size f_hasSnapshot f_termListSize f_textSize f_tops f_bottoms v1 r4 r9 _ hw) 3 gX7_storeConvergent_X7_store rfl ⟨rfl, rfl⟩ nm7_store ⟨Nat.le_of_ble_eq_true rfl, Nat.le_of_ble_eq_true rfl⟩ (q0 := 0) rfl rfl rfl rfl hl.1 rfl (Nat.le_of_ble_eq_true rfl) dX7_storeConvergent_12 ⟨Nat.le_of_ble_eq_true rfl, Nat.le_of_ble_eq_true rfl⟩ hPc hDc) (fun r12 u12 H locs hw hP hD hS => ?_)
  obtain ⟨f_tops_12, f_bottoms_12⟩ := u12
  dsimp only at hw
  have hP : va_P D vwCl [(g0, o1 g1 f_P_size f_P_leftTop f_P_leftBottom f_P_rightTop f_P_rightBottom), (g1, ai cI 64 f_P_terms), ((rf 0), o7 rf f_hasSnapshot f_termListSize f_textSize), ((rf 1), ai cI 8 f_tops_12), ((rf 2), ai cI 8 f_bottoms_12)] H := hP
  have hD : va_D A [(g0, o1 g1 f_P_size f_P_leftTop f_P_leftBottom f_P_rightTop f_P_rightBottom), (g1, ai cI 64 f_P_terms), ((rf 0), o7 rf f_hasSnapshot f_termListSize f_textSize), ((rf 1), ai cI 8 f_tops_12), ((rf 2), ai cI 8 f_bottoms_12)] := hD
  obtain ⟨hP, hD⟩ := k_sub (ws' := [((rf 0), o7 rf f_hasSnapshot f_termListSize f_textSize), ((rf 1), ai cI 8 f_tops_12), ((rf 2), ai cI 8 f_bottoms_12), (g0, o1 g1 f_P_size f_P_leftTop f_P_leftBottom f_P_rightTop f_P_rightBottom), (g1, ai cI 64 f_P_terms)]) hP hD [2, 3, 4, 0, 1] rfl rfl
  exact RET _ _ _ (f_tops_12, f_bottoms_12) _ _ hw hP hD hS dX7_storeConvergent_15
abbrev rm7_commonAncestor : Room := { frames := 3, cells := 0, slots := 0, locals := 84 }
theorem nm7_commonAncestor : kNm yX7_commonAncestor 3 := by decide +kernel
set_option maxHeartbeats 4000000 in
set_option maxRecDepth 100000 in
theorem c7_commonAncestor (l : Launch) (D : va_G) (cI cJ cN cR : ClassId) (rf : Nat → Nat) (sz : Nat) (f_hasSnapshot : Int32) (f_termListSize : Int32) (f_textSize : Int32) (f_tops : (Nat → Int32)) (f_bottoms : (Nat → Int32)) (f_E_size : Int32) (f_E_leftTop : Int64) (f_E_leftBottom : Int64) (f_E_rightTop : Int64) (f_E_rightBottom : Int64) (f_O_size : Int32) (f_O_leftTop : Int64) (f_O_leftBottom : Int64) (f_O_rightTop : Int64) (f_O_rightBottom : Int64) (f_E_terms : (Nat → Int32)) (f_O_terms : (Nat → Int32)) (v1 : Int32) (v2 : Int32) (v3 : Int32) (post : Int32 → (Nat → Int32) → (Nat → Int32) → Int32 → Int32 → (Nat → Int32) → (Nat → Int32) → Prop) (hw : w7_commonAncestor f_tops f_bottoms f_E_size f_O_size f_E_terms f_O_terms v1 v2 v3 post) : Met l yX7_commonAncestor wsX7_commonAncestor rm7_commonAncestor (kP D (kT cI cJ cN cR) sz [.ref (rf 0), .int v1, .int v2, .int v3] [((rf 0), o7 rf f_hasSnapshot f_termListSize f_textSize), ((rf 1), ai cI 8 f_tops), ((rf 2), ai cI 8 f_bottoms), ((rf 14), o1 (rf 17) f_E_size f_E_leftTop f_E_leftBottom f_E_rightTop f_E_rightBottom), ((rf 15), o1 (rf 18) f_O_size f_O_leftTop f_O_leftBottom f_O_rightTop f_O_rightBottom), ((rf 17), ai cI 64 f_E_terms), ((rf 18), ai cI 64 f_O_terms)]) (kQi D [((rf 0), o7 rf f_hasSnapshot f_termListSize f_textSize), ((rf 1), ai cI 8 f_tops), ((rf 2), ai cI 8 f_bottoms), ((rf 14), o1 (rf 17) f_E_size f_E_leftTop f_E_leftBottom f_E_rightTop f_E_rightBottom), ((rf 15), o1 (rf 18) f_O_size f_O_leftTop f_O_leftBottom f_O_rightTop f_O_rightBottom), ((rf 17), ai cI 64 f_E_terms), ((rf 18), ai cI 64 f_O_terms)] sz (fun (r : Int32) (u : (Nat → Int32) × (Nat → Int32) × Int32 × Int32 × (Nat → Int32) × (Nat → Int32)) => post r u.1 u.2.1 u.2.2.1 u.2.2.2.1 u.2.2.2.2.1 u.2.2.2.2.2) (fun (u : (Nat → Int32) × (Nat → Int32) × Int32 × Int32 × (Nat → Int32) × (Nat → Int32)) => [((rf 0), o7 rf f_hasSnapshot f_termListSize f_textSize), ((rf 1), ai cI 8 u.1), ((rf 2), ai cI 8 u.2.1), ((rf 14), o1 (rf 17) u.2.2.1 f_E_leftTop f_E_leftBottom f_E_rightTop f_E_rightBottom), ((rf 15), o1 (rf 18) u.2.2.2.1 f_O_leftTop f_O_leftBottom f_O_rightTop f_O_rightBottom), ((rf 17), ai cI 64 u.2.2.2.2.1), ((rf 18), ai cI 64 u.2.2.2.2.2)])) 0 0 (va_A [((rf 0), o7 rf f_hasSnapshot f_termListSize f_textSize), ((rf 1), ai cI 8 f_tops), ((rf 2), ai cI 8 f_bottoms), ((rf 14), o1 (rf 17) f_E_size f_E_leftTop f_E_leftBottom f_E_rightTop f_E_rightBottom), ((rf 15), o1 (rf 18) f_O_size f_O_leftTop f_O_leftBottom f_O_rightTop f_O_rightBottom), ((rf 17), ai cI 64 f_E_terms), ((rf 18), ai cI 64 f_O_terms)] sz) := by
  refine kMetI (cc := cX7_commonAncestor) (maxL := 6) (by decide +kernel) rfl (Nat.le_of_ble_eq_true rfl) ?_
  intro p e s m args below meth c H0 ls A Q C0 hK hN hP hD hS hA hl RET
  obtain ⟨hx, hb, hml, hown, hts⟩ := id C0
  have hl : lv_has ls 6 [(0, .ref (rf 0)), (1, .int v1), (2, .int v2), (3, .int v3)] := hl
  have g52 := hts (.fieldLink RX7 52 "SternBrocotExplorer" "otherExpansion" "LSternBrocotExplorer$Expansion;") (by decide +kernel)
  have g9 := hts (.fieldLink RX7 9 "SternBrocotExplorer" "tops" "[I") (by decide +kernel)
  have g13 := hts (.fieldLink RX7 13 "SternBrocotExplorer" "bottoms" "[I") (by decide +kernel)
  have hi9 : ∀ w ∈ wsX70, w ∈ wsX7_commonAncestor := fun w h => List.mem_cons_of_mem _ (List.mem_append_left _ (List.mem_append_right _ h))
  unfold w7_commonAncestor at hw
  have hP : va_P D vwCl [((rf 0), o7 rf f_hasSnapshot f_termListSize f_textSize), ((rf 1), ai cI 8 f_tops), ((rf 2), ai cI 8 f_bottoms), ((rf 14), o1 (rf 17) f_E_size f_E_leftTop f_E_leftBottom f_E_rightTop f_E_rightBottom), ((rf 15), o1 (rf 18) f_O_size f_O_leftTop f_O_leftBottom f_O_rightTop f_O_rightBottom), ((rf 17), ai cI 64 f_E_terms), ((rf 18), ai cI 64 f_O_terms)] H0 := hP
  refine lv_iload_n hx hb dX7_commonAncestor_0 rfl (lv_at hl 1 rfl) ?_
  refine kcRI (wc := []) hP [] rfl (fun hPc => oS (As := [.int v1]) (rest := []) C0 hK hN (c7_isRegister l D cI cJ cN cR   v1 _ hw) 1 gX7_commonAncestor_X7_isRegister rfl ⟨rfl, rfl⟩ nm7_isRegister ⟨Nat.le_of_ble_eq_true rfl, Nat.le_of_ble_eq_true rfl⟩ rfl hl.1 rfl (Nat.le_of_ble_eq_true rfl) dX7_commonAncestor_1 ⟨Nat.le_of_ble_eq_true rfl, Nat.le_of_ble_eq_true rfl⟩ hPc) (fun r1 hw => ?_)
  obtain ⟨nb1, hw⟩ := hw
  refine lv_if_eq (tgt := 21) hx hb dX7_commonAncestor_4 (by decide) (fun k => ?_) (fun k => ?_)
  · have hw := hw.1 k
    refine lv_iconst (v := (-1 : Int32)) hx hb dX7_commonAncestor_21 (by decide) ?_
    exact RET _ _ _ (f_tops, f_bottoms, f_E_size, f_O_size, f_E_terms, f_O_terms) _ _ hw hP hD hS dX7_commonAncestor_22
  · have hw := hw.2 k
    refine lv_iload_n hx hb dX7_commonAncestor_7 rfl (lv_at hl 2 rfl) ?_
    refine kcRI (wc := []) hP [] rfl (fun hPc => oS (As := [.int v2]) (rest := []) C0 hK hN (c7_isRegister l D cI cJ cN cR   v2 _ hw) 1 gX7_commonAncestor_X7_isRegister rfl ⟨rfl, rfl⟩ nm7_isRegister ⟨Nat.le_of_ble_eq_true rfl, Nat.le_of_ble_eq_true rfl⟩ rfl hl.1 rfl (Nat.le_of_ble_eq_true rfl) dX7_commonAncestor_8 ⟨Nat.le_of_ble_eq_true rfl, Nat.le_of_ble_eq_true rfl⟩ hPc) (fun r8 hw => ?_)
    obtain ⟨nb8, hw⟩ := hw
    refine lv_if_eq (tgt := 21) hx hb dX7_commonAncestor_11 (by decide) (fun k => ?_) (fun k => ?_)
    · have hw := hw.1 k
      refine lv_iconst (v := (-1 : Int32)) hx hb dX7_commonAncestor_21 (by decide) ?_
      exact RET _ _ _ (f_tops, f_bottoms, f_E_size, f_O_size, f_E_terms, f_O_terms) _ _ hw hP hD hS dX7_commonAncestor_22
    · have hw := hw.2 k
      refine lv_iload_n hx hb dX7_commonAncestor_14 rfl (lv_at hl 3 rfl) ?_
      refine kcRI (wc := []) hP [] rfl (fun hPc => oS (As := [.int v3]) (rest := []) C0 hK hN (c7_isRegister l D cI cJ cN cR   v3 _ hw) 1 gX7_commonAncestor_X7_isRegister rfl ⟨rfl, rfl⟩ nm7_isRegister ⟨Nat.le_of_ble_eq_true rfl, Nat.le_of_ble_eq_true rfl⟩ rfl hl.1 rfl (Nat.le_of_ble_eq_true rfl) dX7_commonAncestor_15 ⟨Nat.le_of_ble_eq_true rfl, Nat.le_of_ble_eq_true rfl⟩ hPc) (fun r15 hw => ?_)
      obtain ⟨nb15, hw⟩ := hw
      refine lv_if_ne (tgt := 23) hx hb dX7_commonAncestor_18 (by decide) (fun k => ?_) (fun k => ?_)
      · have hw := hw.1 k
        refine lv_aload_n hx hb dX7_commonAncestor_23 rfl (lv_at hl 0 rfl) ?_
        refine lv_iload_n hx hb dX7_commonAncestor_24 rfl (lv_at hl 2 rfl) ?_
        refine kcR (wc := [((rf 0), o7 rf f_hasSnapshot f_termListSize f_textSize), ((rf 1), ai cI 8 f_tops), ((rf 2), ai cI 8 f_bottoms), ((rf 14), o1 (rf 17) f_E_size f_E_leftTop f_E_leftBottom f_E_rightTop f_E_rightBottom), ((rf 17), ai cI 64 f_E_terms)]) (wr := [((rf 15), o1 (rf 18) f_O_size f_O_leftTop f_O_leftBottom f_O_rightTop f_O_rightBottom), ((rf 18), ai cI 64 f_O_terms)]) hP hD hS hA [0, 1, 2, 3, 5] [4, 6] rfl rfl ⟨rfl, rfl, by decide⟩ (fun hPc hDc => rV (As := [.int v2]) (rest := []) C0 hK hN (c7_expand l D cI cJ cN cR rf H0.size f_hasSnapshot f_termListSize f_textSize f_tops f_bottoms f_E_size f_E_leftTop f_E_leftBottom f_E_rightTop f_E_rightBottom f_E_terms v2 _ hw) 1 gX7_commonAncestor_X7_expand rfl ⟨rfl, rfl⟩ nm7_expand ⟨Nat.le_of_ble_eq_true rfl, Nat.le_of_ble_eq_true rfl⟩ (q0 := 0) rfl rfl rfl rfl hl.1 rfl (Nat.le_of_ble_eq_true rfl) dX7_commonAncestor_25 ⟨Nat.le_of_ble_eq_true rfl, Nat.le_of_ble_eq_true rfl⟩ hPc hDc) (fun u25 H locs hw hP hD hS => ?_)
        obtain ⟨f_E_size_25, f_E_terms_25⟩ := u25
        dsimp only at hw
        have hP : va_P D vwCl [((rf 15), o1 (rf 18) f_O_size f_O_leftTop f_O_leftBottom f_O_rightTop f_O_rightBottom), ((rf 18), ai cI 64 f_O_terms), ((rf 0), o7 rf f_hasSnapshot f_termListSize f_textSize), ((rf 1), ai cI 8 f_tops), ((rf 2), ai cI 8 f_bottoms), ((rf 14), o1 (rf 17) f_E_size_25 f_E_leftTop f_E_leftBottom f_E_rightTop f_E_rightBottom), ((rf 17), ai cI 64 f_E_terms_25)] H := hP
        have hD : va_D A [((rf 15), o1 (rf 18) f_O_size f_O_leftTop f_O_leftBottom f_O_rightTop f_O_rightBottom), ((rf 18), ai cI 64 f_O_terms), ((rf 0), o7 rf f_hasSnapshot f_termListSize f_textSize), ((rf 1), ai cI 8 f_tops), ((rf 2), ai cI 8 f_bottoms), ((rf 14), o1 (rf 17) f_E_size_25 f_E_leftTop f_E_leftBottom f_E_rightTop f_E_rightBottom), ((rf 17), ai cI 64 f_E_terms_25)] := hD
        refine lv_astore (lv' := [(4, .ref (rf 14)), (0, .ref (rf 0)), (1, .int v1), (2, .int v2), (3, .int v3)]) hx hb dX7_commonAncestor_28 hl (by decide) rfl (fun ls hl => ?_)
        refine lv_aload_n hx hb dX7_commonAncestor_30 rfl (lv_at hl 1 rfl) ?_
        refine va_get (D := D) (ci := 2) (v := .ref (rf 15)) (C := RX7) (T := TX7) (N := 16) hx hb hts hi9 hown hK hP 2 rfl rfl 14 (by decide) g52 (fun _ h9 => h9) rfl dX7_commonAncestor_31 ?_
        refine lv_aload_n hx hb dX7_commonAncestor_34 rfl (lv_at hl 1 rfl) ?_
        refine va_get (D := D) (ci := 2) (v := .ref (rf 1)) (C := RX7) (T := TX7) (N := 16) hx hb hts hi9 hown hK hP 2 rfl rfl 0 (by decide) g9 (fun _ h9 => h9) rfl dX7_commonAncestor_35 ?_
        refine lv_iload_n hx hb dX7_commonAncestor_38 rfl (lv_at hl 4 rfl) ?_
        obtain ⟨hin, hw⟩ := hw
        refine va_iald hx hb hK hP 3 0 rfl rfl hin dX7_commonAncestor_39 ?_
        refine lv_aload_n hx hb dX7_commonAncestor_40 rfl (lv_at hl 1 rfl) ?_
        refine va_get (D := D) (ci := 2) (v := .ref (rf 2)) (C := RX7) (T := TX7) (N := 16) hx hb hts hi9 hown hK hP 2 rfl rfl 1 (by decide) g13 (fun _ h9 => h9) rfl dX7_commonAncestor_41 ?_
        refine lv_iload_n hx hb dX7_commonAncestor_44 rfl (lv_at hl 4 rfl) ?_
        obtain ⟨hin, hw⟩ := hw
        refine va_iald hx hb hK hP 4 0 rfl rfl hin dX7_commonAncestor_45 ?_
        refine kcV (wc := [((rf 15), o1 (rf 18) f_O_size f_O_leftTop f_O_leftBottom f_O_rightTop f_O_rightBottom), ((rf 18), ai cI 64 f_O_terms)]) (wr := [((rf 0), o7 rf f_hasSnapshot f_termListSize f_textSize), ((rf 1), ai cI 8 f_tops), ((rf 2), ai cI 8 f_bottoms), ((rf 14), o1 (rf 17) f_E_size_25 f_E_leftTop f_E_leftBottom f_E_rightTop f_E_rightBottom), ((rf 17), ai cI 64 f_E_terms_25)]) hP hD hS hA [0, 1] [2, 3, 4, 5, 6] rfl rfl ⟨rfl, rfl, by decide⟩ (fun hPc hDc => rV (As := [.int (f_tops v3.toNatClampNeg), .int (f_bottoms v3.toNatClampNeg)]) (rest := []) C0 hK hN (c1_expand l D cI cJ cN cR (rf 15) (rf 18) H.size f_O_size f_O_leftTop f_O_leftBottom f_O_rightTop f_O_rightBottom f_O_terms (f_tops v3.toNatClampNeg) (f_bottoms v3.toNatClampNeg) _ hw) 2 gX7_commonAncestor_X1_expand rfl ⟨rfl, rfl⟩ nm1_expand ⟨Nat.le_of_ble_eq_true rfl, Nat.le_of_ble_eq_true rfl⟩ (q0 := 0) rfl rfl rfl rfl hl.1 rfl (Nat.le_of_ble_eq_true rfl) dX7_commonAncestor_46 ⟨Nat.le_of_ble_eq_true rfl, Nat.le_of_ble_eq_true rfl⟩ hPc hDc) (fun u46 H locs hw hP hD hS => ?_)
        obtain ⟨f_O_size_46, f_O_terms_46⟩ := u46
        dsimp only at hw
        have hP : va_P D vwCl [((rf 0), o7 rf f_hasSnapshot f_termListSize f_textSize), ((rf 1), ai cI 8 f_tops), ((rf 2), ai cI 8 f_bottoms), ((rf 14), o1 (rf 17) f_E_size_25 f_E_leftTop f_E_leftBottom f_E_rightTop f_E_rightBottom), ((rf 17), ai cI 64 f_E_terms_25), ((rf 15), o1 (rf 18) f_O_size_46 f_O_leftTop f_O_leftBottom f_O_rightTop f_O_rightBottom), ((rf 18), ai cI 64 f_O_terms_46)] H := hP
        have hD : va_D A [((rf 0), o7 rf f_hasSnapshot f_termListSize f_textSize), ((rf 1), ai cI 8 f_tops), ((rf 2), ai cI 8 f_bottoms), ((rf 14), o1 (rf 17) f_E_size_25 f_E_leftTop f_E_leftBottom f_E_rightTop f_E_rightBottom), ((rf 17), ai cI 64 f_E_terms_25), ((rf 15), o1 (rf 18) f_O_size_46 f_O_leftTop f_O_leftBottom f_O_rightTop f_O_rightBottom), ((rf 18), ai cI 64 f_O_terms_46)] := hD
        refine lv_aload hx hb dX7_commonAncestor_49 (lv_at hl 0 rfl) ?_
        refine lv_aload_n hx hb dX7_commonAncestor_51 rfl (lv_at hl 1 rfl) ?_
        refine va_get (D := D) (ci := 2) (v := .ref (rf 15)) (C := RX7) (T := TX7) (N := 16) hx hb hts hi9 hown hK hP 0 rfl rfl 14 (by decide) g52 (fun _ h9 => h9) rfl dX7_commonAncestor_52 ?_
        refine kcRI (wc := [((rf 14), o1 (rf 17) f_E_size_25 f_E_leftTop f_E_leftBottom f_E_rightTop f_E_rightBottom), ((rf 17), ai cI 64 f_E_terms_25), ((rf 15), o1 (rf 18) f_O_size_46 f_O_leftTop f_O_leftBottom f_O_rightTop f_O_rightBottom), ((rf 18), ai cI 64 f_O_terms_46)]) hP [3, 4, 5, 6] rfl (fun hPc => oV (As := [.ref (rf 15)]) (rest := []) C0 hK hN (c1_commonSteps l D cI cJ cN cR (rf 14) (rf 17) (rf 15) (rf 18) f_E_size_25 f_E_leftTop f_E_leftBottom f_E_rightTop f_E_rightBottom f_E_terms_25 f_O_size_46 f_O_leftTop f_O_leftBottom f_O_rightTop f_O_rightBottom f_O_terms_46  _ hw) 1 gX7_commonAncestor_X1_commonSteps rfl ⟨rfl, rfl⟩ nm1_commonSteps ⟨Nat.le_of_ble_eq_true rfl, Nat.le_of_ble_eq_true rfl⟩ (q0 := 0) rfl rfl rfl rfl hl.1 rfl (Nat.le_of_ble_eq_true rfl) dX7_commonAncestor_55 ⟨Nat.le_of_ble_eq_true rfl, Nat.le_of_ble_eq_true rfl⟩ hPc) (fun r55 hw => ?_)
        refine lv_istore (lv' := [(5, .int r55), (4, .ref (rf 14)), (0, .ref (rf 0)), (1, .int v1), (2, .int v2), (3, .int v3)]) hx hb dX7_commonAncestor_58 hl (by decide) rfl (fun ls hl => ?_)
        refine lv_aload hx hb dX7_commonAncestor_60 (lv_at hl 1 rfl) ?_
        refine lv_iload hx hb dX7_commonAncestor_62 (lv_at hl 0 rfl) ?_
        refine kcV (wc := [((rf 14), o1 (rf 17) f_E_size_25 f_E_leftTop f_E_leftBottom f_E_rightTop f_E_rightBottom), ((rf 17), ai cI 64 f_E_terms_25)]) (wr := [((rf 0), o7 rf f_hasSnapshot f_termListSize f_textSize), ((rf 1), ai cI 8 f_tops), ((rf 2), ai cI 8 f_bottoms), ((rf 15), o1 (rf 18) f_O_size_46 f_O_leftTop f_O_leftBottom f_O_rightTop f_O_rightBottom), ((rf 18), ai cI 64 f_O_terms_46)]) hP hD hS hA [3, 4] [0, 1, 2, 5, 6] rfl rfl ⟨rfl, rfl, by decide⟩ (fun hPc hDc => rV (As := [.int r55]) (rest := []) C0 hK hN (c1_cutToDepth l D cI cJ cN cR (rf 14) (rf 17) H.size f_E_size_25 f_E_leftTop f_E_leftBottom f_E_rightTop f_E_rightBottom f_E_terms_25 r55 _ hw) 1 gX7_commonAncestor_X1_cutToDepth rfl ⟨rfl, rfl⟩ nm1_cutToDepth ⟨Nat.le_of_ble_eq_true rfl, Nat.le_of_ble_eq_true rfl⟩ (q0 := 0) rfl rfl rfl rfl hl.1 rfl (Nat.le_of_ble_eq_true rfl) dX7_commonAncestor_64 ⟨Nat.le_of_ble_eq_true rfl, Nat.le_of_ble_eq_true rfl⟩ hPc hDc) (fun u64 H locs hw hP hD hS => ?_)
        obtain ⟨f_E_size_64, f_E_terms_64⟩ := u64
        dsimp only at hw
        have hP : va_P D vwCl [((rf 0), o7 rf f_hasSnapshot f_termListSize f_textSize), ((rf 1), ai cI 8 f_tops), ((rf 2), ai cI 8 f_bottoms), ((rf 15), o1 (rf 18) f_O_size_46 f_O_leftTop f_O_leftBottom f_O_rightTop f_O_rightBottom), ((rf 18), ai cI 64 f_O_terms_46), ((rf 14), o1 (rf 17) f_E_size_64 f_E_leftTop f_E_leftBottom f_E_rightTop f_E_rightBottom), ((rf 17), ai cI 64 f_E_terms_64)] H := hP
        have hD : va_D A [((rf 0), o7 rf f_hasSnapshot f_termListSize f_textSize), ((rf 1), ai cI 8 f_tops), ((rf 2), ai cI 8 f_bottoms), ((rf 15), o1 (rf 18) f_O_size_46 f_O_leftTop f_O_leftBottom f_O_rightTop f_O_rightBottom), ((rf 18), ai cI 64 f_O_terms_46), ((rf 14), o1 (rf 17) f_E_size_64 f_E_leftTop f_E_leftBottom f_E_rightTop f_E_rightBottom), ((rf 17), ai cI 64 f_E_terms_64)] := hD
        refine lv_aload_n hx hb dX7_commonAncestor_67 rfl (lv_at hl 2 rfl) ?_
        refine lv_iload_n hx hb dX7_commonAncestor_68 rfl (lv_at hl 3 rfl) ?_
        refine lv_aload hx hb dX7_commonAncestor_69 (lv_at hl 1 rfl) ?_
        refine lv_aload hx hb dX7_commonAncestor_71 (lv_at hl 1 rfl) ?_
        refine kcRI (wc := [((rf 14), o1 (rf 17) f_E_size_64 f_E_leftTop f_E_leftBottom f_E_rightTop f_E_rightBottom)]) hP [5] rfl (fun hPc => oV (As := []) (rest := [.ref (rf 14), .int v1, .ref (rf 0)]) C0 hK hN (c1_size l D cI cJ cN cR (rf 14) (rf 17) f_E_size_64 f_E_leftTop f_E_leftBottom f_E_rightTop f_E_rightBottom  _ hw) 0 gX7_commonAncestor_X1_size rfl ⟨rfl, rfl⟩ nm1_size ⟨Nat.le_of_ble_eq_true rfl, Nat.le_of_ble_eq_true rfl⟩ (q0 := 0) rfl rfl rfl rfl hl.1 rfl (Nat.le_of_ble_eq_true rfl) dX7_commonAncestor_73 ⟨Nat.le_of_ble_eq_true rfl, Nat.le_of_ble_eq_true rfl⟩ hPc) (fun r73 hw => ?_)
        refine lv_iconst (v := (1 : Int32)) hx hb dX7_commonAncestor_76 (by decide) ?_
        refine lv_isub hx hb dX7_commonAncestor_77 ?_
        refine kcI (wc := [((rf 0), o7 rf f_hasSnapshot f_termListSize f_textSize), ((rf 1), ai cI 8 f_tops), ((rf 2), ai cI 8 f_bottoms), ((rf 14), o1 (rf 17) f_E_size_64 f_E_leftTop f_E_leftBottom f_E_rightTop f_E_rightBottom), ((rf 17), ai cI 64 f_E_terms_64)]) (wr := [((rf 15), o1 (rf 18) f_O_size_46 f_O_leftTop f_O_leftBottom f_O_rightTop f_O_rightBottom), ((rf 18), ai cI 64 f_O_terms_46)]) hP hD hS hA [0, 1, 2, 5, 6] [3, 4] rfl rfl ⟨rfl, rfl, by decide⟩ (fun hPc hDc => rV (As := [.int v1, .ref (rf 14), .int (r73 - (1 : Int32))]) (rest := []) C0 hK hN (c7_storeConvergent l D cI cJ cN cR rf (rf 14) (rf 17) H.size f_hasSnapshot f_termListSize f_textSize f_tops f_bottoms f_E_size_64 f_E_leftTop f_E_leftBottom f_E_rightTop f_E_rightBottom f_E_terms_64 v1 (r73 - (1 : Int32)) _ hw) 3 gX7_commonAncestor_X7_storeConvergent rfl ⟨rfl, rfl⟩ nm7_storeConvergent ⟨Nat.le_of_ble_eq_true rfl, Nat.le_of_ble_eq_true rfl⟩ (q0 := 0) rfl rfl rfl rfl hl.1 rfl (Nat.le_of_ble_eq_true rfl) dX7_commonAncestor_78 ⟨Nat.le_of_ble_eq_true rfl, Nat.le_of_ble_eq_true rfl⟩ hPc hDc) (fun r78 u78 H locs hw hP hD hS => ?_)
        obtain ⟨f_tops_78, f_bottoms_78⟩ := u78
        dsimp only at hw
        have hP : va_P D vwCl [((rf 15), o1 (rf 18) f_O_size_46 f_O_leftTop f_O_leftBottom f_O_rightTop f_O_rightBottom), ((rf 18), ai cI 64 f_O_terms_46), ((rf 0), o7 rf f_hasSnapshot f_termListSize f_textSize), ((rf 1), ai cI 8 f_tops_78), ((rf 2), ai cI 8 f_bottoms_78), ((rf 14), o1 (rf 17) f_E_size_64 f_E_leftTop f_E_leftBottom f_E_rightTop f_E_rightBottom), ((rf 17), ai cI 64 f_E_terms_64)] H := hP
        have hD : va_D A [((rf 15), o1 (rf 18) f_O_size_46 f_O_leftTop f_O_leftBottom f_O_rightTop f_O_rightBottom), ((rf 18), ai cI 64 f_O_terms_46), ((rf 0), o7 rf f_hasSnapshot f_termListSize f_textSize), ((rf 1), ai cI 8 f_tops_78), ((rf 2), ai cI 8 f_bottoms_78), ((rf 14), o1 (rf 17) f_E_size_64 f_E_leftTop f_E_leftBottom f_E_rightTop f_E_rightBottom), ((rf 17), ai cI 64 f_E_terms_64)] := hD
        refine lv_pop hx hb dX7_commonAncestor_81 rfl ?_
        refine lv_iload hx hb dX7_commonAncestor_82 (lv_at hl 0 rfl) ?_
        obtain ⟨hP, hD⟩ := k_sub (ws' := [((rf 0), o7 rf f_hasSnapshot f_termListSize f_textSize), ((rf 1), ai cI 8 f_tops_78), ((rf 2), ai cI 8 f_bottoms_78), ((rf 14), o1 (rf 17) f_E_size_64 f_E_leftTop f_E_leftBottom f_E_rightTop f_E_rightBottom), ((rf 15), o1 (rf 18) f_O_size_46 f_O_leftTop f_O_leftBottom f_O_rightTop f_O_rightBottom), ((rf 17), ai cI 64 f_E_terms_64), ((rf 18), ai cI 64 f_O_terms_46)]) hP hD [2, 3, 4, 5, 0, 6, 1] rfl rfl
        exact RET _ _ _ (f_tops_78, f_bottoms_78, f_E_size_64, f_O_size_46, f_E_terms_64, f_O_terms_46) _ _ hw hP hD hS dX7_commonAncestor_84
      · have hw := hw.2 k
        refine lv_iconst (v := (-1 : Int32)) hx hb dX7_commonAncestor_21 (by decide) ?_
        exact RET _ _ _ (f_tops, f_bottoms, f_E_size, f_O_size, f_E_terms, f_O_terms) _ _ hw hP hD hS dX7_commonAncestor_22
abbrev rm7_simplestBetween : Room := { frames := 3, cells := 0, slots := 0, locals := 84 }
theorem nm7_simplestBetween : kNm yX7_simplestBetween 3 := by decide +kernel
set_option maxHeartbeats 4000000 in
set_option maxRecDepth 100000 in
theorem c7_simplestBetween (l : Launch) (D : va_G) (cI cJ cN cR : ClassId) (rf : Nat → Nat) (sz : Nat) (f_hasSnapshot : Int32) (f_termListSize : Int32) (f_textSize : Int32) (f_tops : (Nat → Int32)) (f_bottoms : (Nat → Int32)) (f_E_size : Int32) (f_E_leftTop : Int64) (f_E_leftBottom : Int64) (f_E_rightTop : Int64) (f_E_rightBottom : Int64) (f_E_terms : (Nat → Int32)) (v1 : Int32) (v2 : Int32) (v3 : Int32) (post : Int32 → (Nat → Int32) → (Nat → Int32) → Int32 → (Nat → Int32) → Prop) (hw : w7_simplestBetween f_tops f_bottoms f_E_size f_E_terms v1 v2 v3 post) : Met l yX7_simplestBetween wsX7_simplestBetween rm7_simplestBetween (kP D (kT cI cJ cN cR) sz [.ref (rf 0), .int v1, .int v2, .int v3] [((rf 0), o7 rf f_hasSnapshot f_termListSize f_textSize), ((rf 1), ai cI 8 f_tops), ((rf 2), ai cI 8 f_bottoms), ((rf 14), o1 (rf 17) f_E_size f_E_leftTop f_E_leftBottom f_E_rightTop f_E_rightBottom), ((rf 17), ai cI 64 f_E_terms)]) (kQi D [((rf 0), o7 rf f_hasSnapshot f_termListSize f_textSize), ((rf 1), ai cI 8 f_tops), ((rf 2), ai cI 8 f_bottoms), ((rf 14), o1 (rf 17) f_E_size f_E_leftTop f_E_leftBottom f_E_rightTop f_E_rightBottom), ((rf 17), ai cI 64 f_E_terms)] sz (fun (r : Int32) (u : (Nat → Int32) × (Nat → Int32) × Int32 × (Nat → Int32)) => post r u.1 u.2.1 u.2.2.1 u.2.2.2) (fun (u : (Nat → Int32) × (Nat → Int32) × Int32 × (Nat → Int32)) => [((rf 0), o7 rf f_hasSnapshot f_termListSize f_textSize), ((rf 1), ai cI 8 u.1), ((rf 2), ai cI 8 u.2.1), ((rf 14), o1 (rf 17) u.2.2.1 f_E_leftTop f_E_leftBottom f_E_rightTop f_E_rightBottom), ((rf 17), ai cI 64 u.2.2.2)])) 0 0 (va_A [((rf 0), o7 rf f_hasSnapshot f_termListSize f_textSize), ((rf 1), ai cI 8 f_tops), ((rf 2), ai cI 8 f_bottoms), ((rf 14), o1 (rf 17) f_E_size f_E_leftTop f_E_leftBottom f_E_rightTop f_E_rightBottom), ((rf 17), ai cI 64 f_E_terms)] sz) := by
  refine kMetI (cc := cX7_simplestBetween) (maxL := 4) (by decide +kernel) rfl (Nat.le_of_ble_eq_true rfl) ?_
  intro p e s m args below meth c H0 ls A Q C0 hK hN hP hD hS hA hl RET
  obtain ⟨hx, hb, hml, hown, hts⟩ := id C0
  have hl : lv_has ls 4 [(0, .ref (rf 0)), (1, .int v1), (2, .int v2), (3, .int v3)] := hl
  have g48 := hts (.fieldLink RX7 48 "SternBrocotExplorer" "expansion" "LSternBrocotExplorer$Expansion;") (by decide +kernel)
  have g9 := hts (.fieldLink RX7 9 "SternBrocotExplorer" "tops" "[I") (by decide +kernel)
  have g13 := hts (.fieldLink RX7 13 "SternBrocotExplorer" "bottoms" "[I") (by decide +kernel)
  have hi9 : ∀ w ∈ wsX70, w ∈ wsX7_simplestBetween := fun w h => List.mem_cons_of_mem _ (List.mem_append_left _ (List.mem_append_right _ h))
  unfold w7_simplestBetween at hw
  have hP : va_P D vwCl [((rf 0), o7 rf f_hasSnapshot f_termListSize f_textSize), ((rf 1), ai cI 8 f_tops), ((rf 2), ai cI 8 f_bottoms), ((rf 14), o1 (rf 17) f_E_size f_E_leftTop f_E_leftBottom f_E_rightTop f_E_rightBottom), ((rf 17), ai cI 64 f_E_terms)] H0 := hP
  refine lv_iload_n hx hb dX7_simplestBetween_0 rfl (lv_at hl 1 rfl) ?_
  refine kcRI (wc := []) hP [] rfl (fun hPc => oS (As := [.int v1]) (rest := []) C0 hK hN (c7_isRegister l D cI cJ cN cR   v1 _ hw) 1 gX7_simplestBetween_X7_isRegister rfl ⟨rfl, rfl⟩ nm7_isRegister ⟨Nat.le_of_ble_eq_true rfl, Nat.le_of_ble_eq_true rfl⟩ rfl hl.1 rfl (Nat.le_of_ble_eq_true rfl) dX7_simplestBetween_1 ⟨Nat.le_of_ble_eq_true rfl, Nat.le_of_ble_eq_true rfl⟩ hPc) (fun r1 hw => ?_)
  obtain ⟨nb1, hw⟩ := hw
  refine lv_if_eq (tgt := 21) hx hb dX7_simplestBetween_4 (by decide) (fun k => ?_) (fun k => ?_)
  · have hw := hw.1 k
    refine lv_iconst (v := (-1 : Int32)) hx hb dX7_simplestBetween_21 (by decide) ?_
    exact RET _ _ _ (f_tops, f_bottoms, f_E_size, f_E_terms) _ _ hw hP hD hS dX7_simplestBetween_22
  · have hw := hw.2 k
    refine lv_iload_n hx hb dX7_simplestBetween_7 rfl (lv_at hl 2 rfl) ?_
    refine kcRI (wc := []) hP [] rfl (fun hPc => oS (As := [.int v2]) (rest := []) C0 hK hN (c7_isRegister l D cI cJ cN cR   v2 _ hw) 1 gX7_simplestBetween_X7_isRegister rfl ⟨rfl, rfl⟩ nm7_isRegister ⟨Nat.le_of_ble_eq_true rfl, Nat.le_of_ble_eq_true rfl⟩ rfl hl.1 rfl (Nat.le_of_ble_eq_true rfl) dX7_simplestBetween_8 ⟨Nat.le_of_ble_eq_true rfl, Nat.le_of_ble_eq_true rfl⟩ hPc) (fun r8 hw => ?_)
    obtain ⟨nb8, hw⟩ := hw
    refine lv_if_eq (tgt := 21) hx hb dX7_simplestBetween_11 (by decide) (fun k => ?_) (fun k => ?_)
    · have hw := hw.1 k
      refine lv_iconst (v := (-1 : Int32)) hx hb dX7_simplestBetween_21 (by decide) ?_
      exact RET _ _ _ (f_tops, f_bottoms, f_E_size, f_E_terms) _ _ hw hP hD hS dX7_simplestBetween_22
    · have hw := hw.2 k
      refine lv_iload_n hx hb dX7_simplestBetween_14 rfl (lv_at hl 3 rfl) ?_
      refine kcRI (wc := []) hP [] rfl (fun hPc => oS (As := [.int v3]) (rest := []) C0 hK hN (c7_isRegister l D cI cJ cN cR   v3 _ hw) 1 gX7_simplestBetween_X7_isRegister rfl ⟨rfl, rfl⟩ nm7_isRegister ⟨Nat.le_of_ble_eq_true rfl, Nat.le_of_ble_eq_true rfl⟩ rfl hl.1 rfl (Nat.le_of_ble_eq_true rfl) dX7_simplestBetween_15 ⟨Nat.le_of_ble_eq_true rfl, Nat.le_of_ble_eq_true rfl⟩ hPc) (fun r15 hw => ?_)
      obtain ⟨nb15, hw⟩ := hw
      refine lv_if_ne (tgt := 23) hx hb dX7_simplestBetween_18 (by decide) (fun k => ?_) (fun k => ?_)
      · have hw := hw.1 k
        refine lv_aload_n hx hb dX7_simplestBetween_23 rfl (lv_at hl 0 rfl) ?_
        refine lv_iload_n hx hb dX7_simplestBetween_24 rfl (lv_at hl 2 rfl) ?_
        refine lv_iload_n hx hb dX7_simplestBetween_25 rfl (lv_at hl 3 rfl) ?_
        refine kcRL (wc := [((rf 0), o7 rf f_hasSnapshot f_termListSize f_textSize), ((rf 1), ai cI 8 f_tops), ((rf 2), ai cI 8 f_bottoms)]) hP [0, 1, 2] rfl (fun hPc => oV (As := [.int v2, .int v3]) (rest := []) C0 hK hN (c7_crossDifference l D cI cJ cN cR rf f_hasSnapshot f_termListSize f_textSize f_tops f_bottoms v2 v3 _ hw) 2 gX7_simplestBetween_X7_crossDifference rfl ⟨rfl, rfl⟩ nm7_crossDifference ⟨Nat.le_of_ble_eq_true rfl, Nat.le_of_ble_eq_true rfl⟩ (q0 := 0) rfl rfl rfl rfl hl.1 rfl (Nat.le_of_ble_eq_true rfl) dX7_simplestBetween_26 ⟨Nat.le_of_ble_eq_true rfl, Nat.le_of_ble_eq_true rfl⟩ hPc) (fun r26 hw => ?_)
        refine lv_lconst (v := (0 : Int64)) hx hb dX7_simplestBetween_29 (by decide) ?_
        refine W.lcmp hx hb dX7_simplestBetween_30 ?_
        refine lv_if_lt (tgt := 37) hx hb dX7_simplestBetween_31 (by decide) (fun k => ?_) (fun k => ?_)
        · have hw := hw.1 ((lg_cmp_lt _ _).mp k)
          refine lv_aload_n hx hb dX7_simplestBetween_37 rfl (lv_at hl 0 rfl) ?_
          refine va_get (D := D) (ci := 2) (v := .ref (rf 14)) (C := RX7) (T := TX7) (N := 16) hx hb hts hi9 hown hK hP 0 rfl rfl 13 (by decide) g48 (fun _ h9 => h9) rfl dX7_simplestBetween_38 ?_
          refine lv_aload_n hx hb dX7_simplestBetween_41 rfl (lv_at hl 0 rfl) ?_
          refine va_get (D := D) (ci := 2) (v := .ref (rf 1)) (C := RX7) (T := TX7) (N := 16) hx hb hts hi9 hown hK hP 0 rfl rfl 0 (by decide) g9 (fun _ h9 => h9) rfl dX7_simplestBetween_42 ?_
          refine lv_iload_n hx hb dX7_simplestBetween_45 rfl (lv_at hl 2 rfl) ?_
          obtain ⟨hin, hw⟩ := hw
          refine va_iald hx hb hK hP 1 0 rfl rfl hin dX7_simplestBetween_46 ?_
          refine lv_aload_n hx hb dX7_simplestBetween_47 rfl (lv_at hl 0 rfl) ?_
          refine va_get (D := D) (ci := 2) (v := .ref (rf 2)) (C := RX7) (T := TX7) (N := 16) hx hb hts hi9 hown hK hP 0 rfl rfl 1 (by decide) g13 (fun _ h9 => h9) rfl dX7_simplestBetween_48 ?_
          refine lv_iload_n hx hb dX7_simplestBetween_51 rfl (lv_at hl 2 rfl) ?_
          obtain ⟨hin, hw⟩ := hw
          refine va_iald hx hb hK hP 2 0 rfl rfl hin dX7_simplestBetween_52 ?_
          refine lv_aload_n hx hb dX7_simplestBetween_53 rfl (lv_at hl 0 rfl) ?_
          refine va_get (D := D) (ci := 2) (v := .ref (rf 1)) (C := RX7) (T := TX7) (N := 16) hx hb hts hi9 hown hK hP 0 rfl rfl 0 (by decide) g9 (fun _ h9 => h9) rfl dX7_simplestBetween_54 ?_
          refine lv_iload_n hx hb dX7_simplestBetween_57 rfl (lv_at hl 3 rfl) ?_
          obtain ⟨hin, hw⟩ := hw
          refine va_iald hx hb hK hP 1 0 rfl rfl hin dX7_simplestBetween_58 ?_
          refine lv_aload_n hx hb dX7_simplestBetween_59 rfl (lv_at hl 0 rfl) ?_
          refine va_get (D := D) (ci := 2) (v := .ref (rf 2)) (C := RX7) (T := TX7) (N := 16) hx hb hts hi9 hown hK hP 0 rfl rfl 1 (by decide) g13 (fun _ h9 => h9) rfl dX7_simplestBetween_60 ?_
          refine lv_iload_n hx hb dX7_simplestBetween_63 rfl (lv_at hl 3 rfl) ?_
          obtain ⟨hin, hw⟩ := hw
          refine va_iald hx hb hK hP 2 0 rfl rfl hin dX7_simplestBetween_64 ?_
          refine kcV (wc := [((rf 14), o1 (rf 17) f_E_size f_E_leftTop f_E_leftBottom f_E_rightTop f_E_rightBottom), ((rf 17), ai cI 64 f_E_terms)]) (wr := [((rf 0), o7 rf f_hasSnapshot f_termListSize f_textSize), ((rf 1), ai cI 8 f_tops), ((rf 2), ai cI 8 f_bottoms)]) hP hD hS hA [3, 4] [0, 1, 2] rfl rfl ⟨rfl, rfl, by decide⟩ (fun hPc hDc => rV (As := [.int (f_tops v2.toNatClampNeg), .int (f_bottoms v2.toNatClampNeg), .int (f_tops v3.toNatClampNeg), .int (f_bottoms v3.toNatClampNeg)]) (rest := []) C0 hK hN (c1_becomeSimplestBetween l D cI cJ cN cR (rf 14) (rf 17) H0.size f_E_size f_E_leftTop f_E_leftBottom f_E_rightTop f_E_rightBottom f_E_terms (f_tops v2.toNatClampNeg) (f_bottoms v2.toNatClampNeg) (f_tops v3.toNatClampNeg) (f_bottoms v3.toNatClampNeg) _ hw) 4 gX7_simplestBetween_X1_becomeSimplestBetween rfl ⟨rfl, rfl⟩ nm1_becomeSimplestBetween ⟨Nat.le_of_ble_eq_true rfl, Nat.le_of_ble_eq_true rfl⟩ (q0 := 0) rfl rfl rfl rfl hl.1 rfl (Nat.le_of_ble_eq_true rfl) dX7_simplestBetween_65 ⟨Nat.le_of_ble_eq_true rfl, Nat.le_of_ble_eq_true rfl⟩ hPc hDc) (fun u65 H locs hw hP hD hS => ?_)
          obtain ⟨f_E_size_65, f_E_terms_65⟩ := u65
          dsimp only at hw
          have hP : va_P D vwCl [((rf 0), o7 rf f_hasSnapshot f_termListSize f_textSize), ((rf 1), ai cI 8 f_tops), ((rf 2), ai cI 8 f_bottoms), ((rf 14), o1 (rf 17) f_E_size_65 f_E_leftTop f_E_leftBottom f_E_rightTop f_E_rightBottom), ((rf 17), ai cI 64 f_E_terms_65)] H := hP
          have hD : va_D A [((rf 0), o7 rf f_hasSnapshot f_termListSize f_textSize), ((rf 1), ai cI 8 f_tops), ((rf 2), ai cI 8 f_bottoms), ((rf 14), o1 (rf 17) f_E_size_65 f_E_leftTop f_E_leftBottom f_E_rightTop f_E_rightBottom), ((rf 17), ai cI 64 f_E_terms_65)] := hD
          refine lv_aload_n hx hb dX7_simplestBetween_68 rfl (lv_at hl 0 rfl) ?_
          refine lv_iload_n hx hb dX7_simplestBetween_69 rfl (lv_at hl 1 rfl) ?_
          refine lv_aload_n hx hb dX7_simplestBetween_70 rfl (lv_at hl 0 rfl) ?_
          refine va_get (D := D) (ci := 2) (v := .ref (rf 14)) (C := RX7) (T := TX7) (N := 16) hx hb hts hi9 hown hK hP 0 rfl rfl 13 (by decide) g48 (fun _ h9 => h9) rfl dX7_simplestBetween_71 ?_
          refine lv_aload_n hx hb dX7_simplestBetween_74 rfl (lv_at hl 0 rfl) ?_
          refine va_get (D := D) (ci := 2) (v := .ref (rf 14)) (C := RX7) (T := TX7) (N := 16) hx hb hts hi9 hown hK hP 0 rfl rfl 13 (by decide) g48 (fun _ h9 => h9) rfl dX7_simplestBetween_75 ?_
          refine kcRI (wc := [((rf 14), o1 (rf 17) f_E_size_65 f_E_leftTop f_E_leftBottom f_E_rightTop f_E_rightBottom)]) hP [3] rfl (fun hPc => oV (As := []) (rest := [.ref (rf 14), .int v1, .ref (rf 0)]) C0 hK hN (c1_size l D cI cJ cN cR (rf 14) (rf 17) f_E_size_65 f_E_leftTop f_E_leftBottom f_E_rightTop f_E_rightBottom  _ hw) 0 gX7_simplestBetween_X1_size rfl ⟨rfl, rfl⟩ nm1_size ⟨Nat.le_of_ble_eq_true rfl, Nat.le_of_ble_eq_true rfl⟩ (q0 := 0) rfl rfl rfl rfl hl.1 rfl (Nat.le_of_ble_eq_true rfl) dX7_simplestBetween_78 ⟨Nat.le_of_ble_eq_true rfl, Nat.le_of_ble_eq_true rfl⟩ hPc) (fun r78 hw => ?_)
          refine lv_iconst (v := (1 : Int32)) hx hb dX7_simplestBetween_81 (by decide) ?_
          refine lv_isub hx hb dX7_simplestBetween_82 ?_
          refine kcI (wc := [((rf 0), o7 rf f_hasSnapshot f_termListSize f_textSize), ((rf 1), ai cI 8 f_tops), ((rf 2), ai cI 8 f_bottoms), ((rf 14), o1 (rf 17) f_E_size_65 f_E_leftTop f_E_leftBottom f_E_rightTop f_E_rightBottom), ((rf 17), ai cI 64 f_E_terms_65)]) (wr := []) hP hD hS hA [0, 1, 2, 3, 4] [] rfl rfl ⟨rfl, rfl, by decide⟩ (fun hPc hDc => rV (As := [.int v1, .ref (rf 14), .int (r78 - (1 : Int32))]) (rest := []) C0 hK hN (c7_storeConvergent l D cI cJ cN cR rf (rf 14) (rf 17) H.size f_hasSnapshot f_termListSize f_textSize f_tops f_bottoms f_E_size_65 f_E_leftTop f_E_leftBottom f_E_rightTop f_E_rightBottom f_E_terms_65 v1 (r78 - (1 : Int32)) _ hw) 3 gX7_simplestBetween_X7_storeConvergent rfl ⟨rfl, rfl⟩ nm7_storeConvergent ⟨Nat.le_of_ble_eq_true rfl, Nat.le_of_ble_eq_true rfl⟩ (q0 := 0) rfl rfl rfl rfl hl.1 rfl (Nat.le_of_ble_eq_true rfl) dX7_simplestBetween_83 ⟨Nat.le_of_ble_eq_true rfl, Nat.le_of_ble_eq_true rfl⟩ hPc hDc) (fun r83 u83 H locs hw hP hD hS => ?_)
          obtain ⟨f_tops_83, f_bottoms_83⟩ := u83
          dsimp only at hw
          have hP : va_P D vwCl [((rf 0), o7 rf f_hasSnapshot f_termListSize f_textSize), ((rf 1), ai cI 8 f_tops_83), ((rf 2), ai cI 8 f_bottoms_83), ((rf 14), o1 (rf 17) f_E_size_65 f_E_leftTop f_E_leftBottom f_E_rightTop f_E_rightBottom), ((rf 17), ai cI 64 f_E_terms_65)] H := hP
          have hD : va_D A [((rf 0), o7 rf f_hasSnapshot f_termListSize f_textSize), ((rf 1), ai cI 8 f_tops_83), ((rf 2), ai cI 8 f_bottoms_83), ((rf 14), o1 (rf 17) f_E_size_65 f_E_leftTop f_E_leftBottom f_E_rightTop f_E_rightBottom), ((rf 17), ai cI 64 f_E_terms_65)] := hD
          exact RET _ _ _ (f_tops_83, f_bottoms_83, f_E_size_65, f_E_terms_65) _ _ hw hP hD hS dX7_simplestBetween_86
        · have hw := hw.2 (fun h => k ((lg_cmp_lt _ _).mpr h))
          refine lv_bipush (v := (-2 : Int32)) hx hb dX7_simplestBetween_34 (by decide) ?_
          exact RET _ _ _ (f_tops, f_bottoms, f_E_size, f_E_terms) _ _ hw hP hD hS dX7_simplestBetween_36
      · have hw := hw.2 k
        refine lv_iconst (v := (-1 : Int32)) hx hb dX7_simplestBetween_21 (by decide) ?_
        exact RET _ _ _ (f_tops, f_bottoms, f_E_size, f_E_terms) _ _ hw hP hD hS dX7_simplestBetween_22
