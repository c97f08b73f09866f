abbrev rm7_withoutFactor : Room := { frames := 0, cells := 0, slots := 0, locals := 0 }
theorem nm7_withoutFactor : kNm yX7_withoutFactor 2 := by decide +kernel
set_option maxHeartbeats 4000000 in
set_option maxRecDepth 100000 in
theorem c7_withoutFactor (l : Launch) (D : va_G) (cI cJ cN cR : ClassId)   (v0 : Int32) (v1 : Int32) (post : Int32 → Prop) (hw : w7_withoutFactor v0 v1 post) : Met l yX7_withoutFactor wsX7_withoutFactor rm7_withoutFactor (kR D (kT cI cJ cN cR) [.int v0, .int v1] []) (vp_Si post) 0 0 (fun _ => False) := by
  refine kMetRI (cc := cX7_withoutFactor) (maxL := 4) (by decide +kernel) rfl (Nat.le_of_ble_eq_true rfl) ?_
  intro p e s m args below meth c H ls Q C0 hK hN hP hl RET
  obtain ⟨hx, hb, hml, hown, hts⟩ := id C0
  have hl : lv_has ls 4 [(0, .int v0), (1, .int v1)] := hl
  unfold w7_withoutFactor at hw
  refine lv_iload_n hx hb dX7_withoutFactor_0 rfl (lv_at hl 0 rfl) ?_
  refine lv_istore_n (lv' := [(2, .int v0), (0, .int v0), (1, .int v1)]) hx hb dX7_withoutFactor_1 rfl hl (by decide) rfl (fun ls hl => ?_)
  refine lv_iconst (v := (0 : Int32)) hx hb dX7_withoutFactor_2 (by decide) ?_
  refine lv_istore_n (lv' := [(3, .int (0 : Int32)), (2, .int v0), (0, .int v0), (1, .int v1)]) hx hb dX7_withoutFactor_3 rfl hl (by decide) rfl (fun ls hl => ?_)
  obtain ⟨n4, hw⟩ := hw
  have LOOP_4 : ∀ (n4 : Nat) (v2 : Int32) (v3 : Int32) (ls : Array Slot), w7_withoutFactor_L4 v1 post n4 v2 v3 → lv_has ls 4 [(1, .int v1), (2, .int v2), (3, .int v3)] → W p l e rm7_withoutFactor s m args below meth c H [] 0 0 Q (F0 m 4 ls []) := by
    clear hw hl
    intro n4
    induction n4 with
    | zero =>
      intro v2 v3 ls hw hl
      rw [w7_withoutFactor_L4] at hw
      exact hw.elim
    | succ n4 ih4 =>
      intro v2 v3 ls hw hl
      rw [w7_withoutFactor_L4] at hw
      refine lv_iload_n hx hb dX7_withoutFactor_4 rfl (lv_at hl 2 rfl) ?_
      refine lv_sipush (v := (1000 : Int32)) hx hb dX7_withoutFactor_5 (by decide) ?_
      refine lv_icmp_ge (tgt := 32) hx hb dX7_withoutFactor_8 (by decide) (fun k => ?_) (fun k => ?_)
      · have hw := hw.1 k
        refine lv_iload_n hx hb dX7_withoutFactor_32 rfl (lv_at hl 1 rfl) ?_
        exact RET _ _ _ hw dX7_withoutFactor_33
      · have hw := hw.2 k
        refine lv_iload_n hx hb dX7_withoutFactor_11 rfl (lv_at hl 0 rfl) ?_
        refine lv_iconst (v := (1 : Int32)) hx hb dX7_withoutFactor_12 (by decide) ?_
        refine lv_icmp_le (tgt := 32) hx hb dX7_withoutFactor_13 (by decide) (fun k => ?_) (fun k => ?_)
        · have hw := hw.1 k
          refine lv_iload_n hx hb dX7_withoutFactor_32 rfl (lv_at hl 1 rfl) ?_
          exact RET _ _ _ hw dX7_withoutFactor_33
        · have hw := hw.2 k
          refine lv_iload_n hx hb dX7_withoutFactor_16 rfl (lv_at hl 1 rfl) ?_
          refine lv_iload_n hx hb dX7_withoutFactor_17 rfl (lv_at hl 0 rfl) ?_
          obtain ⟨hne, hw⟩ := hw
          refine lv_irem hx hb dX7_withoutFactor_18 hne ?_
          refine lv_if_ne (tgt := 32) hx hb dX7_withoutFactor_19 (by decide) (fun k => ?_) (fun k => ?_)
          · have hw := hw.1 k
            refine lv_iload_n hx hb dX7_withoutFactor_32 rfl (lv_at hl 1 rfl) ?_
            exact RET _ _ _ hw dX7_withoutFactor_33
          · have hw := hw.2 k
            refine lv_iload_n hx hb dX7_withoutFactor_22 rfl (lv_at hl 1 rfl) ?_
            refine lv_iload_n hx hb dX7_withoutFactor_23 rfl (lv_at hl 0 rfl) ?_
            obtain ⟨hne, hw⟩ := hw
            refine lv_idiv hx hb dX7_withoutFactor_24 hne ?_
            refine lv_topi (fun x25 ex25 => ?_)
            have hw := hw x25 ex25
            refine lv_istore_n (lv' := [(2, .int x25), (1, .int v1), (3, .int v3)]) hx hb dX7_withoutFactor_25 rfl hl (by decide) rfl (fun ls hl => ?_)
            obtain ⟨x26, ex26⟩ : ∃ y : Int32, y = (v3 + (1 : Int32)) := ⟨_, rfl⟩
            have hw := hw x26 ex26
            refine lv_iinc (v := x26) (lv' := [(3, .int x26), (2, .int x25), (1, .int v1)]) hx hb dX7_withoutFactor_26 hl (k := 2) rfl (by rw [ex26]; rfl) (by decide) rfl (fun ls hl => ?_)
            refine lv_goto (tgt := 4) hx hb dX7_withoutFactor_29 (by decide) ?_
            exact ih4 x25 x26 ls hw (lv_sub hl [2, 1, 0] rfl)
  exact LOOP_4 n4 v0 (0 : Int32) ls hw (lv_sub hl [3, 1, 0] rfl)
abbrev rm7_totient : Room := { frames := 1, cells := 0, slots := 0, locals := 23 }
theorem nm7_totient : kNm yX7_totient 1 := by decide +kernel
set_option maxHeartbeats 4000000 in
set_option maxRecDepth 100000 in
theorem c7_totient (l : Launch) (D : va_G) (cI cJ cN cR : ClassId)   (v0 : Int32) (post : Int32 → Prop) (hw : w7_totient v0 post) : Met l yX7_totient wsX7_totient rm7_totient (kR D (kT cI cJ cN cR) [.int v0] []) (vp_Si post) 0 0 (fun _ => False) := by
  refine kMetRI (cc := cX7_totient) (maxL := 4) (by decide +kernel) rfl (Nat.le_of_ble_eq_true rfl) ?_
  intro p e s m args below meth c H ls Q C0 hK hN hP hl RET
  obtain ⟨hx, hb, hml, hown, hts⟩ := id C0
  have hl : lv_has ls 4 [(0, .int v0)] := hl
  unfold w7_totient at hw
  have JOIN_44 : ∀ (v1 : Int32) (v2 : Int32) (ls : Array Slot), w7_totient_J44 v1 v2 post → lv_has ls 4 [(1, .int v1), (2, .int v2)] → W p l e rm7_totient s m args below meth c H [] 0 0 Q (F0 m 44 ls []) := by
    intro v1 v2 ls hw hl
    unfold w7_totient_J44 at hw
    refine lv_iload_n hx hb dX7_totient_44 rfl (lv_at hl 1 rfl) ?_
    refine lv_iconst (v := (1 : Int32)) hx hb dX7_totient_45 (by decide) ?_
    refine lv_icmp_le (tgt := 57) hx hb dX7_totient_46 (by decide) (fun k => ?_) (fun k => ?_)
    · have hw := hw.1 k
      refine lv_iload_n hx hb dX7_totient_57 rfl (lv_at hl 0 rfl) ?_
      exact RET _ _ _ hw dX7_totient_58
    · have hw := hw.2 k
      refine lv_iload_n hx hb dX7_totient_49 rfl (lv_at hl 0 rfl) ?_
      refine lv_iload_n hx hb dX7_totient_50 rfl (lv_at hl 0 rfl) ?_
      refine lv_iload_n hx hb dX7_totient_51 rfl (lv_at hl 1 rfl) ?_
      obtain ⟨hne, hw⟩ := hw
      refine lv_idiv hx hb dX7_totient_52 hne ?_
      refine lv_isub hx hb dX7_totient_53 ?_
      refine lv_goto (tgt := 58) hx hb dX7_totient_54 (by decide) ?_
      exact RET _ _ _ hw dX7_totient_58
  refine lv_iload_n hx hb dX7_totient_0 rfl (lv_at hl 0 rfl) ?_
  refine lv_istore_n (lv' := [(1, .int v0), (0, .int v0)]) hx hb dX7_totient_1 rfl hl (by decide) rfl (fun ls hl => ?_)
  refine lv_iload_n hx hb dX7_totient_2 rfl (lv_at hl 1 rfl) ?_
  refine lv_istore_n (lv' := [(2, .int v0), (1, .int v0), (0, .int v0)]) hx hb dX7_totient_3 rfl hl (by decide) rfl (fun ls hl => ?_)
  refine lv_iconst (v := (2 : Int32)) hx hb dX7_totient_4 (by decide) ?_
  refine lv_istore_n (lv' := [(3, .int (2 : Int32)), (2, .int v0), (1, .int v0), (0, .int v0)]) hx hb dX7_totient_5 rfl hl (by decide) rfl (fun ls hl => ?_)
  obtain ⟨n6, hw⟩ := hw
  have LOOP_6 : ∀ (n6 : Nat) (v1 : Int32) (v2 : Int32) (v3 : Int32) (ls : Array Slot), w7_totient_L6 post n6 v1 v2 v3 → lv_has ls 4 [(1, .int v1), (2, .int v2), (3, .int v3)] → W p l e rm7_totient s m args below meth c H [] 0 0 Q (F0 m 6 ls []) := by
    clear hw hl
    intro n6
    induction n6 with
    | zero =>
      intro v1 v2 v3 ls hw hl
      rw [w7_totient_L6] at hw
      exact hw.elim
    | succ n6 ih6 =>
      intro v1 v2 v3 ls hw hl
      rw [w7_totient_L6] at hw
      refine lv_iload_n hx hb dX7_totient_6 rfl (lv_at hl 2 rfl) ?_
      refine lv_sipush (v := (1000 : Int32)) hx hb dX7_totient_7 (by decide) ?_
      refine lv_icmp_gt (tgt := 44) hx hb dX7_totient_10 (by decide) (fun k => ?_) (fun k => ?_)
      · have hw := hw.1 k
        exact JOIN_44 v1 v2 ls hw (lv_sub hl [0, 1] rfl)
      · have hw := hw.2 k
        refine lv_iload_n hx hb dX7_totient_13 rfl (lv_at hl 2 rfl) ?_
        refine lv_iload_n hx hb dX7_totient_14 rfl (lv_at hl 2 rfl) ?_
        refine lv_imul hx hb dX7_totient_15 ?_
        refine lv_iload_n hx hb dX7_totient_16 rfl (lv_at hl 1 rfl) ?_
        refine lv_icmp_gt (tgt := 44) hx hb dX7_totient_17 (by decide) (fun k => ?_) (fun k => ?_)
        · have hw := hw.1 k
          exact JOIN_44 v1 v2 ls hw (lv_sub hl [0, 1] rfl)
        · have hw := hw.2 k
          refine lv_iload_n hx hb dX7_totient_20 rfl (lv_at hl 1 rfl) ?_
          refine lv_iload_n hx hb dX7_totient_21 rfl (lv_at hl 2 rfl) ?_
          obtain ⟨hne, hw⟩ := hw
          refine lv_irem hx hb dX7_totient_22 hne ?_
          refine lv_if_ne (tgt := 38) hx hb dX7_totient_23 (by decide) (fun k => ?_) (fun k => ?_)
          · have hw := hw.1 k
            obtain ⟨x38, ex38⟩ : ∃ y : Int32, y = (v3 + (1 : Int32)) := ⟨_, rfl⟩
            have hw := hw x38 ex38
            refine lv_iinc (v := x38) (lv' := [(3, .int x38), (1, .int v1), (2, .int v2)]) hx hb dX7_totient_38 hl (k := 2) rfl (by rw [ex38]; rfl) (by decide) rfl (fun ls hl => ?_)
            refine lv_goto (tgt := 6) hx hb dX7_totient_41 (by decide) ?_
            exact ih6 v1 v2 x38 ls hw (lv_sub hl [1, 2, 0] rfl)
          · have hw := hw.2 k
            refine lv_iload_n hx hb dX7_totient_26 rfl (lv_at hl 0 rfl) ?_
            refine lv_iload_n hx hb dX7_totient_27 rfl (lv_at hl 0 rfl) ?_
            refine lv_iload_n hx hb dX7_totient_28 rfl (lv_at hl 2 rfl) ?_
            obtain ⟨hne, hw⟩ := hw
            refine lv_idiv hx hb dX7_totient_29 hne ?_
            refine lv_isub hx hb dX7_totient_30 ?_
            refine lv_topi (fun x31 ex31 => ?_)
            have hw := hw x31 ex31
            refine lv_istore_n (lv' := [(1, .int x31), (2, .int v2), (3, .int v3)]) hx hb dX7_totient_31 rfl hl (by decide) rfl (fun ls hl => ?_)
            refine lv_iload_n hx hb dX7_totient_32 rfl (lv_at hl 1 rfl) ?_
            refine lv_iload_n hx hb dX7_totient_33 rfl (lv_at hl 2 rfl) ?_
            refine kcRI (wc := []) hP [] rfl (fun hPc => oS (As := [.int v2, .int v3]) (rest := []) C0 hK hN (c7_withoutFactor l D cI cJ cN cR   v2 v3 _ hw) 2 gX7_totient_X7_withoutFactor rfl ⟨rfl, rfl⟩ nm7_withoutFactor ⟨Nat.le_of_ble_eq_true rfl, Nat.le_of_ble_eq_true rfl⟩ rfl hl.1 rfl (Nat.le_of_ble_eq_true rfl) dX7_totient_34 ⟨Nat.le_of_ble_eq_true rfl, Nat.le_of_ble_eq_true rfl⟩ hPc) (fun r34 hw => ?_)
            refine lv_istore_n (lv' := [(2, .int r34), (1, .int x31), (3, .int v3)]) hx hb dX7_totient_37 rfl hl (by decide) rfl (fun ls hl => ?_)
            obtain ⟨x38, ex38⟩ : ∃ y : Int32, y = (v3 + (1 : Int32)) := ⟨_, rfl⟩
            have hw := hw x38 ex38
            refine lv_iinc (v := x38) (lv' := [(3, .int x38), (2, .int r34), (1, .int x31)]) hx hb dX7_totient_38 hl (k := 2) rfl (by rw [ex38]; rfl) (by decide) rfl (fun ls hl => ?_)
            refine lv_goto (tgt := 6) hx hb dX7_totient_41 (by decide) ?_
            exact ih6 x31 r34 x38 ls hw (lv_sub hl [2, 1, 0] rfl)
  exact LOOP_6 n6 v0 v0 (2 : Int32) ls hw (lv_sub hl [2, 1, 0] rfl)
abbrev rm7_fareyCount : Room := { frames := 2, cells := 0, slots := 0, locals := 46 }
theorem nm7_fareyCount : kNm yX7_fareyCount 1 := by decide +kernel
set_option maxHeartbeats 4000000 in
set_option maxRecDepth 100000 in
theorem c7_fareyCount (l : Launch) (D : va_G) (cI cJ cN cR : ClassId) (rf : Nat → Nat) (f_hasSnapshot : Int32) (f_termListSize : Int32) (f_textSize : Int32) (v1 : Int32) (post : Int32 → Prop) (hw : w7_fareyCount v1 post) : Met l yX7_fareyCount wsX7_fareyCount rm7_fareyCount (kR D (kT cI cJ cN cR) [.ref (rf 0), .int v1] [((rf 0), o7 rf f_hasSnapshot f_termListSize f_textSize)]) (vp_Si post) 0 0 (fun _ => False) := by
  refine kMetRI (cc := cX7_fareyCount) (maxL := 4) (by decide +kernel) rfl (Nat.le_of_ble_eq_true rfl) ?_
  intro p e s m args below meth c H ls Q C0 hK hN hP hl RET
  obtain ⟨hx, hb, hml, hown, hts⟩ := id C0
  have hl : lv_has ls 4 [(0, .ref (rf 0)), (1, .int v1)] := hl
  unfold w7_fareyCount at hw
  refine lv_iload_n hx hb dX7_fareyCount_0 rfl (lv_at hl 1 rfl) ?_
  refine lv_iconst (v := (1 : Int32)) hx hb dX7_fareyCount_1 (by decide) ?_
  refine lv_sipush (v := (1000 : Int32)) hx hb dX7_fareyCount_2 (by decide) ?_
  refine kcRI (wc := []) hP [] rfl (fun hPc => oS (As := [.int v1, .int (1 : Int32), .int (1000 : Int32)]) (rest := []) C0 hK hN (c7_isIn l D cI cJ cN cR   v1 (1 : Int32) (1000 : Int32) _ hw) 3 gX7_fareyCount_X7_isIn rfl ⟨rfl, rfl⟩ nm7_isIn ⟨Nat.le_of_ble_eq_true rfl, Nat.le_of_ble_eq_true rfl⟩ rfl hl.1 rfl (Nat.le_of_ble_eq_true rfl) dX7_fareyCount_5 ⟨Nat.le_of_ble_eq_true rfl, Nat.le_of_ble_eq_true rfl⟩ hPc) (fun r5 hw => ?_)
  obtain ⟨nb5, hw⟩ := hw
  refine lv_if_ne (tgt := 13) hx hb dX7_fareyCount_8 (by decide) (fun k => ?_) (fun k => ?_)
  · have hw := hw.1 k
    refine lv_iconst (v := (0 : Int32)) hx hb dX7_fareyCount_13 (by decide) ?_
    refine lv_istore_n (lv' := [(2, .int (0 : Int32)), (0, .ref (rf 0)), (1, .int v1)]) hx hb dX7_fareyCount_14 rfl hl (by decide) rfl (fun ls hl => ?_)
    refine lv_iconst (v := (1 : Int32)) hx hb dX7_fareyCount_15 (by decide) ?_
    refine lv_istore_n (lv' := [(3, .int (1 : Int32)), (2, .int (0 : Int32)), (0, .ref (rf 0)), (1, .int v1)]) hx hb dX7_fareyCount_16 rfl hl (by decide) rfl (fun ls hl => ?_)
    obtain ⟨n17, hw⟩ := hw
    have LOOP_17 : ∀ (n17 : Nat) (v2 : Int32) (v3 : Int32) (ls : Array Slot), w7_fareyCount_L17 v1 post n17 v2 v3 → lv_has ls 4 [(1, .int v1), (2, .int v2), (3, .int v3)] → W p l e rm7_fareyCount s m args below meth c H [] 0 0 Q (F0 m 17 ls []) := by
      clear hw hl
      intro n17
      induction n17 with
      | zero =>
        intro v2 v3 ls hw hl
        rw [w7_fareyCount_L17] at hw
        exact hw.elim
      | succ n17 ih17 =>
        intro v2 v3 ls hw hl
        rw [w7_fareyCount_L17] at hw
        refine lv_iload_n hx hb dX7_fareyCount_17 rfl (lv_at hl 2 rfl) ?_
        refine lv_iload_n hx hb dX7_fareyCount_18 rfl (lv_at hl 0 rfl) ?_
        refine lv_icmp_gt (tgt := 35) hx hb dX7_fareyCount_19 (by decide) (fun k => ?_) (fun k => ?_)
        · have hw := hw.1 k
          refine lv_iload_n hx hb dX7_fareyCount_35 rfl (lv_at hl 1 rfl) ?_
          exact RET _ _ _ hw dX7_fareyCount_36
        · have hw := hw.2 k
          refine lv_iload_n hx hb dX7_fareyCount_22 rfl (lv_at hl 1 rfl) ?_
          refine lv_iload_n hx hb dX7_fareyCount_23 rfl (lv_at hl 2 rfl) ?_
          refine kcRI (wc := []) hP [] rfl (fun hPc => oS (As := [.int v3]) (rest := [.int v2]) C0 hK hN (c7_totient l D cI cJ cN cR   v3 _ hw) 1 gX7_fareyCount_X7_totient rfl ⟨rfl, rfl⟩ nm7_totient ⟨Nat.le_of_ble_eq_true rfl, Nat.le_of_ble_eq_true rfl⟩ rfl hl.1 rfl (Nat.le_of_ble_eq_true rfl) dX7_fareyCount_24 ⟨Nat.le_of_ble_eq_true rfl, Nat.le_of_ble_eq_true rfl⟩ hPc) (fun r24 hw => ?_)
          refine lv_iadd hx hb dX7_fareyCount_27 ?_
          refine lv_topi (fun x28 ex28 => ?_)
          have hw := hw x28 ex28
          refine lv_istore_n (lv' := [(2, .int x28), (1, .int v1), (3, .int v3)]) hx hb dX7_fareyCount_28 rfl hl (by decide) rfl (fun ls hl => ?_)
          obtain ⟨x29, ex29⟩ : ∃ y : Int32, y = (v3 + (1 : Int32)) := ⟨_, rfl⟩
          have hw := hw x29 ex29
          refine lv_iinc (v := x29) (lv' := [(3, .int x29), (2, .int x28), (1, .int v1)]) hx hb dX7_fareyCount_29 hl (k := 2) rfl (by rw [ex29]; rfl) (by decide) rfl (fun ls hl => ?_)
          refine lv_goto (tgt := 17) hx hb dX7_fareyCount_32 (by decide) ?_
          exact ih17 x28 x29 ls hw (lv_sub hl [2, 1, 0] rfl)
    exact LOOP_17 n17 (0 : Int32) (1 : Int32) ls hw (lv_sub hl [3, 1, 0] rfl)
  · have hw := hw.2 k
    refine lv_iconst (v := (-1 : Int32)) hx hb dX7_fareyCount_11 (by decide) ?_
    exact RET _ _ _ hw dX7_fareyCount_12
abbrev rm7_calkinWilfIndex : Room := { frames := 3, cells := 0, slots := 0, locals := 68 }
theorem nm7_calkinWilfIndex : kNm yX7_calkinWilfIndex 1 := by decide +kernel
set_option maxHeartbeats 4000000 in
set_option maxRecDepth 100000 in
theorem c7_calkinWilfIndex (l : Launch) (D : va_G) (cI cJ cN cR : ClassId) (rf : Nat → Nat) (sz : Nat) (f_hasSnapshot : Int32) (f_termListSize : Int32) (f_textSize : Int32) (f_tops : (Nat → Int32)) (f_bottoms : (Nat → Int32)) (f_E_size : Int32) (f_E_leftTop : Int64) (f_E_leftBottom : Int64) (f_E_rightTop : Int64) (f_E_rightBottom : Int64) (f_E_terms : (Nat → Int32)) (v1 : Int32) (post : Int64 → Int32 → (Nat → Int32) → Prop) (hw : w7_calkinWilfIndex f_tops f_bottoms f_E_size f_E_terms v1 post) : Met l yX7_calkinWilfIndex wsX7_calkinWilfIndex rm7_calkinWilfIndex (kP D (kT cI cJ cN cR) sz [.ref (rf 0), .int v1] [((rf 0), o7 rf f_hasSnapshot f_termListSize f_textSize), ((rf 1), ai cI 8 f_tops), ((rf 2), ai cI 8 f_bottoms), ((rf 14), o1 (rf 17) f_E_size f_E_leftTop f_E_leftBottom f_E_rightTop f_E_rightBottom), ((rf 17), ai cI 64 f_E_terms)]) (kQl D [((rf 0), o7 rf f_hasSnapshot f_termListSize f_textSize), ((rf 1), ai cI 8 f_tops), ((rf 2), ai cI 8 f_bottoms), ((rf 14), o1 (rf 17) f_E_size f_E_leftTop f_E_leftBottom f_E_rightTop f_E_rightBottom), ((rf 17), ai cI 64 f_E_terms)] sz (fun (r : Int64) (u : Int32 × (Nat → Int32)) => post r u.1 u.2) (fun (u : Int32 × (Nat → Int32)) => [((rf 0), o7 rf f_hasSnapshot f_termListSize f_textSize), ((rf 1), ai cI 8 f_tops), ((rf 2), ai cI 8 f_bottoms), ((rf 14), o1 (rf 17) u.1 f_E_leftTop f_E_leftBottom f_E_rightTop f_E_rightBottom), ((rf 17), ai cI 64 u.2)])) 0 0 (va_A [((rf 0), o7 rf f_hasSnapshot f_termListSize f_textSize), ((rf 1), ai cI 8 f_tops), ((rf 2), ai cI 8 f_bottoms), ((rf 14), o1 (rf 17) f_E_size f_E_leftTop f_E_leftBottom f_E_rightTop f_E_rightBottom), ((rf 17), ai cI 64 f_E_terms)] sz) := by
  refine kMetL (cc := cX7_calkinWilfIndex) (maxL := 8) (by decide +kernel) rfl (Nat.le_of_ble_eq_true rfl) ?_
  intro p e s m args below meth c H0 ls A Q C0 hK hN hP hD hS hA hl RET
  obtain ⟨hx, hb, hml, hown, hts⟩ := id C0
  have hl : lv_has ls 8 [(0, .ref (rf 0)), (1, .int v1)] := hl
  have g9 := hts (.fieldLink RX7 9 "SternBrocotExplorer" "tops" "[I") (by decide +kernel)
  have g13 := hts (.fieldLink RX7 13 "SternBrocotExplorer" "bottoms" "[I") (by decide +kernel)
  have hi9 : ∀ w ∈ wsX70, w ∈ wsX7_calkinWilfIndex := fun w h => List.mem_cons_of_mem _ (List.mem_append_left _ (List.mem_append_right _ h))
  unfold w7_calkinWilfIndex at hw
  have hP : va_P D vwCl [((rf 0), o7 rf f_hasSnapshot f_termListSize f_textSize), ((rf 1), ai cI 8 f_tops), ((rf 2), ai cI 8 f_bottoms), ((rf 14), o1 (rf 17) f_E_size f_E_leftTop f_E_leftBottom f_E_rightTop f_E_rightBottom), ((rf 17), ai cI 64 f_E_terms)] H0 := hP
  refine lv_iload_n hx hb dX7_calkinWilfIndex_0 rfl (lv_at hl 1 rfl) ?_
  refine kcRI (wc := []) hP [] rfl (fun hPc => oS (As := [.int v1]) (rest := []) C0 hK hN (c7_isRegister l D cI cJ cN cR   v1 _ hw) 1 gX7_calkinWilfIndex_X7_isRegister rfl ⟨rfl, rfl⟩ nm7_isRegister ⟨Nat.le_of_ble_eq_true rfl, Nat.le_of_ble_eq_true rfl⟩ rfl hl.1 rfl (Nat.le_of_ble_eq_true rfl) dX7_calkinWilfIndex_1 ⟨Nat.le_of_ble_eq_true rfl, Nat.le_of_ble_eq_true rfl⟩ hPc) (fun r1 hw => ?_)
  obtain ⟨nb1, hw⟩ := hw
  refine lv_if_ne (tgt := 11) hx hb dX7_calkinWilfIndex_4 (by decide) (fun k => ?_) (fun k => ?_)
  · have hw := hw.1 k
    refine lv_aload_n hx hb dX7_calkinWilfIndex_11 rfl (lv_at hl 0 rfl) ?_
    refine lv_iload_n hx hb dX7_calkinWilfIndex_12 rfl (lv_at hl 1 rfl) ?_
    refine kcR (wc := [((rf 0), o7 rf f_hasSnapshot f_termListSize f_textSize), ((rf 1), ai cI 8 f_tops), ((rf 2), ai cI 8 f_bottoms), ((rf 14), o1 (rf 17) f_E_size f_E_leftTop f_E_leftBottom f_E_rightTop f_E_rightBottom), ((rf 17), ai cI 64 f_E_terms)]) (wr := []) hP hD hS hA [0, 1, 2, 3, 4] [] rfl rfl ⟨rfl, rfl, by decide⟩ (fun hPc hDc => rV (As := [.int v1]) (rest := []) C0 hK hN (c7_expand l D cI cJ cN cR rf H0.size f_hasSnapshot f_termListSize f_textSize f_tops f_bottoms f_E_size f_E_leftTop f_E_leftBottom f_E_rightTop f_E_rightBottom f_E_terms v1 _ hw) 1 gX7_calkinWilfIndex_X7_expand rfl ⟨rfl, rfl⟩ nm7_expand ⟨Nat.le_of_ble_eq_true rfl, Nat.le_of_ble_eq_true rfl⟩ (q0 := 0) rfl rfl rfl rfl hl.1 rfl (Nat.le_of_ble_eq_true rfl) dX7_calkinWilfIndex_13 ⟨Nat.le_of_ble_eq_true rfl, Nat.le_of_ble_eq_true rfl⟩ hPc hDc) (fun u13 H locs hw hP hD hS => ?_)
    obtain ⟨f_E_size_13, f_E_terms_13⟩ := u13
    dsimp only at hw
    have hP : va_P D vwCl [((rf 0), o7 rf f_hasSnapshot f_termListSize f_textSize), ((rf 1), ai cI 8 f_tops), ((rf 2), ai cI 8 f_bottoms), ((rf 14), o1 (rf 17) f_E_size_13 f_E_leftTop f_E_leftBottom f_E_rightTop f_E_rightBottom), ((rf 17), ai cI 64 f_E_terms_13)] H := hP
    have hD : va_D A [((rf 0), o7 rf f_hasSnapshot f_termListSize f_textSize), ((rf 1), ai cI 8 f_tops), ((rf 2), ai cI 8 f_bottoms), ((rf 14), o1 (rf 17) f_E_size_13 f_E_leftTop f_E_leftBottom f_E_rightTop f_E_rightBottom), ((rf 17), ai cI 64 f_E_terms_13)] := hD
    refine kcRI (wc := [((rf 14), o1 (rf 17) f_E_size_13 f_E_leftTop f_E_leftBottom f_E_rightTop f_E_rightBottom), ((rf 17), ai cI 64 f_E_terms_13)]) hP [3, 4] rfl (fun hPc => oV (As := []) (rest := []) C0 hK hN (c1_stepCount l D cI cJ cN cR (rf 14) (rf 17) f_E_size_13 f_E_leftTop f_E_leftBottom f_E_rightTop f_E_rightBottom f_E_terms_13  _ hw) 0 gX7_calkinWilfIndex_X1_stepCount rfl ⟨rfl, rfl⟩ nm1_stepCount ⟨Nat.le_of_ble_eq_true rfl, Nat.le_of_ble_eq_true rfl⟩ (q0 := 0) rfl rfl rfl rfl hl.1 rfl (Nat.le_of_ble_eq_true rfl) dX7_calkinWilfIndex_16 ⟨Nat.le_of_ble_eq_true rfl, Nat.le_of_ble_eq_true rfl⟩ hPc) (fun r16 hw => ?_)
    refine lv_istore_n (lv' := [(2, .int r16), (0, .ref (rf 0)), (1, .int v1)]) hx hb dX7_calkinWilfIndex_19 rfl hl (by decide) rfl (fun ls hl => ?_)
    refine lv_iload_n hx hb dX7_calkinWilfIndex_20 rfl (lv_at hl 0 rfl) ?_
    refine lv_bipush (v := (60 : Int32)) hx hb dX7_calkinWilfIndex_21 (by decide) ?_
    refine lv_icmp_le (tgt := 30) hx hb dX7_calkinWilfIndex_23 (by decide) (fun k => ?_) (fun k => ?_)
    · have hw := hw.1 k
      refine lv_aload_n hx hb dX7_calkinWilfIndex_30 rfl (lv_at hl 1 rfl) ?_
      refine va_get (D := D) (ci := 7) (v := .ref (rf 1)) (C := RX7) (T := TX7) (N := 16) hx hb hts hi9 hown hK hP 0 rfl rfl 0 (by decide) g9 (fun _ h9 => h9) rfl dX7_calkinWilfIndex_31 ?_
      refine lv_iload_n hx hb dX7_calkinWilfIndex_34 rfl (lv_at hl 2 rfl) ?_
      obtain ⟨hin, hw⟩ := hw
      refine va_iald hx hb hK hP 1 0 rfl rfl hin dX7_calkinWilfIndex_35 ?_
      refine lv_topi (fun x36 ex36 => ?_)
      have hw := hw x36 ex36
      refine lv_istore_n (lv' := [(3, .int x36), (2, .int r16), (0, .ref (rf 0)), (1, .int v1)]) hx hb dX7_calkinWilfIndex_36 rfl hl (by decide) rfl (fun ls hl => ?_)
      refine lv_aload_n hx hb dX7_calkinWilfIndex_37 rfl (lv_at hl 2 rfl) ?_
      refine va_get (D := D) (ci := 7) (v := .ref (rf 2)) (C := RX7) (T := TX7) (N := 16) hx hb hts hi9 hown hK hP 0 rfl rfl 1 (by decide) g13 (fun _ h9 => h9) rfl dX7_calkinWilfIndex_38 ?_
      refine lv_iload_n hx hb dX7_calkinWilfIndex_41 rfl (lv_at hl 3 rfl) ?_
      obtain ⟨hin, hw⟩ := hw
      refine va_iald hx hb hK hP 2 0 rfl rfl hin dX7_calkinWilfIndex_42 ?_
      refine lv_topi (fun x43 ex43 => ?_)
      have hw := hw x43 ex43
      refine lv_istore (lv' := [(4, .int x43), (3, .int x36), (2, .int r16), (0, .ref (rf 0)), (1, .int v1)]) hx hb dX7_calkinWilfIndex_43 hl (by decide) rfl (fun ls hl => ?_)
      refine lv_lconst (v := (1 : Int64)) hx hb dX7_calkinWilfIndex_45 (by decide) ?_
      refine lv_iload_n hx hb dX7_calkinWilfIndex_46 rfl (lv_at hl 2 rfl) ?_
      refine lv_lshl hx hb dX7_calkinWilfIndex_47 rfl ?_
      refine lv_topl (fun x48 ex48 => ?_)
      have hw := hw x48 ex48
      refine lv_lstore (lv' := [(5, .long x48), (4, .int x43), (3, .int x36), (2, .int r16), (0, .ref (rf 0)), (1, .int v1)]) hx hb dX7_calkinWilfIndex_48 hl (by decide) rfl (fun ls hl => ?_)
      refine lv_iconst (v := (0 : Int32)) hx hb dX7_calkinWilfIndex_50 (by decide) ?_
      refine lv_istore (lv' := [(7, .int (0 : Int32)), (5, .long x48), (4, .int x43), (3, .int x36), (2, .int r16), (0, .ref (rf 0)), (1, .int v1)]) hx hb dX7_calkinWilfIndex_51 hl (by decide) rfl (fun ls hl => ?_)
      obtain ⟨n53, hw⟩ := hw
      have LOOP_53 : ∀ (n53 : Nat) (v3 : Int32) (v4 : Int32) (v5 : Int64) (v7 : Int32) (H : Heap) (locs : List Loc) (ls : Array Slot), w7_calkinWilfIndex_L53 f_E_size_13 f_E_terms_13 r16 post n53 v3 v4 v5 v7 → va_P D vwCl [((rf 0), o7 rf f_hasSnapshot f_termListSize f_textSize), ((rf 1), ai cI 8 f_tops), ((rf 2), ai cI 8 f_bottoms), ((rf 14), o1 (rf 17) f_E_size_13 f_E_leftTop f_E_leftBottom f_E_rightTop f_E_rightBottom), ((rf 17), ai cI 64 f_E_terms_13)] H → va_D A [((rf 0), o7 rf f_hasSnapshot f_termListSize f_textSize), ((rf 1), ai cI 8 f_tops), ((rf 2), ai cI 8 f_bottoms), ((rf 14), o1 (rf 17) f_E_size_13 f_E_leftTop f_E_leftBottom f_E_rightTop f_E_rightBottom), ((rf 17), ai cI 64 f_E_terms_13)] → va_S A H0 H locs → lv_has ls 8 [(2, .int r16), (3, .int v3), (4, .int v4), (5, .long v5), (7, .int v7)] → W p l e rm7_calkinWilfIndex s m args below meth c H locs 0 0 Q (F0 m 53 ls []) := by
        clear hw hl hP hD hS
        intro n53
        induction n53 with
        | zero =>
          intro v3 v4 v5 v7 H locs ls hw hP hD hS hl
          rw [w7_calkinWilfIndex_L53] at hw
          exact hw.elim
        | succ n53 ih53 =>
          intro v3 v4 v5 v7 H locs ls hw hP hD hS hl
          rw [w7_calkinWilfIndex_L53] at hw
          refine lv_iload hx hb dX7_calkinWilfIndex_53 (lv_at hl 4 rfl) ?_
          refine lv_iload_n hx hb dX7_calkinWilfIndex_55 rfl (lv_at hl 0 rfl) ?_
          refine lv_icmp_ge (tgt := 94) hx hb dX7_calkinWilfIndex_56 (by decide) (fun k => ?_) (fun k => ?_)
          · have hw := hw.1 k
            refine lv_lload hx hb dX7_calkinWilfIndex_94 (lv_at hl 3 rfl) ?_
            exact RET _ _ _ (f_E_size_13, f_E_terms_13) _ _ hw hP hD hS dX7_calkinWilfIndex_96
          · have hw := hw.2 k
            refine lv_iload_n hx hb dX7_calkinWilfIndex_59 rfl (lv_at hl 1 rfl) ?_
            refine lv_iload hx hb dX7_calkinWilfIndex_60 (lv_at hl 2 rfl) ?_
            refine lv_icmp_le (tgt := 82) hx hb dX7_calkinWilfIndex_62 (by decide) (fun k => ?_) (fun k => ?_)
            · have hw := hw.1 k
              refine lv_iload hx hb dX7_calkinWilfIndex_82 (lv_at hl 2 rfl) ?_
              refine lv_iload_n hx hb dX7_calkinWilfIndex_84 rfl (lv_at hl 1 rfl) ?_
              refine lv_isub hx hb dX7_calkinWilfIndex_85 ?_
              refine lv_topi (fun x86 ex86 => ?_)
              have hw := hw x86 ex86
              refine lv_istore (lv' := [(4, .int x86), (2, .int r16), (3, .int v3), (5, .long v5), (7, .int v7)]) hx hb dX7_calkinWilfIndex_86 hl (by decide) rfl (fun ls hl => ?_)
              obtain ⟨x88, ex88⟩ : ∃ y : Int32, y = (v7 + (1 : Int32)) := ⟨_, rfl⟩
              have hw := hw x88 ex88
              refine lv_iinc (v := x88) (lv' := [(7, .int x88), (4, .int x86), (2, .int r16), (3, .int v3), (5, .long v5)]) hx hb dX7_calkinWilfIndex_88 hl (k := 4) rfl (by rw [ex88]; rfl) (by decide) rfl (fun ls hl => ?_)
              refine lv_goto (tgt := 53) hx hb dX7_calkinWilfIndex_91 (by decide) ?_
              exact ih53 v3 x86 v5 x88 _ _ ls hw hP hD hS (lv_sub hl [2, 3, 1, 4, 0] rfl)
            · have hw := hw.2 k
              refine lv_lload hx hb dX7_calkinWilfIndex_65 (lv_at hl 3 rfl) ?_
              refine lv_lconst (v := (1 : Int64)) hx hb dX7_calkinWilfIndex_67 (by decide) ?_
              refine lv_iload hx hb dX7_calkinWilfIndex_68 (lv_at hl 4 rfl) ?_
              refine lv_lshl hx hb dX7_calkinWilfIndex_70 rfl ?_
              refine lv_lor hx hb dX7_calkinWilfIndex_71 ?_
              refine lv_topl (fun x72 ex72 => ?_)
              have hw := hw x72 ex72
              refine lv_lstore (lv' := [(5, .long x72), (2, .int r16), (3, .int v3), (4, .int v4), (7, .int v7)]) hx hb dX7_calkinWilfIndex_72 hl (by decide) rfl (fun ls hl => ?_)
              refine lv_iload_n hx hb dX7_calkinWilfIndex_74 rfl (lv_at hl 2 rfl) ?_
              refine lv_iload hx hb dX7_calkinWilfIndex_75 (lv_at hl 3 rfl) ?_
              refine lv_isub hx hb dX7_calkinWilfIndex_77 ?_
              refine lv_topi (fun x78 ex78 => ?_)
              have hw := hw x78 ex78
              refine lv_istore_n (lv' := [(3, .int x78), (5, .long x72), (2, .int r16), (4, .int v4), (7, .int v7)]) hx hb dX7_calkinWilfIndex_78 rfl hl (by decide) rfl (fun ls hl => ?_)
              refine lv_goto (tgt := 88) hx hb dX7_calkinWilfIndex_79 (by decide) ?_
              obtain ⟨x88, ex88⟩ : ∃ y : Int32, y = (v7 + (1 : Int32)) := ⟨_, rfl⟩
              have hw := hw x88 ex88
              refine lv_iinc (v := x88) (lv' := [(7, .int x88), (3, .int x78), (5, .long x72), (2, .int r16), (4, .int v4)]) hx hb dX7_calkinWilfIndex_88 hl (k := 4) rfl (by rw [ex88]; rfl) (by decide) rfl (fun ls hl => ?_)
              refine lv_goto (tgt := 53) hx hb dX7_calkinWilfIndex_91 (by decide) ?_
              exact ih53 x78 v4 x72 x88 _ _ ls hw hP hD hS (lv_sub hl [3, 1, 4, 2, 0] rfl)
      exact LOOP_53 n53 x36 x43 x48 (0 : Int32) _ _ ls hw hP hD hS (lv_sub hl [4, 3, 2, 1, 0] rfl)
    · have hw := hw.2 k
      refine lv_ldc2 (v := (-3 : Int64)) hx hb hown (hts (.constantLong RX7 172 (-3)) (by decide +kernel)) dX7_calkinWilfIndex_26 ?_
      exact RET _ _ _ (f_E_size_13, f_E_terms_13) _ _ hw hP hD hS dX7_calkinWilfIndex_29
  · have hw := hw.2 k
    refine lv_ldc2 (v := (-9223372036854775808 : Int64)) hx hb hown (hts (.constantLong RX7 79 (-9223372036854775808)) (by decide +kernel)) dX7_calkinWilfIndex_7 ?_
    exact RET _ _ _ (f_E_size, f_E_terms) _ _ hw hP hD hS dX7_calkinWilfIndex_10
abbrev rm7_fromCalkinWilf : Room := { frames := 2, cells := 0, slots := 0, locals := 61 }
theorem nm7_fromCalkinWilf : kNm yX7_fromCalkinWilf 2 := by decide +kernel
set_option maxHeartbeats 4000000 in
set_option maxRecDepth 100000 in
theorem c7_fromCalkinWilf (l : Launch) (D : va_G) (cI cJ cN cR : ClassId) (rf : Nat → Nat) (sz : Nat) (f_hasSnapshot : Int32) (f_termListSize : Int32) (f_textSize : Int32) (f_tops : (Nat → Int32)) (f_bottoms : (Nat → Int32)) (v1 : Int32) (v2 : Int64) (post : Int32 → (Nat → Int32) → (Nat → Int32) → Prop) (hw : w7_fromCalkinWilf f_tops f_bottoms v1 v2 post) : Met l yX7_fromCalkinWilf wsX7_fromCalkinWilf rm7_fromCalkinWilf (kP D (kT cI cJ cN cR) sz [.ref (rf 0), .int v1, .long v2] [((rf 0), o7 rf f_hasSnapshot f_termListSize f_textSize), ((rf 1), ai cI 8 f_tops), ((rf 2), ai cI 8 f_bottoms)]) (kQi D [((rf 0), o7 rf f_hasSnapshot f_termListSize f_textSize), ((rf 1), ai cI 8 f_tops), ((rf 2), ai cI 8 f_bottoms)] sz (fun (r : Int32) (u : (Nat → Int32) × (Nat → Int32)) => post r u.1 u.2) (fun (u : (Nat → Int32) × (Nat → Int32)) => [((rf 0), o7 rf f_hasSnapshot f_termListSize f_textSize), ((rf 1), ai cI 8 u.1), ((rf 2), ai cI 8 u.2)])) 0 0 (va_A [((rf 0), o7 rf f_hasSnapshot f_termListSize f_textSize), ((rf 1), ai cI 8 f_tops), ((rf 2), ai cI 8 f_bottoms)] sz) := by
  refine kMetI (cc := cX7_fromCalkinWilf) (maxL := 11) (by decide +kernel) rfl (Nat.le_of_ble_eq_true rfl) ?_
  intro p e s m args below meth c H0 ls A Q C0 hK hN hP hD hS hA hl RET
  obtain ⟨hx, hb, hml, hown, hts⟩ := id C0
  have hl : lv_has ls 11 [(0, .ref (rf 0)), (1, .int v1), (2, .long v2)] := hl
  unfold w7_fromCalkinWilf at hw
  have hP : va_P D vwCl [((rf 0), o7 rf f_hasSnapshot f_termListSize f_textSize), ((rf 1), ai cI 8 f_tops), ((rf 2), ai cI 8 f_bottoms)] H0 := hP
  refine lv_iload_n hx hb dX7_fromCalkinWilf_0 rfl (lv_at hl 1 rfl) ?_
  refine kcRI (wc := []) hP [] rfl (fun hPc => oS (As := [.int v1]) (rest := []) C0 hK hN (c7_isRegister l D cI cJ cN cR   v1 _ hw) 1 gX7_fromCalkinWilf_X7_isRegister rfl ⟨rfl, rfl⟩ nm7_isRegister ⟨Nat.le_of_ble_eq_true rfl, Nat.le_of_ble_eq_true rfl⟩ rfl hl.1 rfl (Nat.le_of_ble_eq_true rfl) dX7_fromCalkinWilf_1 ⟨Nat.le_of_ble_eq_true rfl, Nat.le_of_ble_eq_true rfl⟩ hPc) (fun r1 hw => ?_)
  obtain ⟨nb1, hw⟩ := hw
  refine lv_if_eq (tgt := 13) hx hb dX7_fromCalkinWilf_4 (by decide) (fun k => ?_) (fun k => ?_)
  · have hw := hw.1 k
    refine lv_iconst (v := (-1 : Int32)) hx hb dX7_fromCalkinWilf_13 (by decide) ?_
    exact RET _ _ _ (f_tops, f_bottoms) _ _ hw hP hD hS dX7_fromCalkinWilf_14
  · have hw := hw.2 k
    refine lv_lload_n hx hb dX7_fromCalkinWilf_7 rfl (lv_at hl 2 rfl) ?_
    refine lv_lconst (v := (1 : Int64)) hx hb dX7_fromCalkinWilf_8 (by decide) ?_
    refine W.lcmp hx hb dX7_fromCalkinWilf_9 ?_
    refine lv_if_ge (tgt := 15) hx hb dX7_fromCalkinWilf_10 (by decide) (fun k => ?_) (fun k => ?_)
    · have hw := hw.1 ((lg_cmp_ge _ _).mp k)
      refine lv_lconst (v := (1 : Int64)) hx hb dX7_fromCalkinWilf_15 (by decide) ?_
      refine lv_lstore (lv' := [(4, .long (1 : Int64)), (0, .ref (rf 0)), (1, .int v1), (2, .long v2)]) hx hb dX7_fromCalkinWilf_16 hl (by decide) rfl (fun ls hl => ?_)
      refine lv_lconst (v := (1 : Int64)) hx hb dX7_fromCalkinWilf_18 (by decide) ?_
      refine lv_lstore (lv' := [(6, .long (1 : Int64)), (4, .long (1 : Int64)), (0, .ref (rf 0)), (1, .int v1), (2, .long v2)]) hx hb dX7_fromCalkinWilf_19 hl (by decide) rfl (fun ls hl => ?_)
      refine lv_iconst (v := (0 : Int32)) hx hb dX7_fromCalkinWilf_21 (by decide) ?_
      refine lv_istore (lv' := [(8, .int (0 : Int32)), (6, .long (1 : Int64)), (4, .long (1 : Int64)), (0, .ref (rf 0)), (1, .int v1), (2, .long v2)]) hx hb dX7_fromCalkinWilf_22 hl (by decide) rfl (fun ls hl => ?_)
      refine lv_bipush (v := (62 : Int32)) hx hb dX7_fromCalkinWilf_24 (by decide) ?_
      refine lv_istore (lv' := [(9, .int (62 : Int32)), (8, .int (0 : Int32)), (6, .long (1 : Int64)), (4, .long (1 : Int64)), (0, .ref (rf 0)), (1, .int v1), (2, .long v2)]) hx hb dX7_fromCalkinWilf_26 hl (by decide) rfl (fun ls hl => ?_)
      obtain ⟨n28, hw⟩ := hw
      have LOOP_28 : ∀ (n28 : Nat) (v4 : Int64) (v6 : Int64) (v8 : Int32) (v9 : Int32) (H : Heap) (locs : List Loc) (ls : Array Slot), w7_fromCalkinWilf_L28 f_tops f_bottoms v1 v2 post n28 v4 v6 v8 v9 → va_P D vwCl [((rf 0), o7 rf f_hasSnapshot f_termListSize f_textSize), ((rf 1), ai cI 8 f_tops), ((rf 2), ai cI 8 f_bottoms)] H → va_D A [((rf 0), o7 rf f_hasSnapshot f_termListSize f_textSize), ((rf 1), ai cI 8 f_tops), ((rf 2), ai cI 8 f_bottoms)] → va_S A H0 H locs → lv_has ls 11 [(0, .ref (rf 0)), (1, .int v1), (2, .long v2), (4, .long v4), (6, .long v6), (8, .int v8), (9, .int v9)] → W p l e rm7_fromCalkinWilf s m args below meth c H locs 0 0 Q (F0 m 28 ls []) := by
        clear hw hl hP hD hS
        intro n28
        induction n28 with
        | zero =>
          intro v4 v6 v8 v9 H locs ls hw hP hD hS hl
          rw [w7_fromCalkinWilf_L28] at hw
          exact hw.elim
        | succ n28 ih28 =>
          intro v4 v6 v8 v9 H locs ls hw hP hD hS hl
          rw [w7_fromCalkinWilf_L28] at hw
          have JOIN_83 : ∀ (v4 : Int64) (v6 : Int64) (v8 : Int32) (v9 : Int32) (v10 : Int32) (H : Heap) (locs : List Loc) (ls : Array Slot), w7_fromCalkinWilf_J83 f_tops f_bottoms v1 v2 v4 v6 v8 v9 v10 post (fun z0 z1 z2 z3 => w7_fromCalkinWilf_L28 f_tops f_bottoms v1 v2 post n28 z0 z1 z2 z3) → va_P D vwCl [((rf 0), o7 rf f_hasSnapshot f_termListSize f_textSize), ((rf 1), ai cI 8 f_tops), ((rf 2), ai cI 8 f_bottoms)] H → va_D A [((rf 0), o7 rf f_hasSnapshot f_termListSize f_textSize), ((rf 1), ai cI 8 f_tops), ((rf 2), ai cI 8 f_bottoms)] → va_S A H0 H locs → lv_has ls 11 [(0, .ref (rf 0)), (1, .int v1), (2, .long v2), (4, .long v4), (6, .long v6), (8, .int v8), (9, .int v9), (10, .int v10)] → W p l e rm7_fromCalkinWilf s m args below meth c H locs 0 0 Q (F0 m 83 ls []) := by
            intro v4 v6 v8 v9 v10 H locs ls hw hP hD hS hl
            unfold w7_fromCalkinWilf_J83 at hw
            refine lv_iload hx hb dX7_fromCalkinWilf_83 (lv_at hl 5 rfl) ?_
            refine lv_if_ne (tgt := 93) hx hb dX7_fromCalkinWilf_85 (by decide) (fun k => ?_) (fun k => ?_)
            · have hw := hw.1 k
              refine lv_iconst (v := (1 : Int32)) hx hb dX7_fromCalkinWilf_93 (by decide) ?_
              refine lv_goto (tgt := 98) hx hb dX7_fromCalkinWilf_94 (by decide) ?_
              refine lv_istore (lv' := [(8, .int (1 : Int32)), (0, .ref (rf 0)), (1, .int v1), (2, .long v2), (4, .long v4), (6, .long v6), (9, .int v9), (10, .int v10)]) hx hb dX7_fromCalkinWilf_98 hl (by decide) rfl (fun ls hl => ?_)
              obtain ⟨x100, ex100⟩ : ∃ y : Int32, y = (v9 + (-1 : Int32)) := ⟨_, rfl⟩
              have hw := hw x100 ex100
              refine lv_iinc (v := x100) (lv' := [(9, .int x100), (8, .int (1 : Int32)), (0, .ref (rf 0)), (1, .int v1), (2, .long v2), (4, .long v4), (6, .long v6), (10, .int v10)]) hx hb dX7_fromCalkinWilf_100 hl (k := 6) rfl (by rw [ex100]; rfl) (by decide) rfl (fun ls hl => ?_)
              refine lv_goto (tgt := 28) hx hb dX7_fromCalkinWilf_103 (by decide) ?_
              exact ih28 v4 v6 (1 : Int32) x100 _ _ ls hw hP hD hS (lv_sub hl [2, 3, 4, 5, 6, 1, 0] rfl)
            · have hw := hw.2 k
              refine lv_iload hx hb dX7_fromCalkinWilf_88 (lv_at hl 7 rfl) ?_
              refine lv_if_eq (tgt := 97) hx hb dX7_fromCalkinWilf_90 (by decide) (fun k => ?_) (fun k => ?_)
              · have hw := hw.1 k
                refine lv_iconst (v := (0 : Int32)) hx hb dX7_fromCalkinWilf_97 (by decide) ?_
                refine lv_istore (lv' := [(8, .int (0 : Int32)), (0, .ref (rf 0)), (1, .int v1), (2, .long v2), (4, .long v4), (6, .long v6), (9, .int v9), (10, .int v10)]) hx hb dX7_fromCalkinWilf_98 hl (by decide) rfl (fun ls hl => ?_)
                obtain ⟨x100, ex100⟩ : ∃ y : Int32, y = (v9 + (-1 : Int32)) := ⟨_, rfl⟩
                have hw := hw x100 ex100
                refine lv_iinc (v := x100) (lv' := [(9, .int x100), (8, .int (0 : Int32)), (0, .ref (rf 0)), (1, .int v1), (2, .long v2), (4, .long v4), (6, .long v6), (10, .int v10)]) hx hb dX7_fromCalkinWilf_100 hl (k := 6) rfl (by rw [ex100]; rfl) (by decide) rfl (fun ls hl => ?_)
                refine lv_goto (tgt := 28) hx hb dX7_fromCalkinWilf_103 (by decide) ?_
                exact ih28 v4 v6 (0 : Int32) x100 _ _ ls hw hP hD hS (lv_sub hl [2, 3, 4, 5, 6, 1, 0] rfl)
              · have hw := hw.2 k
                refine lv_iconst (v := (1 : Int32)) hx hb dX7_fromCalkinWilf_93 (by decide) ?_
                refine lv_goto (tgt := 98) hx hb dX7_fromCalkinWilf_94 (by decide) ?_
                refine lv_istore (lv' := [(8, .int (1 : Int32)), (0, .ref (rf 0)), (1, .int v1), (2, .long v2), (4, .long v4), (6, .long v6), (9, .int v9), (10, .int v10)]) hx hb dX7_fromCalkinWilf_98 hl (by decide) rfl (fun ls hl => ?_)
                obtain ⟨x100, ex100⟩ : ∃ y : Int32, y = (v9 + (-1 : Int32)) := ⟨_, rfl⟩
                have hw := hw x100 ex100
                refine lv_iinc (v := x100) (lv' := [(9, .int x100), (8, .int (1 : Int32)), (0, .ref (rf 0)), (1, .int v1), (2, .long v2), (4, .long v4), (6, .long v6), (10, .int v10)]) hx hb dX7_fromCalkinWilf_100 hl (k := 6) rfl (by rw [ex100]; rfl) (by decide) rfl (fun ls hl => ?_)
                refine lv_goto (tgt := 28) hx hb dX7_fromCalkinWilf_103 (by decide) ?_
                exact ih28 v4 v6 (1 : Int32) x100 _ _ ls hw hP hD hS (lv_sub hl [2, 3, 4, 5, 6, 1, 0] rfl)
          have JOIN_71 : ∀ (v4 : Int64) (v6 : Int64) (v8 : Int32) (v9 : Int32) (v10 : Int32) (H : Heap) (locs : List Loc) (ls : Array Slot), w7_fromCalkinWilf_J71 f_tops f_bottoms v1 v2 v4 v6 v8 v9 v10 post (fun z0 z1 z2 z3 => w7_fromCalkinWilf_L28 f_tops f_bottoms v1 v2 post n28 z0 z1 z2 z3) → va_P D vwCl [((rf 0), o7 rf f_hasSnapshot f_termListSize f_textSize), ((rf 1), ai cI 8 f_tops), ((rf 2), ai cI 8 f_bottoms)] H → va_D A [((rf 0), o7 rf f_hasSnapshot f_termListSize f_textSize), ((rf 1), ai cI 8 f_tops), ((rf 2), ai cI 8 f_bottoms)] → va_S A H0 H locs → lv_has ls 11 [(0, .ref (rf 0)), (1, .int v1), (2, .long v2), (4, .long v4), (6, .long v6), (8, .int v8), (9, .int v9), (10, .int v10)] → W p l e rm7_fromCalkinWilf s m args below meth c H locs 0 0 Q (F0 m 71 ls []) := by
            intro v4 v6 v8 v9 v10 H locs ls hw hP hD hS hl
            unfold w7_fromCalkinWilf_J71 at hw
            refine lv_iload hx hb dX7_fromCalkinWilf_71 (lv_at hl 5 rfl) ?_
            refine lv_if_eq (tgt := 83) hx hb dX7_fromCalkinWilf_73 (by decide) (fun k => ?_) (fun k => ?_)
            · have hw := hw.1 k
              exact JOIN_83 v4 v6 v8 v9 v10 _ _ ls hw hP hD hS (lv_sub hl [0, 1, 2, 3, 4, 5, 6, 7] rfl)
            · have hw := hw.2 k
              refine lv_lload hx hb dX7_fromCalkinWilf_76 (lv_at hl 4 rfl) ?_
              refine lv_lload hx hb dX7_fromCalkinWilf_78 (lv_at hl 3 rfl) ?_
              refine lv_ladd hx hb dX7_fromCalkinWilf_80 ?_
              refine lv_topl (fun x81 ex81 => ?_)
              have hw := hw x81 ex81
              refine lv_lstore (lv' := [(6, .long x81), (0, .ref (rf 0)), (1, .int v1), (2, .long v2), (4, .long v4), (8, .int v8), (9, .int v9), (10, .int v10)]) hx hb dX7_fromCalkinWilf_81 hl (by decide) rfl (fun ls hl => ?_)
              exact JOIN_83 v4 x81 v8 v9 v10 _ _ ls hw hP hD hS (lv_sub hl [1, 2, 3, 4, 0, 5, 6, 7] rfl)
          have JOIN_49 : ∀ (v4 : Int64) (v6 : Int64) (v8 : Int32) (v9 : Int32) (s0 : Int32) (H : Heap) (locs : List Loc) (ls : Array Slot), w7_fromCalkinWilf_J49 f_tops f_bottoms v1 v2 v4 v6 v8 v9 s0 post (fun z0 z1 z2 z3 => w7_fromCalkinWilf_L28 f_tops f_bottoms v1 v2 post n28 z0 z1 z2 z3) → va_P D vwCl [((rf 0), o7 rf f_hasSnapshot f_termListSize f_textSize), ((rf 1), ai cI 8 f_tops), ((rf 2), ai cI 8 f_bottoms)] H → va_D A [((rf 0), o7 rf f_hasSnapshot f_termListSize f_textSize), ((rf 1), ai cI 8 f_tops), ((rf 2), ai cI 8 f_bottoms)] → va_S A H0 H locs → lv_has ls 11 [(0, .ref (rf 0)), (1, .int v1), (2, .long v2), (4, .long v4), (6, .long v6), (8, .int v8), (9, .int v9)] → W p l e rm7_fromCalkinWilf s m args below meth c H locs 0 0 Q (F0 m 49 ls [.int s0]) := by
            intro v4 v6 v8 v9 s0 H locs ls hw hP hD hS hl
            unfold w7_fromCalkinWilf_J49 at hw
            refine lv_istore (lv' := [(10, .int s0), (0, .ref (rf 0)), (1, .int v1), (2, .long v2), (4, .long v4), (6, .long v6), (8, .int v8), (9, .int v9)]) hx hb dX7_fromCalkinWilf_49 hl (by decide) rfl (fun ls hl => ?_)
            refine lv_iload hx hb dX7_fromCalkinWilf_51 (lv_at hl 6 rfl) ?_
            refine lv_if_eq (tgt := 71) hx hb dX7_fromCalkinWilf_53 (by decide) (fun k => ?_) (fun k => ?_)
            · have hw := hw.1 k
              exact JOIN_71 v4 v6 v8 v9 s0 _ _ ls hw hP hD hS (lv_sub hl [1, 2, 3, 4, 5, 6, 7, 0] rfl)
            · have hw := hw.2 k
              refine lv_iload hx hb dX7_fromCalkinWilf_56 (lv_at hl 0 rfl) ?_
              refine lv_if_eq (tgt := 71) hx hb dX7_fromCalkinWilf_58 (by decide) (fun k => ?_) (fun k => ?_)
              · have hw := hw.1 k
                exact JOIN_71 v4 v6 v8 v9 s0 _ _ ls hw hP hD hS (lv_sub hl [1, 2, 3, 4, 5, 6, 7, 0] rfl)
              · have hw := hw.2 k
                refine lv_lload hx hb dX7_fromCalkinWilf_61 (lv_at hl 4 rfl) ?_
                refine lv_lload hx hb dX7_fromCalkinWilf_63 (lv_at hl 5 rfl) ?_
                refine lv_ladd hx hb dX7_fromCalkinWilf_65 ?_
                refine lv_topl (fun x66 ex66 => ?_)
                have hw := hw x66 ex66
                refine lv_lstore (lv' := [(4, .long x66), (10, .int s0), (0, .ref (rf 0)), (1, .int v1), (2, .long v2), (6, .long v6), (8, .int v8), (9, .int v9)]) hx hb dX7_fromCalkinWilf_66 hl (by decide) rfl (fun ls hl => ?_)
                refine lv_goto (tgt := 83) hx hb dX7_fromCalkinWilf_68 (by decide) ?_
                exact JOIN_83 x66 v6 v8 v9 s0 _ _ ls hw hP hD hS (lv_sub hl [2, 3, 4, 0, 5, 6, 7, 1] rfl)
          refine lv_iload hx hb dX7_fromCalkinWilf_28 (lv_at hl 6 rfl) ?_
          refine lv_if_lt (tgt := 106) hx hb dX7_fromCalkinWilf_30 (by decide) (fun k => ?_) (fun k => ?_)
          · have hw := hw.1 k
            refine lv_aload_n hx hb dX7_fromCalkinWilf_106 rfl (lv_at hl 0 rfl) ?_
            refine lv_iload_n hx hb dX7_fromCalkinWilf_107 rfl (lv_at hl 1 rfl) ?_
            refine lv_lload hx hb dX7_fromCalkinWilf_108 (lv_at hl 3 rfl) ?_
            refine lv_lload hx hb dX7_fromCalkinWilf_110 (lv_at hl 4 rfl) ?_
            refine kcI (wc := [((rf 0), o7 rf f_hasSnapshot f_termListSize f_textSize), ((rf 1), ai cI 8 f_tops), ((rf 2), ai cI 8 f_bottoms)]) (wr := []) hP hD hS hA [0, 1, 2] [] rfl rfl ⟨rfl, rfl, by decide⟩ (fun hPc hDc => rV (As := [.int v1, .long v4, .long v6]) (rest := []) C0 hK hN (c7_store l D cI cJ cN cR rf H.size f_hasSnapshot f_termListSize f_textSize f_tops f_bottoms v1 v4 v6 _ hw) 3 gX7_fromCalkinWilf_X7_store rfl ⟨rfl, rfl⟩ nm7_store ⟨Nat.le_of_ble_eq_true rfl, Nat.le_of_ble_eq_true rfl⟩ (q0 := 0) rfl rfl rfl rfl hl.1 rfl (Nat.le_of_ble_eq_true rfl) dX7_fromCalkinWilf_112 ⟨Nat.le_of_ble_eq_true rfl, Nat.le_of_ble_eq_true rfl⟩ hPc hDc) (fun r112 u112 H locs hw hP hD hS => ?_)
            obtain ⟨f_tops_112, f_bottoms_112⟩ := u112
            dsimp only at hw
            have hP : va_P D vwCl [((rf 0), o7 rf f_hasSnapshot f_termListSize f_textSize), ((rf 1), ai cI 8 f_tops_112), ((rf 2), ai cI 8 f_bottoms_112)] H := hP
            have hD : va_D A [((rf 0), o7 rf f_hasSnapshot f_termListSize f_textSize), ((rf 1), ai cI 8 f_tops_112), ((rf 2), ai cI 8 f_bottoms_112)] := hD
            exact RET _ _ _ (f_tops_112, f_bottoms_112) _ _ hw hP hD hS dX7_fromCalkinWilf_115
          · have hw := hw.2 k
            refine lv_lload_n hx hb dX7_fromCalkinWilf_33 rfl (lv_at hl 2 rfl) ?_
            refine lv_iload hx hb dX7_fromCalkinWilf_34 (lv_at hl 6 rfl) ?_
            refine lv_lshr hx hb dX7_fromCalkinWilf_36 rfl ?_
            refine lv_lconst (v := (1 : Int64)) hx hb dX7_fromCalkinWilf_37 (by decide) ?_
            refine lv_land hx hb dX7_fromCalkinWilf_38 ?_
            refine lv_lconst (v := (1 : Int64)) hx hb dX7_fromCalkinWilf_39 (by decide) ?_
            refine W.lcmp hx hb dX7_fromCalkinWilf_40 ?_
            refine lv_if_ne (tgt := 48) hx hb dX7_fromCalkinWilf_41 (by decide) (fun k => ?_) (fun k => ?_)
            · have hw := hw.1 (fun h => k ((lg_cmp_eq _ _).mpr h))
              refine lv_iconst (v := (0 : Int32)) hx hb dX7_fromCalkinWilf_48 (by decide) ?_
              exact JOIN_49 v4 v6 v8 v9 (0 : Int32) _ _ ls hw hP hD hS (lv_sub hl [0, 1, 2, 3, 4, 5, 6] rfl)
            · have hw := hw.2 ((lg_cmp_eq _ _).mp k)
              refine lv_iconst (v := (1 : Int32)) hx hb dX7_fromCalkinWilf_44 (by decide) ?_
              refine lv_goto (tgt := 49) hx hb dX7_fromCalkinWilf_45 (by decide) ?_
              exact JOIN_49 v4 v6 v8 v9 (1 : Int32) _ _ ls hw hP hD hS (lv_sub hl [0, 1, 2, 3, 4, 5, 6] rfl)
      exact LOOP_28 n28 (1 : Int64) (1 : Int64) (0 : Int32) (62 : Int32) _ _ ls hw hP hD hS (lv_sub hl [4, 5, 6, 3, 2, 1, 0] rfl)
    · have hw := hw.2 (fun h => k ((lg_cmp_ge _ _).mpr h))
      refine lv_iconst (v := (-1 : Int32)) hx hb dX7_fromCalkinWilf_13 (by decide) ?_
      exact RET _ _ _ (f_tops, f_bottoms) _ _ hw hP hD hS dX7_fromCalkinWilf_14
abbrev rm7_calkinWilfNext : Room := { frames := 2, cells := 0, slots := 0, locals := 61 }
theorem nm7_calkinWilfNext : kNm yX7_calkinWilfNext 2 := by decide +kernel
set_option maxHeartbeats 4000000 in
set_option maxRecDepth 100000 in
theorem c7_calkinWilfNext (l : Launch) (D : va_G) (cI cJ cN cR : ClassId) (rf : Nat → Nat) (sz : Nat) (f_hasSnapshot : Int32) (f_termListSize : Int32) (f_textSize : Int32) (f_tops : (Nat → Int32)) (f_bottoms : (Nat → Int32)) (v1 : Int32) (v2 : Int32) (post : Int32 → (Nat → Int32) → (Nat → Int32) → Prop) (hw : w7_calkinWilfNext f_tops f_bottoms v1 v2 post) : Met l yX7_calkinWilfNext wsX7_calkinWilfNext rm7_calkinWilfNext (kP D (kT cI cJ cN cR) sz [.ref (rf 0), .int v1, .int v2] [((rf 0), o7 rf f_hasSnapshot f_termListSize f_textSize), ((rf 1), ai cI 8 f_tops), ((rf 2), ai cI 8 f_bottoms)]) (kQi D [((rf 0), o7 rf f_hasSnapshot f_termListSize f_textSize), ((rf 1), ai cI 8 f_tops), ((rf 2), ai cI 8 f_bottoms)] sz (fun (r : Int32) (u : (Nat → Int32) × (Nat → Int32)) => post r u.1 u.2) (fun (u : (Nat → Int32) × (Nat → Int32)) => [((rf 0), o7 rf f_hasSnapshot f_termListSize f_textSize), ((rf 1), ai cI 8 u.1), ((rf 2), ai cI 8 u.2)])) 0 0 (va_A [((rf 0), o7 rf f_hasSnapshot f_termListSize f_textSize), ((rf 1), ai cI 8 f_tops), ((rf 2), ai cI 8 f_bottoms)] sz) := by
  refine kMetI (cc := cX7_calkinWilfNext) (maxL := 9) (by decide +kernel) rfl (Nat.le_of_ble_eq_true rfl) ?_
  intro p e s m args below meth c H0 ls A Q C0 hK hN hP hD hS hA hl RET
  obtain ⟨hx, hb, hml, hown, hts⟩ := id C0
  have hl : lv_has ls 9 [(0, .ref (rf 0)), (1, .int v1), (2, .int v2)] := hl
  have g9 := hts (.fieldLink RX7 9 "SternBrocotExplorer" "tops" "[I") (by decide +kernel)
  have g13 := hts (.fieldLink RX7 13 "SternBrocotExplorer" "bottoms" "[I") (by decide +kernel)
  have hi9 : ∀ w ∈ wsX70, w ∈ wsX7_calkinWilfNext := fun w h => List.mem_cons_of_mem _ (List.mem_append_right _ h)
  unfold w7_calkinWilfNext at hw
  have hP : va_P D vwCl [((rf 0), o7 rf f_hasSnapshot f_termListSize f_textSize), ((rf 1), ai cI 8 f_tops), ((rf 2), ai cI 8 f_bottoms)] H0 := hP
  refine lv_iload_n hx hb dX7_calkinWilfNext_0 rfl (lv_at hl 1 rfl) ?_
  refine kcRI (wc := []) hP [] rfl (fun hPc => oS (As := [.int v1]) (rest := []) C0 hK hN (c7_isRegister l D cI cJ cN cR   v1 _ hw) 1 gX7_calkinWilfNext_X7_isRegister rfl ⟨rfl, rfl⟩ nm7_isRegister ⟨Nat.le_of_ble_eq_true rfl, Nat.le_of_ble_eq_true rfl⟩ rfl hl.1 rfl (Nat.le_of_ble_eq_true rfl) dX7_calkinWilfNext_1 ⟨Nat.le_of_ble_eq_true rfl, Nat.le_of_ble_eq_true rfl⟩ hPc) (fun r1 hw => ?_)
  obtain ⟨nb1, hw⟩ := hw
  refine lv_if_eq (tgt := 14) hx hb dX7_calkinWilfNext_4 (by decide) (fun k => ?_) (fun k => ?_)
  · have hw := hw.1 k
    refine lv_iconst (v := (-1 : Int32)) hx hb dX7_calkinWilfNext_14 (by decide) ?_
    exact RET _ _ _ (f_tops, f_bottoms) _ _ hw hP hD hS dX7_calkinWilfNext_15
  · have hw := hw.2 k
    refine lv_iload_n hx hb dX7_calkinWilfNext_7 rfl (lv_at hl 2 rfl) ?_
    refine kcRI (wc := []) hP [] rfl (fun hPc => oS (As := [.int v2]) (rest := []) C0 hK hN (c7_isRegister l D cI cJ cN cR   v2 _ hw) 1 gX7_calkinWilfNext_X7_isRegister rfl ⟨rfl, rfl⟩ nm7_isRegister ⟨Nat.le_of_ble_eq_true rfl, Nat.le_of_ble_eq_true rfl⟩ rfl hl.1 rfl (Nat.le_of_ble_eq_true rfl) dX7_calkinWilfNext_8 ⟨Nat.le_of_ble_eq_true rfl, Nat.le_of_ble_eq_true rfl⟩ hPc) (fun r8 hw => ?_)
    obtain ⟨nb8, hw⟩ := hw
    refine lv_if_ne (tgt := 16) hx hb dX7_calkinWilfNext_11 (by decide) (fun k => ?_) (fun k => ?_)
    · have hw := hw.1 k
      refine lv_aload_n hx hb dX7_calkinWilfNext_16 rfl (lv_at hl 0 rfl) ?_
      refine va_get (D := D) (ci := 7) (v := .ref (rf 1)) (C := RX7) (T := TX7) (N := 16) hx hb hts hi9 hown hK hP 0 rfl rfl 0 (by decide) g9 (fun _ h9 => h9) rfl dX7_calkinWilfNext_17 ?_
      refine lv_iload_n hx hb dX7_calkinWilfNext_20 rfl (lv_at hl 2 rfl) ?_
      obtain ⟨hin, hw⟩ := hw
      refine va_iald hx hb hK hP 1 0 rfl rfl hin dX7_calkinWilfNext_21 ?_
      refine lv_i2l hx hb dX7_calkinWilfNext_22 rfl ?_
      refine lv_topl (fun x23 ex23 => ?_)
      have hw := hw x23 ex23
      refine lv_lstore_n (lv' := [(3, .long x23), (0, .ref (rf 0)), (1, .int v1), (2, .int v2)]) hx hb dX7_calkinWilfNext_23 rfl hl (by decide) rfl (fun ls hl => ?_)
      refine lv_aload_n hx hb dX7_calkinWilfNext_24 rfl (lv_at hl 1 rfl) ?_
      refine va_get (D := D) (ci := 7) (v := .ref (rf 2)) (C := RX7) (T := TX7) (N := 16) hx hb hts hi9 hown hK hP 0 rfl rfl 1 (by decide) g13 (fun _ h9 => h9) rfl dX7_calkinWilfNext_25 ?_
      refine lv_iload_n hx hb dX7_calkinWilfNext_28 rfl (lv_at hl 3 rfl) ?_
      obtain ⟨hin, hw⟩ := hw
      refine va_iald hx hb hK hP 2 0 rfl rfl hin dX7_calkinWilfNext_29 ?_
      refine lv_i2l hx hb dX7_calkinWilfNext_30 rfl ?_
      refine lv_topl (fun x31 ex31 => ?_)
      have hw := hw x31 ex31
      refine lv_lstore (lv' := [(5, .long x31), (3, .long x23), (0, .ref (rf 0)), (1, .int v1), (2, .int v2)]) hx hb dX7_calkinWilfNext_31 hl (by decide) rfl (fun ls hl => ?_)
      refine lv_lload_n hx hb dX7_calkinWilfNext_33 rfl (lv_at hl 1 rfl) ?_
      refine lv_lload hx hb dX7_calkinWilfNext_34 (lv_at hl 0 rfl) ?_
      refine kcRL (wc := []) hP [] rfl (fun hPc => oS (As := [.long x23, .long x31]) (rest := []) C0 hK hN (c7_quotient l D cI cJ cN cR   x23 x31 _ hw) 2 gX7_calkinWilfNext_X7_quotient rfl ⟨rfl, rfl⟩ nm7_quotient ⟨Nat.le_of_ble_eq_true rfl, Nat.le_of_ble_eq_true rfl⟩ rfl hl.1 rfl (Nat.le_of_ble_eq_true rfl) dX7_calkinWilfNext_36 ⟨Nat.le_of_ble_eq_true rfl, Nat.le_of_ble_eq_true rfl⟩ hPc) (fun r36 hw => ?_)
      refine lv_lstore (lv' := [(7, .long r36), (5, .long x31), (3, .long x23), (0, .ref (rf 0)), (1, .int v1), (2, .int v2)]) hx hb dX7_calkinWilfNext_39 hl (by decide) rfl (fun ls hl => ?_)
      refine lv_aload_n hx hb dX7_calkinWilfNext_41 rfl (lv_at hl 3 rfl) ?_
      refine lv_iload_n hx hb dX7_calkinWilfNext_42 rfl (lv_at hl 4 rfl) ?_
      refine lv_lload hx hb dX7_calkinWilfNext_43 (lv_at hl 1 rfl) ?_
      refine lv_ldc2 (v := (2 : Int64)) hx hb hown (hts (.constantLong RX7 174 (2)) (by decide +kernel)) dX7_calkinWilfNext_45 ?_
      refine lv_lload hx hb dX7_calkinWilfNext_48 (lv_at hl 0 rfl) ?_
      refine lv_lmul hx hb dX7_calkinWilfNext_50 ?_
      refine lv_lload hx hb dX7_calkinWilfNext_51 (lv_at hl 1 rfl) ?_
      refine lv_lmul hx hb dX7_calkinWilfNext_53 ?_
      refine lv_lload_n hx hb dX7_calkinWilfNext_54 rfl (lv_at hl 2 rfl) ?_
      refine lv_lsub hx hb dX7_calkinWilfNext_55 ?_
      refine lv_lload hx hb dX7_calkinWilfNext_56 (lv_at hl 1 rfl) ?_
      refine lv_ladd hx hb dX7_calkinWilfNext_58 ?_
      refine kcI (wc := [((rf 0), o7 rf f_hasSnapshot f_termListSize f_textSize), ((rf 1), ai cI 8 f_tops), ((rf 2), ai cI 8 f_bottoms)]) (wr := []) hP hD hS hA [0, 1, 2] [] rfl rfl ⟨rfl, rfl, by decide⟩ (fun hPc hDc => rV (As := [.int v1, .long x31, .long (((((2 : Int64) * r36) * x31) - x23) + x31)]) (rest := []) C0 hK hN (c7_store l D cI cJ cN cR rf H0.size f_hasSnapshot f_termListSize f_textSize f_tops f_bottoms v1 x31 (((((2 : Int64) * r36) * x31) - x23) + x31) _ hw) 3 gX7_calkinWilfNext_X7_store rfl ⟨rfl, rfl⟩ nm7_store ⟨Nat.le_of_ble_eq_true rfl, Nat.le_of_ble_eq_true rfl⟩ (q0 := 0) rfl rfl rfl rfl hl.1 rfl (Nat.le_of_ble_eq_true rfl) dX7_calkinWilfNext_59 ⟨Nat.le_of_ble_eq_true rfl, Nat.le_of_ble_eq_true rfl⟩ hPc hDc) (fun r59 u59 H locs hw hP hD hS => ?_)
      obtain ⟨f_tops_59, f_bottoms_59⟩ := u59
      dsimp only at hw
      have hP : va_P D vwCl [((rf 0), o7 rf f_hasSnapshot f_termListSize f_textSize), ((rf 1), ai cI 8 f_tops_59), ((rf 2), ai cI 8 f_bottoms_59)] H := hP
      have hD : va_D A [((rf 0), o7 rf f_hasSnapshot f_termListSize f_textSize), ((rf 1), ai cI 8 f_tops_59), ((rf 2), ai cI 8 f_bottoms_59)] := hD
      exact RET _ _ _ (f_tops_59, f_bottoms_59) _ _ hw hP hD hS dX7_calkinWilfNext_62
    · have hw := hw.2 k
      refine lv_iconst (v := (-1 : Int32)) hx hb dX7_calkinWilfNext_14 (by decide) ?_
      exact RET _ _ _ (f_tops, f_bottoms) _ _ hw hP hD hS dX7_calkinWilfNext_15
abbrev rm7_wordSize : Room := { frames := 0, cells := 0, slots := 0, locals := 0 }
theorem nm7_wordSize : kNm yX7_wordSize 1 := by decide +kernel
set_option maxHeartbeats 4000000 in
set_option maxRecDepth 100000 in
theorem c7_wordSize (l : Launch) (D : va_G) (cI cJ cN cR : ClassId) (rf : Nat → Nat) (f_hasSnapshot : Int32) (f_termListSize : Int32) (f_textSize : Int32) (f_tops : (Nat → Int32)) (f_bottoms : (Nat → Int32)) (v1 : Int32) (post : Int32 → Prop) (hw : w7_wordSize f_tops f_bottoms v1 post) : Met l yX7_wordSize wsX7_wordSize rm7_wordSize (kR D (kT cI cJ cN cR) [.ref (rf 0), .int v1] [((rf 0), o7 rf f_hasSnapshot f_termListSize f_textSize), ((rf 1), ai cI 8 f_tops), ((rf 2), ai cI 8 f_bottoms)]) (vp_Si post) 0 0 (fun _ => False) := by
  refine kMetRI (cc := cX7_wordSize) (maxL := 2) (by decide +kernel) rfl (Nat.le_of_ble_eq_true rfl) ?_
  intro p e s m args below meth c H ls Q C0 hK hN hP hl RET
  obtain ⟨hx, hb, hml, hown, hts⟩ := id C0
  have hl : lv_has ls 2 [(0, .ref (rf 0)), (1, .int v1)] := hl
  have g9 := hts (.fieldLink RX7 9 "SternBrocotExplorer" "tops" "[I") (by decide +kernel)
  have g13 := hts (.fieldLink RX7 13 "SternBrocotExplorer" "bottoms" "[I") (by decide +kernel)
  have hi9 : ∀ w ∈ wsX70, w ∈ wsX7_wordSize := fun w h => List.mem_cons_of_mem _ (List.mem_append_right _ h)
  unfold w7_wordSize at hw
  refine lv_aload_n hx hb dX7_wordSize_0 rfl (lv_at hl 0 rfl) ?_
  refine va_get (D := D) (ci := 7) (v := .ref (rf 1)) (C := RX7) (T := TX7) (N := 16) hx hb hts hi9 hown hK hP 0 rfl rfl 0 (by decide) g9 (fun _ h9 => h9) rfl dX7_wordSize_1 ?_
  refine lv_iload_n hx hb dX7_wordSize_4 rfl (lv_at hl 1 rfl) ?_
  obtain ⟨hin, hw⟩ := hw
  refine va_iald hx hb hK hP 1 0 rfl rfl hin dX7_wordSize_5 ?_
  refine lv_aload_n hx hb dX7_wordSize_6 rfl (lv_at hl 0 rfl) ?_
  refine va_get (D := D) (ci := 7) (v := .ref (rf 2)) (C := RX7) (T := TX7) (N := 16) hx hb hts hi9 hown hK hP 0 rfl rfl 1 (by decide) g13 (fun _ h9 => h9) rfl dX7_wordSize_7 ?_
  refine lv_iload_n hx hb dX7_wordSize_10 rfl (lv_at hl 1 rfl) ?_
  obtain ⟨hin, hw⟩ := hw
  refine va_iald hx hb hK hP 2 0 rfl rfl hin dX7_wordSize_11 ?_
  refine lv_iadd hx hb dX7_wordSize_12 ?_
  exact RET _ _ _ hw dX7_wordSize_13
abbrev rm7_remainder : Room := { frames := 0, cells := 0, slots := 0, locals := 0 }
theorem nm7_remainder : kNm yX7_remainder 2 := by decide +kernel
set_option maxHeartbeats 4000000 in
set_option maxRecDepth 100000 in
theorem c7_remainder (l : Launch) (D : va_G) (cI cJ cN cR : ClassId)   (v0 : Int64) (v2 : Int64) (post : Int64 → Prop) (hw : w7_remainder v0 v2 post) : Met l yX7_remainder wsX7_remainder rm7_remainder (kR D (kT cI cJ cN cR) [.long v0, .long v2] []) (vp_Sl post) 0 0 (fun _ => False) := by
  refine kMetRL (cc := cX7_remainder) (maxL := 4) (by decide +kernel) rfl (Nat.le_of_ble_eq_true rfl) ?_
  intro p e s m args below meth c H ls Q C0 hK hN hP hl RET
  obtain ⟨hx, hb, hml, hown, hts⟩ := id C0
  have hl : lv_has ls 4 [(0, .long v0), (2, .long v2)] := hl
  unfold w7_remainder at hw
  refine lv_lload_n hx hb dX7_remainder_0 rfl (lv_at hl 1 rfl) ?_
  refine lv_lconst (v := (0 : Int64)) hx hb dX7_remainder_1 (by decide) ?_
  refine W.lcmp hx hb dX7_remainder_2 ?_
  refine lv_if_le (tgt := 12) hx hb dX7_remainder_3 (by decide) (fun k => ?_) (fun k => ?_)
  · have hw := hw.1 ((lg_cmp_le _ _).mp k)
    refine lv_lconst (v := (0 : Int64)) hx hb dX7_remainder_12 (by decide) ?_
    exact RET _ _ _ hw dX7_remainder_13
  · have hw := hw.2 (fun h => k ((lg_cmp_le _ _).mpr h))
    refine lv_lload_n hx hb dX7_remainder_6 rfl (lv_at hl 0 rfl) ?_
    refine lv_lload_n hx hb dX7_remainder_7 rfl (lv_at hl 1 rfl) ?_
    obtain ⟨hne, hw⟩ := hw
    refine lv_lrem hx hb dX7_remainder_8 hne ?_
    refine lv_goto (tgt := 13) hx hb dX7_remainder_9 (by decide) ?_
    exact RET _ _ _ hw dX7_remainder_13
abbrev rm7_letterOf : Room := { frames := 1, cells := 0, slots := 0, locals := 23 }
theorem nm7_letterOf : kNm yX7_letterOf 3 := by decide +kernel
set_option maxHeartbeats 4000000 in
set_option maxRecDepth 100000 in
theorem c7_letterOf (l : Launch) (D : va_G) (cI cJ cN cR : ClassId)   (v0 : Int64) (v2 : Int64) (v4 : Int64) (post : Int32 → Prop) (hw : w7_letterOf v0 v2 v4 post) : Met l yX7_letterOf wsX7_letterOf rm7_letterOf (kR D (kT cI cJ cN cR) [.long v0, .long v2, .long v4] []) (vp_Si post) 0 0 (fun _ => False) := by
  refine kMetRI (cc := cX7_letterOf) (maxL := 8) (by decide +kernel) rfl (Nat.le_of_ble_eq_true rfl) ?_
  intro p e s m args below meth c H ls Q C0 hK hN hP hl RET
  obtain ⟨hx, hb, hml, hown, hts⟩ := id C0
  have hl : lv_has ls 8 [(0, .long v0), (2, .long v2), (4, .long v4)] := hl
  unfold w7_letterOf at hw
  refine lv_lload_n hx hb dX7_letterOf_0 rfl (lv_at hl 0 rfl) ?_
  refine lv_lload_n hx hb dX7_letterOf_1 rfl (lv_at hl 1 rfl) ?_
  refine lv_ladd hx hb dX7_letterOf_2 ?_
  refine lv_topl (fun x3 ex3 => ?_)
  have hw := hw x3 ex3
  refine lv_lstore (lv' := [(6, .long x3), (0, .long v0), (2, .long v2), (4, .long v4)]) hx hb dX7_letterOf_3 hl (by decide) rfl (fun ls hl => ?_)
  refine lv_lload hx hb dX7_letterOf_5 (lv_at hl 3 rfl) ?_
  refine lv_lconst (v := (1 : Int64)) hx hb dX7_letterOf_7 (by decide) ?_
  refine lv_ladd hx hb dX7_letterOf_8 ?_
  refine lv_lload_n hx hb dX7_letterOf_9 rfl (lv_at hl 1 rfl) ?_
  refine lv_lmul hx hb dX7_letterOf_10 ?_
  refine lv_lload hx hb dX7_letterOf_11 (lv_at hl 0 rfl) ?_
  refine kcRL (wc := []) hP [] rfl (fun hPc => oS (As := [.long ((v4 + (1 : Int64)) * v0), .long x3]) (rest := []) C0 hK hN (c7_remainder l D cI cJ cN cR   ((v4 + (1 : Int64)) * v0) x3 _ hw) 2 gX7_letterOf_X7_remainder rfl ⟨rfl, rfl⟩ nm7_remainder ⟨Nat.le_of_ble_eq_true rfl, Nat.le_of_ble_eq_true rfl⟩ rfl hl.1 rfl (Nat.le_of_ble_eq_true rfl) dX7_letterOf_13 ⟨Nat.le_of_ble_eq_true rfl, Nat.le_of_ble_eq_true rfl⟩ hPc) (fun r13 hw => ?_)
  refine lv_lload hx hb dX7_letterOf_16 (lv_at hl 3 rfl) ?_
  refine lv_lload_n hx hb dX7_letterOf_18 rfl (lv_at hl 1 rfl) ?_
  refine lv_lmul hx hb dX7_letterOf_19 ?_
  refine lv_lload hx hb dX7_letterOf_20 (lv_at hl 0 rfl) ?_
  refine kcRL (wc := []) hP [] rfl (fun hPc => oS (As := [.long (v4 * v0), .long x3]) (rest := [.long r13]) C0 hK hN (c7_remainder l D cI cJ cN cR   (v4 * v0) x3 _ hw) 2 gX7_letterOf_X7_remainder rfl ⟨rfl, rfl⟩ nm7_remainder ⟨Nat.le_of_ble_eq_true rfl, Nat.le_of_ble_eq_true rfl⟩ rfl hl.1 rfl (Nat.le_of_ble_eq_true rfl) dX7_letterOf_22 ⟨Nat.le_of_ble_eq_true rfl, Nat.le_of_ble_eq_true rfl⟩ hPc) (fun r22 hw => ?_)
  refine W.lcmp hx hb dX7_letterOf_25 ?_
  refine lv_if_le (tgt := 33) hx hb dX7_letterOf_26 (by decide) (fun k => ?_) (fun k => ?_)
  · have hw := hw.1 ((lg_cmp_le _ _).mp k)
    refine lv_iconst (v := (1 : Int32)) hx hb dX7_letterOf_33 (by decide) ?_
    exact RET _ _ _ hw dX7_letterOf_34
  · have hw := hw.2 (fun h => k ((lg_cmp_le _ _).mpr h))
    refine lv_iconst (v := (0 : Int32)) hx hb dX7_letterOf_29 (by decide) ?_
    refine lv_goto (tgt := 34) hx hb dX7_letterOf_30 (by decide) ?_
    exact RET _ _ _ hw dX7_letterOf_34
abbrev rm7_wordLetter : Room := { frames := 2, cells := 0, slots := 0, locals := 50 }
theorem nm7_wordLetter : kNm yX7_wordLetter 2 := by decide +kernel
set_option maxHeartbeats 4000000 in
set_option maxRecDepth 100000 in
theorem c7_wordLetter (l : Launch) (D : va_G) (cI cJ cN cR : ClassId) (rf : Nat → Nat) (f_hasSnapshot : Int32) (f_termListSize : Int32) (f_textSize : Int32) (f_tops : (Nat → Int32)) (f_bottoms : (Nat → Int32)) (v1 : Int32) (v2 : Int32) (post : Int32 → Prop) (hw : w7_wordLetter f_tops f_bottoms v1 v2 post) : Met l yX7_wordLetter wsX7_wordLetter rm7_wordLetter (kR D (kT cI cJ cN cR) [.ref (rf 0), .int v1, .int v2] [((rf 0), o7 rf f_hasSnapshot f_termListSize f_textSize), ((rf 1), ai cI 8 f_tops), ((rf 2), ai cI 8 f_bottoms)]) (vp_Si post) 0 0 (fun _ => False) := by
  refine kMetRI (cc := cX7_wordLetter) (maxL := 3) (by decide +kernel) rfl (Nat.le_of_ble_eq_true rfl) ?_
  intro p e s m args below meth c H ls Q C0 hK hN hP hl RET
  obtain ⟨hx, hb, hml, hown, hts⟩ := id C0
  have hl : lv_has ls 3 [(0, .ref (rf 0)), (1, .int v1), (2, .int v2)] := hl
  have g9 := hts (.fieldLink RX7 9 "SternBrocotExplorer" "tops" "[I") (by decide +kernel)
  have g13 := hts (.fieldLink RX7 13 "SternBrocotExplorer" "bottoms" "[I") (by decide +kernel)
  have hi9 : ∀ w ∈ wsX70, w ∈ wsX7_wordLetter := fun w h => List.mem_cons_of_mem _ (List.mem_append_right _ h)
  unfold w7_wordLetter at hw
  refine lv_iload_n hx hb dX7_wordLetter_0 rfl (lv_at hl 1 rfl) ?_
  refine kcRI (wc := []) hP [] rfl (fun hPc => oS (As := [.int v1]) (rest := []) C0 hK hN (c7_isRegister l D cI cJ cN cR   v1 _ hw) 1 gX7_wordLetter_X7_isRegister rfl ⟨rfl, rfl⟩ nm7_isRegister ⟨Nat.le_of_ble_eq_true rfl, Nat.le_of_ble_eq_true rfl⟩ rfl hl.1 rfl (Nat.le_of_ble_eq_true rfl) dX7_wordLetter_1 ⟨Nat.le_of_ble_eq_true rfl, Nat.le_of_ble_eq_true rfl⟩ hPc) (fun r1 hw => ?_)
  obtain ⟨nb1, hw⟩ := hw
  refine lv_if_eq (tgt := 11) hx hb dX7_wordLetter_4 (by decide) (fun k => ?_) (fun k => ?_)
  · have hw := hw.1 k
    refine lv_iconst (v := (-1 : Int32)) hx hb dX7_wordLetter_11 (by decide) ?_
    exact RET _ _ _ hw dX7_wordLetter_12
  · have hw := hw.2 k
    refine lv_iload_n hx hb dX7_wordLetter_7 rfl (lv_at hl 2 rfl) ?_
    refine lv_if_ge (tgt := 13) hx hb dX7_wordLetter_8 (by decide) (fun k => ?_) (fun k => ?_)
    · have hw := hw.1 k
      refine lv_iload_n hx hb dX7_wordLetter_13 rfl (lv_at hl 2 rfl) ?_
      refine lv_aload_n hx hb dX7_wordLetter_14 rfl (lv_at hl 0 rfl) ?_
      refine lv_iload_n hx hb dX7_wordLetter_15 rfl (lv_at hl 1 rfl) ?_
      refine kcRI (wc := [((rf 0), o7 rf f_hasSnapshot f_termListSize f_textSize), ((rf 1), ai cI 8 f_tops), ((rf 2), ai cI 8 f_bottoms)]) hP [0, 1, 2] rfl (fun hPc => oV (As := [.int v1]) (rest := [.int v2]) C0 hK hN (c7_wordSize l D cI cJ cN cR rf f_hasSnapshot f_termListSize f_textSize f_tops f_bottoms v1 _ hw) 1 gX7_wordLetter_X7_wordSize rfl ⟨rfl, rfl⟩ nm7_wordSize ⟨Nat.le_of_ble_eq_true rfl, Nat.le_of_ble_eq_true rfl⟩ (q0 := 0) rfl rfl rfl rfl hl.1 rfl (Nat.le_of_ble_eq_true rfl) dX7_wordLetter_16 ⟨Nat.le_of_ble_eq_true rfl, Nat.le_of_ble_eq_true rfl⟩ hPc) (fun r16 hw => ?_)
      refine lv_icmp_ge (tgt := 44) hx hb dX7_wordLetter_19 (by decide) (fun k => ?_) (fun k => ?_)
      · have hw := hw.1 k
        refine lv_bipush (v := (-2 : Int32)) hx hb dX7_wordLetter_44 (by decide) ?_
        exact RET _ _ _ hw dX7_wordLetter_46
      · have hw := hw.2 k
        refine lv_aload_n hx hb dX7_wordLetter_22 rfl (lv_at hl 0 rfl) ?_
        refine va_get (D := D) (ci := 7) (v := .ref (rf 1)) (C := RX7) (T := TX7) (N := 16) hx hb hts hi9 hown hK hP 0 rfl rfl 0 (by decide) g9 (fun _ h9 => h9) rfl dX7_wordLetter_23 ?_
        refine lv_iload_n hx hb dX7_wordLetter_26 rfl (lv_at hl 1 rfl) ?_
        obtain ⟨hin, hw⟩ := hw
        refine va_iald hx hb hK hP 1 0 rfl rfl hin dX7_wordLetter_27 ?_
        refine lv_i2l hx hb dX7_wordLetter_28 rfl ?_
        refine lv_aload_n hx hb dX7_wordLetter_29 rfl (lv_at hl 0 rfl) ?_
        refine va_get (D := D) (ci := 7) (v := .ref (rf 2)) (C := RX7) (T := TX7) (N := 16) hx hb hts hi9 hown hK hP 0 rfl rfl 1 (by decide) g13 (fun _ h9 => h9) rfl dX7_wordLetter_30 ?_
        refine lv_iload_n hx hb dX7_wordLetter_33 rfl (lv_at hl 1 rfl) ?_
        obtain ⟨hin, hw⟩ := hw
        refine va_iald hx hb hK hP 2 0 rfl rfl hin dX7_wordLetter_34 ?_
        refine lv_i2l hx hb dX7_wordLetter_35 rfl ?_
        refine lv_iload_n hx hb dX7_wordLetter_36 rfl (lv_at hl 2 rfl) ?_
        refine lv_i2l hx hb dX7_wordLetter_37 rfl ?_
        refine kcRI (wc := []) hP [] rfl (fun hPc => oS (As := [.long ((f_tops v1.toNatClampNeg).toInt64), .long ((f_bottoms v1.toNatClampNeg).toInt64), .long v2.toInt64]) (rest := []) C0 hK hN (c7_letterOf l D cI cJ cN cR   ((f_tops v1.toNatClampNeg).toInt64) ((f_bottoms v1.toNatClampNeg).toInt64) v2.toInt64 _ hw) 3 gX7_wordLetter_X7_letterOf rfl ⟨rfl, rfl⟩ nm7_letterOf ⟨Nat.le_of_ble_eq_true rfl, Nat.le_of_ble_eq_true rfl⟩ rfl hl.1 rfl (Nat.le_of_ble_eq_true rfl) dX7_wordLetter_38 ⟨Nat.le_of_ble_eq_true rfl, Nat.le_of_ble_eq_true rfl⟩ hPc) (fun r38 hw => ?_)
        refine lv_goto (tgt := 46) hx hb dX7_wordLetter_41 (by decide) ?_
        exact RET _ _ _ hw dX7_wordLetter_46
    · have hw := hw.2 k
      refine lv_iconst (v := (-1 : Int32)) hx hb dX7_wordLetter_11 (by decide) ?_
      exact RET _ _ _ hw dX7_wordLetter_12
abbrev rm7_factorLength : Room := { frames := 4, cells := 0, slots := 0, locals := 105 }
theorem nm7_factorLength : kNm yX7_factorLength 1 := by decide +kernel
set_option maxHeartbeats 4000000 in
set_option maxRecDepth 100000 in
theorem c7_factorLength (l : Launch) (D : va_G) (cI cJ cN cR : ClassId) (rf : Nat → Nat) (sz : Nat) (f_hasSnapshot : Int32) (f_termListSize : Int32) (f_textSize : Int32) (f_tops : (Nat → Int32)) (f_bottoms : (Nat → Int32)) (f_E_size : Int32) (f_E_leftTop : Int64) (f_E_leftBottom : Int64) (f_E_rightTop : Int64) (f_E_rightBottom : Int64) (f_E_terms : (Nat → Int32)) (v1 : Int32) (post : Int32 → Int32 → Int64 → Int64 → Int64 → Int64 → (Nat → Int32) → Prop) (hw : w7_factorLength f_tops f_bottoms f_E_size f_E_leftTop f_E_leftBottom f_E_rightTop f_E_rightBottom f_E_terms v1 post) : Met l yX7_factorLength wsX7_factorLength rm7_factorLength (kP D (kT cI cJ cN cR) sz [.ref (rf 0), .int v1] [((rf 0), o7 rf f_hasSnapshot f_termListSize f_textSize), ((rf 1), ai cI 8 f_tops), ((rf 2), ai cI 8 f_bottoms), ((rf 14), o1 (rf 17) f_E_size f_E_leftTop f_E_leftBottom f_E_rightTop f_E_rightBottom), ((rf 17), ai cI 64 f_E_terms)]) (kQi D [((rf 0), o7 rf f_hasSnapshot f_termListSize f_textSize), ((rf 1), ai cI 8 f_tops), ((rf 2), ai cI 8 f_bottoms), ((rf 14), o1 (rf 17) f_E_size f_E_leftTop f_E_leftBottom f_E_rightTop f_E_rightBottom), ((rf 17), ai cI 64 f_E_terms)] sz (fun (r : Int32) (u : Int32 × Int64 × Int64 × Int64 × Int64 × (Nat → Int32)) => post r u.1 u.2.1 u.2.2.1 u.2.2.2.1 u.2.2.2.2.1 u.2.2.2.2.2) (fun (u : Int32 × Int64 × Int64 × Int64 × Int64 × (Nat → Int32)) => [((rf 0), o7 rf f_hasSnapshot f_termListSize f_textSize), ((rf 1), ai cI 8 f_tops), ((rf 2), ai cI 8 f_bottoms), ((rf 14), o1 (rf 17) u.1 u.2.1 u.2.2.1 u.2.2.2.1 u.2.2.2.2.1), ((rf 17), ai cI 64 u.2.2.2.2.2)])) 0 0 (va_A [((rf 0), o7 rf f_hasSnapshot f_termListSize f_textSize), ((rf 1), ai cI 8 f_tops), ((rf 2), ai cI 8 f_bottoms), ((rf 14), o1 (rf 17) f_E_size f_E_leftTop f_E_leftBottom f_E_rightTop f_E_rightBottom), ((rf 17), ai cI 64 f_E_terms)] sz) := by
  refine kMetI (cc := cX7_factorLength) (maxL := 3) (by decide +kernel) rfl (Nat.le_of_ble_eq_true rfl) ?_
  intro p e s m args below meth c H0 ls A Q C0 hK hN hP hD hS hA hl RET
  obtain ⟨hx, hb, hml, hown, hts⟩ := id C0
  have hl : lv_has ls 3 [(0, .ref (rf 0)), (1, .int v1)] := hl
  unfold w7_factorLength at hw
  have hP : va_P D vwCl [((rf 0), o7 rf f_hasSnapshot f_termListSize f_textSize), ((rf 1), ai cI 8 f_tops), ((rf 2), ai cI 8 f_bottoms), ((rf 14), o1 (rf 17) f_E_size f_E_leftTop f_E_leftBottom f_E_rightTop f_E_rightBottom), ((rf 17), ai cI 64 f_E_terms)] H0 := hP
  refine lv_iload_n hx hb dX7_factorLength_0 rfl (lv_at hl 1 rfl) ?_
  refine kcRI (wc := []) hP [] rfl (fun hPc => oS (As := [.int v1]) (rest := []) C0 hK hN (c7_isRegister l D cI cJ cN cR   v1 _ hw) 1 gX7_factorLength_X7_isRegister rfl ⟨rfl, rfl⟩ nm7_isRegister ⟨Nat.le_of_ble_eq_true rfl, Nat.le_of_ble_eq_true rfl⟩ rfl hl.1 rfl (Nat.le_of_ble_eq_true rfl) dX7_factorLength_1 ⟨Nat.le_of_ble_eq_true rfl, Nat.le_of_ble_eq_true rfl⟩ hPc) (fun r1 hw => ?_)
  obtain ⟨nb1, hw⟩ := hw
  refine lv_if_ne (tgt := 9) hx hb dX7_factorLength_4 (by decide) (fun k => ?_) (fun k => ?_)
  · have hw := hw.1 k
    refine lv_aload_n hx hb dX7_factorLength_9 rfl (lv_at hl 0 rfl) ?_
    refine lv_iload_n hx hb dX7_factorLength_10 rfl (lv_at hl 1 rfl) ?_
    refine kcR (wc := [((rf 0), o7 rf f_hasSnapshot f_termListSize f_textSize), ((rf 1), ai cI 8 f_tops), ((rf 2), ai cI 8 f_bottoms), ((rf 14), o1 (rf 17) f_E_size f_E_leftTop f_E_leftBottom f_E_rightTop f_E_rightBottom), ((rf 17), ai cI 64 f_E_terms)]) (wr := []) hP hD hS hA [0, 1, 2, 3, 4] [] rfl rfl ⟨rfl, rfl, by decide⟩ (fun hPc hDc => rV (As := [.int v1]) (rest := []) C0 hK hN (c7_expand l D cI cJ cN cR rf H0.size f_hasSnapshot f_termListSize f_textSize f_tops f_bottoms f_E_size f_E_leftTop f_E_leftBottom f_E_rightTop f_E_rightBottom f_E_terms v1 _ hw) 1 gX7_factorLength_X7_expand rfl ⟨rfl, rfl⟩ nm7_expand ⟨Nat.le_of_ble_eq_true rfl, Nat.le_of_ble_eq_true rfl⟩ (q0 := 0) rfl rfl rfl rfl hl.1 rfl (Nat.le_of_ble_eq_true rfl) dX7_factorLength_11 ⟨Nat.le_of_ble_eq_true rfl, Nat.le_of_ble_eq_true rfl⟩ hPc hDc) (fun u11 H locs hw hP hD hS => ?_)
    obtain ⟨f_E_size_11, f_E_terms_11⟩ := u11
    dsimp only at hw
    have hP : va_P D vwCl [((rf 0), o7 rf f_hasSnapshot f_termListSize f_textSize), ((rf 1), ai cI 8 f_tops), ((rf 2), ai cI 8 f_bottoms), ((rf 14), o1 (rf 17) f_E_size_11 f_E_leftTop f_E_leftBottom f_E_rightTop f_E_rightBottom), ((rf 17), ai cI 64 f_E_terms_11)] H := hP
    have hD : va_D A [((rf 0), o7 rf f_hasSnapshot f_termListSize f_textSize), ((rf 1), ai cI 8 f_tops), ((rf 2), ai cI 8 f_bottoms), ((rf 14), o1 (rf 17) f_E_size_11 f_E_leftTop f_E_leftBottom f_E_rightTop f_E_rightBottom), ((rf 17), ai cI 64 f_E_terms_11)] := hD
    refine lv_astore_n (lv' := [(2, .ref (rf 14)), (0, .ref (rf 0)), (1, .int v1)]) hx hb dX7_factorLength_14 rfl hl (by decide) rfl (fun ls hl => ?_)
    refine lv_aload_n hx hb dX7_factorLength_15 rfl (lv_at hl 0 rfl) ?_
    refine kcV (wc := [((rf 14), o1 (rf 17) f_E_size_11 f_E_leftTop f_E_leftBottom f_E_rightTop f_E_rightBottom), ((rf 17), ai cI 64 f_E_terms_11)]) (wr := [((rf 0), o7 rf f_hasSnapshot f_termListSize f_textSize), ((rf 1), ai cI 8 f_tops), ((rf 2), ai cI 8 f_bottoms)]) hP hD hS hA [3, 4] [0, 1, 2] rfl rfl ⟨rfl, rfl, by decide⟩ (fun hPc hDc => rV (As := []) (rest := []) C0 hK hN (c1_findBounds l D cI cJ cN cR (rf 14) (rf 17) H.size f_E_size_11 f_E_leftTop f_E_leftBottom f_E_rightTop f_E_rightBottom f_E_terms_11  _ hw) 0 gX7_factorLength_X1_findBounds rfl ⟨rfl, rfl⟩ nm1_findBounds ⟨Nat.le_of_ble_eq_true rfl, Nat.le_of_ble_eq_true rfl⟩ (q0 := 0) rfl rfl rfl rfl hl.1 rfl (Nat.le_of_ble_eq_true rfl) dX7_factorLength_16 ⟨Nat.le_of_ble_eq_true rfl, Nat.le_of_ble_eq_true rfl⟩ hPc hDc) (fun u16 H locs hw hP hD hS => ?_)
    obtain ⟨f_E_leftTop_16, f_E_leftBottom_16, f_E_rightTop_16, f_E_rightBottom_16⟩ := u16
    dsimp only at hw
    have hP : va_P D vwCl [((rf 0), o7 rf f_hasSnapshot f_termListSize f_textSize), ((rf 1), ai cI 8 f_tops), ((rf 2), ai cI 8 f_bottoms), ((rf 14), o1 (rf 17) f_E_size_11 f_E_leftTop_16 f_E_leftBottom_16 f_E_rightTop_16 f_E_rightBottom_16), ((rf 17), ai cI 64 f_E_terms_11)] H := hP
    have hD : va_D A [((rf 0), o7 rf f_hasSnapshot f_termListSize f_textSize), ((rf 1), ai cI 8 f_tops), ((rf 2), ai cI 8 f_bottoms), ((rf 14), o1 (rf 17) f_E_size_11 f_E_leftTop_16 f_E_leftBottom_16 f_E_rightTop_16 f_E_rightBottom_16), ((rf 17), ai cI 64 f_E_terms_11)] := hD
    refine lv_aload_n hx hb dX7_factorLength_19 rfl (lv_at hl 0 rfl) ?_
    refine lv_iconst (v := (0 : Int32)) hx hb dX7_factorLength_20 (by decide) ?_
    refine kcRL (wc := [((rf 14), o1 (rf 17) f_E_size_11 f_E_leftTop_16 f_E_leftBottom_16 f_E_rightTop_16 f_E_rightBottom_16)]) hP [3] rfl (fun hPc => oV (As := [.int (0 : Int32)]) (rest := []) C0 hK hN (c1_boundTop l D cI cJ cN cR (rf 14) (rf 17) f_E_size_11 f_E_leftTop_16 f_E_leftBottom_16 f_E_rightTop_16 f_E_rightBottom_16 (0 : Int32) _ hw) 1 gX7_factorLength_X1_boundTop rfl ⟨rfl, rfl⟩ nm1_boundTop ⟨Nat.le_of_ble_eq_true rfl, Nat.le_of_ble_eq_true rfl⟩ (q0 := 0) rfl rfl rfl rfl hl.1 rfl (Nat.le_of_ble_eq_true rfl) dX7_factorLength_21 ⟨Nat.le_of_ble_eq_true rfl, Nat.le_of_ble_eq_true rfl⟩ hPc) (fun r21 hw => ?_)
    refine lv_aload_n hx hb dX7_factorLength_24 rfl (lv_at hl 0 rfl) ?_
    refine lv_iconst (v := (0 : Int32)) hx hb dX7_factorLength_25 (by decide) ?_
    refine kcRL (wc := [((rf 14), o1 (rf 17) f_E_size_11 f_E_leftTop_16 f_E_leftBottom_16 f_E_rightTop_16 f_E_rightBottom_16)]) hP [3] rfl (fun hPc => oV (As := [.int (0 : Int32)]) (rest := [.long r21]) C0 hK hN (c1_boundBottom l D cI cJ cN cR (rf 14) (rf 17) f_E_size_11 f_E_leftTop_16 f_E_leftBottom_16 f_E_rightTop_16 f_E_rightBottom_16 (0 : Int32) _ hw) 1 gX7_factorLength_X1_boundBottom rfl ⟨rfl, rfl⟩ nm1_boundBottom ⟨Nat.le_of_ble_eq_true rfl, Nat.le_of_ble_eq_true rfl⟩ (q0 := 0) rfl rfl rfl rfl hl.1 rfl (Nat.le_of_ble_eq_true rfl) dX7_factorLength_26 ⟨Nat.le_of_ble_eq_true rfl, Nat.le_of_ble_eq_true rfl⟩ hPc) (fun r26 hw => ?_)
    refine lv_ladd hx hb dX7_factorLength_29 ?_
    refine lv_l2i hx hb dX7_factorLength_30 rfl ?_
    exact RET _ _ _ (f_E_size_11, f_E_leftTop_16, f_E_leftBottom_16, f_E_rightTop_16, f_E_rightBottom_16, f_E_terms_11) _ _ hw hP hD hS dX7_factorLength_31
  · have hw := hw.2 k
    refine lv_iconst (v := (-1 : Int32)) hx hb dX7_factorLength_7 (by decide) ?_
    exact RET _ _ _ (f_E_size, f_E_leftTop, f_E_leftBottom, f_E_rightTop, f_E_rightBottom, f_E_terms) _ _ hw hP hD hS dX7_factorLength_8
abbrev rm7_isArray : Room := { frames := 0, cells := 0, slots := 0, locals := 0 }
theorem nm7_isArray : kNm yX7_isArray 1 := by decide +kernel
set_option maxHeartbeats 4000000 in
set_option maxRecDepth 100000 in
theorem c7_isArray (l : Launch) (D : va_G) (cI cJ cN cR : ClassId)   (v0 : Int32) (post : Int32 → Prop) (hw : w7_isArray v0 post) : Met l yX7_isArray wsX7_isArray rm7_isArray (kR D (kT cI cJ cN cR) [.int v0] []) (vp_Si (fun (r : Int32) => narrow .boolean (.int r) = .int r ∧ post r)) 0 0 (fun _ => False) := by
  refine kMetRZ (cc := cX7_isArray) (maxL := 1) (by decide +kernel) rfl (Nat.le_of_ble_eq_true rfl) ?_
  intro p e s m args below meth c H ls Q C0 hK hN hP hl RET
  obtain ⟨hx, hb, hml, hown, hts⟩ := id C0
  have hl : lv_has ls 1 [(0, .int v0)] := hl
  unfold w7_isArray at hw
  refine lv_iload_n hx hb dX7_isArray_0 rfl (lv_at hl 0 rfl) ?_
  refine lv_if_lt (tgt := 13) hx hb dX7_isArray_1 (by decide) (fun k => ?_) (fun k => ?_)
  · have hw := hw.1 k
    refine lv_iconst (v := (0 : Int32)) hx hb dX7_isArray_13 (by decide) ?_
    exact RET _ _ _ rfl hw dX7_isArray_14
  · have hw := hw.2 k
    refine lv_iload_n hx hb dX7_isArray_4 rfl (lv_at hl 0 rfl) ?_
    refine lv_iconst (v := (3 : Int32)) hx hb dX7_isArray_5 (by decide) ?_
    refine lv_icmp_ge (tgt := 13) hx hb dX7_isArray_6 (by decide) (fun k => ?_) (fun k => ?_)
    · have hw := hw.1 k
      refine lv_iconst (v := (0 : Int32)) hx hb dX7_isArray_13 (by decide) ?_
      exact RET _ _ _ rfl hw dX7_isArray_14
    · have hw := hw.2 k
      refine lv_iconst (v := (1 : Int32)) hx hb dX7_isArray_9 (by decide) ?_
      refine lv_goto (tgt := 14) hx hb dX7_isArray_10 (by decide) ?_
      exact RET _ _ _ rfl hw dX7_isArray_14
abbrev rm7_onesOfWord : Room := { frames := 0, cells := 0, slots := 0, locals := 0 }
theorem nm7_onesOfWord : kNm yX7_onesOfWord 1 := by decide +kernel
set_option maxHeartbeats 4000000 in
set_option maxRecDepth 100000 in
theorem c7_onesOfWord (l : Launch) (D : va_G) (cI cJ cN cR : ClassId) (rf : Nat → Nat) (f_hasSnapshot : Int32) (f_termListSize : Int32) (f_textSize : Int32) (f_arraySizes : (Nat → Int32)) (f_arrays0 : (Nat → Int32)) (f_arrays1 : (Nat → Int32)) (f_arrays2 : (Nat → Int32)) (v1 : Int32) (post : Int32 → Prop) (hw : w7_onesOfWord f_arraySizes f_arrays0 f_arrays1 f_arrays2 v1 post) : Met l yX7_onesOfWord wsX7_onesOfWord rm7_onesOfWord (kR D (kT cI cJ cN cR) [.ref (rf 0), .int v1] [((rf 0), o7 rf f_hasSnapshot f_termListSize f_textSize), ((rf 12), ar cR rf), ((rf 13), ai cI 3 f_arraySizes), ((rf 23), ai cI 60 f_arrays0), ((rf 24), ai cI 60 f_arrays1), ((rf 25), ai cI 60 f_arrays2)]) (vp_Si post) 0 0 (fun _ => False) := by
  refine kMetRI (cc := cX7_onesOfWord) (maxL := 5) (by decide +kernel) rfl (Nat.le_of_ble_eq_true rfl) ?_
  intro p e s m args below meth c H ls Q C0 hK hN hP hl RET
  obtain ⟨hx, hb, hml, hown, hts⟩ := id C0
  have hl : lv_has ls 5 [(0, .ref (rf 0)), (1, .int v1)] := hl
  have g42 := hts (.fieldLink RX7 42 "SternBrocotExplorer" "arraySizes" "[I") (by decide +kernel)
  have g39 := hts (.fieldLink RX7 39 "SternBrocotExplorer" "arrays" "[[I") (by decide +kernel)
  have hi9 : ∀ w ∈ wsX70, w ∈ wsX7_onesOfWord := fun w h => List.mem_cons_of_mem _ (List.mem_append_right _ h)
  unfold w7_onesOfWord at hw
  refine lv_iconst (v := (0 : Int32)) hx hb dX7_onesOfWord_0 (by decide) ?_
  refine lv_istore_n (lv' := [(2, .int (0 : Int32)), (0, .ref (rf 0)), (1, .int v1)]) hx hb dX7_onesOfWord_1 rfl hl (by decide) rfl (fun ls hl => ?_)
  refine lv_iconst (v := (0 : Int32)) hx hb dX7_onesOfWord_2 (by decide) ?_
  refine lv_istore_n (lv' := [(3, .int (0 : Int32)), (2, .int (0 : Int32)), (0, .ref (rf 0)), (1, .int v1)]) hx hb dX7_onesOfWord_3 rfl hl (by decide) rfl (fun ls hl => ?_)
  obtain ⟨n4, hw⟩ := hw
  have LOOP_4 : ∀ (n4 : Nat) (v2 : Int32) (v3 : Int32) (ls : Array Slot), w7_onesOfWord_L4 f_arraySizes f_arrays0 f_arrays1 f_arrays2 v1 post n4 v2 v3 → lv_has ls 5 [(0, .ref (rf 0)), (1, .int v1), (2, .int v2), (3, .int v3)] → W p l e rm7_onesOfWord s m args below meth c H [] 0 0 Q (F0 m 4 ls []) := by
    clear hw hl
    intro n4
    induction n4 with
    | zero =>
      intro v2 v3 ls hw hl
      rw [w7_onesOfWord_L4] at hw
      exact hw.elim
    | succ n4 ih4 =>
      intro v2 v3 ls hw hl
      rw [w7_onesOfWord_L4] at hw
      refine lv_iload_n hx hb dX7_onesOfWord_4 rfl (lv_at hl 3 rfl) ?_
      refine lv_aload_n hx hb dX7_onesOfWord_5 rfl (lv_at hl 0 rfl) ?_
      refine va_get (D := D) (ci := 7) (v := .ref (rf 13)) (C := RX7) (T := TX7) (N := 16) hx hb hts hi9 hown hK hP 0 rfl rfl 12 (by decide) g42 (fun _ h9 => h9) rfl dX7_onesOfWord_6 ?_
      refine lv_iload_n hx hb dX7_onesOfWord_9 rfl (lv_at hl 1 rfl) ?_
      obtain ⟨hin, hw⟩ := hw
      refine va_iald hx hb hK hP 2 0 rfl rfl hin dX7_onesOfWord_10 ?_
      refine lv_icmp_ge (tgt := 48) hx hb dX7_onesOfWord_11 (by decide) (fun k => ?_) (fun k => ?_)
      · have hw := hw.1 k
        refine lv_iload_n hx hb dX7_onesOfWord_48 rfl (lv_at hl 2 rfl) ?_
        exact RET _ _ _ hw dX7_onesOfWord_49
      · have hw := hw.2 k
        refine lv_aload_n hx hb dX7_onesOfWord_14 rfl (lv_at hl 0 rfl) ?_
        refine va_get (D := D) (ci := 7) (v := .ref (rf 12)) (C := RX7) (T := TX7) (N := 16) hx hb hts hi9 hown hK hP 0 rfl rfl 11 (by decide) g39 (fun _ h9 => h9) rfl dX7_onesOfWord_15 ?_
        refine lv_iload_n hx hb dX7_onesOfWord_18 rfl (lv_at hl 1 rfl) ?_
        obtain ⟨hin, hw⟩ := hw
        rcases k_three hin with h3 | h3 | h3
        · have hw := hw.1 h3
          refine k_aldM (q := (rf 23)) hx hb hK hP 1 3 rfl rfl hin (by rw [h3]; rfl) dX7_onesOfWord_19 ?_
          refine lv_iload_n hx hb dX7_onesOfWord_20 rfl (lv_at hl 3 rfl) ?_
          obtain ⟨hin, hw⟩ := hw
          refine va_iald hx hb hK hP 3 0 rfl rfl hin dX7_onesOfWord_21 ?_
          refine lv_topi (fun x22 ex22 => ?_)
          have hw := hw x22 ex22
          refine lv_istore (lv' := [(4, .int x22), (0, .ref (rf 0)), (1, .int v1), (2, .int v2), (3, .int v3)]) hx hb dX7_onesOfWord_22 hl (by decide) rfl (fun ls hl => ?_)
          refine lv_iload hx hb dX7_onesOfWord_24 (lv_at hl 0 rfl) ?_
          refine lv_if_eq (tgt := 37) hx hb dX7_onesOfWord_26 (by decide) (fun k => ?_) (fun k => ?_)
          · have hw := hw.1 k
            refine lv_iload_n hx hb dX7_onesOfWord_37 rfl (lv_at hl 3 rfl) ?_
            refine lv_iload hx hb dX7_onesOfWord_38 (lv_at hl 0 rfl) ?_
            refine lv_iadd hx hb dX7_onesOfWord_40 ?_
            refine lv_topi (fun x41 ex41 => ?_)
            have hw := hw x41 ex41
            refine lv_istore_n (lv' := [(2, .int x41), (4, .int x22), (0, .ref (rf 0)), (1, .int v1), (3, .int v3)]) hx hb dX7_onesOfWord_41 rfl hl (by decide) rfl (fun ls hl => ?_)
            obtain ⟨x42, ex42⟩ : ∃ y : Int32, y = (v3 + (1 : Int32)) := ⟨_, rfl⟩
            have hw := hw x42 ex42
            refine lv_iinc (v := x42) (lv' := [(3, .int x42), (2, .int x41), (4, .int x22), (0, .ref (rf 0)), (1, .int v1)]) hx hb dX7_onesOfWord_42 hl (k := 4) rfl (by rw [ex42]; rfl) (by decide) rfl (fun ls hl => ?_)
            refine lv_goto (tgt := 4) hx hb dX7_onesOfWord_45 (by decide) ?_
            exact ih4 x41 x42 ls hw (lv_sub hl [3, 4, 1, 0] rfl)
          · have hw := hw.2 k
            refine lv_iload hx hb dX7_onesOfWord_29 (lv_at hl 0 rfl) ?_
            refine lv_iconst (v := (1 : Int32)) hx hb dX7_onesOfWord_31 (by decide) ?_
            refine lv_icmp_eq (tgt := 37) hx hb dX7_onesOfWord_32 (by decide) (fun k => ?_) (fun k => ?_)
            · have hw := hw.1 k
              refine lv_iload_n hx hb dX7_onesOfWord_37 rfl (lv_at hl 3 rfl) ?_
              refine lv_iload hx hb dX7_onesOfWord_38 (lv_at hl 0 rfl) ?_
              refine lv_iadd hx hb dX7_onesOfWord_40 ?_
              refine lv_topi (fun x41 ex41 => ?_)
              have hw := hw x41 ex41
              refine lv_istore_n (lv' := [(2, .int x41), (4, .int x22), (0, .ref (rf 0)), (1, .int v1), (3, .int v3)]) hx hb dX7_onesOfWord_41 rfl hl (by decide) rfl (fun ls hl => ?_)
              obtain ⟨x42, ex42⟩ : ∃ y : Int32, y = (v3 + (1 : Int32)) := ⟨_, rfl⟩
              have hw := hw x42 ex42
              refine lv_iinc (v := x42) (lv' := [(3, .int x42), (2, .int x41), (4, .int x22), (0, .ref (rf 0)), (1, .int v1)]) hx hb dX7_onesOfWord_42 hl (k := 4) rfl (by rw [ex42]; rfl) (by decide) rfl (fun ls hl => ?_)
              refine lv_goto (tgt := 4) hx hb dX7_onesOfWord_45 (by decide) ?_
              exact ih4 x41 x42 ls hw (lv_sub hl [3, 4, 1, 0] rfl)
            · have hw := hw.2 k
              refine lv_iconst (v := (0 : Int32)) hx hb dX7_onesOfWord_35 (by decide) ?_
              exact RET _ _ _ hw dX7_onesOfWord_36
        · have hw := hw.2.1 h3
          refine k_aldM (q := (rf 24)) hx hb hK hP 1 3 rfl rfl hin (by rw [h3]; rfl) dX7_onesOfWord_19 ?_
          refine lv_iload_n hx hb dX7_onesOfWord_20 rfl (lv_at hl 3 rfl) ?_
          obtain ⟨hin, hw⟩ := hw
          refine va_iald hx hb hK hP 4 0 rfl rfl hin dX7_onesOfWord_21 ?_
          refine lv_topi (fun x22 ex22 => ?_)
          have hw := hw x22 ex22
          refine lv_istore (lv' := [(4, .int x22), (0, .ref (rf 0)), (1, .int v1), (2, .int v2), (3, .int v3)]) hx hb dX7_onesOfWord_22 hl (by decide) rfl (fun ls hl => ?_)
          refine lv_iload hx hb dX7_onesOfWord_24 (lv_at hl 0 rfl) ?_
          refine lv_if_eq (tgt := 37) hx hb dX7_onesOfWord_26 (by decide) (fun k => ?_) (fun k => ?_)
          · have hw := hw.1 k
            refine lv_iload_n hx hb dX7_onesOfWord_37 rfl (lv_at hl 3 rfl) ?_
            refine lv_iload hx hb dX7_onesOfWord_38 (lv_at hl 0 rfl) ?_
            refine lv_iadd hx hb dX7_onesOfWord_40 ?_
            refine lv_topi (fun x41 ex41 => ?_)
            have hw := hw x41 ex41
            refine lv_istore_n (lv' := [(2, .int x41), (4, .int x22), (0, .ref (rf 0)), (1, .int v1), (3, .int v3)]) hx hb dX7_onesOfWord_41 rfl hl (by decide) rfl (fun ls hl => ?_)
            obtain ⟨x42, ex42⟩ : ∃ y : Int32, y = (v3 + (1 : Int32)) := ⟨_, rfl⟩
            have hw := hw x42 ex42
            refine lv_iinc (v := x42) (lv' := [(3, .int x42), (2, .int x41), (4, .int x22), (0, .ref (rf 0)), (1, .int v1)]) hx hb dX7_onesOfWord_42 hl (k := 4) rfl (by rw [ex42]; rfl) (by decide) rfl (fun ls hl => ?_)
            refine lv_goto (tgt := 4) hx hb dX7_onesOfWord_45 (by decide) ?_
            exact ih4 x41 x42 ls hw (lv_sub hl [3, 4, 1, 0] rfl)
          · have hw := hw.2 k
            refine lv_iload hx hb dX7_onesOfWord_29 (lv_at hl 0 rfl) ?_
            refine lv_iconst (v := (1 : Int32)) hx hb dX7_onesOfWord_31 (by decide) ?_
            refine lv_icmp_eq (tgt := 37) hx hb dX7_onesOfWord_32 (by decide) (fun k => ?_) (fun k => ?_)
            · have hw := hw.1 k
              refine lv_iload_n hx hb dX7_onesOfWord_37 rfl (lv_at hl 3 rfl) ?_
              refine lv_iload hx hb dX7_onesOfWord_38 (lv_at hl 0 rfl) ?_
              refine lv_iadd hx hb dX7_onesOfWord_40 ?_
              refine lv_topi (fun x41 ex41 => ?_)
              have hw := hw x41 ex41
              refine lv_istore_n (lv' := [(2, .int x41), (4, .int x22), (0, .ref (rf 0)), (1, .int v1), (3, .int v3)]) hx hb dX7_onesOfWord_41 rfl hl (by decide) rfl (fun ls hl => ?_)
              obtain ⟨x42, ex42⟩ : ∃ y : Int32, y = (v3 + (1 : Int32)) := ⟨_, rfl⟩
              have hw := hw x42 ex42
              refine lv_iinc (v := x42) (lv' := [(3, .int x42), (2, .int x41), (4, .int x22), (0, .ref (rf 0)), (1, .int v1)]) hx hb dX7_onesOfWord_42 hl (k := 4) rfl (by rw [ex42]; rfl) (by decide) rfl (fun ls hl => ?_)
              refine lv_goto (tgt := 4) hx hb dX7_onesOfWord_45 (by decide) ?_
              exact ih4 x41 x42 ls hw (lv_sub hl [3, 4, 1, 0] rfl)
            · have hw := hw.2 k
              refine lv_iconst (v := (0 : Int32)) hx hb dX7_onesOfWord_35 (by decide) ?_
              exact RET _ _ _ hw dX7_onesOfWord_36
        · have hw := hw.2.2 h3
          refine k_aldM (q := (rf 25)) hx hb hK hP 1 3 rfl rfl hin (by rw [h3]; rfl) dX7_onesOfWord_19 ?_
          refine lv_iload_n hx hb dX7_onesOfWord_20 rfl (lv_at hl 3 rfl) ?_
          obtain ⟨hin, hw⟩ := hw
          refine va_iald hx hb hK hP 5 0 rfl rfl hin dX7_onesOfWord_21 ?_
          refine lv_topi (fun x22 ex22 => ?_)
          have hw := hw x22 ex22
          refine lv_istore (lv' := [(4, .int x22), (0, .ref (rf 0)), (1, .int v1), (2, .int v2), (3, .int v3)]) hx hb dX7_onesOfWord_22 hl (by decide) rfl (fun ls hl => ?_)
          refine lv_iload hx hb dX7_onesOfWord_24 (lv_at hl 0 rfl) ?_
          refine lv_if_eq (tgt := 37) hx hb dX7_onesOfWord_26 (by decide) (fun k => ?_) (fun k => ?_)
          · have hw := hw.1 k
            refine lv_iload_n hx hb dX7_onesOfWord_37 rfl (lv_at hl 3 rfl) ?_
            refine lv_iload hx hb dX7_onesOfWord_38 (lv_at hl 0 rfl) ?_
            refine lv_iadd hx hb dX7_onesOfWord_40 ?_
            refine lv_topi (fun x41 ex41 => ?_)
            have hw := hw x41 ex41
            refine lv_istore_n (lv' := [(2, .int x41), (4, .int x22), (0, .ref (rf 0)), (1, .int v1), (3, .int v3)]) hx hb dX7_onesOfWord_41 rfl hl (by decide) rfl (fun ls hl => ?_)
            obtain ⟨x42, ex42⟩ : ∃ y : Int32, y = (v3 + (1 : Int32)) := ⟨_, rfl⟩
            have hw := hw x42 ex42
            refine lv_iinc (v := x42) (lv' := [(3, .int x42), (2, .int x41), (4, .int x22), (0, .ref (rf 0)), (1, .int v1)]) hx hb dX7_onesOfWord_42 hl (k := 4) rfl (by rw [ex42]; rfl) (by decide) rfl (fun ls hl => ?_)
            refine lv_goto (tgt := 4) hx hb dX7_onesOfWord_45 (by decide) ?_
            exact ih4 x41 x42 ls hw (lv_sub hl [3, 4, 1, 0] rfl)
          · have hw := hw.2 k
            refine lv_iload hx hb dX7_onesOfWord_29 (lv_at hl 0 rfl) ?_
            refine lv_iconst (v := (1 : Int32)) hx hb dX7_onesOfWord_31 (by decide) ?_
            refine lv_icmp_eq (tgt := 37) hx hb dX7_onesOfWord_32 (by decide) (fun k => ?_) (fun k => ?_)
            · have hw := hw.1 k
              refine lv_iload_n hx hb dX7_onesOfWord_37 rfl (lv_at hl 3 rfl) ?_
              refine lv_iload hx hb dX7_onesOfWord_38 (lv_at hl 0 rfl) ?_
              refine lv_iadd hx hb dX7_onesOfWord_40 ?_
              refine lv_topi (fun x41 ex41 => ?_)
              have hw := hw x41 ex41
              refine lv_istore_n (lv' := [(2, .int x41), (4, .int x22), (0, .ref (rf 0)), (1, .int v1), (3, .int v3)]) hx hb dX7_onesOfWord_41 rfl hl (by decide) rfl (fun ls hl => ?_)
              obtain ⟨x42, ex42⟩ : ∃ y : Int32, y = (v3 + (1 : Int32)) := ⟨_, rfl⟩
              have hw := hw x42 ex42
              refine lv_iinc (v := x42) (lv' := [(3, .int x42), (2, .int x41), (4, .int x22), (0, .ref (rf 0)), (1, .int v1)]) hx hb dX7_onesOfWord_42 hl (k := 4) rfl (by rw [ex42]; rfl) (by decide) rfl (fun ls hl => ?_)
              refine lv_goto (tgt := 4) hx hb dX7_onesOfWord_45 (by decide) ?_
              exact ih4 x41 x42 ls hw (lv_sub hl [3, 4, 1, 0] rfl)
            · have hw := hw.2 k
              refine lv_iconst (v := (0 : Int32)) hx hb dX7_onesOfWord_35 (by decide) ?_
              exact RET _ _ _ hw dX7_onesOfWord_36
  exact LOOP_4 n4 (0 : Int32) (0 : Int32) ls hw (lv_sub hl [2, 3, 1, 0] rfl)
abbrev rm7_isRotatedWord : Room := { frames := 2, cells := 0, slots := 0, locals := 50 }
theorem nm7_isRotatedWord : kNm yX7_isRotatedWord 4 := by decide +kernel
set_option maxHeartbeats 4000000 in
set_option maxRecDepth 100000 in
theorem c7_isRotatedWord (l : Launch) (D : va_G) (cI cJ cN cR : ClassId) (rf : Nat → Nat) (f_hasSnapshot : Int32) (f_termListSize : Int32) (f_textSize : Int32) (f_arraySizes : (Nat → Int32)) (f_arrays0 : (Nat → Int32)) (f_arrays1 : (Nat → Int32)) (f_arrays2 : (Nat → Int32)) (v1 : Int32) (v2 : Int32) (v3 : Int32) (v4 : Int32) (post : Int32 → Prop) (hw : w7_isRotatedWord f_arraySizes f_arrays0 f_arrays1 f_arrays2 v1 v2 v3 v4 post) : Met l yX7_isRotatedWord wsX7_isRotatedWord rm7_isRotatedWord (kR D (kT cI cJ cN cR) [.ref (rf 0), .int v1, .int v2, .int v3, .int v4] [((rf 0), o7 rf f_hasSnapshot f_termListSize f_textSize), ((rf 12), ar cR rf), ((rf 13), ai cI 3 f_arraySizes), ((rf 23), ai cI 60 f_arrays0), ((rf 24), ai cI 60 f_arrays1), ((rf 25), ai cI 60 f_arrays2)]) (vp_Si (fun (r : Int32) => narrow .boolean (.int r) = .int r ∧ post r)) 0 0 (fun _ => False) := by
  refine kMetRZ (cc := cX7_isRotatedWord) (maxL := 7) (by decide +kernel) rfl (Nat.le_of_ble_eq_true rfl) ?_
  intro p e s m args below meth c H ls Q C0 hK hN hP hl RET
  obtain ⟨hx, hb, hml, hown, hts⟩ := id C0
  have hl : lv_has ls 7 [(0, .ref (rf 0)), (1, .int v1), (2, .int v2), (3, .int v3), (4, .int v4)] := hl
  have g42 := hts (.fieldLink RX7 42 "SternBrocotExplorer" "arraySizes" "[I") (by decide +kernel)
  have g39 := hts (.fieldLink RX7 39 "SternBrocotExplorer" "arrays" "[[I") (by decide +kernel)
  have hi9 : ∀ w ∈ wsX70, w ∈ wsX7_isRotatedWord := fun w h => List.mem_cons_of_mem _ (List.mem_append_right _ h)
  unfold w7_isRotatedWord at hw
  refine lv_iload_n hx hb dX7_isRotatedWord_0 rfl (lv_at hl 2 rfl) ?_
  refine lv_iload_n hx hb dX7_isRotatedWord_1 rfl (lv_at hl 3 rfl) ?_
  refine lv_iadd hx hb dX7_isRotatedWord_2 ?_
  refine lv_topi (fun x3 ex3 => ?_)
  have hw := hw x3 ex3
  refine lv_istore (lv' := [(5, .int x3), (0, .ref (rf 0)), (1, .int v1), (2, .int v2), (3, .int v3), (4, .int v4)]) hx hb dX7_isRotatedWord_3 hl (by decide) rfl (fun ls hl => ?_)
  refine lv_iconst (v := (0 : Int32)) hx hb dX7_isRotatedWord_5 (by decide) ?_
  refine lv_istore (lv' := [(6, .int (0 : Int32)), (5, .int x3), (0, .ref (rf 0)), (1, .int v1), (2, .int v2), (3, .int v3), (4, .int v4)]) hx hb dX7_isRotatedWord_6 hl (by decide) rfl (fun ls hl => ?_)
  obtain ⟨n8, hw⟩ := hw
  have LOOP_8 : ∀ (n8 : Nat) (v6 : Int32) (ls : Array Slot), w7_isRotatedWord_L8 f_arraySizes f_arrays0 f_arrays1 f_arrays2 v1 v2 v3 v4 x3 post n8 v6 → lv_has ls 7 [(0, .ref (rf 0)), (1, .int v1), (2, .int v2), (3, .int v3), (4, .int v4), (5, .int x3), (6, .int v6)] → W p l e rm7_isRotatedWord s m args below meth c H [] 0 0 Q (F0 m 8 ls []) := by
    clear hw hl
    intro n8
    induction n8 with
    | zero =>
      intro v6 ls hw hl
      rw [w7_isRotatedWord_L8] at hw
      exact hw.elim
    | succ n8 ih8 =>
      intro v6 ls hw hl
      rw [w7_isRotatedWord_L8] at hw
      refine lv_iload hx hb dX7_isRotatedWord_8 (lv_at hl 6 rfl) ?_
      refine lv_aload_n hx hb dX7_isRotatedWord_10 rfl (lv_at hl 0 rfl) ?_
      refine va_get (D := D) (ci := 7) (v := .ref (rf 13)) (C := RX7) (T := TX7) (N := 16) hx hb hts hi9 hown hK hP 0 rfl rfl 12 (by decide) g42 (fun _ h9 => h9) rfl dX7_isRotatedWord_11 ?_
      refine lv_iload_n hx hb dX7_isRotatedWord_14 rfl (lv_at hl 1 rfl) ?_
      obtain ⟨hin, hw⟩ := hw
      refine va_iald hx hb hK hP 2 0 rfl rfl hin dX7_isRotatedWord_15 ?_
      refine lv_icmp_ge (tgt := 58) hx hb dX7_isRotatedWord_16 (by decide) (fun k => ?_) (fun k => ?_)
      · have hw := hw.1 k
        refine lv_iconst (v := (1 : Int32)) hx hb dX7_isRotatedWord_58 (by decide) ?_
        exact RET _ _ _ rfl hw dX7_isRotatedWord_59
      · have hw := hw.2 k
        refine lv_aload_n hx hb dX7_isRotatedWord_19 rfl (lv_at hl 0 rfl) ?_
        refine va_get (D := D) (ci := 7) (v := .ref (rf 12)) (C := RX7) (T := TX7) (N := 16) hx hb hts hi9 hown hK hP 0 rfl rfl 11 (by decide) g39 (fun _ h9 => h9) rfl dX7_isRotatedWord_20 ?_
        refine lv_iload_n hx hb dX7_isRotatedWord_23 rfl (lv_at hl 1 rfl) ?_
        obtain ⟨hin, hw⟩ := hw
        rcases k_three hin with h3 | h3 | h3
        · have hw := hw.1 h3
          refine k_aldM (q := (rf 23)) hx hb hK hP 1 3 rfl rfl hin (by rw [h3]; rfl) dX7_isRotatedWord_24 ?_
          refine lv_iload hx hb dX7_isRotatedWord_25 (lv_at hl 6 rfl) ?_
          obtain ⟨hin, hw⟩ := hw
          refine va_iald hx hb hK hP 3 0 rfl rfl hin dX7_isRotatedWord_27 ?_
          refine lv_iload_n hx hb dX7_isRotatedWord_28 rfl (lv_at hl 2 rfl) ?_
          refine lv_i2l hx hb dX7_isRotatedWord_29 rfl ?_
          refine lv_iload_n hx hb dX7_isRotatedWord_30 rfl (lv_at hl 3 rfl) ?_
          refine lv_i2l hx hb dX7_isRotatedWord_31 rfl ?_
          refine lv_iload hx hb dX7_isRotatedWord_32 (lv_at hl 6 rfl) ?_
          refine lv_iload hx hb dX7_isRotatedWord_34 (lv_at hl 4 rfl) ?_
          refine lv_iadd hx hb dX7_isRotatedWord_36 ?_
          refine lv_i2l hx hb dX7_isRotatedWord_37 rfl ?_
          refine lv_iload hx hb dX7_isRotatedWord_38 (lv_at hl 5 rfl) ?_
          refine lv_i2l hx hb dX7_isRotatedWord_40 rfl ?_
          refine kcRL (wc := []) hP [] rfl (fun hPc => oS (As := [.long ((v6 + v4).toInt64), .long x3.toInt64]) (rest := [.long v3.toInt64, .long v2.toInt64, .int (f_arrays0 v6.toNatClampNeg)]) C0 hK hN (c7_remainder l D cI cJ cN cR   ((v6 + v4).toInt64) x3.toInt64 _ hw) 2 gX7_isRotatedWord_X7_remainder rfl ⟨rfl, rfl⟩ nm7_remainder ⟨Nat.le_of_ble_eq_true rfl, Nat.le_of_ble_eq_true rfl⟩ rfl hl.1 rfl (Nat.le_of_ble_eq_true rfl) dX7_isRotatedWord_41 ⟨Nat.le_of_ble_eq_true rfl, Nat.le_of_ble_eq_true rfl⟩ hPc) (fun r41 hw => ?_)
          refine kcRI (wc := []) hP [] rfl (fun hPc => oS (As := [.long v2.toInt64, .long v3.toInt64, .long r41]) (rest := [.int (f_arrays0 v6.toNatClampNeg)]) C0 hK hN (c7_letterOf l D cI cJ cN cR   v2.toInt64 v3.toInt64 r41 _ hw) 3 gX7_isRotatedWord_X7_letterOf rfl ⟨rfl, rfl⟩ nm7_letterOf ⟨Nat.le_of_ble_eq_true rfl, Nat.le_of_ble_eq_true rfl⟩ rfl hl.1 rfl (Nat.le_of_ble_eq_true rfl) dX7_isRotatedWord_44 ⟨Nat.le_of_ble_eq_true rfl, Nat.le_of_ble_eq_true rfl⟩ hPc) (fun r44 hw => ?_)
          refine lv_icmp_eq (tgt := 52) hx hb dX7_isRotatedWord_47 (by decide) (fun k => ?_) (fun k => ?_)
          · have hw := hw.1 k
            obtain ⟨x52, ex52⟩ : ∃ y : Int32, y = (v6 + (1 : Int32)) := ⟨_, rfl⟩
            have hw := hw x52 ex52
            refine lv_iinc (v := x52) (lv' := [(6, .int x52), (0, .ref (rf 0)), (1, .int v1), (2, .int v2), (3, .int v3), (4, .int v4), (5, .int x3)]) hx hb dX7_isRotatedWord_52 hl (k := 6) rfl (by rw [ex52]; rfl) (by decide) rfl (fun ls hl => ?_)
            refine lv_goto (tgt := 8) hx hb dX7_isRotatedWord_55 (by decide) ?_
            exact ih8 x52 ls hw (lv_sub hl [1, 2, 3, 4, 5, 6, 0] rfl)
          · have hw := hw.2 k
            refine lv_iconst (v := (0 : Int32)) hx hb dX7_isRotatedWord_50 (by decide) ?_
            exact RET _ _ _ rfl hw dX7_isRotatedWord_51
        · have hw := hw.2.1 h3
          refine k_aldM (q := (rf 24)) hx hb hK hP 1 3 rfl rfl hin (by rw [h3]; rfl) dX7_isRotatedWord_24 ?_
          refine lv_iload hx hb dX7_isRotatedWord_25 (lv_at hl 6 rfl) ?_
          obtain ⟨hin, hw⟩ := hw
          refine va_iald hx hb hK hP 4 0 rfl rfl hin dX7_isRotatedWord_27 ?_
          refine lv_iload_n hx hb dX7_isRotatedWord_28 rfl (lv_at hl 2 rfl) ?_
          refine lv_i2l hx hb dX7_isRotatedWord_29 rfl ?_
          refine lv_iload_n hx hb dX7_isRotatedWord_30 rfl (lv_at hl 3 rfl) ?_
          refine lv_i2l hx hb dX7_isRotatedWord_31 rfl ?_
          refine lv_iload hx hb dX7_isRotatedWord_32 (lv_at hl 6 rfl) ?_
          refine lv_iload hx hb dX7_isRotatedWord_34 (lv_at hl 4 rfl) ?_
          refine lv_iadd hx hb dX7_isRotatedWord_36 ?_
          refine lv_i2l hx hb dX7_isRotatedWord_37 rfl ?_
          refine lv_iload hx hb dX7_isRotatedWord_38 (lv_at hl 5 rfl) ?_
          refine lv_i2l hx hb dX7_isRotatedWord_40 rfl ?_
          refine kcRL (wc := []) hP [] rfl (fun hPc => oS (As := [.long ((v6 + v4).toInt64), .long x3.toInt64]) (rest := [.long v3.toInt64, .long v2.toInt64, .int (f_arrays1 v6.toNatClampNeg)]) C0 hK hN (c7_remainder l D cI cJ cN cR   ((v6 + v4).toInt64) x3.toInt64 _ hw) 2 gX7_isRotatedWord_X7_remainder rfl ⟨rfl, rfl⟩ nm7_remainder ⟨Nat.le_of_ble_eq_true rfl, Nat.le_of_ble_eq_true rfl⟩ rfl hl.1 rfl (Nat.le_of_ble_eq_true rfl) dX7_isRotatedWord_41 ⟨Nat.le_of_ble_eq_true rfl, Nat.le_of_ble_eq_true rfl⟩ hPc) (fun r41 hw => ?_)
          refine kcRI (wc := []) hP [] rfl (fun hPc => oS (As := [.long v2.toInt64, .long v3.toInt64, .long r41]) (rest := [.int (f_arrays1 v6.toNatClampNeg)]) C0 hK hN (c7_letterOf l D cI cJ cN cR   v2.toInt64 v3.toInt64 r41 _ hw) 3 gX7_isRotatedWord_X7_letterOf rfl ⟨rfl, rfl⟩ nm7_letterOf ⟨Nat.le_of_ble_eq_true rfl, Nat.le_of_ble_eq_true rfl⟩ rfl hl.1 rfl (Nat.le_of_ble_eq_true rfl) dX7_isRotatedWord_44 ⟨Nat.le_of_ble_eq_true rfl, Nat.le_of_ble_eq_true rfl⟩ hPc) (fun r44 hw => ?_)
          refine lv_icmp_eq (tgt := 52) hx hb dX7_isRotatedWord_47 (by decide) (fun k => ?_) (fun k => ?_)
          · have hw := hw.1 k
            obtain ⟨x52, ex52⟩ : ∃ y : Int32, y = (v6 + (1 : Int32)) := ⟨_, rfl⟩
            have hw := hw x52 ex52
            refine lv_iinc (v := x52) (lv' := [(6, .int x52), (0, .ref (rf 0)), (1, .int v1), (2, .int v2), (3, .int v3), (4, .int v4), (5, .int x3)]) hx hb dX7_isRotatedWord_52 hl (k := 6) rfl (by rw [ex52]; rfl) (by decide) rfl (fun ls hl => ?_)
            refine lv_goto (tgt := 8) hx hb dX7_isRotatedWord_55 (by decide) ?_
            exact ih8 x52 ls hw (lv_sub hl [1, 2, 3, 4, 5, 6, 0] rfl)
          · have hw := hw.2 k
            refine lv_iconst (v := (0 : Int32)) hx hb dX7_isRotatedWord_50 (by decide) ?_
            exact RET _ _ _ rfl hw dX7_isRotatedWord_51
        · have hw := hw.2.2 h3
          refine k_aldM (q := (rf 25)) hx hb hK hP 1 3 rfl rfl hin (by rw [h3]; rfl) dX7_isRotatedWord_24 ?_
          refine lv_iload hx hb dX7_isRotatedWord_25 (lv_at hl 6 rfl) ?_
          obtain ⟨hin, hw⟩ := hw
          refine va_iald hx hb hK hP 5 0 rfl rfl hin dX7_isRotatedWord_27 ?_
          refine lv_iload_n hx hb dX7_isRotatedWord_28 rfl (lv_at hl 2 rfl) ?_
          refine lv_i2l hx hb dX7_isRotatedWord_29 rfl ?_
          refine lv_iload_n hx hb dX7_isRotatedWord_30 rfl (lv_at hl 3 rfl) ?_
          refine lv_i2l hx hb dX7_isRotatedWord_31 rfl ?_
          refine lv_iload hx hb dX7_isRotatedWord_32 (lv_at hl 6 rfl) ?_
          refine lv_iload hx hb dX7_isRotatedWord_34 (lv_at hl 4 rfl) ?_
          refine lv_iadd hx hb dX7_isRotatedWord_36 ?_
          refine lv_i2l hx hb dX7_isRotatedWord_37 rfl ?_
          refine lv_iload hx hb dX7_isRotatedWord_38 (lv_at hl 5 rfl) ?_
          refine lv_i2l hx hb dX7_isRotatedWord_40 rfl ?_
          refine kcRL (wc := []) hP [] rfl (fun hPc => oS (As := [.long ((v6 + v4).toInt64), .long x3.toInt64]) (rest := [.long v3.toInt64, .long v2.toInt64, .int (f_arrays2 v6.toNatClampNeg)]) C0 hK hN (c7_remainder l D cI cJ cN cR   ((v6 + v4).toInt64) x3.toInt64 _ hw) 2 gX7_isRotatedWord_X7_remainder rfl ⟨rfl, rfl⟩ nm7_remainder ⟨Nat.le_of_ble_eq_true rfl, Nat.le_of_ble_eq_true rfl⟩ rfl hl.1 rfl (Nat.le_of_ble_eq_true rfl) dX7_isRotatedWord_41 ⟨Nat.le_of_ble_eq_true rfl, Nat.le_of_ble_eq_true rfl⟩ hPc) (fun r41 hw => ?_)
          refine kcRI (wc := []) hP [] rfl (fun hPc => oS (As := [.long v2.toInt64, .long v3.toInt64, .long r41]) (rest := [.int (f_arrays2 v6.toNatClampNeg)]) C0 hK hN (c7_letterOf l D cI cJ cN cR   v2.toInt64 v3.toInt64 r41 _ hw) 3 gX7_isRotatedWord_X7_letterOf rfl ⟨rfl, rfl⟩ nm7_letterOf ⟨Nat.le_of_ble_eq_true rfl, Nat.le_of_ble_eq_true rfl⟩ rfl hl.1 rfl (Nat.le_of_ble_eq_true rfl) dX7_isRotatedWord_44 ⟨Nat.le_of_ble_eq_true rfl, Nat.le_of_ble_eq_true rfl⟩ hPc) (fun r44 hw => ?_)
          refine lv_icmp_eq (tgt := 52) hx hb dX7_isRotatedWord_47 (by decide) (fun k => ?_) (fun k => ?_)
          · have hw := hw.1 k
            obtain ⟨x52, ex52⟩ : ∃ y : Int32, y = (v6 + (1 : Int32)) := ⟨_, rfl⟩
            have hw := hw x52 ex52
            refine lv_iinc (v := x52) (lv' := [(6, .int x52), (0, .ref (rf 0)), (1, .int v1), (2, .int v2), (3, .int v3), (4, .int v4), (5, .int x3)]) hx hb dX7_isRotatedWord_52 hl (k := 6) rfl (by rw [ex52]; rfl) (by decide) rfl (fun ls hl => ?_)
            refine lv_goto (tgt := 8) hx hb dX7_isRotatedWord_55 (by decide) ?_
            exact ih8 x52 ls hw (lv_sub hl [1, 2, 3, 4, 5, 6, 0] rfl)
          · have hw := hw.2 k
            refine lv_iconst (v := (0 : Int32)) hx hb dX7_isRotatedWord_50 (by decide) ?_
            exact RET _ _ _ rfl hw dX7_isRotatedWord_51
  exact LOOP_8 n8 (0 : Int32) ls hw (lv_sub hl [2, 3, 4, 5, 6, 1, 0] rfl)
abbrev rm7_isReversedWord : Room := { frames := 2, cells := 0, slots := 0, locals := 50 }
theorem nm7_isReversedWord : kNm yX7_isReversedWord 3 := by decide +kernel
set_option maxHeartbeats 4000000 in
set_option maxRecDepth 100000 in
theorem c7_isReversedWord (l : Launch) (D : va_G) (cI cJ cN cR : ClassId) (rf : Nat → Nat) (f_hasSnapshot : Int32) (f_termListSize : Int32) (f_textSize : Int32) (f_arraySizes : (Nat → Int32)) (f_arrays0 : (Nat → Int32)) (f_arrays1 : (Nat → Int32)) (f_arrays2 : (Nat → Int32)) (v1 : Int32) (v2 : Int32) (v3 : Int32) (post : Int32 → Prop) (hw : w7_isReversedWord f_arraySizes f_arrays0 f_arrays1 f_arrays2 v1 v2 v3 post) : Met l yX7_isReversedWord wsX7_isReversedWord rm7_isReversedWord (kR D (kT cI cJ cN cR) [.ref (rf 0), .int v1, .int v2, .int v3] [((rf 0), o7 rf f_hasSnapshot f_termListSize f_textSize), ((rf 12), ar cR rf), ((rf 13), ai cI 3 f_arraySizes), ((rf 23), ai cI 60 f_arrays0), ((rf 24), ai cI 60 f_arrays1), ((rf 25), ai cI 60 f_arrays2)]) (vp_Si (fun (r : Int32) => narrow .boolean (.int r) = .int r ∧ post r)) 0 0 (fun _ => False) := by
  refine kMetRZ (cc := cX7_isReversedWord) (maxL := 6) (by decide +kernel) rfl (Nat.le_of_ble_eq_true rfl) ?_
  intro p e s m args below meth c H ls Q C0 hK hN hP hl RET
  obtain ⟨hx, hb, hml, hown, hts⟩ := id C0
  have hl : lv_has ls 6 [(0, .ref (rf 0)), (1, .int v1), (2, .int v2), (3, .int v3)] := hl
  have g42 := hts (.fieldLink RX7 42 "SternBrocotExplorer" "arraySizes" "[I") (by decide +kernel)
  have g39 := hts (.fieldLink RX7 39 "SternBrocotExplorer" "arrays" "[[I") (by decide +kernel)
  have hi9 : ∀ w ∈ wsX70, w ∈ wsX7_isReversedWord := fun w h => List.mem_cons_of_mem _ (List.mem_append_right _ h)
  unfold w7_isReversedWord at hw
  refine lv_iload_n hx hb dX7_isReversedWord_0 rfl (lv_at hl 2 rfl) ?_
  refine lv_iload_n hx hb dX7_isReversedWord_1 rfl (lv_at hl 3 rfl) ?_
  refine lv_iadd hx hb dX7_isReversedWord_2 ?_
  refine lv_iconst (v := (1 : Int32)) hx hb dX7_isReversedWord_3 (by decide) ?_
  refine lv_isub hx hb dX7_isReversedWord_4 ?_
  refine lv_topi (fun x5 ex5 => ?_)
  have hw := hw x5 ex5
  refine lv_istore (lv' := [(4, .int x5), (0, .ref (rf 0)), (1, .int v1), (2, .int v2), (3, .int v3)]) hx hb dX7_isReversedWord_5 hl (by decide) rfl (fun ls hl => ?_)
  refine lv_iconst (v := (0 : Int32)) hx hb dX7_isReversedWord_7 (by decide) ?_
  refine lv_istore (lv' := [(5, .int (0 : Int32)), (4, .int x5), (0, .ref (rf 0)), (1, .int v1), (2, .int v2), (3, .int v3)]) hx hb dX7_isReversedWord_8 hl (by decide) rfl (fun ls hl => ?_)
  obtain ⟨n10, hw⟩ := hw
  have LOOP_10 : ∀ (n10 : Nat) (v5 : Int32) (ls : Array Slot), w7_isReversedWord_L10 f_arraySizes f_arrays0 f_arrays1 f_arrays2 v1 v2 v3 x5 post n10 v5 → lv_has ls 6 [(0, .ref (rf 0)), (1, .int v1), (2, .int v2), (3, .int v3), (4, .int x5), (5, .int v5)] → W p l e rm7_isReversedWord s m args below meth c H [] 0 0 Q (F0 m 10 ls []) := by
    clear hw hl
    intro n10
    induction n10 with
    | zero =>
      intro v5 ls hw hl
      rw [w7_isReversedWord_L10] at hw
      exact hw.elim
    | succ n10 ih10 =>
      intro v5 ls hw hl
      rw [w7_isReversedWord_L10] at hw
      refine lv_iload hx hb dX7_isReversedWord_10 (lv_at hl 5 rfl) ?_
      refine lv_aload_n hx hb dX7_isReversedWord_12 rfl (lv_at hl 0 rfl) ?_
      refine va_get (D := D) (ci := 7) (v := .ref (rf 13)) (C := RX7) (T := TX7) (N := 16) hx hb hts hi9 hown hK hP 0 rfl rfl 12 (by decide) g42 (fun _ h9 => h9) rfl dX7_isReversedWord_13 ?_
      refine lv_iload_n hx hb dX7_isReversedWord_16 rfl (lv_at hl 1 rfl) ?_
      obtain ⟨hin, hw⟩ := hw
      refine va_iald hx hb hK hP 2 0 rfl rfl hin dX7_isReversedWord_17 ?_
      refine lv_icmp_ge (tgt := 54) hx hb dX7_isReversedWord_18 (by decide) (fun k => ?_) (fun k => ?_)
      · have hw := hw.1 k
        refine lv_iconst (v := (1 : Int32)) hx hb dX7_isReversedWord_54 (by decide) ?_
        exact RET _ _ _ rfl hw dX7_isReversedWord_55
      · have hw := hw.2 k
        refine lv_aload_n hx hb dX7_isReversedWord_21 rfl (lv_at hl 0 rfl) ?_
        refine va_get (D := D) (ci := 7) (v := .ref (rf 12)) (C := RX7) (T := TX7) (N := 16) hx hb hts hi9 hown hK hP 0 rfl rfl 11 (by decide) g39 (fun _ h9 => h9) rfl dX7_isReversedWord_22 ?_
        refine lv_iload_n hx hb dX7_isReversedWord_25 rfl (lv_at hl 1 rfl) ?_
        obtain ⟨hin, hw⟩ := hw
        rcases k_three hin with h3 | h3 | h3
        · have hw := hw.1 h3
          refine k_aldM (q := (rf 23)) hx hb hK hP 1 3 rfl rfl hin (by rw [h3]; rfl) dX7_isReversedWord_26 ?_
          refine lv_iload hx hb dX7_isReversedWord_27 (lv_at hl 5 rfl) ?_
          obtain ⟨hin, hw⟩ := hw
          refine va_iald hx hb hK hP 3 0 rfl rfl hin dX7_isReversedWord_29 ?_
          refine lv_iload_n hx hb dX7_isReversedWord_30 rfl (lv_at hl 2 rfl) ?_
          refine lv_i2l hx hb dX7_isReversedWord_31 rfl ?_
          refine lv_iload_n hx hb dX7_isReversedWord_32 rfl (lv_at hl 3 rfl) ?_
          refine lv_i2l hx hb dX7_isReversedWord_33 rfl ?_
          refine lv_iload hx hb dX7_isReversedWord_34 (lv_at hl 4 rfl) ?_
          refine lv_iload hx hb dX7_isReversedWord_36 (lv_at hl 5 rfl) ?_
          refine lv_isub hx hb dX7_isReversedWord_38 ?_
          refine lv_i2l hx hb dX7_isReversedWord_39 rfl ?_
          refine kcRI (wc := []) hP [] rfl (fun hPc => oS (As := [.long v2.toInt64, .long v3.toInt64, .long ((x5 - v5).toInt64)]) (rest := [.int (f_arrays0 v5.toNatClampNeg)]) C0 hK hN (c7_letterOf l D cI cJ cN cR   v2.toInt64 v3.toInt64 ((x5 - v5).toInt64) _ hw) 3 gX7_isReversedWord_X7_letterOf rfl ⟨rfl, rfl⟩ nm7_letterOf ⟨Nat.le_of_ble_eq_true rfl, Nat.le_of_ble_eq_true rfl⟩ rfl hl.1 rfl (Nat.le_of_ble_eq_true rfl) dX7_isReversedWord_40 ⟨Nat.le_of_ble_eq_true rfl, Nat.le_of_ble_eq_true rfl⟩ hPc) (fun r40 hw => ?_)
          refine lv_icmp_eq (tgt := 48) hx hb dX7_isReversedWord_43 (by decide) (fun k => ?_) (fun k => ?_)
          · have hw := hw.1 k
            obtain ⟨x48, ex48⟩ : ∃ y : Int32, y = (v5 + (1 : Int32)) := ⟨_, rfl⟩
            have hw := hw x48 ex48
            refine lv_iinc (v := x48) (lv' := [(5, .int x48), (0, .ref (rf 0)), (1, .int v1), (2, .int v2), (3, .int v3), (4, .int x5)]) hx hb dX7_isReversedWord_48 hl (k := 5) rfl (by rw [ex48]; rfl) (by decide) rfl (fun ls hl => ?_)
            refine lv_goto (tgt := 10) hx hb dX7_isReversedWord_51 (by decide) ?_
            exact ih10 x48 ls hw (lv_sub hl [1, 2, 3, 4, 5, 0] rfl)
          · have hw := hw.2 k
            refine lv_iconst (v := (0 : Int32)) hx hb dX7_isReversedWord_46 (by decide) ?_
            exact RET _ _ _ rfl hw dX7_isReversedWord_47
        · have hw := hw.2.1 h3
          refine k_aldM (q := (rf 24)) hx hb hK hP 1 3 rfl rfl hin (by rw [h3]; rfl) dX7_isReversedWord_26 ?_
          refine lv_iload hx hb dX7_isReversedWord_27 (lv_at hl 5 rfl) ?_
          obtain ⟨hin, hw⟩ := hw
          refine va_iald hx hb hK hP 4 0 rfl rfl hin dX7_isReversedWord_29 ?_
          refine lv_iload_n hx hb dX7_isReversedWord_30 rfl (lv_at hl 2 rfl) ?_
          refine lv_i2l hx hb dX7_isReversedWord_31 rfl ?_
          refine lv_iload_n hx hb dX7_isReversedWord_32 rfl (lv_at hl 3 rfl) ?_
          refine lv_i2l hx hb dX7_isReversedWord_33 rfl ?_
          refine lv_iload hx hb dX7_isReversedWord_34 (lv_at hl 4 rfl) ?_
          refine lv_iload hx hb dX7_isReversedWord_36 (lv_at hl 5 rfl) ?_
          refine lv_isub hx hb dX7_isReversedWord_38 ?_
          refine lv_i2l hx hb dX7_isReversedWord_39 rfl ?_
          refine kcRI (wc := []) hP [] rfl (fun hPc => oS (As := [.long v2.toInt64, .long v3.toInt64, .long ((x5 - v5).toInt64)]) (rest := [.int (f_arrays1 v5.toNatClampNeg)]) C0 hK hN (c7_letterOf l D cI cJ cN cR   v2.toInt64 v3.toInt64 ((x5 - v5).toInt64) _ hw) 3 gX7_isReversedWord_X7_letterOf rfl ⟨rfl, rfl⟩ nm7_letterOf ⟨Nat.le_of_ble_eq_true rfl, Nat.le_of_ble_eq_true rfl⟩ rfl hl.1 rfl (Nat.le_of_ble_eq_true rfl) dX7_isReversedWord_40 ⟨Nat.le_of_ble_eq_true rfl, Nat.le_of_ble_eq_true rfl⟩ hPc) (fun r40 hw => ?_)
          refine lv_icmp_eq (tgt := 48) hx hb dX7_isReversedWord_43 (by decide) (fun k => ?_) (fun k => ?_)
          · have hw := hw.1 k
            obtain ⟨x48, ex48⟩ : ∃ y : Int32, y = (v5 + (1 : Int32)) := ⟨_, rfl⟩
            have hw := hw x48 ex48
            refine lv_iinc (v := x48) (lv' := [(5, .int x48), (0, .ref (rf 0)), (1, .int v1), (2, .int v2), (3, .int v3), (4, .int x5)]) hx hb dX7_isReversedWord_48 hl (k := 5) rfl (by rw [ex48]; rfl) (by decide) rfl (fun ls hl => ?_)
            refine lv_goto (tgt := 10) hx hb dX7_isReversedWord_51 (by decide) ?_
            exact ih10 x48 ls hw (lv_sub hl [1, 2, 3, 4, 5, 0] rfl)
          · have hw := hw.2 k
            refine lv_iconst (v := (0 : Int32)) hx hb dX7_isReversedWord_46 (by decide) ?_
            exact RET _ _ _ rfl hw dX7_isReversedWord_47
        · have hw := hw.2.2 h3
          refine k_aldM (q := (rf 25)) hx hb hK hP 1 3 rfl rfl hin (by rw [h3]; rfl) dX7_isReversedWord_26 ?_
          refine lv_iload hx hb dX7_isReversedWord_27 (lv_at hl 5 rfl) ?_
          obtain ⟨hin, hw⟩ := hw
          refine va_iald hx hb hK hP 5 0 rfl rfl hin dX7_isReversedWord_29 ?_
          refine lv_iload_n hx hb dX7_isReversedWord_30 rfl (lv_at hl 2 rfl) ?_
          refine lv_i2l hx hb dX7_isReversedWord_31 rfl ?_
          refine lv_iload_n hx hb dX7_isReversedWord_32 rfl (lv_at hl 3 rfl) ?_
          refine lv_i2l hx hb dX7_isReversedWord_33 rfl ?_
          refine lv_iload hx hb dX7_isReversedWord_34 (lv_at hl 4 rfl) ?_
          refine lv_iload hx hb dX7_isReversedWord_36 (lv_at hl 5 rfl) ?_
          refine lv_isub hx hb dX7_isReversedWord_38 ?_
          refine lv_i2l hx hb dX7_isReversedWord_39 rfl ?_
          refine kcRI (wc := []) hP [] rfl (fun hPc => oS (As := [.long v2.toInt64, .long v3.toInt64, .long ((x5 - v5).toInt64)]) (rest := [.int (f_arrays2 v5.toNatClampNeg)]) C0 hK hN (c7_letterOf l D cI cJ cN cR   v2.toInt64 v3.toInt64 ((x5 - v5).toInt64) _ hw) 3 gX7_isReversedWord_X7_letterOf rfl ⟨rfl, rfl⟩ nm7_letterOf ⟨Nat.le_of_ble_eq_true rfl, Nat.le_of_ble_eq_true rfl⟩ rfl hl.1 rfl (Nat.le_of_ble_eq_true rfl) dX7_isReversedWord_40 ⟨Nat.le_of_ble_eq_true rfl, Nat.le_of_ble_eq_true rfl⟩ hPc) (fun r40 hw => ?_)
          refine lv_icmp_eq (tgt := 48) hx hb dX7_isReversedWord_43 (by decide) (fun k => ?_) (fun k => ?_)
          · have hw := hw.1 k
            obtain ⟨x48, ex48⟩ : ∃ y : Int32, y = (v5 + (1 : Int32)) := ⟨_, rfl⟩
            have hw := hw x48 ex48
            refine lv_iinc (v := x48) (lv' := [(5, .int x48), (0, .ref (rf 0)), (1, .int v1), (2, .int v2), (3, .int v3), (4, .int x5)]) hx hb dX7_isReversedWord_48 hl (k := 5) rfl (by rw [ex48]; rfl) (by decide) rfl (fun ls hl => ?_)
            refine lv_goto (tgt := 10) hx hb dX7_isReversedWord_51 (by decide) ?_
            exact ih10 x48 ls hw (lv_sub hl [1, 2, 3, 4, 5, 0] rfl)
          · have hw := hw.2 k
            refine lv_iconst (v := (0 : Int32)) hx hb dX7_isReversedWord_46 (by decide) ?_
            exact RET _ _ _ rfl hw dX7_isReversedWord_47
  exact LOOP_10 n10 (0 : Int32) ls hw (lv_sub hl [2, 3, 4, 5, 1, 0] rfl)
abbrev rm7_classOfWord : Room := { frames := 3, cells := 0, slots := 0, locals := 76 }
theorem nm7_classOfWord : kNm yX7_classOfWord 3 := by decide +kernel
set_option maxHeartbeats 4000000 in
set_option maxRecDepth 100000 in
theorem c7_classOfWord (l : Launch) (D : va_G) (cI cJ cN cR : ClassId) (rf : Nat → Nat) (f_hasSnapshot : Int32) (f_termListSize : Int32) (f_textSize : Int32) (f_arraySizes : (Nat → Int32)) (f_arrays0 : (Nat → Int32)) (f_arrays1 : (Nat → Int32)) (f_arrays2 : (Nat → Int32)) (v1 : Int32) (v2 : Int32) (v3 : Int32) (post : Int32 → Prop) (hw : w7_classOfWord f_arraySizes f_arrays0 f_arrays1 f_arrays2 v1 v2 v3 post) : Met l yX7_classOfWord wsX7_classOfWord rm7_classOfWord (kR D (kT cI cJ cN cR) [.ref (rf 0), .int v1, .int v2, .int v3] [((rf 0), o7 rf f_hasSnapshot f_termListSize f_textSize), ((rf 12), ar cR rf), ((rf 13), ai cI 3 f_arraySizes), ((rf 23), ai cI 60 f_arrays0), ((rf 24), ai cI 60 f_arrays1), ((rf 25), ai cI 60 f_arrays2)]) (vp_Si post) 0 0 (fun _ => False) := by
  refine kMetRI (cc := cX7_classOfWord) (maxL := 5) (by decide +kernel) rfl (Nat.le_of_ble_eq_true rfl) ?_
  intro p e s m args below meth c H ls Q C0 hK hN hP hl RET
  obtain ⟨hx, hb, hml, hown, hts⟩ := id C0
  have hl : lv_has ls 5 [(0, .ref (rf 0)), (1, .int v1), (2, .int v2), (3, .int v3)] := hl
  have g42 := hts (.fieldLink RX7 42 "SternBrocotExplorer" "arraySizes" "[I") (by decide +kernel)
  have hi9 : ∀ w ∈ wsX70, w ∈ wsX7_classOfWord := fun w h => List.mem_cons_of_mem _ (List.mem_append_right _ h)
  unfold w7_classOfWord at hw
  refine lv_aload_n hx hb dX7_classOfWord_0 rfl (lv_at hl 0 rfl) ?_
  refine lv_iload_n hx hb dX7_classOfWord_1 rfl (lv_at hl 1 rfl) ?_
  refine lv_iload_n hx hb dX7_classOfWord_2 rfl (lv_at hl 2 rfl) ?_
  refine lv_iload_n hx hb dX7_classOfWord_3 rfl (lv_at hl 3 rfl) ?_
  refine lv_iconst (v := (0 : Int32)) hx hb dX7_classOfWord_4 (by decide) ?_
  refine kcRI (wc := [((rf 0), o7 rf f_hasSnapshot f_termListSize f_textSize), ((rf 12), ar cR rf), ((rf 13), ai cI 3 f_arraySizes), ((rf 23), ai cI 60 f_arrays0), ((rf 24), ai cI 60 f_arrays1), ((rf 25), ai cI 60 f_arrays2)]) hP [0, 1, 2, 3, 4, 5] rfl (fun hPc => oV (As := [.int v1, .int v2, .int v3, .int (0 : Int32)]) (rest := []) C0 hK hN (c7_isRotatedWord l D cI cJ cN cR rf f_hasSnapshot f_termListSize f_textSize f_arraySizes f_arrays0 f_arrays1 f_arrays2 v1 v2 v3 (0 : Int32) _ hw) 4 gX7_classOfWord_X7_isRotatedWord rfl ⟨rfl, rfl⟩ nm7_isRotatedWord ⟨Nat.le_of_ble_eq_true rfl, Nat.le_of_ble_eq_true rfl⟩ (q0 := 0) rfl rfl rfl rfl hl.1 rfl (Nat.le_of_ble_eq_true rfl) dX7_classOfWord_5 ⟨Nat.le_of_ble_eq_true rfl, Nat.le_of_ble_eq_true rfl⟩ hPc) (fun r5 hw => ?_)
  obtain ⟨nb5, hw⟩ := hw
  refine lv_if_eq (tgt := 13) hx hb dX7_classOfWord_8 (by decide) (fun k => ?_) (fun k => ?_)
  · have hw := hw.1 k
    refine lv_aload_n hx hb dX7_classOfWord_13 rfl (lv_at hl 0 rfl) ?_
    refine lv_iload_n hx hb dX7_classOfWord_14 rfl (lv_at hl 1 rfl) ?_
    refine lv_iload_n hx hb dX7_classOfWord_15 rfl (lv_at hl 2 rfl) ?_
    refine lv_iload_n hx hb dX7_classOfWord_16 rfl (lv_at hl 3 rfl) ?_
    refine kcRI (wc := [((rf 0), o7 rf f_hasSnapshot f_termListSize f_textSize), ((rf 12), ar cR rf), ((rf 13), ai cI 3 f_arraySizes), ((rf 23), ai cI 60 f_arrays0), ((rf 24), ai cI 60 f_arrays1), ((rf 25), ai cI 60 f_arrays2)]) hP [0, 1, 2, 3, 4, 5] rfl (fun hPc => oV (As := [.int v1, .int v2, .int v3]) (rest := []) C0 hK hN (c7_isReversedWord l D cI cJ cN cR rf f_hasSnapshot f_termListSize f_textSize f_arraySizes f_arrays0 f_arrays1 f_arrays2 v1 v2 v3 _ hw) 3 gX7_classOfWord_X7_isReversedWord rfl ⟨rfl, rfl⟩ nm7_isReversedWord ⟨Nat.le_of_ble_eq_true rfl, Nat.le_of_ble_eq_true rfl⟩ (q0 := 0) rfl rfl rfl rfl hl.1 rfl (Nat.le_of_ble_eq_true rfl) dX7_classOfWord_17 ⟨Nat.le_of_ble_eq_true rfl, Nat.le_of_ble_eq_true rfl⟩ hPc) (fun r17 hw => ?_)
    obtain ⟨nb17, hw⟩ := hw
    refine lv_if_eq (tgt := 25) hx hb dX7_classOfWord_20 (by decide) (fun k => ?_) (fun k => ?_)
    · have hw := hw.1 k
      refine lv_iconst (v := (1 : Int32)) hx hb dX7_classOfWord_25 (by decide) ?_
      refine lv_istore (lv' := [(4, .int (1 : Int32)), (0, .ref (rf 0)), (1, .int v1), (2, .int v2), (3, .int v3)]) hx hb dX7_classOfWord_26 hl (by decide) rfl (fun ls hl => ?_)
      obtain ⟨n28, hw⟩ := hw
      have LOOP_28 : ∀ (n28 : Nat) (v4 : Int32) (ls : Array Slot), w7_classOfWord_L28 f_arraySizes f_arrays0 f_arrays1 f_arrays2 v1 v2 v3 post n28 v4 → lv_has ls 5 [(0, .ref (rf 0)), (1, .int v1), (2, .int v2), (3, .int v3), (4, .int v4)] → W p l e rm7_classOfWord s m args below meth c H [] 0 0 Q (F0 m 28 ls []) := by
        clear hw hl
        intro n28
        induction n28 with
        | zero =>
          intro v4 ls hw hl
          rw [w7_classOfWord_L28] at hw
          exact hw.elim
        | succ n28 ih28 =>
          intro v4 ls hw hl
          rw [w7_classOfWord_L28] at hw
          refine lv_iload hx hb dX7_classOfWord_28 (lv_at hl 4 rfl) ?_
          refine lv_aload_n hx hb dX7_classOfWord_30 rfl (lv_at hl 0 rfl) ?_
          refine va_get (D := D) (ci := 7) (v := .ref (rf 13)) (C := RX7) (T := TX7) (N := 16) hx hb hts hi9 hown hK hP 0 rfl rfl 12 (by decide) g42 (fun _ h9 => h9) rfl dX7_classOfWord_31 ?_
          refine lv_iload_n hx hb dX7_classOfWord_34 rfl (lv_at hl 1 rfl) ?_
          obtain ⟨hin, hw⟩ := hw
          refine va_iald hx hb hK hP 2 0 rfl rfl hin dX7_classOfWord_35 ?_
          refine lv_icmp_ge (tgt := 59) hx hb dX7_classOfWord_36 (by decide) (fun k => ?_) (fun k => ?_)
          · have hw := hw.1 k
            refine lv_iconst (v := (0 : Int32)) hx hb dX7_classOfWord_59 (by decide) ?_
            exact RET _ _ _ hw dX7_classOfWord_60
          · have hw := hw.2 k
            refine lv_aload_n hx hb dX7_classOfWord_39 rfl (lv_at hl 0 rfl) ?_
            refine lv_iload_n hx hb dX7_classOfWord_40 rfl (lv_at hl 1 rfl) ?_
            refine lv_iload_n hx hb dX7_classOfWord_41 rfl (lv_at hl 2 rfl) ?_
            refine lv_iload_n hx hb dX7_classOfWord_42 rfl (lv_at hl 3 rfl) ?_
            refine lv_iload hx hb dX7_classOfWord_43 (lv_at hl 4 rfl) ?_
            refine kcRI (wc := [((rf 0), o7 rf f_hasSnapshot f_termListSize f_textSize), ((rf 12), ar cR rf), ((rf 13), ai cI 3 f_arraySizes), ((rf 23), ai cI 60 f_arrays0), ((rf 24), ai cI 60 f_arrays1), ((rf 25), ai cI 60 f_arrays2)]) hP [0, 1, 2, 3, 4, 5] rfl (fun hPc => oV (As := [.int v1, .int v2, .int v3, .int v4]) (rest := []) C0 hK hN (c7_isRotatedWord l D cI cJ cN cR rf f_hasSnapshot f_termListSize f_textSize f_arraySizes f_arrays0 f_arrays1 f_arrays2 v1 v2 v3 v4 _ hw) 4 gX7_classOfWord_X7_isRotatedWord rfl ⟨rfl, rfl⟩ nm7_isRotatedWord ⟨Nat.le_of_ble_eq_true rfl, Nat.le_of_ble_eq_true rfl⟩ (q0 := 0) rfl rfl rfl rfl hl.1 rfl (Nat.le_of_ble_eq_true rfl) dX7_classOfWord_45 ⟨Nat.le_of_ble_eq_true rfl, Nat.le_of_ble_eq_true rfl⟩ hPc) (fun r45 hw => ?_)
            obtain ⟨nb45, hw⟩ := hw
            refine lv_if_eq (tgt := 53) hx hb dX7_classOfWord_48 (by decide) (fun k => ?_) (fun k => ?_)
            · have hw := hw.1 k
              obtain ⟨x53, ex53⟩ : ∃ y : Int32, y = (v4 + (1 : Int32)) := ⟨_, rfl⟩
              have hw := hw x53 ex53
              refine lv_iinc (v := x53) (lv' := [(4, .int x53), (0, .ref (rf 0)), (1, .int v1), (2, .int v2), (3, .int v3)]) hx hb dX7_classOfWord_53 hl (k := 4) rfl (by rw [ex53]; rfl) (by decide) rfl (fun ls hl => ?_)
              refine lv_goto (tgt := 28) hx hb dX7_classOfWord_56 (by decide) ?_
              exact ih28 x53 ls hw (lv_sub hl [1, 2, 3, 4, 0] rfl)
            · have hw := hw.2 k
              refine lv_iconst (v := (3 : Int32)) hx hb dX7_classOfWord_51 (by decide) ?_
              exact RET _ _ _ hw dX7_classOfWord_52
      exact LOOP_28 n28 (1 : Int32) ls hw (lv_sub hl [1, 2, 3, 4, 0] rfl)
    · have hw := hw.2 k
      refine lv_iconst (v := (2 : Int32)) hx hb dX7_classOfWord_23 (by decide) ?_
      exact RET _ _ _ hw dX7_classOfWord_24
  · have hw := hw.2 k
    refine lv_iconst (v := (1 : Int32)) hx hb dX7_classOfWord_11 (by decide) ?_
    exact RET _ _ _ hw dX7_classOfWord_12
abbrev rm7_recognizeWord : Room := { frames := 4, cells := 0, slots := 0, locals := 100 }
theorem nm7_recognizeWord : kNm yX7_recognizeWord 2 := by decide +kernel
set_option maxHeartbeats 4000000 in
set_option maxRecDepth 100000 in
theorem c7_recognizeWord (l : Launch) (D : va_G) (cI cJ cN cR : ClassId) (rf : Nat → Nat) (sz : Nat) (f_hasSnapshot : Int32) (f_termListSize : Int32) (f_textSize : Int32) (f_tops : (Nat → Int32)) (f_bottoms : (Nat → Int32)) (f_arraySizes : (Nat → Int32)) (f_arrays0 : (Nat → Int32)) (f_arrays1 : (Nat → Int32)) (f_arrays2 : (Nat → Int32)) (v1 : Int32) (v2 : Int32) (post : Int32 → (Nat → Int32) → (Nat → Int32) → Prop) (hw : w7_recognizeWord f_tops f_bottoms f_arraySizes f_arrays0 f_arrays1 f_arrays2 v1 v2 post) : Met l yX7_recognizeWord wsX7_recognizeWord rm7_recognizeWord (kP D (kT cI cJ cN cR) sz [.ref (rf 0), .int v1, .int v2] [((rf 0), o7 rf f_hasSnapshot f_termListSize f_textSize), ((rf 1), ai cI 8 f_tops), ((rf 2), ai cI 8 f_bottoms), ((rf 12), ar cR rf), ((rf 13), ai cI 3 f_arraySizes), ((rf 23), ai cI 60 f_arrays0), ((rf 24), ai cI 60 f_arrays1), ((rf 25), ai cI 60 f_arrays2)]) (kQi D [((rf 0), o7 rf f_hasSnapshot f_termListSize f_textSize), ((rf 1), ai cI 8 f_tops), ((rf 2), ai cI 8 f_bottoms), ((rf 12), ar cR rf), ((rf 13), ai cI 3 f_arraySizes), ((rf 23), ai cI 60 f_arrays0), ((rf 24), ai cI 60 f_arrays1), ((rf 25), ai cI 60 f_arrays2)] sz (fun (r : Int32) (u : (Nat → Int32) × (Nat → Int32)) => post r u.1 u.2) (fun (u : (Nat → Int32) × (Nat → Int32)) => [((rf 0), o7 rf f_hasSnapshot f_termListSize f_textSize), ((rf 1), ai cI 8 u.1), ((rf 2), ai cI 8 u.2), ((rf 12), ar cR rf), ((rf 13), ai cI 3 f_arraySizes), ((rf 23), ai cI 60 f_arrays0), ((rf 24), ai cI 60 f_arrays1), ((rf 25), ai cI 60 f_arrays2)])) 0 0 (va_A [((rf 0), o7 rf f_hasSnapshot f_termListSize f_textSize), ((rf 1), ai cI 8 f_tops), ((rf 2), ai cI 8 f_bottoms), ((rf 12), ar cR rf), ((rf 13), ai cI 3 f_arraySizes), ((rf 23), ai cI 60 f_arrays0), ((rf 24), ai cI 60 f_arrays1), ((rf 25), ai cI 60 f_arrays2)] sz) := by
  refine kMetI (cc := cX7_recognizeWord) (maxL := 6) (by decide +kernel) rfl (Nat.le_of_ble_eq_true rfl) ?_
  intro p e s m args below meth c H0 ls A Q C0 hK hN hP hD hS hA hl RET
  obtain ⟨hx, hb, hml, hown, hts⟩ := id C0
  have hl : lv_has ls 6 [(0, .ref (rf 0)), (1, .int v1), (2, .int v2)] := hl
  have g42 := hts (.fieldLink RX7 42 "SternBrocotExplorer" "arraySizes" "[I") (by decide +kernel)
  have hi9 : ∀ w ∈ wsX70, w ∈ wsX7_recognizeWord := fun w h => List.mem_cons_of_mem _ (List.mem_append_right _ h)
  unfold w7_recognizeWord at hw
  have hP : va_P D vwCl [((rf 0), o7 rf f_hasSnapshot f_termListSize f_textSize), ((rf 1), ai cI 8 f_tops), ((rf 2), ai cI 8 f_bottoms), ((rf 12), ar cR rf), ((rf 13), ai cI 3 f_arraySizes), ((rf 23), ai cI 60 f_arrays0), ((rf 24), ai cI 60 f_arrays1), ((rf 25), ai cI 60 f_arrays2)] H0 := hP
  refine lv_iload_n hx hb dX7_recognizeWord_0 rfl (lv_at hl 1 rfl) ?_
  refine kcRI (wc := []) hP [] rfl (fun hPc => oS (As := [.int v1]) (rest := []) C0 hK hN (c7_isRegister l D cI cJ cN cR   v1 _ hw) 1 gX7_recognizeWord_X7_isRegister rfl ⟨rfl, rfl⟩ nm7_isRegister ⟨Nat.le_of_ble_eq_true rfl, Nat.le_of_ble_eq_true rfl⟩ rfl hl.1 rfl (Nat.le_of_ble_eq_true rfl) dX7_recognizeWord_1 ⟨Nat.le_of_ble_eq_true rfl, Nat.le_of_ble_eq_true rfl⟩ hPc) (fun r1 hw => ?_)
  obtain ⟨nb1, hw⟩ := hw
  refine lv_if_eq (tgt := 14) hx hb dX7_recognizeWord_4 (by decide) (fun k => ?_) (fun k => ?_)
  · have hw := hw.1 k
    refine lv_iconst (v := (-1 : Int32)) hx hb dX7_recognizeWord_14 (by decide) ?_
    exact RET _ _ _ (f_tops, f_bottoms) _ _ hw hP hD hS dX7_recognizeWord_15
  · have hw := hw.2 k
    refine lv_iload_n hx hb dX7_recognizeWord_7 rfl (lv_at hl 2 rfl) ?_
    refine kcRI (wc := []) hP [] rfl (fun hPc => oS (As := [.int v2]) (rest := []) C0 hK hN (c7_isArray l D cI cJ cN cR   v2 _ hw) 1 gX7_recognizeWord_X7_isArray rfl ⟨rfl, rfl⟩ nm7_isArray ⟨Nat.le_of_ble_eq_true rfl, Nat.le_of_ble_eq_true rfl⟩ rfl hl.1 rfl (Nat.le_of_ble_eq_true rfl) dX7_recognizeWord_8 ⟨Nat.le_of_ble_eq_true rfl, Nat.le_of_ble_eq_true rfl⟩ hPc) (fun r8 hw => ?_)
    obtain ⟨nb8, hw⟩ := hw
    refine lv_if_ne (tgt := 16) hx hb dX7_recognizeWord_11 (by decide) (fun k => ?_) (fun k => ?_)
    · have hw := hw.1 k
      refine lv_aload_n hx hb dX7_recognizeWord_16 rfl (lv_at hl 0 rfl) ?_
      refine va_get (D := D) (ci := 7) (v := .ref (rf 13)) (C := RX7) (T := TX7) (N := 16) hx hb hts hi9 hown hK hP 0 rfl rfl 12 (by decide) g42 (fun _ h9 => h9) rfl dX7_recognizeWord_17 ?_
      refine lv_iload_n hx hb dX7_recognizeWord_20 rfl (lv_at hl 2 rfl) ?_
      obtain ⟨hin, hw⟩ := hw
      refine va_iald hx hb hK hP 4 0 rfl rfl hin dX7_recognizeWord_21 ?_
      refine lv_iconst (v := (-1 : Int32)) hx hb dX7_recognizeWord_22 (by decide) ?_
      refine lv_icmp_ne (tgt := 29) hx hb dX7_recognizeWord_23 (by decide) (fun k => ?_) (fun k => ?_)
      · have hw := hw.1 k
        refine lv_aload_n hx hb dX7_recognizeWord_29 rfl (lv_at hl 0 rfl) ?_
        refine lv_iload_n hx hb dX7_recognizeWord_30 rfl (lv_at hl 2 rfl) ?_
        refine kcRI (wc := [((rf 0), o7 rf f_hasSnapshot f_termListSize f_textSize), ((rf 12), ar cR rf), ((rf 13), ai cI 3 f_arraySizes), ((rf 23), ai cI 60 f_arrays0), ((rf 24), ai cI 60 f_arrays1), ((rf 25), ai cI 60 f_arrays2)]) hP [0, 3, 4, 5, 6, 7] rfl (fun hPc => oV (As := [.int v2]) (rest := []) C0 hK hN (c7_onesOfWord l D cI cJ cN cR rf f_hasSnapshot f_termListSize f_textSize f_arraySizes f_arrays0 f_arrays1 f_arrays2 v2 _ hw) 1 gX7_recognizeWord_X7_onesOfWord rfl ⟨rfl, rfl⟩ nm7_onesOfWord ⟨Nat.le_of_ble_eq_true rfl, Nat.le_of_ble_eq_true rfl⟩ (q0 := 0) rfl rfl rfl rfl hl.1 rfl (Nat.le_of_ble_eq_true rfl) dX7_recognizeWord_31 ⟨Nat.le_of_ble_eq_true rfl, Nat.le_of_ble_eq_true rfl⟩ hPc) (fun r31 hw => ?_)
        refine lv_istore_n (lv' := [(3, .int r31), (0, .ref (rf 0)), (1, .int v1), (2, .int v2)]) hx hb dX7_recognizeWord_34 rfl hl (by decide) rfl (fun ls hl => ?_)
        refine lv_aload_n hx hb dX7_recognizeWord_35 rfl (lv_at hl 1 rfl) ?_
        refine va_get (D := D) (ci := 7) (v := .ref (rf 13)) (C := RX7) (T := TX7) (N := 16) hx hb hts hi9 hown hK hP 0 rfl rfl 12 (by decide) g42 (fun _ h9 => h9) rfl dX7_recognizeWord_36 ?_
        refine lv_iload_n hx hb dX7_recognizeWord_39 rfl (lv_at hl 3 rfl) ?_
        obtain ⟨hin, hw⟩ := hw
        refine va_iald hx hb hK hP 4 0 rfl rfl hin dX7_recognizeWord_40 ?_
        refine lv_iload_n hx hb dX7_recognizeWord_41 rfl (lv_at hl 0 rfl) ?_
        refine lv_isub hx hb dX7_recognizeWord_42 ?_
        refine lv_topi (fun x43 ex43 => ?_)
        have hw := hw x43 ex43
        refine lv_istore (lv' := [(4, .int x43), (3, .int r31), (0, .ref (rf 0)), (1, .int v1), (2, .int v2)]) hx hb dX7_recognizeWord_43 hl (by decide) rfl (fun ls hl => ?_)
        refine lv_iload_n hx hb dX7_recognizeWord_45 rfl (lv_at hl 1 rfl) ?_
        refine lv_if_le (tgt := 67) hx hb dX7_recognizeWord_46 (by decide) (fun k => ?_) (fun k => ?_)
        · have hw := hw.1 k
          refine lv_iconst (v := (0 : Int32)) hx hb dX7_recognizeWord_67 (by decide) ?_
          exact RET _ _ _ (f_tops, f_bottoms) _ _ hw hP hD hS dX7_recognizeWord_68
        · have hw := hw.2 k
          refine lv_iload hx hb dX7_recognizeWord_49 (lv_at hl 0 rfl) ?_
          refine lv_if_le (tgt := 67) hx hb dX7_recognizeWord_51 (by decide) (fun k => ?_) (fun k => ?_)
          · have hw := hw.1 k
            refine lv_iconst (v := (0 : Int32)) hx hb dX7_recognizeWord_67 (by decide) ?_
            exact RET _ _ _ (f_tops, f_bottoms) _ _ hw hP hD hS dX7_recognizeWord_68
          · have hw := hw.2 k
            refine lv_iload_n hx hb dX7_recognizeWord_54 rfl (lv_at hl 1 rfl) ?_
            refine lv_i2l hx hb dX7_recognizeWord_55 rfl ?_
            refine lv_iload hx hb dX7_recognizeWord_56 (lv_at hl 0 rfl) ?_
            refine lv_i2l hx hb dX7_recognizeWord_58 rfl ?_
            refine kcRL (wc := []) hP [] rfl (fun hPc => oS (As := [.long r31.toInt64, .long x43.toInt64]) (rest := []) C0 hK hN (c7_gcd l D cI cJ cN cR   r31.toInt64 x43.toInt64 _ hw) 2 gX7_recognizeWord_X7_gcd rfl ⟨rfl, rfl⟩ nm7_gcd ⟨Nat.le_of_ble_eq_true rfl, Nat.le_of_ble_eq_true rfl⟩ rfl hl.1 rfl (Nat.le_of_ble_eq_true rfl) dX7_recognizeWord_59 ⟨Nat.le_of_ble_eq_true rfl, Nat.le_of_ble_eq_true rfl⟩ hPc) (fun r59 hw => ?_)
            refine lv_lconst (v := (1 : Int64)) hx hb dX7_recognizeWord_62 (by decide) ?_
            refine W.lcmp hx hb dX7_recognizeWord_63 ?_
            refine lv_if_eq (tgt := 69) hx hb dX7_recognizeWord_64 (by decide) (fun k => ?_) (fun k => ?_)
            · have hw := hw.1 ((lg_cmp_eq _ _).mp k)
              refine lv_aload_n hx hb dX7_recognizeWord_69 rfl (lv_at hl 2 rfl) ?_
              refine lv_iload_n hx hb dX7_recognizeWord_70 rfl (lv_at hl 4 rfl) ?_
              refine lv_iload_n hx hb dX7_recognizeWord_71 rfl (lv_at hl 1 rfl) ?_
              refine lv_iload hx hb dX7_recognizeWord_72 (lv_at hl 0 rfl) ?_
              refine kcRI (wc := [((rf 0), o7 rf f_hasSnapshot f_termListSize f_textSize), ((rf 12), ar cR rf), ((rf 13), ai cI 3 f_arraySizes), ((rf 23), ai cI 60 f_arrays0), ((rf 24), ai cI 60 f_arrays1), ((rf 25), ai cI 60 f_arrays2)]) hP [0, 3, 4, 5, 6, 7] rfl (fun hPc => oV (As := [.int v2, .int r31, .int x43]) (rest := []) C0 hK hN (c7_classOfWord l D cI cJ cN cR rf f_hasSnapshot f_termListSize f_textSize f_arraySizes f_arrays0 f_arrays1 f_arrays2 v2 r31 x43 _ hw) 3 gX7_recognizeWord_X7_classOfWord rfl ⟨rfl, rfl⟩ nm7_classOfWord ⟨Nat.le_of_ble_eq_true rfl, Nat.le_of_ble_eq_true rfl⟩ (q0 := 0) rfl rfl rfl rfl hl.1 rfl (Nat.le_of_ble_eq_true rfl) dX7_recognizeWord_74 ⟨Nat.le_of_ble_eq_true rfl, Nat.le_of_ble_eq_true rfl⟩ hPc) (fun r74 hw => ?_)
              refine lv_istore (lv' := [(5, .int r74), (4, .int x43), (3, .int r31), (0, .ref (rf 0)), (1, .int v1), (2, .int v2)]) hx hb dX7_recognizeWord_77 hl (by decide) rfl (fun ls hl => ?_)
              refine lv_iload hx hb dX7_recognizeWord_79 (lv_at hl 0 rfl) ?_
              refine lv_if_le (tgt := 95) hx hb dX7_recognizeWord_81 (by decide) (fun k => ?_) (fun k => ?_)
              · have hw := hw.1 k
                refine lv_iload hx hb dX7_recognizeWord_95 (lv_at hl 0 rfl) ?_
                exact RET _ _ _ (f_tops, f_bottoms) _ _ hw hP hD hS dX7_recognizeWord_97
              · have hw := hw.2 k
                refine lv_aload_n hx hb dX7_recognizeWord_84 rfl (lv_at hl 3 rfl) ?_
                refine lv_iload_n hx hb dX7_recognizeWord_85 rfl (lv_at hl 4 rfl) ?_
                refine lv_iload_n hx hb dX7_recognizeWord_86 rfl (lv_at hl 2 rfl) ?_
                refine lv_i2l hx hb dX7_recognizeWord_87 rfl ?_
                refine lv_iload hx hb dX7_recognizeWord_88 (lv_at hl 1 rfl) ?_
                refine lv_i2l hx hb dX7_recognizeWord_90 rfl ?_
                refine kcI (wc := [((rf 0), o7 rf f_hasSnapshot f_termListSize f_textSize), ((rf 1), ai cI 8 f_tops), ((rf 2), ai cI 8 f_bottoms)]) (wr := [((rf 12), ar cR rf), ((rf 13), ai cI 3 f_arraySizes), ((rf 23), ai cI 60 f_arrays0), ((rf 24), ai cI 60 f_arrays1), ((rf 25), ai cI 60 f_arrays2)]) hP hD hS hA [0, 1, 2] [3, 4, 5, 6, 7] rfl rfl ⟨rfl, rfl, by decide⟩ (fun hPc hDc => rV (As := [.int v1, .long r31.toInt64, .long x43.toInt64]) (rest := []) C0 hK hN (c7_store l D cI cJ cN cR rf H0.size f_hasSnapshot f_termListSize f_textSize f_tops f_bottoms v1 r31.toInt64 x43.toInt64 _ hw) 3 gX7_recognizeWord_X7_store rfl ⟨rfl, rfl⟩ nm7_store ⟨Nat.le_of_ble_eq_true rfl, Nat.le_of_ble_eq_true rfl⟩ (q0 := 0) rfl rfl rfl rfl hl.1 rfl (Nat.le_of_ble_eq_true rfl) dX7_recognizeWord_91 ⟨Nat.le_of_ble_eq_true rfl, Nat.le_of_ble_eq_true rfl⟩ hPc hDc) (fun r91 u91 H locs hw hP hD hS => ?_)
                obtain ⟨f_tops_91, f_bottoms_91⟩ := u91
                dsimp only at hw
                have hP : va_P D vwCl [((rf 12), ar cR rf), ((rf 13), ai cI 3 f_arraySizes), ((rf 23), ai cI 60 f_arrays0), ((rf 24), ai cI 60 f_arrays1), ((rf 25), ai cI 60 f_arrays2), ((rf 0), o7 rf f_hasSnapshot f_termListSize f_textSize), ((rf 1), ai cI 8 f_tops_91), ((rf 2), ai cI 8 f_bottoms_91)] H := hP
                have hD : va_D A [((rf 12), ar cR rf), ((rf 13), ai cI 3 f_arraySizes), ((rf 23), ai cI 60 f_arrays0), ((rf 24), ai cI 60 f_arrays1), ((rf 25), ai cI 60 f_arrays2), ((rf 0), o7 rf f_hasSnapshot f_termListSize f_textSize), ((rf 1), ai cI 8 f_tops_91), ((rf 2), ai cI 8 f_bottoms_91)] := hD
                refine lv_pop hx hb dX7_recognizeWord_94 rfl ?_
                refine lv_iload hx hb dX7_recognizeWord_95 (lv_at hl 0 rfl) ?_
                obtain ⟨hP, hD⟩ := k_sub (ws' := [((rf 0), o7 rf f_hasSnapshot f_termListSize f_textSize), ((rf 1), ai cI 8 f_tops_91), ((rf 2), ai cI 8 f_bottoms_91), ((rf 12), ar cR rf), ((rf 13), ai cI 3 f_arraySizes), ((rf 23), ai cI 60 f_arrays0), ((rf 24), ai cI 60 f_arrays1), ((rf 25), ai cI 60 f_arrays2)]) hP hD [5, 6, 7, 0, 1, 2, 3, 4] rfl rfl
                exact RET _ _ _ (f_tops_91, f_bottoms_91) _ _ hw hP hD hS dX7_recognizeWord_97
            · have hw := hw.2 (fun h => k ((lg_cmp_eq _ _).mpr h))
              refine lv_iconst (v := (0 : Int32)) hx hb dX7_recognizeWord_67 (by decide) ?_
              exact RET _ _ _ (f_tops, f_bottoms) _ _ hw hP hD hS dX7_recognizeWord_68
      · have hw := hw.2 k
        refine lv_bipush (v := (-11 : Int32)) hx hb dX7_recognizeWord_26 (by decide) ?_
        exact RET _ _ _ (f_tops, f_bottoms) _ _ hw hP hD hS dX7_recognizeWord_28
    · have hw := hw.2 k
      refine lv_iconst (v := (-1 : Int32)) hx hb dX7_recognizeWord_14 (by decide) ?_
      exact RET _ _ _ (f_tops, f_bottoms) _ _ hw hP hD hS dX7_recognizeWord_15
abbrev rm7_dedekind : Room := { frames := 3, cells := 0, slots := 0, locals := 68 }
theorem nm7_dedekind : kNm yX7_dedekind 1 := by decide +kernel
set_option maxHeartbeats 4000000 in
set_option maxRecDepth 100000 in
theorem c7_dedekind (l : Launch) (D : va_G) (cI cJ cN cR : ClassId) (rf : Nat → Nat) (sz : Nat) (f_hasSnapshot : Int32) (f_termListSize : Int32) (f_textSize : Int32) (f_tops : (Nat → Int32)) (f_bottoms : (Nat → Int32)) (f_E_size : Int32) (f_E_leftTop : Int64) (f_E_leftBottom : Int64) (f_E_rightTop : Int64) (f_E_rightBottom : Int64) (f_E_terms : (Nat → Int32)) (v1 : Int32) (post : Int32 → Int32 → (Nat → Int32) → Prop) (hw : w7_dedekind f_tops f_bottoms f_E_size f_E_terms v1 post) : Met l yX7_dedekind wsX7_dedekind rm7_dedekind (kP D (kT cI cJ cN cR) sz [.ref (rf 0), .int v1] [((rf 0), o7 rf f_hasSnapshot f_termListSize f_textSize), ((rf 1), ai cI 8 f_tops), ((rf 2), ai cI 8 f_bottoms), ((rf 14), o1 (rf 17) f_E_size f_E_leftTop f_E_leftBottom f_E_rightTop f_E_rightBottom), ((rf 17), ai cI 64 f_E_terms)]) (kQi D [((rf 0), o7 rf f_hasSnapshot f_termListSize f_textSize), ((rf 1), ai cI 8 f_tops), ((rf 2), ai cI 8 f_bottoms), ((rf 14), o1 (rf 17) f_E_size f_E_leftTop f_E_leftBottom f_E_rightTop f_E_rightBottom), ((rf 17), ai cI 64 f_E_terms)] sz (fun (r : Int32) (u : Int32 × (Nat → Int32)) => post r u.1 u.2) (fun (u : Int32 × (Nat → Int32)) => [((rf 0), o7 rf f_hasSnapshot f_termListSize f_textSize), ((rf 1), ai cI 8 f_tops), ((rf 2), ai cI 8 f_bottoms), ((rf 14), o1 (rf 17) u.1 f_E_leftTop f_E_leftBottom f_E_rightTop f_E_rightBottom), ((rf 17), ai cI 64 u.2)])) 0 0 (va_A [((rf 0), o7 rf f_hasSnapshot f_termListSize f_textSize), ((rf 1), ai cI 8 f_tops), ((rf 2), ai cI 8 f_bottoms), ((rf 14), o1 (rf 17) f_E_size f_E_leftTop f_E_leftBottom f_E_rightTop f_E_rightBottom), ((rf 17), ai cI 64 f_E_terms)] sz) := by
  refine kMetI (cc := cX7_dedekind) (maxL := 9) (by decide +kernel) rfl (Nat.le_of_ble_eq_true rfl) ?_
  intro p e s m args below meth c H0 ls A Q C0 hK hN hP hD hS hA hl RET
  obtain ⟨hx, hb, hml, hown, hts⟩ := id C0
  have hl : lv_has ls 9 [(0, .ref (rf 0)), (1, .int v1)] := hl
  have g13 := hts (.fieldLink RX7 13 "SternBrocotExplorer" "bottoms" "[I") (by decide +kernel)
  have g9 := hts (.fieldLink RX7 9 "SternBrocotExplorer" "tops" "[I") (by decide +kernel)
  have hi9 : ∀ w ∈ wsX70, w ∈ wsX7_dedekind := fun w h => List.mem_cons_of_mem _ (List.mem_append_left _ (List.mem_append_right _ h))
  unfold w7_dedekind at hw
  have hP : va_P D vwCl [((rf 0), o7 rf f_hasSnapshot f_termListSize f_textSize), ((rf 1), ai cI 8 f_tops), ((rf 2), ai cI 8 f_bottoms), ((rf 14), o1 (rf 17) f_E_size f_E_leftTop f_E_leftBottom f_E_rightTop f_E_rightBottom), ((rf 17), ai cI 64 f_E_terms)] H0 := hP
  refine lv_iload_n hx hb dX7_dedekind_0 rfl (lv_at hl 1 rfl) ?_
  refine kcRI (wc := []) hP [] rfl (fun hPc => oS (As := [.int v1]) (rest := []) C0 hK hN (c7_isRegister l D cI cJ cN cR   v1 _ hw) 1 gX7_dedekind_X7_isRegister rfl ⟨rfl, rfl⟩ nm7_isRegister ⟨Nat.le_of_ble_eq_true rfl, Nat.le_of_ble_eq_true rfl⟩ rfl hl.1 rfl (Nat.le_of_ble_eq_true rfl) dX7_dedekind_1 ⟨Nat.le_of_ble_eq_true rfl, Nat.le_of_ble_eq_true rfl⟩ hPc) (fun r1 hw => ?_)
  obtain ⟨nb1, hw⟩ := hw
  refine lv_if_eq (tgt := 19) hx hb dX7_dedekind_4 (by decide) (fun k => ?_) (fun k => ?_)
  · have hw := hw.1 k
    refine lv_ldc (v := (-2147483648 : Int32)) hx hb hown (hts (.constant RX7 196 (-2147483648)) (by decide +kernel)) dX7_dedekind_19 ?_
    exact RET _ _ _ (f_E_size, f_E_terms) _ _ hw hP hD hS dX7_dedekind_21
  · have hw := hw.2 k
    refine lv_aload_n hx hb dX7_dedekind_7 rfl (lv_at hl 0 rfl) ?_
    refine va_get (D := D) (ci := 7) (v := .ref (rf 2)) (C := RX7) (T := TX7) (N := 16) hx hb hts hi9 hown hK hP 0 rfl rfl 1 (by decide) g13 (fun _ h9 => h9) rfl dX7_dedekind_8 ?_
    refine lv_iload_n hx hb dX7_dedekind_11 rfl (lv_at hl 1 rfl) ?_
    obtain ⟨hin, hw⟩ := hw
    refine va_iald hx hb hK hP 2 0 rfl rfl hin dX7_dedekind_12 ?_
    refine lv_sipush (v := (20000 : Int32)) hx hb dX7_dedekind_13 (by decide) ?_
    refine lv_icmp_le (tgt := 22) hx hb dX7_dedekind_16 (by decide) (fun k => ?_) (fun k => ?_)
    · have hw := hw.1 k
      refine lv_aload_n hx hb dX7_dedekind_22 rfl (lv_at hl 0 rfl) ?_
      refine lv_iload_n hx hb dX7_dedekind_23 rfl (lv_at hl 1 rfl) ?_
      refine kcR (wc := [((rf 0), o7 rf f_hasSnapshot f_termListSize f_textSize), ((rf 1), ai cI 8 f_tops), ((rf 2), ai cI 8 f_bottoms), ((rf 14), o1 (rf 17) f_E_size f_E_leftTop f_E_leftBottom f_E_rightTop f_E_rightBottom), ((rf 17), ai cI 64 f_E_terms)]) (wr := []) hP hD hS hA [0, 1, 2, 3, 4] [] rfl rfl ⟨rfl, rfl, by decide⟩ (fun hPc hDc => rV (As := [.int v1]) (rest := []) C0 hK hN (c7_expand l D cI cJ cN cR rf H0.size f_hasSnapshot f_termListSize f_textSize f_tops f_bottoms f_E_size f_E_leftTop f_E_leftBottom f_E_rightTop f_E_rightBottom f_E_terms v1 _ hw) 1 gX7_dedekind_X7_expand rfl ⟨rfl, rfl⟩ nm7_expand ⟨Nat.le_of_ble_eq_true rfl, Nat.le_of_ble_eq_true rfl⟩ (q0 := 0) rfl rfl rfl rfl hl.1 rfl (Nat.le_of_ble_eq_true rfl) dX7_dedekind_24 ⟨Nat.le_of_ble_eq_true rfl, Nat.le_of_ble_eq_true rfl⟩ hPc hDc) (fun u24 H locs hw hP hD hS => ?_)
      obtain ⟨f_E_size_24, f_E_terms_24⟩ := u24
      dsimp only at hw
      have hP : va_P D vwCl [((rf 0), o7 rf f_hasSnapshot f_termListSize f_textSize), ((rf 1), ai cI 8 f_tops), ((rf 2), ai cI 8 f_bottoms), ((rf 14), o1 (rf 17) f_E_size_24 f_E_leftTop f_E_leftBottom f_E_rightTop f_E_rightBottom), ((rf 17), ai cI 64 f_E_terms_24)] H := hP
      have hD : va_D A [((rf 0), o7 rf f_hasSnapshot f_termListSize f_textSize), ((rf 1), ai cI 8 f_tops), ((rf 2), ai cI 8 f_bottoms), ((rf 14), o1 (rf 17) f_E_size_24 f_E_leftTop f_E_leftBottom f_E_rightTop f_E_rightBottom), ((rf 17), ai cI 64 f_E_terms_24)] := hD
      refine lv_astore_n (lv' := [(2, .ref (rf 14)), (0, .ref (rf 0)), (1, .int v1)]) hx hb dX7_dedekind_27 rfl hl (by decide) rfl (fun ls hl => ?_)
      refine lv_aload_n hx hb dX7_dedekind_28 rfl (lv_at hl 0 rfl) ?_
      refine kcRI (wc := [((rf 14), o1 (rf 17) f_E_size_24 f_E_leftTop f_E_leftBottom f_E_rightTop f_E_rightBottom)]) hP [3] rfl (fun hPc => oV (As := []) (rest := []) C0 hK hN (c1_size l D cI cJ cN cR (rf 14) (rf 17) f_E_size_24 f_E_leftTop f_E_leftBottom f_E_rightTop f_E_rightBottom  _ hw) 0 gX7_dedekind_X1_size rfl ⟨rfl, rfl⟩ nm1_size ⟨Nat.le_of_ble_eq_true rfl, Nat.le_of_ble_eq_true rfl⟩ (q0 := 0) rfl rfl rfl rfl hl.1 rfl (Nat.le_of_ble_eq_true rfl) dX7_dedekind_29 ⟨Nat.le_of_ble_eq_true rfl, Nat.le_of_ble_eq_true rfl⟩ hPc) (fun r29 hw => ?_)
      refine lv_iconst (v := (1 : Int32)) hx hb dX7_dedekind_32 (by decide) ?_
      refine lv_isub hx hb dX7_dedekind_33 ?_
      refine lv_topi (fun x34 ex34 => ?_)
      have hw := hw x34 ex34
      refine lv_istore_n (lv' := [(3, .int x34), (2, .ref (rf 14)), (0, .ref (rf 0)), (1, .int v1)]) hx hb dX7_dedekind_34 rfl hl (by decide) rfl (fun ls hl => ?_)
      refine lv_aload_n hx hb dX7_dedekind_35 rfl (lv_at hl 2 rfl) ?_
      refine va_get (D := D) (ci := 7) (v := .ref (rf 2)) (C := RX7) (T := TX7) (N := 16) hx hb hts hi9 hown hK hP 0 rfl rfl 1 (by decide) g13 (fun _ h9 => h9) rfl dX7_dedekind_36 ?_
      refine lv_iload_n hx hb dX7_dedekind_39 rfl (lv_at hl 3 rfl) ?_
      obtain ⟨hin, hw⟩ := hw
      refine va_iald hx hb hK hP 2 0 rfl rfl hin dX7_dedekind_40 ?_
      refine lv_topi (fun x41 ex41 => ?_)
      have hw := hw x41 ex41
      refine lv_istore (lv' := [(4, .int x41), (3, .int x34), (2, .ref (rf 14)), (0, .ref (rf 0)), (1, .int v1)]) hx hb dX7_dedekind_41 hl (by decide) rfl (fun ls hl => ?_)
      refine lv_lconst (v := (0 : Int64)) hx hb dX7_dedekind_43 (by decide) ?_
      refine lv_lstore (lv' := [(5, .long (0 : Int64)), (4, .int x41), (3, .int x34), (2, .ref (rf 14)), (0, .ref (rf 0)), (1, .int v1)]) hx hb dX7_dedekind_44 hl (by decide) rfl (fun ls hl => ?_)
      refine lv_iconst (v := (1 : Int32)) hx hb dX7_dedekind_46 (by decide) ?_
      refine lv_istore (lv' := [(7, .int (1 : Int32)), (5, .long (0 : Int64)), (4, .int x41), (3, .int x34), (2, .ref (rf 14)), (0, .ref (rf 0)), (1, .int v1)]) hx hb dX7_dedekind_47 hl (by decide) rfl (fun ls hl => ?_)
      obtain ⟨n49, hw⟩ := hw
      have LOOP_49 : ∀ (n49 : Nat) (v5 : Int64) (v7 : Int32) (H : Heap) (locs : List Loc) (ls : Array Slot), w7_dedekind_L49 f_tops f_E_size_24 f_E_terms_24 v1 x34 x41 post n49 v5 v7 → va_P D vwCl [((rf 0), o7 rf f_hasSnapshot f_termListSize f_textSize), ((rf 1), ai cI 8 f_tops), ((rf 2), ai cI 8 f_bottoms), ((rf 14), o1 (rf 17) f_E_size_24 f_E_leftTop f_E_leftBottom f_E_rightTop f_E_rightBottom), ((rf 17), ai cI 64 f_E_terms_24)] H → va_D A [((rf 0), o7 rf f_hasSnapshot f_termListSize f_textSize), ((rf 1), ai cI 8 f_tops), ((rf 2), ai cI 8 f_bottoms), ((rf 14), o1 (rf 17) f_E_size_24 f_E_leftTop f_E_leftBottom f_E_rightTop f_E_rightBottom), ((rf 17), ai cI 64 f_E_terms_24)] → va_S A H0 H locs → lv_has ls 9 [(0, .ref (rf 0)), (1, .int v1), (2, .ref (rf 14)), (3, .int x34), (4, .int x41), (5, .long v5), (7, .int v7)] → W p l e rm7_dedekind s m args below meth c H locs 0 0 Q (F0 m 49 ls []) := by
        clear hw hl hP hD hS
        intro n49
        induction n49 with
        | zero =>
          intro v5 v7 H locs ls hw hP hD hS hl
          rw [w7_dedekind_L49] at hw
          exact hw.elim
        | succ n49 ih49 =>
          intro v5 v7 H locs ls hw hP hD hS hl
          rw [w7_dedekind_L49] at hw
          refine lv_iload hx hb dX7_dedekind_49 (lv_at hl 6 rfl) ?_
          refine lv_iload_n hx hb dX7_dedekind_51 rfl (lv_at hl 3 rfl) ?_
          refine lv_icmp_gt (tgt := 92) hx hb dX7_dedekind_52 (by decide) (fun k => ?_) (fun k => ?_)
          · have hw := hw.1 k
            refine lv_aload_n hx hb dX7_dedekind_92 rfl (lv_at hl 0 rfl) ?_
            refine va_get (D := D) (ci := 7) (v := .ref (rf 1)) (C := RX7) (T := TX7) (N := 16) hx hb hts hi9 hown hK hP 0 rfl rfl 0 (by decide) g9 (fun _ h9 => h9) rfl dX7_dedekind_93 ?_
            refine lv_iload_n hx hb dX7_dedekind_96 rfl (lv_at hl 1 rfl) ?_
            obtain ⟨hin, hw⟩ := hw
            refine va_iald hx hb hK hP 1 0 rfl rfl hin dX7_dedekind_97 ?_
            refine lv_i2l hx hb dX7_dedekind_98 rfl ?_
            refine lv_aload_n hx hb dX7_dedekind_99 rfl (lv_at hl 2 rfl) ?_
            refine lv_iconst (v := (0 : Int32)) hx hb dX7_dedekind_100 (by decide) ?_
            refine kcRI (wc := [((rf 14), o1 (rf 17) f_E_size_24 f_E_leftTop f_E_leftBottom f_E_rightTop f_E_rightBottom), ((rf 17), ai cI 64 f_E_terms_24)]) hP [3, 4] rfl (fun hPc => oV (As := [.int (0 : Int32)]) (rest := [.long ((f_tops v1.toNatClampNeg).toInt64)]) C0 hK hN (c1_at l D cI cJ cN cR (rf 14) (rf 17) f_E_size_24 f_E_leftTop f_E_leftBottom f_E_rightTop f_E_rightBottom f_E_terms_24 (0 : Int32) _ hw) 1 gX7_dedekind_X1_at rfl ⟨rfl, rfl⟩ nm1_at ⟨Nat.le_of_ble_eq_true rfl, Nat.le_of_ble_eq_true rfl⟩ (q0 := 0) rfl rfl rfl rfl hl.1 rfl (Nat.le_of_ble_eq_true rfl) dX7_dedekind_101 ⟨Nat.le_of_ble_eq_true rfl, Nat.le_of_ble_eq_true rfl⟩ hPc) (fun r101 hw => ?_)
            refine lv_i2l hx hb dX7_dedekind_104 rfl ?_
            refine lv_iload hx hb dX7_dedekind_105 (lv_at hl 4 rfl) ?_
            refine lv_i2l hx hb dX7_dedekind_107 rfl ?_
            refine lv_lmul hx hb dX7_dedekind_108 ?_
            refine lv_lsub hx hb dX7_dedekind_109 ?_
            refine lv_topl (fun x110 ex110 => ?_)
            have hw := hw x110 ex110
            refine lv_lstore (lv' := [(7, .long x110), (0, .ref (rf 0)), (1, .int v1), (2, .ref (rf 14)), (3, .int x34), (4, .int x41), (5, .long v5)]) hx hb dX7_dedekind_110 hl (by decide) rfl (fun ls hl => ?_)
            refine lv_iload_n hx hb dX7_dedekind_112 rfl (lv_at hl 4 rfl) ?_
            refine lv_iconst (v := (2 : Int32)) hx hb dX7_dedekind_113 (by decide) ?_
            obtain ⟨hne, hw⟩ := hw
            refine lv_irem hx hb dX7_dedekind_114 hne ?_
            refine lv_iconst (v := (1 : Int32)) hx hb dX7_dedekind_115 (by decide) ?_
            refine lv_icmp_ne (tgt := 142) hx hb dX7_dedekind_116 (by decide) (fun k => ?_) (fun k => ?_)
            · have hw := hw.1 k
              refine lv_iload hx hb dX7_dedekind_142 (lv_at hl 5 rfl) ?_
              refine lv_i2l hx hb dX7_dedekind_144 rfl ?_
              refine lv_lload hx hb dX7_dedekind_145 (lv_at hl 6 rfl) ?_
              refine lv_lmul hx hb dX7_dedekind_147 ?_
              refine lv_lload hx hb dX7_dedekind_148 (lv_at hl 0 rfl) ?_
              refine lv_ladd hx hb dX7_dedekind_150 ?_
              refine lv_aload_n hx hb dX7_dedekind_151 rfl (lv_at hl 3 rfl) ?_
              refine lv_iload_n hx hb dX7_dedekind_152 rfl (lv_at hl 4 rfl) ?_
              refine lv_iconst (v := (1 : Int32)) hx hb dX7_dedekind_153 (by decide) ?_
              refine lv_isub hx hb dX7_dedekind_154 ?_
              refine kcRL (wc := [((rf 14), o1 (rf 17) f_E_size_24 f_E_leftTop f_E_leftBottom f_E_rightTop f_E_rightBottom), ((rf 17), ai cI 64 f_E_terms_24)]) hP [3, 4] rfl (fun hPc => oV (As := [.int (x34 - (1 : Int32))]) (rest := [.long ((x41.toInt64 * v5) + x110)]) C0 hK hN (c1_convergentBottom l D cI cJ cN cR (rf 14) (rf 17) f_E_size_24 f_E_leftTop f_E_leftBottom f_E_rightTop f_E_rightBottom f_E_terms_24 (x34 - (1 : Int32)) _ hw) 1 gX7_dedekind_X1_convergentBottom rfl ⟨rfl, rfl⟩ nm1_convergentBottom ⟨Nat.le_of_ble_eq_true rfl, Nat.le_of_ble_eq_true rfl⟩ (q0 := 0) rfl rfl rfl rfl hl.1 rfl (Nat.le_of_ble_eq_true rfl) dX7_dedekind_155 ⟨Nat.le_of_ble_eq_true rfl, Nat.le_of_ble_eq_true rfl⟩ hPc) (fun r155 hw => ?_)
              refine lv_lsub hx hb dX7_dedekind_158 ?_
              refine lv_l2i hx hb dX7_dedekind_159 rfl ?_
              exact RET _ _ _ (f_E_size_24, f_E_terms_24) _ _ hw hP hD hS dX7_dedekind_160
            · have hw := hw.2 k
              refine lv_iload hx hb dX7_dedekind_119 (lv_at hl 5 rfl) ?_
              refine lv_i2l hx hb dX7_dedekind_121 rfl ?_
              refine lv_lload hx hb dX7_dedekind_122 (lv_at hl 6 rfl) ?_
              refine lv_ldc2 (v := (3 : Int64)) hx hb hown (hts (.constantLong RX7 197 (3)) (by decide +kernel)) dX7_dedekind_124 ?_
              refine lv_lsub hx hb dX7_dedekind_127 ?_
              refine lv_lmul hx hb dX7_dedekind_128 ?_
              refine lv_lload hx hb dX7_dedekind_129 (lv_at hl 0 rfl) ?_
              refine lv_ladd hx hb dX7_dedekind_131 ?_
              refine lv_aload_n hx hb dX7_dedekind_132 rfl (lv_at hl 3 rfl) ?_
              refine lv_iload_n hx hb dX7_dedekind_133 rfl (lv_at hl 4 rfl) ?_
              refine lv_iconst (v := (1 : Int32)) hx hb dX7_dedekind_134 (by decide) ?_
              refine lv_isub hx hb dX7_dedekind_135 ?_
              refine kcRL (wc := [((rf 14), o1 (rf 17) f_E_size_24 f_E_leftTop f_E_leftBottom f_E_rightTop f_E_rightBottom), ((rf 17), ai cI 64 f_E_terms_24)]) hP [3, 4] rfl (fun hPc => oV (As := [.int (x34 - (1 : Int32))]) (rest := [.long ((x41.toInt64 * (v5 - (3 : Int64))) + x110)]) C0 hK hN (c1_convergentBottom l D cI cJ cN cR (rf 14) (rf 17) f_E_size_24 f_E_leftTop f_E_leftBottom f_E_rightTop f_E_rightBottom f_E_terms_24 (x34 - (1 : Int32)) _ hw) 1 gX7_dedekind_X1_convergentBottom rfl ⟨rfl, rfl⟩ nm1_convergentBottom ⟨Nat.le_of_ble_eq_true rfl, Nat.le_of_ble_eq_true rfl⟩ (q0 := 0) rfl rfl rfl rfl hl.1 rfl (Nat.le_of_ble_eq_true rfl) dX7_dedekind_136 ⟨Nat.le_of_ble_eq_true rfl, Nat.le_of_ble_eq_true rfl⟩ hPc) (fun r136 hw => ?_)
              refine lv_ladd hx hb dX7_dedekind_139 ?_
              refine lv_l2i hx hb dX7_dedekind_140 rfl ?_
              exact RET _ _ _ (f_E_size_24, f_E_terms_24) _ _ hw hP hD hS dX7_dedekind_141
          · have hw := hw.2 k
            refine lv_lload hx hb dX7_dedekind_55 (lv_at hl 5 rfl) ?_
            refine lv_iload hx hb dX7_dedekind_57 (lv_at hl 6 rfl) ?_
            refine lv_iconst (v := (2 : Int32)) hx hb dX7_dedekind_59 (by decide) ?_
            obtain ⟨hne, hw⟩ := hw
            refine lv_irem hx hb dX7_dedekind_60 hne ?_
            refine lv_iconst (v := (1 : Int32)) hx hb dX7_dedekind_61 (by decide) ?_
            refine lv_icmp_ne (tgt := 75) hx hb dX7_dedekind_62 (by decide) (fun k => ?_) (fun k => ?_)
            · have hw := hw.1 k
              refine lv_aload_n hx hb dX7_dedekind_75 rfl (lv_at hl 2 rfl) ?_
              refine lv_iload hx hb dX7_dedekind_76 (lv_at hl 6 rfl) ?_
              refine kcRI (wc := [((rf 14), o1 (rf 17) f_E_size_24 f_E_leftTop f_E_leftBottom f_E_rightTop f_E_rightBottom), ((rf 17), ai cI 64 f_E_terms_24)]) hP [3, 4] rfl (fun hPc => oV (As := [.int v7]) (rest := [.long v5]) C0 hK hN (c1_at l D cI cJ cN cR (rf 14) (rf 17) f_E_size_24 f_E_leftTop f_E_leftBottom f_E_rightTop f_E_rightBottom f_E_terms_24 v7 _ hw) 1 gX7_dedekind_X1_at rfl ⟨rfl, rfl⟩ nm1_at ⟨Nat.le_of_ble_eq_true rfl, Nat.le_of_ble_eq_true rfl⟩ (q0 := 0) rfl rfl rfl rfl hl.1 rfl (Nat.le_of_ble_eq_true rfl) dX7_dedekind_78 ⟨Nat.le_of_ble_eq_true rfl, Nat.le_of_ble_eq_true rfl⟩ hPc) (fun r78 hw => ?_)
              refine lv_ineg hx hb dX7_dedekind_81 ?_
              refine lv_i2l hx hb dX7_dedekind_82 rfl ?_
              refine lv_ladd hx hb dX7_dedekind_83 ?_
              refine lv_topl (fun x84 ex84 => ?_)
              have hw := hw x84 ex84
              refine lv_lstore (lv' := [(5, .long x84), (0, .ref (rf 0)), (1, .int v1), (2, .ref (rf 14)), (3, .int x34), (4, .int x41), (7, .int v7)]) hx hb dX7_dedekind_84 hl (by decide) rfl (fun ls hl => ?_)
              obtain ⟨x86, ex86⟩ : ∃ y : Int32, y = (v7 + (1 : Int32)) := ⟨_, rfl⟩
              have hw := hw x86 ex86
              refine lv_iinc (v := x86) (lv' := [(7, .int x86), (5, .long x84), (0, .ref (rf 0)), (1, .int v1), (2, .ref (rf 14)), (3, .int x34), (4, .int x41)]) hx hb dX7_dedekind_86 hl (k := 6) rfl (by rw [ex86]; rfl) (by decide) rfl (fun ls hl => ?_)
              refine lv_goto (tgt := 49) hx hb dX7_dedekind_89 (by decide) ?_
              exact ih49 x84 x86 _ _ ls hw hP hD hS (lv_sub hl [2, 3, 4, 5, 6, 1, 0] rfl)
            · have hw := hw.2 k
              refine lv_aload_n hx hb dX7_dedekind_65 rfl (lv_at hl 2 rfl) ?_
              refine lv_iload hx hb dX7_dedekind_66 (lv_at hl 6 rfl) ?_
              refine kcRI (wc := [((rf 14), o1 (rf 17) f_E_size_24 f_E_leftTop f_E_leftBottom f_E_rightTop f_E_rightBottom), ((rf 17), ai cI 64 f_E_terms_24)]) hP [3, 4] rfl (fun hPc => oV (As := [.int v7]) (rest := [.long v5]) C0 hK hN (c1_at l D cI cJ cN cR (rf 14) (rf 17) f_E_size_24 f_E_leftTop f_E_leftBottom f_E_rightTop f_E_rightBottom f_E_terms_24 v7 _ hw) 1 gX7_dedekind_X1_at rfl ⟨rfl, rfl⟩ nm1_at ⟨Nat.le_of_ble_eq_true rfl, Nat.le_of_ble_eq_true rfl⟩ (q0 := 0) rfl rfl rfl rfl hl.1 rfl (Nat.le_of_ble_eq_true rfl) dX7_dedekind_68 ⟨Nat.le_of_ble_eq_true rfl, Nat.le_of_ble_eq_true rfl⟩ hPc) (fun r68 hw => ?_)
              refine lv_i2l hx hb dX7_dedekind_71 rfl ?_
              refine lv_goto (tgt := 83) hx hb dX7_dedekind_72 (by decide) ?_
              refine lv_ladd hx hb dX7_dedekind_83 ?_
              refine lv_topl (fun x84 ex84 => ?_)
              have hw := hw x84 ex84
              refine lv_lstore (lv' := [(5, .long x84), (0, .ref (rf 0)), (1, .int v1), (2, .ref (rf 14)), (3, .int x34), (4, .int x41), (7, .int v7)]) hx hb dX7_dedekind_84 hl (by decide) rfl (fun ls hl => ?_)
              obtain ⟨x86, ex86⟩ : ∃ y : Int32, y = (v7 + (1 : Int32)) := ⟨_, rfl⟩
              have hw := hw x86 ex86
              refine lv_iinc (v := x86) (lv' := [(7, .int x86), (5, .long x84), (0, .ref (rf 0)), (1, .int v1), (2, .ref (rf 14)), (3, .int x34), (4, .int x41)]) hx hb dX7_dedekind_86 hl (k := 6) rfl (by rw [ex86]; rfl) (by decide) rfl (fun ls hl => ?_)
              refine lv_goto (tgt := 49) hx hb dX7_dedekind_89 (by decide) ?_
              exact ih49 x84 x86 _ _ ls hw hP hD hS (lv_sub hl [2, 3, 4, 5, 6, 1, 0] rfl)
      exact LOOP_49 n49 (0 : Int64) (1 : Int32) _ _ ls hw hP hD hS (lv_sub hl [5, 6, 4, 3, 2, 1, 0] rfl)
    · have hw := hw.2 k
      refine lv_ldc (v := (-2147483648 : Int32)) hx hb hown (hts (.constant RX7 196 (-2147483648)) (by decide +kernel)) dX7_dedekind_19 ?_
      exact RET _ _ _ (f_E_size, f_E_terms) _ _ hw hP hD hS dX7_dedekind_21
abbrev rm7_feed : Room := { frames := 1, cells := 0, slots := 0, locals := 22 }
theorem nm7_feed : kNm yX7_feed 1 := by decide +kernel
set_option maxHeartbeats 4000000 in
set_option maxRecDepth 100000 in
theorem c7_feed (l : Launch) (D : va_G) (cI cJ cN cR : ClassId) (rf : Nat → Nat) (sz : Nat) (f_hasSnapshot : Int32) (f_termListSize : Int32) (f_textSize : Int32) (f_text : (Nat → Int32)) (v1 : Int32) (post : Int32 → Int32 → (Nat → Int32) → Prop) (hw : w7_feed f_textSize f_text v1 post) : Met l yX7_feed wsX7_feed rm7_feed (kP D (kT cI cJ cN cR) sz [.ref (rf 0), .int v1] [((rf 0), o7 rf f_hasSnapshot f_termListSize f_textSize), ((rf 10), ai cI 60 f_text)]) (kQi D [((rf 0), o7 rf f_hasSnapshot f_termListSize f_textSize), ((rf 10), ai cI 60 f_text)] sz (fun (r : Int32) (u : Int32 × (Nat → Int32)) => post r u.1 u.2) (fun (u : Int32 × (Nat → Int32)) => [((rf 0), o7 rf f_hasSnapshot f_termListSize u.1), ((rf 10), ai cI 60 u.2)])) 0 0 (va_A [((rf 0), o7 rf f_hasSnapshot f_termListSize f_textSize), ((rf 10), ai cI 60 f_text)] sz) := by
  refine kMetI (cc := cX7_feed) (maxL := 2) (by decide +kernel) rfl (Nat.le_of_ble_eq_true rfl) ?_
  intro p e s m args below meth c H0 ls A Q C0 hK hN hP hD hS hA hl RET
  obtain ⟨hx, hb, hml, hown, hts⟩ := id C0
  have hl : lv_has ls 2 [(0, .ref (rf 0)), (1, .int v1)] := hl
  have g202 := hts (.fieldLink RX7 202 "SternBrocotExplorer" "textSize" "I") (by decide +kernel)
  have g34 := hts (.fieldLink RX7 34 "SternBrocotExplorer" "text" "[I") (by decide +kernel)
  have hi9 : ∀ w ∈ wsX70, w ∈ wsX7_feed := fun w h => List.mem_cons_of_mem _ (List.mem_append_right _ h)
  unfold w7_feed at hw
  have hP : va_P D vwCl [((rf 0), o7 rf f_hasSnapshot f_termListSize f_textSize), ((rf 10), ai cI 60 f_text)] H0 := hP
  refine lv_iload_n hx hb dX7_feed_0 rfl (lv_at hl 1 rfl) ?_
  refine lv_bipush (v := (32 : Int32)) hx hb dX7_feed_1 (by decide) ?_
  refine lv_bipush (v := (126 : Int32)) hx hb dX7_feed_3 (by decide) ?_
  refine kcRI (wc := []) hP [] rfl (fun hPc => oS (As := [.int v1, .int (32 : Int32), .int (126 : Int32)]) (rest := []) C0 hK hN (c7_isIn l D cI cJ cN cR   v1 (32 : Int32) (126 : Int32) _ hw) 3 gX7_feed_X7_isIn rfl ⟨rfl, rfl⟩ nm7_isIn ⟨Nat.le_of_ble_eq_true rfl, Nat.le_of_ble_eq_true rfl⟩ rfl hl.1 rfl (Nat.le_of_ble_eq_true rfl) dX7_feed_5 ⟨Nat.le_of_ble_eq_true rfl, Nat.le_of_ble_eq_true rfl⟩ hPc) (fun r5 hw => ?_)
  obtain ⟨nb5, hw⟩ := hw
  refine lv_if_ne (tgt := 13) hx hb dX7_feed_8 (by decide) (fun k => ?_) (fun k => ?_)
  · have hw := hw.1 k
    refine lv_aload_n hx hb dX7_feed_13 rfl (lv_at hl 0 rfl) ?_
    refine va_get (D := D) (ci := 7) (v := .int f_textSize) (C := RX7) (T := TX7) (N := 16) hx hb hts hi9 hown hK hP 0 rfl rfl 10 (by decide) g202 (fun _ h9 => h9) rfl dX7_feed_14 ?_
    refine lv_bipush (v := (60 : Int32)) hx hb dX7_feed_17 (by decide) ?_
    refine lv_icmp_lt (tgt := 25) hx hb dX7_feed_19 (by decide) (fun k => ?_) (fun k => ?_)
    · have hw := hw.1 k
      refine lv_aload_n hx hb dX7_feed_25 rfl (lv_at hl 0 rfl) ?_
      refine va_get (D := D) (ci := 7) (v := .ref (rf 10)) (C := RX7) (T := TX7) (N := 16) hx hb hts hi9 hown hK hP 0 rfl rfl 9 (by decide) g34 (fun _ h9 => h9) rfl dX7_feed_26 ?_
      refine lv_aload_n hx hb dX7_feed_29 rfl (lv_at hl 0 rfl) ?_
      refine va_get (D := D) (ci := 7) (v := .int f_textSize) (C := RX7) (T := TX7) (N := 16) hx hb hts hi9 hown hK hP 0 rfl rfl 10 (by decide) g202 (fun _ h9 => h9) rfl dX7_feed_30 ?_
      refine lv_iload_n hx hb dX7_feed_33 rfl (lv_at hl 1 rfl) ?_
      obtain ⟨hin, hw⟩ := hw
      refine va_iast hx hb hK hP hD hS 1 0 rfl rfl hin dX7_feed_34 (fun H locs hP hD hS => ?_)
      have hP : va_P D vwCl [((rf 0), o7 rf f_hasSnapshot f_termListSize f_textSize), ((rf 10), ai cI 60 (upd f_text f_textSize.toNatClampNeg v1))] H := hP
      have hD : va_D A [((rf 0), o7 rf f_hasSnapshot f_termListSize f_textSize), ((rf 10), ai cI 60 (upd f_text f_textSize.toNatClampNeg v1))] := hD
      refine lv_aload_n hx hb dX7_feed_35 rfl (lv_at hl 0 rfl) ?_
      refine lv_dup hx hb dX7_feed_36 rfl ?_
      refine va_get (D := D) (ci := 7) (v := .int f_textSize) (C := RX7) (T := TX7) (N := 16) hx hb hts hi9 hown hK hP 0 rfl rfl 10 (by decide) g202 (fun _ h9 => h9) rfl dX7_feed_37 ?_
      refine lv_iconst (v := (1 : Int32)) hx hb dX7_feed_40 (by decide) ?_
      refine lv_iadd hx hb dX7_feed_41 ?_
      refine lv_topi (fun x42 ex42 => ?_)
      have hw := hw x42 ex42
      refine va_put (D := D) (ci := 7) (v := .int x42) (ty := .int) (C := RX7) (T := TX7) (N := 16) hx hb hts hi9 tyX7 tyX7_ok nmX7 hown hK hP hD hS 0 rfl rfl 10 (by decide) g202 (fun _ h9 => h9) rfl (by decide +kernel) rfl rfl (Nat.le_of_ble_eq_true rfl) dX7_feed_42 (fun H locs hP hD hS => ?_)
      have hP : va_P D vwCl [((rf 0), o7 rf f_hasSnapshot f_termListSize x42), ((rf 10), ai cI 60 (upd f_text f_textSize.toNatClampNeg v1))] H := hP
      have hD : va_D A [((rf 0), o7 rf f_hasSnapshot f_termListSize x42), ((rf 10), ai cI 60 (upd f_text f_textSize.toNatClampNeg v1))] := hD
      refine lv_aload_n hx hb dX7_feed_45 rfl (lv_at hl 0 rfl) ?_
      refine va_get (D := D) (ci := 7) (v := .int x42) (C := RX7) (T := TX7) (N := 16) hx hb hts hi9 hown hK hP 0 rfl rfl 10 (by decide) g202 (fun _ h9 => h9) rfl dX7_feed_46 ?_
      exact RET _ _ _ (x42, (upd f_text f_textSize.toNatClampNeg v1)) _ _ hw hP hD hS dX7_feed_49
    · have hw := hw.2 k
      refine lv_bipush (v := (-5 : Int32)) hx hb dX7_feed_22 (by decide) ?_
      exact RET _ _ _ (f_textSize, f_text) _ _ hw hP hD hS dX7_feed_24
  · have hw := hw.2 k
    refine lv_iconst (v := (-1 : Int32)) hx hb dX7_feed_11 (by decide) ?_
    exact RET _ _ _ (f_textSize, f_text) _ _ hw hP hD hS dX7_feed_12
