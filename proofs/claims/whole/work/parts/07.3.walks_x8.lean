abbrev rm8_fareyNext : Room := { frames := 2, cells := 0, slots := 0, locals := 57 }
theorem nm8_fareyNext : kNm yX8_fareyNext 3 := by decide +kernel
set_option maxHeartbeats 4000000 in
set_option maxRecDepth 100000 in
theorem c8_fareyNext (l : Launch) (D : va_G) (cI cJ cN cR : ClassId) (rf : Nat → Nat) (sz : Nat) (f_terms : Int32) (f_runs : Int32) (f_leftAbove : Int64) (f_leftBelow : Int64) (f_rightAbove : Int64) (f_rightBelow : Int64) (f_listed : Int32) (f_fed : Int32) (f_read : Int32) (f_formed : Int32) (f_hasSnapshot : Int32) (f_above : (Nat → Int32)) (f_below : (Nat → Int32)) (v1 : Int32) (v2 : Int32) (v3 : Int32) (post : Int32 → (Nat → Int32) → (Nat → Int32) → Prop) (hw : w8_fareyNext f_above f_below v1 v2 v3 post) : Met l yX8_fareyNext wsX8_fareyNext rm8_fareyNext (kP D (kT cI cJ cN cR) sz [.ref (rf 0), .int v1, .int v2, .int v3] [((rf 0), o8 rf f_terms f_runs f_leftAbove f_leftBelow f_rightAbove f_rightBelow f_listed f_fed f_read f_formed f_hasSnapshot), ((rf 1), ai cI 8 f_above), ((rf 2), ai cI 8 f_below)]) (kQi D [((rf 0), o8 rf f_terms f_runs f_leftAbove f_leftBelow f_rightAbove f_rightBelow f_listed f_fed f_read f_formed f_hasSnapshot), ((rf 1), ai cI 8 f_above), ((rf 2), ai cI 8 f_below)] sz (fun (r : Int32) (u : (Nat → Int32) × (Nat → Int32)) => post r u.1 u.2) (fun (u : (Nat → Int32) × (Nat → Int32)) => [((rf 0), o8 rf f_terms f_runs f_leftAbove f_leftBelow f_rightAbove f_rightBelow f_listed f_fed f_read f_formed f_hasSnapshot), ((rf 1), ai cI 8 u.1), ((rf 2), ai cI 8 u.2)])) 0 0 (va_A [((rf 0), o8 rf f_terms f_runs f_leftAbove f_leftBelow f_rightAbove f_rightBelow f_listed f_fed f_read f_formed f_hasSnapshot), ((rf 1), ai cI 8 f_above), ((rf 2), ai cI 8 f_below)] sz) := by
  refine kMetI (cc := cX8_fareyNext) (maxL := 11) (by decide +kernel) rfl (Nat.le_of_ble_eq_true rfl) ?_
  intro p e s m args below meth c H0 ls A Q C0 hK hN hP hD hS hA hl RET
  obtain ⟨hx, hb, hml, hown, hts⟩ := id C0
  have hl : lv_has ls 11 [(0, .ref (rf 0)), (1, .int v1), (2, .int v2), (3, .int v3)] := hl
  have g7 := hts (.fieldLink RX8 7 "SternBrocotExplorerModel" "above" "[I") (by decide +kernel)
  have g13 := hts (.fieldLink RX8 13 "SternBrocotExplorerModel" "below" "[I") (by decide +kernel)
  have hi9 : ∀ w ∈ wsX80, w ∈ wsX8_fareyNext := fun w h => List.mem_cons_of_mem _ (List.mem_append_right _ h)
  unfold w8_fareyNext at hw
  have hP : va_P D vwCl [((rf 0), o8 rf f_terms f_runs f_leftAbove f_leftBelow f_rightAbove f_rightBelow f_listed f_fed f_read f_formed f_hasSnapshot), ((rf 1), ai cI 8 f_above), ((rf 2), ai cI 8 f_below)] H0 := hP
  refine lv_aload_n hx hb dX8_fareyNext_0 rfl (lv_at hl 0 rfl) ?_
  refine lv_iload_n hx hb dX8_fareyNext_1 rfl (lv_at hl 1 rfl) ?_
  refine kcRI (wc := [((rf 0), o8 rf f_terms f_runs f_leftAbove f_leftBelow f_rightAbove f_rightBelow f_listed f_fed f_read f_formed f_hasSnapshot)]) hP [0] rfl (fun hPc => oV (As := [.int v1]) (rest := []) C0 hK hN (c8_isRegister l D cI cJ cN cR rf f_terms f_runs f_leftAbove f_leftBelow f_rightAbove f_rightBelow f_listed f_fed f_read f_formed f_hasSnapshot v1 _ hw) 1 gX8_fareyNext_X8_isRegister rfl ⟨rfl, rfl⟩ nm8_isRegister ⟨Nat.le_of_ble_eq_true rfl, Nat.le_of_ble_eq_true rfl⟩ (q0 := 0) rfl rfl rfl rfl hl.1 rfl (Nat.le_of_ble_eq_true rfl) dX8_fareyNext_2 ⟨Nat.le_of_ble_eq_true rfl, Nat.le_of_ble_eq_true rfl⟩ hPc) (fun r2 hw => ?_)
  obtain ⟨nb2, hw⟩ := hw
  refine lv_if_eq (tgt := 28) hx hb dX8_fareyNext_5 (by decide) (fun k => ?_) (fun k => ?_)
  · have hw := hw.1 k
    refine lv_iconst (v := (-1 : Int32)) hx hb dX8_fareyNext_28 (by decide) ?_
    exact RET _ _ _ (f_above, f_below) _ _ hw hP hD hS dX8_fareyNext_29
  · have hw := hw.2 k
    refine lv_aload_n hx hb dX8_fareyNext_8 rfl (lv_at hl 0 rfl) ?_
    refine lv_iload_n hx hb dX8_fareyNext_9 rfl (lv_at hl 2 rfl) ?_
    refine kcRI (wc := [((rf 0), o8 rf f_terms f_runs f_leftAbove f_leftBelow f_rightAbove f_rightBelow f_listed f_fed f_read f_formed f_hasSnapshot)]) hP [0] rfl (fun hPc => oV (As := [.int v2]) (rest := []) C0 hK hN (c8_isRegister l D cI cJ cN cR rf f_terms f_runs f_leftAbove f_leftBelow f_rightAbove f_rightBelow f_listed f_fed f_read f_formed f_hasSnapshot v2 _ hw) 1 gX8_fareyNext_X8_isRegister rfl ⟨rfl, rfl⟩ nm8_isRegister ⟨Nat.le_of_ble_eq_true rfl, Nat.le_of_ble_eq_true rfl⟩ (q0 := 0) rfl rfl rfl rfl hl.1 rfl (Nat.le_of_ble_eq_true rfl) dX8_fareyNext_10 ⟨Nat.le_of_ble_eq_true rfl, Nat.le_of_ble_eq_true rfl⟩ hPc) (fun r10 hw => ?_)
    obtain ⟨nb10, hw⟩ := hw
    refine lv_if_eq (tgt := 28) hx hb dX8_fareyNext_13 (by decide) (fun k => ?_) (fun k => ?_)
    · have hw := hw.1 k
      refine lv_iconst (v := (-1 : Int32)) hx hb dX8_fareyNext_28 (by decide) ?_
      exact RET _ _ _ (f_above, f_below) _ _ hw hP hD hS dX8_fareyNext_29
    · have hw := hw.2 k
      refine lv_iload_n hx hb dX8_fareyNext_16 rfl (lv_at hl 3 rfl) ?_
      refine lv_i2l hx hb dX8_fareyNext_17 rfl ?_
      refine lv_lconst (v := (1 : Int64)) hx hb dX8_fareyNext_18 (by decide) ?_
      refine lv_ldc2 (v := (1000 : Int64)) hx hb hown (hts (.constantLong RX8 192 (1000)) (by decide +kernel)) dX8_fareyNext_19 ?_
      refine kcRI (wc := []) hP [] rfl (fun hPc => oS (As := [.long v3.toInt64, .long (1 : Int64), .long (1000 : Int64)]) (rest := []) C0 hK hN (c8_within l D cI cJ cN cR   v3.toInt64 (1 : Int64) (1000 : Int64) _ hw) 3 gX8_fareyNext_X8_within rfl ⟨rfl, rfl⟩ nm8_within ⟨Nat.le_of_ble_eq_true rfl, Nat.le_of_ble_eq_true rfl⟩ rfl hl.1 rfl (Nat.le_of_ble_eq_true rfl) dX8_fareyNext_22 ⟨Nat.le_of_ble_eq_true rfl, Nat.le_of_ble_eq_true rfl⟩ hPc) (fun r22 hw => ?_)
      obtain ⟨nb22, hw⟩ := hw
      refine lv_if_ne (tgt := 30) hx hb dX8_fareyNext_25 (by decide) (fun k => ?_) (fun k => ?_)
      · have hw := hw.1 k
        refine lv_aload_n hx hb dX8_fareyNext_30 rfl (lv_at hl 0 rfl) ?_
        refine va_get (D := D) (ci := 8) (v := .ref (rf 1)) (C := RX8) (T := TX8) (N := 35) hx hb hts hi9 hown hK hP 0 rfl rfl 0 (by decide) g7 (fun _ h9 => h9) rfl dX8_fareyNext_31 ?_
        refine lv_iload_n hx hb dX8_fareyNext_34 rfl (lv_at hl 2 rfl) ?_
        obtain ⟨hin, hw⟩ := hw
        refine va_iald hx hb hK hP 1 0 rfl rfl hin dX8_fareyNext_35 ?_
        refine lv_aload_n hx hb dX8_fareyNext_36 rfl (lv_at hl 0 rfl) ?_
        refine va_get (D := D) (ci := 8) (v := .ref (rf 2)) (C := RX8) (T := TX8) (N := 35) hx hb hts hi9 hown hK hP 0 rfl rfl 1 (by decide) g13 (fun _ h9 => h9) rfl dX8_fareyNext_37 ?_
        refine lv_iload_n hx hb dX8_fareyNext_40 rfl (lv_at hl 2 rfl) ?_
        obtain ⟨hin, hw⟩ := hw
        refine va_iald hx hb hK hP 2 0 rfl rfl hin dX8_fareyNext_41 ?_
        obtain ⟨hne, hw⟩ := hw
        refine lv_idiv hx hb dX8_fareyNext_42 hne ?_
        refine lv_iconst (v := (1 : Int32)) hx hb dX8_fareyNext_43 (by decide) ?_
        refine lv_iadd hx hb dX8_fareyNext_44 ?_
        refine lv_i2l hx hb dX8_fareyNext_45 rfl ?_
        refine lv_topl (fun x46 ex46 => ?_)
        have hw := hw x46 ex46
        refine lv_lstore (lv' := [(4, .long x46), (0, .ref (rf 0)), (1, .int v1), (2, .int v2), (3, .int v3)]) hx hb dX8_fareyNext_46 hl (by decide) rfl (fun ls hl => ?_)
        refine lv_lconst (v := (1 : Int64)) hx hb dX8_fareyNext_48 (by decide) ?_
        refine lv_lstore (lv' := [(6, .long (1 : Int64)), (4, .long x46), (0, .ref (rf 0)), (1, .int v1), (2, .int v2), (3, .int v3)]) hx hb dX8_fareyNext_49 hl (by decide) rfl (fun ls hl => ?_)
        refine lv_iconst (v := (2 : Int32)) hx hb dX8_fareyNext_51 (by decide) ?_
        refine lv_istore (lv' := [(8, .int (2 : Int32)), (6, .long (1 : Int64)), (4, .long x46), (0, .ref (rf 0)), (1, .int v1), (2, .int v2), (3, .int v3)]) hx hb dX8_fareyNext_52 hl (by decide) rfl (fun ls hl => ?_)
        obtain ⟨n54, hw⟩ := hw
        have LOOP_54 : ∀ (n54 : Nat) (v4 : Int64) (v6 : Int64) (v8 : Int32) (H : Heap) (locs : List Loc) (ls : Array Slot), w8_fareyNext_L54 f_above f_below v1 v2 v3 post n54 v4 v6 v8 → va_P D vwCl [((rf 0), o8 rf f_terms f_runs f_leftAbove f_leftBelow f_rightAbove f_rightBelow f_listed f_fed f_read f_formed f_hasSnapshot), ((rf 1), ai cI 8 f_above), ((rf 2), ai cI 8 f_below)] H → va_D A [((rf 0), o8 rf f_terms f_runs f_leftAbove f_leftBelow f_rightAbove f_rightBelow f_listed f_fed f_read f_formed f_hasSnapshot), ((rf 1), ai cI 8 f_above), ((rf 2), ai cI 8 f_below)] → va_S A H0 H locs → lv_has ls 11 [(0, .ref (rf 0)), (1, .int v1), (2, .int v2), (3, .int v3), (4, .long v4), (6, .long v6), (8, .int v8)] → W p l e rm8_fareyNext s m args below meth c H locs 0 0 Q (F0 m 54 ls []) := by
          clear hw hl hP hD hS
          intro n54
          induction n54 with
          | zero =>
            intro v4 v6 v8 H locs ls hw hP hD hS hl
            rw [w8_fareyNext_L54] at hw
            exact hw.elim
          | succ n54 ih54 =>
            intro v4 v6 v8 H locs ls hw hP hD hS hl
            rw [w8_fareyNext_L54] at hw
            refine lv_iload hx hb dX8_fareyNext_54 (lv_at hl 6 rfl) ?_
            refine lv_iload_n hx hb dX8_fareyNext_56 rfl (lv_at hl 3 rfl) ?_
            refine lv_icmp_gt (tgt := 116) hx hb dX8_fareyNext_57 (by decide) (fun k => ?_) (fun k => ?_)
            · have hw := hw.1 k
              refine lv_aload_n hx hb dX8_fareyNext_116 rfl (lv_at hl 0 rfl) ?_
              refine lv_iload_n hx hb dX8_fareyNext_117 rfl (lv_at hl 1 rfl) ?_
              refine lv_lload hx hb dX8_fareyNext_118 (lv_at hl 4 rfl) ?_
              refine lv_lload hx hb dX8_fareyNext_120 (lv_at hl 5 rfl) ?_
              refine kcI (wc := [((rf 0), o8 rf f_terms f_runs f_leftAbove f_leftBelow f_rightAbove f_rightBelow f_listed f_fed f_read f_formed f_hasSnapshot), ((rf 1), ai cI 8 f_above), ((rf 2), ai cI 8 f_below)]) (wr := []) hP hD hS hA [0, 1, 2] [] rfl rfl ⟨rfl, rfl, by decide⟩ (fun hPc hDc => rV (As := [.int v1, .long v4, .long v6]) (rest := []) C0 hK hN (c8_put l D cI cJ cN cR rf H.size f_terms f_runs f_leftAbove f_leftBelow f_rightAbove f_rightBelow f_listed f_fed f_read f_formed f_hasSnapshot f_above f_below v1 v4 v6 _ hw) 3 gX8_fareyNext_X8_put rfl ⟨rfl, rfl⟩ nm8_put ⟨Nat.le_of_ble_eq_true rfl, Nat.le_of_ble_eq_true rfl⟩ (q0 := 0) rfl rfl rfl rfl hl.1 rfl (Nat.le_of_ble_eq_true rfl) dX8_fareyNext_122 ⟨Nat.le_of_ble_eq_true rfl, Nat.le_of_ble_eq_true rfl⟩ hPc hDc) (fun r122 u122 H locs hw hP hD hS => ?_)
              obtain ⟨f_above_122, f_below_122⟩ := u122
              dsimp only at hw
              have hP : va_P D vwCl [((rf 0), o8 rf f_terms f_runs f_leftAbove f_leftBelow f_rightAbove f_rightBelow f_listed f_fed f_read f_formed f_hasSnapshot), ((rf 1), ai cI 8 f_above_122), ((rf 2), ai cI 8 f_below_122)] H := hP
              have hD : va_D A [((rf 0), o8 rf f_terms f_runs f_leftAbove f_leftBelow f_rightAbove f_rightBelow f_listed f_fed f_read f_formed f_hasSnapshot), ((rf 1), ai cI 8 f_above_122), ((rf 2), ai cI 8 f_below_122)] := hD
              exact RET _ _ _ (f_above_122, f_below_122) _ _ hw hP hD hS dX8_fareyNext_125
            · have hw := hw.2 k
              refine lv_aload_n hx hb dX8_fareyNext_60 rfl (lv_at hl 0 rfl) ?_
              refine va_get (D := D) (ci := 8) (v := .ref (rf 1)) (C := RX8) (T := TX8) (N := 35) hx hb hts hi9 hown hK hP 0 rfl rfl 0 (by decide) g7 (fun _ h9 => h9) rfl dX8_fareyNext_61 ?_
              refine lv_iload_n hx hb dX8_fareyNext_64 rfl (lv_at hl 2 rfl) ?_
              obtain ⟨hin, hw⟩ := hw
              refine va_iald hx hb hK hP 1 0 rfl rfl hin dX8_fareyNext_65 ?_
              refine lv_i2l hx hb dX8_fareyNext_66 rfl ?_
              refine lv_iload hx hb dX8_fareyNext_67 (lv_at hl 6 rfl) ?_
              refine lv_i2l hx hb dX8_fareyNext_69 rfl ?_
              refine lv_lmul hx hb dX8_fareyNext_70 ?_
              refine lv_aload_n hx hb dX8_fareyNext_71 rfl (lv_at hl 0 rfl) ?_
              refine va_get (D := D) (ci := 8) (v := .ref (rf 2)) (C := RX8) (T := TX8) (N := 35) hx hb hts hi9 hown hK hP 0 rfl rfl 1 (by decide) g13 (fun _ h9 => h9) rfl dX8_fareyNext_72 ?_
              refine lv_iload_n hx hb dX8_fareyNext_75 rfl (lv_at hl 2 rfl) ?_
              obtain ⟨hin, hw⟩ := hw
              refine va_iald hx hb hK hP 2 0 rfl rfl hin dX8_fareyNext_76 ?_
              refine lv_i2l hx hb dX8_fareyNext_77 rfl ?_
              obtain ⟨hne, hw⟩ := hw
              refine lv_ldiv hx hb dX8_fareyNext_78 hne ?_
              refine lv_lconst (v := (1 : Int64)) hx hb dX8_fareyNext_79 (by decide) ?_
              refine lv_ladd hx hb dX8_fareyNext_80 ?_
              refine lv_topl (fun x81 ex81 => ?_)
              have hw := hw x81 ex81
              refine lv_lstore (lv' := [(9, .long x81), (0, .ref (rf 0)), (1, .int v1), (2, .int v2), (3, .int v3), (4, .long v4), (6, .long v6), (8, .int v8)]) hx hb dX8_fareyNext_81 hl (by decide) rfl (fun ls hl => ?_)
              refine lv_lload hx hb dX8_fareyNext_83 (lv_at hl 0 rfl) ?_
              refine lv_lload hx hb dX8_fareyNext_85 (lv_at hl 6 rfl) ?_
              refine lv_lmul hx hb dX8_fareyNext_87 ?_
              refine lv_lload hx hb dX8_fareyNext_88 (lv_at hl 5 rfl) ?_
              refine lv_iload hx hb dX8_fareyNext_90 (lv_at hl 7 rfl) ?_
              refine lv_i2l hx hb dX8_fareyNext_92 rfl ?_
              refine lv_lmul hx hb dX8_fareyNext_93 ?_
              refine W.lcmp hx hb dX8_fareyNext_94 ?_
              refine lv_if_lt (tgt := 101) hx hb dX8_fareyNext_95 (by decide) (fun k => ?_) (fun k => ?_)
              · have hw := hw.1 ((lg_cmp_lt _ _).mp k)
                refine lv_lload hx hb dX8_fareyNext_101 (lv_at hl 0 rfl) ?_
                refine lv_lstore (lv' := [(4, .long x81), (9, .long x81), (0, .ref (rf 0)), (1, .int v1), (2, .int v2), (3, .int v3), (6, .long v6), (8, .int v8)]) hx hb dX8_fareyNext_103 hl (by decide) rfl (fun ls hl => ?_)
                refine lv_iload hx hb dX8_fareyNext_105 (lv_at hl 7 rfl) ?_
                refine lv_i2l hx hb dX8_fareyNext_107 rfl ?_
                refine lv_topl (fun x108 ex108 => ?_)
                have hw := hw x108 ex108
                refine lv_lstore (lv' := [(6, .long x108), (4, .long x81), (9, .long x81), (0, .ref (rf 0)), (1, .int v1), (2, .int v2), (3, .int v3), (8, .int v8)]) hx hb dX8_fareyNext_108 hl (by decide) rfl (fun ls hl => ?_)
                obtain ⟨x110, ex110⟩ : ∃ y : Int32, y = (v8 + (1 : Int32)) := ⟨_, rfl⟩
                have hw := hw x110 ex110
                refine lv_iinc (v := x110) (lv' := [(8, .int x110), (6, .long x108), (4, .long x81), (9, .long x81), (0, .ref (rf 0)), (1, .int v1), (2, .int v2), (3, .int v3)]) hx hb dX8_fareyNext_110 hl (k := 7) rfl (by rw [ex110]; rfl) (by decide) rfl (fun ls hl => ?_)
                refine lv_goto (tgt := 54) hx hb dX8_fareyNext_113 (by decide) ?_
                exact ih54 x81 x108 x110 _ _ ls hw hP hD hS (lv_sub hl [4, 5, 6, 7, 2, 1, 0] rfl)
              · have hw := hw.2 (fun h => k ((lg_cmp_lt _ _).mpr h))
                refine lv_goto (tgt := 110) hx hb dX8_fareyNext_98 (by decide) ?_
                obtain ⟨x110, ex110⟩ : ∃ y : Int32, y = (v8 + (1 : Int32)) := ⟨_, rfl⟩
                have hw := hw x110 ex110
                refine lv_iinc (v := x110) (lv' := [(8, .int x110), (9, .long x81), (0, .ref (rf 0)), (1, .int v1), (2, .int v2), (3, .int v3), (4, .long v4), (6, .long v6)]) hx hb dX8_fareyNext_110 hl (k := 7) rfl (by rw [ex110]; rfl) (by decide) rfl (fun ls hl => ?_)
                refine lv_goto (tgt := 54) hx hb dX8_fareyNext_113 (by decide) ?_
                exact ih54 v4 v6 x110 _ _ ls hw hP hD hS (lv_sub hl [2, 3, 4, 5, 6, 7, 0] rfl)
        exact LOOP_54 n54 x46 (1 : Int64) (2 : Int32) _ _ ls hw hP hD hS (lv_sub hl [3, 4, 5, 6, 2, 1, 0] rfl)
      · have hw := hw.2 k
        refine lv_iconst (v := (-1 : Int32)) hx hb dX8_fareyNext_28 (by decide) ?_
        exact RET _ _ _ (f_above, f_below) _ _ hw hP hD hS dX8_fareyNext_29
abbrev rm8_coprimes : Room := { frames := 0, cells := 0, slots := 0, locals := 0 }
theorem nm8_coprimes : kNm yX8_coprimes 1 := by decide +kernel
set_option maxHeartbeats 4000000 in
set_option maxRecDepth 100000 in
theorem c8_coprimes (l : Launch) (D : va_G) (cI cJ cN cR : ClassId) (rf : Nat → Nat) (f_terms : Int32) (f_runs : Int32) (f_leftAbove : Int64) (f_leftBelow : Int64) (f_rightAbove : Int64) (f_rightBelow : Int64) (f_listed : Int32) (f_fed : Int32) (f_read : Int32) (f_formed : Int32) (f_hasSnapshot : Int32) (v1 : Int32) (post : Int32 → Prop) (hw : w8_coprimes v1 post) : Met l yX8_coprimes wsX8_coprimes rm8_coprimes (kR D (kT cI cJ cN cR) [.ref (rf 0), .int v1] [((rf 0), o8 rf f_terms f_runs f_leftAbove f_leftBelow f_rightAbove f_rightBelow f_listed f_fed f_read f_formed f_hasSnapshot)]) (vp_Si post) 0 0 (fun _ => False) := by
  refine kMetRI (cc := cX8_coprimes) (maxL := 5) (by decide +kernel) rfl (Nat.le_of_ble_eq_true rfl) ?_
  intro p e s m args below meth c H ls Q C0 hK hN hP hl RET
  obtain ⟨hx, hb, hml, hown, hts⟩ := id C0
  have hl : lv_has ls 5 [(0, .ref (rf 0)), (1, .int v1)] := hl
  unfold w8_coprimes at hw
  refine lv_iload_n hx hb dX8_coprimes_0 rfl (lv_at hl 1 rfl) ?_
  refine lv_istore_n (lv' := [(2, .int v1), (0, .ref (rf 0)), (1, .int v1)]) hx hb dX8_coprimes_1 rfl hl (by decide) rfl (fun ls hl => ?_)
  refine lv_iload_n hx hb dX8_coprimes_2 rfl (lv_at hl 2 rfl) ?_
  refine lv_istore_n (lv' := [(3, .int v1), (2, .int v1), (0, .ref (rf 0)), (1, .int v1)]) hx hb dX8_coprimes_3 rfl hl (by decide) rfl (fun ls hl => ?_)
  refine lv_iconst (v := (2 : Int32)) hx hb dX8_coprimes_4 (by decide) ?_
  refine lv_istore (lv' := [(4, .int (2 : Int32)), (3, .int v1), (2, .int v1), (0, .ref (rf 0)), (1, .int v1)]) hx hb dX8_coprimes_5 hl (by decide) rfl (fun ls hl => ?_)
  obtain ⟨n7, hw⟩ := hw
  have LOOP_7 : ∀ (n7 : Nat) (v2 : Int32) (v3 : Int32) (v4 : Int32) (ls : Array Slot), w8_coprimes_L7 post n7 v2 v3 v4 → lv_has ls 5 [(2, .int v2), (3, .int v3), (4, .int v4)] → W p l e rm8_coprimes s m args below meth c H [] 0 0 Q (F0 m 7 ls []) := by
    clear hw hl
    intro n7
    induction n7 with
    | zero =>
      intro v2 v3 v4 ls hw hl
      rw [w8_coprimes_L7] at hw
      exact hw.elim
    | succ n7 ih7 =>
      intro v2 v3 v4 ls hw hl
      rw [w8_coprimes_L7] at hw
      refine lv_iload hx hb dX8_coprimes_7 (lv_at hl 2 rfl) ?_
      refine lv_iload hx hb dX8_coprimes_9 (lv_at hl 2 rfl) ?_
      refine lv_imul hx hb dX8_coprimes_11 ?_
      refine lv_iload_n hx hb dX8_coprimes_12 rfl (lv_at hl 1 rfl) ?_
      refine lv_icmp_gt (tgt := 57) hx hb dX8_coprimes_13 (by decide) (fun k => ?_) (fun k => ?_)
      · have hw := hw.1 k
        refine lv_iload_n hx hb dX8_coprimes_57 rfl (lv_at hl 1 rfl) ?_
        refine lv_iconst (v := (1 : Int32)) hx hb dX8_coprimes_58 (by decide) ?_
        refine lv_icmp_le (tgt := 72) hx hb dX8_coprimes_59 (by decide) (fun k => ?_) (fun k => ?_)
        · have hw := hw.1 k
          refine lv_iload_n hx hb dX8_coprimes_72 rfl (lv_at hl 0 rfl) ?_
          exact RET _ _ _ hw dX8_coprimes_73
        · have hw := hw.2 k
          refine lv_iload_n hx hb dX8_coprimes_62 rfl (lv_at hl 0 rfl) ?_
          refine lv_iload_n hx hb dX8_coprimes_63 rfl (lv_at hl 1 rfl) ?_
          obtain ⟨hne, hw⟩ := hw
          refine lv_idiv hx hb dX8_coprimes_64 hne ?_
          refine lv_iload_n hx hb dX8_coprimes_65 rfl (lv_at hl 1 rfl) ?_
          refine lv_iconst (v := (1 : Int32)) hx hb dX8_coprimes_66 (by decide) ?_
          refine lv_isub hx hb dX8_coprimes_67 ?_
          refine lv_imul hx hb dX8_coprimes_68 ?_
          refine lv_goto (tgt := 73) hx hb dX8_coprimes_69 (by decide) ?_
          exact RET _ _ _ hw dX8_coprimes_73
      · have hw := hw.2 k
        refine lv_iload_n hx hb dX8_coprimes_16 rfl (lv_at hl 1 rfl) ?_
        refine lv_iload hx hb dX8_coprimes_17 (lv_at hl 2 rfl) ?_
        obtain ⟨hne, hw⟩ := hw
        refine lv_irem hx hb dX8_coprimes_19 hne ?_
        refine lv_if_eq (tgt := 26) hx hb dX8_coprimes_20 (by decide) (fun k => ?_) (fun k => ?_)
        · have hw := hw.1 k
          refine lv_iload_n hx hb dX8_coprimes_26 rfl (lv_at hl 0 rfl) ?_
          refine lv_iload hx hb dX8_coprimes_27 (lv_at hl 2 rfl) ?_
          obtain ⟨hne, hw⟩ := hw
          refine lv_idiv hx hb dX8_coprimes_29 hne ?_
          refine lv_iload hx hb dX8_coprimes_30 (lv_at hl 2 rfl) ?_
          refine lv_iconst (v := (1 : Int32)) hx hb dX8_coprimes_32 (by decide) ?_
          refine lv_isub hx hb dX8_coprimes_33 ?_
          refine lv_imul hx hb dX8_coprimes_34 ?_
          refine lv_topi (fun x35 ex35 => ?_)
          have hw := hw x35 ex35
          refine lv_istore_n (lv' := [(2, .int x35), (3, .int v3), (4, .int v4)]) hx hb dX8_coprimes_35 rfl hl (by decide) rfl (fun ls hl => ?_)
          obtain ⟨n36, hw⟩ := hw
          have LOOP_36 : ∀ (n36 : Nat) (v3 : Int32) (ls : Array Slot), w8_coprimes_L36 x35 v4 post (fun z0 z1 z2 => w8_coprimes_L7 post n7 z0 z1 z2) n36 v3 → lv_has ls 5 [(2, .int x35), (3, .int v3), (4, .int v4)] → W p l e rm8_coprimes s m args below meth c H [] 0 0 Q (F0 m 36 ls []) := by
            clear hw hl
            intro n36
            induction n36 with
            | zero =>
              intro v3 ls hw hl
              rw [w8_coprimes_L36] at hw
              exact hw.elim
            | succ n36 ih36 =>
              intro v3 ls hw hl
              rw [w8_coprimes_L36] at hw
              refine lv_iload_n hx hb dX8_coprimes_36 rfl (lv_at hl 1 rfl) ?_
              refine lv_iload hx hb dX8_coprimes_37 (lv_at hl 2 rfl) ?_
              obtain ⟨hne, hw⟩ := hw
              refine lv_irem hx hb dX8_coprimes_39 hne ?_
              refine lv_if_ne (tgt := 51) hx hb dX8_coprimes_40 (by decide) (fun k => ?_) (fun k => ?_)
              · have hw := hw.1 k
                obtain ⟨x51, ex51⟩ : ∃ y : Int32, y = (v4 + (1 : Int32)) := ⟨_, rfl⟩
                have hw := hw x51 ex51
                refine lv_iinc (v := x51) (lv' := [(4, .int x51), (2, .int x35), (3, .int v3)]) hx hb dX8_coprimes_51 hl (k := 2) rfl (by rw [ex51]; rfl) (by decide) rfl (fun ls hl => ?_)
                refine lv_goto (tgt := 7) hx hb dX8_coprimes_54 (by decide) ?_
                exact ih7 x35 v3 x51 ls hw (lv_sub hl [1, 2, 0] rfl)
              · have hw := hw.2 k
                refine lv_iload_n hx hb dX8_coprimes_43 rfl (lv_at hl 1 rfl) ?_
                refine lv_iload hx hb dX8_coprimes_44 (lv_at hl 2 rfl) ?_
                obtain ⟨hne, hw⟩ := hw
                refine lv_idiv hx hb dX8_coprimes_46 hne ?_
                refine lv_topi (fun x47 ex47 => ?_)
                have hw := hw x47 ex47
                refine lv_istore_n (lv' := [(3, .int x47), (2, .int x35), (4, .int v4)]) hx hb dX8_coprimes_47 rfl hl (by decide) rfl (fun ls hl => ?_)
                refine lv_goto (tgt := 36) hx hb dX8_coprimes_48 (by decide) ?_
                exact ih36 x47 ls hw (lv_sub hl [1, 0, 2] rfl)
          exact LOOP_36 n36 v3 ls hw (lv_sub hl [0, 1, 2] rfl)
        · have hw := hw.2 k
          refine lv_goto (tgt := 51) hx hb dX8_coprimes_23 (by decide) ?_
          obtain ⟨x51, ex51⟩ : ∃ y : Int32, y = (v4 + (1 : Int32)) := ⟨_, rfl⟩
          have hw := hw x51 ex51
          refine lv_iinc (v := x51) (lv' := [(4, .int x51), (2, .int v2), (3, .int v3)]) hx hb dX8_coprimes_51 hl (k := 2) rfl (by rw [ex51]; rfl) (by decide) rfl (fun ls hl => ?_)
          refine lv_goto (tgt := 7) hx hb dX8_coprimes_54 (by decide) ?_
          exact ih7 v2 v3 x51 ls hw (lv_sub hl [1, 2, 0] rfl)
  exact LOOP_7 n7 v1 v1 (2 : Int32) ls hw (lv_sub hl [2, 1, 0] rfl)
abbrev rm8_fareyCount : Room := { frames := 1, cells := 0, slots := 0, locals := 25 }
theorem nm8_fareyCount : kNm yX8_fareyCount 1 := by decide +kernel
set_option maxHeartbeats 4000000 in
set_option maxRecDepth 100000 in
theorem c8_fareyCount (l : Launch) (D : va_G) (cI cJ cN cR : ClassId) (rf : Nat → Nat) (f_terms : Int32) (f_runs : Int32) (f_leftAbove : Int64) (f_leftBelow : Int64) (f_rightAbove : Int64) (f_rightBelow : Int64) (f_listed : Int32) (f_fed : Int32) (f_read : Int32) (f_formed : Int32) (f_hasSnapshot : Int32) (v1 : Int32) (post : Int32 → Prop) (hw : w8_fareyCount v1 post) : Met l yX8_fareyCount wsX8_fareyCount rm8_fareyCount (kR D (kT cI cJ cN cR) [.ref (rf 0), .int v1] [((rf 0), o8 rf f_terms f_runs f_leftAbove f_leftBelow f_rightAbove f_rightBelow f_listed f_fed f_read f_formed f_hasSnapshot)]) (vp_Si post) 0 0 (fun _ => False) := by
  refine kMetRI (cc := cX8_fareyCount) (maxL := 4) (by decide +kernel) rfl (Nat.le_of_ble_eq_true rfl) ?_
  intro p e s m args below meth c H ls Q C0 hK hN hP hl RET
  obtain ⟨hx, hb, hml, hown, hts⟩ := id C0
  have hl : lv_has ls 4 [(0, .ref (rf 0)), (1, .int v1)] := hl
  unfold w8_fareyCount at hw
  refine lv_iload_n hx hb dX8_fareyCount_0 rfl (lv_at hl 1 rfl) ?_
  refine lv_i2l hx hb dX8_fareyCount_1 rfl ?_
  refine lv_lconst (v := (1 : Int64)) hx hb dX8_fareyCount_2 (by decide) ?_
  refine lv_ldc2 (v := (1000 : Int64)) hx hb hown (hts (.constantLong RX8 192 (1000)) (by decide +kernel)) dX8_fareyCount_3 ?_
  refine kcRI (wc := []) hP [] rfl (fun hPc => oS (As := [.long v1.toInt64, .long (1 : Int64), .long (1000 : Int64)]) (rest := []) C0 hK hN (c8_within l D cI cJ cN cR   v1.toInt64 (1 : Int64) (1000 : Int64) _ hw) 3 gX8_fareyCount_X8_within rfl ⟨rfl, rfl⟩ nm8_within ⟨Nat.le_of_ble_eq_true rfl, Nat.le_of_ble_eq_true rfl⟩ rfl hl.1 rfl (Nat.le_of_ble_eq_true rfl) dX8_fareyCount_6 ⟨Nat.le_of_ble_eq_true rfl, Nat.le_of_ble_eq_true rfl⟩ hPc) (fun r6 hw => ?_)
  obtain ⟨nb6, hw⟩ := hw
  refine lv_if_ne (tgt := 14) hx hb dX8_fareyCount_9 (by decide) (fun k => ?_) (fun k => ?_)
  · have hw := hw.1 k
    refine lv_iconst (v := (0 : Int32)) hx hb dX8_fareyCount_14 (by decide) ?_
    refine lv_istore_n (lv' := [(2, .int (0 : Int32)), (0, .ref (rf 0)), (1, .int v1)]) hx hb dX8_fareyCount_15 rfl hl (by decide) rfl (fun ls hl => ?_)
    refine lv_iconst (v := (1 : Int32)) hx hb dX8_fareyCount_16 (by decide) ?_
    refine lv_istore_n (lv' := [(3, .int (1 : Int32)), (2, .int (0 : Int32)), (0, .ref (rf 0)), (1, .int v1)]) hx hb dX8_fareyCount_17 rfl hl (by decide) rfl (fun ls hl => ?_)
    obtain ⟨n18, hw⟩ := hw
    have LOOP_18 : ∀ (n18 : Nat) (v2 : Int32) (v3 : Int32) (ls : Array Slot), w8_fareyCount_L18 v1 post n18 v2 v3 → lv_has ls 4 [(0, .ref (rf 0)), (1, .int v1), (2, .int v2), (3, .int v3)] → W p l e rm8_fareyCount s m args below meth c H [] 0 0 Q (F0 m 18 ls []) := by
      clear hw hl
      intro n18
      induction n18 with
      | zero =>
        intro v2 v3 ls hw hl
        rw [w8_fareyCount_L18] at hw
        exact hw.elim
      | succ n18 ih18 =>
        intro v2 v3 ls hw hl
        rw [w8_fareyCount_L18] at hw
        refine lv_iload_n hx hb dX8_fareyCount_18 rfl (lv_at hl 3 rfl) ?_
        refine lv_iload_n hx hb dX8_fareyCount_19 rfl (lv_at hl 1 rfl) ?_
        refine lv_icmp_gt (tgt := 37) hx hb dX8_fareyCount_20 (by decide) (fun k => ?_) (fun k => ?_)
        · have hw := hw.1 k
          refine lv_iload_n hx hb dX8_fareyCount_37 rfl (lv_at hl 2 rfl) ?_
          exact RET _ _ _ hw dX8_fareyCount_38
        · have hw := hw.2 k
          refine lv_iload_n hx hb dX8_fareyCount_23 rfl (lv_at hl 2 rfl) ?_
          refine lv_aload_n hx hb dX8_fareyCount_24 rfl (lv_at hl 0 rfl) ?_
          refine lv_iload_n hx hb dX8_fareyCount_25 rfl (lv_at hl 3 rfl) ?_
          refine kcRI (wc := [((rf 0), o8 rf f_terms f_runs f_leftAbove f_leftBelow f_rightAbove f_rightBelow f_listed f_fed f_read f_formed f_hasSnapshot)]) hP [0] rfl (fun hPc => oV (As := [.int v3]) (rest := [.int v2]) C0 hK hN (c8_coprimes l D cI cJ cN cR rf f_terms f_runs f_leftAbove f_leftBelow f_rightAbove f_rightBelow f_listed f_fed f_read f_formed f_hasSnapshot v3 _ hw) 1 gX8_fareyCount_X8_coprimes rfl ⟨rfl, rfl⟩ nm8_coprimes ⟨Nat.le_of_ble_eq_true rfl, Nat.le_of_ble_eq_true rfl⟩ (q0 := 0) rfl rfl rfl rfl hl.1 rfl (Nat.le_of_ble_eq_true rfl) dX8_fareyCount_26 ⟨Nat.le_of_ble_eq_true rfl, Nat.le_of_ble_eq_true rfl⟩ hPc) (fun r26 hw => ?_)
          refine lv_iadd hx hb dX8_fareyCount_29 ?_
          refine lv_topi (fun x30 ex30 => ?_)
          have hw := hw x30 ex30
          refine lv_istore_n (lv' := [(2, .int x30), (0, .ref (rf 0)), (1, .int v1), (3, .int v3)]) hx hb dX8_fareyCount_30 rfl hl (by decide) rfl (fun ls hl => ?_)
          obtain ⟨x31, ex31⟩ : ∃ y : Int32, y = (v3 + (1 : Int32)) := ⟨_, rfl⟩
          have hw := hw x31 ex31
          refine lv_iinc (v := x31) (lv' := [(3, .int x31), (2, .int x30), (0, .ref (rf 0)), (1, .int v1)]) hx hb dX8_fareyCount_31 hl (k := 3) rfl (by rw [ex31]; rfl) (by decide) rfl (fun ls hl => ?_)
          refine lv_goto (tgt := 18) hx hb dX8_fareyCount_34 (by decide) ?_
          exact ih18 x30 x31 ls hw (lv_sub hl [2, 3, 1, 0] rfl)
    exact LOOP_18 n18 (0 : Int32) (1 : Int32) ls hw (lv_sub hl [2, 3, 1, 0] rfl)
  · have hw := hw.2 k
    refine lv_iconst (v := (-1 : Int32)) hx hb dX8_fareyCount_12 (by decide) ?_
    exact RET _ _ _ hw dX8_fareyCount_13
abbrev rm8_calkinWilfIndex : Room := { frames := 3, cells := 0, slots := 0, locals := 73 }
theorem nm8_calkinWilfIndex : kNm yX8_calkinWilfIndex 1 := by decide +kernel
set_option maxHeartbeats 4000000 in
set_option maxRecDepth 100000 in
theorem c8_calkinWilfIndex (l : Launch) (D : va_G) (cI cJ cN cR : ClassId) (rf : Nat → Nat) (sz : Nat) (f_terms : Int32) (f_runs : Int32) (f_leftAbove : Int64) (f_leftBelow : Int64) (f_rightAbove : Int64) (f_rightBelow : Int64) (f_listed : Int32) (f_fed : Int32) (f_read : Int32) (f_formed : Int32) (f_hasSnapshot : Int32) (f_above : (Nat → Int32)) (f_below : (Nat → Int32)) (f_term : (Nat → Int32)) (f_run : (Nat → Int32)) (f_isRight : (Nat → Int32)) (v1 : Int32) (post : Int64 → Int32 → Int32 → (Nat → Int32) → (Nat → Int32) → (Nat → Int32) → Prop) (hw : w8_calkinWilfIndex f_terms f_runs f_above f_below f_term f_run f_isRight v1 post) : Met l yX8_calkinWilfIndex wsX8_calkinWilfIndex rm8_calkinWilfIndex (kP D (kT cI cJ cN cR) sz [.ref (rf 0), .int v1] [((rf 0), o8 rf f_terms f_runs f_leftAbove f_leftBelow f_rightAbove f_rightBelow f_listed f_fed f_read f_formed f_hasSnapshot), ((rf 1), ai cI 8 f_above), ((rf 2), ai cI 8 f_below), ((rf 3), ai cI 64 f_term), ((rf 4), ai cI 64 f_run), ((rf 5), ai cI 64 f_isRight)]) (kQl D [((rf 0), o8 rf f_terms f_runs f_leftAbove f_leftBelow f_rightAbove f_rightBelow f_listed f_fed f_read f_formed f_hasSnapshot), ((rf 1), ai cI 8 f_above), ((rf 2), ai cI 8 f_below), ((rf 3), ai cI 64 f_term), ((rf 4), ai cI 64 f_run), ((rf 5), ai cI 64 f_isRight)] sz (fun (r : Int64) (u : Int32 × Int32 × (Nat → Int32) × (Nat → Int32) × (Nat → Int32)) => post r u.1 u.2.1 u.2.2.1 u.2.2.2.1 u.2.2.2.2) (fun (u : Int32 × Int32 × (Nat → Int32) × (Nat → Int32) × (Nat → Int32)) => [((rf 0), o8 rf u.1 u.2.1 f_leftAbove f_leftBelow f_rightAbove f_rightBelow f_listed f_fed f_read f_formed f_hasSnapshot), ((rf 1), ai cI 8 f_above), ((rf 2), ai cI 8 f_below), ((rf 3), ai cI 64 u.2.2.1), ((rf 4), ai cI 64 u.2.2.2.1), ((rf 5), ai cI 64 u.2.2.2.2)])) 0 0 (va_A [((rf 0), o8 rf f_terms f_runs f_leftAbove f_leftBelow f_rightAbove f_rightBelow f_listed f_fed f_read f_formed f_hasSnapshot), ((rf 1), ai cI 8 f_above), ((rf 2), ai cI 8 f_below), ((rf 3), ai cI 64 f_term), ((rf 4), ai cI 64 f_run), ((rf 5), ai cI 64 f_isRight)] sz) := by
  refine kMetL (cc := cX8_calkinWilfIndex) (maxL := 8) (by decide +kernel) rfl (Nat.le_of_ble_eq_true rfl) ?_
  intro p e s m args below meth c H0 ls A Q C0 hK hN hP hD hS hA hl RET
  obtain ⟨hx, hb, hml, hown, hts⟩ := id C0
  have hl : lv_has ls 8 [(0, .ref (rf 0)), (1, .int v1)] := hl
  have g7 := hts (.fieldLink RX8 7 "SternBrocotExplorerModel" "above" "[I") (by decide +kernel)
  have g13 := hts (.fieldLink RX8 13 "SternBrocotExplorerModel" "below" "[I") (by decide +kernel)
  have hi9 : ∀ w ∈ wsX80, w ∈ wsX8_calkinWilfIndex := fun w h => List.mem_cons_of_mem _ (List.mem_append_right _ h)
  unfold w8_calkinWilfIndex at hw
  have hP : va_P D vwCl [((rf 0), o8 rf f_terms f_runs f_leftAbove f_leftBelow f_rightAbove f_rightBelow f_listed f_fed f_read f_formed f_hasSnapshot), ((rf 1), ai cI 8 f_above), ((rf 2), ai cI 8 f_below), ((rf 3), ai cI 64 f_term), ((rf 4), ai cI 64 f_run), ((rf 5), ai cI 64 f_isRight)] H0 := hP
  refine lv_aload_n hx hb dX8_calkinWilfIndex_0 rfl (lv_at hl 0 rfl) ?_
  refine lv_iload_n hx hb dX8_calkinWilfIndex_1 rfl (lv_at hl 1 rfl) ?_
  refine kcRI (wc := [((rf 0), o8 rf f_terms f_runs f_leftAbove f_leftBelow f_rightAbove f_rightBelow f_listed f_fed f_read f_formed f_hasSnapshot)]) hP [0] rfl (fun hPc => oV (As := [.int v1]) (rest := []) C0 hK hN (c8_isRegister l D cI cJ cN cR rf f_terms f_runs f_leftAbove f_leftBelow f_rightAbove f_rightBelow f_listed f_fed f_read f_formed f_hasSnapshot v1 _ hw) 1 gX8_calkinWilfIndex_X8_isRegister rfl ⟨rfl, rfl⟩ nm8_isRegister ⟨Nat.le_of_ble_eq_true rfl, Nat.le_of_ble_eq_true rfl⟩ (q0 := 0) rfl rfl rfl rfl hl.1 rfl (Nat.le_of_ble_eq_true rfl) dX8_calkinWilfIndex_2 ⟨Nat.le_of_ble_eq_true rfl, Nat.le_of_ble_eq_true rfl⟩ hPc) (fun r2 hw => ?_)
  obtain ⟨nb2, hw⟩ := hw
  refine lv_if_ne (tgt := 12) hx hb dX8_calkinWilfIndex_5 (by decide) (fun k => ?_) (fun k => ?_)
  · have hw := hw.1 k
    refine lv_aload_n hx hb dX8_calkinWilfIndex_12 rfl (lv_at hl 0 rfl) ?_
    refine lv_aload_n hx hb dX8_calkinWilfIndex_13 rfl (lv_at hl 0 rfl) ?_
    refine va_get (D := D) (ci := 8) (v := .ref (rf 1)) (C := RX8) (T := TX8) (N := 35) hx hb hts hi9 hown hK hP 0 rfl rfl 0 (by decide) g7 (fun _ h9 => h9) rfl dX8_calkinWilfIndex_14 ?_
    refine lv_iload_n hx hb dX8_calkinWilfIndex_17 rfl (lv_at hl 1 rfl) ?_
    obtain ⟨hin, hw⟩ := hw
    refine va_iald hx hb hK hP 1 0 rfl rfl hin dX8_calkinWilfIndex_18 ?_
    refine lv_aload_n hx hb dX8_calkinWilfIndex_19 rfl (lv_at hl 0 rfl) ?_
    refine va_get (D := D) (ci := 8) (v := .ref (rf 2)) (C := RX8) (T := TX8) (N := 35) hx hb hts hi9 hown hK hP 0 rfl rfl 1 (by decide) g13 (fun _ h9 => h9) rfl dX8_calkinWilfIndex_20 ?_
    refine lv_iload_n hx hb dX8_calkinWilfIndex_23 rfl (lv_at hl 1 rfl) ?_
    obtain ⟨hin, hw⟩ := hw
    refine va_iald hx hb hK hP 2 0 rfl rfl hin dX8_calkinWilfIndex_24 ?_
    refine kcI (wc := [((rf 0), o8 rf f_terms f_runs f_leftAbove f_leftBelow f_rightAbove f_rightBelow f_listed f_fed f_read f_formed f_hasSnapshot), ((rf 3), ai cI 64 f_term), ((rf 4), ai cI 64 f_run), ((rf 5), ai cI 64 f_isRight)]) (wr := [((rf 1), ai cI 8 f_above), ((rf 2), ai cI 8 f_below)]) hP hD hS hA [0, 3, 4, 5] [1, 2] rfl rfl ⟨rfl, rfl, by decide⟩ (fun hPc hDc => rV (As := [.int (f_above v1.toNatClampNeg), .int (f_below v1.toNatClampNeg)]) (rest := []) C0 hK hN (c8_depthOf l D cI cJ cN cR rf H0.size f_terms f_runs f_leftAbove f_leftBelow f_rightAbove f_rightBelow f_listed f_fed f_read f_formed f_hasSnapshot f_term f_run f_isRight (f_above v1.toNatClampNeg) (f_below v1.toNatClampNeg) _ hw) 2 gX8_calkinWilfIndex_X8_depthOf rfl ⟨rfl, rfl⟩ nm8_depthOf ⟨Nat.le_of_ble_eq_true rfl, Nat.le_of_ble_eq_true rfl⟩ (q0 := 0) rfl rfl rfl rfl hl.1 rfl (Nat.le_of_ble_eq_true rfl) dX8_calkinWilfIndex_25 ⟨Nat.le_of_ble_eq_true rfl, Nat.le_of_ble_eq_true rfl⟩ hPc hDc) (fun r25 u25 H locs hw hP hD hS => ?_)
    obtain ⟨f_terms_25, f_runs_25, f_term_25, f_run_25, f_isRight_25⟩ := u25
    dsimp only at hw
    have hP : va_P D vwCl [((rf 1), ai cI 8 f_above), ((rf 2), ai cI 8 f_below), ((rf 0), o8 rf f_terms_25 f_runs_25 f_leftAbove f_leftBelow f_rightAbove f_rightBelow f_listed f_fed f_read f_formed f_hasSnapshot), ((rf 3), ai cI 64 f_term_25), ((rf 4), ai cI 64 f_run_25), ((rf 5), ai cI 64 f_isRight_25)] H := hP
    have hD : va_D A [((rf 1), ai cI 8 f_above), ((rf 2), ai cI 8 f_below), ((rf 0), o8 rf f_terms_25 f_runs_25 f_leftAbove f_leftBelow f_rightAbove f_rightBelow f_listed f_fed f_read f_formed f_hasSnapshot), ((rf 3), ai cI 64 f_term_25), ((rf 4), ai cI 64 f_run_25), ((rf 5), ai cI 64 f_isRight_25)] := hD
    refine lv_istore_n (lv' := [(2, .int r25), (0, .ref (rf 0)), (1, .int v1)]) hx hb dX8_calkinWilfIndex_28 rfl hl (by decide) rfl (fun ls hl => ?_)
    refine lv_iload_n hx hb dX8_calkinWilfIndex_29 rfl (lv_at hl 0 rfl) ?_
    refine lv_bipush (v := (60 : Int32)) hx hb dX8_calkinWilfIndex_30 (by decide) ?_
    refine lv_icmp_le (tgt := 39) hx hb dX8_calkinWilfIndex_32 (by decide) (fun k => ?_) (fun k => ?_)
    · have hw := hw.1 k
      refine lv_aload_n hx hb dX8_calkinWilfIndex_39 rfl (lv_at hl 1 rfl) ?_
      refine va_get (D := D) (ci := 8) (v := .ref (rf 1)) (C := RX8) (T := TX8) (N := 35) hx hb hts hi9 hown hK hP 2 rfl rfl 0 (by decide) g7 (fun _ h9 => h9) rfl dX8_calkinWilfIndex_40 ?_
      refine lv_iload_n hx hb dX8_calkinWilfIndex_43 rfl (lv_at hl 2 rfl) ?_
      obtain ⟨hin, hw⟩ := hw
      refine va_iald hx hb hK hP 0 0 rfl rfl hin dX8_calkinWilfIndex_44 ?_
      refine lv_topi (fun x45 ex45 => ?_)
      have hw := hw x45 ex45
      refine lv_istore_n (lv' := [(3, .int x45), (2, .int r25), (0, .ref (rf 0)), (1, .int v1)]) hx hb dX8_calkinWilfIndex_45 rfl hl (by decide) rfl (fun ls hl => ?_)
      refine lv_aload_n hx hb dX8_calkinWilfIndex_46 rfl (lv_at hl 2 rfl) ?_
      refine va_get (D := D) (ci := 8) (v := .ref (rf 2)) (C := RX8) (T := TX8) (N := 35) hx hb hts hi9 hown hK hP 2 rfl rfl 1 (by decide) g13 (fun _ h9 => h9) rfl dX8_calkinWilfIndex_47 ?_
      refine lv_iload_n hx hb dX8_calkinWilfIndex_50 rfl (lv_at hl 3 rfl) ?_
      obtain ⟨hin, hw⟩ := hw
      refine va_iald hx hb hK hP 1 0 rfl rfl hin dX8_calkinWilfIndex_51 ?_
      refine lv_topi (fun x52 ex52 => ?_)
      have hw := hw x52 ex52
      refine lv_istore (lv' := [(4, .int x52), (3, .int x45), (2, .int r25), (0, .ref (rf 0)), (1, .int v1)]) hx hb dX8_calkinWilfIndex_52 hl (by decide) rfl (fun ls hl => ?_)
      refine lv_lconst (v := (1 : Int64)) hx hb dX8_calkinWilfIndex_54 (by decide) ?_
      refine lv_iload_n hx hb dX8_calkinWilfIndex_55 rfl (lv_at hl 2 rfl) ?_
      refine lv_lshl hx hb dX8_calkinWilfIndex_56 rfl ?_
      refine lv_topl (fun x57 ex57 => ?_)
      have hw := hw x57 ex57
      refine lv_lstore (lv' := [(5, .long x57), (4, .int x52), (3, .int x45), (2, .int r25), (0, .ref (rf 0)), (1, .int v1)]) hx hb dX8_calkinWilfIndex_57 hl (by decide) rfl (fun ls hl => ?_)
      refine lv_iconst (v := (0 : Int32)) hx hb dX8_calkinWilfIndex_59 (by decide) ?_
      refine lv_istore (lv' := [(7, .int (0 : Int32)), (5, .long x57), (4, .int x52), (3, .int x45), (2, .int r25), (0, .ref (rf 0)), (1, .int v1)]) hx hb dX8_calkinWilfIndex_60 hl (by decide) rfl (fun ls hl => ?_)
      obtain ⟨n62, hw⟩ := hw
      have LOOP_62 : ∀ (n62 : Nat) (v3 : Int32) (v4 : Int32) (v5 : Int64) (v7 : Int32) (H : Heap) (locs : List Loc) (ls : Array Slot), w8_calkinWilfIndex_L62 f_terms_25 f_runs_25 f_term_25 f_run_25 f_isRight_25 r25 post n62 v3 v4 v5 v7 → va_P D vwCl [((rf 0), o8 rf f_terms_25 f_runs_25 f_leftAbove f_leftBelow f_rightAbove f_rightBelow f_listed f_fed f_read f_formed f_hasSnapshot), ((rf 1), ai cI 8 f_above), ((rf 2), ai cI 8 f_below), ((rf 3), ai cI 64 f_term_25), ((rf 4), ai cI 64 f_run_25), ((rf 5), ai cI 64 f_isRight_25)] H → va_D A [((rf 0), o8 rf f_terms_25 f_runs_25 f_leftAbove f_leftBelow f_rightAbove f_rightBelow f_listed f_fed f_read f_formed f_hasSnapshot), ((rf 1), ai cI 8 f_above), ((rf 2), ai cI 8 f_below), ((rf 3), ai cI 64 f_term_25), ((rf 4), ai cI 64 f_run_25), ((rf 5), ai cI 64 f_isRight_25)] → va_S A H0 H locs → lv_has ls 8 [(2, .int r25), (3, .int v3), (4, .int v4), (5, .long v5), (7, .int v7)] → W p l e rm8_calkinWilfIndex s m args below meth c H locs 0 0 Q (F0 m 62 ls []) := by
        clear hw hl hP hD hS
        intro n62
        induction n62 with
        | zero =>
          intro v3 v4 v5 v7 H locs ls hw hP hD hS hl
          rw [w8_calkinWilfIndex_L62] at hw
          exact hw.elim
        | succ n62 ih62 =>
          intro v3 v4 v5 v7 H locs ls hw hP hD hS hl
          rw [w8_calkinWilfIndex_L62] at hw
          refine lv_iload hx hb dX8_calkinWilfIndex_62 (lv_at hl 4 rfl) ?_
          refine lv_iload_n hx hb dX8_calkinWilfIndex_64 rfl (lv_at hl 0 rfl) ?_
          refine lv_icmp_ge (tgt := 103) hx hb dX8_calkinWilfIndex_65 (by decide) (fun k => ?_) (fun k => ?_)
          · have hw := hw.1 k
            refine lv_lload hx hb dX8_calkinWilfIndex_103 (lv_at hl 3 rfl) ?_
            exact RET _ _ _ (f_terms_25, f_runs_25, f_term_25, f_run_25, f_isRight_25) _ _ hw hP hD hS dX8_calkinWilfIndex_105
          · have hw := hw.2 k
            refine lv_iload_n hx hb dX8_calkinWilfIndex_68 rfl (lv_at hl 1 rfl) ?_
            refine lv_iload hx hb dX8_calkinWilfIndex_69 (lv_at hl 2 rfl) ?_
            refine lv_icmp_le (tgt := 91) hx hb dX8_calkinWilfIndex_71 (by decide) (fun k => ?_) (fun k => ?_)
            · have hw := hw.1 k
              refine lv_iload hx hb dX8_calkinWilfIndex_91 (lv_at hl 2 rfl) ?_
              refine lv_iload_n hx hb dX8_calkinWilfIndex_93 rfl (lv_at hl 1 rfl) ?_
              refine lv_isub hx hb dX8_calkinWilfIndex_94 ?_
              refine lv_topi (fun x95 ex95 => ?_)
              have hw := hw x95 ex95
              refine lv_istore (lv' := [(4, .int x95), (2, .int r25), (3, .int v3), (5, .long v5), (7, .int v7)]) hx hb dX8_calkinWilfIndex_95 hl (by decide) rfl (fun ls hl => ?_)
              obtain ⟨x97, ex97⟩ : ∃ y : Int32, y = (v7 + (1 : Int32)) := ⟨_, rfl⟩
              have hw := hw x97 ex97
              refine lv_iinc (v := x97) (lv' := [(7, .int x97), (4, .int x95), (2, .int r25), (3, .int v3), (5, .long v5)]) hx hb dX8_calkinWilfIndex_97 hl (k := 4) rfl (by rw [ex97]; rfl) (by decide) rfl (fun ls hl => ?_)
              refine lv_goto (tgt := 62) hx hb dX8_calkinWilfIndex_100 (by decide) ?_
              exact ih62 v3 x95 v5 x97 _ _ ls hw hP hD hS (lv_sub hl [2, 3, 1, 4, 0] rfl)
            · have hw := hw.2 k
              refine lv_lload hx hb dX8_calkinWilfIndex_74 (lv_at hl 3 rfl) ?_
              refine lv_lconst (v := (1 : Int64)) hx hb dX8_calkinWilfIndex_76 (by decide) ?_
              refine lv_iload hx hb dX8_calkinWilfIndex_77 (lv_at hl 4 rfl) ?_
              refine lv_lshl hx hb dX8_calkinWilfIndex_79 rfl ?_
              refine lv_lor hx hb dX8_calkinWilfIndex_80 ?_
              refine lv_topl (fun x81 ex81 => ?_)
              have hw := hw x81 ex81
              refine lv_lstore (lv' := [(5, .long x81), (2, .int r25), (3, .int v3), (4, .int v4), (7, .int v7)]) hx hb dX8_calkinWilfIndex_81 hl (by decide) rfl (fun ls hl => ?_)
              refine lv_iload_n hx hb dX8_calkinWilfIndex_83 rfl (lv_at hl 2 rfl) ?_
              refine lv_iload hx hb dX8_calkinWilfIndex_84 (lv_at hl 3 rfl) ?_
              refine lv_isub hx hb dX8_calkinWilfIndex_86 ?_
              refine lv_topi (fun x87 ex87 => ?_)
              have hw := hw x87 ex87
              refine lv_istore_n (lv' := [(3, .int x87), (5, .long x81), (2, .int r25), (4, .int v4), (7, .int v7)]) hx hb dX8_calkinWilfIndex_87 rfl hl (by decide) rfl (fun ls hl => ?_)
              refine lv_goto (tgt := 97) hx hb dX8_calkinWilfIndex_88 (by decide) ?_
              obtain ⟨x97, ex97⟩ : ∃ y : Int32, y = (v7 + (1 : Int32)) := ⟨_, rfl⟩
              have hw := hw x97 ex97
              refine lv_iinc (v := x97) (lv' := [(7, .int x97), (3, .int x87), (5, .long x81), (2, .int r25), (4, .int v4)]) hx hb dX8_calkinWilfIndex_97 hl (k := 4) rfl (by rw [ex97]; rfl) (by decide) rfl (fun ls hl => ?_)
              refine lv_goto (tgt := 62) hx hb dX8_calkinWilfIndex_100 (by decide) ?_
              exact ih62 x87 v4 x81 x97 _ _ ls hw hP hD hS (lv_sub hl [3, 1, 4, 2, 0] rfl)
      obtain ⟨hP, hD⟩ := k_sub (ws' := [((rf 0), o8 rf f_terms_25 f_runs_25 f_leftAbove f_leftBelow f_rightAbove f_rightBelow f_listed f_fed f_read f_formed f_hasSnapshot), ((rf 1), ai cI 8 f_above), ((rf 2), ai cI 8 f_below), ((rf 3), ai cI 64 f_term_25), ((rf 4), ai cI 64 f_run_25), ((rf 5), ai cI 64 f_isRight_25)]) hP hD [2, 0, 1, 3, 4, 5] rfl rfl
      exact LOOP_62 n62 x45 x52 x57 (0 : Int32) _ _ ls hw hP hD hS (lv_sub hl [4, 3, 2, 1, 0] rfl)
    · have hw := hw.2 k
      refine lv_ldc2 (v := (-3 : Int64)) hx hb hown (hts (.constantLong RX8 197 (-3)) (by decide +kernel)) dX8_calkinWilfIndex_35 ?_
      obtain ⟨hP, hD⟩ := k_sub (ws' := [((rf 0), o8 rf f_terms_25 f_runs_25 f_leftAbove f_leftBelow f_rightAbove f_rightBelow f_listed f_fed f_read f_formed f_hasSnapshot), ((rf 1), ai cI 8 f_above), ((rf 2), ai cI 8 f_below), ((rf 3), ai cI 64 f_term_25), ((rf 4), ai cI 64 f_run_25), ((rf 5), ai cI 64 f_isRight_25)]) hP hD [2, 0, 1, 3, 4, 5] rfl rfl
      exact RET _ _ _ (f_terms_25, f_runs_25, f_term_25, f_run_25, f_isRight_25) _ _ hw hP hD hS dX8_calkinWilfIndex_38
  · have hw := hw.2 k
    refine lv_ldc2 (v := (-9223372036854775808 : Int64)) hx hb hown (hts (.constantLong RX8 145 (-9223372036854775808)) (by decide +kernel)) dX8_calkinWilfIndex_8 ?_
    exact RET _ _ _ (f_terms, f_runs, f_term, f_run, f_isRight) _ _ hw hP hD hS dX8_calkinWilfIndex_11
abbrev rm8_fromCalkinWilf : Room := { frames := 2, cells := 0, slots := 0, locals := 57 }
theorem nm8_fromCalkinWilf : kNm yX8_fromCalkinWilf 2 := by decide +kernel
set_option maxHeartbeats 4000000 in
set_option maxRecDepth 100000 in
theorem c8_fromCalkinWilf (l : Launch) (D : va_G) (cI cJ cN cR : ClassId) (rf : Nat → Nat) (sz : Nat) (f_terms : Int32) (f_runs : Int32) (f_leftAbove : Int64) (f_leftBelow : Int64) (f_rightAbove : Int64) (f_rightBelow : Int64) (f_listed : Int32) (f_fed : Int32) (f_read : Int32) (f_formed : Int32) (f_hasSnapshot : Int32) (f_above : (Nat → Int32)) (f_below : (Nat → Int32)) (v1 : Int32) (v2 : Int64) (post : Int32 → (Nat → Int32) → (Nat → Int32) → Prop) (hw : w8_fromCalkinWilf f_above f_below v1 v2 post) : Met l yX8_fromCalkinWilf wsX8_fromCalkinWilf rm8_fromCalkinWilf (kP D (kT cI cJ cN cR) sz [.ref (rf 0), .int v1, .long v2] [((rf 0), o8 rf f_terms f_runs f_leftAbove f_leftBelow f_rightAbove f_rightBelow f_listed f_fed f_read f_formed f_hasSnapshot), ((rf 1), ai cI 8 f_above), ((rf 2), ai cI 8 f_below)]) (kQi D [((rf 0), o8 rf f_terms f_runs f_leftAbove f_leftBelow f_rightAbove f_rightBelow f_listed f_fed f_read f_formed f_hasSnapshot), ((rf 1), ai cI 8 f_above), ((rf 2), ai cI 8 f_below)] sz (fun (r : Int32) (u : (Nat → Int32) × (Nat → Int32)) => post r u.1 u.2) (fun (u : (Nat → Int32) × (Nat → Int32)) => [((rf 0), o8 rf f_terms f_runs f_leftAbove f_leftBelow f_rightAbove f_rightBelow f_listed f_fed f_read f_formed f_hasSnapshot), ((rf 1), ai cI 8 u.1), ((rf 2), ai cI 8 u.2)])) 0 0 (va_A [((rf 0), o8 rf f_terms f_runs f_leftAbove f_leftBelow f_rightAbove f_rightBelow f_listed f_fed f_read f_formed f_hasSnapshot), ((rf 1), ai cI 8 f_above), ((rf 2), ai cI 8 f_below)] sz) := by
  refine kMetI (cc := cX8_fromCalkinWilf) (maxL := 10) (by decide +kernel) rfl (Nat.le_of_ble_eq_true rfl) ?_
  intro p e s m args below meth c H0 ls A Q C0 hK hN hP hD hS hA hl RET
  obtain ⟨hx, hb, hml, hown, hts⟩ := id C0
  have hl : lv_has ls 10 [(0, .ref (rf 0)), (1, .int v1), (2, .long v2)] := hl
  unfold w8_fromCalkinWilf at hw
  have hP : va_P D vwCl [((rf 0), o8 rf f_terms f_runs f_leftAbove f_leftBelow f_rightAbove f_rightBelow f_listed f_fed f_read f_formed f_hasSnapshot), ((rf 1), ai cI 8 f_above), ((rf 2), ai cI 8 f_below)] H0 := hP
  refine lv_aload_n hx hb dX8_fromCalkinWilf_0 rfl (lv_at hl 0 rfl) ?_
  refine lv_iload_n hx hb dX8_fromCalkinWilf_1 rfl (lv_at hl 1 rfl) ?_
  refine kcRI (wc := [((rf 0), o8 rf f_terms f_runs f_leftAbove f_leftBelow f_rightAbove f_rightBelow f_listed f_fed f_read f_formed f_hasSnapshot)]) hP [0] rfl (fun hPc => oV (As := [.int v1]) (rest := []) C0 hK hN (c8_isRegister l D cI cJ cN cR rf f_terms f_runs f_leftAbove f_leftBelow f_rightAbove f_rightBelow f_listed f_fed f_read f_formed f_hasSnapshot v1 _ hw) 1 gX8_fromCalkinWilf_X8_isRegister rfl ⟨rfl, rfl⟩ nm8_isRegister ⟨Nat.le_of_ble_eq_true rfl, Nat.le_of_ble_eq_true rfl⟩ (q0 := 0) rfl rfl rfl rfl hl.1 rfl (Nat.le_of_ble_eq_true rfl) dX8_fromCalkinWilf_2 ⟨Nat.le_of_ble_eq_true rfl, Nat.le_of_ble_eq_true rfl⟩ hPc) (fun r2 hw => ?_)
  obtain ⟨nb2, hw⟩ := hw
  refine lv_if_eq (tgt := 14) hx hb dX8_fromCalkinWilf_5 (by decide) (fun k => ?_) (fun k => ?_)
  · have hw := hw.1 k
    refine lv_iconst (v := (-1 : Int32)) hx hb dX8_fromCalkinWilf_14 (by decide) ?_
    exact RET _ _ _ (f_above, f_below) _ _ hw hP hD hS dX8_fromCalkinWilf_15
  · have hw := hw.2 k
    refine lv_lload_n hx hb dX8_fromCalkinWilf_8 rfl (lv_at hl 2 rfl) ?_
    refine lv_lconst (v := (1 : Int64)) hx hb dX8_fromCalkinWilf_9 (by decide) ?_
    refine W.lcmp hx hb dX8_fromCalkinWilf_10 ?_
    refine lv_if_ge (tgt := 16) hx hb dX8_fromCalkinWilf_11 (by decide) (fun k => ?_) (fun k => ?_)
    · have hw := hw.1 ((lg_cmp_ge _ _).mp k)
      refine lv_bipush (v := (62 : Int32)) hx hb dX8_fromCalkinWilf_16 (by decide) ?_
      refine lv_istore (lv' := [(4, .int (62 : Int32)), (0, .ref (rf 0)), (1, .int v1), (2, .long v2)]) hx hb dX8_fromCalkinWilf_18 hl (by decide) rfl (fun ls hl => ?_)
      obtain ⟨n20, hw⟩ := hw
      have LOOP_20 : ∀ (n20 : Nat) (v4 : Int32) (H : Heap) (locs : List Loc) (ls : Array Slot), w8_fromCalkinWilf_L20 f_above f_below v1 v2 post n20 v4 → va_P D vwCl [((rf 0), o8 rf f_terms f_runs f_leftAbove f_leftBelow f_rightAbove f_rightBelow f_listed f_fed f_read f_formed f_hasSnapshot), ((rf 1), ai cI 8 f_above), ((rf 2), ai cI 8 f_below)] H → va_D A [((rf 0), o8 rf f_terms f_runs f_leftAbove f_leftBelow f_rightAbove f_rightBelow f_listed f_fed f_read f_formed f_hasSnapshot), ((rf 1), ai cI 8 f_above), ((rf 2), ai cI 8 f_below)] → va_S A H0 H locs → lv_has ls 10 [(0, .ref (rf 0)), (1, .int v1), (2, .long v2), (4, .int v4)] → W p l e rm8_fromCalkinWilf s m args below meth c H locs 0 0 Q (F0 m 20 ls []) := by
        clear hw hl hP hD hS
        intro n20
        induction n20 with
        | zero =>
          intro v4 H locs ls hw hP hD hS hl
          rw [w8_fromCalkinWilf_L20] at hw
          exact hw.elim
        | succ n20 ih20 =>
          intro v4 H locs ls hw hP hD hS hl
          rw [w8_fromCalkinWilf_L20] at hw
          refine lv_lload_n hx hb dX8_fromCalkinWilf_20 rfl (lv_at hl 2 rfl) ?_
          refine lv_iload hx hb dX8_fromCalkinWilf_21 (lv_at hl 3 rfl) ?_
          refine lv_lshr hx hb dX8_fromCalkinWilf_23 rfl ?_
          refine lv_lconst (v := (1 : Int64)) hx hb dX8_fromCalkinWilf_24 (by decide) ?_
          refine lv_land hx hb dX8_fromCalkinWilf_25 ?_
          refine lv_lconst (v := (0 : Int64)) hx hb dX8_fromCalkinWilf_26 (by decide) ?_
          refine W.lcmp hx hb dX8_fromCalkinWilf_27 ?_
          refine lv_if_ne (tgt := 37) hx hb dX8_fromCalkinWilf_28 (by decide) (fun k => ?_) (fun k => ?_)
          · have hw := hw.1 (fun h => k ((lg_cmp_eq _ _).mpr h))
            refine lv_lconst (v := (1 : Int64)) hx hb dX8_fromCalkinWilf_37 (by decide) ?_
            refine lv_lstore (lv' := [(5, .long (1 : Int64)), (0, .ref (rf 0)), (1, .int v1), (2, .long v2), (4, .int v4)]) hx hb dX8_fromCalkinWilf_38 hl (by decide) rfl (fun ls hl => ?_)
            refine lv_lconst (v := (1 : Int64)) hx hb dX8_fromCalkinWilf_40 (by decide) ?_
            refine lv_lstore (lv' := [(7, .long (1 : Int64)), (5, .long (1 : Int64)), (0, .ref (rf 0)), (1, .int v1), (2, .long v2), (4, .int v4)]) hx hb dX8_fromCalkinWilf_41 hl (by decide) rfl (fun ls hl => ?_)
            refine lv_iload hx hb dX8_fromCalkinWilf_43 (lv_at hl 5 rfl) ?_
            refine lv_iconst (v := (1 : Int32)) hx hb dX8_fromCalkinWilf_45 (by decide) ?_
            refine lv_isub hx hb dX8_fromCalkinWilf_46 ?_
            refine lv_topi (fun x47 ex47 => ?_)
            have hw := hw x47 ex47
            refine lv_istore (lv' := [(9, .int x47), (7, .long (1 : Int64)), (5, .long (1 : Int64)), (0, .ref (rf 0)), (1, .int v1), (2, .long v2), (4, .int v4)]) hx hb dX8_fromCalkinWilf_47 hl (by decide) rfl (fun ls hl => ?_)
            obtain ⟨n49, hw⟩ := hw
            have LOOP_49 : ∀ (n49 : Nat) (v5 : Int64) (v7 : Int64) (v9 : Int32) (H : Heap) (locs : List Loc) (ls : Array Slot), w8_fromCalkinWilf_L49 f_above f_below v1 v2 post n49 v5 v7 v9 → va_P D vwCl [((rf 0), o8 rf f_terms f_runs f_leftAbove f_leftBelow f_rightAbove f_rightBelow f_listed f_fed f_read f_formed f_hasSnapshot), ((rf 1), ai cI 8 f_above), ((rf 2), ai cI 8 f_below)] H → va_D A [((rf 0), o8 rf f_terms f_runs f_leftAbove f_leftBelow f_rightAbove f_rightBelow f_listed f_fed f_read f_formed f_hasSnapshot), ((rf 1), ai cI 8 f_above), ((rf 2), ai cI 8 f_below)] → va_S A H0 H locs → lv_has ls 10 [(0, .ref (rf 0)), (1, .int v1), (2, .long v2), (5, .long v5), (7, .long v7), (9, .int v9)] → W p l e rm8_fromCalkinWilf s m args below meth c H locs 0 0 Q (F0 m 49 ls []) := by
              clear hw hl hP hD hS
              intro n49
              induction n49 with
              | zero =>
                intro v5 v7 v9 H locs ls hw hP hD hS hl
                rw [w8_fromCalkinWilf_L49] at hw
                exact hw.elim
              | succ n49 ih49 =>
                intro v5 v7 v9 H locs ls hw hP hD hS hl
                rw [w8_fromCalkinWilf_L49] at hw
                have JOIN_82 : ∀ (v5 : Int64) (v7 : Int64) (v9 : Int32) (H : Heap) (locs : List Loc) (ls : Array Slot), w8_fromCalkinWilf_J82 f_above f_below v1 v2 v5 v7 v9 post (fun z0 z1 z2 => w8_fromCalkinWilf_L49 f_above f_below v1 v2 post n49 z0 z1 z2) → va_P D vwCl [((rf 0), o8 rf f_terms f_runs f_leftAbove f_leftBelow f_rightAbove f_rightBelow f_listed f_fed f_read f_formed f_hasSnapshot), ((rf 1), ai cI 8 f_above), ((rf 2), ai cI 8 f_below)] H → va_D A [((rf 0), o8 rf f_terms f_runs f_leftAbove f_leftBelow f_rightAbove f_rightBelow f_listed f_fed f_read f_formed f_hasSnapshot), ((rf 1), ai cI 8 f_above), ((rf 2), ai cI 8 f_below)] → va_S A H0 H locs → lv_has ls 10 [(0, .ref (rf 0)), (1, .int v1), (2, .long v2), (5, .long v5), (7, .long v7), (9, .int v9)] → W p l e rm8_fromCalkinWilf s m args below meth c H locs 0 0 Q (F0 m 82 ls []) := by
                  intro v5 v7 v9 H locs ls hw hP hD hS hl
                  unfold w8_fromCalkinWilf_J82 at hw
                  refine lv_lload hx hb dX8_fromCalkinWilf_82 (lv_at hl 3 rfl) ?_
                  refine lv_ldc2 (v := (1000000 : Int64)) hx hb hown (hts (.constantLong RX8 129 (1000000)) (by decide +kernel)) dX8_fromCalkinWilf_84 ?_
                  refine W.lcmp hx hb dX8_fromCalkinWilf_87 ?_
                  refine lv_if_gt (tgt := 100) hx hb dX8_fromCalkinWilf_88 (by decide) (fun k => ?_) (fun k => ?_)
                  · have hw := hw.1 ((lg_cmp_gt _ _).mp k)
                    refine lv_bipush (v := (-3 : Int32)) hx hb dX8_fromCalkinWilf_100 (by decide) ?_
                    exact RET _ _ _ (f_above, f_below) _ _ hw hP hD hS dX8_fromCalkinWilf_102
                  · have hw := hw.2 (fun h => k ((lg_cmp_gt _ _).mpr h))
                    refine lv_lload hx hb dX8_fromCalkinWilf_91 (lv_at hl 4 rfl) ?_
                    refine lv_ldc2 (v := (1000000 : Int64)) hx hb hown (hts (.constantLong RX8 129 (1000000)) (by decide +kernel)) dX8_fromCalkinWilf_93 ?_
                    refine W.lcmp hx hb dX8_fromCalkinWilf_96 ?_
                    refine lv_if_le (tgt := 103) hx hb dX8_fromCalkinWilf_97 (by decide) (fun k => ?_) (fun k => ?_)
                    · have hw := hw.1 ((lg_cmp_le _ _).mp k)
                      obtain ⟨x103, ex103⟩ : ∃ y : Int32, y = (v9 + (-1 : Int32)) := ⟨_, rfl⟩
                      have hw := hw x103 ex103
                      refine lv_iinc (v := x103) (lv' := [(9, .int x103), (0, .ref (rf 0)), (1, .int v1), (2, .long v2), (5, .long v5), (7, .long v7)]) hx hb dX8_fromCalkinWilf_103 hl (k := 5) rfl (by rw [ex103]; rfl) (by decide) rfl (fun ls hl => ?_)
                      refine lv_goto (tgt := 49) hx hb dX8_fromCalkinWilf_106 (by decide) ?_
                      exact ih49 v5 v7 x103 _ _ ls hw hP hD hS (lv_sub hl [1, 2, 3, 4, 5, 0] rfl)
                    · have hw := hw.2 (fun h => k ((lg_cmp_le _ _).mpr h))
                      refine lv_bipush (v := (-3 : Int32)) hx hb dX8_fromCalkinWilf_100 (by decide) ?_
                      exact RET _ _ _ (f_above, f_below) _ _ hw hP hD hS dX8_fromCalkinWilf_102
                refine lv_iload hx hb dX8_fromCalkinWilf_49 (lv_at hl 5 rfl) ?_
                refine lv_if_lt (tgt := 109) hx hb dX8_fromCalkinWilf_51 (by decide) (fun k => ?_) (fun k => ?_)
                · have hw := hw.1 k
                  refine lv_aload_n hx hb dX8_fromCalkinWilf_109 rfl (lv_at hl 0 rfl) ?_
                  refine lv_iload_n hx hb dX8_fromCalkinWilf_110 rfl (lv_at hl 1 rfl) ?_
                  refine lv_lload hx hb dX8_fromCalkinWilf_111 (lv_at hl 3 rfl) ?_
                  refine lv_lload hx hb dX8_fromCalkinWilf_113 (lv_at hl 4 rfl) ?_
                  refine kcI (wc := [((rf 0), o8 rf f_terms f_runs f_leftAbove f_leftBelow f_rightAbove f_rightBelow f_listed f_fed f_read f_formed f_hasSnapshot), ((rf 1), ai cI 8 f_above), ((rf 2), ai cI 8 f_below)]) (wr := []) hP hD hS hA [0, 1, 2] [] rfl rfl ⟨rfl, rfl, by decide⟩ (fun hPc hDc => rV (As := [.int v1, .long v5, .long v7]) (rest := []) C0 hK hN (c8_put l D cI cJ cN cR rf H.size f_terms f_runs f_leftAbove f_leftBelow f_rightAbove f_rightBelow f_listed f_fed f_read f_formed f_hasSnapshot f_above f_below v1 v5 v7 _ hw) 3 gX8_fromCalkinWilf_X8_put rfl ⟨rfl, rfl⟩ nm8_put ⟨Nat.le_of_ble_eq_true rfl, Nat.le_of_ble_eq_true rfl⟩ (q0 := 0) rfl rfl rfl rfl hl.1 rfl (Nat.le_of_ble_eq_true rfl) dX8_fromCalkinWilf_115 ⟨Nat.le_of_ble_eq_true rfl, Nat.le_of_ble_eq_true rfl⟩ hPc hDc) (fun r115 u115 H locs hw hP hD hS => ?_)
                  obtain ⟨f_above_115, f_below_115⟩ := u115
                  dsimp only at hw
                  have hP : va_P D vwCl [((rf 0), o8 rf f_terms f_runs f_leftAbove f_leftBelow f_rightAbove f_rightBelow f_listed f_fed f_read f_formed f_hasSnapshot), ((rf 1), ai cI 8 f_above_115), ((rf 2), ai cI 8 f_below_115)] H := hP
                  have hD : va_D A [((rf 0), o8 rf f_terms f_runs f_leftAbove f_leftBelow f_rightAbove f_rightBelow f_listed f_fed f_read f_formed f_hasSnapshot), ((rf 1), ai cI 8 f_above_115), ((rf 2), ai cI 8 f_below_115)] := hD
                  exact RET _ _ _ (f_above_115, f_below_115) _ _ hw hP hD hS dX8_fromCalkinWilf_118
                · have hw := hw.2 k
                  refine lv_lload_n hx hb dX8_fromCalkinWilf_54 rfl (lv_at hl 2 rfl) ?_
                  refine lv_iload hx hb dX8_fromCalkinWilf_55 (lv_at hl 5 rfl) ?_
                  refine lv_lshr hx hb dX8_fromCalkinWilf_57 rfl ?_
                  refine lv_lconst (v := (1 : Int64)) hx hb dX8_fromCalkinWilf_58 (by decide) ?_
                  refine lv_land hx hb dX8_fromCalkinWilf_59 ?_
                  refine lv_lconst (v := (1 : Int64)) hx hb dX8_fromCalkinWilf_60 (by decide) ?_
                  refine W.lcmp hx hb dX8_fromCalkinWilf_61 ?_
                  refine lv_if_ne (tgt := 75) hx hb dX8_fromCalkinWilf_62 (by decide) (fun k => ?_) (fun k => ?_)
                  · have hw := hw.1 (fun h => k ((lg_cmp_eq _ _).mpr h))
                    refine lv_lload hx hb dX8_fromCalkinWilf_75 (lv_at hl 4 rfl) ?_
                    refine lv_lload hx hb dX8_fromCalkinWilf_77 (lv_at hl 3 rfl) ?_
                    refine lv_ladd hx hb dX8_fromCalkinWilf_79 ?_
                    refine lv_topl (fun x80 ex80 => ?_)
                    have hw := hw x80 ex80
                    refine lv_lstore (lv' := [(7, .long x80), (0, .ref (rf 0)), (1, .int v1), (2, .long v2), (5, .long v5), (9, .int v9)]) hx hb dX8_fromCalkinWilf_80 hl (by decide) rfl (fun ls hl => ?_)
                    exact JOIN_82 v5 x80 v9 _ _ ls hw hP hD hS (lv_sub hl [1, 2, 3, 4, 0, 5] rfl)
                  · have hw := hw.2 ((lg_cmp_eq _ _).mp k)
                    refine lv_lload hx hb dX8_fromCalkinWilf_65 (lv_at hl 3 rfl) ?_
                    refine lv_lload hx hb dX8_fromCalkinWilf_67 (lv_at hl 4 rfl) ?_
                    refine lv_ladd hx hb dX8_fromCalkinWilf_69 ?_
                    refine lv_topl (fun x70 ex70 => ?_)
                    have hw := hw x70 ex70
                    refine lv_lstore (lv' := [(5, .long x70), (0, .ref (rf 0)), (1, .int v1), (2, .long v2), (7, .long v7), (9, .int v9)]) hx hb dX8_fromCalkinWilf_70 hl (by decide) rfl (fun ls hl => ?_)
                    refine lv_goto (tgt := 82) hx hb dX8_fromCalkinWilf_72 (by decide) ?_
                    exact JOIN_82 x70 v7 v9 _ _ ls hw hP hD hS (lv_sub hl [1, 2, 3, 0, 4, 5] rfl)
            exact LOOP_49 n49 (1 : Int64) (1 : Int64) x47 _ _ ls hw hP hD hS (lv_sub hl [3, 4, 5, 2, 1, 0] rfl)
          · have hw := hw.2 ((lg_cmp_eq _ _).mp k)
            obtain ⟨x31, ex31⟩ : ∃ y : Int32, y = (v4 + (-1 : Int32)) := ⟨_, rfl⟩
            have hw := hw x31 ex31
            refine lv_iinc (v := x31) (lv' := [(4, .int x31), (0, .ref (rf 0)), (1, .int v1), (2, .long v2)]) hx hb dX8_fromCalkinWilf_31 hl (k := 3) rfl (by rw [ex31]; rfl) (by decide) rfl (fun ls hl => ?_)
            refine lv_goto (tgt := 20) hx hb dX8_fromCalkinWilf_34 (by decide) ?_
            exact ih20 x31 _ _ ls hw hP hD hS (lv_sub hl [1, 2, 3, 0] rfl)
      exact LOOP_20 n20 (62 : Int32) _ _ ls hw hP hD hS (lv_sub hl [1, 2, 3, 0] rfl)
    · have hw := hw.2 (fun h => k ((lg_cmp_ge _ _).mpr h))
      refine lv_iconst (v := (-1 : Int32)) hx hb dX8_fromCalkinWilf_14 (by decide) ?_
      exact RET _ _ _ (f_above, f_below) _ _ hw hP hD hS dX8_fromCalkinWilf_15
abbrev rm8_calkinWilfNext : Room := { frames := 2, cells := 0, slots := 0, locals := 57 }
theorem nm8_calkinWilfNext : kNm yX8_calkinWilfNext 2 := by decide +kernel
set_option maxHeartbeats 4000000 in
set_option maxRecDepth 100000 in
theorem c8_calkinWilfNext (l : Launch) (D : va_G) (cI cJ cN cR : ClassId) (rf : Nat → Nat) (sz : Nat) (f_terms : Int32) (f_runs : Int32) (f_leftAbove : Int64) (f_leftBelow : Int64) (f_rightAbove : Int64) (f_rightBelow : Int64) (f_listed : Int32) (f_fed : Int32) (f_read : Int32) (f_formed : Int32) (f_hasSnapshot : Int32) (f_above : (Nat → Int32)) (f_below : (Nat → Int32)) (v1 : Int32) (v2 : Int32) (post : Int32 → (Nat → Int32) → (Nat → Int32) → Prop) (hw : w8_calkinWilfNext f_above f_below v1 v2 post) : Met l yX8_calkinWilfNext wsX8_calkinWilfNext rm8_calkinWilfNext (kP D (kT cI cJ cN cR) sz [.ref (rf 0), .int v1, .int v2] [((rf 0), o8 rf f_terms f_runs f_leftAbove f_leftBelow f_rightAbove f_rightBelow f_listed f_fed f_read f_formed f_hasSnapshot), ((rf 1), ai cI 8 f_above), ((rf 2), ai cI 8 f_below)]) (kQi D [((rf 0), o8 rf f_terms f_runs f_leftAbove f_leftBelow f_rightAbove f_rightBelow f_listed f_fed f_read f_formed f_hasSnapshot), ((rf 1), ai cI 8 f_above), ((rf 2), ai cI 8 f_below)] sz (fun (r : Int32) (u : (Nat → Int32) × (Nat → Int32)) => post r u.1 u.2) (fun (u : (Nat → Int32) × (Nat → Int32)) => [((rf 0), o8 rf f_terms f_runs f_leftAbove f_leftBelow f_rightAbove f_rightBelow f_listed f_fed f_read f_formed f_hasSnapshot), ((rf 1), ai cI 8 u.1), ((rf 2), ai cI 8 u.2)])) 0 0 (va_A [((rf 0), o8 rf f_terms f_runs f_leftAbove f_leftBelow f_rightAbove f_rightBelow f_listed f_fed f_read f_formed f_hasSnapshot), ((rf 1), ai cI 8 f_above), ((rf 2), ai cI 8 f_below)] sz) := by
  refine kMetI (cc := cX8_calkinWilfNext) (maxL := 7) (by decide +kernel) rfl (Nat.le_of_ble_eq_true rfl) ?_
  intro p e s m args below meth c H0 ls A Q C0 hK hN hP hD hS hA hl RET
  obtain ⟨hx, hb, hml, hown, hts⟩ := id C0
  have hl : lv_has ls 7 [(0, .ref (rf 0)), (1, .int v1), (2, .int v2)] := hl
  have g7 := hts (.fieldLink RX8 7 "SternBrocotExplorerModel" "above" "[I") (by decide +kernel)
  have g13 := hts (.fieldLink RX8 13 "SternBrocotExplorerModel" "below" "[I") (by decide +kernel)
  have hi9 : ∀ w ∈ wsX80, w ∈ wsX8_calkinWilfNext := fun w h => List.mem_cons_of_mem _ (List.mem_append_right _ h)
  unfold w8_calkinWilfNext at hw
  have hP : va_P D vwCl [((rf 0), o8 rf f_terms f_runs f_leftAbove f_leftBelow f_rightAbove f_rightBelow f_listed f_fed f_read f_formed f_hasSnapshot), ((rf 1), ai cI 8 f_above), ((rf 2), ai cI 8 f_below)] H0 := hP
  refine lv_aload_n hx hb dX8_calkinWilfNext_0 rfl (lv_at hl 0 rfl) ?_
  refine lv_iload_n hx hb dX8_calkinWilfNext_1 rfl (lv_at hl 1 rfl) ?_
  refine kcRI (wc := [((rf 0), o8 rf f_terms f_runs f_leftAbove f_leftBelow f_rightAbove f_rightBelow f_listed f_fed f_read f_formed f_hasSnapshot)]) hP [0] rfl (fun hPc => oV (As := [.int v1]) (rest := []) C0 hK hN (c8_isRegister l D cI cJ cN cR rf f_terms f_runs f_leftAbove f_leftBelow f_rightAbove f_rightBelow f_listed f_fed f_read f_formed f_hasSnapshot v1 _ hw) 1 gX8_calkinWilfNext_X8_isRegister rfl ⟨rfl, rfl⟩ nm8_isRegister ⟨Nat.le_of_ble_eq_true rfl, Nat.le_of_ble_eq_true rfl⟩ (q0 := 0) rfl rfl rfl rfl hl.1 rfl (Nat.le_of_ble_eq_true rfl) dX8_calkinWilfNext_2 ⟨Nat.le_of_ble_eq_true rfl, Nat.le_of_ble_eq_true rfl⟩ hPc) (fun r2 hw => ?_)
  obtain ⟨nb2, hw⟩ := hw
  refine lv_if_eq (tgt := 16) hx hb dX8_calkinWilfNext_5 (by decide) (fun k => ?_) (fun k => ?_)
  · have hw := hw.1 k
    refine lv_iconst (v := (-1 : Int32)) hx hb dX8_calkinWilfNext_16 (by decide) ?_
    exact RET _ _ _ (f_above, f_below) _ _ hw hP hD hS dX8_calkinWilfNext_17
  · have hw := hw.2 k
    refine lv_aload_n hx hb dX8_calkinWilfNext_8 rfl (lv_at hl 0 rfl) ?_
    refine lv_iload_n hx hb dX8_calkinWilfNext_9 rfl (lv_at hl 2 rfl) ?_
    refine kcRI (wc := [((rf 0), o8 rf f_terms f_runs f_leftAbove f_leftBelow f_rightAbove f_rightBelow f_listed f_fed f_read f_formed f_hasSnapshot)]) hP [0] rfl (fun hPc => oV (As := [.int v2]) (rest := []) C0 hK hN (c8_isRegister l D cI cJ cN cR rf f_terms f_runs f_leftAbove f_leftBelow f_rightAbove f_rightBelow f_listed f_fed f_read f_formed f_hasSnapshot v2 _ hw) 1 gX8_calkinWilfNext_X8_isRegister rfl ⟨rfl, rfl⟩ nm8_isRegister ⟨Nat.le_of_ble_eq_true rfl, Nat.le_of_ble_eq_true rfl⟩ (q0 := 0) rfl rfl rfl rfl hl.1 rfl (Nat.le_of_ble_eq_true rfl) dX8_calkinWilfNext_10 ⟨Nat.le_of_ble_eq_true rfl, Nat.le_of_ble_eq_true rfl⟩ hPc) (fun r10 hw => ?_)
    obtain ⟨nb10, hw⟩ := hw
    refine lv_if_ne (tgt := 18) hx hb dX8_calkinWilfNext_13 (by decide) (fun k => ?_) (fun k => ?_)
    · have hw := hw.1 k
      refine lv_aload_n hx hb dX8_calkinWilfNext_18 rfl (lv_at hl 0 rfl) ?_
      refine va_get (D := D) (ci := 8) (v := .ref (rf 1)) (C := RX8) (T := TX8) (N := 35) hx hb hts hi9 hown hK hP 0 rfl rfl 0 (by decide) g7 (fun _ h9 => h9) rfl dX8_calkinWilfNext_19 ?_
      refine lv_iload_n hx hb dX8_calkinWilfNext_22 rfl (lv_at hl 2 rfl) ?_
      obtain ⟨hin, hw⟩ := hw
      refine va_iald hx hb hK hP 1 0 rfl rfl hin dX8_calkinWilfNext_23 ?_
      refine lv_i2l hx hb dX8_calkinWilfNext_24 rfl ?_
      refine lv_topl (fun x25 ex25 => ?_)
      have hw := hw x25 ex25
      refine lv_lstore_n (lv' := [(3, .long x25), (0, .ref (rf 0)), (1, .int v1), (2, .int v2)]) hx hb dX8_calkinWilfNext_25 rfl hl (by decide) rfl (fun ls hl => ?_)
      refine lv_aload_n hx hb dX8_calkinWilfNext_26 rfl (lv_at hl 1 rfl) ?_
      refine va_get (D := D) (ci := 8) (v := .ref (rf 2)) (C := RX8) (T := TX8) (N := 35) hx hb hts hi9 hown hK hP 0 rfl rfl 1 (by decide) g13 (fun _ h9 => h9) rfl dX8_calkinWilfNext_27 ?_
      refine lv_iload_n hx hb dX8_calkinWilfNext_30 rfl (lv_at hl 3 rfl) ?_
      obtain ⟨hin, hw⟩ := hw
      refine va_iald hx hb hK hP 2 0 rfl rfl hin dX8_calkinWilfNext_31 ?_
      refine lv_i2l hx hb dX8_calkinWilfNext_32 rfl ?_
      refine lv_topl (fun x33 ex33 => ?_)
      have hw := hw x33 ex33
      refine lv_lstore (lv' := [(5, .long x33), (3, .long x25), (0, .ref (rf 0)), (1, .int v1), (2, .int v2)]) hx hb dX8_calkinWilfNext_33 hl (by decide) rfl (fun ls hl => ?_)
      refine lv_aload_n hx hb dX8_calkinWilfNext_35 rfl (lv_at hl 2 rfl) ?_
      refine lv_iload_n hx hb dX8_calkinWilfNext_36 rfl (lv_at hl 3 rfl) ?_
      refine lv_lload hx hb dX8_calkinWilfNext_37 (lv_at hl 0 rfl) ?_
      refine lv_ldc2 (v := (2 : Int64)) hx hb hown (hts (.constantLong RX8 182 (2)) (by decide +kernel)) dX8_calkinWilfNext_39 ?_
      refine lv_lload_n hx hb dX8_calkinWilfNext_42 rfl (lv_at hl 1 rfl) ?_
      refine lv_lload hx hb dX8_calkinWilfNext_43 (lv_at hl 0 rfl) ?_
      obtain ⟨hne, hw⟩ := hw
      refine lv_ldiv hx hb dX8_calkinWilfNext_45 hne ?_
      refine lv_lmul hx hb dX8_calkinWilfNext_46 ?_
      refine lv_lload hx hb dX8_calkinWilfNext_47 (lv_at hl 0 rfl) ?_
      refine lv_lmul hx hb dX8_calkinWilfNext_49 ?_
      refine lv_lload_n hx hb dX8_calkinWilfNext_50 rfl (lv_at hl 1 rfl) ?_
      refine lv_lsub hx hb dX8_calkinWilfNext_51 ?_
      refine lv_lload hx hb dX8_calkinWilfNext_52 (lv_at hl 0 rfl) ?_
      refine lv_ladd hx hb dX8_calkinWilfNext_54 ?_
      refine kcI (wc := [((rf 0), o8 rf f_terms f_runs f_leftAbove f_leftBelow f_rightAbove f_rightBelow f_listed f_fed f_read f_formed f_hasSnapshot), ((rf 1), ai cI 8 f_above), ((rf 2), ai cI 8 f_below)]) (wr := []) hP hD hS hA [0, 1, 2] [] rfl rfl ⟨rfl, rfl, by decide⟩ (fun hPc hDc => rV (As := [.int v1, .long x33, .long (((((2 : Int64) * (x25 / x33)) * x33) - x25) + x33)]) (rest := []) C0 hK hN (c8_put l D cI cJ cN cR rf H0.size f_terms f_runs f_leftAbove f_leftBelow f_rightAbove f_rightBelow f_listed f_fed f_read f_formed f_hasSnapshot f_above f_below v1 x33 (((((2 : Int64) * (x25 / x33)) * x33) - x25) + x33) _ hw) 3 gX8_calkinWilfNext_X8_put rfl ⟨rfl, rfl⟩ nm8_put ⟨Nat.le_of_ble_eq_true rfl, Nat.le_of_ble_eq_true rfl⟩ (q0 := 0) rfl rfl rfl rfl hl.1 rfl (Nat.le_of_ble_eq_true rfl) dX8_calkinWilfNext_55 ⟨Nat.le_of_ble_eq_true rfl, Nat.le_of_ble_eq_true rfl⟩ hPc hDc) (fun r55 u55 H locs hw hP hD hS => ?_)
      obtain ⟨f_above_55, f_below_55⟩ := u55
      dsimp only at hw
      have hP : va_P D vwCl [((rf 0), o8 rf f_terms f_runs f_leftAbove f_leftBelow f_rightAbove f_rightBelow f_listed f_fed f_read f_formed f_hasSnapshot), ((rf 1), ai cI 8 f_above_55), ((rf 2), ai cI 8 f_below_55)] H := hP
      have hD : va_D A [((rf 0), o8 rf f_terms f_runs f_leftAbove f_leftBelow f_rightAbove f_rightBelow f_listed f_fed f_read f_formed f_hasSnapshot), ((rf 1), ai cI 8 f_above_55), ((rf 2), ai cI 8 f_below_55)] := hD
      exact RET _ _ _ (f_above_55, f_below_55) _ _ hw hP hD hS dX8_calkinWilfNext_58
    · have hw := hw.2 k
      refine lv_iconst (v := (-1 : Int32)) hx hb dX8_calkinWilfNext_16 (by decide) ?_
      exact RET _ _ _ (f_above, f_below) _ _ hw hP hD hS dX8_calkinWilfNext_17
abbrev rm8_letterOf : Room := { frames := 0, cells := 0, slots := 0, locals := 0 }
theorem nm8_letterOf : kNm yX8_letterOf 3 := by decide +kernel
set_option maxHeartbeats 4000000 in
set_option maxRecDepth 100000 in
theorem c8_letterOf (l : Launch) (D : va_G) (cI cJ cN cR : ClassId) (rf : Nat → Nat) (f_terms : Int32) (f_runs : Int32) (f_leftAbove : Int64) (f_leftBelow : Int64) (f_rightAbove : Int64) (f_rightBelow : Int64) (f_listed : Int32) (f_fed : Int32) (f_read : Int32) (f_formed : Int32) (f_hasSnapshot : Int32) (v1 : Int32) (v2 : Int32) (v3 : Int32) (post : Int32 → Prop) (hw : w8_letterOf v1 v2 v3 post) : Met l yX8_letterOf wsX8_letterOf rm8_letterOf (kR D (kT cI cJ cN cR) [.ref (rf 0), .int v1, .int v2, .int v3] [((rf 0), o8 rf f_terms f_runs f_leftAbove f_leftBelow f_rightAbove f_rightBelow f_listed f_fed f_read f_formed f_hasSnapshot)]) (vp_Si post) 0 0 (fun _ => False) := by
  refine kMetRI (cc := cX8_letterOf) (maxL := 6) (by decide +kernel) rfl (Nat.le_of_ble_eq_true rfl) ?_
  intro p e s m args below meth c H ls Q C0 hK hN hP hl RET
  obtain ⟨hx, hb, hml, hown, hts⟩ := id C0
  have hl : lv_has ls 6 [(0, .ref (rf 0)), (1, .int v1), (2, .int v2), (3, .int v3)] := hl
  unfold w8_letterOf at hw
  refine lv_iload_n hx hb dX8_letterOf_0 rfl (lv_at hl 1 rfl) ?_
  refine lv_iload_n hx hb dX8_letterOf_1 rfl (lv_at hl 2 rfl) ?_
  refine lv_iadd hx hb dX8_letterOf_2 ?_
  refine lv_i2l hx hb dX8_letterOf_3 rfl ?_
  refine lv_topl (fun x4 ex4 => ?_)
  have hw := hw x4 ex4
  refine lv_lstore (lv' := [(4, .long x4), (0, .ref (rf 0)), (1, .int v1), (2, .int v2), (3, .int v3)]) hx hb dX8_letterOf_4 hl (by decide) rfl (fun ls hl => ?_)
  refine lv_iload_n hx hb dX8_letterOf_6 rfl (lv_at hl 4 rfl) ?_
  refine lv_i2l hx hb dX8_letterOf_7 rfl ?_
  refine lv_lconst (v := (1 : Int64)) hx hb dX8_letterOf_8 (by decide) ?_
  refine lv_ladd hx hb dX8_letterOf_9 ?_
  refine lv_iload_n hx hb dX8_letterOf_10 rfl (lv_at hl 2 rfl) ?_
  refine lv_i2l hx hb dX8_letterOf_11 rfl ?_
  refine lv_lmul hx hb dX8_letterOf_12 ?_
  refine lv_lload hx hb dX8_letterOf_13 (lv_at hl 0 rfl) ?_
  obtain ⟨hne, hw⟩ := hw
  refine lv_lrem hx hb dX8_letterOf_15 hne ?_
  refine lv_iload_n hx hb dX8_letterOf_16 rfl (lv_at hl 4 rfl) ?_
  refine lv_i2l hx hb dX8_letterOf_17 rfl ?_
  refine lv_iload_n hx hb dX8_letterOf_18 rfl (lv_at hl 2 rfl) ?_
  refine lv_i2l hx hb dX8_letterOf_19 rfl ?_
  refine lv_lmul hx hb dX8_letterOf_20 ?_
  refine lv_lload hx hb dX8_letterOf_21 (lv_at hl 0 rfl) ?_
  obtain ⟨hne, hw⟩ := hw
  refine lv_lrem hx hb dX8_letterOf_23 hne ?_
  refine W.lcmp hx hb dX8_letterOf_24 ?_
  refine lv_if_le (tgt := 32) hx hb dX8_letterOf_25 (by decide) (fun k => ?_) (fun k => ?_)
  · have hw := hw.1 ((lg_cmp_le _ _).mp k)
    refine lv_iconst (v := (1 : Int32)) hx hb dX8_letterOf_32 (by decide) ?_
    exact RET _ _ _ hw dX8_letterOf_33
  · have hw := hw.2 (fun h => k ((lg_cmp_le _ _).mpr h))
    refine lv_iconst (v := (0 : Int32)) hx hb dX8_letterOf_28 (by decide) ?_
    refine lv_goto (tgt := 33) hx hb dX8_letterOf_29 (by decide) ?_
    exact RET _ _ _ hw dX8_letterOf_33
abbrev rm8_wordLetter : Room := { frames := 2, cells := 0, slots := 0, locals := 46 }
theorem nm8_wordLetter : kNm yX8_wordLetter 2 := by decide +kernel
set_option maxHeartbeats 4000000 in
set_option maxRecDepth 100000 in
theorem c8_wordLetter (l : Launch) (D : va_G) (cI cJ cN cR : ClassId) (rf : Nat → Nat) (f_terms : Int32) (f_runs : Int32) (f_leftAbove : Int64) (f_leftBelow : Int64) (f_rightAbove : Int64) (f_rightBelow : Int64) (f_listed : Int32) (f_fed : Int32) (f_read : Int32) (f_formed : Int32) (f_hasSnapshot : Int32) (f_above : (Nat → Int32)) (f_below : (Nat → Int32)) (v1 : Int32) (v2 : Int32) (post : Int32 → Prop) (hw : w8_wordLetter f_above f_below v1 v2 post) : Met l yX8_wordLetter wsX8_wordLetter rm8_wordLetter (kR D (kT cI cJ cN cR) [.ref (rf 0), .int v1, .int v2] [((rf 0), o8 rf f_terms f_runs f_leftAbove f_leftBelow f_rightAbove f_rightBelow f_listed f_fed f_read f_formed f_hasSnapshot), ((rf 1), ai cI 8 f_above), ((rf 2), ai cI 8 f_below)]) (vp_Si post) 0 0 (fun _ => False) := by
  refine kMetRI (cc := cX8_wordLetter) (maxL := 3) (by decide +kernel) rfl (Nat.le_of_ble_eq_true rfl) ?_
  intro p e s m args below meth c H ls Q C0 hK hN hP hl RET
  obtain ⟨hx, hb, hml, hown, hts⟩ := id C0
  have hl : lv_has ls 3 [(0, .ref (rf 0)), (1, .int v1), (2, .int v2)] := hl
  have g7 := hts (.fieldLink RX8 7 "SternBrocotExplorerModel" "above" "[I") (by decide +kernel)
  have g13 := hts (.fieldLink RX8 13 "SternBrocotExplorerModel" "below" "[I") (by decide +kernel)
  have hi9 : ∀ w ∈ wsX80, w ∈ wsX8_wordLetter := fun w h => List.mem_cons_of_mem _ (List.mem_append_right _ h)
  unfold w8_wordLetter at hw
  refine lv_aload_n hx hb dX8_wordLetter_0 rfl (lv_at hl 0 rfl) ?_
  refine lv_iload_n hx hb dX8_wordLetter_1 rfl (lv_at hl 1 rfl) ?_
  refine kcRI (wc := [((rf 0), o8 rf f_terms f_runs f_leftAbove f_leftBelow f_rightAbove f_rightBelow f_listed f_fed f_read f_formed f_hasSnapshot)]) hP [0] rfl (fun hPc => oV (As := [.int v1]) (rest := []) C0 hK hN (c8_isRegister l D cI cJ cN cR rf f_terms f_runs f_leftAbove f_leftBelow f_rightAbove f_rightBelow f_listed f_fed f_read f_formed f_hasSnapshot v1 _ hw) 1 gX8_wordLetter_X8_isRegister rfl ⟨rfl, rfl⟩ nm8_isRegister ⟨Nat.le_of_ble_eq_true rfl, Nat.le_of_ble_eq_true rfl⟩ (q0 := 0) rfl rfl rfl rfl hl.1 rfl (Nat.le_of_ble_eq_true rfl) dX8_wordLetter_2 ⟨Nat.le_of_ble_eq_true rfl, Nat.le_of_ble_eq_true rfl⟩ hPc) (fun r2 hw => ?_)
  obtain ⟨nb2, hw⟩ := hw
  refine lv_if_eq (tgt := 12) hx hb dX8_wordLetter_5 (by decide) (fun k => ?_) (fun k => ?_)
  · have hw := hw.1 k
    refine lv_iconst (v := (-1 : Int32)) hx hb dX8_wordLetter_12 (by decide) ?_
    exact RET _ _ _ hw dX8_wordLetter_13
  · have hw := hw.2 k
    refine lv_iload_n hx hb dX8_wordLetter_8 rfl (lv_at hl 2 rfl) ?_
    refine lv_if_ge (tgt := 14) hx hb dX8_wordLetter_9 (by decide) (fun k => ?_) (fun k => ?_)
    · have hw := hw.1 k
      refine lv_iload_n hx hb dX8_wordLetter_14 rfl (lv_at hl 2 rfl) ?_
      refine lv_aload_n hx hb dX8_wordLetter_15 rfl (lv_at hl 0 rfl) ?_
      refine va_get (D := D) (ci := 8) (v := .ref (rf 1)) (C := RX8) (T := TX8) (N := 35) hx hb hts hi9 hown hK hP 0 rfl rfl 0 (by decide) g7 (fun _ h9 => h9) rfl dX8_wordLetter_16 ?_
      refine lv_iload_n hx hb dX8_wordLetter_19 rfl (lv_at hl 1 rfl) ?_
      obtain ⟨hin, hw⟩ := hw
      refine va_iald hx hb hK hP 1 0 rfl rfl hin dX8_wordLetter_20 ?_
      refine lv_aload_n hx hb dX8_wordLetter_21 rfl (lv_at hl 0 rfl) ?_
      refine va_get (D := D) (ci := 8) (v := .ref (rf 2)) (C := RX8) (T := TX8) (N := 35) hx hb hts hi9 hown hK hP 0 rfl rfl 1 (by decide) g13 (fun _ h9 => h9) rfl dX8_wordLetter_22 ?_
      refine lv_iload_n hx hb dX8_wordLetter_25 rfl (lv_at hl 1 rfl) ?_
      obtain ⟨hin, hw⟩ := hw
      refine va_iald hx hb hK hP 2 0 rfl rfl hin dX8_wordLetter_26 ?_
      refine lv_iadd hx hb dX8_wordLetter_27 ?_
      refine lv_icmp_ge (tgt := 51) hx hb dX8_wordLetter_28 (by decide) (fun k => ?_) (fun k => ?_)
      · have hw := hw.1 k
        refine lv_bipush (v := (-2 : Int32)) hx hb dX8_wordLetter_51 (by decide) ?_
        exact RET _ _ _ hw dX8_wordLetter_53
      · have hw := hw.2 k
        refine lv_aload_n hx hb dX8_wordLetter_31 rfl (lv_at hl 0 rfl) ?_
        refine lv_aload_n hx hb dX8_wordLetter_32 rfl (lv_at hl 0 rfl) ?_
        refine va_get (D := D) (ci := 8) (v := .ref (rf 1)) (C := RX8) (T := TX8) (N := 35) hx hb hts hi9 hown hK hP 0 rfl rfl 0 (by decide) g7 (fun _ h9 => h9) rfl dX8_wordLetter_33 ?_
        refine lv_iload_n hx hb dX8_wordLetter_36 rfl (lv_at hl 1 rfl) ?_
        obtain ⟨hin, hw⟩ := hw
        refine va_iald hx hb hK hP 1 0 rfl rfl hin dX8_wordLetter_37 ?_
        refine lv_aload_n hx hb dX8_wordLetter_38 rfl (lv_at hl 0 rfl) ?_
        refine va_get (D := D) (ci := 8) (v := .ref (rf 2)) (C := RX8) (T := TX8) (N := 35) hx hb hts hi9 hown hK hP 0 rfl rfl 1 (by decide) g13 (fun _ h9 => h9) rfl dX8_wordLetter_39 ?_
        refine lv_iload_n hx hb dX8_wordLetter_42 rfl (lv_at hl 1 rfl) ?_
        obtain ⟨hin, hw⟩ := hw
        refine va_iald hx hb hK hP 2 0 rfl rfl hin dX8_wordLetter_43 ?_
        refine lv_iload_n hx hb dX8_wordLetter_44 rfl (lv_at hl 2 rfl) ?_
        refine kcRI (wc := [((rf 0), o8 rf f_terms f_runs f_leftAbove f_leftBelow f_rightAbove f_rightBelow f_listed f_fed f_read f_formed f_hasSnapshot)]) hP [0] rfl (fun hPc => oV (As := [.int (f_above v1.toNatClampNeg), .int (f_below v1.toNatClampNeg), .int v2]) (rest := []) C0 hK hN (c8_letterOf l D cI cJ cN cR rf f_terms f_runs f_leftAbove f_leftBelow f_rightAbove f_rightBelow f_listed f_fed f_read f_formed f_hasSnapshot (f_above v1.toNatClampNeg) (f_below v1.toNatClampNeg) v2 _ hw) 3 gX8_wordLetter_X8_letterOf rfl ⟨rfl, rfl⟩ nm8_letterOf ⟨Nat.le_of_ble_eq_true rfl, Nat.le_of_ble_eq_true rfl⟩ (q0 := 0) rfl rfl rfl rfl hl.1 rfl (Nat.le_of_ble_eq_true rfl) dX8_wordLetter_45 ⟨Nat.le_of_ble_eq_true rfl, Nat.le_of_ble_eq_true rfl⟩ hPc) (fun r45 hw => ?_)
        refine lv_goto (tgt := 53) hx hb dX8_wordLetter_48 (by decide) ?_
        exact RET _ _ _ hw dX8_wordLetter_53
    · have hw := hw.2 k
      refine lv_iconst (v := (-1 : Int32)) hx hb dX8_wordLetter_12 (by decide) ?_
      exact RET _ _ _ hw dX8_wordLetter_13
abbrev rm8_factorLength : Room := { frames := 2, cells := 0, slots := 0, locals := 46 }
theorem nm8_factorLength : kNm yX8_factorLength 1 := by decide +kernel
set_option maxHeartbeats 4000000 in
set_option maxRecDepth 100000 in
theorem c8_factorLength (l : Launch) (D : va_G) (cI cJ cN cR : ClassId) (rf : Nat → Nat) (f_terms : Int32) (f_runs : Int32) (f_leftAbove : Int64) (f_leftBelow : Int64) (f_rightAbove : Int64) (f_rightBelow : Int64) (f_listed : Int32) (f_fed : Int32) (f_read : Int32) (f_formed : Int32) (f_hasSnapshot : Int32) (f_above : (Nat → Int32)) (f_below : (Nat → Int32)) (v1 : Int32) (post : Int32 → Prop) (hw : w8_factorLength f_above f_below v1 post) : Met l yX8_factorLength wsX8_factorLength rm8_factorLength (kR D (kT cI cJ cN cR) [.ref (rf 0), .int v1] [((rf 0), o8 rf f_terms f_runs f_leftAbove f_leftBelow f_rightAbove f_rightBelow f_listed f_fed f_read f_formed f_hasSnapshot), ((rf 1), ai cI 8 f_above), ((rf 2), ai cI 8 f_below)]) (vp_Si post) 0 0 (fun _ => False) := by
  refine kMetRI (cc := cX8_factorLength) (maxL := 18) (by decide +kernel) rfl (Nat.le_of_ble_eq_true rfl) ?_
  intro p e s m args below meth c H ls Q C0 hK hN hP hl RET
  obtain ⟨hx, hb, hml, hown, hts⟩ := id C0
  have hl : lv_has ls 18 [(0, .ref (rf 0)), (1, .int v1)] := hl
  have g7 := hts (.fieldLink RX8 7 "SternBrocotExplorerModel" "above" "[I") (by decide +kernel)
  have g13 := hts (.fieldLink RX8 13 "SternBrocotExplorerModel" "below" "[I") (by decide +kernel)
  have hi9 : ∀ w ∈ wsX80, w ∈ wsX8_factorLength := fun w h => List.mem_cons_of_mem _ (List.mem_append_right _ h)
  unfold w8_factorLength at hw
  refine lv_aload_n hx hb dX8_factorLength_0 rfl (lv_at hl 0 rfl) ?_
  refine lv_iload_n hx hb dX8_factorLength_1 rfl (lv_at hl 1 rfl) ?_
  refine kcRI (wc := [((rf 0), o8 rf f_terms f_runs f_leftAbove f_leftBelow f_rightAbove f_rightBelow f_listed f_fed f_read f_formed f_hasSnapshot)]) hP [0] rfl (fun hPc => oV (As := [.int v1]) (rest := []) C0 hK hN (c8_isRegister l D cI cJ cN cR rf f_terms f_runs f_leftAbove f_leftBelow f_rightAbove f_rightBelow f_listed f_fed f_read f_formed f_hasSnapshot v1 _ hw) 1 gX8_factorLength_X8_isRegister rfl ⟨rfl, rfl⟩ nm8_isRegister ⟨Nat.le_of_ble_eq_true rfl, Nat.le_of_ble_eq_true rfl⟩ (q0 := 0) rfl rfl rfl rfl hl.1 rfl (Nat.le_of_ble_eq_true rfl) dX8_factorLength_2 ⟨Nat.le_of_ble_eq_true rfl, Nat.le_of_ble_eq_true rfl⟩ hPc) (fun r2 hw => ?_)
  obtain ⟨nb2, hw⟩ := hw
  refine lv_if_ne (tgt := 10) hx hb dX8_factorLength_5 (by decide) (fun k => ?_) (fun k => ?_)
  · have hw := hw.1 k
    refine lv_aload_n hx hb dX8_factorLength_10 rfl (lv_at hl 0 rfl) ?_
    refine va_get (D := D) (ci := 8) (v := .ref (rf 1)) (C := RX8) (T := TX8) (N := 35) hx hb hts hi9 hown hK hP 0 rfl rfl 0 (by decide) g7 (fun _ h9 => h9) rfl dX8_factorLength_11 ?_
    refine lv_iload_n hx hb dX8_factorLength_14 rfl (lv_at hl 1 rfl) ?_
    obtain ⟨hin, hw⟩ := hw
    refine va_iald hx hb hK hP 1 0 rfl rfl hin dX8_factorLength_15 ?_
    refine lv_aload_n hx hb dX8_factorLength_16 rfl (lv_at hl 0 rfl) ?_
    refine va_get (D := D) (ci := 8) (v := .ref (rf 2)) (C := RX8) (T := TX8) (N := 35) hx hb hts hi9 hown hK hP 0 rfl rfl 1 (by decide) g13 (fun _ h9 => h9) rfl dX8_factorLength_17 ?_
    refine lv_iload_n hx hb dX8_factorLength_20 rfl (lv_at hl 1 rfl) ?_
    obtain ⟨hin, hw⟩ := hw
    refine va_iald hx hb hK hP 2 0 rfl rfl hin dX8_factorLength_21 ?_
    refine lv_iadd hx hb dX8_factorLength_22 ?_
    refine lv_i2l hx hb dX8_factorLength_23 rfl ?_
    refine lv_topl (fun x24 ex24 => ?_)
    have hw := hw x24 ex24
    refine lv_lstore_n (lv' := [(2, .long x24), (0, .ref (rf 0)), (1, .int v1)]) hx hb dX8_factorLength_24 rfl hl (by decide) rfl (fun ls hl => ?_)
    refine lv_aload_n hx hb dX8_factorLength_25 rfl (lv_at hl 1 rfl) ?_
    refine va_get (D := D) (ci := 8) (v := .ref (rf 1)) (C := RX8) (T := TX8) (N := 35) hx hb hts hi9 hown hK hP 0 rfl rfl 0 (by decide) g7 (fun _ h9 => h9) rfl dX8_factorLength_26 ?_
    refine lv_iload_n hx hb dX8_factorLength_29 rfl (lv_at hl 2 rfl) ?_
    obtain ⟨hin, hw⟩ := hw
    refine va_iald hx hb hK hP 1 0 rfl rfl hin dX8_factorLength_30 ?_
    refine lv_i2l hx hb dX8_factorLength_31 rfl ?_
    refine lv_topl (fun x32 ex32 => ?_)
    have hw := hw x32 ex32
    refine lv_lstore (lv' := [(4, .long x32), (2, .long x24), (0, .ref (rf 0)), (1, .int v1)]) hx hb dX8_factorLength_32 hl (by decide) rfl (fun ls hl => ?_)
    refine lv_lload_n hx hb dX8_factorLength_34 rfl (lv_at hl 1 rfl) ?_
    refine lv_lstore (lv' := [(6, .long x24), (4, .long x32), (2, .long x24), (0, .ref (rf 0)), (1, .int v1)]) hx hb dX8_factorLength_35 hl (by decide) rfl (fun ls hl => ?_)
    refine lv_lconst (v := (1 : Int64)) hx hb dX8_factorLength_37 (by decide) ?_
    refine lv_lstore (lv' := [(8, .long (1 : Int64)), (6, .long x24), (4, .long x32), (2, .long x24), (0, .ref (rf 0)), (1, .int v1)]) hx hb dX8_factorLength_38 hl (by decide) rfl (fun ls hl => ?_)
    refine lv_lconst (v := (0 : Int64)) hx hb dX8_factorLength_40 (by decide) ?_
    refine lv_lstore (lv' := [(10, .long (0 : Int64)), (8, .long (1 : Int64)), (6, .long x24), (4, .long x32), (2, .long x24), (0, .ref (rf 0)), (1, .int v1)]) hx hb dX8_factorLength_41 hl (by decide) rfl (fun ls hl => ?_)
    obtain ⟨n43, hw⟩ := hw
    have LOOP_43 : ∀ (n43 : Nat) (v4 : Int64) (v6 : Int64) (v8 : Int64) (v10 : Int64) (ls : Array Slot), w8_factorLength_L43 x24 post n43 v4 v6 v8 v10 → lv_has ls 18 [(2, .long x24), (4, .long v4), (6, .long v6), (8, .long v8), (10, .long v10)] → W p l e rm8_factorLength s m args below meth c H [] 0 0 Q (F0 m 43 ls []) := by
      clear hw hl
      intro n43
      induction n43 with
      | zero =>
        intro v4 v6 v8 v10 ls hw hl
        rw [w8_factorLength_L43] at hw
        exact hw.elim
      | succ n43 ih43 =>
        intro v4 v6 v8 v10 ls hw hl
        rw [w8_factorLength_L43] at hw
        refine lv_lload hx hb dX8_factorLength_43 (lv_at hl 2 rfl) ?_
        refine lv_lconst (v := (0 : Int64)) hx hb dX8_factorLength_45 (by decide) ?_
        refine W.lcmp hx hb dX8_factorLength_46 ?_
        refine lv_if_eq (tgt := 96) hx hb dX8_factorLength_47 (by decide) (fun k => ?_) (fun k => ?_)
        · have hw := hw.1 ((lg_cmp_eq _ _).mp k)
          refine lv_lload hx hb dX8_factorLength_96 (lv_at hl 3 rfl) ?_
          refine lv_lload_n hx hb dX8_factorLength_98 rfl (lv_at hl 0 rfl) ?_
          obtain ⟨hne, hw⟩ := hw
          refine lv_lrem hx hb dX8_factorLength_99 hne ?_
          refine lv_lload_n hx hb dX8_factorLength_100 rfl (lv_at hl 0 rfl) ?_
          refine lv_ladd hx hb dX8_factorLength_101 ?_
          refine lv_lload_n hx hb dX8_factorLength_102 rfl (lv_at hl 0 rfl) ?_
          obtain ⟨hne, hw⟩ := hw
          refine lv_lrem hx hb dX8_factorLength_103 hne ?_
          refine lv_l2i hx hb dX8_factorLength_104 rfl ?_
          exact RET _ _ _ hw dX8_factorLength_105
        · have hw := hw.2 (fun h => k ((lg_cmp_eq _ _).mpr h))
          refine lv_lload hx hb dX8_factorLength_50 (lv_at hl 1 rfl) ?_
          refine lv_lload hx hb dX8_factorLength_52 (lv_at hl 2 rfl) ?_
          obtain ⟨hne, hw⟩ := hw
          refine lv_ldiv hx hb dX8_factorLength_54 hne ?_
          refine lv_topl (fun x55 ex55 => ?_)
          have hw := hw x55 ex55
          refine lv_lstore (lv' := [(12, .long x55), (2, .long x24), (4, .long v4), (6, .long v6), (8, .long v8), (10, .long v10)]) hx hb dX8_factorLength_55 hl (by decide) rfl (fun ls hl => ?_)
          refine lv_lload hx hb dX8_factorLength_57 (lv_at hl 2 rfl) ?_
          refine lv_lload hx hb dX8_factorLength_59 (lv_at hl 0 rfl) ?_
          refine lv_lload hx hb dX8_factorLength_61 (lv_at hl 3 rfl) ?_
          refine lv_lmul hx hb dX8_factorLength_63 ?_
          refine lv_lsub hx hb dX8_factorLength_64 ?_
          refine lv_topl (fun x65 ex65 => ?_)
          have hw := hw x65 ex65
          refine lv_lstore (lv' := [(14, .long x65), (12, .long x55), (2, .long x24), (4, .long v4), (6, .long v6), (8, .long v8), (10, .long v10)]) hx hb dX8_factorLength_65 hl (by decide) rfl (fun ls hl => ?_)
          refine lv_lload hx hb dX8_factorLength_67 (lv_at hl 4 rfl) ?_
          refine lv_lstore (lv' := [(4, .long v6), (14, .long x65), (12, .long x55), (2, .long x24), (6, .long v6), (8, .long v8), (10, .long v10)]) hx hb dX8_factorLength_69 hl (by decide) rfl (fun ls hl => ?_)
          refine lv_lload hx hb dX8_factorLength_71 (lv_at hl 1 rfl) ?_
          refine lv_lstore (lv' := [(6, .long x65), (4, .long v6), (14, .long x65), (12, .long x55), (2, .long x24), (8, .long v8), (10, .long v10)]) hx hb dX8_factorLength_73 hl (by decide) rfl (fun ls hl => ?_)
          refine lv_lload hx hb dX8_factorLength_75 (lv_at hl 5 rfl) ?_
          refine lv_lload hx hb dX8_factorLength_77 (lv_at hl 3 rfl) ?_
          refine lv_lload hx hb dX8_factorLength_79 (lv_at hl 6 rfl) ?_
          refine lv_lmul hx hb dX8_factorLength_81 ?_
          refine lv_lsub hx hb dX8_factorLength_82 ?_
          refine lv_topl (fun x83 ex83 => ?_)
          have hw := hw x83 ex83
          refine lv_lstore (lv' := [(16, .long x83), (6, .long x65), (4, .long v6), (14, .long x65), (12, .long x55), (2, .long x24), (8, .long v8), (10, .long v10)]) hx hb dX8_factorLength_83 hl (by decide) rfl (fun ls hl => ?_)
          refine lv_lload hx hb dX8_factorLength_85 (lv_at hl 7 rfl) ?_
          refine lv_lstore (lv' := [(8, .long v10), (16, .long x83), (6, .long x65), (4, .long v6), (14, .long x65), (12, .long x55), (2, .long x24), (10, .long v10)]) hx hb dX8_factorLength_87 hl (by decide) rfl (fun ls hl => ?_)
          refine lv_lload hx hb dX8_factorLength_89 (lv_at hl 1 rfl) ?_
          refine lv_lstore (lv' := [(10, .long x83), (8, .long v10), (16, .long x83), (6, .long x65), (4, .long v6), (14, .long x65), (12, .long x55), (2, .long x24)]) hx hb dX8_factorLength_91 hl (by decide) rfl (fun ls hl => ?_)
          refine lv_goto (tgt := 43) hx hb dX8_factorLength_93 (by decide) ?_
          exact ih43 v6 x65 v10 x83 ls hw (lv_sub hl [7, 4, 3, 1, 0] rfl)
    exact LOOP_43 n43 x32 x24 (1 : Int64) (0 : Int64) ls hw (lv_sub hl [4, 3, 2, 1, 0] rfl)
  · have hw := hw.2 k
    refine lv_iconst (v := (-1 : Int32)) hx hb dX8_factorLength_8 (by decide) ?_
    exact RET _ _ _ hw dX8_factorLength_9
abbrev rm8_isArray : Room := { frames := 1, cells := 0, slots := 0, locals := 25 }
theorem nm8_isArray : kNm yX8_isArray 1 := by decide +kernel
set_option maxHeartbeats 4000000 in
set_option maxRecDepth 100000 in
theorem c8_isArray (l : Launch) (D : va_G) (cI cJ cN cR : ClassId) (rf : Nat → Nat) (f_terms : Int32) (f_runs : Int32) (f_leftAbove : Int64) (f_leftBelow : Int64) (f_rightAbove : Int64) (f_rightBelow : Int64) (f_listed : Int32) (f_fed : Int32) (f_read : Int32) (f_formed : Int32) (f_hasSnapshot : Int32) (v1 : Int32) (post : Int32 → Prop) (hw : w8_isArray v1 post) : Met l yX8_isArray wsX8_isArray rm8_isArray (kR D (kT cI cJ cN cR) [.ref (rf 0), .int v1] [((rf 0), o8 rf f_terms f_runs f_leftAbove f_leftBelow f_rightAbove f_rightBelow f_listed f_fed f_read f_formed f_hasSnapshot)]) (vp_Si (fun (r : Int32) => narrow .boolean (.int r) = .int r ∧ post r)) 0 0 (fun _ => False) := by
  refine kMetRZ (cc := cX8_isArray) (maxL := 2) (by decide +kernel) rfl (Nat.le_of_ble_eq_true rfl) ?_
  intro p e s m args below meth c H ls Q C0 hK hN hP hl RET
  obtain ⟨hx, hb, hml, hown, hts⟩ := id C0
  have hl : lv_has ls 2 [(0, .ref (rf 0)), (1, .int v1)] := hl
  unfold w8_isArray at hw
  refine lv_iload_n hx hb dX8_isArray_0 rfl (lv_at hl 1 rfl) ?_
  refine lv_i2l hx hb dX8_isArray_1 rfl ?_
  refine lv_lconst (v := (0 : Int64)) hx hb dX8_isArray_2 (by decide) ?_
  refine lv_ldc2 (v := (2 : Int64)) hx hb hown (hts (.constantLong RX8 182 (2)) (by decide +kernel)) dX8_isArray_3 ?_
  refine kcRI (wc := []) hP [] rfl (fun hPc => oS (As := [.long v1.toInt64, .long (0 : Int64), .long (2 : Int64)]) (rest := []) C0 hK hN (c8_within l D cI cJ cN cR   v1.toInt64 (0 : Int64) (2 : Int64) _ hw) 3 gX8_isArray_X8_within rfl ⟨rfl, rfl⟩ nm8_within ⟨Nat.le_of_ble_eq_true rfl, Nat.le_of_ble_eq_true rfl⟩ rfl hl.1 rfl (Nat.le_of_ble_eq_true rfl) dX8_isArray_6 ⟨Nat.le_of_ble_eq_true rfl, Nat.le_of_ble_eq_true rfl⟩ hPc) (fun r6 hw => ?_)
  obtain ⟨nb6, hw⟩ := hw
  exact RET _ _ _ nb6 hw dX8_isArray_9
abbrev rm8_isWord : Room := { frames := 1, cells := 0, slots := 0, locals := 25 }
theorem nm8_isWord : kNm yX8_isWord 5 := by decide +kernel
set_option maxHeartbeats 4000000 in
set_option maxRecDepth 100000 in
theorem c8_isWord (l : Launch) (D : va_G) (cI cJ cN cR : ClassId) (rf : Nat → Nat) (f_terms : Int32) (f_runs : Int32) (f_leftAbove : Int64) (f_leftBelow : Int64) (f_rightAbove : Int64) (f_rightBelow : Int64) (f_listed : Int32) (f_fed : Int32) (f_read : Int32) (f_formed : Int32) (f_hasSnapshot : Int32) (f_cell : (Nat → Int32)) (v1 : Int32) (v2 : Int32) (v3 : Int32) (v4 : Int32) (v5 : Int32) (post : Int32 → Prop) (hw : w8_isWord f_cell v1 v2 v3 v4 v5 post) : Met l yX8_isWord wsX8_isWord rm8_isWord (kR D (kT cI cJ cN cR) [.ref (rf 0), .int v1, .int v2, .int v3, .int v4, .int v5] [((rf 0), o8 rf f_terms f_runs f_leftAbove f_leftBelow f_rightAbove f_rightBelow f_listed f_fed f_read f_formed f_hasSnapshot), ((rf 29), ai cI 180 f_cell)]) (vp_Si (fun (r : Int32) => narrow .boolean (.int r) = .int r ∧ post r)) 0 0 (fun _ => False) := by
  refine kMetRZ (cc := cX8_isWord) (maxL := 7) (by decide +kernel) rfl (Nat.le_of_ble_eq_true rfl) ?_
  intro p e s m args below meth c H ls Q C0 hK hN hP hl RET
  obtain ⟨hx, hb, hml, hown, hts⟩ := id C0
  have hl : lv_has ls 7 [(0, .ref (rf 0)), (1, .int v1), (2, .int v2), (3, .int v3), (4, .int v4), (5, .int v5)] := hl
  have g97 := hts (.fieldLink RX8 97 "SternBrocotExplorerModel" "cell" "[I") (by decide +kernel)
  have hi9 : ∀ w ∈ wsX80, w ∈ wsX8_isWord := fun w h => List.mem_cons_of_mem _ (List.mem_append_right _ h)
  unfold w8_isWord at hw
  refine lv_iconst (v := (0 : Int32)) hx hb dX8_isWord_0 (by decide) ?_
  refine lv_istore (lv' := [(6, .int (0 : Int32)), (0, .ref (rf 0)), (1, .int v1), (2, .int v2), (3, .int v3), (4, .int v4), (5, .int v5)]) hx hb dX8_isWord_1 hl (by decide) rfl (fun ls hl => ?_)
  obtain ⟨n3, hw⟩ := hw
  have LOOP_3 : ∀ (n3 : Nat) (v6 : Int32) (ls : Array Slot), w8_isWord_L3 f_cell v1 v2 v3 v4 v5 post n3 v6 → lv_has ls 7 [(0, .ref (rf 0)), (1, .int v1), (2, .int v2), (3, .int v3), (4, .int v4), (5, .int v5), (6, .int v6)] → W p l e rm8_isWord s m args below meth c H [] 0 0 Q (F0 m 3 ls []) := by
    clear hw hl
    intro n3
    induction n3 with
    | zero =>
      intro v6 ls hw hl
      rw [w8_isWord_L3] at hw
      exact hw.elim
    | succ n3 ih3 =>
      intro v6 ls hw hl
      rw [w8_isWord_L3] at hw
      have JOIN_38 : ∀ (v6 : Int32) (s0 : Int32) (s1 : Int32) (ls : Array Slot), w8_isWord_J38 f_cell v1 v2 v3 v4 v5 v6 s0 s1 post (fun z0 => w8_isWord_L3 f_cell v1 v2 v3 v4 v5 post n3 z0) → lv_has ls 7 [(0, .ref (rf 0)), (1, .int v1), (2, .int v2), (3, .int v3), (4, .int v4), (5, .int v5), (6, .int v6)] → W p l e rm8_isWord s m args below meth c H [] 0 0 Q (F0 m 38 ls [.int s0, .int s1, .ref (rf 29)]) := by
        intro v6 s0 s1 ls hw hl
        unfold w8_isWord_J38 at hw
        refine lv_iadd hx hb dX8_isWord_38 ?_
        obtain ⟨hin, hw⟩ := hw
        refine va_iald hx hb hK hP 1 0 rfl rfl hin dX8_isWord_39 ?_
        refine lv_aload_n hx hb dX8_isWord_40 rfl (lv_at hl 0 rfl) ?_
        refine lv_iload_n hx hb dX8_isWord_41 rfl (lv_at hl 2 rfl) ?_
        refine lv_iload_n hx hb dX8_isWord_42 rfl (lv_at hl 3 rfl) ?_
        refine lv_iload_n hx hb dX8_isWord_43 rfl (lv_at hl 2 rfl) ?_
        refine lv_isub hx hb dX8_isWord_44 ?_
        refine lv_iload hx hb dX8_isWord_45 (lv_at hl 6 rfl) ?_
        refine kcRI (wc := [((rf 0), o8 rf f_terms f_runs f_leftAbove f_leftBelow f_rightAbove f_rightBelow f_listed f_fed f_read f_formed f_hasSnapshot)]) hP [0] rfl (fun hPc => oV (As := [.int v2, .int (v3 - v2), .int v6]) (rest := [.int (f_cell (s1 + s0).toNatClampNeg)]) C0 hK hN (c8_letterOf l D cI cJ cN cR rf f_terms f_runs f_leftAbove f_leftBelow f_rightAbove f_rightBelow f_listed f_fed f_read f_formed f_hasSnapshot v2 (v3 - v2) v6 _ hw) 3 gX8_isWord_X8_letterOf rfl ⟨rfl, rfl⟩ nm8_letterOf ⟨Nat.le_of_ble_eq_true rfl, Nat.le_of_ble_eq_true rfl⟩ (q0 := 0) rfl rfl rfl rfl hl.1 rfl (Nat.le_of_ble_eq_true rfl) dX8_isWord_47 ⟨Nat.le_of_ble_eq_true rfl, Nat.le_of_ble_eq_true rfl⟩ hPc) (fun r47 hw => ?_)
        refine lv_icmp_eq (tgt := 55) hx hb dX8_isWord_50 (by decide) (fun k => ?_) (fun k => ?_)
        · have hw := hw.1 k
          obtain ⟨x55, ex55⟩ : ∃ y : Int32, y = (v6 + (1 : Int32)) := ⟨_, rfl⟩
          have hw := hw x55 ex55
          refine lv_iinc (v := x55) (lv' := [(6, .int x55), (0, .ref (rf 0)), (1, .int v1), (2, .int v2), (3, .int v3), (4, .int v4), (5, .int v5)]) hx hb dX8_isWord_55 hl (k := 6) rfl (by rw [ex55]; rfl) (by decide) rfl (fun ls hl => ?_)
          refine lv_goto (tgt := 3) hx hb dX8_isWord_58 (by decide) ?_
          exact ih3 x55 ls hw (lv_sub hl [1, 2, 3, 4, 5, 6, 0] rfl)
        · have hw := hw.2 k
          refine lv_iconst (v := (0 : Int32)) hx hb dX8_isWord_53 (by decide) ?_
          exact RET _ _ _ rfl hw dX8_isWord_54
      refine lv_iload hx hb dX8_isWord_3 (lv_at hl 6 rfl) ?_
      refine lv_iload_n hx hb dX8_isWord_5 rfl (lv_at hl 3 rfl) ?_
      refine lv_icmp_ge (tgt := 61) hx hb dX8_isWord_6 (by decide) (fun k => ?_) (fun k => ?_)
      · have hw := hw.1 k
        refine lv_iconst (v := (1 : Int32)) hx hb dX8_isWord_61 (by decide) ?_
        exact RET _ _ _ rfl hw dX8_isWord_62
      · have hw := hw.2 k
        refine lv_aload_n hx hb dX8_isWord_9 rfl (lv_at hl 0 rfl) ?_
        refine va_get (D := D) (ci := 8) (v := .ref (rf 29)) (C := RX8) (T := TX8) (N := 35) hx hb hts hi9 hown hK hP 0 rfl rfl 28 (by decide) g97 (fun _ h9 => h9) rfl dX8_isWord_10 ?_
        refine lv_bipush (v := (60 : Int32)) hx hb dX8_isWord_13 (by decide) ?_
        refine lv_iload_n hx hb dX8_isWord_15 rfl (lv_at hl 1 rfl) ?_
        refine lv_imul hx hb dX8_isWord_16 ?_
        refine lv_iload hx hb dX8_isWord_17 (lv_at hl 5 rfl) ?_
        refine lv_if_eq (tgt := 31) hx hb dX8_isWord_19 (by decide) (fun k => ?_) (fun k => ?_)
        · have hw := hw.1 k
          refine lv_iload hx hb dX8_isWord_31 (lv_at hl 6 rfl) ?_
          refine lv_iload hx hb dX8_isWord_33 (lv_at hl 4 rfl) ?_
          refine lv_iadd hx hb dX8_isWord_35 ?_
          refine lv_iload_n hx hb dX8_isWord_36 rfl (lv_at hl 3 rfl) ?_
          obtain ⟨hne, hw⟩ := hw
          refine lv_irem hx hb dX8_isWord_37 hne ?_
          exact JOIN_38 v6 ((v6 + v4) - ((v6 + v4) / v3) * v3) ((60 : Int32) * v1) ls hw (lv_sub hl [0, 1, 2, 3, 4, 5, 6] rfl)
        · have hw := hw.2 k
          refine lv_iload_n hx hb dX8_isWord_22 rfl (lv_at hl 3 rfl) ?_
          refine lv_iconst (v := (1 : Int32)) hx hb dX8_isWord_23 (by decide) ?_
          refine lv_isub hx hb dX8_isWord_24 ?_
          refine lv_iload hx hb dX8_isWord_25 (lv_at hl 6 rfl) ?_
          refine lv_isub hx hb dX8_isWord_27 ?_
          refine lv_goto (tgt := 38) hx hb dX8_isWord_28 (by decide) ?_
          exact JOIN_38 v6 ((v3 - (1 : Int32)) - v6) ((60 : Int32) * v1) ls hw (lv_sub hl [0, 1, 2, 3, 4, 5, 6] rfl)
  exact LOOP_3 n3 (0 : Int32) ls hw (lv_sub hl [1, 2, 3, 4, 5, 6, 0] rfl)
abbrev rm8_recognizeWord : Room := { frames := 2, cells := 0, slots := 0, locals := 57 }
theorem nm8_recognizeWord : kNm yX8_recognizeWord 2 := by decide +kernel
set_option maxHeartbeats 4000000 in
set_option maxRecDepth 100000 in
theorem c8_recognizeWord (l : Launch) (D : va_G) (cI cJ cN cR : ClassId) (rf : Nat → Nat) (sz : Nat) (f_terms : Int32) (f_runs : Int32) (f_leftAbove : Int64) (f_leftBelow : Int64) (f_rightAbove : Int64) (f_rightBelow : Int64) (f_listed : Int32) (f_fed : Int32) (f_read : Int32) (f_formed : Int32) (f_hasSnapshot : Int32) (f_above : (Nat → Int32)) (f_below : (Nat → Int32)) (f_length : (Nat → Int32)) (f_cell : (Nat → Int32)) (v1 : Int32) (v2 : Int32) (post : Int32 → (Nat → Int32) → (Nat → Int32) → Prop) (hw : w8_recognizeWord f_above f_below f_length f_cell v1 v2 post) : Met l yX8_recognizeWord wsX8_recognizeWord rm8_recognizeWord (kP D (kT cI cJ cN cR) sz [.ref (rf 0), .int v1, .int v2] [((rf 0), o8 rf f_terms f_runs f_leftAbove f_leftBelow f_rightAbove f_rightBelow f_listed f_fed f_read f_formed f_hasSnapshot), ((rf 1), ai cI 8 f_above), ((rf 2), ai cI 8 f_below), ((rf 28), ai cI 3 f_length), ((rf 29), ai cI 180 f_cell)]) (kQi D [((rf 0), o8 rf f_terms f_runs f_leftAbove f_leftBelow f_rightAbove f_rightBelow f_listed f_fed f_read f_formed f_hasSnapshot), ((rf 1), ai cI 8 f_above), ((rf 2), ai cI 8 f_below), ((rf 28), ai cI 3 f_length), ((rf 29), ai cI 180 f_cell)] sz (fun (r : Int32) (u : (Nat → Int32) × (Nat → Int32)) => post r u.1 u.2) (fun (u : (Nat → Int32) × (Nat → Int32)) => [((rf 0), o8 rf f_terms f_runs f_leftAbove f_leftBelow f_rightAbove f_rightBelow f_listed f_fed f_read f_formed f_hasSnapshot), ((rf 1), ai cI 8 u.1), ((rf 2), ai cI 8 u.2), ((rf 28), ai cI 3 f_length), ((rf 29), ai cI 180 f_cell)])) 0 0 (va_A [((rf 0), o8 rf f_terms f_runs f_leftAbove f_leftBelow f_rightAbove f_rightBelow f_listed f_fed f_read f_formed f_hasSnapshot), ((rf 1), ai cI 8 f_above), ((rf 2), ai cI 8 f_below), ((rf 28), ai cI 3 f_length), ((rf 29), ai cI 180 f_cell)] sz) := by
  refine kMetI (cc := cX8_recognizeWord) (maxL := 7) (by decide +kernel) rfl (Nat.le_of_ble_eq_true rfl) ?_
  intro p e s m args below meth c H0 ls A Q C0 hK hN hP hD hS hA hl RET
  obtain ⟨hx, hb, hml, hown, hts⟩ := id C0
  have hl : lv_has ls 7 [(0, .ref (rf 0)), (1, .int v1), (2, .int v2)] := hl
  have g94 := hts (.fieldLink RX8 94 "SternBrocotExplorerModel" "length" "[I") (by decide +kernel)
  have g97 := hts (.fieldLink RX8 97 "SternBrocotExplorerModel" "cell" "[I") (by decide +kernel)
  have hi9 : ∀ w ∈ wsX80, w ∈ wsX8_recognizeWord := fun w h => List.mem_cons_of_mem _ (List.mem_append_right _ h)
  unfold w8_recognizeWord at hw
  have hP : va_P D vwCl [((rf 0), o8 rf f_terms f_runs f_leftAbove f_leftBelow f_rightAbove f_rightBelow f_listed f_fed f_read f_formed f_hasSnapshot), ((rf 1), ai cI 8 f_above), ((rf 2), ai cI 8 f_below), ((rf 28), ai cI 3 f_length), ((rf 29), ai cI 180 f_cell)] H0 := hP
  have JOIN_188 : ∀ (v3 : Int32) (v4 : Int32) (v5 : Int32) (f_above : (Nat → Int32)) (f_below : (Nat → Int32)) (H : Heap) (locs : List Loc) (ls : Array Slot), w8_recognizeWord_J188 f_above f_below v1 v3 v4 v5 post → va_P D vwCl [((rf 0), o8 rf f_terms f_runs f_leftAbove f_leftBelow f_rightAbove f_rightBelow f_listed f_fed f_read f_formed f_hasSnapshot), ((rf 1), ai cI 8 f_above), ((rf 2), ai cI 8 f_below), ((rf 28), ai cI 3 f_length), ((rf 29), ai cI 180 f_cell)] H → va_D A [((rf 0), o8 rf f_terms f_runs f_leftAbove f_leftBelow f_rightAbove f_rightBelow f_listed f_fed f_read f_formed f_hasSnapshot), ((rf 1), ai cI 8 f_above), ((rf 2), ai cI 8 f_below), ((rf 28), ai cI 3 f_length), ((rf 29), ai cI 180 f_cell)] → va_S A H0 H locs → lv_has ls 7 [(0, .ref (rf 0)), (1, .int v1), (3, .int v3), (4, .int v4), (5, .int v5)] → W p l e rm8_recognizeWord s m args below meth c H locs 0 0 Q (F0 m 188 ls []) := by
    intro v3 v4 v5 f_above f_below H locs ls hw hP hD hS hl
    unfold w8_recognizeWord_J188 at hw
    refine lv_iload hx hb dX8_recognizeWord_188 (lv_at hl 4 rfl) ?_
    refine lv_if_eq (tgt := 210) hx hb dX8_recognizeWord_190 (by decide) (fun k => ?_) (fun k => ?_)
    · have hw := hw.1 k
      refine lv_iload hx hb dX8_recognizeWord_210 (lv_at hl 4 rfl) ?_
      refine lv_goto (tgt := 216) hx hb dX8_recognizeWord_212 (by decide) ?_
      exact RET _ _ _ (f_above, f_below) _ _ hw hP hD hS dX8_recognizeWord_216
    · have hw := hw.2 k
      refine lv_aload_n hx hb dX8_recognizeWord_193 rfl (lv_at hl 0 rfl) ?_
      refine lv_iload_n hx hb dX8_recognizeWord_194 rfl (lv_at hl 1 rfl) ?_
      refine lv_iload hx hb dX8_recognizeWord_195 (lv_at hl 3 rfl) ?_
      refine lv_i2l hx hb dX8_recognizeWord_197 rfl ?_
      refine lv_iload_n hx hb dX8_recognizeWord_198 rfl (lv_at hl 2 rfl) ?_
      refine lv_iload hx hb dX8_recognizeWord_199 (lv_at hl 3 rfl) ?_
      refine lv_isub hx hb dX8_recognizeWord_201 ?_
      refine lv_i2l hx hb dX8_recognizeWord_202 rfl ?_
      refine kcI (wc := [((rf 0), o8 rf f_terms f_runs f_leftAbove f_leftBelow f_rightAbove f_rightBelow f_listed f_fed f_read f_formed f_hasSnapshot), ((rf 1), ai cI 8 f_above), ((rf 2), ai cI 8 f_below)]) (wr := [((rf 28), ai cI 3 f_length), ((rf 29), ai cI 180 f_cell)]) hP hD hS hA [0, 1, 2] [3, 4] rfl rfl ⟨rfl, rfl, by decide⟩ (fun hPc hDc => rV (As := [.int v1, .long v4.toInt64, .long ((v3 - v4).toInt64)]) (rest := []) C0 hK hN (c8_put l D cI cJ cN cR rf H.size f_terms f_runs f_leftAbove f_leftBelow f_rightAbove f_rightBelow f_listed f_fed f_read f_formed f_hasSnapshot f_above f_below v1 v4.toInt64 ((v3 - v4).toInt64) _ hw) 3 gX8_recognizeWord_X8_put rfl ⟨rfl, rfl⟩ nm8_put ⟨Nat.le_of_ble_eq_true rfl, Nat.le_of_ble_eq_true rfl⟩ (q0 := 0) rfl rfl rfl rfl hl.1 rfl (Nat.le_of_ble_eq_true rfl) dX8_recognizeWord_203 ⟨Nat.le_of_ble_eq_true rfl, Nat.le_of_ble_eq_true rfl⟩ hPc hDc) (fun r203 u203 H locs hw hP hD hS => ?_)
      obtain ⟨f_above_203, f_below_203⟩ := u203
      dsimp only at hw
      have hP : va_P D vwCl [((rf 28), ai cI 3 f_length), ((rf 29), ai cI 180 f_cell), ((rf 0), o8 rf f_terms f_runs f_leftAbove f_leftBelow f_rightAbove f_rightBelow f_listed f_fed f_read f_formed f_hasSnapshot), ((rf 1), ai cI 8 f_above_203), ((rf 2), ai cI 8 f_below_203)] H := hP
      have hD : va_D A [((rf 28), ai cI 3 f_length), ((rf 29), ai cI 180 f_cell), ((rf 0), o8 rf f_terms f_runs f_leftAbove f_leftBelow f_rightAbove f_rightBelow f_listed f_fed f_read f_formed f_hasSnapshot), ((rf 1), ai cI 8 f_above_203), ((rf 2), ai cI 8 f_below_203)] := hD
      refine lv_iconst (v := (1 : Int32)) hx hb dX8_recognizeWord_206 (by decide) ?_
      refine lv_icmp_ne (tgt := 215) hx hb dX8_recognizeWord_207 (by decide) (fun k => ?_) (fun k => ?_)
      · have hw := hw.1 k
        refine lv_iconst (v := (0 : Int32)) hx hb dX8_recognizeWord_215 (by decide) ?_
        obtain ⟨hP, hD⟩ := k_sub (ws' := [((rf 0), o8 rf f_terms f_runs f_leftAbove f_leftBelow f_rightAbove f_rightBelow f_listed f_fed f_read f_formed f_hasSnapshot), ((rf 1), ai cI 8 f_above_203), ((rf 2), ai cI 8 f_below_203), ((rf 28), ai cI 3 f_length), ((rf 29), ai cI 180 f_cell)]) hP hD [2, 3, 4, 0, 1] rfl rfl
        exact RET _ _ _ (f_above_203, f_below_203) _ _ hw hP hD hS dX8_recognizeWord_216
      · have hw := hw.2 k
        refine lv_iload hx hb dX8_recognizeWord_210 (lv_at hl 4 rfl) ?_
        refine lv_goto (tgt := 216) hx hb dX8_recognizeWord_212 (by decide) ?_
        obtain ⟨hP, hD⟩ := k_sub (ws' := [((rf 0), o8 rf f_terms f_runs f_leftAbove f_leftBelow f_rightAbove f_rightBelow f_listed f_fed f_read f_formed f_hasSnapshot), ((rf 1), ai cI 8 f_above_203), ((rf 2), ai cI 8 f_below_203), ((rf 28), ai cI 3 f_length), ((rf 29), ai cI 180 f_cell)]) hP hD [2, 3, 4, 0, 1] rfl rfl
        exact RET _ _ _ (f_above_203, f_below_203) _ _ hw hP hD hS dX8_recognizeWord_216
  have JOIN_172 : ∀ (v3 : Int32) (v4 : Int32) (v5 : Int32) (f_above : (Nat → Int32)) (f_below : (Nat → Int32)) (H : Heap) (locs : List Loc) (ls : Array Slot), w8_recognizeWord_J172 f_above f_below f_cell v1 v2 v3 v4 v5 post → va_P D vwCl [((rf 0), o8 rf f_terms f_runs f_leftAbove f_leftBelow f_rightAbove f_rightBelow f_listed f_fed f_read f_formed f_hasSnapshot), ((rf 1), ai cI 8 f_above), ((rf 2), ai cI 8 f_below), ((rf 28), ai cI 3 f_length), ((rf 29), ai cI 180 f_cell)] H → va_D A [((rf 0), o8 rf f_terms f_runs f_leftAbove f_leftBelow f_rightAbove f_rightBelow f_listed f_fed f_read f_formed f_hasSnapshot), ((rf 1), ai cI 8 f_above), ((rf 2), ai cI 8 f_below), ((rf 28), ai cI 3 f_length), ((rf 29), ai cI 180 f_cell)] → va_S A H0 H locs → lv_has ls 7 [(0, .ref (rf 0)), (1, .int v1), (2, .int v2), (3, .int v3), (4, .int v4), (5, .int v5)] → W p l e rm8_recognizeWord s m args below meth c H locs 0 0 Q (F0 m 172 ls []) := by
    intro v3 v4 v5 f_above f_below H locs ls hw hP hD hS hl
    unfold w8_recognizeWord_J172 at hw
    refine lv_aload_n hx hb dX8_recognizeWord_172 rfl (lv_at hl 0 rfl) ?_
    refine lv_iload_n hx hb dX8_recognizeWord_173 rfl (lv_at hl 2 rfl) ?_
    refine lv_iload hx hb dX8_recognizeWord_174 (lv_at hl 4 rfl) ?_
    refine lv_iload_n hx hb dX8_recognizeWord_176 rfl (lv_at hl 3 rfl) ?_
    refine lv_iconst (v := (0 : Int32)) hx hb dX8_recognizeWord_177 (by decide) ?_
    refine lv_iconst (v := (0 : Int32)) hx hb dX8_recognizeWord_178 (by decide) ?_
    refine kcRI (wc := [((rf 0), o8 rf f_terms f_runs f_leftAbove f_leftBelow f_rightAbove f_rightBelow f_listed f_fed f_read f_formed f_hasSnapshot), ((rf 29), ai cI 180 f_cell)]) hP [0, 4] rfl (fun hPc => oV (As := [.int v2, .int v4, .int v3, .int (0 : Int32), .int (0 : Int32)]) (rest := []) C0 hK hN (c8_isWord l D cI cJ cN cR rf f_terms f_runs f_leftAbove f_leftBelow f_rightAbove f_rightBelow f_listed f_fed f_read f_formed f_hasSnapshot f_cell v2 v4 v3 (0 : Int32) (0 : Int32) _ hw) 5 gX8_recognizeWord_X8_isWord rfl ⟨rfl, rfl⟩ nm8_isWord ⟨Nat.le_of_ble_eq_true rfl, Nat.le_of_ble_eq_true rfl⟩ (q0 := 0) rfl rfl rfl rfl hl.1 rfl (Nat.le_of_ble_eq_true rfl) dX8_recognizeWord_179 ⟨Nat.le_of_ble_eq_true rfl, Nat.le_of_ble_eq_true rfl⟩ hPc) (fun r179 hw => ?_)
    obtain ⟨nb179, hw⟩ := hw
    refine lv_if_eq (tgt := 188) hx hb dX8_recognizeWord_182 (by decide) (fun k => ?_) (fun k => ?_)
    · have hw := hw.1 k
      exact JOIN_188 v3 v4 v5 f_above f_below _ _ ls hw hP hD hS (lv_sub hl [0, 1, 3, 4, 5] rfl)
    · have hw := hw.2 k
      refine lv_iconst (v := (1 : Int32)) hx hb dX8_recognizeWord_185 (by decide) ?_
      refine lv_istore (lv' := [(5, .int (1 : Int32)), (0, .ref (rf 0)), (1, .int v1), (2, .int v2), (3, .int v3), (4, .int v4)]) hx hb dX8_recognizeWord_186 hl (by decide) rfl (fun ls hl => ?_)
      exact JOIN_188 v3 v4 (1 : Int32) f_above f_below _ _ ls hw hP hD hS (lv_sub hl [1, 2, 4, 5, 0] rfl)
  refine lv_aload_n hx hb dX8_recognizeWord_0 rfl (lv_at hl 0 rfl) ?_
  refine lv_iload_n hx hb dX8_recognizeWord_1 rfl (lv_at hl 1 rfl) ?_
  refine kcRI (wc := [((rf 0), o8 rf f_terms f_runs f_leftAbove f_leftBelow f_rightAbove f_rightBelow f_listed f_fed f_read f_formed f_hasSnapshot)]) hP [0] rfl (fun hPc => oV (As := [.int v1]) (rest := []) C0 hK hN (c8_isRegister l D cI cJ cN cR rf f_terms f_runs f_leftAbove f_leftBelow f_rightAbove f_rightBelow f_listed f_fed f_read f_formed f_hasSnapshot v1 _ hw) 1 gX8_recognizeWord_X8_isRegister rfl ⟨rfl, rfl⟩ nm8_isRegister ⟨Nat.le_of_ble_eq_true rfl, Nat.le_of_ble_eq_true rfl⟩ (q0 := 0) rfl rfl rfl rfl hl.1 rfl (Nat.le_of_ble_eq_true rfl) dX8_recognizeWord_2 ⟨Nat.le_of_ble_eq_true rfl, Nat.le_of_ble_eq_true rfl⟩ hPc) (fun r2 hw => ?_)
  obtain ⟨nb2, hw⟩ := hw
  refine lv_if_eq (tgt := 16) hx hb dX8_recognizeWord_5 (by decide) (fun k => ?_) (fun k => ?_)
  · have hw := hw.1 k
    refine lv_iconst (v := (-1 : Int32)) hx hb dX8_recognizeWord_16 (by decide) ?_
    exact RET _ _ _ (f_above, f_below) _ _ hw hP hD hS dX8_recognizeWord_17
  · have hw := hw.2 k
    refine lv_aload_n hx hb dX8_recognizeWord_8 rfl (lv_at hl 0 rfl) ?_
    refine lv_iload_n hx hb dX8_recognizeWord_9 rfl (lv_at hl 2 rfl) ?_
    refine kcRI (wc := [((rf 0), o8 rf f_terms f_runs f_leftAbove f_leftBelow f_rightAbove f_rightBelow f_listed f_fed f_read f_formed f_hasSnapshot)]) hP [0] rfl (fun hPc => oV (As := [.int v2]) (rest := []) C0 hK hN (c8_isArray l D cI cJ cN cR rf f_terms f_runs f_leftAbove f_leftBelow f_rightAbove f_rightBelow f_listed f_fed f_read f_formed f_hasSnapshot v2 _ hw) 1 gX8_recognizeWord_X8_isArray rfl ⟨rfl, rfl⟩ nm8_isArray ⟨Nat.le_of_ble_eq_true rfl, Nat.le_of_ble_eq_true rfl⟩ (q0 := 0) rfl rfl rfl rfl hl.1 rfl (Nat.le_of_ble_eq_true rfl) dX8_recognizeWord_10 ⟨Nat.le_of_ble_eq_true rfl, Nat.le_of_ble_eq_true rfl⟩ hPc) (fun r10 hw => ?_)
    obtain ⟨nb10, hw⟩ := hw
    refine lv_if_ne (tgt := 18) hx hb dX8_recognizeWord_13 (by decide) (fun k => ?_) (fun k => ?_)
    · have hw := hw.1 k
      refine lv_aload_n hx hb dX8_recognizeWord_18 rfl (lv_at hl 0 rfl) ?_
      refine va_get (D := D) (ci := 8) (v := .ref (rf 28)) (C := RX8) (T := TX8) (N := 35) hx hb hts hi9 hown hK hP 0 rfl rfl 27 (by decide) g94 (fun _ h9 => h9) rfl dX8_recognizeWord_19 ?_
      refine lv_iload_n hx hb dX8_recognizeWord_22 rfl (lv_at hl 2 rfl) ?_
      obtain ⟨hin, hw⟩ := hw
      refine va_iald hx hb hK hP 3 0 rfl rfl hin dX8_recognizeWord_23 ?_
      refine lv_topi (fun x24 ex24 => ?_)
      have hw := hw x24 ex24
      refine lv_istore_n (lv' := [(3, .int x24), (0, .ref (rf 0)), (1, .int v1), (2, .int v2)]) hx hb dX8_recognizeWord_24 rfl hl (by decide) rfl (fun ls hl => ?_)
      refine lv_iload_n hx hb dX8_recognizeWord_25 rfl (lv_at hl 0 rfl) ?_
      refine lv_if_ge (tgt := 32) hx hb dX8_recognizeWord_26 (by decide) (fun k => ?_) (fun k => ?_)
      · have hw := hw.1 k
        refine lv_iconst (v := (0 : Int32)) hx hb dX8_recognizeWord_32 (by decide) ?_
        refine lv_istore (lv' := [(4, .int (0 : Int32)), (3, .int x24), (0, .ref (rf 0)), (1, .int v1), (2, .int v2)]) hx hb dX8_recognizeWord_33 hl (by decide) rfl (fun ls hl => ?_)
        refine lv_iconst (v := (0 : Int32)) hx hb dX8_recognizeWord_35 (by decide) ?_
        refine lv_istore (lv' := [(5, .int (0 : Int32)), (4, .int (0 : Int32)), (3, .int x24), (0, .ref (rf 0)), (1, .int v1), (2, .int v2)]) hx hb dX8_recognizeWord_36 hl (by decide) rfl (fun ls hl => ?_)
        obtain ⟨n38, hw⟩ := hw
        have LOOP_38 : ∀ (n38 : Nat) (v4 : Int32) (v5 : Int32) (H : Heap) (locs : List Loc) (ls : Array Slot), w8_recognizeWord_L38 f_above f_below f_cell v1 v2 x24 post n38 v4 v5 → va_P D vwCl [((rf 0), o8 rf f_terms f_runs f_leftAbove f_leftBelow f_rightAbove f_rightBelow f_listed f_fed f_read f_formed f_hasSnapshot), ((rf 1), ai cI 8 f_above), ((rf 2), ai cI 8 f_below), ((rf 28), ai cI 3 f_length), ((rf 29), ai cI 180 f_cell)] H → va_D A [((rf 0), o8 rf f_terms f_runs f_leftAbove f_leftBelow f_rightAbove f_rightBelow f_listed f_fed f_read f_formed f_hasSnapshot), ((rf 1), ai cI 8 f_above), ((rf 2), ai cI 8 f_below), ((rf 28), ai cI 3 f_length), ((rf 29), ai cI 180 f_cell)] → va_S A H0 H locs → lv_has ls 7 [(0, .ref (rf 0)), (1, .int v1), (2, .int v2), (3, .int x24), (4, .int v4), (5, .int v5)] → W p l e rm8_recognizeWord s m args below meth c H locs 0 0 Q (F0 m 38 ls []) := by
          clear hw hl hP hD hS
          intro n38
          induction n38 with
          | zero =>
            intro v4 v5 H locs ls hw hP hD hS hl
            rw [w8_recognizeWord_L38] at hw
            exact hw.elim
          | succ n38 ih38 =>
            intro v4 v5 H locs ls hw hP hD hS hl
            rw [w8_recognizeWord_L38] at hw
            refine lv_iload hx hb dX8_recognizeWord_38 (lv_at hl 5 rfl) ?_
            refine lv_iload_n hx hb dX8_recognizeWord_40 rfl (lv_at hl 3 rfl) ?_
            refine lv_icmp_ge (tgt := 90) hx hb dX8_recognizeWord_41 (by decide) (fun k => ?_) (fun k => ?_)
            · have hw := hw.1 k
              refine lv_iload hx hb dX8_recognizeWord_90 (lv_at hl 4 rfl) ?_
              refine lv_if_eq (tgt := 118) hx hb dX8_recognizeWord_92 (by decide) (fun k => ?_) (fun k => ?_)
              · have hw := hw.1 k
                refine lv_iconst (v := (0 : Int32)) hx hb dX8_recognizeWord_118 (by decide) ?_
                exact RET _ _ _ (f_above, f_below) _ _ hw hP hD hS dX8_recognizeWord_119
              · have hw := hw.2 k
                refine lv_iload hx hb dX8_recognizeWord_95 (lv_at hl 4 rfl) ?_
                refine lv_iload_n hx hb dX8_recognizeWord_97 rfl (lv_at hl 3 rfl) ?_
                refine lv_icmp_eq (tgt := 118) hx hb dX8_recognizeWord_98 (by decide) (fun k => ?_) (fun k => ?_)
                · have hw := hw.1 k
                  refine lv_iconst (v := (0 : Int32)) hx hb dX8_recognizeWord_118 (by decide) ?_
                  exact RET _ _ _ (f_above, f_below) _ _ hw hP hD hS dX8_recognizeWord_119
                · have hw := hw.2 k
                  refine lv_aload_n hx hb dX8_recognizeWord_101 rfl (lv_at hl 0 rfl) ?_
                  refine lv_iload hx hb dX8_recognizeWord_102 (lv_at hl 4 rfl) ?_
                  refine lv_i2l hx hb dX8_recognizeWord_104 rfl ?_
                  refine lv_iload_n hx hb dX8_recognizeWord_105 rfl (lv_at hl 3 rfl) ?_
                  refine lv_iload hx hb dX8_recognizeWord_106 (lv_at hl 4 rfl) ?_
                  refine lv_isub hx hb dX8_recognizeWord_108 ?_
                  refine lv_i2l hx hb dX8_recognizeWord_109 rfl ?_
                  refine kcRL (wc := [((rf 0), o8 rf f_terms f_runs f_leftAbove f_leftBelow f_rightAbove f_rightBelow f_listed f_fed f_read f_formed f_hasSnapshot)]) hP [0] rfl (fun hPc => oV (As := [.long v4.toInt64, .long ((x24 - v4).toInt64)]) (rest := []) C0 hK hN (c8_divisor l D cI cJ cN cR rf f_terms f_runs f_leftAbove f_leftBelow f_rightAbove f_rightBelow f_listed f_fed f_read f_formed f_hasSnapshot v4.toInt64 ((x24 - v4).toInt64) _ hw) 2 gX8_recognizeWord_X8_divisor rfl ⟨rfl, rfl⟩ nm8_divisor ⟨Nat.le_of_ble_eq_true rfl, Nat.le_of_ble_eq_true rfl⟩ (q0 := 0) rfl rfl rfl rfl hl.1 rfl (Nat.le_of_ble_eq_true rfl) dX8_recognizeWord_110 ⟨Nat.le_of_ble_eq_true rfl, Nat.le_of_ble_eq_true rfl⟩ hPc) (fun r110 hw => ?_)
                  refine lv_lconst (v := (1 : Int64)) hx hb dX8_recognizeWord_113 (by decide) ?_
                  refine W.lcmp hx hb dX8_recognizeWord_114 ?_
                  refine lv_if_eq (tgt := 120) hx hb dX8_recognizeWord_115 (by decide) (fun k => ?_) (fun k => ?_)
                  · have hw := hw.1 ((lg_cmp_eq _ _).mp k)
                    refine lv_iconst (v := (0 : Int32)) hx hb dX8_recognizeWord_120 (by decide) ?_
                    refine lv_istore (lv' := [(5, .int (0 : Int32)), (0, .ref (rf 0)), (1, .int v1), (2, .int v2), (3, .int x24), (4, .int v4)]) hx hb dX8_recognizeWord_121 hl (by decide) rfl (fun ls hl => ?_)
                    refine lv_iload_n hx hb dX8_recognizeWord_123 rfl (lv_at hl 4 rfl) ?_
                    refine lv_iconst (v := (1 : Int32)) hx hb dX8_recognizeWord_124 (by decide) ?_
                    refine lv_isub hx hb dX8_recognizeWord_125 ?_
                    refine lv_topi (fun x126 ex126 => ?_)
                    have hw := hw x126 ex126
                    refine lv_istore (lv' := [(6, .int x126), (5, .int (0 : Int32)), (0, .ref (rf 0)), (1, .int v1), (2, .int v2), (3, .int x24), (4, .int v4)]) hx hb dX8_recognizeWord_126 hl (by decide) rfl (fun ls hl => ?_)
                    obtain ⟨n128, hw⟩ := hw
                    have LOOP_128 : ∀ (n128 : Nat) (v5 : Int32) (v6 : Int32) (H : Heap) (locs : List Loc) (ls : Array Slot), w8_recognizeWord_L128 f_above f_below f_cell v1 v2 x24 v4 post n128 v5 v6 → va_P D vwCl [((rf 0), o8 rf f_terms f_runs f_leftAbove f_leftBelow f_rightAbove f_rightBelow f_listed f_fed f_read f_formed f_hasSnapshot), ((rf 1), ai cI 8 f_above), ((rf 2), ai cI 8 f_below), ((rf 28), ai cI 3 f_length), ((rf 29), ai cI 180 f_cell)] H → va_D A [((rf 0), o8 rf f_terms f_runs f_leftAbove f_leftBelow f_rightAbove f_rightBelow f_listed f_fed f_read f_formed f_hasSnapshot), ((rf 1), ai cI 8 f_above), ((rf 2), ai cI 8 f_below), ((rf 28), ai cI 3 f_length), ((rf 29), ai cI 180 f_cell)] → va_S A H0 H locs → lv_has ls 7 [(0, .ref (rf 0)), (1, .int v1), (2, .int v2), (3, .int x24), (4, .int v4), (5, .int v5), (6, .int v6)] → W p l e rm8_recognizeWord s m args below meth c H locs 0 0 Q (F0 m 128 ls []) := by
                      clear hw hl hP hD hS
                      intro n128
                      induction n128 with
                      | zero =>
                        intro v5 v6 H locs ls hw hP hD hS hl
                        rw [w8_recognizeWord_L128] at hw
                        exact hw.elim
                      | succ n128 ih128 =>
                        intro v5 v6 H locs ls hw hP hD hS hl
                        rw [w8_recognizeWord_L128] at hw
                        refine lv_iload hx hb dX8_recognizeWord_128 (lv_at hl 6 rfl) ?_
                        refine lv_if_lt (tgt := 156) hx hb dX8_recognizeWord_130 (by decide) (fun k => ?_) (fun k => ?_)
                        · have hw := hw.1 k
                          refine lv_aload_n hx hb dX8_recognizeWord_156 rfl (lv_at hl 0 rfl) ?_
                          refine lv_iload_n hx hb dX8_recognizeWord_157 rfl (lv_at hl 2 rfl) ?_
                          refine lv_iload hx hb dX8_recognizeWord_158 (lv_at hl 4 rfl) ?_
                          refine lv_iload_n hx hb dX8_recognizeWord_160 rfl (lv_at hl 3 rfl) ?_
                          refine lv_iconst (v := (0 : Int32)) hx hb dX8_recognizeWord_161 (by decide) ?_
                          refine lv_iconst (v := (1 : Int32)) hx hb dX8_recognizeWord_162 (by decide) ?_
                          refine kcRI (wc := [((rf 0), o8 rf f_terms f_runs f_leftAbove f_leftBelow f_rightAbove f_rightBelow f_listed f_fed f_read f_formed f_hasSnapshot), ((rf 29), ai cI 180 f_cell)]) hP [0, 4] rfl (fun hPc => oV (As := [.int v2, .int v4, .int x24, .int (0 : Int32), .int (1 : Int32)]) (rest := []) C0 hK hN (c8_isWord l D cI cJ cN cR rf f_terms f_runs f_leftAbove f_leftBelow f_rightAbove f_rightBelow f_listed f_fed f_read f_formed f_hasSnapshot f_cell v2 v4 x24 (0 : Int32) (1 : Int32) _ hw) 5 gX8_recognizeWord_X8_isWord rfl ⟨rfl, rfl⟩ nm8_isWord ⟨Nat.le_of_ble_eq_true rfl, Nat.le_of_ble_eq_true rfl⟩ (q0 := 0) rfl rfl rfl rfl hl.1 rfl (Nat.le_of_ble_eq_true rfl) dX8_recognizeWord_163 ⟨Nat.le_of_ble_eq_true rfl, Nat.le_of_ble_eq_true rfl⟩ hPc) (fun r163 hw => ?_)
                          obtain ⟨nb163, hw⟩ := hw
                          refine lv_if_eq (tgt := 172) hx hb dX8_recognizeWord_166 (by decide) (fun k => ?_) (fun k => ?_)
                          · have hw := hw.1 k
                            exact JOIN_172 x24 v4 v5 f_above f_below _ _ ls hw hP hD hS (lv_sub hl [0, 1, 2, 3, 4, 5] rfl)
                          · have hw := hw.2 k
                            refine lv_iconst (v := (2 : Int32)) hx hb dX8_recognizeWord_169 (by decide) ?_
                            refine lv_istore (lv' := [(5, .int (2 : Int32)), (0, .ref (rf 0)), (1, .int v1), (2, .int v2), (3, .int x24), (4, .int v4), (6, .int v6)]) hx hb dX8_recognizeWord_170 hl (by decide) rfl (fun ls hl => ?_)
                            exact JOIN_172 x24 v4 (2 : Int32) f_above f_below _ _ ls hw hP hD hS (lv_sub hl [1, 2, 3, 4, 5, 0] rfl)
                        · have hw := hw.2 k
                          refine lv_aload_n hx hb dX8_recognizeWord_133 rfl (lv_at hl 0 rfl) ?_
                          refine lv_iload_n hx hb dX8_recognizeWord_134 rfl (lv_at hl 2 rfl) ?_
                          refine lv_iload hx hb dX8_recognizeWord_135 (lv_at hl 4 rfl) ?_
                          refine lv_iload_n hx hb dX8_recognizeWord_137 rfl (lv_at hl 3 rfl) ?_
                          refine lv_iload hx hb dX8_recognizeWord_138 (lv_at hl 6 rfl) ?_
                          refine lv_iconst (v := (0 : Int32)) hx hb dX8_recognizeWord_140 (by decide) ?_
                          refine kcRI (wc := [((rf 0), o8 rf f_terms f_runs f_leftAbove f_leftBelow f_rightAbove f_rightBelow f_listed f_fed f_read f_formed f_hasSnapshot), ((rf 29), ai cI 180 f_cell)]) hP [0, 4] rfl (fun hPc => oV (As := [.int v2, .int v4, .int x24, .int v6, .int (0 : Int32)]) (rest := []) C0 hK hN (c8_isWord l D cI cJ cN cR rf f_terms f_runs f_leftAbove f_leftBelow f_rightAbove f_rightBelow f_listed f_fed f_read f_formed f_hasSnapshot f_cell v2 v4 x24 v6 (0 : Int32) _ hw) 5 gX8_recognizeWord_X8_isWord rfl ⟨rfl, rfl⟩ nm8_isWord ⟨Nat.le_of_ble_eq_true rfl, Nat.le_of_ble_eq_true rfl⟩ (q0 := 0) rfl rfl rfl rfl hl.1 rfl (Nat.le_of_ble_eq_true rfl) dX8_recognizeWord_141 ⟨Nat.le_of_ble_eq_true rfl, Nat.le_of_ble_eq_true rfl⟩ hPc) (fun r141 hw => ?_)
                          obtain ⟨nb141, hw⟩ := hw
                          refine lv_if_eq (tgt := 150) hx hb dX8_recognizeWord_144 (by decide) (fun k => ?_) (fun k => ?_)
                          · have hw := hw.1 k
                            obtain ⟨x150, ex150⟩ : ∃ y : Int32, y = (v6 + (-1 : Int32)) := ⟨_, rfl⟩
                            have hw := hw x150 ex150
                            refine lv_iinc (v := x150) (lv' := [(6, .int x150), (0, .ref (rf 0)), (1, .int v1), (2, .int v2), (3, .int x24), (4, .int v4), (5, .int v5)]) hx hb dX8_recognizeWord_150 hl (k := 6) rfl (by rw [ex150]; rfl) (by decide) rfl (fun ls hl => ?_)
                            refine lv_goto (tgt := 128) hx hb dX8_recognizeWord_153 (by decide) ?_
                            exact ih128 v5 x150 _ _ ls hw hP hD hS (lv_sub hl [1, 2, 3, 4, 5, 6, 0] rfl)
                          · have hw := hw.2 k
                            refine lv_iconst (v := (3 : Int32)) hx hb dX8_recognizeWord_147 (by decide) ?_
                            refine lv_istore (lv' := [(5, .int (3 : Int32)), (0, .ref (rf 0)), (1, .int v1), (2, .int v2), (3, .int x24), (4, .int v4), (6, .int v6)]) hx hb dX8_recognizeWord_148 hl (by decide) rfl (fun ls hl => ?_)
                            obtain ⟨x150, ex150⟩ : ∃ y : Int32, y = (v6 + (-1 : Int32)) := ⟨_, rfl⟩
                            have hw := hw x150 ex150
                            refine lv_iinc (v := x150) (lv' := [(6, .int x150), (5, .int (3 : Int32)), (0, .ref (rf 0)), (1, .int v1), (2, .int v2), (3, .int x24), (4, .int v4)]) hx hb dX8_recognizeWord_150 hl (k := 6) rfl (by rw [ex150]; rfl) (by decide) rfl (fun ls hl => ?_)
                            refine lv_goto (tgt := 128) hx hb dX8_recognizeWord_153 (by decide) ?_
                            exact ih128 (3 : Int32) x150 _ _ ls hw hP hD hS (lv_sub hl [2, 3, 4, 5, 6, 1, 0] rfl)
                    exact LOOP_128 n128 (0 : Int32) x126 _ _ ls hw hP hD hS (lv_sub hl [2, 3, 4, 5, 6, 1, 0] rfl)
                  · have hw := hw.2 (fun h => k ((lg_cmp_eq _ _).mpr h))
                    refine lv_iconst (v := (0 : Int32)) hx hb dX8_recognizeWord_118 (by decide) ?_
                    exact RET _ _ _ (f_above, f_below) _ _ hw hP hD hS dX8_recognizeWord_119
            · have hw := hw.2 k
              refine lv_aload_n hx hb dX8_recognizeWord_44 rfl (lv_at hl 0 rfl) ?_
              refine va_get (D := D) (ci := 8) (v := .ref (rf 29)) (C := RX8) (T := TX8) (N := 35) hx hb hts hi9 hown hK hP 0 rfl rfl 28 (by decide) g97 (fun _ h9 => h9) rfl dX8_recognizeWord_45 ?_
              refine lv_bipush (v := (60 : Int32)) hx hb dX8_recognizeWord_48 (by decide) ?_
              refine lv_iload_n hx hb dX8_recognizeWord_50 rfl (lv_at hl 2 rfl) ?_
              refine lv_imul hx hb dX8_recognizeWord_51 ?_
              refine lv_iload hx hb dX8_recognizeWord_52 (lv_at hl 5 rfl) ?_
              refine lv_iadd hx hb dX8_recognizeWord_54 ?_
              obtain ⟨hin, hw⟩ := hw
              refine va_iald hx hb hK hP 4 0 rfl rfl hin dX8_recognizeWord_55 ?_
              refine lv_i2l hx hb dX8_recognizeWord_56 rfl ?_
              refine lv_lconst (v := (0 : Int64)) hx hb dX8_recognizeWord_57 (by decide) ?_
              refine lv_lconst (v := (1 : Int64)) hx hb dX8_recognizeWord_58 (by decide) ?_
              refine kcRI (wc := []) hP [] rfl (fun hPc => oS (As := [.long ((f_cell (((60 : Int32) * v2) + v5).toNatClampNeg).toInt64), .long (0 : Int64), .long (1 : Int64)]) (rest := []) C0 hK hN (c8_within l D cI cJ cN cR   ((f_cell (((60 : Int32) * v2) + v5).toNatClampNeg).toInt64) (0 : Int64) (1 : Int64) _ hw) 3 gX8_recognizeWord_X8_within rfl ⟨rfl, rfl⟩ nm8_within ⟨Nat.le_of_ble_eq_true rfl, Nat.le_of_ble_eq_true rfl⟩ rfl hl.1 rfl (Nat.le_of_ble_eq_true rfl) dX8_recognizeWord_59 ⟨Nat.le_of_ble_eq_true rfl, Nat.le_of_ble_eq_true rfl⟩ hPc) (fun r59 hw => ?_)
              obtain ⟨nb59, hw⟩ := hw
              refine lv_if_ne (tgt := 67) hx hb dX8_recognizeWord_62 (by decide) (fun k => ?_) (fun k => ?_)
              · have hw := hw.1 k
                refine lv_iload hx hb dX8_recognizeWord_67 (lv_at hl 4 rfl) ?_
                refine lv_aload_n hx hb dX8_recognizeWord_69 rfl (lv_at hl 0 rfl) ?_
                refine va_get (D := D) (ci := 8) (v := .ref (rf 29)) (C := RX8) (T := TX8) (N := 35) hx hb hts hi9 hown hK hP 0 rfl rfl 28 (by decide) g97 (fun _ h9 => h9) rfl dX8_recognizeWord_70 ?_
                refine lv_bipush (v := (60 : Int32)) hx hb dX8_recognizeWord_73 (by decide) ?_
                refine lv_iload_n hx hb dX8_recognizeWord_75 rfl (lv_at hl 2 rfl) ?_
                refine lv_imul hx hb dX8_recognizeWord_76 ?_
                refine lv_iload hx hb dX8_recognizeWord_77 (lv_at hl 5 rfl) ?_
                refine lv_iadd hx hb dX8_recognizeWord_79 ?_
                obtain ⟨hin, hw⟩ := hw
                refine va_iald hx hb hK hP 4 0 rfl rfl hin dX8_recognizeWord_80 ?_
                refine lv_iadd hx hb dX8_recognizeWord_81 ?_
                refine lv_topi (fun x82 ex82 => ?_)
                have hw := hw x82 ex82
                refine lv_istore (lv' := [(4, .int x82), (0, .ref (rf 0)), (1, .int v1), (2, .int v2), (3, .int x24), (5, .int v5)]) hx hb dX8_recognizeWord_82 hl (by decide) rfl (fun ls hl => ?_)
                obtain ⟨x84, ex84⟩ : ∃ y : Int32, y = (v5 + (1 : Int32)) := ⟨_, rfl⟩
                have hw := hw x84 ex84
                refine lv_iinc (v := x84) (lv' := [(5, .int x84), (4, .int x82), (0, .ref (rf 0)), (1, .int v1), (2, .int v2), (3, .int x24)]) hx hb dX8_recognizeWord_84 hl (k := 5) rfl (by rw [ex84]; rfl) (by decide) rfl (fun ls hl => ?_)
                refine lv_goto (tgt := 38) hx hb dX8_recognizeWord_87 (by decide) ?_
                exact ih38 x82 x84 _ _ ls hw hP hD hS (lv_sub hl [2, 3, 4, 5, 1, 0] rfl)
              · have hw := hw.2 k
                refine lv_iconst (v := (0 : Int32)) hx hb dX8_recognizeWord_65 (by decide) ?_
                exact RET _ _ _ (f_above, f_below) _ _ hw hP hD hS dX8_recognizeWord_66
        exact LOOP_38 n38 (0 : Int32) (0 : Int32) _ _ ls hw hP hD hS (lv_sub hl [3, 4, 5, 2, 1, 0] rfl)
      · have hw := hw.2 k
        refine lv_bipush (v := (-11 : Int32)) hx hb dX8_recognizeWord_29 (by decide) ?_
        exact RET _ _ _ (f_above, f_below) _ _ hw hP hD hS dX8_recognizeWord_31
    · have hw := hw.2 k
      refine lv_iconst (v := (-1 : Int32)) hx hb dX8_recognizeWord_16 (by decide) ?_
      exact RET _ _ _ (f_above, f_below) _ _ hw hP hD hS dX8_recognizeWord_17
abbrev rm8_dedekind : Room := { frames := 2, cells := 0, slots := 0, locals := 46 }
theorem nm8_dedekind : kNm yX8_dedekind 1 := by decide +kernel
set_option maxHeartbeats 4000000 in
set_option maxRecDepth 100000 in
theorem c8_dedekind (l : Launch) (D : va_G) (cI cJ cN cR : ClassId) (rf : Nat → Nat) (f_terms : Int32) (f_runs : Int32) (f_leftAbove : Int64) (f_leftBelow : Int64) (f_rightAbove : Int64) (f_rightBelow : Int64) (f_listed : Int32) (f_fed : Int32) (f_read : Int32) (f_formed : Int32) (f_hasSnapshot : Int32) (f_above : (Nat → Int32)) (f_below : (Nat → Int32)) (v1 : Int32) (post : Int32 → Prop) (hw : w8_dedekind f_above f_below v1 post) : Met l yX8_dedekind wsX8_dedekind rm8_dedekind (kR D (kT cI cJ cN cR) [.ref (rf 0), .int v1] [((rf 0), o8 rf f_terms f_runs f_leftAbove f_leftBelow f_rightAbove f_rightBelow f_listed f_fed f_read f_formed f_hasSnapshot), ((rf 1), ai cI 8 f_above), ((rf 2), ai cI 8 f_below)]) (vp_Si post) 0 0 (fun _ => False) := by
  refine kMetRI (cc := cX8_dedekind) (maxL := 10) (by decide +kernel) rfl (Nat.le_of_ble_eq_true rfl) ?_
  intro p e s m args below meth c H ls Q C0 hK hN hP hl RET
  obtain ⟨hx, hb, hml, hown, hts⟩ := id C0
  have hl : lv_has ls 10 [(0, .ref (rf 0)), (1, .int v1)] := hl
  have g13 := hts (.fieldLink RX8 13 "SternBrocotExplorerModel" "below" "[I") (by decide +kernel)
  have g7 := hts (.fieldLink RX8 7 "SternBrocotExplorerModel" "above" "[I") (by decide +kernel)
  have hi9 : ∀ w ∈ wsX80, w ∈ wsX8_dedekind := fun w h => List.mem_cons_of_mem _ (List.mem_append_right _ h)
  unfold w8_dedekind at hw
  refine lv_aload_n hx hb dX8_dedekind_0 rfl (lv_at hl 0 rfl) ?_
  refine lv_iload_n hx hb dX8_dedekind_1 rfl (lv_at hl 1 rfl) ?_
  refine kcRI (wc := [((rf 0), o8 rf f_terms f_runs f_leftAbove f_leftBelow f_rightAbove f_rightBelow f_listed f_fed f_read f_formed f_hasSnapshot)]) hP [0] rfl (fun hPc => oV (As := [.int v1]) (rest := []) C0 hK hN (c8_isRegister l D cI cJ cN cR rf f_terms f_runs f_leftAbove f_leftBelow f_rightAbove f_rightBelow f_listed f_fed f_read f_formed f_hasSnapshot v1 _ hw) 1 gX8_dedekind_X8_isRegister rfl ⟨rfl, rfl⟩ nm8_isRegister ⟨Nat.le_of_ble_eq_true rfl, Nat.le_of_ble_eq_true rfl⟩ (q0 := 0) rfl rfl rfl rfl hl.1 rfl (Nat.le_of_ble_eq_true rfl) dX8_dedekind_2 ⟨Nat.le_of_ble_eq_true rfl, Nat.le_of_ble_eq_true rfl⟩ hPc) (fun r2 hw => ?_)
  obtain ⟨nb2, hw⟩ := hw
  refine lv_if_eq (tgt := 20) hx hb dX8_dedekind_5 (by decide) (fun k => ?_) (fun k => ?_)
  · have hw := hw.1 k
    refine lv_ldc (v := (-2147483648 : Int32)) hx hb hown (hts (.constant RX8 209 (-2147483648)) (by decide +kernel)) dX8_dedekind_20 ?_
    exact RET _ _ _ hw dX8_dedekind_22
  · have hw := hw.2 k
    refine lv_aload_n hx hb dX8_dedekind_8 rfl (lv_at hl 0 rfl) ?_
    refine va_get (D := D) (ci := 8) (v := .ref (rf 2)) (C := RX8) (T := TX8) (N := 35) hx hb hts hi9 hown hK hP 0 rfl rfl 1 (by decide) g13 (fun _ h9 => h9) rfl dX8_dedekind_9 ?_
    refine lv_iload_n hx hb dX8_dedekind_12 rfl (lv_at hl 1 rfl) ?_
    obtain ⟨hin, hw⟩ := hw
    refine va_iald hx hb hK hP 2 0 rfl rfl hin dX8_dedekind_13 ?_
    refine lv_sipush (v := (20000 : Int32)) hx hb dX8_dedekind_14 (by decide) ?_
    refine lv_icmp_le (tgt := 23) hx hb dX8_dedekind_17 (by decide) (fun k => ?_) (fun k => ?_)
    · have hw := hw.1 k
      refine lv_aload_n hx hb dX8_dedekind_23 rfl (lv_at hl 0 rfl) ?_
      refine va_get (D := D) (ci := 8) (v := .ref (rf 1)) (C := RX8) (T := TX8) (N := 35) hx hb hts hi9 hown hK hP 0 rfl rfl 0 (by decide) g7 (fun _ h9 => h9) rfl dX8_dedekind_24 ?_
      refine lv_iload_n hx hb dX8_dedekind_27 rfl (lv_at hl 1 rfl) ?_
      obtain ⟨hin, hw⟩ := hw
      refine va_iald hx hb hK hP 1 0 rfl rfl hin dX8_dedekind_28 ?_
      refine lv_i2l hx hb dX8_dedekind_29 rfl ?_
      refine lv_topl (fun x30 ex30 => ?_)
      have hw := hw x30 ex30
      refine lv_lstore_n (lv' := [(2, .long x30), (0, .ref (rf 0)), (1, .int v1)]) hx hb dX8_dedekind_30 rfl hl (by decide) rfl (fun ls hl => ?_)
      refine lv_aload_n hx hb dX8_dedekind_31 rfl (lv_at hl 1 rfl) ?_
      refine va_get (D := D) (ci := 8) (v := .ref (rf 2)) (C := RX8) (T := TX8) (N := 35) hx hb hts hi9 hown hK hP 0 rfl rfl 1 (by decide) g13 (fun _ h9 => h9) rfl dX8_dedekind_32 ?_
      refine lv_iload_n hx hb dX8_dedekind_35 rfl (lv_at hl 2 rfl) ?_
      obtain ⟨hin, hw⟩ := hw
      refine va_iald hx hb hK hP 2 0 rfl rfl hin dX8_dedekind_36 ?_
      refine lv_i2l hx hb dX8_dedekind_37 rfl ?_
      refine lv_topl (fun x38 ex38 => ?_)
      have hw := hw x38 ex38
      refine lv_lstore (lv' := [(4, .long x38), (2, .long x30), (0, .ref (rf 0)), (1, .int v1)]) hx hb dX8_dedekind_38 hl (by decide) rfl (fun ls hl => ?_)
      refine lv_lconst (v := (0 : Int64)) hx hb dX8_dedekind_40 (by decide) ?_
      refine lv_lstore (lv' := [(6, .long (0 : Int64)), (4, .long x38), (2, .long x30), (0, .ref (rf 0)), (1, .int v1)]) hx hb dX8_dedekind_41 hl (by decide) rfl (fun ls hl => ?_)
      refine lv_lconst (v := (1 : Int64)) hx hb dX8_dedekind_43 (by decide) ?_
      refine lv_lstore (lv' := [(8, .long (1 : Int64)), (6, .long (0 : Int64)), (4, .long x38), (2, .long x30), (0, .ref (rf 0)), (1, .int v1)]) hx hb dX8_dedekind_44 hl (by decide) rfl (fun ls hl => ?_)
      obtain ⟨n46, hw⟩ := hw
      have LOOP_46 : ∀ (n46 : Nat) (v6 : Int64) (v8 : Int64) (ls : Array Slot), w8_dedekind_L46 x30 x38 post n46 v6 v8 → lv_has ls 10 [(2, .long x30), (4, .long x38), (6, .long v6), (8, .long v8)] → W p l e rm8_dedekind s m args below meth c H [] 0 0 Q (F0 m 46 ls []) := by
        clear hw hl
        intro n46
        induction n46 with
        | zero =>
          intro v6 v8 ls hw hl
          rw [w8_dedekind_L46] at hw
          exact hw.elim
        | succ n46 ih46 =>
          intro v6 v8 ls hw hl
          rw [w8_dedekind_L46] at hw
          refine lv_lload hx hb dX8_dedekind_46 (lv_at hl 3 rfl) ?_
          refine lv_lload hx hb dX8_dedekind_48 (lv_at hl 1 rfl) ?_
          refine W.lcmp hx hb dX8_dedekind_50 ?_
          refine lv_if_ge (tgt := 92) hx hb dX8_dedekind_51 (by decide) (fun k => ?_) (fun k => ?_)
          · have hw := hw.1 ((lg_cmp_ge _ _).mp k)
            refine lv_ldc2 (v := (3 : Int64)) hx hb hown (hts (.constantLong RX8 210 (3)) (by decide +kernel)) dX8_dedekind_92 ?_
            refine lv_lload hx hb dX8_dedekind_95 (lv_at hl 2 rfl) ?_
            refine lv_lmul hx hb dX8_dedekind_97 ?_
            refine lv_lload hx hb dX8_dedekind_98 (lv_at hl 1 rfl) ?_
            obtain ⟨hne, hw⟩ := hw
            refine lv_ldiv hx hb dX8_dedekind_100 hne ?_
            refine lv_l2i hx hb dX8_dedekind_101 rfl ?_
            exact RET _ _ _ hw dX8_dedekind_102
          · have hw := hw.2 (fun h => k ((lg_cmp_ge _ _).mpr h))
            refine lv_lload hx hb dX8_dedekind_54 (lv_at hl 2 rfl) ?_
            refine lv_ldc2 (v := (2 : Int64)) hx hb hown (hts (.constantLong RX8 182 (2)) (by decide +kernel)) dX8_dedekind_56 ?_
            refine lv_lload hx hb dX8_dedekind_59 (lv_at hl 3 rfl) ?_
            refine lv_lmul hx hb dX8_dedekind_61 ?_
            refine lv_lload hx hb dX8_dedekind_62 (lv_at hl 1 rfl) ?_
            refine lv_lsub hx hb dX8_dedekind_64 ?_
            refine lv_ldc2 (v := (2 : Int64)) hx hb hown (hts (.constantLong RX8 182 (2)) (by decide +kernel)) dX8_dedekind_65 ?_
            refine lv_lload hx hb dX8_dedekind_68 (lv_at hl 3 rfl) ?_
            refine lv_lload_n hx hb dX8_dedekind_70 rfl (lv_at hl 0 rfl) ?_
            refine lv_lmul hx hb dX8_dedekind_71 ?_
            refine lv_lload hx hb dX8_dedekind_72 (lv_at hl 1 rfl) ?_
            obtain ⟨hne, hw⟩ := hw
            refine lv_lrem hx hb dX8_dedekind_74 hne ?_
            refine lv_lmul hx hb dX8_dedekind_75 ?_
            refine lv_lload hx hb dX8_dedekind_76 (lv_at hl 1 rfl) ?_
            refine lv_lsub hx hb dX8_dedekind_78 ?_
            refine lv_lmul hx hb dX8_dedekind_79 ?_
            refine lv_ladd hx hb dX8_dedekind_80 ?_
            refine lv_topl (fun x81 ex81 => ?_)
            have hw := hw x81 ex81
            refine lv_lstore (lv' := [(6, .long x81), (2, .long x30), (4, .long x38), (8, .long v8)]) hx hb dX8_dedekind_81 hl (by decide) rfl (fun ls hl => ?_)
            refine lv_lload hx hb dX8_dedekind_83 (lv_at hl 3 rfl) ?_
            refine lv_lconst (v := (1 : Int64)) hx hb dX8_dedekind_85 (by decide) ?_
            refine lv_ladd hx hb dX8_dedekind_86 ?_
            refine lv_topl (fun x87 ex87 => ?_)
            have hw := hw x87 ex87
            refine lv_lstore (lv' := [(8, .long x87), (6, .long x81), (2, .long x30), (4, .long x38)]) hx hb dX8_dedekind_87 hl (by decide) rfl (fun ls hl => ?_)
            refine lv_goto (tgt := 46) hx hb dX8_dedekind_89 (by decide) ?_
            exact ih46 x81 x87 ls hw (lv_sub hl [2, 3, 1, 0] rfl)
      exact LOOP_46 n46 (0 : Int64) (1 : Int64) ls hw (lv_sub hl [3, 2, 1, 0] rfl)
    · have hw := hw.2 k
      refine lv_ldc (v := (-2147483648 : Int32)) hx hb hown (hts (.constant RX8 209 (-2147483648)) (by decide +kernel)) dX8_dedekind_20 ?_
      exact RET _ _ _ hw dX8_dedekind_22
abbrev rm8_feed : Room := { frames := 1, cells := 0, slots := 0, locals := 25 }
theorem nm8_feed : kNm yX8_feed 1 := by decide +kernel
set_option maxHeartbeats 4000000 in
set_option maxRecDepth 100000 in
theorem c8_feed (l : Launch) (D : va_G) (cI cJ cN cR : ClassId) (rf : Nat → Nat) (sz : Nat) (f_terms : Int32) (f_runs : Int32) (f_leftAbove : Int64) (f_leftBelow : Int64) (f_rightAbove : Int64) (f_rightBelow : Int64) (f_listed : Int32) (f_fed : Int32) (f_read : Int32) (f_formed : Int32) (f_hasSnapshot : Int32) (f_text : (Nat → Int32)) (v1 : Int32) (post : Int32 → Int32 → (Nat → Int32) → Prop) (hw : w8_feed f_fed f_text v1 post) : Met l yX8_feed wsX8_feed rm8_feed (kP D (kT cI cJ cN cR) sz [.ref (rf 0), .int v1] [((rf 0), o8 rf f_terms f_runs f_leftAbove f_leftBelow f_rightAbove f_rightBelow f_listed f_fed f_read f_formed f_hasSnapshot), ((rf 18), ai cI 60 f_text)]) (kQi D [((rf 0), o8 rf f_terms f_runs f_leftAbove f_leftBelow f_rightAbove f_rightBelow f_listed f_fed f_read f_formed f_hasSnapshot), ((rf 18), ai cI 60 f_text)] sz (fun (r : Int32) (u : Int32 × (Nat → Int32)) => post r u.1 u.2) (fun (u : Int32 × (Nat → Int32)) => [((rf 0), o8 rf f_terms f_runs f_leftAbove f_leftBelow f_rightAbove f_rightBelow f_listed u.1 f_read f_formed f_hasSnapshot), ((rf 18), ai cI 60 u.2)])) 0 0 (va_A [((rf 0), o8 rf f_terms f_runs f_leftAbove f_leftBelow f_rightAbove f_rightBelow f_listed f_fed f_read f_formed f_hasSnapshot), ((rf 18), ai cI 60 f_text)] sz) := by
  refine kMetI (cc := cX8_feed) (maxL := 2) (by decide +kernel) rfl (Nat.le_of_ble_eq_true rfl) ?_
  intro p e s m args below meth c H0 ls A Q C0 hK hN hP hD hS hA hl RET
  obtain ⟨hx, hb, hml, hown, hts⟩ := id C0
  have hl : lv_has ls 2 [(0, .ref (rf 0)), (1, .int v1)] := hl
  have g67 := hts (.fieldLink RX8 67 "SternBrocotExplorerModel" "fed" "I") (by decide +kernel)
  have g64 := hts (.fieldLink RX8 64 "SternBrocotExplorerModel" "text" "[I") (by decide +kernel)
  have hi9 : ∀ w ∈ wsX80, w ∈ wsX8_feed := fun w h => List.mem_cons_of_mem _ (List.mem_append_right _ h)
  unfold w8_feed at hw
  have hP : va_P D vwCl [((rf 0), o8 rf f_terms f_runs f_leftAbove f_leftBelow f_rightAbove f_rightBelow f_listed f_fed f_read f_formed f_hasSnapshot), ((rf 18), ai cI 60 f_text)] H0 := hP
  refine lv_iload_n hx hb dX8_feed_0 rfl (lv_at hl 1 rfl) ?_
  refine lv_i2l hx hb dX8_feed_1 rfl ?_
  refine lv_ldc2 (v := (32 : Int64)) hx hb hown (hts (.constantLong RX8 212 (32)) (by decide +kernel)) dX8_feed_2 ?_
  refine lv_ldc2 (v := (126 : Int64)) hx hb hown (hts (.constantLong RX8 214 (126)) (by decide +kernel)) dX8_feed_5 ?_
  refine kcRI (wc := []) hP [] rfl (fun hPc => oS (As := [.long v1.toInt64, .long (32 : Int64), .long (126 : Int64)]) (rest := []) C0 hK hN (c8_within l D cI cJ cN cR   v1.toInt64 (32 : Int64) (126 : Int64) _ hw) 3 gX8_feed_X8_within rfl ⟨rfl, rfl⟩ nm8_within ⟨Nat.le_of_ble_eq_true rfl, Nat.le_of_ble_eq_true rfl⟩ rfl hl.1 rfl (Nat.le_of_ble_eq_true rfl) dX8_feed_8 ⟨Nat.le_of_ble_eq_true rfl, Nat.le_of_ble_eq_true rfl⟩ hPc) (fun r8 hw => ?_)
  obtain ⟨nb8, hw⟩ := hw
  refine lv_if_ne (tgt := 16) hx hb dX8_feed_11 (by decide) (fun k => ?_) (fun k => ?_)
  · have hw := hw.1 k
    refine lv_aload_n hx hb dX8_feed_16 rfl (lv_at hl 0 rfl) ?_
    refine va_get (D := D) (ci := 8) (v := .int f_fed) (C := RX8) (T := TX8) (N := 35) hx hb hts hi9 hown hK hP 0 rfl rfl 18 (by decide) g67 (fun _ h9 => h9) rfl dX8_feed_17 ?_
    refine lv_bipush (v := (60 : Int32)) hx hb dX8_feed_20 (by decide) ?_
    refine lv_icmp_ne (tgt := 28) hx hb dX8_feed_22 (by decide) (fun k => ?_) (fun k => ?_)
    · have hw := hw.1 k
      refine lv_aload_n hx hb dX8_feed_28 rfl (lv_at hl 0 rfl) ?_
      refine va_get (D := D) (ci := 8) (v := .ref (rf 18)) (C := RX8) (T := TX8) (N := 35) hx hb hts hi9 hown hK hP 0 rfl rfl 17 (by decide) g64 (fun _ h9 => h9) rfl dX8_feed_29 ?_
      refine lv_aload_n hx hb dX8_feed_32 rfl (lv_at hl 0 rfl) ?_
      refine va_get (D := D) (ci := 8) (v := .int f_fed) (C := RX8) (T := TX8) (N := 35) hx hb hts hi9 hown hK hP 0 rfl rfl 18 (by decide) g67 (fun _ h9 => h9) rfl dX8_feed_33 ?_
      refine lv_iload_n hx hb dX8_feed_36 rfl (lv_at hl 1 rfl) ?_
      obtain ⟨hin, hw⟩ := hw
      refine va_iast hx hb hK hP hD hS 1 0 rfl rfl hin dX8_feed_37 (fun H locs hP hD hS => ?_)
      have hP : va_P D vwCl [((rf 0), o8 rf f_terms f_runs f_leftAbove f_leftBelow f_rightAbove f_rightBelow f_listed f_fed f_read f_formed f_hasSnapshot), ((rf 18), ai cI 60 (upd f_text f_fed.toNatClampNeg v1))] H := hP
      have hD : va_D A [((rf 0), o8 rf f_terms f_runs f_leftAbove f_leftBelow f_rightAbove f_rightBelow f_listed f_fed f_read f_formed f_hasSnapshot), ((rf 18), ai cI 60 (upd f_text f_fed.toNatClampNeg v1))] := hD
      refine lv_aload_n hx hb dX8_feed_38 rfl (lv_at hl 0 rfl) ?_
      refine lv_dup hx hb dX8_feed_39 rfl ?_
      refine va_get (D := D) (ci := 8) (v := .int f_fed) (C := RX8) (T := TX8) (N := 35) hx hb hts hi9 hown hK hP 0 rfl rfl 18 (by decide) g67 (fun _ h9 => h9) rfl dX8_feed_40 ?_
      refine lv_iconst (v := (1 : Int32)) hx hb dX8_feed_43 (by decide) ?_
      refine lv_iadd hx hb dX8_feed_44 ?_
      refine lv_topi (fun x45 ex45 => ?_)
      have hw := hw x45 ex45
      refine va_put (D := D) (ci := 8) (v := .int x45) (ty := .int) (C := RX8) (T := TX8) (N := 35) hx hb hts hi9 tyX8 tyX8_ok nmX8 hown hK hP hD hS 0 rfl rfl 18 (by decide) g67 (fun _ h9 => h9) rfl (by decide +kernel) rfl rfl (Nat.le_of_ble_eq_true rfl) dX8_feed_45 (fun H locs hP hD hS => ?_)
      have hP : va_P D vwCl [((rf 0), o8 rf f_terms f_runs f_leftAbove f_leftBelow f_rightAbove f_rightBelow f_listed x45 f_read f_formed f_hasSnapshot), ((rf 18), ai cI 60 (upd f_text f_fed.toNatClampNeg v1))] H := hP
      have hD : va_D A [((rf 0), o8 rf f_terms f_runs f_leftAbove f_leftBelow f_rightAbove f_rightBelow f_listed x45 f_read f_formed f_hasSnapshot), ((rf 18), ai cI 60 (upd f_text f_fed.toNatClampNeg v1))] := hD
      refine lv_aload_n hx hb dX8_feed_48 rfl (lv_at hl 0 rfl) ?_
      refine va_get (D := D) (ci := 8) (v := .int x45) (C := RX8) (T := TX8) (N := 35) hx hb hts hi9 hown hK hP 0 rfl rfl 18 (by decide) g67 (fun _ h9 => h9) rfl dX8_feed_49 ?_
      exact RET _ _ _ (x45, (upd f_text f_fed.toNatClampNeg v1)) _ _ hw hP hD hS dX8_feed_52
    · have hw := hw.2 k
      refine lv_bipush (v := (-5 : Int32)) hx hb dX8_feed_25 (by decide) ?_
      exact RET _ _ _ (f_fed, f_text) _ _ hw hP hD hS dX8_feed_27
  · have hw := hw.2 k
    refine lv_iconst (v := (-1 : Int32)) hx hb dX8_feed_14 (by decide) ?_
    exact RET _ _ _ (f_fed, f_text) _ _ hw hP hD hS dX8_feed_15
abbrev rm8_discardText : Room := { frames := 0, cells := 0, slots := 0, locals := 0 }
theorem nm8_discardText : kNm yX8_discardText 0 := by decide +kernel
set_option maxHeartbeats 4000000 in
set_option maxRecDepth 100000 in
theorem c8_discardText (l : Launch) (D : va_G) (cI cJ cN cR : ClassId) (rf : Nat → Nat) (sz : Nat) (f_terms : Int32) (f_runs : Int32) (f_leftAbove : Int64) (f_leftBelow : Int64) (f_rightAbove : Int64) (f_rightBelow : Int64) (f_listed : Int32) (f_fed : Int32) (f_read : Int32) (f_formed : Int32) (f_hasSnapshot : Int32)  (post : Int32 → Int32 → Prop) (hw : w8_discardText f_fed post) : Met l yX8_discardText wsX8_discardText rm8_discardText (kP D (kT cI cJ cN cR) sz [.ref (rf 0)] [((rf 0), o8 rf f_terms f_runs f_leftAbove f_leftBelow f_rightAbove f_rightBelow f_listed f_fed f_read f_formed f_hasSnapshot)]) (kQi D [((rf 0), o8 rf f_terms f_runs f_leftAbove f_leftBelow f_rightAbove f_rightBelow f_listed f_fed f_read f_formed f_hasSnapshot)] sz (fun (r : Int32) (u : Int32) => post r u) (fun (u : Int32) => [((rf 0), o8 rf f_terms f_runs f_leftAbove f_leftBelow f_rightAbove f_rightBelow f_listed u f_read f_formed f_hasSnapshot)])) 0 0 (va_A [((rf 0), o8 rf f_terms f_runs f_leftAbove f_leftBelow f_rightAbove f_rightBelow f_listed f_fed f_read f_formed f_hasSnapshot)] sz) := by
  refine kMetI (cc := cX8_discardText) (maxL := 2) (by decide +kernel) rfl (Nat.le_of_ble_eq_true rfl) ?_
  intro p e s m args below meth c H0 ls A Q C0 hK hN hP hD hS hA hl RET
  obtain ⟨hx, hb, hml, hown, hts⟩ := id C0
  have hl : lv_has ls 2 [(0, .ref (rf 0))] := hl
  have g67 := hts (.fieldLink RX8 67 "SternBrocotExplorerModel" "fed" "I") (by decide +kernel)
  have hi9 : ∀ w ∈ wsX80, w ∈ wsX8_discardText := fun w h => List.mem_cons_of_mem _ (List.mem_append_right _ h)
  unfold w8_discardText at hw
  have hP : va_P D vwCl [((rf 0), o8 rf f_terms f_runs f_leftAbove f_leftBelow f_rightAbove f_rightBelow f_listed f_fed f_read f_formed f_hasSnapshot)] H0 := hP
  refine lv_aload_n hx hb dX8_discardText_0 rfl (lv_at hl 0 rfl) ?_
  refine va_get (D := D) (ci := 8) (v := .int f_fed) (C := RX8) (T := TX8) (N := 35) hx hb hts hi9 hown hK hP 0 rfl rfl 18 (by decide) g67 (fun _ h9 => h9) rfl dX8_discardText_1 ?_
  refine lv_istore_n (lv' := [(1, .int f_fed), (0, .ref (rf 0))]) hx hb dX8_discardText_4 rfl hl (by decide) rfl (fun ls hl => ?_)
  refine lv_aload_n hx hb dX8_discardText_5 rfl (lv_at hl 1 rfl) ?_
  refine lv_iconst (v := (0 : Int32)) hx hb dX8_discardText_6 (by decide) ?_
  refine va_put (D := D) (ci := 8) (v := .int (0 : Int32)) (ty := .int) (C := RX8) (T := TX8) (N := 35) hx hb hts hi9 tyX8 tyX8_ok nmX8 hown hK hP hD hS 0 rfl rfl 18 (by decide) g67 (fun _ h9 => h9) rfl (by decide +kernel) rfl rfl (Nat.le_of_ble_eq_true rfl) dX8_discardText_7 (fun H locs hP hD hS => ?_)
  have hP : va_P D vwCl [((rf 0), o8 rf f_terms f_runs f_leftAbove f_leftBelow f_rightAbove f_rightBelow f_listed (0 : Int32) f_read f_formed f_hasSnapshot)] H := hP
  have hD : va_D A [((rf 0), o8 rf f_terms f_runs f_leftAbove f_leftBelow f_rightAbove f_rightBelow f_listed (0 : Int32) f_read f_formed f_hasSnapshot)] := hD
  refine lv_iload_n hx hb dX8_discardText_10 rfl (lv_at hl 0 rfl) ?_
  exact RET _ _ _ (0 : Int32) _ _ hw hP hD hS dX8_discardText_11
abbrev rm8_readText : Room := { frames := 1, cells := 0, slots := 0, locals := 25 }
theorem nm8_readText : kNm yX8_readText 1 := by decide +kernel
set_option maxHeartbeats 4000000 in
set_option maxRecDepth 100000 in
theorem c8_readText (l : Launch) (D : va_G) (cI cJ cN cR : ClassId) (rf : Nat → Nat) (sz : Nat) (f_terms : Int32) (f_runs : Int32) (f_leftAbove : Int64) (f_leftBelow : Int64) (f_rightAbove : Int64) (f_rightBelow : Int64) (f_listed : Int32) (f_fed : Int32) (f_read : Int32) (f_formed : Int32) (f_hasSnapshot : Int32) (f_text : (Nat → Int32)) (f_steps : (Nat → Int32)) (f_towards : (Nat → Int32)) (v1 : Int32) (post : Int32 → Int32 → (Nat → Int32) → (Nat → Int32) → Prop) (hw : w8_readText f_read f_text f_steps f_towards v1 post) : Met l yX8_readText wsX8_readText rm8_readText (kP D (kT cI cJ cN cR) sz [.ref (rf 0), .int v1] [((rf 0), o8 rf f_terms f_runs f_leftAbove f_leftBelow f_rightAbove f_rightBelow f_listed f_fed f_read f_formed f_hasSnapshot), ((rf 18), ai cI 60 f_text), ((rf 20), ai cI 60 f_steps), ((rf 21), ai cI 60 f_towards)]) (kQi D [((rf 0), o8 rf f_terms f_runs f_leftAbove f_leftBelow f_rightAbove f_rightBelow f_listed f_fed f_read f_formed f_hasSnapshot), ((rf 18), ai cI 60 f_text), ((rf 20), ai cI 60 f_steps), ((rf 21), ai cI 60 f_towards)] sz (fun (r : Int32) (u : Int32 × (Nat → Int32) × (Nat → Int32)) => post r u.1 u.2.1 u.2.2) (fun (u : Int32 × (Nat → Int32) × (Nat → Int32)) => [((rf 0), o8 rf f_terms f_runs f_leftAbove f_leftBelow f_rightAbove f_rightBelow f_listed f_fed u.1 f_formed f_hasSnapshot), ((rf 18), ai cI 60 f_text), ((rf 20), ai cI 60 u.2.1), ((rf 21), ai cI 60 u.2.2)])) 0 0 (va_A [((rf 0), o8 rf f_terms f_runs f_leftAbove f_leftBelow f_rightAbove f_rightBelow f_listed f_fed f_read f_formed f_hasSnapshot), ((rf 18), ai cI 60 f_text), ((rf 20), ai cI 60 f_steps), ((rf 21), ai cI 60 f_towards)] sz) := by
  refine kMetI (cc := cX8_readText) (maxL := 5) (by decide +kernel) rfl (Nat.le_of_ble_eq_true rfl) ?_
  intro p e s m args below meth c H0 ls A Q C0 hK hN hP hD hS hA hl RET
  obtain ⟨hx, hb, hml, hown, hts⟩ := id C0
  have hl : lv_has ls 5 [(0, .ref (rf 0)), (1, .int v1)] := hl
  have g76 := hts (.fieldLink RX8 76 "SternBrocotExplorerModel" "read" "I") (by decide +kernel)
  have g64 := hts (.fieldLink RX8 64 "SternBrocotExplorerModel" "text" "[I") (by decide +kernel)
  have g70 := hts (.fieldLink RX8 70 "SternBrocotExplorerModel" "steps" "[I") (by decide +kernel)
  have g73 := hts (.fieldLink RX8 73 "SternBrocotExplorerModel" "towards" "[I") (by decide +kernel)
  have hi9 : ∀ w ∈ wsX80, w ∈ wsX8_readText := fun w h => List.mem_cons_of_mem _ (List.mem_append_right _ h)
  unfold w8_readText at hw
  have hP : va_P D vwCl [((rf 0), o8 rf f_terms f_runs f_leftAbove f_leftBelow f_rightAbove f_rightBelow f_listed f_fed f_read f_formed f_hasSnapshot), ((rf 18), ai cI 60 f_text), ((rf 20), ai cI 60 f_steps), ((rf 21), ai cI 60 f_towards)] H0 := hP
  refine lv_aload_n hx hb dX8_readText_0 rfl (lv_at hl 0 rfl) ?_
  refine lv_iconst (v := (0 : Int32)) hx hb dX8_readText_1 (by decide) ?_
  refine va_put (D := D) (ci := 8) (v := .int (0 : Int32)) (ty := .int) (C := RX8) (T := TX8) (N := 35) hx hb hts hi9 tyX8 tyX8_ok nmX8 hown hK hP hD hS 0 rfl rfl 21 (by decide) g76 (fun _ h9 => h9) rfl (by decide +kernel) rfl rfl (Nat.le_of_ble_eq_true rfl) dX8_readText_2 (fun H locs hP hD hS => ?_)
  have hP : va_P D vwCl [((rf 0), o8 rf f_terms f_runs f_leftAbove f_leftBelow f_rightAbove f_rightBelow f_listed f_fed (0 : Int32) f_formed f_hasSnapshot), ((rf 18), ai cI 60 f_text), ((rf 20), ai cI 60 f_steps), ((rf 21), ai cI 60 f_towards)] H := hP
  have hD : va_D A [((rf 0), o8 rf f_terms f_runs f_leftAbove f_leftBelow f_rightAbove f_rightBelow f_listed f_fed (0 : Int32) f_formed f_hasSnapshot), ((rf 18), ai cI 60 f_text), ((rf 20), ai cI 60 f_steps), ((rf 21), ai cI 60 f_towards)] := hD
  refine lv_bipush (v := (6 : Int32)) hx hb dX8_readText_5 (by decide) ?_
  refine lv_istore_n (lv' := [(2, .int (6 : Int32)), (0, .ref (rf 0)), (1, .int v1)]) hx hb dX8_readText_7 rfl hl (by decide) rfl (fun ls hl => ?_)
  refine lv_iconst (v := (0 : Int32)) hx hb dX8_readText_8 (by decide) ?_
  refine lv_istore_n (lv' := [(3, .int (0 : Int32)), (2, .int (6 : Int32)), (0, .ref (rf 0)), (1, .int v1)]) hx hb dX8_readText_9 rfl hl (by decide) rfl (fun ls hl => ?_)
  obtain ⟨n10, hw⟩ := hw
  have LOOP_10 : ∀ (n10 : Nat) (v2 : Int32) (v3 : Int32) (f_read : Int32) (f_steps : (Nat → Int32)) (f_towards : (Nat → Int32)) (H : Heap) (locs : List Loc) (ls : Array Slot), w8_readText_L10 f_text v1 post n10 v2 v3 f_read f_steps f_towards → va_P D vwCl [((rf 0), o8 rf f_terms f_runs f_leftAbove f_leftBelow f_rightAbove f_rightBelow f_listed f_fed f_read f_formed f_hasSnapshot), ((rf 18), ai cI 60 f_text), ((rf 20), ai cI 60 f_steps), ((rf 21), ai cI 60 f_towards)] H → va_D A [((rf 0), o8 rf f_terms f_runs f_leftAbove f_leftBelow f_rightAbove f_rightBelow f_listed f_fed f_read f_formed f_hasSnapshot), ((rf 18), ai cI 60 f_text), ((rf 20), ai cI 60 f_steps), ((rf 21), ai cI 60 f_towards)] → va_S A H0 H locs → lv_has ls 5 [(0, .ref (rf 0)), (1, .int v1), (2, .int v2), (3, .int v3)] → W p l e rm8_readText s m args below meth c H locs 0 0 Q (F0 m 10 ls []) := by
    clear hw hl hP hD hS
    intro n10
    induction n10 with
    | zero =>
      intro v2 v3 f_read f_steps f_towards H locs ls hw hP hD hS hl
      rw [w8_readText_L10] at hw
      exact hw.elim
    | succ n10 ih10 =>
      intro v2 v3 f_read f_steps f_towards H locs ls hw hP hD hS hl
      rw [w8_readText_L10] at hw
      have JOIN_105 : ∀ (v2 : Int32) (v3 : Int32) (v4 : Int32) (f_read : Int32) (f_steps : (Nat → Int32)) (f_towards : (Nat → Int32)) (s0 : Int64) (s1 : Int64) (H : Heap) (locs : List Loc) (ls : Array Slot), w8_readText_J105 f_read f_text f_steps f_towards v1 v2 v3 v4 s0 s1 post (fun z0 z1 z2 z3 z4 => w8_readText_L10 f_text v1 post n10 z0 z1 z2 z3 z4) → va_P D vwCl [((rf 0), o8 rf f_terms f_runs f_leftAbove f_leftBelow f_rightAbove f_rightBelow f_listed f_fed f_read f_formed f_hasSnapshot), ((rf 18), ai cI 60 f_text), ((rf 20), ai cI 60 f_steps), ((rf 21), ai cI 60 f_towards)] H → va_D A [((rf 0), o8 rf f_terms f_runs f_leftAbove f_leftBelow f_rightAbove f_rightBelow f_listed f_fed f_read f_formed f_hasSnapshot), ((rf 18), ai cI 60 f_text), ((rf 20), ai cI 60 f_steps), ((rf 21), ai cI 60 f_towards)] → va_S A H0 H locs → lv_has ls 5 [(0, .ref (rf 0)), (1, .int v1), (2, .int v2), (3, .int v3), (4, .int v4)] → W p l e rm8_readText s m args below meth c H locs 0 0 Q (F0 m 105 ls [.long s0, .long s1]) := by
        intro v2 v3 v4 f_read f_steps f_towards s0 s1 H locs ls hw hP hD hS hl
        unfold w8_readText_J105 at hw
        refine lv_ldc2 (v := (57 : Int64)) hx hb hown (hts (.constantLong RX8 220 (57)) (by decide +kernel)) dX8_readText_105 ?_
        refine kcRI (wc := []) hP [] rfl (fun hPc => oS (As := [.long s1, .long s0, .long (57 : Int64)]) (rest := []) C0 hK hN (c8_within l D cI cJ cN cR   s1 s0 (57 : Int64) _ hw) 3 gX8_readText_X8_within rfl ⟨rfl, rfl⟩ nm8_within ⟨Nat.le_of_ble_eq_true rfl, Nat.le_of_ble_eq_true rfl⟩ rfl hl.1 rfl (Nat.le_of_ble_eq_true rfl) dX8_readText_108 ⟨Nat.le_of_ble_eq_true rfl, Nat.le_of_ble_eq_true rfl⟩ hPc) (fun r108 hw => ?_)
        obtain ⟨nb108, hw⟩ := hw
        refine lv_if_ne (tgt := 116) hx hb dX8_readText_111 (by decide) (fun k => ?_) (fun k => ?_)
        · have hw := hw.1 k
          refine lv_aload_n hx hb dX8_readText_116 rfl (lv_at hl 0 rfl) ?_
          refine va_get (D := D) (ci := 8) (v := .ref (rf 20)) (C := RX8) (T := TX8) (N := 35) hx hb hts hi9 hown hK hP 0 rfl rfl 19 (by decide) g70 (fun _ h9 => h9) rfl dX8_readText_117 ?_
          refine lv_aload_n hx hb dX8_readText_120 rfl (lv_at hl 0 rfl) ?_
          refine va_get (D := D) (ci := 8) (v := .int f_read) (C := RX8) (T := TX8) (N := 35) hx hb hts hi9 hown hK hP 0 rfl rfl 21 (by decide) g76 (fun _ h9 => h9) rfl dX8_readText_121 ?_
          refine lv_iconst (v := (1 : Int32)) hx hb dX8_readText_124 (by decide) ?_
          refine lv_isub hx hb dX8_readText_125 ?_
          refine lv_iload_n hx hb dX8_readText_126 rfl (lv_at hl 2 rfl) ?_
          refine lv_if_ne (tgt := 134) hx hb dX8_readText_127 (by decide) (fun k => ?_) (fun k => ?_)
          · have hw := hw.1 k
            refine lv_bipush (v := (10 : Int32)) hx hb dX8_readText_134 (by decide) ?_
            refine lv_aload_n hx hb dX8_readText_136 rfl (lv_at hl 0 rfl) ?_
            refine va_get (D := D) (ci := 8) (v := .ref (rf 20)) (C := RX8) (T := TX8) (N := 35) hx hb hts hi9 hown hK hP 0 rfl rfl 19 (by decide) g70 (fun _ h9 => h9) rfl dX8_readText_137 ?_
            refine lv_aload_n hx hb dX8_readText_140 rfl (lv_at hl 0 rfl) ?_
            refine va_get (D := D) (ci := 8) (v := .int f_read) (C := RX8) (T := TX8) (N := 35) hx hb hts hi9 hown hK hP 0 rfl rfl 21 (by decide) g76 (fun _ h9 => h9) rfl dX8_readText_141 ?_
            refine lv_iconst (v := (1 : Int32)) hx hb dX8_readText_144 (by decide) ?_
            refine lv_isub hx hb dX8_readText_145 ?_
            obtain ⟨hin, hw⟩ := hw
            refine va_iald hx hb hK hP 2 0 rfl rfl hin dX8_readText_146 ?_
            refine lv_imul hx hb dX8_readText_147 ?_
            refine lv_iload hx hb dX8_readText_148 (lv_at hl 4 rfl) ?_
            refine lv_iadd hx hb dX8_readText_150 ?_
            refine lv_bipush (v := (48 : Int32)) hx hb dX8_readText_151 (by decide) ?_
            refine lv_isub hx hb dX8_readText_153 ?_
            obtain ⟨hin, hw⟩ := hw
            refine va_iast hx hb hK hP hD hS 2 0 rfl rfl hin dX8_readText_154 (fun H locs hP hD hS => ?_)
            have hP : va_P D vwCl [((rf 0), o8 rf f_terms f_runs f_leftAbove f_leftBelow f_rightAbove f_rightBelow f_listed f_fed f_read f_formed f_hasSnapshot), ((rf 18), ai cI 60 f_text), ((rf 20), ai cI 60 (upd f_steps (f_read - (1 : Int32)).toNatClampNeg ((((10 : Int32) * (f_steps (f_read - (1 : Int32)).toNatClampNeg)) + v4) - (48 : Int32)))), ((rf 21), ai cI 60 f_towards)] H := hP
            have hD : va_D A [((rf 0), o8 rf f_terms f_runs f_leftAbove f_leftBelow f_rightAbove f_rightBelow f_listed f_fed f_read f_formed f_hasSnapshot), ((rf 18), ai cI 60 f_text), ((rf 20), ai cI 60 (upd f_steps (f_read - (1 : Int32)).toNatClampNeg ((((10 : Int32) * (f_steps (f_read - (1 : Int32)).toNatClampNeg)) + v4) - (48 : Int32)))), ((rf 21), ai cI 60 f_towards)] := hD
            obtain ⟨x155, ex155⟩ : ∃ y : Int32, y = (v2 + (1 : Int32)) := ⟨_, rfl⟩
            have hw := hw x155 ex155
            refine lv_iinc (v := x155) (lv' := [(2, .int x155), (0, .ref (rf 0)), (1, .int v1), (3, .int v3), (4, .int v4)]) hx hb dX8_readText_155 hl (k := 2) rfl (by rw [ex155]; rfl) (by decide) rfl (fun ls hl => ?_)
            obtain ⟨x158, ex158⟩ : ∃ y : Int32, y = (v3 + (1 : Int32)) := ⟨_, rfl⟩
            have hw := hw x158 ex158
            refine lv_iinc (v := x158) (lv' := [(3, .int x158), (2, .int x155), (0, .ref (rf 0)), (1, .int v1), (4, .int v4)]) hx hb dX8_readText_158 hl (k := 3) rfl (by rw [ex158]; rfl) (by decide) rfl (fun ls hl => ?_)
            refine lv_goto (tgt := 10) hx hb dX8_readText_161 (by decide) ?_
            exact ih10 x155 x158 f_read (upd f_steps (f_read - (1 : Int32)).toNatClampNeg ((((10 : Int32) * (f_steps (f_read - (1 : Int32)).toNatClampNeg)) + v4) - (48 : Int32))) f_towards _ _ ls hw hP hD hS (lv_sub hl [2, 3, 1, 0] rfl)
          · have hw := hw.2 k
            refine lv_iconst (v := (0 : Int32)) hx hb dX8_readText_130 (by decide) ?_
            refine lv_goto (tgt := 148) hx hb dX8_readText_131 (by decide) ?_
            refine lv_iload hx hb dX8_readText_148 (lv_at hl 4 rfl) ?_
            refine lv_iadd hx hb dX8_readText_150 ?_
            refine lv_bipush (v := (48 : Int32)) hx hb dX8_readText_151 (by decide) ?_
            refine lv_isub hx hb dX8_readText_153 ?_
            obtain ⟨hin, hw⟩ := hw
            refine va_iast hx hb hK hP hD hS 2 0 rfl rfl hin dX8_readText_154 (fun H locs hP hD hS => ?_)
            have hP : va_P D vwCl [((rf 0), o8 rf f_terms f_runs f_leftAbove f_leftBelow f_rightAbove f_rightBelow f_listed f_fed f_read f_formed f_hasSnapshot), ((rf 18), ai cI 60 f_text), ((rf 20), ai cI 60 (upd f_steps (f_read - (1 : Int32)).toNatClampNeg (((0 : Int32) + v4) - (48 : Int32)))), ((rf 21), ai cI 60 f_towards)] H := hP
            have hD : va_D A [((rf 0), o8 rf f_terms f_runs f_leftAbove f_leftBelow f_rightAbove f_rightBelow f_listed f_fed f_read f_formed f_hasSnapshot), ((rf 18), ai cI 60 f_text), ((rf 20), ai cI 60 (upd f_steps (f_read - (1 : Int32)).toNatClampNeg (((0 : Int32) + v4) - (48 : Int32)))), ((rf 21), ai cI 60 f_towards)] := hD
            obtain ⟨x155, ex155⟩ : ∃ y : Int32, y = (v2 + (1 : Int32)) := ⟨_, rfl⟩
            have hw := hw x155 ex155
            refine lv_iinc (v := x155) (lv' := [(2, .int x155), (0, .ref (rf 0)), (1, .int v1), (3, .int v3), (4, .int v4)]) hx hb dX8_readText_155 hl (k := 2) rfl (by rw [ex155]; rfl) (by decide) rfl (fun ls hl => ?_)
            obtain ⟨x158, ex158⟩ : ∃ y : Int32, y = (v3 + (1 : Int32)) := ⟨_, rfl⟩
            have hw := hw x158 ex158
            refine lv_iinc (v := x158) (lv' := [(3, .int x158), (2, .int x155), (0, .ref (rf 0)), (1, .int v1), (4, .int v4)]) hx hb dX8_readText_158 hl (k := 3) rfl (by rw [ex158]; rfl) (by decide) rfl (fun ls hl => ?_)
            refine lv_goto (tgt := 10) hx hb dX8_readText_161 (by decide) ?_
            exact ih10 x155 x158 f_read (upd f_steps (f_read - (1 : Int32)).toNatClampNeg (((0 : Int32) + v4) - (48 : Int32))) f_towards _ _ ls hw hP hD hS (lv_sub hl [2, 3, 1, 0] rfl)
        · have hw := hw.2 k
          refine lv_iload_n hx hb dX8_readText_114 rfl (lv_at hl 3 rfl) ?_
          exact RET _ _ _ (f_read, f_steps, f_towards) _ _ hw hP hD hS dX8_readText_115
      have JOIN_67 : ∀ (v3 : Int32) (f_read : Int32) (f_steps : (Nat → Int32)) (f_towards : (Nat → Int32)) (s0 : Int32) (s1 : Int32) (H : Heap) (locs : List Loc) (ls : Array Slot), w8_readText_J67 f_read f_text f_steps f_towards v1 v3 s0 s1 post (fun z0 z1 z2 z3 z4 => w8_readText_L10 f_text v1 post n10 z0 z1 z2 z3 z4) → va_P D vwCl [((rf 0), o8 rf f_terms f_runs f_leftAbove f_leftBelow f_rightAbove f_rightBelow f_listed f_fed f_read f_formed f_hasSnapshot), ((rf 18), ai cI 60 f_text), ((rf 20), ai cI 60 f_steps), ((rf 21), ai cI 60 f_towards)] H → va_D A [((rf 0), o8 rf f_terms f_runs f_leftAbove f_leftBelow f_rightAbove f_rightBelow f_listed f_fed f_read f_formed f_hasSnapshot), ((rf 18), ai cI 60 f_text), ((rf 20), ai cI 60 f_steps), ((rf 21), ai cI 60 f_towards)] → va_S A H0 H locs → lv_has ls 5 [(0, .ref (rf 0)), (1, .int v1), (3, .int v3)] → W p l e rm8_readText s m args below meth c H locs 0 0 Q (F0 m 67 ls [.int s0, .int s1, .ref (rf 21)]) := by
        intro v3 f_read f_steps f_towards s0 s1 H locs ls hw hP hD hS hl
        unfold w8_readText_J67 at hw
        obtain ⟨hin, hw⟩ := hw
        refine va_iast hx hb hK hP hD hS 3 0 rfl rfl hin dX8_readText_67 (fun H locs hP hD hS => ?_)
        have hP : va_P D vwCl [((rf 0), o8 rf f_terms f_runs f_leftAbove f_leftBelow f_rightAbove f_rightBelow f_listed f_fed f_read f_formed f_hasSnapshot), ((rf 18), ai cI 60 f_text), ((rf 20), ai cI 60 f_steps), ((rf 21), ai cI 60 (upd f_towards s1.toNatClampNeg s0))] H := hP
        have hD : va_D A [((rf 0), o8 rf f_terms f_runs f_leftAbove f_leftBelow f_rightAbove f_rightBelow f_listed f_fed f_read f_formed f_hasSnapshot), ((rf 18), ai cI 60 f_text), ((rf 20), ai cI 60 f_steps), ((rf 21), ai cI 60 (upd f_towards s1.toNatClampNeg s0))] := hD
        refine lv_aload_n hx hb dX8_readText_68 rfl (lv_at hl 0 rfl) ?_
        refine lv_dup hx hb dX8_readText_69 rfl ?_
        refine va_get (D := D) (ci := 8) (v := .int f_read) (C := RX8) (T := TX8) (N := 35) hx hb hts hi9 hown hK hP 0 rfl rfl 21 (by decide) g76 (fun _ h9 => h9) rfl dX8_readText_70 ?_
        refine lv_iconst (v := (1 : Int32)) hx hb dX8_readText_73 (by decide) ?_
        refine lv_iadd hx hb dX8_readText_74 ?_
        refine lv_topi (fun x75 ex75 => ?_)
        have hw := hw x75 ex75
        refine va_put (D := D) (ci := 8) (v := .int x75) (ty := .int) (C := RX8) (T := TX8) (N := 35) hx hb hts hi9 tyX8 tyX8_ok nmX8 hown hK hP hD hS 0 rfl rfl 21 (by decide) g76 (fun _ h9 => h9) rfl (by decide +kernel) rfl rfl (Nat.le_of_ble_eq_true rfl) dX8_readText_75 (fun H locs hP hD hS => ?_)
        have hP : va_P D vwCl [((rf 0), o8 rf f_terms f_runs f_leftAbove f_leftBelow f_rightAbove f_rightBelow f_listed f_fed x75 f_formed f_hasSnapshot), ((rf 18), ai cI 60 f_text), ((rf 20), ai cI 60 f_steps), ((rf 21), ai cI 60 (upd f_towards s1.toNatClampNeg s0))] H := hP
        have hD : va_D A [((rf 0), o8 rf f_terms f_runs f_leftAbove f_leftBelow f_rightAbove f_rightBelow f_listed f_fed x75 f_formed f_hasSnapshot), ((rf 18), ai cI 60 f_text), ((rf 20), ai cI 60 f_steps), ((rf 21), ai cI 60 (upd f_towards s1.toNatClampNeg s0))] := hD
        refine lv_iconst (v := (0 : Int32)) hx hb dX8_readText_78 (by decide) ?_
        refine lv_istore_n (lv' := [(2, .int (0 : Int32)), (0, .ref (rf 0)), (1, .int v1), (3, .int v3)]) hx hb dX8_readText_79 rfl hl (by decide) rfl (fun ls hl => ?_)
        refine lv_goto (tgt := 158) hx hb dX8_readText_80 (by decide) ?_
        obtain ⟨x158, ex158⟩ : ∃ y : Int32, y = (v3 + (1 : Int32)) := ⟨_, rfl⟩
        have hw := hw x158 ex158
        refine lv_iinc (v := x158) (lv' := [(3, .int x158), (2, .int (0 : Int32)), (0, .ref (rf 0)), (1, .int v1)]) hx hb dX8_readText_158 hl (k := 3) rfl (by rw [ex158]; rfl) (by decide) rfl (fun ls hl => ?_)
        refine lv_goto (tgt := 10) hx hb dX8_readText_161 (by decide) ?_
        exact ih10 (0 : Int32) x158 x75 f_steps (upd f_towards s1.toNatClampNeg s0) _ _ ls hw hP hD hS (lv_sub hl [2, 3, 1, 0] rfl)
      have JOIN_37 : ∀ (v3 : Int32) (v4 : Int32) (f_read : Int32) (f_steps : (Nat → Int32)) (f_towards : (Nat → Int32)) (H : Heap) (locs : List Loc) (ls : Array Slot), w8_readText_J37 f_read f_text f_steps f_towards v1 v3 v4 post (fun z0 z1 z2 z3 z4 => w8_readText_L10 f_text v1 post n10 z0 z1 z2 z3 z4) → va_P D vwCl [((rf 0), o8 rf f_terms f_runs f_leftAbove f_leftBelow f_rightAbove f_rightBelow f_listed f_fed f_read f_formed f_hasSnapshot), ((rf 18), ai cI 60 f_text), ((rf 20), ai cI 60 f_steps), ((rf 21), ai cI 60 f_towards)] H → va_D A [((rf 0), o8 rf f_terms f_runs f_leftAbove f_leftBelow f_rightAbove f_rightBelow f_listed f_fed f_read f_formed f_hasSnapshot), ((rf 18), ai cI 60 f_text), ((rf 20), ai cI 60 f_steps), ((rf 21), ai cI 60 f_towards)] → va_S A H0 H locs → lv_has ls 5 [(0, .ref (rf 0)), (1, .int v1), (3, .int v3), (4, .int v4)] → W p l e rm8_readText s m args below meth c H locs 0 0 Q (F0 m 37 ls []) := by
        intro v3 v4 f_read f_steps f_towards H locs ls hw hP hD hS hl
        unfold w8_readText_J37 at hw
        refine lv_aload_n hx hb dX8_readText_37 rfl (lv_at hl 0 rfl) ?_
        refine va_get (D := D) (ci := 8) (v := .ref (rf 20)) (C := RX8) (T := TX8) (N := 35) hx hb hts hi9 hown hK hP 0 rfl rfl 19 (by decide) g70 (fun _ h9 => h9) rfl dX8_readText_38 ?_
        refine lv_aload_n hx hb dX8_readText_41 rfl (lv_at hl 0 rfl) ?_
        refine va_get (D := D) (ci := 8) (v := .int f_read) (C := RX8) (T := TX8) (N := 35) hx hb hts hi9 hown hK hP 0 rfl rfl 21 (by decide) g76 (fun _ h9 => h9) rfl dX8_readText_42 ?_
        refine lv_iconst (v := (1 : Int32)) hx hb dX8_readText_45 (by decide) ?_
        obtain ⟨hin, hw⟩ := hw
        refine va_iast hx hb hK hP hD hS 2 0 rfl rfl hin dX8_readText_46 (fun H locs hP hD hS => ?_)
        have hP : va_P D vwCl [((rf 0), o8 rf f_terms f_runs f_leftAbove f_leftBelow f_rightAbove f_rightBelow f_listed f_fed f_read f_formed f_hasSnapshot), ((rf 18), ai cI 60 f_text), ((rf 20), ai cI 60 (upd f_steps f_read.toNatClampNeg (1 : Int32))), ((rf 21), ai cI 60 f_towards)] H := hP
        have hD : va_D A [((rf 0), o8 rf f_terms f_runs f_leftAbove f_leftBelow f_rightAbove f_rightBelow f_listed f_fed f_read f_formed f_hasSnapshot), ((rf 18), ai cI 60 f_text), ((rf 20), ai cI 60 (upd f_steps f_read.toNatClampNeg (1 : Int32))), ((rf 21), ai cI 60 f_towards)] := hD
        refine lv_aload_n hx hb dX8_readText_47 rfl (lv_at hl 0 rfl) ?_
        refine va_get (D := D) (ci := 8) (v := .ref (rf 21)) (C := RX8) (T := TX8) (N := 35) hx hb hts hi9 hown hK hP 0 rfl rfl 20 (by decide) g73 (fun _ h9 => h9) rfl dX8_readText_48 ?_
        refine lv_aload_n hx hb dX8_readText_51 rfl (lv_at hl 0 rfl) ?_
        refine va_get (D := D) (ci := 8) (v := .int f_read) (C := RX8) (T := TX8) (N := 35) hx hb hts hi9 hown hK hP 0 rfl rfl 21 (by decide) g76 (fun _ h9 => h9) rfl dX8_readText_52 ?_
        refine lv_iload hx hb dX8_readText_55 (lv_at hl 3 rfl) ?_
        refine lv_bipush (v := (82 : Int32)) hx hb dX8_readText_57 (by decide) ?_
        refine lv_icmp_ne (tgt := 66) hx hb dX8_readText_59 (by decide) (fun k => ?_) (fun k => ?_)
        · have hw := hw.1 k
          refine lv_iconst (v := (0 : Int32)) hx hb dX8_readText_66 (by decide) ?_
          exact JOIN_67 v3 f_read (upd f_steps f_read.toNatClampNeg (1 : Int32)) f_towards (0 : Int32) f_read _ _ ls hw hP hD hS (lv_sub hl [0, 1, 2] rfl)
        · have hw := hw.2 k
          refine lv_iconst (v := (1 : Int32)) hx hb dX8_readText_62 (by decide) ?_
          refine lv_goto (tgt := 67) hx hb dX8_readText_63 (by decide) ?_
          exact JOIN_67 v3 f_read (upd f_steps f_read.toNatClampNeg (1 : Int32)) f_towards (1 : Int32) f_read _ _ ls hw hP hD hS (lv_sub hl [0, 1, 2] rfl)
      refine lv_iload_n hx hb dX8_readText_10 rfl (lv_at hl 3 rfl) ?_
      refine lv_iload_n hx hb dX8_readText_11 rfl (lv_at hl 1 rfl) ?_
      refine lv_icmp_ge (tgt := 164) hx hb dX8_readText_12 (by decide) (fun k => ?_) (fun k => ?_)
      · have hw := hw.1 k
        refine lv_iconst (v := (-1 : Int32)) hx hb dX8_readText_164 (by decide) ?_
        exact RET _ _ _ (f_read, f_steps, f_towards) _ _ hw hP hD hS dX8_readText_165
      · have hw := hw.2 k
        refine lv_aload_n hx hb dX8_readText_15 rfl (lv_at hl 0 rfl) ?_
        refine va_get (D := D) (ci := 8) (v := .ref (rf 18)) (C := RX8) (T := TX8) (N := 35) hx hb hts hi9 hown hK hP 0 rfl rfl 17 (by decide) g64 (fun _ h9 => h9) rfl dX8_readText_16 ?_
        refine lv_iload_n hx hb dX8_readText_19 rfl (lv_at hl 3 rfl) ?_
        obtain ⟨hin, hw⟩ := hw
        refine va_iald hx hb hK hP 1 0 rfl rfl hin dX8_readText_20 ?_
        refine lv_topi (fun x21 ex21 => ?_)
        have hw := hw x21 ex21
        refine lv_istore (lv' := [(4, .int x21), (0, .ref (rf 0)), (1, .int v1), (2, .int v2), (3, .int v3)]) hx hb dX8_readText_21 hl (by decide) rfl (fun ls hl => ?_)
        refine lv_iload hx hb dX8_readText_23 (lv_at hl 0 rfl) ?_
        refine lv_bipush (v := (76 : Int32)) hx hb dX8_readText_25 (by decide) ?_
        refine lv_icmp_eq (tgt := 37) hx hb dX8_readText_27 (by decide) (fun k => ?_) (fun k => ?_)
        · have hw := hw.1 k
          exact JOIN_37 v3 x21 f_read f_steps f_towards _ _ ls hw hP hD hS (lv_sub hl [1, 2, 4, 0] rfl)
        · have hw := hw.2 k
          refine lv_iload hx hb dX8_readText_30 (lv_at hl 0 rfl) ?_
          refine lv_bipush (v := (82 : Int32)) hx hb dX8_readText_32 (by decide) ?_
          refine lv_icmp_ne (tgt := 83) hx hb dX8_readText_34 (by decide) (fun k => ?_) (fun k => ?_)
          · have hw := hw.1 k
            refine lv_iload_n hx hb dX8_readText_83 rfl (lv_at hl 3 rfl) ?_
            refine lv_bipush (v := (6 : Int32)) hx hb dX8_readText_84 (by decide) ?_
            refine lv_icmp_eq (tgt := 114) hx hb dX8_readText_86 (by decide) (fun k => ?_) (fun k => ?_)
            · have hw := hw.1 k
              refine lv_iload_n hx hb dX8_readText_114 rfl (lv_at hl 4 rfl) ?_
              exact RET _ _ _ (f_read, f_steps, f_towards) _ _ hw hP hD hS dX8_readText_115
            · have hw := hw.2 k
              refine lv_iload hx hb dX8_readText_89 (lv_at hl 0 rfl) ?_
              refine lv_i2l hx hb dX8_readText_91 rfl ?_
              refine lv_iload_n hx hb dX8_readText_92 rfl (lv_at hl 3 rfl) ?_
              refine lv_if_ne (tgt := 102) hx hb dX8_readText_93 (by decide) (fun k => ?_) (fun k => ?_)
              · have hw := hw.1 k
                refine lv_ldc2 (v := (48 : Int64)) hx hb hown (hts (.constantLong RX8 218 (48)) (by decide +kernel)) dX8_readText_102 ?_
                exact JOIN_105 v2 v3 x21 f_read f_steps f_towards (48 : Int64) x21.toInt64 _ _ ls hw hP hD hS (lv_sub hl [1, 2, 3, 4, 0] rfl)
              · have hw := hw.2 k
                refine lv_ldc2 (v := (49 : Int64)) hx hb hown (hts (.constantLong RX8 216 (49)) (by decide +kernel)) dX8_readText_96 ?_
                refine lv_goto (tgt := 105) hx hb dX8_readText_99 (by decide) ?_
                exact JOIN_105 v2 v3 x21 f_read f_steps f_towards (49 : Int64) x21.toInt64 _ _ ls hw hP hD hS (lv_sub hl [1, 2, 3, 4, 0] rfl)
          · have hw := hw.2 k
            exact JOIN_37 v3 x21 f_read f_steps f_towards _ _ ls hw hP hD hS (lv_sub hl [1, 2, 4, 0] rfl)
  exact LOOP_10 n10 (6 : Int32) (0 : Int32) (0 : Int32) f_steps f_towards _ _ ls hw hP hD hS (lv_sub hl [2, 3, 1, 0] rfl)
abbrev rm8_followPath : Room := { frames := 2, cells := 0, slots := 0, locals := 57 }
theorem nm8_followPath : kNm yX8_followPath 2 := by decide +kernel
set_option maxHeartbeats 4000000 in
set_option maxRecDepth 100000 in
theorem c8_followPath (l : Launch) (D : va_G) (cI cJ cN cR : ClassId) (rf : Nat → Nat) (sz : Nat) (f_terms : Int32) (f_runs : Int32) (f_leftAbove : Int64) (f_leftBelow : Int64) (f_rightAbove : Int64) (f_rightBelow : Int64) (f_listed : Int32) (f_fed : Int32) (f_read : Int32) (f_formed : Int32) (f_hasSnapshot : Int32) (f_above : (Nat → Int32)) (f_below : (Nat → Int32)) (f_text : (Nat → Int32)) (f_steps : (Nat → Int32)) (f_towards : (Nat → Int32)) (v1 : Int32) (v2 : Int32) (post : Int32 → Int32 → Int32 → (Nat → Int32) → (Nat → Int32) → (Nat → Int32) → (Nat → Int32) → Prop) (hw : w8_followPath f_fed f_read f_above f_below f_text f_steps f_towards v1 v2 post) : Met l yX8_followPath wsX8_followPath rm8_followPath (kP D (kT cI cJ cN cR) sz [.ref (rf 0), .int v1, .int v2] [((rf 0), o8 rf f_terms f_runs f_leftAbove f_leftBelow f_rightAbove f_rightBelow f_listed f_fed f_read f_formed f_hasSnapshot), ((rf 1), ai cI 8 f_above), ((rf 2), ai cI 8 f_below), ((rf 18), ai cI 60 f_text), ((rf 20), ai cI 60 f_steps), ((rf 21), ai cI 60 f_towards)]) (kQi D [((rf 0), o8 rf f_terms f_runs f_leftAbove f_leftBelow f_rightAbove f_rightBelow f_listed f_fed f_read f_formed f_hasSnapshot), ((rf 1), ai cI 8 f_above), ((rf 2), ai cI 8 f_below), ((rf 18), ai cI 60 f_text), ((rf 20), ai cI 60 f_steps), ((rf 21), ai cI 60 f_towards)] sz (fun (r : Int32) (u : Int32 × Int32 × (Nat → Int32) × (Nat → Int32) × (Nat → Int32) × (Nat → Int32)) => post r u.1 u.2.1 u.2.2.1 u.2.2.2.1 u.2.2.2.2.1 u.2.2.2.2.2) (fun (u : Int32 × Int32 × (Nat → Int32) × (Nat → Int32) × (Nat → Int32) × (Nat → Int32)) => [((rf 0), o8 rf f_terms f_runs f_leftAbove f_leftBelow f_rightAbove f_rightBelow f_listed u.1 u.2.1 f_formed f_hasSnapshot), ((rf 1), ai cI 8 u.2.2.1), ((rf 2), ai cI 8 u.2.2.2.1), ((rf 18), ai cI 60 f_text), ((rf 20), ai cI 60 u.2.2.2.2.1), ((rf 21), ai cI 60 u.2.2.2.2.2)])) 0 0 (va_A [((rf 0), o8 rf f_terms f_runs f_leftAbove f_leftBelow f_rightAbove f_rightBelow f_listed f_fed f_read f_formed f_hasSnapshot), ((rf 1), ai cI 8 f_above), ((rf 2), ai cI 8 f_below), ((rf 18), ai cI 60 f_text), ((rf 20), ai cI 60 f_steps), ((rf 21), ai cI 60 f_towards)] sz) := by
  refine kMetI (cc := cX8_followPath) (maxL := 9) (by decide +kernel) rfl (Nat.le_of_ble_eq_true rfl) ?_
  intro p e s m args below meth c H0 ls A Q C0 hK hN hP hD hS hA hl RET
  obtain ⟨hx, hb, hml, hown, hts⟩ := id C0
  have hl : lv_has ls 9 [(0, .ref (rf 0)), (1, .int v1), (2, .int v2)] := hl
  have g67 := hts (.fieldLink RX8 67 "SternBrocotExplorerModel" "fed" "I") (by decide +kernel)
  have g7 := hts (.fieldLink RX8 7 "SternBrocotExplorerModel" "above" "[I") (by decide +kernel)
  have g13 := hts (.fieldLink RX8 13 "SternBrocotExplorerModel" "below" "[I") (by decide +kernel)
  have g76 := hts (.fieldLink RX8 76 "SternBrocotExplorerModel" "read" "I") (by decide +kernel)
  have g73 := hts (.fieldLink RX8 73 "SternBrocotExplorerModel" "towards" "[I") (by decide +kernel)
  have g70 := hts (.fieldLink RX8 70 "SternBrocotExplorerModel" "steps" "[I") (by decide +kernel)
  have hi9 : ∀ w ∈ wsX80, w ∈ wsX8_followPath := fun w h => List.mem_cons_of_mem _ (List.mem_append_right _ h)
  unfold w8_followPath at hw
  have hP : va_P D vwCl [((rf 0), o8 rf f_terms f_runs f_leftAbove f_leftBelow f_rightAbove f_rightBelow f_listed f_fed f_read f_formed f_hasSnapshot), ((rf 1), ai cI 8 f_above), ((rf 2), ai cI 8 f_below), ((rf 18), ai cI 60 f_text), ((rf 20), ai cI 60 f_steps), ((rf 21), ai cI 60 f_towards)] H0 := hP
  refine lv_aload_n hx hb dX8_followPath_0 rfl (lv_at hl 0 rfl) ?_
  refine lv_iload_n hx hb dX8_followPath_1 rfl (lv_at hl 1 rfl) ?_
  refine kcRI (wc := [((rf 0), o8 rf f_terms f_runs f_leftAbove f_leftBelow f_rightAbove f_rightBelow f_listed f_fed f_read f_formed f_hasSnapshot)]) hP [0] rfl (fun hPc => oV (As := [.int v1]) (rest := []) C0 hK hN (c8_isRegister l D cI cJ cN cR rf f_terms f_runs f_leftAbove f_leftBelow f_rightAbove f_rightBelow f_listed f_fed f_read f_formed f_hasSnapshot v1 _ hw) 1 gX8_followPath_X8_isRegister rfl ⟨rfl, rfl⟩ nm8_isRegister ⟨Nat.le_of_ble_eq_true rfl, Nat.le_of_ble_eq_true rfl⟩ (q0 := 0) rfl rfl rfl rfl hl.1 rfl (Nat.le_of_ble_eq_true rfl) dX8_followPath_2 ⟨Nat.le_of_ble_eq_true rfl, Nat.le_of_ble_eq_true rfl⟩ hPc) (fun r2 hw => ?_)
  obtain ⟨nb2, hw⟩ := hw
  refine lv_if_eq (tgt := 16) hx hb dX8_followPath_5 (by decide) (fun k => ?_) (fun k => ?_)
  · have hw := hw.1 k
    refine lv_iconst (v := (-1 : Int32)) hx hb dX8_followPath_16 (by decide) ?_
    exact RET _ _ _ (f_fed, f_read, f_above, f_below, f_steps, f_towards) _ _ hw hP hD hS dX8_followPath_17
  · have hw := hw.2 k
    refine lv_aload_n hx hb dX8_followPath_8 rfl (lv_at hl 0 rfl) ?_
    refine lv_iload_n hx hb dX8_followPath_9 rfl (lv_at hl 2 rfl) ?_
    refine kcRI (wc := [((rf 0), o8 rf f_terms f_runs f_leftAbove f_leftBelow f_rightAbove f_rightBelow f_listed f_fed f_read f_formed f_hasSnapshot)]) hP [0] rfl (fun hPc => oV (As := [.int v2]) (rest := []) C0 hK hN (c8_isRegister l D cI cJ cN cR rf f_terms f_runs f_leftAbove f_leftBelow f_rightAbove f_rightBelow f_listed f_fed f_read f_formed f_hasSnapshot v2 _ hw) 1 gX8_followPath_X8_isRegister rfl ⟨rfl, rfl⟩ nm8_isRegister ⟨Nat.le_of_ble_eq_true rfl, Nat.le_of_ble_eq_true rfl⟩ (q0 := 0) rfl rfl rfl rfl hl.1 rfl (Nat.le_of_ble_eq_true rfl) dX8_followPath_10 ⟨Nat.le_of_ble_eq_true rfl, Nat.le_of_ble_eq_true rfl⟩ hPc) (fun r10 hw => ?_)
    obtain ⟨nb10, hw⟩ := hw
    refine lv_if_ne (tgt := 18) hx hb dX8_followPath_13 (by decide) (fun k => ?_) (fun k => ?_)
    · have hw := hw.1 k
      refine lv_aload_n hx hb dX8_followPath_18 rfl (lv_at hl 0 rfl) ?_
      refine lv_aload_n hx hb dX8_followPath_19 rfl (lv_at hl 0 rfl) ?_
      refine va_get (D := D) (ci := 8) (v := .int f_fed) (C := RX8) (T := TX8) (N := 35) hx hb hts hi9 hown hK hP 0 rfl rfl 18 (by decide) g67 (fun _ h9 => h9) rfl dX8_followPath_20 ?_
      refine kcI (wc := [((rf 0), o8 rf f_terms f_runs f_leftAbove f_leftBelow f_rightAbove f_rightBelow f_listed f_fed f_read f_formed f_hasSnapshot), ((rf 18), ai cI 60 f_text), ((rf 20), ai cI 60 f_steps), ((rf 21), ai cI 60 f_towards)]) (wr := [((rf 1), ai cI 8 f_above), ((rf 2), ai cI 8 f_below)]) hP hD hS hA [0, 3, 4, 5] [1, 2] rfl rfl ⟨rfl, rfl, by decide⟩ (fun hPc hDc => rV (As := [.int f_fed]) (rest := []) C0 hK hN (c8_readText l D cI cJ cN cR rf H0.size f_terms f_runs f_leftAbove f_leftBelow f_rightAbove f_rightBelow f_listed f_fed f_read f_formed f_hasSnapshot f_text f_steps f_towards f_fed _ hw) 1 gX8_followPath_X8_readText rfl ⟨rfl, rfl⟩ nm8_readText ⟨Nat.le_of_ble_eq_true rfl, Nat.le_of_ble_eq_true rfl⟩ (q0 := 0) rfl rfl rfl rfl hl.1 rfl (Nat.le_of_ble_eq_true rfl) dX8_followPath_23 ⟨Nat.le_of_ble_eq_true rfl, Nat.le_of_ble_eq_true rfl⟩ hPc hDc) (fun r23 u23 H locs hw hP hD hS => ?_)
      obtain ⟨f_read_23, f_steps_23, f_towards_23⟩ := u23
      dsimp only at hw
      have hP : va_P D vwCl [((rf 1), ai cI 8 f_above), ((rf 2), ai cI 8 f_below), ((rf 0), o8 rf f_terms f_runs f_leftAbove f_leftBelow f_rightAbove f_rightBelow f_listed f_fed f_read_23 f_formed f_hasSnapshot), ((rf 18), ai cI 60 f_text), ((rf 20), ai cI 60 f_steps_23), ((rf 21), ai cI 60 f_towards_23)] H := hP
      have hD : va_D A [((rf 1), ai cI 8 f_above), ((rf 2), ai cI 8 f_below), ((rf 0), o8 rf f_terms f_runs f_leftAbove f_leftBelow f_rightAbove f_rightBelow f_listed f_fed f_read_23 f_formed f_hasSnapshot), ((rf 18), ai cI 60 f_text), ((rf 20), ai cI 60 f_steps_23), ((rf 21), ai cI 60 f_towards_23)] := hD
      refine lv_istore_n (lv' := [(3, .int r23), (0, .ref (rf 0)), (1, .int v1), (2, .int v2)]) hx hb dX8_followPath_26 rfl hl (by decide) rfl (fun ls hl => ?_)
      refine lv_aload_n hx hb dX8_followPath_27 rfl (lv_at hl 1 rfl) ?_
      refine lv_iconst (v := (0 : Int32)) hx hb dX8_followPath_28 (by decide) ?_
      refine va_put (D := D) (ci := 8) (v := .int (0 : Int32)) (ty := .int) (C := RX8) (T := TX8) (N := 35) hx hb hts hi9 tyX8 tyX8_ok nmX8 hown hK hP hD hS 2 rfl rfl 18 (by decide) g67 (fun _ h9 => h9) rfl (by decide +kernel) rfl rfl (Nat.le_of_ble_eq_true rfl) dX8_followPath_29 (fun H locs hP hD hS => ?_)
      have hP : va_P D vwCl [((rf 1), ai cI 8 f_above), ((rf 2), ai cI 8 f_below), ((rf 0), o8 rf f_terms f_runs f_leftAbove f_leftBelow f_rightAbove f_rightBelow f_listed (0 : Int32) f_read_23 f_formed f_hasSnapshot), ((rf 18), ai cI 60 f_text), ((rf 20), ai cI 60 f_steps_23), ((rf 21), ai cI 60 f_towards_23)] H := hP
      have hD : va_D A [((rf 1), ai cI 8 f_above), ((rf 2), ai cI 8 f_below), ((rf 0), o8 rf f_terms f_runs f_leftAbove f_leftBelow f_rightAbove f_rightBelow f_listed (0 : Int32) f_read_23 f_formed f_hasSnapshot), ((rf 18), ai cI 60 f_text), ((rf 20), ai cI 60 f_steps_23), ((rf 21), ai cI 60 f_towards_23)] := hD
      refine lv_iload_n hx hb dX8_followPath_32 rfl (lv_at hl 0 rfl) ?_
      refine lv_if_lt (tgt := 41) hx hb dX8_followPath_33 (by decide) (fun k => ?_) (fun k => ?_)
      · have hw := hw.1 k
        refine lv_aload_n hx hb dX8_followPath_41 rfl (lv_at hl 1 rfl) ?_
        refine va_get (D := D) (ci := 8) (v := .ref (rf 1)) (C := RX8) (T := TX8) (N := 35) hx hb hts hi9 hown hK hP 2 rfl rfl 0 (by decide) g7 (fun _ h9 => h9) rfl dX8_followPath_42 ?_
        refine lv_iload_n hx hb dX8_followPath_45 rfl (lv_at hl 3 rfl) ?_
        obtain ⟨hin, hw⟩ := hw
        refine va_iald hx hb hK hP 0 0 rfl rfl hin dX8_followPath_46 ?_
        refine lv_i2l hx hb dX8_followPath_47 rfl ?_
        refine lv_topl (fun x48 ex48 => ?_)
        have hw := hw x48 ex48
        refine lv_lstore (lv' := [(4, .long x48), (3, .int r23), (0, .ref (rf 0)), (1, .int v1), (2, .int v2)]) hx hb dX8_followPath_48 hl (by decide) rfl (fun ls hl => ?_)
        refine lv_aload_n hx hb dX8_followPath_50 rfl (lv_at hl 2 rfl) ?_
        refine va_get (D := D) (ci := 8) (v := .ref (rf 2)) (C := RX8) (T := TX8) (N := 35) hx hb hts hi9 hown hK hP 2 rfl rfl 1 (by decide) g13 (fun _ h9 => h9) rfl dX8_followPath_51 ?_
        refine lv_iload_n hx hb dX8_followPath_54 rfl (lv_at hl 4 rfl) ?_
        obtain ⟨hin, hw⟩ := hw
        refine va_iald hx hb hK hP 1 0 rfl rfl hin dX8_followPath_55 ?_
        refine lv_i2l hx hb dX8_followPath_56 rfl ?_
        refine lv_topl (fun x57 ex57 => ?_)
        have hw := hw x57 ex57
        refine lv_lstore (lv' := [(6, .long x57), (4, .long x48), (3, .int r23), (0, .ref (rf 0)), (1, .int v1), (2, .int v2)]) hx hb dX8_followPath_57 hl (by decide) rfl (fun ls hl => ?_)
        refine lv_aload_n hx hb dX8_followPath_59 rfl (lv_at hl 3 rfl) ?_
        refine va_get (D := D) (ci := 8) (v := .int f_read_23) (C := RX8) (T := TX8) (N := 35) hx hb hts hi9 hown hK hP 2 rfl rfl 21 (by decide) g76 (fun _ h9 => h9) rfl dX8_followPath_60 ?_
        refine lv_iconst (v := (1 : Int32)) hx hb dX8_followPath_63 (by decide) ?_
        refine lv_isub hx hb dX8_followPath_64 ?_
        refine lv_topi (fun x65 ex65 => ?_)
        have hw := hw x65 ex65
        refine lv_istore (lv' := [(8, .int x65), (6, .long x57), (4, .long x48), (3, .int r23), (0, .ref (rf 0)), (1, .int v1), (2, .int v2)]) hx hb dX8_followPath_65 hl (by decide) rfl (fun ls hl => ?_)
        obtain ⟨n67, hw⟩ := hw
        have LOOP_67 : ∀ (n67 : Nat) (v4 : Int64) (v6 : Int64) (v8 : Int32) (H : Heap) (locs : List Loc) (ls : Array Slot), w8_followPath_L67 (0 : Int32) f_read_23 f_above f_below f_steps_23 f_towards_23 v1 post n67 v4 v6 v8 → va_P D vwCl [((rf 0), o8 rf f_terms f_runs f_leftAbove f_leftBelow f_rightAbove f_rightBelow f_listed (0 : Int32) f_read_23 f_formed f_hasSnapshot), ((rf 1), ai cI 8 f_above), ((rf 2), ai cI 8 f_below), ((rf 18), ai cI 60 f_text), ((rf 20), ai cI 60 f_steps_23), ((rf 21), ai cI 60 f_towards_23)] H → va_D A [((rf 0), o8 rf f_terms f_runs f_leftAbove f_leftBelow f_rightAbove f_rightBelow f_listed (0 : Int32) f_read_23 f_formed f_hasSnapshot), ((rf 1), ai cI 8 f_above), ((rf 2), ai cI 8 f_below), ((rf 18), ai cI 60 f_text), ((rf 20), ai cI 60 f_steps_23), ((rf 21), ai cI 60 f_towards_23)] → va_S A H0 H locs → lv_has ls 9 [(0, .ref (rf 0)), (1, .int v1), (4, .long v4), (6, .long v6), (8, .int v8)] → W p l e rm8_followPath s m args below meth c H locs 0 0 Q (F0 m 67 ls []) := by
          clear hw hl hP hD hS
          intro n67
          induction n67 with
          | zero =>
            intro v4 v6 v8 H locs ls hw hP hD hS hl
            rw [w8_followPath_L67] at hw
            exact hw.elim
          | succ n67 ih67 =>
            intro v4 v6 v8 H locs ls hw hP hD hS hl
            rw [w8_followPath_L67] at hw
            have JOIN_118 : ∀ (v4 : Int64) (v6 : Int64) (v8 : Int32) (H : Heap) (locs : List Loc) (ls : Array Slot), w8_followPath_J118 (0 : Int32) f_read_23 f_above f_below f_steps_23 f_towards_23 v1 v4 v6 v8 post (fun z0 z1 z2 => w8_followPath_L67 (0 : Int32) f_read_23 f_above f_below f_steps_23 f_towards_23 v1 post n67 z0 z1 z2) → va_P D vwCl [((rf 0), o8 rf f_terms f_runs f_leftAbove f_leftBelow f_rightAbove f_rightBelow f_listed (0 : Int32) f_read_23 f_formed f_hasSnapshot), ((rf 1), ai cI 8 f_above), ((rf 2), ai cI 8 f_below), ((rf 18), ai cI 60 f_text), ((rf 20), ai cI 60 f_steps_23), ((rf 21), ai cI 60 f_towards_23)] H → va_D A [((rf 0), o8 rf f_terms f_runs f_leftAbove f_leftBelow f_rightAbove f_rightBelow f_listed (0 : Int32) f_read_23 f_formed f_hasSnapshot), ((rf 1), ai cI 8 f_above), ((rf 2), ai cI 8 f_below), ((rf 18), ai cI 60 f_text), ((rf 20), ai cI 60 f_steps_23), ((rf 21), ai cI 60 f_towards_23)] → va_S A H0 H locs → lv_has ls 9 [(0, .ref (rf 0)), (1, .int v1), (4, .long v4), (6, .long v6), (8, .int v8)] → W p l e rm8_followPath s m args below meth c H locs 0 0 Q (F0 m 118 ls []) := by
              intro v4 v6 v8 H locs ls hw hP hD hS hl
              unfold w8_followPath_J118 at hw
              refine lv_lload hx hb dX8_followPath_118 (lv_at hl 2 rfl) ?_
              refine lv_ldc2 (v := (1000000 : Int64)) hx hb hown (hts (.constantLong RX8 129 (1000000)) (by decide +kernel)) dX8_followPath_120 ?_
              refine W.lcmp hx hb dX8_followPath_123 ?_
              refine lv_if_gt (tgt := 136) hx hb dX8_followPath_124 (by decide) (fun k => ?_) (fun k => ?_)
              · have hw := hw.1 ((lg_cmp_gt _ _).mp k)
                refine lv_bipush (v := (-3 : Int32)) hx hb dX8_followPath_136 (by decide) ?_
                exact RET _ _ _ ((0 : Int32), f_read_23, f_above, f_below, f_steps_23, f_towards_23) _ _ hw hP hD hS dX8_followPath_138
              · have hw := hw.2 (fun h => k ((lg_cmp_gt _ _).mpr h))
                refine lv_lload hx hb dX8_followPath_127 (lv_at hl 3 rfl) ?_
                refine lv_ldc2 (v := (1000000 : Int64)) hx hb hown (hts (.constantLong RX8 129 (1000000)) (by decide +kernel)) dX8_followPath_129 ?_
                refine W.lcmp hx hb dX8_followPath_132 ?_
                refine lv_if_le (tgt := 139) hx hb dX8_followPath_133 (by decide) (fun k => ?_) (fun k => ?_)
                · have hw := hw.1 ((lg_cmp_le _ _).mp k)
                  obtain ⟨x139, ex139⟩ : ∃ y : Int32, y = (v8 + (-1 : Int32)) := ⟨_, rfl⟩
                  have hw := hw x139 ex139
                  refine lv_iinc (v := x139) (lv' := [(8, .int x139), (0, .ref (rf 0)), (1, .int v1), (4, .long v4), (6, .long v6)]) hx hb dX8_followPath_139 hl (k := 4) rfl (by rw [ex139]; rfl) (by decide) rfl (fun ls hl => ?_)
                  refine lv_goto (tgt := 67) hx hb dX8_followPath_142 (by decide) ?_
                  exact ih67 v4 v6 x139 _ _ ls hw hP hD hS (lv_sub hl [1, 2, 3, 4, 0] rfl)
                · have hw := hw.2 (fun h => k ((lg_cmp_le _ _).mpr h))
                  refine lv_bipush (v := (-3 : Int32)) hx hb dX8_followPath_136 (by decide) ?_
                  exact RET _ _ _ ((0 : Int32), f_read_23, f_above, f_below, f_steps_23, f_towards_23) _ _ hw hP hD hS dX8_followPath_138
            refine lv_iload hx hb dX8_followPath_67 (lv_at hl 4 rfl) ?_
            refine lv_if_lt (tgt := 145) hx hb dX8_followPath_69 (by decide) (fun k => ?_) (fun k => ?_)
            · have hw := hw.1 k
              refine lv_aload_n hx hb dX8_followPath_145 rfl (lv_at hl 0 rfl) ?_
              refine lv_iload_n hx hb dX8_followPath_146 rfl (lv_at hl 1 rfl) ?_
              refine lv_lload hx hb dX8_followPath_147 (lv_at hl 2 rfl) ?_
              refine lv_lload hx hb dX8_followPath_149 (lv_at hl 3 rfl) ?_
              refine kcI (wc := [((rf 0), o8 rf f_terms f_runs f_leftAbove f_leftBelow f_rightAbove f_rightBelow f_listed (0 : Int32) f_read_23 f_formed f_hasSnapshot), ((rf 1), ai cI 8 f_above), ((rf 2), ai cI 8 f_below)]) (wr := [((rf 18), ai cI 60 f_text), ((rf 20), ai cI 60 f_steps_23), ((rf 21), ai cI 60 f_towards_23)]) hP hD hS hA [0, 1, 2] [3, 4, 5] rfl rfl ⟨rfl, rfl, by decide⟩ (fun hPc hDc => rV (As := [.int v1, .long v4, .long v6]) (rest := []) C0 hK hN (c8_put l D cI cJ cN cR rf H.size f_terms f_runs f_leftAbove f_leftBelow f_rightAbove f_rightBelow f_listed (0 : Int32) f_read_23 f_formed f_hasSnapshot f_above f_below v1 v4 v6 _ hw) 3 gX8_followPath_X8_put rfl ⟨rfl, rfl⟩ nm8_put ⟨Nat.le_of_ble_eq_true rfl, Nat.le_of_ble_eq_true rfl⟩ (q0 := 0) rfl rfl rfl rfl hl.1 rfl (Nat.le_of_ble_eq_true rfl) dX8_followPath_151 ⟨Nat.le_of_ble_eq_true rfl, Nat.le_of_ble_eq_true rfl⟩ hPc hDc) (fun r151 u151 H locs hw hP hD hS => ?_)
              obtain ⟨f_above_151, f_below_151⟩ := u151
              dsimp only at hw
              have hP : va_P D vwCl [((rf 18), ai cI 60 f_text), ((rf 20), ai cI 60 f_steps_23), ((rf 21), ai cI 60 f_towards_23), ((rf 0), o8 rf f_terms f_runs f_leftAbove f_leftBelow f_rightAbove f_rightBelow f_listed (0 : Int32) f_read_23 f_formed f_hasSnapshot), ((rf 1), ai cI 8 f_above_151), ((rf 2), ai cI 8 f_below_151)] H := hP
              have hD : va_D A [((rf 18), ai cI 60 f_text), ((rf 20), ai cI 60 f_steps_23), ((rf 21), ai cI 60 f_towards_23), ((rf 0), o8 rf f_terms f_runs f_leftAbove f_leftBelow f_rightAbove f_rightBelow f_listed (0 : Int32) f_read_23 f_formed f_hasSnapshot), ((rf 1), ai cI 8 f_above_151), ((rf 2), ai cI 8 f_below_151)] := hD
              obtain ⟨hP, hD⟩ := k_sub (ws' := [((rf 0), o8 rf f_terms f_runs f_leftAbove f_leftBelow f_rightAbove f_rightBelow f_listed (0 : Int32) f_read_23 f_formed f_hasSnapshot), ((rf 1), ai cI 8 f_above_151), ((rf 2), ai cI 8 f_below_151), ((rf 18), ai cI 60 f_text), ((rf 20), ai cI 60 f_steps_23), ((rf 21), ai cI 60 f_towards_23)]) hP hD [3, 4, 5, 0, 1, 2] rfl rfl
              exact RET _ _ _ ((0 : Int32), f_read_23, f_above_151, f_below_151, f_steps_23, f_towards_23) _ _ hw hP hD hS dX8_followPath_154
            · have hw := hw.2 k
              refine lv_aload_n hx hb dX8_followPath_72 rfl (lv_at hl 0 rfl) ?_
              refine va_get (D := D) (ci := 8) (v := .ref (rf 21)) (C := RX8) (T := TX8) (N := 35) hx hb hts hi9 hown hK hP 0 rfl rfl 20 (by decide) g73 (fun _ h9 => h9) rfl dX8_followPath_73 ?_
              refine lv_iload hx hb dX8_followPath_76 (lv_at hl 4 rfl) ?_
              obtain ⟨hin, hw⟩ := hw
              refine va_iald hx hb hK hP 5 0 rfl rfl hin dX8_followPath_78 ?_
              refine lv_iconst (v := (1 : Int32)) hx hb dX8_followPath_79 (by decide) ?_
              refine lv_icmp_ne (tgt := 102) hx hb dX8_followPath_80 (by decide) (fun k => ?_) (fun k => ?_)
              · have hw := hw.1 k
                refine lv_lload hx hb dX8_followPath_102 (lv_at hl 3 rfl) ?_
                refine lv_aload_n hx hb dX8_followPath_104 rfl (lv_at hl 0 rfl) ?_
                refine va_get (D := D) (ci := 8) (v := .ref (rf 20)) (C := RX8) (T := TX8) (N := 35) hx hb hts hi9 hown hK hP 0 rfl rfl 19 (by decide) g70 (fun _ h9 => h9) rfl dX8_followPath_105 ?_
                refine lv_iload hx hb dX8_followPath_108 (lv_at hl 4 rfl) ?_
                obtain ⟨hin, hw⟩ := hw
                refine va_iald hx hb hK hP 4 0 rfl rfl hin dX8_followPath_110 ?_
                refine lv_i2l hx hb dX8_followPath_111 rfl ?_
                refine lv_lload hx hb dX8_followPath_112 (lv_at hl 2 rfl) ?_
                refine lv_lmul hx hb dX8_followPath_114 ?_
                refine lv_ladd hx hb dX8_followPath_115 ?_
                refine lv_topl (fun x116 ex116 => ?_)
                have hw := hw x116 ex116
                refine lv_lstore (lv' := [(6, .long x116), (0, .ref (rf 0)), (1, .int v1), (4, .long v4), (8, .int v8)]) hx hb dX8_followPath_116 hl (by decide) rfl (fun ls hl => ?_)
                exact JOIN_118 v4 x116 v8 _ _ ls hw hP hD hS (lv_sub hl [1, 2, 3, 0, 4] rfl)
              · have hw := hw.2 k
                refine lv_lload hx hb dX8_followPath_83 (lv_at hl 2 rfl) ?_
                refine lv_aload_n hx hb dX8_followPath_85 rfl (lv_at hl 0 rfl) ?_
                refine va_get (D := D) (ci := 8) (v := .ref (rf 20)) (C := RX8) (T := TX8) (N := 35) hx hb hts hi9 hown hK hP 0 rfl rfl 19 (by decide) g70 (fun _ h9 => h9) rfl dX8_followPath_86 ?_
                refine lv_iload hx hb dX8_followPath_89 (lv_at hl 4 rfl) ?_
                obtain ⟨hin, hw⟩ := hw
                refine va_iald hx hb hK hP 4 0 rfl rfl hin dX8_followPath_91 ?_
                refine lv_i2l hx hb dX8_followPath_92 rfl ?_
                refine lv_lload hx hb dX8_followPath_93 (lv_at hl 3 rfl) ?_
                refine lv_lmul hx hb dX8_followPath_95 ?_
                refine lv_ladd hx hb dX8_followPath_96 ?_
                refine lv_topl (fun x97 ex97 => ?_)
                have hw := hw x97 ex97
                refine lv_lstore (lv' := [(4, .long x97), (0, .ref (rf 0)), (1, .int v1), (6, .long v6), (8, .int v8)]) hx hb dX8_followPath_97 hl (by decide) rfl (fun ls hl => ?_)
                refine lv_goto (tgt := 118) hx hb dX8_followPath_99 (by decide) ?_
                exact JOIN_118 x97 v6 v8 _ _ ls hw hP hD hS (lv_sub hl [1, 2, 0, 3, 4] rfl)
        obtain ⟨hP, hD⟩ := k_sub (ws' := [((rf 0), o8 rf f_terms f_runs f_leftAbove f_leftBelow f_rightAbove f_rightBelow f_listed (0 : Int32) f_read_23 f_formed f_hasSnapshot), ((rf 1), ai cI 8 f_above), ((rf 2), ai cI 8 f_below), ((rf 18), ai cI 60 f_text), ((rf 20), ai cI 60 f_steps_23), ((rf 21), ai cI 60 f_towards_23)]) hP hD [2, 0, 1, 3, 4, 5] rfl rfl
        exact LOOP_67 n67 x48 x57 x65 _ _ ls hw hP hD hS (lv_sub hl [4, 5, 2, 1, 0] rfl)
      · have hw := hw.2 k
        refine lv_bipush (v := (-100 : Int32)) hx hb dX8_followPath_36 (by decide) ?_
        refine lv_iload_n hx hb dX8_followPath_38 rfl (lv_at hl 0 rfl) ?_
        refine lv_isub hx hb dX8_followPath_39 ?_
        obtain ⟨hP, hD⟩ := k_sub (ws' := [((rf 0), o8 rf f_terms f_runs f_leftAbove f_leftBelow f_rightAbove f_rightBelow f_listed (0 : Int32) f_read_23 f_formed f_hasSnapshot), ((rf 1), ai cI 8 f_above), ((rf 2), ai cI 8 f_below), ((rf 18), ai cI 60 f_text), ((rf 20), ai cI 60 f_steps_23), ((rf 21), ai cI 60 f_towards_23)]) hP hD [2, 0, 1, 3, 4, 5] rfl rfl
        exact RET _ _ _ ((0 : Int32), f_read_23, f_above, f_below, f_steps_23, f_towards_23) _ _ hw hP hD hS dX8_followPath_40
    · have hw := hw.2 k
      refine lv_iconst (v := (-1 : Int32)) hx hb dX8_followPath_16 (by decide) ?_
      exact RET _ _ _ (f_fed, f_read, f_above, f_below, f_steps, f_towards) _ _ hw hP hD hS dX8_followPath_17
abbrev rm8_layForm : Room := { frames := 2, cells := 0, slots := 0, locals := 49 }
theorem nm8_layForm : kNm yX8_layForm 2 := by decide +kernel
set_option maxHeartbeats 4000000 in
set_option maxRecDepth 100000 in
theorem c8_layForm (l : Launch) (D : va_G) (cI cJ cN cR : ClassId) (rf : Nat → Nat) (sz : Nat) (f_terms : Int32) (f_runs : Int32) (f_leftAbove : Int64) (f_leftBelow : Int64) (f_rightAbove : Int64) (f_rightBelow : Int64) (f_listed : Int32) (f_fed : Int32) (f_read : Int32) (f_formed : Int32) (f_hasSnapshot : Int32) (f_term : (Nat → Int32)) (f_run : (Nat → Int32)) (f_isRight : (Nat → Int32)) (f_form : (Nat → Int32)) (v1 : Int32) (v2 : Int32) (post : Int32 → Int32 → Int32 → (Nat → Int32) → (Nat → Int32) → (Nat → Int32) → (Nat → Int32) → Prop) (hw : w8_layForm f_terms f_runs f_formed f_term f_run f_isRight f_form v1 v2 post) : Met l yX8_layForm wsX8_layForm rm8_layForm (kP D (kT cI cJ cN cR) sz [.ref (rf 0), .int v1, .int v2] [((rf 0), o8 rf f_terms f_runs f_leftAbove f_leftBelow f_rightAbove f_rightBelow f_listed f_fed f_read f_formed f_hasSnapshot), ((rf 3), ai cI 64 f_term), ((rf 4), ai cI 64 f_run), ((rf 5), ai cI 64 f_isRight), ((rf 23), ai cI 500 f_form)]) (kQv D [((rf 0), o8 rf f_terms f_runs f_leftAbove f_leftBelow f_rightAbove f_rightBelow f_listed f_fed f_read f_formed f_hasSnapshot), ((rf 3), ai cI 64 f_term), ((rf 4), ai cI 64 f_run), ((rf 5), ai cI 64 f_isRight), ((rf 23), ai cI 500 f_form)] sz (fun (u : Int32 × Int32 × Int32 × (Nat → Int32) × (Nat → Int32) × (Nat → Int32) × (Nat → Int32)) => post u.1 u.2.1 u.2.2.1 u.2.2.2.1 u.2.2.2.2.1 u.2.2.2.2.2.1 u.2.2.2.2.2.2) (fun (u : Int32 × Int32 × Int32 × (Nat → Int32) × (Nat → Int32) × (Nat → Int32) × (Nat → Int32)) => [((rf 0), o8 rf u.1 u.2.1 f_leftAbove f_leftBelow f_rightAbove f_rightBelow f_listed f_fed f_read u.2.2.1 f_hasSnapshot), ((rf 3), ai cI 64 u.2.2.2.1), ((rf 4), ai cI 64 u.2.2.2.2.1), ((rf 5), ai cI 64 u.2.2.2.2.2.1), ((rf 23), ai cI 500 u.2.2.2.2.2.2)])) 0 0 (va_A [((rf 0), o8 rf f_terms f_runs f_leftAbove f_leftBelow f_rightAbove f_rightBelow f_listed f_fed f_read f_formed f_hasSnapshot), ((rf 3), ai cI 64 f_term), ((rf 4), ai cI 64 f_run), ((rf 5), ai cI 64 f_isRight), ((rf 23), ai cI 500 f_form)] sz) := by
  refine kMetV (cc := cX8_layForm) (maxL := 5) (by decide +kernel) rfl (Nat.le_of_ble_eq_true rfl) ?_
  intro p e s m args below meth c H0 ls A Q C0 hK hN hP hD hS hA hl RET
  obtain ⟨hx, hb, hml, hown, hts⟩ := id C0
  have hl : lv_has ls 5 [(0, .ref (rf 0)), (1, .int v1), (2, .int v2)] := hl
  have g82 := hts (.fieldLink RX8 82 "SternBrocotExplorerModel" "formed" "I") (by decide +kernel)
  have g29 := hts (.fieldLink RX8 29 "SternBrocotExplorerModel" "runs" "I") (by decide +kernel)
  have g79 := hts (.fieldLink RX8 79 "SternBrocotExplorerModel" "form" "[I") (by decide +kernel)
  have g22 := hts (.fieldLink RX8 22 "SternBrocotExplorerModel" "isRight" "[I") (by decide +kernel)
  have g19 := hts (.fieldLink RX8 19 "SternBrocotExplorerModel" "run" "[I") (by decide +kernel)
  have hi9 : ∀ w ∈ wsX80, w ∈ wsX8_layForm := fun w h => List.mem_cons_of_mem _ (List.mem_append_right _ h)
  unfold w8_layForm at hw
  have hP : va_P D vwCl [((rf 0), o8 rf f_terms f_runs f_leftAbove f_leftBelow f_rightAbove f_rightBelow f_listed f_fed f_read f_formed f_hasSnapshot), ((rf 3), ai cI 64 f_term), ((rf 4), ai cI 64 f_run), ((rf 5), ai cI 64 f_isRight), ((rf 23), ai cI 500 f_form)] H0 := hP
  refine lv_aload_n hx hb dX8_layForm_0 rfl (lv_at hl 0 rfl) ?_
  refine lv_iload_n hx hb dX8_layForm_1 rfl (lv_at hl 1 rfl) ?_
  refine lv_iload_n hx hb dX8_layForm_2 rfl (lv_at hl 2 rfl) ?_
  refine kcV (wc := [((rf 0), o8 rf f_terms f_runs f_leftAbove f_leftBelow f_rightAbove f_rightBelow f_listed f_fed f_read f_formed f_hasSnapshot), ((rf 3), ai cI 64 f_term), ((rf 4), ai cI 64 f_run), ((rf 5), ai cI 64 f_isRight)]) (wr := [((rf 23), ai cI 500 f_form)]) hP hD hS hA [0, 1, 2, 3] [4] rfl rfl ⟨rfl, rfl, by decide⟩ (fun hPc hDc => rV (As := [.int v1, .int v2]) (rest := []) C0 hK hN (c8_layRuns l D cI cJ cN cR rf H0.size f_terms f_runs f_leftAbove f_leftBelow f_rightAbove f_rightBelow f_listed f_fed f_read f_formed f_hasSnapshot f_term f_run f_isRight v1 v2 _ hw) 2 gX8_layForm_X8_layRuns rfl ⟨rfl, rfl⟩ nm8_layRuns ⟨Nat.le_of_ble_eq_true rfl, Nat.le_of_ble_eq_true rfl⟩ (q0 := 0) rfl rfl rfl rfl hl.1 rfl (Nat.le_of_ble_eq_true rfl) dX8_layForm_3 ⟨Nat.le_of_ble_eq_true rfl, Nat.le_of_ble_eq_true rfl⟩ hPc hDc) (fun u3 H locs hw hP hD hS => ?_)
  obtain ⟨f_terms_3, f_runs_3, f_term_3, f_run_3, f_isRight_3⟩ := u3
  dsimp only at hw
  have hP : va_P D vwCl [((rf 23), ai cI 500 f_form), ((rf 0), o8 rf f_terms_3 f_runs_3 f_leftAbove f_leftBelow f_rightAbove f_rightBelow f_listed f_fed f_read f_formed f_hasSnapshot), ((rf 3), ai cI 64 f_term_3), ((rf 4), ai cI 64 f_run_3), ((rf 5), ai cI 64 f_isRight_3)] H := hP
  have hD : va_D A [((rf 23), ai cI 500 f_form), ((rf 0), o8 rf f_terms_3 f_runs_3 f_leftAbove f_leftBelow f_rightAbove f_rightBelow f_listed f_fed f_read f_formed f_hasSnapshot), ((rf 3), ai cI 64 f_term_3), ((rf 4), ai cI 64 f_run_3), ((rf 5), ai cI 64 f_isRight_3)] := hD
  refine lv_aload_n hx hb dX8_layForm_6 rfl (lv_at hl 0 rfl) ?_
  refine lv_iconst (v := (0 : Int32)) hx hb dX8_layForm_7 (by decide) ?_
  refine va_put (D := D) (ci := 8) (v := .int (0 : Int32)) (ty := .int) (C := RX8) (T := TX8) (N := 35) hx hb hts hi9 tyX8 tyX8_ok nmX8 hown hK hP hD hS 1 rfl rfl 23 (by decide) g82 (fun _ h9 => h9) rfl (by decide +kernel) rfl rfl (Nat.le_of_ble_eq_true rfl) dX8_layForm_8 (fun H locs hP hD hS => ?_)
  have hP : va_P D vwCl [((rf 23), ai cI 500 f_form), ((rf 0), o8 rf f_terms_3 f_runs_3 f_leftAbove f_leftBelow f_rightAbove f_rightBelow f_listed f_fed f_read (0 : Int32) f_hasSnapshot), ((rf 3), ai cI 64 f_term_3), ((rf 4), ai cI 64 f_run_3), ((rf 5), ai cI 64 f_isRight_3)] H := hP
  have hD : va_D A [((rf 23), ai cI 500 f_form), ((rf 0), o8 rf f_terms_3 f_runs_3 f_leftAbove f_leftBelow f_rightAbove f_rightBelow f_listed f_fed f_read (0 : Int32) f_hasSnapshot), ((rf 3), ai cI 64 f_term_3), ((rf 4), ai cI 64 f_run_3), ((rf 5), ai cI 64 f_isRight_3)] := hD
  refine lv_iconst (v := (0 : Int32)) hx hb dX8_layForm_11 (by decide) ?_
  refine lv_istore_n (lv' := [(3, .int (0 : Int32)), (0, .ref (rf 0)), (1, .int v1), (2, .int v2)]) hx hb dX8_layForm_12 rfl hl (by decide) rfl (fun ls hl => ?_)
  obtain ⟨n13, hw⟩ := hw
  have LOOP_13 : ∀ (n13 : Nat) (v3 : Int32) (f_formed : Int32) (f_form : (Nat → Int32)) (H : Heap) (locs : List Loc) (ls : Array Slot), w8_layForm_L13 f_terms_3 f_runs_3 f_term_3 f_run_3 f_isRight_3 post n13 v3 f_formed f_form → va_P D vwCl [((rf 0), o8 rf f_terms_3 f_runs_3 f_leftAbove f_leftBelow f_rightAbove f_rightBelow f_listed f_fed f_read f_formed f_hasSnapshot), ((rf 3), ai cI 64 f_term_3), ((rf 4), ai cI 64 f_run_3), ((rf 5), ai cI 64 f_isRight_3), ((rf 23), ai cI 500 f_form)] H → va_D A [((rf 0), o8 rf f_terms_3 f_runs_3 f_leftAbove f_leftBelow f_rightAbove f_rightBelow f_listed f_fed f_read f_formed f_hasSnapshot), ((rf 3), ai cI 64 f_term_3), ((rf 4), ai cI 64 f_run_3), ((rf 5), ai cI 64 f_isRight_3), ((rf 23), ai cI 500 f_form)] → va_S A H0 H locs → lv_has ls 5 [(0, .ref (rf 0)), (3, .int v3)] → W p l e rm8_layForm s m args below meth c H locs 0 0 Q (F0 m 13 ls []) := by
    clear hw hl hP hD hS
    intro n13
    induction n13 with
    | zero =>
      intro v3 f_formed f_form H locs ls hw hP hD hS hl
      rw [w8_layForm_L13] at hw
      exact hw.elim
    | succ n13 ih13 =>
      intro v3 f_formed f_form H locs ls hw hP hD hS hl
      rw [w8_layForm_L13] at hw
      have JOIN_46 : ∀ (v3 : Int32) (f_formed : Int32) (f_form : (Nat → Int32)) (s0 : Int32) (s1 : Int32) (H : Heap) (locs : List Loc) (ls : Array Slot), w8_layForm_J46 f_terms_3 f_runs_3 f_formed f_term_3 f_run_3 f_isRight_3 f_form v3 s0 s1 post (fun z0 z1 z2 => w8_layForm_L13 f_terms_3 f_runs_3 f_term_3 f_run_3 f_isRight_3 post n13 z0 z1 z2) → va_P D vwCl [((rf 0), o8 rf f_terms_3 f_runs_3 f_leftAbove f_leftBelow f_rightAbove f_rightBelow f_listed f_fed f_read f_formed f_hasSnapshot), ((rf 3), ai cI 64 f_term_3), ((rf 4), ai cI 64 f_run_3), ((rf 5), ai cI 64 f_isRight_3), ((rf 23), ai cI 500 f_form)] H → va_D A [((rf 0), o8 rf f_terms_3 f_runs_3 f_leftAbove f_leftBelow f_rightAbove f_rightBelow f_listed f_fed f_read f_formed f_hasSnapshot), ((rf 3), ai cI 64 f_term_3), ((rf 4), ai cI 64 f_run_3), ((rf 5), ai cI 64 f_isRight_3), ((rf 23), ai cI 500 f_form)] → va_S A H0 H locs → lv_has ls 5 [(0, .ref (rf 0)), (3, .int v3)] → W p l e rm8_layForm s m args below meth c H locs 0 0 Q (F0 m 46 ls [.int s0, .int s1, .ref (rf 23)]) := by
        intro v3 f_formed f_form s0 s1 H locs ls hw hP hD hS hl
        unfold w8_layForm_J46 at hw
        obtain ⟨hin, hw⟩ := hw
        refine va_iast hx hb hK hP hD hS 4 0 rfl rfl hin dX8_layForm_46 (fun H locs hP hD hS => ?_)
        have hP : va_P D vwCl [((rf 0), o8 rf f_terms_3 f_runs_3 f_leftAbove f_leftBelow f_rightAbove f_rightBelow f_listed f_fed f_read f_formed f_hasSnapshot), ((rf 3), ai cI 64 f_term_3), ((rf 4), ai cI 64 f_run_3), ((rf 5), ai cI 64 f_isRight_3), ((rf 23), ai cI 500 (upd f_form s1.toNatClampNeg s0))] H := hP
        have hD : va_D A [((rf 0), o8 rf f_terms_3 f_runs_3 f_leftAbove f_leftBelow f_rightAbove f_rightBelow f_listed f_fed f_read f_formed f_hasSnapshot), ((rf 3), ai cI 64 f_term_3), ((rf 4), ai cI 64 f_run_3), ((rf 5), ai cI 64 f_isRight_3), ((rf 23), ai cI 500 (upd f_form s1.toNatClampNeg s0))] := hD
        refine lv_aload_n hx hb dX8_layForm_47 rfl (lv_at hl 0 rfl) ?_
        refine lv_dup hx hb dX8_layForm_48 rfl ?_
        refine va_get (D := D) (ci := 8) (v := .int f_formed) (C := RX8) (T := TX8) (N := 35) hx hb hts hi9 hown hK hP 0 rfl rfl 23 (by decide) g82 (fun _ h9 => h9) rfl dX8_layForm_49 ?_
        refine lv_iconst (v := (1 : Int32)) hx hb dX8_layForm_52 (by decide) ?_
        refine lv_iadd hx hb dX8_layForm_53 ?_
        refine lv_topi (fun x54 ex54 => ?_)
        have hw := hw x54 ex54
        refine va_put (D := D) (ci := 8) (v := .int x54) (ty := .int) (C := RX8) (T := TX8) (N := 35) hx hb hts hi9 tyX8 tyX8_ok nmX8 hown hK hP hD hS 0 rfl rfl 23 (by decide) g82 (fun _ h9 => h9) rfl (by decide +kernel) rfl rfl (Nat.le_of_ble_eq_true rfl) dX8_layForm_54 (fun H locs hP hD hS => ?_)
        have hP : va_P D vwCl [((rf 0), o8 rf f_terms_3 f_runs_3 f_leftAbove f_leftBelow f_rightAbove f_rightBelow f_listed f_fed f_read x54 f_hasSnapshot), ((rf 3), ai cI 64 f_term_3), ((rf 4), ai cI 64 f_run_3), ((rf 5), ai cI 64 f_isRight_3), ((rf 23), ai cI 500 (upd f_form s1.toNatClampNeg s0))] H := hP
        have hD : va_D A [((rf 0), o8 rf f_terms_3 f_runs_3 f_leftAbove f_leftBelow f_rightAbove f_rightBelow f_listed f_fed f_read x54 f_hasSnapshot), ((rf 3), ai cI 64 f_term_3), ((rf 4), ai cI 64 f_run_3), ((rf 5), ai cI 64 f_isRight_3), ((rf 23), ai cI 500 (upd f_form s1.toNatClampNeg s0))] := hD
        refine lv_iconst (v := (1 : Int32)) hx hb dX8_layForm_57 (by decide) ?_
        refine lv_istore (lv' := [(4, .int (1 : Int32)), (0, .ref (rf 0)), (3, .int v3)]) hx hb dX8_layForm_58 hl (by decide) rfl (fun ls hl => ?_)
        obtain ⟨n60, hw⟩ := hw
        have LOOP_60 : ∀ (n60 : Nat) (v4 : Int32) (H : Heap) (locs : List Loc) (ls : Array Slot), w8_layForm_L60 f_terms_3 f_runs_3 x54 f_term_3 f_run_3 f_isRight_3 (upd f_form s1.toNatClampNeg s0) v3 post (fun z0 z1 z2 => w8_layForm_L13 f_terms_3 f_runs_3 f_term_3 f_run_3 f_isRight_3 post n13 z0 z1 z2) n60 v4 → va_P D vwCl [((rf 0), o8 rf f_terms_3 f_runs_3 f_leftAbove f_leftBelow f_rightAbove f_rightBelow f_listed f_fed f_read x54 f_hasSnapshot), ((rf 3), ai cI 64 f_term_3), ((rf 4), ai cI 64 f_run_3), ((rf 5), ai cI 64 f_isRight_3), ((rf 23), ai cI 500 (upd f_form s1.toNatClampNeg s0))] H → va_D A [((rf 0), o8 rf f_terms_3 f_runs_3 f_leftAbove f_leftBelow f_rightAbove f_rightBelow f_listed f_fed f_read x54 f_hasSnapshot), ((rf 3), ai cI 64 f_term_3), ((rf 4), ai cI 64 f_run_3), ((rf 5), ai cI 64 f_isRight_3), ((rf 23), ai cI 500 (upd f_form s1.toNatClampNeg s0))] → va_S A H0 H locs → lv_has ls 5 [(0, .ref (rf 0)), (3, .int v3), (4, .int v4)] → W p l e rm8_layForm s m args below meth c H locs 0 0 Q (F0 m 60 ls []) := by
          clear hw hl hP hD hS
          intro n60
          induction n60 with
          | zero =>
            intro v4 H locs ls hw hP hD hS hl
            rw [w8_layForm_L60] at hw
            exact hw.elim
          | succ n60 ih60 =>
            intro v4 H locs ls hw hP hD hS hl
            rw [w8_layForm_L60] at hw
            refine lv_aload_n hx hb dX8_layForm_60 rfl (lv_at hl 0 rfl) ?_
            refine va_get (D := D) (ci := 8) (v := .ref (rf 4)) (C := RX8) (T := TX8) (N := 35) hx hb hts hi9 hown hK hP 0 rfl rfl 3 (by decide) g19 (fun _ h9 => h9) rfl dX8_layForm_61 ?_
            refine lv_iload_n hx hb dX8_layForm_64 rfl (lv_at hl 1 rfl) ?_
            obtain ⟨hin, hw⟩ := hw
            refine va_iald hx hb hK hP 2 0 rfl rfl hin dX8_layForm_65 ?_
            refine lv_iload hx hb dX8_layForm_66 (lv_at hl 2 rfl) ?_
            obtain ⟨hne, hw⟩ := hw
            refine lv_idiv hx hb dX8_layForm_68 hne ?_
            refine lv_bipush (v := (10 : Int32)) hx hb dX8_layForm_69 (by decide) ?_
            refine lv_icmp_lt (tgt := 84) hx hb dX8_layForm_71 (by decide) (fun k => ?_) (fun k => ?_)
            · have hw := hw.1 k
              obtain ⟨n84, hw⟩ := hw
              have LOOP_84 : ∀ (n84 : Nat) (v4 : Int32) (f_formed : Int32) (f_form : (Nat → Int32)) (H : Heap) (locs : List Loc) (ls : Array Slot), w8_layForm_L84 f_terms_3 f_runs_3 f_term_3 f_run_3 f_isRight_3 v3 post (fun z0 z1 z2 => w8_layForm_L13 f_terms_3 f_runs_3 f_term_3 f_run_3 f_isRight_3 post n13 z0 z1 z2) n84 v4 f_formed f_form → va_P D vwCl [((rf 0), o8 rf f_terms_3 f_runs_3 f_leftAbove f_leftBelow f_rightAbove f_rightBelow f_listed f_fed f_read f_formed f_hasSnapshot), ((rf 3), ai cI 64 f_term_3), ((rf 4), ai cI 64 f_run_3), ((rf 5), ai cI 64 f_isRight_3), ((rf 23), ai cI 500 f_form)] H → va_D A [((rf 0), o8 rf f_terms_3 f_runs_3 f_leftAbove f_leftBelow f_rightAbove f_rightBelow f_listed f_fed f_read f_formed f_hasSnapshot), ((rf 3), ai cI 64 f_term_3), ((rf 4), ai cI 64 f_run_3), ((rf 5), ai cI 64 f_isRight_3), ((rf 23), ai cI 500 f_form)] → va_S A H0 H locs → lv_has ls 5 [(0, .ref (rf 0)), (3, .int v3), (4, .int v4)] → W p l e rm8_layForm s m args below meth c H locs 0 0 Q (F0 m 84 ls []) := by
                clear hw hl hP hD hS
                intro n84
                induction n84 with
                | zero =>
                  intro v4 f_formed f_form H locs ls hw hP hD hS hl
                  rw [w8_layForm_L84] at hw
                  exact hw.elim
                | succ n84 ih84 =>
                  intro v4 f_formed f_form H locs ls hw hP hD hS hl
                  rw [w8_layForm_L84] at hw
                  refine lv_iload hx hb dX8_layForm_84 (lv_at hl 2 rfl) ?_
                  refine lv_if_le (tgt := 143) hx hb dX8_layForm_86 (by decide) (fun k => ?_) (fun k => ?_)
                  · have hw := hw.1 k
                    obtain ⟨x143, ex143⟩ : ∃ y : Int32, y = (v3 + (1 : Int32)) := ⟨_, rfl⟩
                    have hw := hw x143 ex143
                    refine lv_iinc (v := x143) (lv' := [(3, .int x143), (0, .ref (rf 0)), (4, .int v4)]) hx hb dX8_layForm_143 hl (k := 1) rfl (by rw [ex143]; rfl) (by decide) rfl (fun ls hl => ?_)
                    refine lv_goto (tgt := 13) hx hb dX8_layForm_146 (by decide) ?_
                    exact ih13 x143 f_formed f_form _ _ ls hw hP hD hS (lv_sub hl [1, 0] rfl)
                  · have hw := hw.2 k
                    refine lv_aload_n hx hb dX8_layForm_89 rfl (lv_at hl 0 rfl) ?_
                    refine va_get (D := D) (ci := 8) (v := .ref (rf 4)) (C := RX8) (T := TX8) (N := 35) hx hb hts hi9 hown hK hP 0 rfl rfl 3 (by decide) g19 (fun _ h9 => h9) rfl dX8_layForm_90 ?_
                    refine lv_iload_n hx hb dX8_layForm_93 rfl (lv_at hl 1 rfl) ?_
                    obtain ⟨hin, hw⟩ := hw
                    refine va_iald hx hb hK hP 2 0 rfl rfl hin dX8_layForm_94 ?_
                    refine lv_iconst (v := (1 : Int32)) hx hb dX8_layForm_95 (by decide) ?_
                    refine lv_icmp_le (tgt := 143) hx hb dX8_layForm_96 (by decide) (fun k => ?_) (fun k => ?_)
                    · have hw := hw.1 k
                      obtain ⟨x143, ex143⟩ : ∃ y : Int32, y = (v3 + (1 : Int32)) := ⟨_, rfl⟩
                      have hw := hw x143 ex143
                      refine lv_iinc (v := x143) (lv' := [(3, .int x143), (0, .ref (rf 0)), (4, .int v4)]) hx hb dX8_layForm_143 hl (k := 1) rfl (by rw [ex143]; rfl) (by decide) rfl (fun ls hl => ?_)
                      refine lv_goto (tgt := 13) hx hb dX8_layForm_146 (by decide) ?_
                      exact ih13 x143 f_formed f_form _ _ ls hw hP hD hS (lv_sub hl [1, 0] rfl)
                    · have hw := hw.2 k
                      refine lv_aload_n hx hb dX8_layForm_99 rfl (lv_at hl 0 rfl) ?_
                      refine va_get (D := D) (ci := 8) (v := .ref (rf 23)) (C := RX8) (T := TX8) (N := 35) hx hb hts hi9 hown hK hP 0 rfl rfl 22 (by decide) g79 (fun _ h9 => h9) rfl dX8_layForm_100 ?_
                      refine lv_aload_n hx hb dX8_layForm_103 rfl (lv_at hl 0 rfl) ?_
                      refine va_get (D := D) (ci := 8) (v := .int f_formed) (C := RX8) (T := TX8) (N := 35) hx hb hts hi9 hown hK hP 0 rfl rfl 23 (by decide) g82 (fun _ h9 => h9) rfl dX8_layForm_104 ?_
                      refine lv_bipush (v := (48 : Int32)) hx hb dX8_layForm_107 (by decide) ?_
                      refine lv_aload_n hx hb dX8_layForm_109 rfl (lv_at hl 0 rfl) ?_
                      refine va_get (D := D) (ci := 8) (v := .ref (rf 4)) (C := RX8) (T := TX8) (N := 35) hx hb hts hi9 hown hK hP 0 rfl rfl 3 (by decide) g19 (fun _ h9 => h9) rfl dX8_layForm_110 ?_
                      refine lv_iload_n hx hb dX8_layForm_113 rfl (lv_at hl 1 rfl) ?_
                      obtain ⟨hin, hw⟩ := hw
                      refine va_iald hx hb hK hP 2 0 rfl rfl hin dX8_layForm_114 ?_
                      refine lv_iload hx hb dX8_layForm_115 (lv_at hl 2 rfl) ?_
                      obtain ⟨hne, hw⟩ := hw
                      refine lv_idiv hx hb dX8_layForm_117 hne ?_
                      refine lv_bipush (v := (10 : Int32)) hx hb dX8_layForm_118 (by decide) ?_
                      obtain ⟨hne, hw⟩ := hw
                      refine lv_irem hx hb dX8_layForm_120 hne ?_
                      refine lv_iadd hx hb dX8_layForm_121 ?_
                      obtain ⟨hin, hw⟩ := hw
                      refine va_iast hx hb hK hP hD hS 4 0 rfl rfl hin dX8_layForm_122 (fun H locs hP hD hS => ?_)
                      have hP : va_P D vwCl [((rf 0), o8 rf f_terms_3 f_runs_3 f_leftAbove f_leftBelow f_rightAbove f_rightBelow f_listed f_fed f_read f_formed f_hasSnapshot), ((rf 3), ai cI 64 f_term_3), ((rf 4), ai cI 64 f_run_3), ((rf 5), ai cI 64 f_isRight_3), ((rf 23), ai cI 500 (upd f_form f_formed.toNatClampNeg ((48 : Int32) + (((f_run_3 v3.toNatClampNeg) / v4) - (((f_run_3 v3.toNatClampNeg) / v4) / (10 : Int32)) * (10 : Int32)))))] H := hP
                      have hD : va_D A [((rf 0), o8 rf f_terms_3 f_runs_3 f_leftAbove f_leftBelow f_rightAbove f_rightBelow f_listed f_fed f_read f_formed f_hasSnapshot), ((rf 3), ai cI 64 f_term_3), ((rf 4), ai cI 64 f_run_3), ((rf 5), ai cI 64 f_isRight_3), ((rf 23), ai cI 500 (upd f_form f_formed.toNatClampNeg ((48 : Int32) + (((f_run_3 v3.toNatClampNeg) / v4) - (((f_run_3 v3.toNatClampNeg) / v4) / (10 : Int32)) * (10 : Int32)))))] := hD
                      refine lv_aload_n hx hb dX8_layForm_123 rfl (lv_at hl 0 rfl) ?_
                      refine lv_dup hx hb dX8_layForm_124 rfl ?_
                      refine va_get (D := D) (ci := 8) (v := .int f_formed) (C := RX8) (T := TX8) (N := 35) hx hb hts hi9 hown hK hP 0 rfl rfl 23 (by decide) g82 (fun _ h9 => h9) rfl dX8_layForm_125 ?_
                      refine lv_iconst (v := (1 : Int32)) hx hb dX8_layForm_128 (by decide) ?_
                      refine lv_iadd hx hb dX8_layForm_129 ?_
                      refine lv_topi (fun x130 ex130 => ?_)
                      have hw := hw x130 ex130
                      refine va_put (D := D) (ci := 8) (v := .int x130) (ty := .int) (C := RX8) (T := TX8) (N := 35) hx hb hts hi9 tyX8 tyX8_ok nmX8 hown hK hP hD hS 0 rfl rfl 23 (by decide) g82 (fun _ h9 => h9) rfl (by decide +kernel) rfl rfl (Nat.le_of_ble_eq_true rfl) dX8_layForm_130 (fun H locs hP hD hS => ?_)
                      have hP : va_P D vwCl [((rf 0), o8 rf f_terms_3 f_runs_3 f_leftAbove f_leftBelow f_rightAbove f_rightBelow f_listed f_fed f_read x130 f_hasSnapshot), ((rf 3), ai cI 64 f_term_3), ((rf 4), ai cI 64 f_run_3), ((rf 5), ai cI 64 f_isRight_3), ((rf 23), ai cI 500 (upd f_form f_formed.toNatClampNeg ((48 : Int32) + (((f_run_3 v3.toNatClampNeg) / v4) - (((f_run_3 v3.toNatClampNeg) / v4) / (10 : Int32)) * (10 : Int32)))))] H := hP
                      have hD : va_D A [((rf 0), o8 rf f_terms_3 f_runs_3 f_leftAbove f_leftBelow f_rightAbove f_rightBelow f_listed f_fed f_read x130 f_hasSnapshot), ((rf 3), ai cI 64 f_term_3), ((rf 4), ai cI 64 f_run_3), ((rf 5), ai cI 64 f_isRight_3), ((rf 23), ai cI 500 (upd f_form f_formed.toNatClampNeg ((48 : Int32) + (((f_run_3 v3.toNatClampNeg) / v4) - (((f_run_3 v3.toNatClampNeg) / v4) / (10 : Int32)) * (10 : Int32)))))] := hD
                      refine lv_iload hx hb dX8_layForm_133 (lv_at hl 2 rfl) ?_
                      refine lv_bipush (v := (10 : Int32)) hx hb dX8_layForm_135 (by decide) ?_
                      obtain ⟨hne, hw⟩ := hw
                      refine lv_idiv hx hb dX8_layForm_137 hne ?_
                      refine lv_topi (fun x138 ex138 => ?_)
                      have hw := hw x138 ex138
                      refine lv_istore (lv' := [(4, .int x138), (0, .ref (rf 0)), (3, .int v3)]) hx hb dX8_layForm_138 hl (by decide) rfl (fun ls hl => ?_)
                      refine lv_goto (tgt := 84) hx hb dX8_layForm_140 (by decide) ?_
                      exact ih84 x138 x130 (upd f_form f_formed.toNatClampNeg ((48 : Int32) + (((f_run_3 v3.toNatClampNeg) / v4) - (((f_run_3 v3.toNatClampNeg) / v4) / (10 : Int32)) * (10 : Int32)))) _ _ ls hw hP hD hS (lv_sub hl [1, 2, 0] rfl)
              exact LOOP_84 n84 v4 x54 (upd f_form s1.toNatClampNeg s0) _ _ ls hw hP hD hS (lv_sub hl [0, 1, 2] rfl)
            · have hw := hw.2 k
              refine lv_iload hx hb dX8_layForm_74 (lv_at hl 2 rfl) ?_
              refine lv_bipush (v := (10 : Int32)) hx hb dX8_layForm_76 (by decide) ?_
              refine lv_imul hx hb dX8_layForm_78 ?_
              refine lv_topi (fun x79 ex79 => ?_)
              have hw := hw x79 ex79
              refine lv_istore (lv' := [(4, .int x79), (0, .ref (rf 0)), (3, .int v3)]) hx hb dX8_layForm_79 hl (by decide) rfl (fun ls hl => ?_)
              refine lv_goto (tgt := 60) hx hb dX8_layForm_81 (by decide) ?_
              exact ih60 x79 _ _ ls hw hP hD hS (lv_sub hl [1, 2, 0] rfl)
        exact LOOP_60 n60 (1 : Int32) _ _ ls hw hP hD hS (lv_sub hl [1, 2, 0] rfl)
      refine lv_iload_n hx hb dX8_layForm_13 rfl (lv_at hl 1 rfl) ?_
      refine lv_aload_n hx hb dX8_layForm_14 rfl (lv_at hl 0 rfl) ?_
      refine va_get (D := D) (ci := 8) (v := .int f_runs_3) (C := RX8) (T := TX8) (N := 35) hx hb hts hi9 hown hK hP 0 rfl rfl 6 (by decide) g29 (fun _ h9 => h9) rfl dX8_layForm_15 ?_
      refine lv_icmp_ge (tgt := 149) hx hb dX8_layForm_18 (by decide) (fun k => ?_) (fun k => ?_)
      · have hw := hw.1 k
        exact RET _ _ (f_terms_3, f_runs_3, f_formed, f_term_3, f_run_3, f_isRight_3, f_form) _ _ hw hP hD hS dX8_layForm_149
      · have hw := hw.2 k
        refine lv_aload_n hx hb dX8_layForm_21 rfl (lv_at hl 0 rfl) ?_
        refine va_get (D := D) (ci := 8) (v := .ref (rf 23)) (C := RX8) (T := TX8) (N := 35) hx hb hts hi9 hown hK hP 0 rfl rfl 22 (by decide) g79 (fun _ h9 => h9) rfl dX8_layForm_22 ?_
        refine lv_aload_n hx hb dX8_layForm_25 rfl (lv_at hl 0 rfl) ?_
        refine va_get (D := D) (ci := 8) (v := .int f_formed) (C := RX8) (T := TX8) (N := 35) hx hb hts hi9 hown hK hP 0 rfl rfl 23 (by decide) g82 (fun _ h9 => h9) rfl dX8_layForm_26 ?_
        refine lv_aload_n hx hb dX8_layForm_29 rfl (lv_at hl 0 rfl) ?_
        refine va_get (D := D) (ci := 8) (v := .ref (rf 5)) (C := RX8) (T := TX8) (N := 35) hx hb hts hi9 hown hK hP 0 rfl rfl 4 (by decide) g22 (fun _ h9 => h9) rfl dX8_layForm_30 ?_
        refine lv_iload_n hx hb dX8_layForm_33 rfl (lv_at hl 1 rfl) ?_
        obtain ⟨hin, hw⟩ := hw
        refine va_iald hx hb hK hP 3 0 rfl rfl hin dX8_layForm_34 ?_
        refine lv_iconst (v := (1 : Int32)) hx hb dX8_layForm_35 (by decide) ?_
        refine lv_icmp_ne (tgt := 44) hx hb dX8_layForm_36 (by decide) (fun k => ?_) (fun k => ?_)
        · have hw := hw.1 k
          refine lv_bipush (v := (76 : Int32)) hx hb dX8_layForm_44 (by decide) ?_
          exact JOIN_46 v3 f_formed f_form (76 : Int32) f_formed _ _ ls hw hP hD hS (lv_sub hl [0, 1] rfl)
        · have hw := hw.2 k
          refine lv_bipush (v := (82 : Int32)) hx hb dX8_layForm_39 (by decide) ?_
          refine lv_goto (tgt := 46) hx hb dX8_layForm_41 (by decide) ?_
          exact JOIN_46 v3 f_formed f_form (82 : Int32) f_formed _ _ ls hw hP hD hS (lv_sub hl [0, 1] rfl)
  obtain ⟨hP, hD⟩ := k_sub (ws' := [((rf 0), o8 rf f_terms_3 f_runs_3 f_leftAbove f_leftBelow f_rightAbove f_rightBelow f_listed f_fed f_read (0 : Int32) f_hasSnapshot), ((rf 3), ai cI 64 f_term_3), ((rf 4), ai cI 64 f_run_3), ((rf 5), ai cI 64 f_isRight_3), ((rf 23), ai cI 500 f_form)]) hP hD [1, 2, 3, 4, 0] rfl rfl
  exact LOOP_13 n13 (0 : Int32) (0 : Int32) f_form _ _ ls hw hP hD hS (lv_sub hl [1, 0] rfl)
