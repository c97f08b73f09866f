abbrev rm7_discardText : Room := { frames := 0, cells := 0, slots := 0, locals := 0 }
theorem nm7_discardText : kNm yX7_discardText 0 := by decide +kernel
set_option maxHeartbeats 4000000 in
set_option maxRecDepth 100000 in
theorem c7_discardText (l : Launch) (D : va_G) (cI cJ cN cR : ClassId) (rf : Nat → Nat) (sz : Nat) (f_hasSnapshot : Int32) (f_termListSize : Int32) (f_textSize : Int32)  (post : Int32 → Int32 → Prop) (hw : w7_discardText f_textSize post) : Met l yX7_discardText wsX7_discardText rm7_discardText (kP D (kT cI cJ cN cR) sz [.ref (rf 0)] [((rf 0), o7 rf f_hasSnapshot f_termListSize f_textSize)]) (kQi D [((rf 0), o7 rf f_hasSnapshot f_termListSize f_textSize)] sz (fun (r : Int32) (u : Int32) => post r u) (fun (u : Int32) => [((rf 0), o7 rf f_hasSnapshot f_termListSize u)])) 0 0 (va_A [((rf 0), o7 rf f_hasSnapshot f_termListSize f_textSize)] sz) := by
  refine kMetI (cc := cX7_discardText) (maxL := 2) (by decide +kernel) rfl (Nat.le_of_ble_eq_true rfl) ?_
  intro p e s m args below meth c H0 ls A Q C0 hK hN hP hD hS hA hl RET
  obtain ⟨hx, hb, hml, hown, hts⟩ := id C0
  have hl : lv_has ls 2 [(0, .ref (rf 0))] := hl
  have g202 := hts (.fieldLink RX7 202 "SternBrocotExplorer" "textSize" "I") (by decide +kernel)
  have hi9 : ∀ w ∈ wsX70, w ∈ wsX7_discardText := fun w h => List.mem_cons_of_mem _ (List.mem_append_right _ h)
  unfold w7_discardText at hw
  have hP : va_P D vwCl [((rf 0), o7 rf f_hasSnapshot f_termListSize f_textSize)] H0 := hP
  refine lv_aload_n hx hb dX7_discardText_0 rfl (lv_at hl 0 rfl) ?_
  refine va_get (D := D) (ci := 7) (v := .int f_textSize) (C := RX7) (T := TX7) (N := 16) hx hb hts hi9 hown hK hP 0 rfl rfl 10 (by decide) g202 (fun _ h9 => h9) rfl dX7_discardText_1 ?_
  refine lv_istore_n (lv' := [(1, .int f_textSize), (0, .ref (rf 0))]) hx hb dX7_discardText_4 rfl hl (by decide) rfl (fun ls hl => ?_)
  refine lv_aload_n hx hb dX7_discardText_5 rfl (lv_at hl 1 rfl) ?_
  refine lv_iconst (v := (0 : Int32)) hx hb dX7_discardText_6 (by decide) ?_
  refine va_put (D := D) (ci := 7) (v := .int (0 : Int32)) (ty := .int) (C := RX7) (T := TX7) (N := 16) hx hb hts hi9 tyX7 tyX7_ok nmX7 hown hK hP hD hS 0 rfl rfl 10 (by decide) g202 (fun _ h9 => h9) rfl (by decide +kernel) rfl rfl (Nat.le_of_ble_eq_true rfl) dX7_discardText_7 (fun H locs hP hD hS => ?_)
  have hP : va_P D vwCl [((rf 0), o7 rf f_hasSnapshot f_termListSize (0 : Int32))] H := hP
  have hD : va_D A [((rf 0), o7 rf f_hasSnapshot f_termListSize (0 : Int32))] := hD
  refine lv_iload_n hx hb dX7_discardText_10 rfl (lv_at hl 0 rfl) ?_
  exact RET _ _ _ (0 : Int32) _ _ hw hP hD hS dX7_discardText_11
abbrev rm7_isDigit : Room := { frames := 0, cells := 0, slots := 0, locals := 0 }
theorem nm7_isDigit : kNm yX7_isDigit 1 := by decide +kernel
set_option maxHeartbeats 4000000 in
set_option maxRecDepth 100000 in
theorem c7_isDigit (l : Launch) (D : va_G) (cI cJ cN cR : ClassId)   (v0 : Int32) (post : Int32 → Prop) (hw : w7_isDigit v0 post) : Met l yX7_isDigit wsX7_isDigit rm7_isDigit (kR D (kT cI cJ cN cR) [.int v0] []) (vp_Si (fun (r : Int32) => narrow .boolean (.int r) = .int r ∧ post r)) 0 0 (fun _ => False) := by
  refine kMetRZ (cc := cX7_isDigit) (maxL := 1) (by decide +kernel) rfl (Nat.le_of_ble_eq_true rfl) ?_
  intro p e s m args below meth c H ls Q C0 hK hN hP hl RET
  obtain ⟨hx, hb, hml, hown, hts⟩ := id C0
  have hl : lv_has ls 1 [(0, .int v0)] := hl
  unfold w7_isDigit at hw
  refine lv_iload_n hx hb dX7_isDigit_0 rfl (lv_at hl 0 rfl) ?_
  refine lv_bipush (v := (48 : Int32)) hx hb dX7_isDigit_1 (by decide) ?_
  refine lv_icmp_lt (tgt := 16) hx hb dX7_isDigit_3 (by decide) (fun k => ?_) (fun k => ?_)
  · have hw := hw.1 k
    refine lv_iconst (v := (0 : Int32)) hx hb dX7_isDigit_16 (by decide) ?_
    exact RET _ _ _ rfl hw dX7_isDigit_17
  · have hw := hw.2 k
    refine lv_iload_n hx hb dX7_isDigit_6 rfl (lv_at hl 0 rfl) ?_
    refine lv_bipush (v := (57 : Int32)) hx hb dX7_isDigit_7 (by decide) ?_
    refine lv_icmp_gt (tgt := 16) hx hb dX7_isDigit_9 (by decide) (fun k => ?_) (fun k => ?_)
    · have hw := hw.1 k
      refine lv_iconst (v := (0 : Int32)) hx hb dX7_isDigit_16 (by decide) ?_
      exact RET _ _ _ rfl hw dX7_isDigit_17
    · have hw := hw.2 k
      refine lv_iconst (v := (1 : Int32)) hx hb dX7_isDigit_12 (by decide) ?_
      refine lv_goto (tgt := 17) hx hb dX7_isDigit_13 (by decide) ?_
      exact RET _ _ _ rfl hw dX7_isDigit_17
abbrev rm7_firstWrongCharacter : Room := { frames := 1, cells := 0, slots := 0, locals := 20 }
theorem nm7_firstWrongCharacter : kNm yX7_firstWrongCharacter 0 := by decide +kernel
set_option maxHeartbeats 4000000 in
set_option maxRecDepth 100000 in
theorem c7_firstWrongCharacter (l : Launch) (D : va_G) (cI cJ cN cR : ClassId) (rf : Nat → Nat) (f_hasSnapshot : Int32) (f_termListSize : Int32) (f_textSize : Int32) (f_text : (Nat → Int32))  (post : Int32 → Prop) (hw : w7_firstWrongCharacter f_textSize f_text post) : Met l yX7_firstWrongCharacter wsX7_firstWrongCharacter rm7_firstWrongCharacter (kR D (kT cI cJ cN cR) [.ref (rf 0)] [((rf 0), o7 rf f_hasSnapshot f_termListSize f_textSize), ((rf 10), ai cI 60 f_text)]) (vp_Si post) 0 0 (fun _ => False) := by
  refine kMetRI (cc := cX7_firstWrongCharacter) (maxL := 4) (by decide +kernel) rfl (Nat.le_of_ble_eq_true rfl) ?_
  intro p e s m args below meth c H ls Q C0 hK hN hP hl RET
  obtain ⟨hx, hb, hml, hown, hts⟩ := id C0
  have hl : lv_has ls 4 [(0, .ref (rf 0))] := hl
  have g202 := hts (.fieldLink RX7 202 "SternBrocotExplorer" "textSize" "I") (by decide +kernel)
  have g34 := hts (.fieldLink RX7 34 "SternBrocotExplorer" "text" "[I") (by decide +kernel)
  have hi9 : ∀ w ∈ wsX70, w ∈ wsX7_firstWrongCharacter := fun w h => List.mem_cons_of_mem _ (List.mem_append_right _ h)
  unfold w7_firstWrongCharacter at hw
  refine lv_bipush (v := (6 : Int32)) hx hb dX7_firstWrongCharacter_0 (by decide) ?_
  refine lv_istore_n (lv' := [(1, .int (6 : Int32)), (0, .ref (rf 0))]) hx hb dX7_firstWrongCharacter_2 rfl hl (by decide) rfl (fun ls hl => ?_)
  refine lv_iconst (v := (0 : Int32)) hx hb dX7_firstWrongCharacter_3 (by decide) ?_
  refine lv_istore_n (lv' := [(2, .int (0 : Int32)), (1, .int (6 : Int32)), (0, .ref (rf 0))]) hx hb dX7_firstWrongCharacter_4 rfl hl (by decide) rfl (fun ls hl => ?_)
  obtain ⟨n5, hw⟩ := hw
  have LOOP_5 : ∀ (n5 : Nat) (v1 : Int32) (v2 : Int32) (ls : Array Slot), w7_firstWrongCharacter_L5 f_textSize f_text post n5 v1 v2 → lv_has ls 4 [(0, .ref (rf 0)), (1, .int v1), (2, .int v2)] → W p l e rm7_firstWrongCharacter s m args below meth c H [] 0 0 Q (F0 m 5 ls []) := by
    clear hw hl
    intro n5
    induction n5 with
    | zero =>
      intro v1 v2 ls hw hl
      rw [w7_firstWrongCharacter_L5] at hw
      exact hw.elim
    | succ n5 ih5 =>
      intro v1 v2 ls hw hl
      rw [w7_firstWrongCharacter_L5] at hw
      refine lv_iload_n hx hb dX7_firstWrongCharacter_5 rfl (lv_at hl 2 rfl) ?_
      refine lv_aload_n hx hb dX7_firstWrongCharacter_6 rfl (lv_at hl 0 rfl) ?_
      refine va_get (D := D) (ci := 7) (v := .int f_textSize) (C := RX7) (T := TX7) (N := 16) hx hb hts hi9 hown hK hP 0 rfl rfl 10 (by decide) g202 (fun _ h9 => h9) rfl dX7_firstWrongCharacter_7 ?_
      refine lv_icmp_ge (tgt := 74) hx hb dX7_firstWrongCharacter_10 (by decide) (fun k => ?_) (fun k => ?_)
      · have hw := hw.1 k
        refine lv_iconst (v := (-1 : Int32)) hx hb dX7_firstWrongCharacter_74 (by decide) ?_
        exact RET _ _ _ hw dX7_firstWrongCharacter_75
      · have hw := hw.2 k
        refine lv_aload_n hx hb dX7_firstWrongCharacter_13 rfl (lv_at hl 0 rfl) ?_
        refine va_get (D := D) (ci := 7) (v := .ref (rf 10)) (C := RX7) (T := TX7) (N := 16) hx hb hts hi9 hown hK hP 0 rfl rfl 9 (by decide) g34 (fun _ h9 => h9) rfl dX7_firstWrongCharacter_14 ?_
        refine lv_iload_n hx hb dX7_firstWrongCharacter_17 rfl (lv_at hl 2 rfl) ?_
        obtain ⟨hin, hw⟩ := hw
        refine va_iald hx hb hK hP 1 0 rfl rfl hin dX7_firstWrongCharacter_18 ?_
        refine lv_topi (fun x19 ex19 => ?_)
        have hw := hw x19 ex19
        refine lv_istore_n (lv' := [(3, .int x19), (0, .ref (rf 0)), (1, .int v1), (2, .int v2)]) hx hb dX7_firstWrongCharacter_19 rfl hl (by decide) rfl (fun ls hl => ?_)
        refine lv_iload_n hx hb dX7_firstWrongCharacter_20 rfl (lv_at hl 0 rfl) ?_
        refine lv_bipush (v := (76 : Int32)) hx hb dX7_firstWrongCharacter_21 (by decide) ?_
        refine lv_icmp_eq (tgt := 32) hx hb dX7_firstWrongCharacter_23 (by decide) (fun k => ?_) (fun k => ?_)
        · have hw := hw.1 k
          refine lv_iconst (v := (0 : Int32)) hx hb dX7_firstWrongCharacter_32 (by decide) ?_
          refine lv_istore_n (lv' := [(1, .int (0 : Int32)), (3, .int x19), (0, .ref (rf 0)), (2, .int v2)]) hx hb dX7_firstWrongCharacter_33 rfl hl (by decide) rfl (fun ls hl => ?_)
          refine lv_goto (tgt := 68) hx hb dX7_firstWrongCharacter_34 (by decide) ?_
          obtain ⟨x68, ex68⟩ : ∃ y : Int32, y = (v2 + (1 : Int32)) := ⟨_, rfl⟩
          have hw := hw x68 ex68
          refine lv_iinc (v := x68) (lv' := [(2, .int x68), (1, .int (0 : Int32)), (3, .int x19), (0, .ref (rf 0))]) hx hb dX7_firstWrongCharacter_68 hl (k := 3) rfl (by rw [ex68]; rfl) (by decide) rfl (fun ls hl => ?_)
          refine lv_goto (tgt := 5) hx hb dX7_firstWrongCharacter_71 (by decide) ?_
          exact ih5 (0 : Int32) x68 ls hw (lv_sub hl [3, 1, 0] rfl)
        · have hw := hw.2 k
          refine lv_iload_n hx hb dX7_firstWrongCharacter_26 rfl (lv_at hl 0 rfl) ?_
          refine lv_bipush (v := (82 : Int32)) hx hb dX7_firstWrongCharacter_27 (by decide) ?_
          refine lv_icmp_ne (tgt := 37) hx hb dX7_firstWrongCharacter_29 (by decide) (fun k => ?_) (fun k => ?_)
          · have hw := hw.1 k
            refine lv_iload_n hx hb dX7_firstWrongCharacter_37 rfl (lv_at hl 0 rfl) ?_
            refine kcRI (wc := []) hP [] rfl (fun hPc => oS (As := [.int x19]) (rest := []) C0 hK hN (c7_isDigit l D cI cJ cN cR   x19 _ hw) 1 gX7_firstWrongCharacter_X7_isDigit rfl ⟨rfl, rfl⟩ nm7_isDigit ⟨Nat.le_of_ble_eq_true rfl, Nat.le_of_ble_eq_true rfl⟩ rfl hl.1 rfl (Nat.le_of_ble_eq_true rfl) dX7_firstWrongCharacter_38 ⟨Nat.le_of_ble_eq_true rfl, Nat.le_of_ble_eq_true rfl⟩ hPc) (fun r38 hw => ?_)
            obtain ⟨nb38, hw⟩ := hw
            refine lv_if_eq (tgt := 66) hx hb dX7_firstWrongCharacter_41 (by decide) (fun k => ?_) (fun k => ?_)
            · have hw := hw.1 k
              refine lv_iload_n hx hb dX7_firstWrongCharacter_66 rfl (lv_at hl 3 rfl) ?_
              exact RET _ _ _ hw dX7_firstWrongCharacter_67
            · have hw := hw.2 k
              refine lv_iload_n hx hb dX7_firstWrongCharacter_44 rfl (lv_at hl 2 rfl) ?_
              refine lv_bipush (v := (6 : Int32)) hx hb dX7_firstWrongCharacter_45 (by decide) ?_
              refine lv_icmp_ge (tgt := 66) hx hb dX7_firstWrongCharacter_47 (by decide) (fun k => ?_) (fun k => ?_)
              · have hw := hw.1 k
                refine lv_iload_n hx hb dX7_firstWrongCharacter_66 rfl (lv_at hl 3 rfl) ?_
                exact RET _ _ _ hw dX7_firstWrongCharacter_67
              · have hw := hw.2 k
                refine lv_iload_n hx hb dX7_firstWrongCharacter_50 rfl (lv_at hl 2 rfl) ?_
                refine lv_if_gt (tgt := 60) hx hb dX7_firstWrongCharacter_51 (by decide) (fun k => ?_) (fun k => ?_)
                · have hw := hw.1 k
                  obtain ⟨x60, ex60⟩ : ∃ y : Int32, y = (v1 + (1 : Int32)) := ⟨_, rfl⟩
                  have hw := hw x60 ex60
                  refine lv_iinc (v := x60) (lv' := [(1, .int x60), (3, .int x19), (0, .ref (rf 0)), (2, .int v2)]) hx hb dX7_firstWrongCharacter_60 hl (k := 2) rfl (by rw [ex60]; rfl) (by decide) rfl (fun ls hl => ?_)
                  refine lv_goto (tgt := 68) hx hb dX7_firstWrongCharacter_63 (by decide) ?_
                  obtain ⟨x68, ex68⟩ : ∃ y : Int32, y = (v2 + (1 : Int32)) := ⟨_, rfl⟩
                  have hw := hw x68 ex68
                  refine lv_iinc (v := x68) (lv' := [(2, .int x68), (1, .int x60), (3, .int x19), (0, .ref (rf 0))]) hx hb dX7_firstWrongCharacter_68 hl (k := 3) rfl (by rw [ex68]; rfl) (by decide) rfl (fun ls hl => ?_)
                  refine lv_goto (tgt := 5) hx hb dX7_firstWrongCharacter_71 (by decide) ?_
                  exact ih5 x60 x68 ls hw (lv_sub hl [3, 1, 0] rfl)
                · have hw := hw.2 k
                  refine lv_iload_n hx hb dX7_firstWrongCharacter_54 rfl (lv_at hl 0 rfl) ?_
                  refine lv_bipush (v := (48 : Int32)) hx hb dX7_firstWrongCharacter_55 (by decide) ?_
                  refine lv_icmp_eq (tgt := 66) hx hb dX7_firstWrongCharacter_57 (by decide) (fun k => ?_) (fun k => ?_)
                  · have hw := hw.1 k
                    refine lv_iload_n hx hb dX7_firstWrongCharacter_66 rfl (lv_at hl 3 rfl) ?_
                    exact RET _ _ _ hw dX7_firstWrongCharacter_67
                  · have hw := hw.2 k
                    obtain ⟨x60, ex60⟩ : ∃ y : Int32, y = (v1 + (1 : Int32)) := ⟨_, rfl⟩
                    have hw := hw x60 ex60
                    refine lv_iinc (v := x60) (lv' := [(1, .int x60), (3, .int x19), (0, .ref (rf 0)), (2, .int v2)]) hx hb dX7_firstWrongCharacter_60 hl (k := 2) rfl (by rw [ex60]; rfl) (by decide) rfl (fun ls hl => ?_)
                    refine lv_goto (tgt := 68) hx hb dX7_firstWrongCharacter_63 (by decide) ?_
                    obtain ⟨x68, ex68⟩ : ∃ y : Int32, y = (v2 + (1 : Int32)) := ⟨_, rfl⟩
                    have hw := hw x68 ex68
                    refine lv_iinc (v := x68) (lv' := [(2, .int x68), (1, .int x60), (3, .int x19), (0, .ref (rf 0))]) hx hb dX7_firstWrongCharacter_68 hl (k := 3) rfl (by rw [ex68]; rfl) (by decide) rfl (fun ls hl => ?_)
                    refine lv_goto (tgt := 5) hx hb dX7_firstWrongCharacter_71 (by decide) ?_
                    exact ih5 x60 x68 ls hw (lv_sub hl [3, 1, 0] rfl)
          · have hw := hw.2 k
            refine lv_iconst (v := (0 : Int32)) hx hb dX7_firstWrongCharacter_32 (by decide) ?_
            refine lv_istore_n (lv' := [(1, .int (0 : Int32)), (3, .int x19), (0, .ref (rf 0)), (2, .int v2)]) hx hb dX7_firstWrongCharacter_33 rfl hl (by decide) rfl (fun ls hl => ?_)
            refine lv_goto (tgt := 68) hx hb dX7_firstWrongCharacter_34 (by decide) ?_
            obtain ⟨x68, ex68⟩ : ∃ y : Int32, y = (v2 + (1 : Int32)) := ⟨_, rfl⟩
            have hw := hw x68 ex68
            refine lv_iinc (v := x68) (lv' := [(2, .int x68), (1, .int (0 : Int32)), (3, .int x19), (0, .ref (rf 0))]) hx hb dX7_firstWrongCharacter_68 hl (k := 3) rfl (by rw [ex68]; rfl) (by decide) rfl (fun ls hl => ?_)
            refine lv_goto (tgt := 5) hx hb dX7_firstWrongCharacter_71 (by decide) ?_
            exact ih5 (0 : Int32) x68 ls hw (lv_sub hl [3, 1, 0] rfl)
  exact LOOP_5 n5 (6 : Int32) (0 : Int32) ls hw (lv_sub hl [2, 1, 0] rfl)
abbrev rm7_applyText : Room := { frames := 2, cells := 0, slots := 0, locals := 61 }
theorem nm7_applyText : kNm yX7_applyText 2 := by decide +kernel
set_option maxHeartbeats 4000000 in
set_option maxRecDepth 100000 in
theorem c7_applyText (l : Launch) (D : va_G) (cI cJ cN cR : ClassId) (rf : Nat → Nat) (sz : Nat) (f_hasSnapshot : Int32) (f_termListSize : Int32) (f_textSize : Int32) (f_tops : (Nat → Int32)) (f_bottoms : (Nat → Int32)) (f_text : (Nat → Int32)) (v1 : Int32) (v2 : Int32) (post : Int32 → (Nat → Int32) → (Nat → Int32) → Prop) (hw : w7_applyText f_textSize f_tops f_bottoms f_text v1 v2 post) : Met l yX7_applyText wsX7_applyText rm7_applyText (kP D (kT cI cJ cN cR) sz [.ref (rf 0), .int v1, .int v2] [((rf 0), o7 rf f_hasSnapshot f_termListSize f_textSize), ((rf 1), ai cI 8 f_tops), ((rf 2), ai cI 8 f_bottoms), ((rf 10), ai cI 60 f_text)]) (kQi D [((rf 0), o7 rf f_hasSnapshot f_termListSize f_textSize), ((rf 1), ai cI 8 f_tops), ((rf 2), ai cI 8 f_bottoms), ((rf 10), ai cI 60 f_text)] sz (fun (r : Int32) (u : (Nat → Int32) × (Nat → Int32)) => post r u.1 u.2) (fun (u : (Nat → Int32) × (Nat → Int32)) => [((rf 0), o7 rf f_hasSnapshot f_termListSize f_textSize), ((rf 1), ai cI 8 u.1), ((rf 2), ai cI 8 u.2), ((rf 10), ai cI 60 f_text)])) 0 0 (va_A [((rf 0), o7 rf f_hasSnapshot f_termListSize f_textSize), ((rf 1), ai cI 8 f_tops), ((rf 2), ai cI 8 f_bottoms), ((rf 10), ai cI 60 f_text)] sz) := by
  refine kMetI (cc := cX7_applyText) (maxL := 14) (by decide +kernel) rfl (Nat.le_of_ble_eq_true rfl) ?_
  intro p e s m args below meth c H0 ls A Q C0 hK hN hP hD hS hA hl RET
  obtain ⟨hx, hb, hml, hown, hts⟩ := id C0
  have hl : lv_has ls 14 [(0, .ref (rf 0)), (1, .int v1), (2, .int v2)] := hl
  have g9 := hts (.fieldLink RX7 9 "SternBrocotExplorer" "tops" "[I") (by decide +kernel)
  have g13 := hts (.fieldLink RX7 13 "SternBrocotExplorer" "bottoms" "[I") (by decide +kernel)
  have g202 := hts (.fieldLink RX7 202 "SternBrocotExplorer" "textSize" "I") (by decide +kernel)
  have g34 := hts (.fieldLink RX7 34 "SternBrocotExplorer" "text" "[I") (by decide +kernel)
  have hi9 : ∀ w ∈ wsX70, w ∈ wsX7_applyText := fun w h => List.mem_cons_of_mem _ (List.mem_append_right _ h)
  unfold w7_applyText at hw
  have hP : va_P D vwCl [((rf 0), o7 rf f_hasSnapshot f_termListSize f_textSize), ((rf 1), ai cI 8 f_tops), ((rf 2), ai cI 8 f_bottoms), ((rf 10), ai cI 60 f_text)] H0 := hP
  refine lv_aload_n hx hb dX7_applyText_0 rfl (lv_at hl 0 rfl) ?_
  refine va_get (D := D) (ci := 7) (v := .ref (rf 1)) (C := RX7) (T := TX7) (N := 16) hx hb hts hi9 hown hK hP 0 rfl rfl 0 (by decide) g9 (fun _ h9 => h9) rfl dX7_applyText_1 ?_
  refine lv_iload_n hx hb dX7_applyText_4 rfl (lv_at hl 2 rfl) ?_
  obtain ⟨hin, hw⟩ := hw
  refine va_iald hx hb hK hP 1 0 rfl rfl hin dX7_applyText_5 ?_
  refine lv_i2l hx hb dX7_applyText_6 rfl ?_
  refine lv_topl (fun x7 ex7 => ?_)
  have hw := hw x7 ex7
  refine lv_lstore_n (lv' := [(3, .long x7), (0, .ref (rf 0)), (1, .int v1), (2, .int v2)]) hx hb dX7_applyText_7 rfl hl (by decide) rfl (fun ls hl => ?_)
  refine lv_aload_n hx hb dX7_applyText_8 rfl (lv_at hl 1 rfl) ?_
  refine va_get (D := D) (ci := 7) (v := .ref (rf 2)) (C := RX7) (T := TX7) (N := 16) hx hb hts hi9 hown hK hP 0 rfl rfl 1 (by decide) g13 (fun _ h9 => h9) rfl dX7_applyText_9 ?_
  refine lv_iload_n hx hb dX7_applyText_12 rfl (lv_at hl 3 rfl) ?_
  obtain ⟨hin, hw⟩ := hw
  refine va_iald hx hb hK hP 2 0 rfl rfl hin dX7_applyText_13 ?_
  refine lv_i2l hx hb dX7_applyText_14 rfl ?_
  refine lv_topl (fun x15 ex15 => ?_)
  have hw := hw x15 ex15
  refine lv_lstore (lv' := [(5, .long x15), (3, .long x7), (0, .ref (rf 0)), (1, .int v1), (2, .int v2)]) hx hb dX7_applyText_15 hl (by decide) rfl (fun ls hl => ?_)
  refine lv_lconst (v := (0 : Int64)) hx hb dX7_applyText_17 (by decide) ?_
  refine lv_lstore (lv' := [(7, .long (0 : Int64)), (5, .long x15), (3, .long x7), (0, .ref (rf 0)), (1, .int v1), (2, .int v2)]) hx hb dX7_applyText_18 hl (by decide) rfl (fun ls hl => ?_)
  refine lv_lconst (v := (1 : Int64)) hx hb dX7_applyText_20 (by decide) ?_
  refine lv_lstore (lv' := [(9, .long (1 : Int64)), (7, .long (0 : Int64)), (5, .long x15), (3, .long x7), (0, .ref (rf 0)), (1, .int v1), (2, .int v2)]) hx hb dX7_applyText_21 hl (by decide) rfl (fun ls hl => ?_)
  refine lv_aload_n hx hb dX7_applyText_23 rfl (lv_at hl 4 rfl) ?_
  refine va_get (D := D) (ci := 7) (v := .int f_textSize) (C := RX7) (T := TX7) (N := 16) hx hb hts hi9 hown hK hP 0 rfl rfl 10 (by decide) g202 (fun _ h9 => h9) rfl dX7_applyText_24 ?_
  refine lv_iconst (v := (1 : Int32)) hx hb dX7_applyText_27 (by decide) ?_
  refine lv_isub hx hb dX7_applyText_28 ?_
  refine lv_topi (fun x29 ex29 => ?_)
  have hw := hw x29 ex29
  refine lv_istore (lv' := [(11, .int x29), (9, .long (1 : Int64)), (7, .long (0 : Int64)), (5, .long x15), (3, .long x7), (0, .ref (rf 0)), (1, .int v1), (2, .int v2)]) hx hb dX7_applyText_29 hl (by decide) rfl (fun ls hl => ?_)
  obtain ⟨n31, hw⟩ := hw
  have LOOP_31 : ∀ (n31 : Nat) (v3 : Int64) (v5 : Int64) (v7 : Int64) (v9 : Int64) (v11 : Int32) (H : Heap) (locs : List Loc) (ls : Array Slot), w7_applyText_L31 f_tops f_bottoms f_text v1 post n31 v3 v5 v7 v9 v11 → va_P D vwCl [((rf 0), o7 rf f_hasSnapshot f_termListSize f_textSize), ((rf 1), ai cI 8 f_tops), ((rf 2), ai cI 8 f_bottoms), ((rf 10), ai cI 60 f_text)] H → va_D A [((rf 0), o7 rf f_hasSnapshot f_termListSize f_textSize), ((rf 1), ai cI 8 f_tops), ((rf 2), ai cI 8 f_bottoms), ((rf 10), ai cI 60 f_text)] → va_S A H0 H locs → lv_has ls 14 [(0, .ref (rf 0)), (1, .int v1), (3, .long v3), (5, .long v5), (7, .long v7), (9, .long v9), (11, .int v11)] → W p l e rm7_applyText s m args below meth c H locs 0 0 Q (F0 m 31 ls []) := by
    clear hw hl hP hD hS
    intro n31
    induction n31 with
    | zero =>
      intro v3 v5 v7 v9 v11 H locs ls hw hP hD hS hl
      rw [w7_applyText_L31] at hw
      exact hw.elim
    | succ n31 ih31 =>
      intro v3 v5 v7 v9 v11 H locs ls hw hP hD hS hl
      rw [w7_applyText_L31] at hw
      have JOIN_126 : ∀ (v3 : Int64) (v5 : Int64) (v11 : Int32) (H : Heap) (locs : List Loc) (ls : Array Slot), w7_applyText_J126 f_tops f_bottoms f_text v1 v3 v5 v11 post (fun z0 z1 z2 z3 z4 => w7_applyText_L31 f_tops f_bottoms f_text v1 post n31 z0 z1 z2 z3 z4) → va_P D vwCl [((rf 0), o7 rf f_hasSnapshot f_termListSize f_textSize), ((rf 1), ai cI 8 f_tops), ((rf 2), ai cI 8 f_bottoms), ((rf 10), ai cI 60 f_text)] H → va_D A [((rf 0), o7 rf f_hasSnapshot f_termListSize f_textSize), ((rf 1), ai cI 8 f_tops), ((rf 2), ai cI 8 f_bottoms), ((rf 10), ai cI 60 f_text)] → va_S A H0 H locs → lv_has ls 14 [(0, .ref (rf 0)), (1, .int v1), (3, .long v3), (5, .long v5), (11, .int v11)] → W p l e rm7_applyText s m args below meth c H locs 0 0 Q (F0 m 126 ls []) := by
        intro v3 v5 v11 H locs ls hw hP hD hS hl
        unfold w7_applyText_J126 at hw
        refine lv_lload_n hx hb dX7_applyText_126 rfl (lv_at hl 2 rfl) ?_
        refine lv_ldc2 (v := (1000000 : Int64)) hx hb hown (hts (.constantLong RX7 138 (1000000)) (by decide +kernel)) dX7_applyText_127 ?_
        refine W.lcmp hx hb dX7_applyText_130 ?_
        refine lv_if_gt (tgt := 143) hx hb dX7_applyText_131 (by decide) (fun k => ?_) (fun k => ?_)
        · have hw := hw.1 ((lg_cmp_gt _ _).mp k)
          refine lv_bipush (v := (-3 : Int32)) hx hb dX7_applyText_143 (by decide) ?_
          exact RET _ _ _ (f_tops, f_bottoms) _ _ hw hP hD hS dX7_applyText_145
        · have hw := hw.2 (fun h => k ((lg_cmp_gt _ _).mpr h))
          refine lv_lload hx hb dX7_applyText_134 (lv_at hl 3 rfl) ?_
          refine lv_ldc2 (v := (1000000 : Int64)) hx hb hown (hts (.constantLong RX7 138 (1000000)) (by decide +kernel)) dX7_applyText_136 ?_
          refine W.lcmp hx hb dX7_applyText_139 ?_
          refine lv_if_le (tgt := 146) hx hb dX7_applyText_140 (by decide) (fun k => ?_) (fun k => ?_)
          · have hw := hw.1 ((lg_cmp_le _ _).mp k)
            refine lv_lconst (v := (0 : Int64)) hx hb dX7_applyText_146 (by decide) ?_
            refine lv_lstore (lv' := [(7, .long (0 : Int64)), (0, .ref (rf 0)), (1, .int v1), (3, .long v3), (5, .long v5), (11, .int v11)]) hx hb dX7_applyText_147 hl (by decide) rfl (fun ls hl => ?_)
            refine lv_lconst (v := (1 : Int64)) hx hb dX7_applyText_149 (by decide) ?_
            refine lv_lstore (lv' := [(9, .long (1 : Int64)), (7, .long (0 : Int64)), (0, .ref (rf 0)), (1, .int v1), (3, .long v3), (5, .long v5), (11, .int v11)]) hx hb dX7_applyText_150 hl (by decide) rfl (fun ls hl => ?_)
            obtain ⟨x152, ex152⟩ : ∃ y : Int32, y = (v11 + (-1 : Int32)) := ⟨_, rfl⟩
            have hw := hw x152 ex152
            refine lv_iinc (v := x152) (lv' := [(11, .int x152), (9, .long (1 : Int64)), (7, .long (0 : Int64)), (0, .ref (rf 0)), (1, .int v1), (3, .long v3), (5, .long v5)]) hx hb dX7_applyText_152 hl (k := 6) rfl (by rw [ex152]; rfl) (by decide) rfl (fun ls hl => ?_)
            refine lv_goto (tgt := 31) hx hb dX7_applyText_155 (by decide) ?_
            exact ih31 v3 v5 (0 : Int64) (1 : Int64) x152 _ _ ls hw hP hD hS (lv_sub hl [3, 4, 5, 6, 2, 1, 0] rfl)
          · have hw := hw.2 (fun h => k ((lg_cmp_le _ _).mpr h))
            refine lv_bipush (v := (-3 : Int32)) hx hb dX7_applyText_143 (by decide) ?_
            exact RET _ _ _ (f_tops, f_bottoms) _ _ hw hP hD hS dX7_applyText_145
      have JOIN_92 : ∀ (v3 : Int64) (v5 : Int64) (v11 : Int32) (s0 : Int64) (H : Heap) (locs : List Loc) (ls : Array Slot), w7_applyText_J92 f_tops f_bottoms f_text v1 v3 v5 v11 s0 post (fun z0 z1 z2 z3 z4 => w7_applyText_L31 f_tops f_bottoms f_text v1 post n31 z0 z1 z2 z3 z4) → va_P D vwCl [((rf 0), o7 rf f_hasSnapshot f_termListSize f_textSize), ((rf 1), ai cI 8 f_tops), ((rf 2), ai cI 8 f_bottoms), ((rf 10), ai cI 60 f_text)] H → va_D A [((rf 0), o7 rf f_hasSnapshot f_termListSize f_textSize), ((rf 1), ai cI 8 f_tops), ((rf 2), ai cI 8 f_bottoms), ((rf 10), ai cI 60 f_text)] → va_S A H0 H locs → lv_has ls 14 [(0, .ref (rf 0)), (1, .int v1), (3, .long v3), (5, .long v5), (11, .int v11)] → W p l e rm7_applyText s m args below meth c H locs 0 0 Q (F0 m 92 ls [.long s0]) := by
        intro v3 v5 v11 s0 H locs ls hw hP hD hS hl
        unfold w7_applyText_J92 at hw
        refine lv_lstore (lv' := [(12, .long s0), (0, .ref (rf 0)), (1, .int v1), (3, .long v3), (5, .long v5), (11, .int v11)]) hx hb dX7_applyText_92 hl (by decide) rfl (fun ls hl => ?_)
        refine lv_aload_n hx hb dX7_applyText_94 rfl (lv_at hl 1 rfl) ?_
        refine va_get (D := D) (ci := 7) (v := .ref (rf 10)) (C := RX7) (T := TX7) (N := 16) hx hb hts hi9 hown hK hP 0 rfl rfl 9 (by decide) g34 (fun _ h9 => h9) rfl dX7_applyText_95 ?_
        refine lv_iload hx hb dX7_applyText_98 (lv_at hl 5 rfl) ?_
        obtain ⟨hin, hw⟩ := hw
        refine va_iald hx hb hK hP 3 0 rfl rfl hin dX7_applyText_100 ?_
        refine lv_bipush (v := (82 : Int32)) hx hb dX7_applyText_101 (by decide) ?_
        refine lv_icmp_ne (tgt := 117) hx hb dX7_applyText_103 (by decide) (fun k => ?_) (fun k => ?_)
        · have hw := hw.1 k
          refine lv_lload hx hb dX7_applyText_117 (lv_at hl 4 rfl) ?_
          refine lv_lload hx hb dX7_applyText_119 (lv_at hl 0 rfl) ?_
          refine lv_lload_n hx hb dX7_applyText_121 rfl (lv_at hl 3 rfl) ?_
          refine lv_lmul hx hb dX7_applyText_122 ?_
          refine lv_ladd hx hb dX7_applyText_123 ?_
          refine lv_topl (fun x124 ex124 => ?_)
          have hw := hw x124 ex124
          refine lv_lstore (lv' := [(5, .long x124), (12, .long s0), (0, .ref (rf 0)), (1, .int v1), (3, .long v3), (11, .int v11)]) hx hb dX7_applyText_124 hl (by decide) rfl (fun ls hl => ?_)
          exact JOIN_126 v3 x124 v11 _ _ ls hw hP hD hS (lv_sub hl [2, 3, 4, 0, 5] rfl)
        · have hw := hw.2 k
          refine lv_lload_n hx hb dX7_applyText_106 rfl (lv_at hl 3 rfl) ?_
          refine lv_lload hx hb dX7_applyText_107 (lv_at hl 0 rfl) ?_
          refine lv_lload hx hb dX7_applyText_109 (lv_at hl 4 rfl) ?_
          refine lv_lmul hx hb dX7_applyText_111 ?_
          refine lv_ladd hx hb dX7_applyText_112 ?_
          refine lv_topl (fun x113 ex113 => ?_)
          have hw := hw x113 ex113
          refine lv_lstore_n (lv' := [(3, .long x113), (12, .long s0), (0, .ref (rf 0)), (1, .int v1), (5, .long v5), (11, .int v11)]) hx hb dX7_applyText_113 rfl hl (by decide) rfl (fun ls hl => ?_)
          refine lv_goto (tgt := 126) hx hb dX7_applyText_114 (by decide) ?_
          exact JOIN_126 x113 v5 v11 _ _ ls hw hP hD hS (lv_sub hl [2, 3, 0, 4, 5] rfl)
      refine lv_iload hx hb dX7_applyText_31 (lv_at hl 6 rfl) ?_
      refine lv_if_lt (tgt := 158) hx hb dX7_applyText_33 (by decide) (fun k => ?_) (fun k => ?_)
      · have hw := hw.1 k
        refine lv_aload_n hx hb dX7_applyText_158 rfl (lv_at hl 0 rfl) ?_
        refine lv_iload_n hx hb dX7_applyText_159 rfl (lv_at hl 1 rfl) ?_
        refine lv_lload_n hx hb dX7_applyText_160 rfl (lv_at hl 2 rfl) ?_
        refine lv_lload hx hb dX7_applyText_161 (lv_at hl 3 rfl) ?_
        refine kcI (wc := [((rf 0), o7 rf f_hasSnapshot f_termListSize f_textSize), ((rf 1), ai cI 8 f_tops), ((rf 2), ai cI 8 f_bottoms)]) (wr := [((rf 10), ai cI 60 f_text)]) hP hD hS hA [0, 1, 2] [3] rfl rfl ⟨rfl, rfl, by decide⟩ (fun hPc hDc => rV (As := [.int v1, .long v3, .long v5]) (rest := []) C0 hK hN (c7_store l D cI cJ cN cR rf H.size f_hasSnapshot f_termListSize f_textSize f_tops f_bottoms v1 v3 v5 _ hw) 3 gX7_applyText_X7_store rfl ⟨rfl, rfl⟩ nm7_store ⟨Nat.le_of_ble_eq_true rfl, Nat.le_of_ble_eq_true rfl⟩ (q0 := 0) rfl rfl rfl rfl hl.1 rfl (Nat.le_of_ble_eq_true rfl) dX7_applyText_163 ⟨Nat.le_of_ble_eq_true rfl, Nat.le_of_ble_eq_true rfl⟩ hPc hDc) (fun r163 u163 H locs hw hP hD hS => ?_)
        obtain ⟨f_tops_163, f_bottoms_163⟩ := u163
        dsimp only at hw
        have hP : va_P D vwCl [((rf 10), ai cI 60 f_text), ((rf 0), o7 rf f_hasSnapshot f_termListSize f_textSize), ((rf 1), ai cI 8 f_tops_163), ((rf 2), ai cI 8 f_bottoms_163)] H := hP
        have hD : va_D A [((rf 10), ai cI 60 f_text), ((rf 0), o7 rf f_hasSnapshot f_termListSize f_textSize), ((rf 1), ai cI 8 f_tops_163), ((rf 2), ai cI 8 f_bottoms_163)] := hD
        obtain ⟨hP, hD⟩ := k_sub (ws' := [((rf 0), o7 rf f_hasSnapshot f_termListSize f_textSize), ((rf 1), ai cI 8 f_tops_163), ((rf 2), ai cI 8 f_bottoms_163), ((rf 10), ai cI 60 f_text)]) hP hD [1, 2, 3, 0] rfl rfl
        exact RET _ _ _ (f_tops_163, f_bottoms_163) _ _ hw hP hD hS dX7_applyText_166
      · have hw := hw.2 k
        refine lv_aload_n hx hb dX7_applyText_36 rfl (lv_at hl 0 rfl) ?_
        refine va_get (D := D) (ci := 7) (v := .ref (rf 10)) (C := RX7) (T := TX7) (N := 16) hx hb hts hi9 hown hK hP 0 rfl rfl 9 (by decide) g34 (fun _ h9 => h9) rfl dX7_applyText_37 ?_
        refine lv_iload hx hb dX7_applyText_40 (lv_at hl 6 rfl) ?_
        obtain ⟨hin, hw⟩ := hw
        refine va_iald hx hb hK hP 3 0 rfl rfl hin dX7_applyText_42 ?_
        refine kcRI (wc := []) hP [] rfl (fun hPc => oS (As := [.int (f_text v11.toNatClampNeg)]) (rest := []) C0 hK hN (c7_isDigit l D cI cJ cN cR   (f_text v11.toNatClampNeg) _ hw) 1 gX7_applyText_X7_isDigit rfl ⟨rfl, rfl⟩ nm7_isDigit ⟨Nat.le_of_ble_eq_true rfl, Nat.le_of_ble_eq_true rfl⟩ rfl hl.1 rfl (Nat.le_of_ble_eq_true rfl) dX7_applyText_43 ⟨Nat.le_of_ble_eq_true rfl, Nat.le_of_ble_eq_true rfl⟩ hPc) (fun r43 hw => ?_)
        obtain ⟨nb43, hw⟩ := hw
        refine lv_if_eq (tgt := 79) hx hb dX7_applyText_46 (by decide) (fun k => ?_) (fun k => ?_)
        · have hw := hw.1 k
          refine lv_lload hx hb dX7_applyText_79 (lv_at hl 5 rfl) ?_
          refine lv_lconst (v := (1 : Int64)) hx hb dX7_applyText_81 (by decide) ?_
          refine W.lcmp hx hb dX7_applyText_82 ?_
          refine lv_if_ne (tgt := 90) hx hb dX7_applyText_83 (by decide) (fun k => ?_) (fun k => ?_)
          · have hw := hw.1 (fun h => k ((lg_cmp_eq _ _).mpr h))
            refine lv_lload hx hb dX7_applyText_90 (lv_at hl 4 rfl) ?_
            exact JOIN_92 v3 v5 v11 v7 _ _ ls hw hP hD hS (lv_sub hl [0, 1, 2, 3, 6] rfl)
          · have hw := hw.2 ((lg_cmp_eq _ _).mp k)
            refine lv_lconst (v := (1 : Int64)) hx hb dX7_applyText_86 (by decide) ?_
            refine lv_goto (tgt := 92) hx hb dX7_applyText_87 (by decide) ?_
            exact JOIN_92 v3 v5 v11 (1 : Int64) _ _ ls hw hP hD hS (lv_sub hl [0, 1, 2, 3, 6] rfl)
        · have hw := hw.2 k
          refine lv_lload hx hb dX7_applyText_49 (lv_at hl 4 rfl) ?_
          refine lv_aload_n hx hb dX7_applyText_51 rfl (lv_at hl 0 rfl) ?_
          refine va_get (D := D) (ci := 7) (v := .ref (rf 10)) (C := RX7) (T := TX7) (N := 16) hx hb hts hi9 hown hK hP 0 rfl rfl 9 (by decide) g34 (fun _ h9 => h9) rfl dX7_applyText_52 ?_
          refine lv_iload hx hb dX7_applyText_55 (lv_at hl 6 rfl) ?_
          obtain ⟨hin, hw⟩ := hw
          refine va_iald hx hb hK hP 3 0 rfl rfl hin dX7_applyText_57 ?_
          refine lv_bipush (v := (48 : Int32)) hx hb dX7_applyText_58 (by decide) ?_
          refine lv_isub hx hb dX7_applyText_60 ?_
          refine lv_i2l hx hb dX7_applyText_61 rfl ?_
          refine lv_lload hx hb dX7_applyText_62 (lv_at hl 5 rfl) ?_
          refine lv_lmul hx hb dX7_applyText_64 ?_
          refine lv_ladd hx hb dX7_applyText_65 ?_
          refine lv_topl (fun x66 ex66 => ?_)
          have hw := hw x66 ex66
          refine lv_lstore (lv' := [(7, .long x66), (0, .ref (rf 0)), (1, .int v1), (3, .long v3), (5, .long v5), (9, .long v9), (11, .int v11)]) hx hb dX7_applyText_66 hl (by decide) rfl (fun ls hl => ?_)
          refine lv_lload hx hb dX7_applyText_68 (lv_at hl 5 rfl) ?_
          refine lv_ldc2 (v := (10 : Int64)) hx hb hown (hts (.constantLong RX7 287 (10)) (by decide +kernel)) dX7_applyText_70 ?_
          refine lv_lmul hx hb dX7_applyText_73 ?_
          refine lv_topl (fun x74 ex74 => ?_)
          have hw := hw x74 ex74
          refine lv_lstore (lv' := [(9, .long x74), (7, .long x66), (0, .ref (rf 0)), (1, .int v1), (3, .long v3), (5, .long v5), (11, .int v11)]) hx hb dX7_applyText_74 hl (by decide) rfl (fun ls hl => ?_)
          refine lv_goto (tgt := 152) hx hb dX7_applyText_76 (by decide) ?_
          obtain ⟨x152, ex152⟩ : ∃ y : Int32, y = (v11 + (-1 : Int32)) := ⟨_, rfl⟩
          have hw := hw x152 ex152
          refine lv_iinc (v := x152) (lv' := [(11, .int x152), (9, .long x74), (7, .long x66), (0, .ref (rf 0)), (1, .int v1), (3, .long v3), (5, .long v5)]) hx hb dX7_applyText_152 hl (k := 6) rfl (by rw [ex152]; rfl) (by decide) rfl (fun ls hl => ?_)
          refine lv_goto (tgt := 31) hx hb dX7_applyText_155 (by decide) ?_
          exact ih31 v3 v5 x66 x74 x152 _ _ ls hw hP hD hS (lv_sub hl [3, 4, 5, 6, 2, 1, 0] rfl)
  exact LOOP_31 n31 x7 x15 (0 : Int64) (1 : Int64) x29 _ _ ls hw hP hD hS (lv_sub hl [5, 6, 4, 3, 2, 1, 0] rfl)
abbrev rm7_followPath : Room := { frames := 3, cells := 0, slots := 0, locals := 94 }
theorem nm7_followPath : kNm yX7_followPath 2 := by decide +kernel
set_option maxHeartbeats 4000000 in
set_option maxRecDepth 100000 in
theorem c7_followPath (l : Launch) (D : va_G) (cI cJ cN cR : ClassId) (rf : Nat → Nat) (sz : Nat) (f_hasSnapshot : Int32) (f_termListSize : Int32) (f_textSize : Int32) (f_tops : (Nat → Int32)) (f_bottoms : (Nat → Int32)) (f_text : (Nat → Int32)) (v1 : Int32) (v2 : Int32) (post : Int32 → Int32 → (Nat → Int32) → (Nat → Int32) → Prop) (hw : w7_followPath f_textSize f_tops f_bottoms f_text v1 v2 post) : Met l yX7_followPath wsX7_followPath rm7_followPath (kP D (kT cI cJ cN cR) sz [.ref (rf 0), .int v1, .int v2] [((rf 0), o7 rf f_hasSnapshot f_termListSize f_textSize), ((rf 1), ai cI 8 f_tops), ((rf 2), ai cI 8 f_bottoms), ((rf 10), ai cI 60 f_text)]) (kQi D [((rf 0), o7 rf f_hasSnapshot f_termListSize f_textSize), ((rf 1), ai cI 8 f_tops), ((rf 2), ai cI 8 f_bottoms), ((rf 10), ai cI 60 f_text)] sz (fun (r : Int32) (u : Int32 × (Nat → Int32) × (Nat → Int32)) => post r u.1 u.2.1 u.2.2) (fun (u : Int32 × (Nat → Int32) × (Nat → Int32)) => [((rf 0), o7 rf f_hasSnapshot f_termListSize u.1), ((rf 1), ai cI 8 u.2.1), ((rf 2), ai cI 8 u.2.2), ((rf 10), ai cI 60 f_text)])) 0 0 (va_A [((rf 0), o7 rf f_hasSnapshot f_termListSize f_textSize), ((rf 1), ai cI 8 f_tops), ((rf 2), ai cI 8 f_bottoms), ((rf 10), ai cI 60 f_text)] sz) := by
  refine kMetI (cc := cX7_followPath) (maxL := 5) (by decide +kernel) rfl (Nat.le_of_ble_eq_true rfl) ?_
  intro p e s m args below meth c H0 ls A Q C0 hK hN hP hD hS hA hl RET
  obtain ⟨hx, hb, hml, hown, hts⟩ := id C0
  have hl : lv_has ls 5 [(0, .ref (rf 0)), (1, .int v1), (2, .int v2)] := hl
  have g202 := hts (.fieldLink RX7 202 "SternBrocotExplorer" "textSize" "I") (by decide +kernel)
  have hi9 : ∀ w ∈ wsX70, w ∈ wsX7_followPath := fun w h => List.mem_cons_of_mem _ (List.mem_append_right _ h)
  unfold w7_followPath at hw
  have hP : va_P D vwCl [((rf 0), o7 rf f_hasSnapshot f_termListSize f_textSize), ((rf 1), ai cI 8 f_tops), ((rf 2), ai cI 8 f_bottoms), ((rf 10), ai cI 60 f_text)] H0 := hP
  refine lv_iload_n hx hb dX7_followPath_0 rfl (lv_at hl 1 rfl) ?_
  refine kcRI (wc := []) hP [] rfl (fun hPc => oS (As := [.int v1]) (rest := []) C0 hK hN (c7_isRegister l D cI cJ cN cR   v1 _ hw) 1 gX7_followPath_X7_isRegister rfl ⟨rfl, rfl⟩ nm7_isRegister ⟨Nat.le_of_ble_eq_true rfl, Nat.le_of_ble_eq_true rfl⟩ rfl hl.1 rfl (Nat.le_of_ble_eq_true rfl) dX7_followPath_1 ⟨Nat.le_of_ble_eq_true rfl, Nat.le_of_ble_eq_true rfl⟩ hPc) (fun r1 hw => ?_)
  obtain ⟨nb1, hw⟩ := hw
  refine lv_if_eq (tgt := 14) hx hb dX7_followPath_4 (by decide) (fun k => ?_) (fun k => ?_)
  · have hw := hw.1 k
    refine lv_iconst (v := (-1 : Int32)) hx hb dX7_followPath_14 (by decide) ?_
    exact RET _ _ _ (f_textSize, f_tops, f_bottoms) _ _ hw hP hD hS dX7_followPath_15
  · have hw := hw.2 k
    refine lv_iload_n hx hb dX7_followPath_7 rfl (lv_at hl 2 rfl) ?_
    refine kcRI (wc := []) hP [] rfl (fun hPc => oS (As := [.int v2]) (rest := []) C0 hK hN (c7_isRegister l D cI cJ cN cR   v2 _ hw) 1 gX7_followPath_X7_isRegister rfl ⟨rfl, rfl⟩ nm7_isRegister ⟨Nat.le_of_ble_eq_true rfl, Nat.le_of_ble_eq_true rfl⟩ rfl hl.1 rfl (Nat.le_of_ble_eq_true rfl) dX7_followPath_8 ⟨Nat.le_of_ble_eq_true rfl, Nat.le_of_ble_eq_true rfl⟩ hPc) (fun r8 hw => ?_)
    obtain ⟨nb8, hw⟩ := hw
    refine lv_if_ne (tgt := 16) hx hb dX7_followPath_11 (by decide) (fun k => ?_) (fun k => ?_)
    · have hw := hw.1 k
      refine lv_aload_n hx hb dX7_followPath_16 rfl (lv_at hl 0 rfl) ?_
      refine kcRI (wc := [((rf 0), o7 rf f_hasSnapshot f_termListSize f_textSize), ((rf 10), ai cI 60 f_text)]) hP [0, 3] rfl (fun hPc => oV (As := []) (rest := []) C0 hK hN (c7_firstWrongCharacter l D cI cJ cN cR rf f_hasSnapshot f_termListSize f_textSize f_text  _ hw) 0 gX7_followPath_X7_firstWrongCharacter rfl ⟨rfl, rfl⟩ nm7_firstWrongCharacter ⟨Nat.le_of_ble_eq_true rfl, Nat.le_of_ble_eq_true rfl⟩ (q0 := 0) rfl rfl rfl rfl hl.1 rfl (Nat.le_of_ble_eq_true rfl) dX7_followPath_17 ⟨Nat.le_of_ble_eq_true rfl, Nat.le_of_ble_eq_true rfl⟩ hPc) (fun r17 hw => ?_)
      refine lv_istore_n (lv' := [(3, .int r17), (0, .ref (rf 0)), (1, .int v1), (2, .int v2)]) hx hb dX7_followPath_20 rfl hl (by decide) rfl (fun ls hl => ?_)
      refine lv_iload_n hx hb dX7_followPath_21 rfl (lv_at hl 0 rfl) ?_
      refine lv_if_lt (tgt := 32) hx hb dX7_followPath_22 (by decide) (fun k => ?_) (fun k => ?_)
      · have hw := hw.1 k
        refine lv_aload_n hx hb dX7_followPath_32 rfl (lv_at hl 1 rfl) ?_
        refine lv_iload_n hx hb dX7_followPath_33 rfl (lv_at hl 2 rfl) ?_
        refine lv_iload_n hx hb dX7_followPath_34 rfl (lv_at hl 3 rfl) ?_
        refine kcI (wc := [((rf 0), o7 rf f_hasSnapshot f_termListSize f_textSize), ((rf 1), ai cI 8 f_tops), ((rf 2), ai cI 8 f_bottoms), ((rf 10), ai cI 60 f_text)]) (wr := []) hP hD hS hA [0, 1, 2, 3] [] rfl rfl ⟨rfl, rfl, by decide⟩ (fun hPc hDc => rV (As := [.int v1, .int v2]) (rest := []) C0 hK hN (c7_applyText l D cI cJ cN cR rf H0.size f_hasSnapshot f_termListSize f_textSize f_tops f_bottoms f_text v1 v2 _ hw) 2 gX7_followPath_X7_applyText rfl ⟨rfl, rfl⟩ nm7_applyText ⟨Nat.le_of_ble_eq_true rfl, Nat.le_of_ble_eq_true rfl⟩ (q0 := 0) rfl rfl rfl rfl hl.1 rfl (Nat.le_of_ble_eq_true rfl) dX7_followPath_35 ⟨Nat.le_of_ble_eq_true rfl, Nat.le_of_ble_eq_true rfl⟩ hPc hDc) (fun r35 u35 H locs hw hP hD hS => ?_)
        obtain ⟨f_tops_35, f_bottoms_35⟩ := u35
        dsimp only at hw
        have hP : va_P D vwCl [((rf 0), o7 rf f_hasSnapshot f_termListSize f_textSize), ((rf 1), ai cI 8 f_tops_35), ((rf 2), ai cI 8 f_bottoms_35), ((rf 10), ai cI 60 f_text)] H := hP
        have hD : va_D A [((rf 0), o7 rf f_hasSnapshot f_termListSize f_textSize), ((rf 1), ai cI 8 f_tops_35), ((rf 2), ai cI 8 f_bottoms_35), ((rf 10), ai cI 60 f_text)] := hD
        refine lv_istore (lv' := [(4, .int r35), (3, .int r17), (0, .ref (rf 0)), (1, .int v1), (2, .int v2)]) hx hb dX7_followPath_38 hl (by decide) rfl (fun ls hl => ?_)
        refine lv_aload_n hx hb dX7_followPath_40 rfl (lv_at hl 2 rfl) ?_
        refine lv_iconst (v := (0 : Int32)) hx hb dX7_followPath_41 (by decide) ?_
        refine va_put (D := D) (ci := 7) (v := .int (0 : Int32)) (ty := .int) (C := RX7) (T := TX7) (N := 16) hx hb hts hi9 tyX7 tyX7_ok nmX7 hown hK hP hD hS 0 rfl rfl 10 (by decide) g202 (fun _ h9 => h9) rfl (by decide +kernel) rfl rfl (Nat.le_of_ble_eq_true rfl) dX7_followPath_42 (fun H locs hP hD hS => ?_)
        have hP : va_P D vwCl [((rf 0), o7 rf f_hasSnapshot f_termListSize (0 : Int32)), ((rf 1), ai cI 8 f_tops_35), ((rf 2), ai cI 8 f_bottoms_35), ((rf 10), ai cI 60 f_text)] H := hP
        have hD : va_D A [((rf 0), o7 rf f_hasSnapshot f_termListSize (0 : Int32)), ((rf 1), ai cI 8 f_tops_35), ((rf 2), ai cI 8 f_bottoms_35), ((rf 10), ai cI 60 f_text)] := hD
        refine lv_iload hx hb dX7_followPath_45 (lv_at hl 0 rfl) ?_
        exact RET _ _ _ ((0 : Int32), f_tops_35, f_bottoms_35) _ _ hw hP hD hS dX7_followPath_47
      · have hw := hw.2 k
        refine lv_bipush (v := (-100 : Int32)) hx hb dX7_followPath_25 (by decide) ?_
        refine lv_iload_n hx hb dX7_followPath_27 rfl (lv_at hl 0 rfl) ?_
        refine lv_isub hx hb dX7_followPath_28 ?_
        refine lv_goto (tgt := 38) hx hb dX7_followPath_29 (by decide) ?_
        refine lv_topi (fun x38 ex38 => ?_)
        have hw := hw x38 ex38
        refine lv_istore (lv' := [(4, .int x38), (3, .int r17), (0, .ref (rf 0)), (1, .int v1), (2, .int v2)]) hx hb dX7_followPath_38 hl (by decide) rfl (fun ls hl => ?_)
        refine lv_aload_n hx hb dX7_followPath_40 rfl (lv_at hl 2 rfl) ?_
        refine lv_iconst (v := (0 : Int32)) hx hb dX7_followPath_41 (by decide) ?_
        refine va_put (D := D) (ci := 7) (v := .int (0 : Int32)) (ty := .int) (C := RX7) (T := TX7) (N := 16) hx hb hts hi9 tyX7 tyX7_ok nmX7 hown hK hP hD hS 0 rfl rfl 10 (by decide) g202 (fun _ h9 => h9) rfl (by decide +kernel) rfl rfl (Nat.le_of_ble_eq_true rfl) dX7_followPath_42 (fun H locs hP hD hS => ?_)
        have hP : va_P D vwCl [((rf 0), o7 rf f_hasSnapshot f_termListSize (0 : Int32)), ((rf 1), ai cI 8 f_tops), ((rf 2), ai cI 8 f_bottoms), ((rf 10), ai cI 60 f_text)] H := hP
        have hD : va_D A [((rf 0), o7 rf f_hasSnapshot f_termListSize (0 : Int32)), ((rf 1), ai cI 8 f_tops), ((rf 2), ai cI 8 f_bottoms), ((rf 10), ai cI 60 f_text)] := hD
        refine lv_iload hx hb dX7_followPath_45 (lv_at hl 0 rfl) ?_
        exact RET _ _ _ ((0 : Int32), f_tops, f_bottoms) _ _ hw hP hD hS dX7_followPath_47
    · have hw := hw.2 k
      refine lv_iconst (v := (-1 : Int32)) hx hb dX7_followPath_14 (by decide) ?_
      exact RET _ _ _ (f_textSize, f_tops, f_bottoms) _ _ hw hP hD hS dX7_followPath_15
abbrev rm7_digitCount : Room := { frames := 0, cells := 0, slots := 0, locals := 0 }
theorem nm7_digitCount : kNm yX7_digitCount 1 := by decide +kernel
set_option maxHeartbeats 4000000 in
set_option maxRecDepth 100000 in
theorem c7_digitCount (l : Launch) (D : va_G) (cI cJ cN cR : ClassId)   (v0 : Int32) (post : Int32 → Prop) (hw : w7_digitCount v0 post) : Met l yX7_digitCount wsX7_digitCount rm7_digitCount (kR D (kT cI cJ cN cR) [.int v0] []) (vp_Si post) 0 0 (fun _ => False) := by
  refine kMetRI (cc := cX7_digitCount) (maxL := 3) (by decide +kernel) rfl (Nat.le_of_ble_eq_true rfl) ?_
  intro p e s m args below meth c H ls Q C0 hK hN hP hl RET
  obtain ⟨hx, hb, hml, hown, hts⟩ := id C0
  have hl : lv_has ls 3 [(0, .int v0)] := hl
  unfold w7_digitCount at hw
  refine lv_iconst (v := (1 : Int32)) hx hb dX7_digitCount_0 (by decide) ?_
  refine lv_istore_n (lv' := [(1, .int (1 : Int32)), (0, .int v0)]) hx hb dX7_digitCount_1 rfl hl (by decide) rfl (fun ls hl => ?_)
  refine lv_bipush (v := (10 : Int32)) hx hb dX7_digitCount_2 (by decide) ?_
  refine lv_istore_n (lv' := [(2, .int (10 : Int32)), (1, .int (1 : Int32)), (0, .int v0)]) hx hb dX7_digitCount_4 rfl hl (by decide) rfl (fun ls hl => ?_)
  obtain ⟨n5, hw⟩ := hw
  have LOOP_5 : ∀ (n5 : Nat) (v1 : Int32) (v2 : Int32) (ls : Array Slot), w7_digitCount_L5 v0 post n5 v1 v2 → lv_has ls 3 [(0, .int v0), (1, .int v1), (2, .int v2)] → W p l e rm7_digitCount s m args below meth c H [] 0 0 Q (F0 m 5 ls []) := by
    clear hw hl
    intro n5
    induction n5 with
    | zero =>
      intro v1 v2 ls hw hl
      rw [w7_digitCount_L5] at hw
      exact hw.elim
    | succ n5 ih5 =>
      intro v1 v2 ls hw hl
      rw [w7_digitCount_L5] at hw
      refine lv_iload_n hx hb dX7_digitCount_5 rfl (lv_at hl 2 rfl) ?_
      refine lv_ldc (v := (1000000 : Int32)) hx hb hown (hts (.constant RX7 66 (1000000)) (by decide +kernel)) dX7_digitCount_6 ?_
      refine lv_icmp_gt (tgt := 27) hx hb dX7_digitCount_8 (by decide) (fun k => ?_) (fun k => ?_)
      · have hw := hw.1 k
        refine lv_iload_n hx hb dX7_digitCount_27 rfl (lv_at hl 1 rfl) ?_
        exact RET _ _ _ hw dX7_digitCount_28
      · have hw := hw.2 k
        refine lv_iload_n hx hb dX7_digitCount_11 rfl (lv_at hl 2 rfl) ?_
        refine lv_iload_n hx hb dX7_digitCount_12 rfl (lv_at hl 0 rfl) ?_
        refine lv_icmp_gt (tgt := 27) hx hb dX7_digitCount_13 (by decide) (fun k => ?_) (fun k => ?_)
        · have hw := hw.1 k
          refine lv_iload_n hx hb dX7_digitCount_27 rfl (lv_at hl 1 rfl) ?_
          exact RET _ _ _ hw dX7_digitCount_28
        · have hw := hw.2 k
          obtain ⟨x16, ex16⟩ : ∃ y : Int32, y = (v1 + (1 : Int32)) := ⟨_, rfl⟩
          have hw := hw x16 ex16
          refine lv_iinc (v := x16) (lv' := [(1, .int x16), (0, .int v0), (2, .int v2)]) hx hb dX7_digitCount_16 hl (k := 1) rfl (by rw [ex16]; rfl) (by decide) rfl (fun ls hl => ?_)
          refine lv_iload_n hx hb dX7_digitCount_19 rfl (lv_at hl 2 rfl) ?_
          refine lv_bipush (v := (10 : Int32)) hx hb dX7_digitCount_20 (by decide) ?_
          refine lv_imul hx hb dX7_digitCount_22 ?_
          refine lv_topi (fun x23 ex23 => ?_)
          have hw := hw x23 ex23
          refine lv_istore_n (lv' := [(2, .int x23), (1, .int x16), (0, .int v0)]) hx hb dX7_digitCount_23 rfl hl (by decide) rfl (fun ls hl => ?_)
          refine lv_goto (tgt := 5) hx hb dX7_digitCount_24 (by decide) ?_
          exact ih5 x16 x23 ls hw (lv_sub hl [2, 1, 0] rfl)
  exact LOOP_5 n5 (1 : Int32) (10 : Int32) ls hw (lv_sub hl [2, 1, 0] rfl)
abbrev rm7_runTextSize : Room := { frames := 1, cells := 0, slots := 0, locals := 22 }
theorem nm7_runTextSize : kNm yX7_runTextSize 1 := by decide +kernel
set_option maxHeartbeats 4000000 in
set_option maxRecDepth 100000 in
theorem c7_runTextSize (l : Launch) (D : va_G) (cI cJ cN cR : ClassId)   (v0 : Int32) (post : Int32 → Prop) (hw : w7_runTextSize v0 post) : Met l yX7_runTextSize wsX7_runTextSize rm7_runTextSize (kR D (kT cI cJ cN cR) [.int v0] []) (vp_Si post) 0 0 (fun _ => False) := by
  refine kMetRI (cc := cX7_runTextSize) (maxL := 1) (by decide +kernel) rfl (Nat.le_of_ble_eq_true rfl) ?_
  intro p e s m args below meth c H ls Q C0 hK hN hP hl RET
  obtain ⟨hx, hb, hml, hown, hts⟩ := id C0
  have hl : lv_has ls 1 [(0, .int v0)] := hl
  unfold w7_runTextSize at hw
  refine lv_iload_n hx hb dX7_runTextSize_0 rfl (lv_at hl 0 rfl) ?_
  refine lv_if_gt (tgt := 6) hx hb dX7_runTextSize_1 (by decide) (fun k => ?_) (fun k => ?_)
  · have hw := hw.1 k
    refine lv_iload_n hx hb dX7_runTextSize_6 rfl (lv_at hl 0 rfl) ?_
    refine lv_iconst (v := (1 : Int32)) hx hb dX7_runTextSize_7 (by decide) ?_
    refine lv_icmp_ne (tgt := 15) hx hb dX7_runTextSize_8 (by decide) (fun k => ?_) (fun k => ?_)
    · have hw := hw.1 k
      refine lv_iconst (v := (1 : Int32)) hx hb dX7_runTextSize_15 (by decide) ?_
      refine lv_iload_n hx hb dX7_runTextSize_16 rfl (lv_at hl 0 rfl) ?_
      refine kcRI (wc := []) hP [] rfl (fun hPc => oS (As := [.int v0]) (rest := [.int (1 : Int32)]) C0 hK hN (c7_digitCount l D cI cJ cN cR   v0 _ hw) 1 gX7_runTextSize_X7_digitCount rfl ⟨rfl, rfl⟩ nm7_digitCount ⟨Nat.le_of_ble_eq_true rfl, Nat.le_of_ble_eq_true rfl⟩ rfl hl.1 rfl (Nat.le_of_ble_eq_true rfl) dX7_runTextSize_17 ⟨Nat.le_of_ble_eq_true rfl, Nat.le_of_ble_eq_true rfl⟩ hPc) (fun r17 hw => ?_)
      refine lv_iadd hx hb dX7_runTextSize_20 ?_
      exact RET _ _ _ hw dX7_runTextSize_21
    · have hw := hw.2 k
      refine lv_iconst (v := (1 : Int32)) hx hb dX7_runTextSize_11 (by decide) ?_
      refine lv_goto (tgt := 21) hx hb dX7_runTextSize_12 (by decide) ?_
      exact RET _ _ _ hw dX7_runTextSize_21
  · have hw := hw.2 k
    refine lv_iconst (v := (0 : Int32)) hx hb dX7_runTextSize_4 (by decide) ?_
    exact RET _ _ _ hw dX7_runTextSize_5
abbrev rm7_pathTextLength : Room := { frames := 3, cells := 0, slots := 0, locals := 68 }
theorem nm7_pathTextLength : kNm yX7_pathTextLength 1 := by decide +kernel
set_option maxHeartbeats 4000000 in
set_option maxRecDepth 100000 in
theorem c7_pathTextLength (l : Launch) (D : va_G) (cI cJ cN cR : ClassId) (rf : Nat → Nat) (sz : Nat) (f_hasSnapshot : Int32) (f_termListSize : Int32) (f_textSize : Int32) (f_tops : (Nat → Int32)) (f_bottoms : (Nat → Int32)) (f_E_size : Int32) (f_E_leftTop : Int64) (f_E_leftBottom : Int64) (f_E_rightTop : Int64) (f_E_rightBottom : Int64) (f_E_terms : (Nat → Int32)) (v1 : Int32) (post : Int32 → Int32 → (Nat → Int32) → Prop) (hw : w7_pathTextLength f_tops f_bottoms f_E_size f_E_terms v1 post) : Met l yX7_pathTextLength wsX7_pathTextLength rm7_pathTextLength (kP D (kT cI cJ cN cR) sz [.ref (rf 0), .int v1] [((rf 0), o7 rf f_hasSnapshot f_termListSize f_textSize), ((rf 1), ai cI 8 f_tops), ((rf 2), ai cI 8 f_bottoms), ((rf 14), o1 (rf 17) f_E_size f_E_leftTop f_E_leftBottom f_E_rightTop f_E_rightBottom), ((rf 17), ai cI 64 f_E_terms)]) (kQi D [((rf 0), o7 rf f_hasSnapshot f_termListSize f_textSize), ((rf 1), ai cI 8 f_tops), ((rf 2), ai cI 8 f_bottoms), ((rf 14), o1 (rf 17) f_E_size f_E_leftTop f_E_leftBottom f_E_rightTop f_E_rightBottom), ((rf 17), ai cI 64 f_E_terms)] sz (fun (r : Int32) (u : Int32 × (Nat → Int32)) => post r u.1 u.2) (fun (u : Int32 × (Nat → Int32)) => [((rf 0), o7 rf f_hasSnapshot f_termListSize f_textSize), ((rf 1), ai cI 8 f_tops), ((rf 2), ai cI 8 f_bottoms), ((rf 14), o1 (rf 17) u.1 f_E_leftTop f_E_leftBottom f_E_rightTop f_E_rightBottom), ((rf 17), ai cI 64 u.2)])) 0 0 (va_A [((rf 0), o7 rf f_hasSnapshot f_termListSize f_textSize), ((rf 1), ai cI 8 f_tops), ((rf 2), ai cI 8 f_bottoms), ((rf 14), o1 (rf 17) f_E_size f_E_leftTop f_E_leftBottom f_E_rightTop f_E_rightBottom), ((rf 17), ai cI 64 f_E_terms)] sz) := by
  refine kMetI (cc := cX7_pathTextLength) (maxL := 5) (by decide +kernel) rfl (Nat.le_of_ble_eq_true rfl) ?_
  intro p e s m args below meth c H0 ls A Q C0 hK hN hP hD hS hA hl RET
  obtain ⟨hx, hb, hml, hown, hts⟩ := id C0
  have hl : lv_has ls 5 [(0, .ref (rf 0)), (1, .int v1)] := hl
  unfold w7_pathTextLength at hw
  have hP : va_P D vwCl [((rf 0), o7 rf f_hasSnapshot f_termListSize f_textSize), ((rf 1), ai cI 8 f_tops), ((rf 2), ai cI 8 f_bottoms), ((rf 14), o1 (rf 17) f_E_size f_E_leftTop f_E_leftBottom f_E_rightTop f_E_rightBottom), ((rf 17), ai cI 64 f_E_terms)] H0 := hP
  refine lv_iload_n hx hb dX7_pathTextLength_0 rfl (lv_at hl 1 rfl) ?_
  refine kcRI (wc := []) hP [] rfl (fun hPc => oS (As := [.int v1]) (rest := []) C0 hK hN (c7_isRegister l D cI cJ cN cR   v1 _ hw) 1 gX7_pathTextLength_X7_isRegister rfl ⟨rfl, rfl⟩ nm7_isRegister ⟨Nat.le_of_ble_eq_true rfl, Nat.le_of_ble_eq_true rfl⟩ rfl hl.1 rfl (Nat.le_of_ble_eq_true rfl) dX7_pathTextLength_1 ⟨Nat.le_of_ble_eq_true rfl, Nat.le_of_ble_eq_true rfl⟩ hPc) (fun r1 hw => ?_)
  obtain ⟨nb1, hw⟩ := hw
  refine lv_if_ne (tgt := 9) hx hb dX7_pathTextLength_4 (by decide) (fun k => ?_) (fun k => ?_)
  · have hw := hw.1 k
    refine lv_aload_n hx hb dX7_pathTextLength_9 rfl (lv_at hl 0 rfl) ?_
    refine lv_iload_n hx hb dX7_pathTextLength_10 rfl (lv_at hl 1 rfl) ?_
    refine kcR (wc := [((rf 0), o7 rf f_hasSnapshot f_termListSize f_textSize), ((rf 1), ai cI 8 f_tops), ((rf 2), ai cI 8 f_bottoms), ((rf 14), o1 (rf 17) f_E_size f_E_leftTop f_E_leftBottom f_E_rightTop f_E_rightBottom), ((rf 17), ai cI 64 f_E_terms)]) (wr := []) hP hD hS hA [0, 1, 2, 3, 4] [] rfl rfl ⟨rfl, rfl, by decide⟩ (fun hPc hDc => rV (As := [.int v1]) (rest := []) C0 hK hN (c7_expand l D cI cJ cN cR rf H0.size f_hasSnapshot f_termListSize f_textSize f_tops f_bottoms f_E_size f_E_leftTop f_E_leftBottom f_E_rightTop f_E_rightBottom f_E_terms v1 _ hw) 1 gX7_pathTextLength_X7_expand rfl ⟨rfl, rfl⟩ nm7_expand ⟨Nat.le_of_ble_eq_true rfl, Nat.le_of_ble_eq_true rfl⟩ (q0 := 0) rfl rfl rfl rfl hl.1 rfl (Nat.le_of_ble_eq_true rfl) dX7_pathTextLength_11 ⟨Nat.le_of_ble_eq_true rfl, Nat.le_of_ble_eq_true rfl⟩ hPc hDc) (fun u11 H locs hw hP hD hS => ?_)
    obtain ⟨f_E_size_11, f_E_terms_11⟩ := u11
    dsimp only at hw
    have hP : va_P D vwCl [((rf 0), o7 rf f_hasSnapshot f_termListSize f_textSize), ((rf 1), ai cI 8 f_tops), ((rf 2), ai cI 8 f_bottoms), ((rf 14), o1 (rf 17) f_E_size_11 f_E_leftTop f_E_leftBottom f_E_rightTop f_E_rightBottom), ((rf 17), ai cI 64 f_E_terms_11)] H := hP
    have hD : va_D A [((rf 0), o7 rf f_hasSnapshot f_termListSize f_textSize), ((rf 1), ai cI 8 f_tops), ((rf 2), ai cI 8 f_bottoms), ((rf 14), o1 (rf 17) f_E_size_11 f_E_leftTop f_E_leftBottom f_E_rightTop f_E_rightBottom), ((rf 17), ai cI 64 f_E_terms_11)] := hD
    refine lv_astore_n (lv' := [(2, .ref (rf 14)), (0, .ref (rf 0)), (1, .int v1)]) hx hb dX7_pathTextLength_14 rfl hl (by decide) rfl (fun ls hl => ?_)
    refine lv_iconst (v := (0 : Int32)) hx hb dX7_pathTextLength_15 (by decide) ?_
    refine lv_istore_n (lv' := [(3, .int (0 : Int32)), (2, .ref (rf 14)), (0, .ref (rf 0)), (1, .int v1)]) hx hb dX7_pathTextLength_16 rfl hl (by decide) rfl (fun ls hl => ?_)
    refine lv_iconst (v := (0 : Int32)) hx hb dX7_pathTextLength_17 (by decide) ?_
    refine lv_istore (lv' := [(4, .int (0 : Int32)), (3, .int (0 : Int32)), (2, .ref (rf 14)), (0, .ref (rf 0)), (1, .int v1)]) hx hb dX7_pathTextLength_18 hl (by decide) rfl (fun ls hl => ?_)
    obtain ⟨n20, hw⟩ := hw
    have LOOP_20 : ∀ (n20 : Nat) (v3 : Int32) (v4 : Int32) (H : Heap) (locs : List Loc) (ls : Array Slot), w7_pathTextLength_L20 f_E_size_11 f_E_terms_11 post n20 v3 v4 → va_P D vwCl [((rf 0), o7 rf f_hasSnapshot f_termListSize f_textSize), ((rf 1), ai cI 8 f_tops), ((rf 2), ai cI 8 f_bottoms), ((rf 14), o1 (rf 17) f_E_size_11 f_E_leftTop f_E_leftBottom f_E_rightTop f_E_rightBottom), ((rf 17), ai cI 64 f_E_terms_11)] H → va_D A [((rf 0), o7 rf f_hasSnapshot f_termListSize f_textSize), ((rf 1), ai cI 8 f_tops), ((rf 2), ai cI 8 f_bottoms), ((rf 14), o1 (rf 17) f_E_size_11 f_E_leftTop f_E_leftBottom f_E_rightTop f_E_rightBottom), ((rf 17), ai cI 64 f_E_terms_11)] → va_S A H0 H locs → lv_has ls 5 [(2, .ref (rf 14)), (3, .int v3), (4, .int v4)] → W p l e rm7_pathTextLength s m args below meth c H locs 0 0 Q (F0 m 20 ls []) := by
      clear hw hl hP hD hS
      intro n20
      induction n20 with
      | zero =>
        intro v3 v4 H locs ls hw hP hD hS hl
        rw [w7_pathTextLength_L20] at hw
        exact hw.elim
      | succ n20 ih20 =>
        intro v3 v4 H locs ls hw hP hD hS hl
        rw [w7_pathTextLength_L20] at hw
        refine lv_iload hx hb dX7_pathTextLength_20 (lv_at hl 2 rfl) ?_
        refine lv_aload_n hx hb dX7_pathTextLength_22 rfl (lv_at hl 0 rfl) ?_
        refine kcRI (wc := [((rf 14), o1 (rf 17) f_E_size_11 f_E_leftTop f_E_leftBottom f_E_rightTop f_E_rightBottom)]) hP [3] rfl (fun hPc => oV (As := []) (rest := [.int v4]) C0 hK hN (c1_size l D cI cJ cN cR (rf 14) (rf 17) f_E_size_11 f_E_leftTop f_E_leftBottom f_E_rightTop f_E_rightBottom  _ hw) 0 gX7_pathTextLength_X1_size rfl ⟨rfl, rfl⟩ nm1_size ⟨Nat.le_of_ble_eq_true rfl, Nat.le_of_ble_eq_true rfl⟩ (q0 := 0) rfl rfl rfl rfl hl.1 rfl (Nat.le_of_ble_eq_true rfl) dX7_pathTextLength_23 ⟨Nat.le_of_ble_eq_true rfl, Nat.le_of_ble_eq_true rfl⟩ hPc) (fun r23 hw => ?_)
        refine lv_icmp_ge (tgt := 47) hx hb dX7_pathTextLength_26 (by decide) (fun k => ?_) (fun k => ?_)
        · have hw := hw.1 k
          refine lv_iload_n hx hb dX7_pathTextLength_47 rfl (lv_at hl 1 rfl) ?_
          exact RET _ _ _ (f_E_size_11, f_E_terms_11) _ _ hw hP hD hS dX7_pathTextLength_48
        · have hw := hw.2 k
          refine lv_iload_n hx hb dX7_pathTextLength_29 rfl (lv_at hl 1 rfl) ?_
          refine lv_aload_n hx hb dX7_pathTextLength_30 rfl (lv_at hl 0 rfl) ?_
          refine lv_iload hx hb dX7_pathTextLength_31 (lv_at hl 2 rfl) ?_
          refine kcRI (wc := [((rf 14), o1 (rf 17) f_E_size_11 f_E_leftTop f_E_leftBottom f_E_rightTop f_E_rightBottom), ((rf 17), ai cI 64 f_E_terms_11)]) hP [3, 4] rfl (fun hPc => oV (As := [.int v4]) (rest := [.int v3]) C0 hK hN (c1_runAt l D cI cJ cN cR (rf 14) (rf 17) f_E_size_11 f_E_leftTop f_E_leftBottom f_E_rightTop f_E_rightBottom f_E_terms_11 v4 _ hw) 1 gX7_pathTextLength_X1_runAt rfl ⟨rfl, rfl⟩ nm1_runAt ⟨Nat.le_of_ble_eq_true rfl, Nat.le_of_ble_eq_true rfl⟩ (q0 := 0) rfl rfl rfl rfl hl.1 rfl (Nat.le_of_ble_eq_true rfl) dX7_pathTextLength_33 ⟨Nat.le_of_ble_eq_true rfl, Nat.le_of_ble_eq_true rfl⟩ hPc) (fun r33 hw => ?_)
          refine kcRI (wc := []) hP [] rfl (fun hPc => oS (As := [.int r33]) (rest := [.int v3]) C0 hK hN (c7_runTextSize l D cI cJ cN cR   r33 _ hw) 1 gX7_pathTextLength_X7_runTextSize rfl ⟨rfl, rfl⟩ nm7_runTextSize ⟨Nat.le_of_ble_eq_true rfl, Nat.le_of_ble_eq_true rfl⟩ rfl hl.1 rfl (Nat.le_of_ble_eq_true rfl) dX7_pathTextLength_36 ⟨Nat.le_of_ble_eq_true rfl, Nat.le_of_ble_eq_true rfl⟩ hPc) (fun r36 hw => ?_)
          refine lv_iadd hx hb dX7_pathTextLength_39 ?_
          refine lv_topi (fun x40 ex40 => ?_)
          have hw := hw x40 ex40
          refine lv_istore_n (lv' := [(3, .int x40), (2, .ref (rf 14)), (4, .int v4)]) hx hb dX7_pathTextLength_40 rfl hl (by decide) rfl (fun ls hl => ?_)
          obtain ⟨x41, ex41⟩ : ∃ y : Int32, y = (v4 + (1 : Int32)) := ⟨_, rfl⟩
          have hw := hw x41 ex41
          refine lv_iinc (v := x41) (lv' := [(4, .int x41), (3, .int x40), (2, .ref (rf 14))]) hx hb dX7_pathTextLength_41 hl (k := 2) rfl (by rw [ex41]; rfl) (by decide) rfl (fun ls hl => ?_)
          refine lv_goto (tgt := 20) hx hb dX7_pathTextLength_44 (by decide) ?_
          exact ih20 x40 x41 _ _ ls hw hP hD hS (lv_sub hl [2, 1, 0] rfl)
    exact LOOP_20 n20 (0 : Int32) (0 : Int32) _ _ ls hw hP hD hS (lv_sub hl [2, 1, 0] rfl)
  · have hw := hw.2 k
    refine lv_iconst (v := (-1 : Int32)) hx hb dX7_pathTextLength_7 (by decide) ?_
    exact RET _ _ _ (f_E_size, f_E_terms) _ _ hw hP hD hS dX7_pathTextLength_8
abbrev rm7_runCharacter : Room := { frames := 1, cells := 0, slots := 0, locals := 22 }
theorem nm7_runCharacter : kNm yX7_runCharacter 3 := by decide +kernel
set_option maxHeartbeats 4000000 in
set_option maxRecDepth 100000 in
theorem c7_runCharacter (l : Launch) (D : va_G) (cI cJ cN cR : ClassId)   (v0 : Int32) (v1 : Int32) (v2 : Int32) (post : Int32 → Prop) (hw : w7_runCharacter v0 v1 v2 post) : Met l yX7_runCharacter wsX7_runCharacter rm7_runCharacter (kR D (kT cI cJ cN cR) [.int v0, .int v1, .int v2] []) (vp_Si post) 0 0 (fun _ => False) := by
  refine kMetRI (cc := cX7_runCharacter) (maxL := 5) (by decide +kernel) rfl (Nat.le_of_ble_eq_true rfl) ?_
  intro p e s m args below meth c H ls Q C0 hK hN hP hl RET
  obtain ⟨hx, hb, hml, hown, hts⟩ := id C0
  have hl : lv_has ls 5 [(0, .int v0), (1, .int v1), (2, .int v2)] := hl
  unfold w7_runCharacter at hw
  refine lv_iload_n hx hb dX7_runCharacter_0 rfl (lv_at hl 2 rfl) ?_
  refine lv_if_ne (tgt := 18) hx hb dX7_runCharacter_1 (by decide) (fun k => ?_) (fun k => ?_)
  · have hw := hw.1 k
    refine lv_iload_n hx hb dX7_runCharacter_18 rfl (lv_at hl 1 rfl) ?_
    refine lv_istore_n (lv' := [(3, .int v1), (0, .int v0), (1, .int v1), (2, .int v2)]) hx hb dX7_runCharacter_19 rfl hl (by decide) rfl (fun ls hl => ?_)
    refine lv_iload_n hx hb dX7_runCharacter_20 rfl (lv_at hl 2 rfl) ?_
    refine kcRI (wc := []) hP [] rfl (fun hPc => oS (As := [.int v1]) (rest := []) C0 hK hN (c7_digitCount l D cI cJ cN cR   v1 _ hw) 1 gX7_runCharacter_X7_digitCount rfl ⟨rfl, rfl⟩ nm7_digitCount ⟨Nat.le_of_ble_eq_true rfl, Nat.le_of_ble_eq_true rfl⟩ rfl hl.1 rfl (Nat.le_of_ble_eq_true rfl) dX7_runCharacter_21 ⟨Nat.le_of_ble_eq_true rfl, Nat.le_of_ble_eq_true rfl⟩ hPc) (fun r21 hw => ?_)
    refine lv_iload_n hx hb dX7_runCharacter_24 rfl (lv_at hl 3 rfl) ?_
    refine lv_isub hx hb dX7_runCharacter_25 ?_
    refine lv_topi (fun x26 ex26 => ?_)
    have hw := hw x26 ex26
    refine lv_istore (lv' := [(4, .int x26), (3, .int v1), (0, .int v0), (1, .int v1), (2, .int v2)]) hx hb dX7_runCharacter_26 hl (by decide) rfl (fun ls hl => ?_)
    obtain ⟨n28, hw⟩ := hw
    have LOOP_28 : ∀ (n28 : Nat) (v3 : Int32) (v4 : Int32) (ls : Array Slot), w7_runCharacter_L28 post n28 v3 v4 → lv_has ls 5 [(3, .int v3), (4, .int v4)] → W p l e rm7_runCharacter s m args below meth c H [] 0 0 Q (F0 m 28 ls []) := by
      clear hw hl
      intro n28
      induction n28 with
      | zero =>
        intro v3 v4 ls hw hl
        rw [w7_runCharacter_L28] at hw
        exact hw.elim
      | succ n28 ih28 =>
        intro v3 v4 ls hw hl
        rw [w7_runCharacter_L28] at hw
        refine lv_iload hx hb dX7_runCharacter_28 (lv_at hl 1 rfl) ?_
        refine lv_if_le (tgt := 44) hx hb dX7_runCharacter_30 (by decide) (fun k => ?_) (fun k => ?_)
        · have hw := hw.1 k
          refine lv_bipush (v := (48 : Int32)) hx hb dX7_runCharacter_44 (by decide) ?_
          refine lv_iload_n hx hb dX7_runCharacter_46 rfl (lv_at hl 0 rfl) ?_
          refine lv_bipush (v := (10 : Int32)) hx hb dX7_runCharacter_47 (by decide) ?_
          obtain ⟨hne, hw⟩ := hw
          refine lv_irem hx hb dX7_runCharacter_49 hne ?_
          refine lv_iadd hx hb dX7_runCharacter_50 ?_
          exact RET _ _ _ hw dX7_runCharacter_51
        · have hw := hw.2 k
          refine lv_iload_n hx hb dX7_runCharacter_33 rfl (lv_at hl 0 rfl) ?_
          refine lv_bipush (v := (10 : Int32)) hx hb dX7_runCharacter_34 (by decide) ?_
          obtain ⟨hne, hw⟩ := hw
          refine lv_idiv hx hb dX7_runCharacter_36 hne ?_
          refine lv_topi (fun x37 ex37 => ?_)
          have hw := hw x37 ex37
          refine lv_istore_n (lv' := [(3, .int x37), (4, .int v4)]) hx hb dX7_runCharacter_37 rfl hl (by decide) rfl (fun ls hl => ?_)
          obtain ⟨x38, ex38⟩ : ∃ y : Int32, y = (v4 + (-1 : Int32)) := ⟨_, rfl⟩
          have hw := hw x38 ex38
          refine lv_iinc (v := x38) (lv' := [(4, .int x38), (3, .int x37)]) hx hb dX7_runCharacter_38 hl (k := 1) rfl (by rw [ex38]; rfl) (by decide) rfl (fun ls hl => ?_)
          refine lv_goto (tgt := 28) hx hb dX7_runCharacter_41 (by decide) ?_
          exact ih28 x37 x38 ls hw (lv_sub hl [1, 0] rfl)
    exact LOOP_28 n28 v1 x26 ls hw (lv_sub hl [1, 0] rfl)
  · have hw := hw.2 k
    refine lv_iload_n hx hb dX7_runCharacter_4 rfl (lv_at hl 0 rfl) ?_
    refine lv_iconst (v := (2 : Int32)) hx hb dX7_runCharacter_5 (by decide) ?_
    obtain ⟨hne, hw⟩ := hw
    refine lv_irem hx hb dX7_runCharacter_6 hne ?_
    refine lv_if_ne (tgt := 15) hx hb dX7_runCharacter_7 (by decide) (fun k => ?_) (fun k => ?_)
    · have hw := hw.1 k
      refine lv_bipush (v := (76 : Int32)) hx hb dX7_runCharacter_15 (by decide) ?_
      exact RET _ _ _ hw dX7_runCharacter_17
    · have hw := hw.2 k
      refine lv_bipush (v := (82 : Int32)) hx hb dX7_runCharacter_10 (by decide) ?_
      refine lv_goto (tgt := 17) hx hb dX7_runCharacter_12 (by decide) ?_
      exact RET _ _ _ hw dX7_runCharacter_17
abbrev rm7_pathText : Room := { frames := 3, cells := 0, slots := 0, locals := 68 }
theorem nm7_pathText : kNm yX7_pathText 2 := by decide +kernel
set_option maxHeartbeats 4000000 in
set_option maxRecDepth 100000 in
theorem c7_pathText (l : Launch) (D : va_G) (cI cJ cN cR : ClassId) (rf : Nat → Nat) (sz : Nat) (f_hasSnapshot : Int32) (f_termListSize : Int32) (f_textSize : Int32) (f_tops : (Nat → Int32)) (f_bottoms : (Nat → Int32)) (f_E_size : Int32) (f_E_leftTop : Int64) (f_E_leftBottom : Int64) (f_E_rightTop : Int64) (f_E_rightBottom : Int64) (f_E_terms : (Nat → Int32)) (v1 : Int32) (v2 : Int32) (post : Int32 → Int32 → (Nat → Int32) → Prop) (hw : w7_pathText f_tops f_bottoms f_E_size f_E_terms v1 v2 post) : Met l yX7_pathText wsX7_pathText rm7_pathText (kP D (kT cI cJ cN cR) sz [.ref (rf 0), .int v1, .int v2] [((rf 0), o7 rf f_hasSnapshot f_termListSize f_textSize), ((rf 1), ai cI 8 f_tops), ((rf 2), ai cI 8 f_bottoms), ((rf 14), o1 (rf 17) f_E_size f_E_leftTop f_E_leftBottom f_E_rightTop f_E_rightBottom), ((rf 17), ai cI 64 f_E_terms)]) (kQi D [((rf 0), o7 rf f_hasSnapshot f_termListSize f_textSize), ((rf 1), ai cI 8 f_tops), ((rf 2), ai cI 8 f_bottoms), ((rf 14), o1 (rf 17) f_E_size f_E_leftTop f_E_leftBottom f_E_rightTop f_E_rightBottom), ((rf 17), ai cI 64 f_E_terms)] sz (fun (r : Int32) (u : Int32 × (Nat → Int32)) => post r u.1 u.2) (fun (u : Int32 × (Nat → Int32)) => [((rf 0), o7 rf f_hasSnapshot f_termListSize f_textSize), ((rf 1), ai cI 8 f_tops), ((rf 2), ai cI 8 f_bottoms), ((rf 14), o1 (rf 17) u.1 f_E_leftTop f_E_leftBottom f_E_rightTop f_E_rightBottom), ((rf 17), ai cI 64 u.2)])) 0 0 (va_A [((rf 0), o7 rf f_hasSnapshot f_termListSize f_textSize), ((rf 1), ai cI 8 f_tops), ((rf 2), ai cI 8 f_bottoms), ((rf 14), o1 (rf 17) f_E_size f_E_leftTop f_E_leftBottom f_E_rightTop f_E_rightBottom), ((rf 17), ai cI 64 f_E_terms)] sz) := by
  refine kMetI (cc := cX7_pathText) (maxL := 7) (by decide +kernel) rfl (Nat.le_of_ble_eq_true rfl) ?_
  intro p e s m args below meth c H0 ls A Q C0 hK hN hP hD hS hA hl RET
  obtain ⟨hx, hb, hml, hown, hts⟩ := id C0
  have hl : lv_has ls 7 [(0, .ref (rf 0)), (1, .int v1), (2, .int v2)] := hl
  unfold w7_pathText at hw
  have hP : va_P D vwCl [((rf 0), o7 rf f_hasSnapshot f_termListSize f_textSize), ((rf 1), ai cI 8 f_tops), ((rf 2), ai cI 8 f_bottoms), ((rf 14), o1 (rf 17) f_E_size f_E_leftTop f_E_leftBottom f_E_rightTop f_E_rightBottom), ((rf 17), ai cI 64 f_E_terms)] H0 := hP
  refine lv_iload_n hx hb dX7_pathText_0 rfl (lv_at hl 1 rfl) ?_
  refine kcRI (wc := []) hP [] rfl (fun hPc => oS (As := [.int v1]) (rest := []) C0 hK hN (c7_isRegister l D cI cJ cN cR   v1 _ hw) 1 gX7_pathText_X7_isRegister rfl ⟨rfl, rfl⟩ nm7_isRegister ⟨Nat.le_of_ble_eq_true rfl, Nat.le_of_ble_eq_true rfl⟩ rfl hl.1 rfl (Nat.le_of_ble_eq_true rfl) dX7_pathText_1 ⟨Nat.le_of_ble_eq_true rfl, Nat.le_of_ble_eq_true rfl⟩ hPc) (fun r1 hw => ?_)
  obtain ⟨nb1, hw⟩ := hw
  refine lv_if_eq (tgt := 11) hx hb dX7_pathText_4 (by decide) (fun k => ?_) (fun k => ?_)
  · have hw := hw.1 k
    refine lv_iconst (v := (-1 : Int32)) hx hb dX7_pathText_11 (by decide) ?_
    exact RET _ _ _ (f_E_size, f_E_terms) _ _ hw hP hD hS dX7_pathText_12
  · have hw := hw.2 k
    refine lv_iload_n hx hb dX7_pathText_7 rfl (lv_at hl 2 rfl) ?_
    refine lv_if_ge (tgt := 13) hx hb dX7_pathText_8 (by decide) (fun k => ?_) (fun k => ?_)
    · have hw := hw.1 k
      refine lv_aload_n hx hb dX7_pathText_13 rfl (lv_at hl 0 rfl) ?_
      refine lv_iload_n hx hb dX7_pathText_14 rfl (lv_at hl 1 rfl) ?_
      refine kcR (wc := [((rf 0), o7 rf f_hasSnapshot f_termListSize f_textSize), ((rf 1), ai cI 8 f_tops), ((rf 2), ai cI 8 f_bottoms), ((rf 14), o1 (rf 17) f_E_size f_E_leftTop f_E_leftBottom f_E_rightTop f_E_rightBottom), ((rf 17), ai cI 64 f_E_terms)]) (wr := []) hP hD hS hA [0, 1, 2, 3, 4] [] rfl rfl ⟨rfl, rfl, by decide⟩ (fun hPc hDc => rV (As := [.int v1]) (rest := []) C0 hK hN (c7_expand l D cI cJ cN cR rf H0.size f_hasSnapshot f_termListSize f_textSize f_tops f_bottoms f_E_size f_E_leftTop f_E_leftBottom f_E_rightTop f_E_rightBottom f_E_terms v1 _ hw) 1 gX7_pathText_X7_expand rfl ⟨rfl, rfl⟩ nm7_expand ⟨Nat.le_of_ble_eq_true rfl, Nat.le_of_ble_eq_true rfl⟩ (q0 := 0) rfl rfl rfl rfl hl.1 rfl (Nat.le_of_ble_eq_true rfl) dX7_pathText_15 ⟨Nat.le_of_ble_eq_true rfl, Nat.le_of_ble_eq_true rfl⟩ hPc hDc) (fun u15 H locs hw hP hD hS => ?_)
      obtain ⟨f_E_size_15, f_E_terms_15⟩ := u15
      dsimp only at hw
      have hP : va_P D vwCl [((rf 0), o7 rf f_hasSnapshot f_termListSize f_textSize), ((rf 1), ai cI 8 f_tops), ((rf 2), ai cI 8 f_bottoms), ((rf 14), o1 (rf 17) f_E_size_15 f_E_leftTop f_E_leftBottom f_E_rightTop f_E_rightBottom), ((rf 17), ai cI 64 f_E_terms_15)] H := hP
      have hD : va_D A [((rf 0), o7 rf f_hasSnapshot f_termListSize f_textSize), ((rf 1), ai cI 8 f_tops), ((rf 2), ai cI 8 f_bottoms), ((rf 14), o1 (rf 17) f_E_size_15 f_E_leftTop f_E_leftBottom f_E_rightTop f_E_rightBottom), ((rf 17), ai cI 64 f_E_terms_15)] := hD
      refine lv_astore_n (lv' := [(3, .ref (rf 14)), (0, .ref (rf 0)), (1, .int v1), (2, .int v2)]) hx hb dX7_pathText_18 rfl hl (by decide) rfl (fun ls hl => ?_)
      refine lv_iload_n hx hb dX7_pathText_19 rfl (lv_at hl 3 rfl) ?_
      refine lv_istore (lv' := [(4, .int v2), (3, .ref (rf 14)), (0, .ref (rf 0)), (1, .int v1), (2, .int v2)]) hx hb dX7_pathText_20 hl (by decide) rfl (fun ls hl => ?_)
      refine lv_iconst (v := (0 : Int32)) hx hb dX7_pathText_22 (by decide) ?_
      refine lv_istore (lv' := [(5, .int (0 : Int32)), (4, .int v2), (3, .ref (rf 14)), (0, .ref (rf 0)), (1, .int v1), (2, .int v2)]) hx hb dX7_pathText_23 hl (by decide) rfl (fun ls hl => ?_)
      obtain ⟨n25, hw⟩ := hw
      have LOOP_25 : ∀ (n25 : Nat) (v4 : Int32) (v5 : Int32) (H : Heap) (locs : List Loc) (ls : Array Slot), w7_pathText_L25 f_E_size_15 f_E_terms_15 post n25 v4 v5 → va_P D vwCl [((rf 0), o7 rf f_hasSnapshot f_termListSize f_textSize), ((rf 1), ai cI 8 f_tops), ((rf 2), ai cI 8 f_bottoms), ((rf 14), o1 (rf 17) f_E_size_15 f_E_leftTop f_E_leftBottom f_E_rightTop f_E_rightBottom), ((rf 17), ai cI 64 f_E_terms_15)] H → va_D A [((rf 0), o7 rf f_hasSnapshot f_termListSize f_textSize), ((rf 1), ai cI 8 f_tops), ((rf 2), ai cI 8 f_bottoms), ((rf 14), o1 (rf 17) f_E_size_15 f_E_leftTop f_E_leftBottom f_E_rightTop f_E_rightBottom), ((rf 17), ai cI 64 f_E_terms_15)] → va_S A H0 H locs → lv_has ls 7 [(3, .ref (rf 14)), (4, .int v4), (5, .int v5)] → W p l e rm7_pathText s m args below meth c H locs 0 0 Q (F0 m 25 ls []) := by
        clear hw hl hP hD hS
        intro n25
        induction n25 with
        | zero =>
          intro v4 v5 H locs ls hw hP hD hS hl
          rw [w7_pathText_L25] at hw
          exact hw.elim
        | succ n25 ih25 =>
          intro v4 v5 H locs ls hw hP hD hS hl
          rw [w7_pathText_L25] at hw
          refine lv_iload hx hb dX7_pathText_25 (lv_at hl 2 rfl) ?_
          refine lv_aload_n hx hb dX7_pathText_27 rfl (lv_at hl 0 rfl) ?_
          refine kcRI (wc := [((rf 14), o1 (rf 17) f_E_size_15 f_E_leftTop f_E_leftBottom f_E_rightTop f_E_rightBottom)]) hP [3] rfl (fun hPc => oV (As := []) (rest := [.int v5]) C0 hK hN (c1_size l D cI cJ cN cR (rf 14) (rf 17) f_E_size_15 f_E_leftTop f_E_leftBottom f_E_rightTop f_E_rightBottom  _ hw) 0 gX7_pathText_X1_size rfl ⟨rfl, rfl⟩ nm1_size ⟨Nat.le_of_ble_eq_true rfl, Nat.le_of_ble_eq_true rfl⟩ (q0 := 0) rfl rfl rfl rfl hl.1 rfl (Nat.le_of_ble_eq_true rfl) dX7_pathText_28 ⟨Nat.le_of_ble_eq_true rfl, Nat.le_of_ble_eq_true rfl⟩ hPc) (fun r28 hw => ?_)
          refine lv_icmp_ge (tgt := 79) hx hb dX7_pathText_31 (by decide) (fun k => ?_) (fun k => ?_)
          · have hw := hw.1 k
            refine lv_bipush (v := (-2 : Int32)) hx hb dX7_pathText_79 (by decide) ?_
            exact RET _ _ _ (f_E_size_15, f_E_terms_15) _ _ hw hP hD hS dX7_pathText_81
          · have hw := hw.2 k
            refine lv_aload_n hx hb dX7_pathText_34 rfl (lv_at hl 0 rfl) ?_
            refine lv_iload hx hb dX7_pathText_35 (lv_at hl 2 rfl) ?_
            refine kcRI (wc := [((rf 14), o1 (rf 17) f_E_size_15 f_E_leftTop f_E_leftBottom f_E_rightTop f_E_rightBottom), ((rf 17), ai cI 64 f_E_terms_15)]) hP [3, 4] rfl (fun hPc => oV (As := [.int v5]) (rest := []) C0 hK hN (c1_runAt l D cI cJ cN cR (rf 14) (rf 17) f_E_size_15 f_E_leftTop f_E_leftBottom f_E_rightTop f_E_rightBottom f_E_terms_15 v5 _ hw) 1 gX7_pathText_X1_runAt rfl ⟨rfl, rfl⟩ nm1_runAt ⟨Nat.le_of_ble_eq_true rfl, Nat.le_of_ble_eq_true rfl⟩ (q0 := 0) rfl rfl rfl rfl hl.1 rfl (Nat.le_of_ble_eq_true rfl) dX7_pathText_37 ⟨Nat.le_of_ble_eq_true rfl, Nat.le_of_ble_eq_true rfl⟩ hPc) (fun r37 hw => ?_)
            refine kcRI (wc := []) hP [] rfl (fun hPc => oS (As := [.int r37]) (rest := []) C0 hK hN (c7_runTextSize l D cI cJ cN cR   r37 _ hw) 1 gX7_pathText_X7_runTextSize rfl ⟨rfl, rfl⟩ nm7_runTextSize ⟨Nat.le_of_ble_eq_true rfl, Nat.le_of_ble_eq_true rfl⟩ rfl hl.1 rfl (Nat.le_of_ble_eq_true rfl) dX7_pathText_40 ⟨Nat.le_of_ble_eq_true rfl, Nat.le_of_ble_eq_true rfl⟩ hPc) (fun r40 hw => ?_)
            refine lv_istore (lv' := [(6, .int r40), (3, .ref (rf 14)), (4, .int v4), (5, .int v5)]) hx hb dX7_pathText_43 hl (by decide) rfl (fun ls hl => ?_)
            refine lv_iload hx hb dX7_pathText_45 (lv_at hl 2 rfl) ?_
            refine lv_iload hx hb dX7_pathText_47 (lv_at hl 0 rfl) ?_
            refine lv_icmp_ge (tgt := 66) hx hb dX7_pathText_49 (by decide) (fun k => ?_) (fun k => ?_)
            · have hw := hw.1 k
              refine lv_iload hx hb dX7_pathText_66 (lv_at hl 2 rfl) ?_
              refine lv_iload hx hb dX7_pathText_68 (lv_at hl 0 rfl) ?_
              refine lv_isub hx hb dX7_pathText_70 ?_
              refine lv_topi (fun x71 ex71 => ?_)
              have hw := hw x71 ex71
              refine lv_istore (lv' := [(4, .int x71), (6, .int r40), (3, .ref (rf 14)), (5, .int v5)]) hx hb dX7_pathText_71 hl (by decide) rfl (fun ls hl => ?_)
              obtain ⟨x73, ex73⟩ : ∃ y : Int32, y = (v5 + (1 : Int32)) := ⟨_, rfl⟩
              have hw := hw x73 ex73
              refine lv_iinc (v := x73) (lv' := [(5, .int x73), (4, .int x71), (6, .int r40), (3, .ref (rf 14))]) hx hb dX7_pathText_73 hl (k := 3) rfl (by rw [ex73]; rfl) (by decide) rfl (fun ls hl => ?_)
              refine lv_goto (tgt := 25) hx hb dX7_pathText_76 (by decide) ?_
              exact ih25 x71 x73 _ _ ls hw hP hD hS (lv_sub hl [3, 1, 0] rfl)
            · have hw := hw.2 k
              refine lv_iload hx hb dX7_pathText_52 (lv_at hl 3 rfl) ?_
              refine lv_aload_n hx hb dX7_pathText_54 rfl (lv_at hl 1 rfl) ?_
              refine lv_iload hx hb dX7_pathText_55 (lv_at hl 3 rfl) ?_
              refine kcRI (wc := [((rf 14), o1 (rf 17) f_E_size_15 f_E_leftTop f_E_leftBottom f_E_rightTop f_E_rightBottom), ((rf 17), ai cI 64 f_E_terms_15)]) hP [3, 4] rfl (fun hPc => oV (As := [.int v5]) (rest := [.int v5]) C0 hK hN (c1_runAt l D cI cJ cN cR (rf 14) (rf 17) f_E_size_15 f_E_leftTop f_E_leftBottom f_E_rightTop f_E_rightBottom f_E_terms_15 v5 _ hw) 1 gX7_pathText_X1_runAt rfl ⟨rfl, rfl⟩ nm1_runAt ⟨Nat.le_of_ble_eq_true rfl, Nat.le_of_ble_eq_true rfl⟩ (q0 := 0) rfl rfl rfl rfl hl.1 rfl (Nat.le_of_ble_eq_true rfl) dX7_pathText_57 ⟨Nat.le_of_ble_eq_true rfl, Nat.le_of_ble_eq_true rfl⟩ hPc) (fun r57 hw => ?_)
              refine lv_iload hx hb dX7_pathText_60 (lv_at hl 2 rfl) ?_
              refine kcRI (wc := []) hP [] rfl (fun hPc => oS (As := [.int v5, .int r57, .int v4]) (rest := []) C0 hK hN (c7_runCharacter l D cI cJ cN cR   v5 r57 v4 _ hw) 3 gX7_pathText_X7_runCharacter rfl ⟨rfl, rfl⟩ nm7_runCharacter ⟨Nat.le_of_ble_eq_true rfl, Nat.le_of_ble_eq_true rfl⟩ rfl hl.1 rfl (Nat.le_of_ble_eq_true rfl) dX7_pathText_62 ⟨Nat.le_of_ble_eq_true rfl, Nat.le_of_ble_eq_true rfl⟩ hPc) (fun r62 hw => ?_)
              exact RET _ _ _ (f_E_size_15, f_E_terms_15) _ _ hw hP hD hS dX7_pathText_65
      exact LOOP_25 n25 v2 (0 : Int32) _ _ ls hw hP hD hS (lv_sub hl [2, 1, 0] rfl)
    · have hw := hw.2 k
      refine lv_iconst (v := (-1 : Int32)) hx hb dX7_pathText_11 (by decide) ?_
      exact RET _ _ _ (f_E_size, f_E_terms) _ _ hw hP hD hS dX7_pathText_12
abbrev rm7_newArray : Room := { frames := 1, cells := 0, slots := 0, locals := 20 }
theorem nm7_newArray : kNm yX7_newArray 2 := by decide +kernel
set_option maxHeartbeats 4000000 in
set_option maxRecDepth 100000 in
theorem c7_newArray (l : Launch) (D : va_G) (cI cJ cN cR : ClassId) (rf : Nat → Nat) (sz : Nat) (f_hasSnapshot : Int32) (f_termListSize : Int32) (f_textSize : Int32) (f_arraySizes : (Nat → Int32)) (f_arrays0 : (Nat → Int32)) (f_arrays1 : (Nat → Int32)) (f_arrays2 : (Nat → Int32)) (v1 : Int32) (v2 : Int32) (post : Int32 → (Nat → Int32) → (Nat → Int32) → (Nat → Int32) → (Nat → Int32) → Prop) (hw : w7_newArray f_arraySizes f_arrays0 f_arrays1 f_arrays2 v1 v2 post) : Met l yX7_newArray wsX7_newArray rm7_newArray (kP D (kT cI cJ cN cR) sz [.ref (rf 0), .int v1, .int v2] [((rf 0), o7 rf f_hasSnapshot f_termListSize f_textSize), ((rf 12), ar cR rf), ((rf 13), ai cI 3 f_arraySizes), ((rf 23), ai cI 60 f_arrays0), ((rf 24), ai cI 60 f_arrays1), ((rf 25), ai cI 60 f_arrays2)]) (kQi D [((rf 0), o7 rf f_hasSnapshot f_termListSize f_textSize), ((rf 12), ar cR rf), ((rf 13), ai cI 3 f_arraySizes), ((rf 23), ai cI 60 f_arrays0), ((rf 24), ai cI 60 f_arrays1), ((rf 25), ai cI 60 f_arrays2)] sz (fun (r : Int32) (u : (Nat → Int32) × (Nat → Int32) × (Nat → Int32) × (Nat → Int32)) => post r u.1 u.2.1 u.2.2.1 u.2.2.2) (fun (u : (Nat → Int32) × (Nat → Int32) × (Nat → Int32) × (Nat → Int32)) => [((rf 0), o7 rf f_hasSnapshot f_termListSize f_textSize), ((rf 12), ar cR rf), ((rf 13), ai cI 3 u.1), ((rf 23), ai cI 60 u.2.1), ((rf 24), ai cI 60 u.2.2.1), ((rf 25), ai cI 60 u.2.2.2)])) 0 0 (va_A [((rf 0), o7 rf f_hasSnapshot f_termListSize f_textSize), ((rf 12), ar cR rf), ((rf 13), ai cI 3 f_arraySizes), ((rf 23), ai cI 60 f_arrays0), ((rf 24), ai cI 60 f_arrays1), ((rf 25), ai cI 60 f_arrays2)] sz) := by
  refine kMetI (cc := cX7_newArray) (maxL := 4) (by decide +kernel) rfl (Nat.le_of_ble_eq_true rfl) ?_
  intro p e s m args below meth c H0 ls A Q C0 hK hN hP hD hS hA hl RET
  obtain ⟨hx, hb, hml, hown, hts⟩ := id C0
  have hl : lv_has ls 4 [(0, .ref (rf 0)), (1, .int v1), (2, .int v2)] := hl
  have g39 := hts (.fieldLink RX7 39 "SternBrocotExplorer" "arrays" "[[I") (by decide +kernel)
  have g42 := hts (.fieldLink RX7 42 "SternBrocotExplorer" "arraySizes" "[I") (by decide +kernel)
  have hi9 : ∀ w ∈ wsX70, w ∈ wsX7_newArray := fun w h => List.mem_cons_of_mem _ (List.mem_append_right _ h)
  unfold w7_newArray at hw
  have hP : va_P D vwCl [((rf 0), o7 rf f_hasSnapshot f_termListSize f_textSize), ((rf 12), ar cR rf), ((rf 13), ai cI 3 f_arraySizes), ((rf 23), ai cI 60 f_arrays0), ((rf 24), ai cI 60 f_arrays1), ((rf 25), ai cI 60 f_arrays2)] H0 := hP
  refine lv_iload_n hx hb dX7_newArray_0 rfl (lv_at hl 1 rfl) ?_
  refine kcRI (wc := []) hP [] rfl (fun hPc => oS (As := [.int v1]) (rest := []) C0 hK hN (c7_isArray l D cI cJ cN cR   v1 _ hw) 1 gX7_newArray_X7_isArray rfl ⟨rfl, rfl⟩ nm7_isArray ⟨Nat.le_of_ble_eq_true rfl, Nat.le_of_ble_eq_true rfl⟩ rfl hl.1 rfl (Nat.le_of_ble_eq_true rfl) dX7_newArray_1 ⟨Nat.le_of_ble_eq_true rfl, Nat.le_of_ble_eq_true rfl⟩ hPc) (fun r1 hw => ?_)
  obtain ⟨nb1, hw⟩ := hw
  refine lv_if_eq (tgt := 13) hx hb dX7_newArray_4 (by decide) (fun k => ?_) (fun k => ?_)
  · have hw := hw.1 k
    refine lv_iconst (v := (-1 : Int32)) hx hb dX7_newArray_13 (by decide) ?_
    exact RET _ _ _ (f_arraySizes, f_arrays0, f_arrays1, f_arrays2) _ _ hw hP hD hS dX7_newArray_14
  · have hw := hw.2 k
    refine lv_iload_n hx hb dX7_newArray_7 rfl (lv_at hl 2 rfl) ?_
    refine lv_bipush (v := (60 : Int32)) hx hb dX7_newArray_8 (by decide) ?_
    refine lv_icmp_le (tgt := 15) hx hb dX7_newArray_10 (by decide) (fun k => ?_) (fun k => ?_)
    · have hw := hw.1 k
      refine lv_iload_n hx hb dX7_newArray_15 rfl (lv_at hl 2 rfl) ?_
      refine lv_iconst (v := (-1 : Int32)) hx hb dX7_newArray_16 (by decide) ?_
      refine lv_icmp_ge (tgt := 23) hx hb dX7_newArray_17 (by decide) (fun k => ?_) (fun k => ?_)
      · have hw := hw.1 k
        refine lv_iconst (v := (0 : Int32)) hx hb dX7_newArray_23 (by decide) ?_
        refine lv_istore_n (lv' := [(3, .int (0 : Int32)), (0, .ref (rf 0)), (1, .int v1), (2, .int v2)]) hx hb dX7_newArray_24 rfl hl (by decide) rfl (fun ls hl => ?_)
        obtain ⟨n25, hw⟩ := hw
        have LOOP_25 : ∀ (n25 : Nat) (v3 : Int32) (f_arrays0 : (Nat → Int32)) (f_arrays1 : (Nat → Int32)) (f_arrays2 : (Nat → Int32)) (H : Heap) (locs : List Loc) (ls : Array Slot), w7_newArray_L25 f_arraySizes v1 v2 post n25 v3 f_arrays0 f_arrays1 f_arrays2 → va_P D vwCl [((rf 0), o7 rf f_hasSnapshot f_termListSize f_textSize), ((rf 12), ar cR rf), ((rf 13), ai cI 3 f_arraySizes), ((rf 23), ai cI 60 f_arrays0), ((rf 24), ai cI 60 f_arrays1), ((rf 25), ai cI 60 f_arrays2)] H → va_D A [((rf 0), o7 rf f_hasSnapshot f_termListSize f_textSize), ((rf 12), ar cR rf), ((rf 13), ai cI 3 f_arraySizes), ((rf 23), ai cI 60 f_arrays0), ((rf 24), ai cI 60 f_arrays1), ((rf 25), ai cI 60 f_arrays2)] → va_S A H0 H locs → lv_has ls 4 [(0, .ref (rf 0)), (1, .int v1), (2, .int v2), (3, .int v3)] → W p l e rm7_newArray s m args below meth c H locs 0 0 Q (F0 m 25 ls []) := by
          clear hw hl hP hD hS
          intro n25
          induction n25 with
          | zero =>
            intro v3 f_arrays0 f_arrays1 f_arrays2 H locs ls hw hP hD hS hl
            rw [w7_newArray_L25] at hw
            exact hw.elim
          | succ n25 ih25 =>
            intro v3 f_arrays0 f_arrays1 f_arrays2 H locs ls hw hP hD hS hl
            rw [w7_newArray_L25] at hw
            refine lv_iload_n hx hb dX7_newArray_25 rfl (lv_at hl 3 rfl) ?_
            refine lv_bipush (v := (60 : Int32)) hx hb dX7_newArray_26 (by decide) ?_
            refine lv_icmp_ge (tgt := 46) hx hb dX7_newArray_28 (by decide) (fun k => ?_) (fun k => ?_)
            · have hw := hw.1 k
              refine lv_aload_n hx hb dX7_newArray_46 rfl (lv_at hl 0 rfl) ?_
              refine va_get (D := D) (ci := 7) (v := .ref (rf 13)) (C := RX7) (T := TX7) (N := 16) hx hb hts hi9 hown hK hP 0 rfl rfl 12 (by decide) g42 (fun _ h9 => h9) rfl dX7_newArray_47 ?_
              refine lv_iload_n hx hb dX7_newArray_50 rfl (lv_at hl 1 rfl) ?_
              refine lv_iload_n hx hb dX7_newArray_51 rfl (lv_at hl 2 rfl) ?_
              obtain ⟨hin, hw⟩ := hw
              refine va_iast hx hb hK hP hD hS 2 0 rfl rfl hin dX7_newArray_52 (fun H locs hP hD hS => ?_)
              have hP : va_P D vwCl [((rf 0), o7 rf f_hasSnapshot f_termListSize f_textSize), ((rf 12), ar cR rf), ((rf 13), ai cI 3 (upd f_arraySizes v1.toNatClampNeg v2)), ((rf 23), ai cI 60 f_arrays0), ((rf 24), ai cI 60 f_arrays1), ((rf 25), ai cI 60 f_arrays2)] H := hP
              have hD : va_D A [((rf 0), o7 rf f_hasSnapshot f_termListSize f_textSize), ((rf 12), ar cR rf), ((rf 13), ai cI 3 (upd f_arraySizes v1.toNatClampNeg v2)), ((rf 23), ai cI 60 f_arrays0), ((rf 24), ai cI 60 f_arrays1), ((rf 25), ai cI 60 f_arrays2)] := hD
              refine lv_iconst (v := (1 : Int32)) hx hb dX7_newArray_53 (by decide) ?_
              exact RET _ _ _ ((upd f_arraySizes v1.toNatClampNeg v2), f_arrays0, f_arrays1, f_arrays2) _ _ hw hP hD hS dX7_newArray_54
            · have hw := hw.2 k
              refine lv_aload_n hx hb dX7_newArray_31 rfl (lv_at hl 0 rfl) ?_
              refine va_get (D := D) (ci := 7) (v := .ref (rf 12)) (C := RX7) (T := TX7) (N := 16) hx hb hts hi9 hown hK hP 0 rfl rfl 11 (by decide) g39 (fun _ h9 => h9) rfl dX7_newArray_32 ?_
              refine lv_iload_n hx hb dX7_newArray_35 rfl (lv_at hl 1 rfl) ?_
              obtain ⟨hin, hw⟩ := hw
              rcases k_three hin with h3 | h3 | h3
              · have hw := hw.1 h3
                refine k_aldM (q := (rf 23)) hx hb hK hP 1 3 rfl rfl hin (by rw [h3]; rfl) dX7_newArray_36 ?_
                refine lv_iload_n hx hb dX7_newArray_37 rfl (lv_at hl 3 rfl) ?_
                refine lv_iconst (v := (0 : Int32)) hx hb dX7_newArray_38 (by decide) ?_
                obtain ⟨hin, hw⟩ := hw
                refine va_iast hx hb hK hP hD hS 3 0 rfl rfl hin dX7_newArray_39 (fun H locs hP hD hS => ?_)
                have hP : va_P D vwCl [((rf 0), o7 rf f_hasSnapshot f_termListSize f_textSize), ((rf 12), ar cR rf), ((rf 13), ai cI 3 f_arraySizes), ((rf 23), ai cI 60 (upd f_arrays0 v3.toNatClampNeg (0 : Int32))), ((rf 24), ai cI 60 f_arrays1), ((rf 25), ai cI 60 f_arrays2)] H := hP
                have hD : va_D A [((rf 0), o7 rf f_hasSnapshot f_termListSize f_textSize), ((rf 12), ar cR rf), ((rf 13), ai cI 3 f_arraySizes), ((rf 23), ai cI 60 (upd f_arrays0 v3.toNatClampNeg (0 : Int32))), ((rf 24), ai cI 60 f_arrays1), ((rf 25), ai cI 60 f_arrays2)] := hD
                obtain ⟨x40, ex40⟩ : ∃ y : Int32, y = (v3 + (1 : Int32)) := ⟨_, rfl⟩
                have hw := hw x40 ex40
                refine lv_iinc (v := x40) (lv' := [(3, .int x40), (0, .ref (rf 0)), (1, .int v1), (2, .int v2)]) hx hb dX7_newArray_40 hl (k := 3) rfl (by rw [ex40]; rfl) (by decide) rfl (fun ls hl => ?_)
                refine lv_goto (tgt := 25) hx hb dX7_newArray_43 (by decide) ?_
                exact ih25 x40 (upd f_arrays0 v3.toNatClampNeg (0 : Int32)) f_arrays1 f_arrays2 _ _ ls hw hP hD hS (lv_sub hl [1, 2, 3, 0] rfl)
              · have hw := hw.2.1 h3
                refine k_aldM (q := (rf 24)) hx hb hK hP 1 3 rfl rfl hin (by rw [h3]; rfl) dX7_newArray_36 ?_
                refine lv_iload_n hx hb dX7_newArray_37 rfl (lv_at hl 3 rfl) ?_
                refine lv_iconst (v := (0 : Int32)) hx hb dX7_newArray_38 (by decide) ?_
                obtain ⟨hin, hw⟩ := hw
                refine va_iast hx hb hK hP hD hS 4 0 rfl rfl hin dX7_newArray_39 (fun H locs hP hD hS => ?_)
                have hP : va_P D vwCl [((rf 0), o7 rf f_hasSnapshot f_termListSize f_textSize), ((rf 12), ar cR rf), ((rf 13), ai cI 3 f_arraySizes), ((rf 23), ai cI 60 f_arrays0), ((rf 24), ai cI 60 (upd f_arrays1 v3.toNatClampNeg (0 : Int32))), ((rf 25), ai cI 60 f_arrays2)] H := hP
                have hD : va_D A [((rf 0), o7 rf f_hasSnapshot f_termListSize f_textSize), ((rf 12), ar cR rf), ((rf 13), ai cI 3 f_arraySizes), ((rf 23), ai cI 60 f_arrays0), ((rf 24), ai cI 60 (upd f_arrays1 v3.toNatClampNeg (0 : Int32))), ((rf 25), ai cI 60 f_arrays2)] := hD
                obtain ⟨x40, ex40⟩ : ∃ y : Int32, y = (v3 + (1 : Int32)) := ⟨_, rfl⟩
                have hw := hw x40 ex40
                refine lv_iinc (v := x40) (lv' := [(3, .int x40), (0, .ref (rf 0)), (1, .int v1), (2, .int v2)]) hx hb dX7_newArray_40 hl (k := 3) rfl (by rw [ex40]; rfl) (by decide) rfl (fun ls hl => ?_)
                refine lv_goto (tgt := 25) hx hb dX7_newArray_43 (by decide) ?_
                exact ih25 x40 f_arrays0 (upd f_arrays1 v3.toNatClampNeg (0 : Int32)) f_arrays2 _ _ ls hw hP hD hS (lv_sub hl [1, 2, 3, 0] rfl)
              · have hw := hw.2.2 h3
                refine k_aldM (q := (rf 25)) hx hb hK hP 1 3 rfl rfl hin (by rw [h3]; rfl) dX7_newArray_36 ?_
                refine lv_iload_n hx hb dX7_newArray_37 rfl (lv_at hl 3 rfl) ?_
                refine lv_iconst (v := (0 : Int32)) hx hb dX7_newArray_38 (by decide) ?_
                obtain ⟨hin, hw⟩ := hw
                refine va_iast hx hb hK hP hD hS 5 0 rfl rfl hin dX7_newArray_39 (fun H locs hP hD hS => ?_)
                have hP : va_P D vwCl [((rf 0), o7 rf f_hasSnapshot f_termListSize f_textSize), ((rf 12), ar cR rf), ((rf 13), ai cI 3 f_arraySizes), ((rf 23), ai cI 60 f_arrays0), ((rf 24), ai cI 60 f_arrays1), ((rf 25), ai cI 60 (upd f_arrays2 v3.toNatClampNeg (0 : Int32)))] H := hP
                have hD : va_D A [((rf 0), o7 rf f_hasSnapshot f_termListSize f_textSize), ((rf 12), ar cR rf), ((rf 13), ai cI 3 f_arraySizes), ((rf 23), ai cI 60 f_arrays0), ((rf 24), ai cI 60 f_arrays1), ((rf 25), ai cI 60 (upd f_arrays2 v3.toNatClampNeg (0 : Int32)))] := hD
                obtain ⟨x40, ex40⟩ : ∃ y : Int32, y = (v3 + (1 : Int32)) := ⟨_, rfl⟩
                have hw := hw x40 ex40
                refine lv_iinc (v := x40) (lv' := [(3, .int x40), (0, .ref (rf 0)), (1, .int v1), (2, .int v2)]) hx hb dX7_newArray_40 hl (k := 3) rfl (by rw [ex40]; rfl) (by decide) rfl (fun ls hl => ?_)
                refine lv_goto (tgt := 25) hx hb dX7_newArray_43 (by decide) ?_
                exact ih25 x40 f_arrays0 f_arrays1 (upd f_arrays2 v3.toNatClampNeg (0 : Int32)) _ _ ls hw hP hD hS (lv_sub hl [1, 2, 3, 0] rfl)
        exact LOOP_25 n25 (0 : Int32) f_arrays0 f_arrays1 f_arrays2 _ _ ls hw hP hD hS (lv_sub hl [1, 2, 3, 0] rfl)
      · have hw := hw.2 k
        refine lv_bipush (v := (-14 : Int32)) hx hb dX7_newArray_20 (by decide) ?_
        exact RET _ _ _ (f_arraySizes, f_arrays0, f_arrays1, f_arrays2) _ _ hw hP hD hS dX7_newArray_22
    · have hw := hw.2 k
      refine lv_iconst (v := (-1 : Int32)) hx hb dX7_newArray_13 (by decide) ?_
      exact RET _ _ _ (f_arraySizes, f_arrays0, f_arrays1, f_arrays2) _ _ hw hP hD hS dX7_newArray_14
abbrev rm7_isIndex : Room := { frames := 0, cells := 0, slots := 0, locals := 0 }
theorem nm7_isIndex : kNm yX7_isIndex 2 := by decide +kernel
set_option maxHeartbeats 4000000 in
set_option maxRecDepth 100000 in
theorem c7_isIndex (l : Launch) (D : va_G) (cI cJ cN cR : ClassId) (rf : Nat → Nat) (f_hasSnapshot : Int32) (f_termListSize : Int32) (f_textSize : Int32) (f_arraySizes : (Nat → Int32)) (v1 : Int32) (v2 : Int32) (post : Int32 → Prop) (hw : w7_isIndex f_arraySizes v1 v2 post) : Met l yX7_isIndex wsX7_isIndex rm7_isIndex (kR D (kT cI cJ cN cR) [.ref (rf 0), .int v1, .int v2] [((rf 0), o7 rf f_hasSnapshot f_termListSize f_textSize), ((rf 13), ai cI 3 f_arraySizes)]) (vp_Si (fun (r : Int32) => narrow .boolean (.int r) = .int r ∧ post r)) 0 0 (fun _ => False) := by
  refine kMetRZ (cc := cX7_isIndex) (maxL := 3) (by decide +kernel) rfl (Nat.le_of_ble_eq_true rfl) ?_
  intro p e s m args below meth c H ls Q C0 hK hN hP hl RET
  obtain ⟨hx, hb, hml, hown, hts⟩ := id C0
  have hl : lv_has ls 3 [(0, .ref (rf 0)), (1, .int v1), (2, .int v2)] := hl
  have g42 := hts (.fieldLink RX7 42 "SternBrocotExplorer" "arraySizes" "[I") (by decide +kernel)
  have hi9 : ∀ w ∈ wsX70, w ∈ wsX7_isIndex := fun w h => List.mem_cons_of_mem _ (List.mem_append_right _ h)
  unfold w7_isIndex at hw
  refine lv_iload_n hx hb dX7_isIndex_0 rfl (lv_at hl 2 rfl) ?_
  refine lv_if_lt (tgt := 18) hx hb dX7_isIndex_1 (by decide) (fun k => ?_) (fun k => ?_)
  · have hw := hw.1 k
    refine lv_iconst (v := (0 : Int32)) hx hb dX7_isIndex_18 (by decide) ?_
    exact RET _ _ _ rfl hw dX7_isIndex_19
  · have hw := hw.2 k
    refine lv_iload_n hx hb dX7_isIndex_4 rfl (lv_at hl 2 rfl) ?_
    refine lv_aload_n hx hb dX7_isIndex_5 rfl (lv_at hl 0 rfl) ?_
    refine va_get (D := D) (ci := 7) (v := .ref (rf 13)) (C := RX7) (T := TX7) (N := 16) hx hb hts hi9 hown hK hP 0 rfl rfl 12 (by decide) g42 (fun _ h9 => h9) rfl dX7_isIndex_6 ?_
    refine lv_iload_n hx hb dX7_isIndex_9 rfl (lv_at hl 1 rfl) ?_
    obtain ⟨hin, hw⟩ := hw
    refine va_iald hx hb hK hP 1 0 rfl rfl hin dX7_isIndex_10 ?_
    refine lv_icmp_ge (tgt := 18) hx hb dX7_isIndex_11 (by decide) (fun k => ?_) (fun k => ?_)
    · have hw := hw.1 k
      refine lv_iconst (v := (0 : Int32)) hx hb dX7_isIndex_18 (by decide) ?_
      exact RET _ _ _ rfl hw dX7_isIndex_19
    · have hw := hw.2 k
      refine lv_iconst (v := (1 : Int32)) hx hb dX7_isIndex_14 (by decide) ?_
      refine lv_goto (tgt := 19) hx hb dX7_isIndex_15 (by decide) ?_
      exact RET _ _ _ rfl hw dX7_isIndex_19
abbrev rm7_setElement : Room := { frames := 1, cells := 0, slots := 0, locals := 22 }
theorem nm7_setElement : kNm yX7_setElement 3 := by decide +kernel
set_option maxHeartbeats 4000000 in
set_option maxRecDepth 100000 in
theorem c7_setElement (l : Launch) (D : va_G) (cI cJ cN cR : ClassId) (rf : Nat → Nat) (sz : Nat) (f_hasSnapshot : Int32) (f_termListSize : Int32) (f_textSize : Int32) (f_arraySizes : (Nat → Int32)) (f_arrays0 : (Nat → Int32)) (f_arrays1 : (Nat → Int32)) (f_arrays2 : (Nat → Int32)) (v1 : Int32) (v2 : Int32) (v3 : Int32) (post : Int32 → (Nat → Int32) → (Nat → Int32) → (Nat → Int32) → Prop) (hw : w7_setElement f_arraySizes f_arrays0 f_arrays1 f_arrays2 v1 v2 v3 post) : Met l yX7_setElement wsX7_setElement rm7_setElement (kP D (kT cI cJ cN cR) sz [.ref (rf 0), .int v1, .int v2, .int v3] [((rf 0), o7 rf f_hasSnapshot f_termListSize f_textSize), ((rf 12), ar cR rf), ((rf 13), ai cI 3 f_arraySizes), ((rf 23), ai cI 60 f_arrays0), ((rf 24), ai cI 60 f_arrays1), ((rf 25), ai cI 60 f_arrays2)]) (kQi D [((rf 0), o7 rf f_hasSnapshot f_termListSize f_textSize), ((rf 12), ar cR rf), ((rf 13), ai cI 3 f_arraySizes), ((rf 23), ai cI 60 f_arrays0), ((rf 24), ai cI 60 f_arrays1), ((rf 25), ai cI 60 f_arrays2)] sz (fun (r : Int32) (u : (Nat → Int32) × (Nat → Int32) × (Nat → Int32)) => post r u.1 u.2.1 u.2.2) (fun (u : (Nat → Int32) × (Nat → Int32) × (Nat → Int32)) => [((rf 0), o7 rf f_hasSnapshot f_termListSize f_textSize), ((rf 12), ar cR rf), ((rf 13), ai cI 3 f_arraySizes), ((rf 23), ai cI 60 u.1), ((rf 24), ai cI 60 u.2.1), ((rf 25), ai cI 60 u.2.2)])) 0 0 (va_A [((rf 0), o7 rf f_hasSnapshot f_termListSize f_textSize), ((rf 12), ar cR rf), ((rf 13), ai cI 3 f_arraySizes), ((rf 23), ai cI 60 f_arrays0), ((rf 24), ai cI 60 f_arrays1), ((rf 25), ai cI 60 f_arrays2)] sz) := by
  refine kMetI (cc := cX7_setElement) (maxL := 4) (by decide +kernel) rfl (Nat.le_of_ble_eq_true rfl) ?_
  intro p e s m args below meth c H0 ls A Q C0 hK hN hP hD hS hA hl RET
  obtain ⟨hx, hb, hml, hown, hts⟩ := id C0
  have hl : lv_has ls 4 [(0, .ref (rf 0)), (1, .int v1), (2, .int v2), (3, .int v3)] := hl
  have g42 := hts (.fieldLink RX7 42 "SternBrocotExplorer" "arraySizes" "[I") (by decide +kernel)
  have g39 := hts (.fieldLink RX7 39 "SternBrocotExplorer" "arrays" "[[I") (by decide +kernel)
  have hi9 : ∀ w ∈ wsX70, w ∈ wsX7_setElement := fun w h => List.mem_cons_of_mem _ (List.mem_append_right _ h)
  unfold w7_setElement at hw
  have hP : va_P D vwCl [((rf 0), o7 rf f_hasSnapshot f_termListSize f_textSize), ((rf 12), ar cR rf), ((rf 13), ai cI 3 f_arraySizes), ((rf 23), ai cI 60 f_arrays0), ((rf 24), ai cI 60 f_arrays1), ((rf 25), ai cI 60 f_arrays2)] H0 := hP
  refine lv_iload_n hx hb dX7_setElement_0 rfl (lv_at hl 1 rfl) ?_
  refine kcRI (wc := []) hP [] rfl (fun hPc => oS (As := [.int v1]) (rest := []) C0 hK hN (c7_isArray l D cI cJ cN cR   v1 _ hw) 1 gX7_setElement_X7_isArray rfl ⟨rfl, rfl⟩ nm7_isArray ⟨Nat.le_of_ble_eq_true rfl, Nat.le_of_ble_eq_true rfl⟩ rfl hl.1 rfl (Nat.le_of_ble_eq_true rfl) dX7_setElement_1 ⟨Nat.le_of_ble_eq_true rfl, Nat.le_of_ble_eq_true rfl⟩ hPc) (fun r1 hw => ?_)
  obtain ⟨nb1, hw⟩ := hw
  refine lv_if_ne (tgt := 9) hx hb dX7_setElement_4 (by decide) (fun k => ?_) (fun k => ?_)
  · have hw := hw.1 k
    refine lv_aload_n hx hb dX7_setElement_9 rfl (lv_at hl 0 rfl) ?_
    refine va_get (D := D) (ci := 7) (v := .ref (rf 13)) (C := RX7) (T := TX7) (N := 16) hx hb hts hi9 hown hK hP 0 rfl rfl 12 (by decide) g42 (fun _ h9 => h9) rfl dX7_setElement_10 ?_
    refine lv_iload_n hx hb dX7_setElement_13 rfl (lv_at hl 1 rfl) ?_
    obtain ⟨hin, hw⟩ := hw
    refine va_iald hx hb hK hP 2 0 rfl rfl hin dX7_setElement_14 ?_
    refine lv_iconst (v := (-1 : Int32)) hx hb dX7_setElement_15 (by decide) ?_
    refine lv_icmp_ne (tgt := 22) hx hb dX7_setElement_16 (by decide) (fun k => ?_) (fun k => ?_)
    · have hw := hw.1 k
      refine lv_aload_n hx hb dX7_setElement_22 rfl (lv_at hl 0 rfl) ?_
      refine lv_iload_n hx hb dX7_setElement_23 rfl (lv_at hl 1 rfl) ?_
      refine lv_iload_n hx hb dX7_setElement_24 rfl (lv_at hl 2 rfl) ?_
      refine kcRI (wc := [((rf 0), o7 rf f_hasSnapshot f_termListSize f_textSize), ((rf 13), ai cI 3 f_arraySizes)]) hP [0, 2] rfl (fun hPc => oV (As := [.int v1, .int v2]) (rest := []) C0 hK hN (c7_isIndex l D cI cJ cN cR rf f_hasSnapshot f_termListSize f_textSize f_arraySizes v1 v2 _ hw) 2 gX7_setElement_X7_isIndex rfl ⟨rfl, rfl⟩ nm7_isIndex ⟨Nat.le_of_ble_eq_true rfl, Nat.le_of_ble_eq_true rfl⟩ (q0 := 0) rfl rfl rfl rfl hl.1 rfl (Nat.le_of_ble_eq_true rfl) dX7_setElement_25 ⟨Nat.le_of_ble_eq_true rfl, Nat.le_of_ble_eq_true rfl⟩ hPc) (fun r25 hw => ?_)
      obtain ⟨nb25, hw⟩ := hw
      refine lv_if_ne (tgt := 34) hx hb dX7_setElement_28 (by decide) (fun k => ?_) (fun k => ?_)
      · have hw := hw.1 k
        refine lv_aload_n hx hb dX7_setElement_34 rfl (lv_at hl 0 rfl) ?_
        refine va_get (D := D) (ci := 7) (v := .ref (rf 12)) (C := RX7) (T := TX7) (N := 16) hx hb hts hi9 hown hK hP 0 rfl rfl 11 (by decide) g39 (fun _ h9 => h9) rfl dX7_setElement_35 ?_
        refine lv_iload_n hx hb dX7_setElement_38 rfl (lv_at hl 1 rfl) ?_
        obtain ⟨hin, hw⟩ := hw
        rcases k_three hin with h3 | h3 | h3
        · have hw := hw.1 h3
          refine k_aldM (q := (rf 23)) hx hb hK hP 1 3 rfl rfl hin (by rw [h3]; rfl) dX7_setElement_39 ?_
          refine lv_iload_n hx hb dX7_setElement_40 rfl (lv_at hl 2 rfl) ?_
          refine lv_iload_n hx hb dX7_setElement_41 rfl (lv_at hl 3 rfl) ?_
          obtain ⟨hin, hw⟩ := hw
          refine va_iast hx hb hK hP hD hS 3 0 rfl rfl hin dX7_setElement_42 (fun H locs hP hD hS => ?_)
          have hP : va_P D vwCl [((rf 0), o7 rf f_hasSnapshot f_termListSize f_textSize), ((rf 12), ar cR rf), ((rf 13), ai cI 3 f_arraySizes), ((rf 23), ai cI 60 (upd f_arrays0 v2.toNatClampNeg v3)), ((rf 24), ai cI 60 f_arrays1), ((rf 25), ai cI 60 f_arrays2)] H := hP
          have hD : va_D A [((rf 0), o7 rf f_hasSnapshot f_termListSize f_textSize), ((rf 12), ar cR rf), ((rf 13), ai cI 3 f_arraySizes), ((rf 23), ai cI 60 (upd f_arrays0 v2.toNatClampNeg v3)), ((rf 24), ai cI 60 f_arrays1), ((rf 25), ai cI 60 f_arrays2)] := hD
          refine lv_iconst (v := (1 : Int32)) hx hb dX7_setElement_43 (by decide) ?_
          exact RET _ _ _ ((upd f_arrays0 v2.toNatClampNeg v3), f_arrays1, f_arrays2) _ _ hw hP hD hS dX7_setElement_44
        · have hw := hw.2.1 h3
          refine k_aldM (q := (rf 24)) hx hb hK hP 1 3 rfl rfl hin (by rw [h3]; rfl) dX7_setElement_39 ?_
          refine lv_iload_n hx hb dX7_setElement_40 rfl (lv_at hl 2 rfl) ?_
          refine lv_iload_n hx hb dX7_setElement_41 rfl (lv_at hl 3 rfl) ?_
          obtain ⟨hin, hw⟩ := hw
          refine va_iast hx hb hK hP hD hS 4 0 rfl rfl hin dX7_setElement_42 (fun H locs hP hD hS => ?_)
          have hP : va_P D vwCl [((rf 0), o7 rf f_hasSnapshot f_termListSize f_textSize), ((rf 12), ar cR rf), ((rf 13), ai cI 3 f_arraySizes), ((rf 23), ai cI 60 f_arrays0), ((rf 24), ai cI 60 (upd f_arrays1 v2.toNatClampNeg v3)), ((rf 25), ai cI 60 f_arrays2)] H := hP
          have hD : va_D A [((rf 0), o7 rf f_hasSnapshot f_termListSize f_textSize), ((rf 12), ar cR rf), ((rf 13), ai cI 3 f_arraySizes), ((rf 23), ai cI 60 f_arrays0), ((rf 24), ai cI 60 (upd f_arrays1 v2.toNatClampNeg v3)), ((rf 25), ai cI 60 f_arrays2)] := hD
          refine lv_iconst (v := (1 : Int32)) hx hb dX7_setElement_43 (by decide) ?_
          exact RET _ _ _ (f_arrays0, (upd f_arrays1 v2.toNatClampNeg v3), f_arrays2) _ _ hw hP hD hS dX7_setElement_44
        · have hw := hw.2.2 h3
          refine k_aldM (q := (rf 25)) hx hb hK hP 1 3 rfl rfl hin (by rw [h3]; rfl) dX7_setElement_39 ?_
          refine lv_iload_n hx hb dX7_setElement_40 rfl (lv_at hl 2 rfl) ?_
          refine lv_iload_n hx hb dX7_setElement_41 rfl (lv_at hl 3 rfl) ?_
          obtain ⟨hin, hw⟩ := hw
          refine va_iast hx hb hK hP hD hS 5 0 rfl rfl hin dX7_setElement_42 (fun H locs hP hD hS => ?_)
          have hP : va_P D vwCl [((rf 0), o7 rf f_hasSnapshot f_termListSize f_textSize), ((rf 12), ar cR rf), ((rf 13), ai cI 3 f_arraySizes), ((rf 23), ai cI 60 f_arrays0), ((rf 24), ai cI 60 f_arrays1), ((rf 25), ai cI 60 (upd f_arrays2 v2.toNatClampNeg v3))] H := hP
          have hD : va_D A [((rf 0), o7 rf f_hasSnapshot f_termListSize f_textSize), ((rf 12), ar cR rf), ((rf 13), ai cI 3 f_arraySizes), ((rf 23), ai cI 60 f_arrays0), ((rf 24), ai cI 60 f_arrays1), ((rf 25), ai cI 60 (upd f_arrays2 v2.toNatClampNeg v3))] := hD
          refine lv_iconst (v := (1 : Int32)) hx hb dX7_setElement_43 (by decide) ?_
          exact RET _ _ _ (f_arrays0, f_arrays1, (upd f_arrays2 v2.toNatClampNeg v3)) _ _ hw hP hD hS dX7_setElement_44
      · have hw := hw.2 k
        refine lv_bipush (v := (-13 : Int32)) hx hb dX7_setElement_31 (by decide) ?_
        exact RET _ _ _ (f_arrays0, f_arrays1, f_arrays2) _ _ hw hP hD hS dX7_setElement_33
    · have hw := hw.2 k
      refine lv_bipush (v := (-11 : Int32)) hx hb dX7_setElement_19 (by decide) ?_
      exact RET _ _ _ (f_arrays0, f_arrays1, f_arrays2) _ _ hw hP hD hS dX7_setElement_21
  · have hw := hw.2 k
    refine lv_iconst (v := (-1 : Int32)) hx hb dX7_setElement_7 (by decide) ?_
    exact RET _ _ _ (f_arrays0, f_arrays1, f_arrays2) _ _ hw hP hD hS dX7_setElement_8
abbrev rm7_element : Room := { frames := 1, cells := 0, slots := 0, locals := 22 }
theorem nm7_element : kNm yX7_element 2 := by decide +kernel
set_option maxHeartbeats 4000000 in
set_option maxRecDepth 100000 in
theorem c7_element (l : Launch) (D : va_G) (cI cJ cN cR : ClassId) (rf : Nat → Nat) (f_hasSnapshot : Int32) (f_termListSize : Int32) (f_textSize : Int32) (f_arraySizes : (Nat → Int32)) (f_arrays0 : (Nat → Int32)) (f_arrays1 : (Nat → Int32)) (f_arrays2 : (Nat → Int32)) (v1 : Int32) (v2 : Int32) (post : Int64 → Prop) (hw : w7_element f_arraySizes f_arrays0 f_arrays1 f_arrays2 v1 v2 post) : Met l yX7_element wsX7_element rm7_element (kR D (kT cI cJ cN cR) [.ref (rf 0), .int v1, .int v2] [((rf 0), o7 rf f_hasSnapshot f_termListSize f_textSize), ((rf 12), ar cR rf), ((rf 13), ai cI 3 f_arraySizes), ((rf 23), ai cI 60 f_arrays0), ((rf 24), ai cI 60 f_arrays1), ((rf 25), ai cI 60 f_arrays2)]) (vp_Sl post) 0 0 (fun _ => False) := by
  refine kMetRL (cc := cX7_element) (maxL := 3) (by decide +kernel) rfl (Nat.le_of_ble_eq_true rfl) ?_
  intro p e s m args below meth c H ls Q C0 hK hN hP hl RET
  obtain ⟨hx, hb, hml, hown, hts⟩ := id C0
  have hl : lv_has ls 3 [(0, .ref (rf 0)), (1, .int v1), (2, .int v2)] := hl
  have g39 := hts (.fieldLink RX7 39 "SternBrocotExplorer" "arrays" "[[I") (by decide +kernel)
  have hi9 : ∀ w ∈ wsX70, w ∈ wsX7_element := fun w h => List.mem_cons_of_mem _ (List.mem_append_right _ h)
  unfold w7_element at hw
  refine lv_iload_n hx hb dX7_element_0 rfl (lv_at hl 1 rfl) ?_
  refine kcRI (wc := []) hP [] rfl (fun hPc => oS (As := [.int v1]) (rest := []) C0 hK hN (c7_isArray l D cI cJ cN cR   v1 _ hw) 1 gX7_element_X7_isArray rfl ⟨rfl, rfl⟩ nm7_isArray ⟨Nat.le_of_ble_eq_true rfl, Nat.le_of_ble_eq_true rfl⟩ rfl hl.1 rfl (Nat.le_of_ble_eq_true rfl) dX7_element_1 ⟨Nat.le_of_ble_eq_true rfl, Nat.le_of_ble_eq_true rfl⟩ hPc) (fun r1 hw => ?_)
  obtain ⟨nb1, hw⟩ := hw
  refine lv_if_eq (tgt := 28) hx hb dX7_element_4 (by decide) (fun k => ?_) (fun k => ?_)
  · have hw := hw.1 k
    refine lv_ldc2 (v := (-9223372036854775808 : Int64)) hx hb hown (hts (.constantLong RX7 79 (-9223372036854775808)) (by decide +kernel)) dX7_element_28 ?_
    exact RET _ _ _ hw dX7_element_31
  · have hw := hw.2 k
    refine lv_aload_n hx hb dX7_element_7 rfl (lv_at hl 0 rfl) ?_
    refine lv_iload_n hx hb dX7_element_8 rfl (lv_at hl 1 rfl) ?_
    refine lv_iload_n hx hb dX7_element_9 rfl (lv_at hl 2 rfl) ?_
    refine kcRI (wc := [((rf 0), o7 rf f_hasSnapshot f_termListSize f_textSize), ((rf 13), ai cI 3 f_arraySizes)]) hP [0, 2] rfl (fun hPc => oV (As := [.int v1, .int v2]) (rest := []) C0 hK hN (c7_isIndex l D cI cJ cN cR rf f_hasSnapshot f_termListSize f_textSize f_arraySizes v1 v2 _ hw) 2 gX7_element_X7_isIndex rfl ⟨rfl, rfl⟩ nm7_isIndex ⟨Nat.le_of_ble_eq_true rfl, Nat.le_of_ble_eq_true rfl⟩ (q0 := 0) rfl rfl rfl rfl hl.1 rfl (Nat.le_of_ble_eq_true rfl) dX7_element_10 ⟨Nat.le_of_ble_eq_true rfl, Nat.le_of_ble_eq_true rfl⟩ hPc) (fun r10 hw => ?_)
    obtain ⟨nb10, hw⟩ := hw
    refine lv_if_eq (tgt := 28) hx hb dX7_element_13 (by decide) (fun k => ?_) (fun k => ?_)
    · have hw := hw.1 k
      refine lv_ldc2 (v := (-9223372036854775808 : Int64)) hx hb hown (hts (.constantLong RX7 79 (-9223372036854775808)) (by decide +kernel)) dX7_element_28 ?_
      exact RET _ _ _ hw dX7_element_31
    · have hw := hw.2 k
      refine lv_aload_n hx hb dX7_element_16 rfl (lv_at hl 0 rfl) ?_
      refine va_get (D := D) (ci := 7) (v := .ref (rf 12)) (C := RX7) (T := TX7) (N := 16) hx hb hts hi9 hown hK hP 0 rfl rfl 11 (by decide) g39 (fun _ h9 => h9) rfl dX7_element_17 ?_
      refine lv_iload_n hx hb dX7_element_20 rfl (lv_at hl 1 rfl) ?_
      obtain ⟨hin, hw⟩ := hw
      rcases k_three hin with h3 | h3 | h3
      · have hw := hw.1 h3
        refine k_aldM (q := (rf 23)) hx hb hK hP 1 3 rfl rfl hin (by rw [h3]; rfl) dX7_element_21 ?_
        refine lv_iload_n hx hb dX7_element_22 rfl (lv_at hl 2 rfl) ?_
        obtain ⟨hin, hw⟩ := hw
        refine va_iald hx hb hK hP 3 0 rfl rfl hin dX7_element_23 ?_
        refine lv_i2l hx hb dX7_element_24 rfl ?_
        refine lv_goto (tgt := 31) hx hb dX7_element_25 (by decide) ?_
        exact RET _ _ _ hw dX7_element_31
      · have hw := hw.2.1 h3
        refine k_aldM (q := (rf 24)) hx hb hK hP 1 3 rfl rfl hin (by rw [h3]; rfl) dX7_element_21 ?_
        refine lv_iload_n hx hb dX7_element_22 rfl (lv_at hl 2 rfl) ?_
        obtain ⟨hin, hw⟩ := hw
        refine va_iald hx hb hK hP 4 0 rfl rfl hin dX7_element_23 ?_
        refine lv_i2l hx hb dX7_element_24 rfl ?_
        refine lv_goto (tgt := 31) hx hb dX7_element_25 (by decide) ?_
        exact RET _ _ _ hw dX7_element_31
      · have hw := hw.2.2 h3
        refine k_aldM (q := (rf 25)) hx hb hK hP 1 3 rfl rfl hin (by rw [h3]; rfl) dX7_element_21 ?_
        refine lv_iload_n hx hb dX7_element_22 rfl (lv_at hl 2 rfl) ?_
        obtain ⟨hin, hw⟩ := hw
        refine va_iald hx hb hK hP 5 0 rfl rfl hin dX7_element_23 ?_
        refine lv_i2l hx hb dX7_element_24 rfl ?_
        refine lv_goto (tgt := 31) hx hb dX7_element_25 (by decide) ?_
        exact RET _ _ _ hw dX7_element_31
abbrev rm7_valueOf : Room := { frames := 3, cells := 0, slots := 0, locals := 65 }
theorem nm7_valueOf : kNm yX7_valueOf 4 := by decide +kernel
set_option maxHeartbeats 4000000 in
set_option maxRecDepth 100000 in
theorem c7_valueOf (l : Launch) (D : va_G) (cI cJ cN cR : ClassId) (rf : Nat → Nat) (g0 : Nat) (g1 : Nat) (f_hasSnapshot : Int32) (f_termListSize : Int32) (f_textSize : Int32) (f_tops : (Nat → Int32)) (f_bottoms : (Nat → Int32)) (f_P_size : Int32) (f_P_leftTop : Int64) (f_P_leftBottom : Int64) (f_P_rightTop : Int64) (f_P_rightBottom : Int64) (f_P_terms : (Nat → Int32)) (v1 : Int32) (v3 : Int32) (v4 : Int32) (post : Int32 → Prop) (hw : w7_valueOf f_tops f_bottoms f_P_size f_P_terms v1 v3 v4 post) : Met l yX7_valueOf wsX7_valueOf rm7_valueOf (kR D (kT cI cJ cN cR) [.ref (rf 0), .int v1, .ref g0, .int v3, .int v4] [((rf 0), o7 rf f_hasSnapshot f_termListSize f_textSize), ((rf 1), ai cI 8 f_tops), ((rf 2), ai cI 8 f_bottoms), (g0, o1 g1 f_P_size f_P_leftTop f_P_leftBottom f_P_rightTop f_P_rightBottom), (g1, ai cI 64 f_P_terms)]) (vp_Si post) 0 0 (fun _ => False) := by
  refine kMetRI (cc := cX7_valueOf) (maxL := 5) (by decide +kernel) rfl (Nat.le_of_ble_eq_true rfl) ?_
  intro p e s m args below meth c H ls Q C0 hK hN hP hl RET
  obtain ⟨hx, hb, hml, hown, hts⟩ := id C0
  have hl : lv_has ls 5 [(0, .ref (rf 0)), (1, .int v1), (2, .ref g0), (3, .int v3), (4, .int v4)] := hl
  have g9 := hts (.fieldLink RX7 9 "SternBrocotExplorer" "tops" "[I") (by decide +kernel)
  have g13 := hts (.fieldLink RX7 13 "SternBrocotExplorer" "bottoms" "[I") (by decide +kernel)
  have hi9 : ∀ w ∈ wsX70, w ∈ wsX7_valueOf := fun w h => List.mem_cons_of_mem _ (List.mem_append_left _ (List.mem_append_right _ h))
  unfold w7_valueOf at hw
  refine lv_iload_n hx hb dX7_valueOf_0 rfl (lv_at hl 3 rfl) ?_
  by_cases h1_0 : v3 = (0 : Int32)
  · have hw := hw.1 h1_0
    refine lv_lookup (off := 27) (tgt := 28) hx hb dX7_valueOf_1 (by decide) (by rw [h1_0] <;> rfl) (by decide) ?_
    refine lv_aload_n hx hb dX7_valueOf_28 rfl (lv_at hl 2 rfl) ?_
    refine lv_iload hx hb dX7_valueOf_29 (lv_at hl 4 rfl) ?_
    refine kcRI (wc := [(g0, o1 g1 f_P_size f_P_leftTop f_P_leftBottom f_P_rightTop f_P_rightBottom), (g1, ai cI 64 f_P_terms)]) hP [3, 4] rfl (fun hPc => oV (As := [.int v4]) (rest := []) C0 hK hN (c1_at l D cI cJ cN cR g0 g1 f_P_size f_P_leftTop f_P_leftBottom f_P_rightTop f_P_rightBottom f_P_terms v4 _ hw) 1 gX7_valueOf_X1_at rfl ⟨rfl, rfl⟩ nm1_at ⟨Nat.le_of_ble_eq_true rfl, Nat.le_of_ble_eq_true rfl⟩ (q0 := 0) rfl rfl rfl rfl hl.1 rfl (Nat.le_of_ble_eq_true rfl) dX7_valueOf_31 ⟨Nat.le_of_ble_eq_true rfl, Nat.le_of_ble_eq_true rfl⟩ hPc) (fun r31 hw => ?_)
    exact RET _ _ _ hw dX7_valueOf_34
  have hw := hw.2 h1_0
  by_cases h1_1 : v3 = (1 : Int32)
  · have hw := hw.1 h1_1
    refine lv_lookup (off := 34) (tgt := 35) hx hb dX7_valueOf_1 (by decide) (by rw [h1_1] <;> rfl) (by decide) ?_
    refine lv_aload_n hx hb dX7_valueOf_35 rfl (lv_at hl 0 rfl) ?_
    refine va_get (D := D) (ci := 7) (v := .ref (rf 1)) (C := RX7) (T := TX7) (N := 16) hx hb hts hi9 hown hK hP 0 rfl rfl 0 (by decide) g9 (fun _ h9 => h9) rfl dX7_valueOf_36 ?_
    refine lv_iload_n hx hb dX7_valueOf_39 rfl (lv_at hl 1 rfl) ?_
    obtain ⟨hin, hw⟩ := hw
    refine va_iald hx hb hK hP 1 0 rfl rfl hin dX7_valueOf_40 ?_
    refine lv_i2l hx hb dX7_valueOf_41 rfl ?_
    refine lv_aload_n hx hb dX7_valueOf_42 rfl (lv_at hl 0 rfl) ?_
    refine va_get (D := D) (ci := 7) (v := .ref (rf 2)) (C := RX7) (T := TX7) (N := 16) hx hb hts hi9 hown hK hP 0 rfl rfl 1 (by decide) g13 (fun _ h9 => h9) rfl dX7_valueOf_43 ?_
    refine lv_iload_n hx hb dX7_valueOf_46 rfl (lv_at hl 1 rfl) ?_
    obtain ⟨hin, hw⟩ := hw
    refine va_iald hx hb hK hP 2 0 rfl rfl hin dX7_valueOf_47 ?_
    refine lv_i2l hx hb dX7_valueOf_48 rfl ?_
    refine lv_iload hx hb dX7_valueOf_49 (lv_at hl 4 rfl) ?_
    refine lv_i2l hx hb dX7_valueOf_51 rfl ?_
    refine kcRI (wc := []) hP [] rfl (fun hPc => oS (As := [.long ((f_tops v1.toNatClampNeg).toInt64), .long ((f_bottoms v1.toNatClampNeg).toInt64), .long v4.toInt64]) (rest := []) C0 hK hN (c7_letterOf l D cI cJ cN cR   ((f_tops v1.toNatClampNeg).toInt64) ((f_bottoms v1.toNatClampNeg).toInt64) v4.toInt64 _ hw) 3 gX7_valueOf_X7_letterOf rfl ⟨rfl, rfl⟩ nm7_letterOf ⟨Nat.le_of_ble_eq_true rfl, Nat.le_of_ble_eq_true rfl⟩ rfl hl.1 rfl (Nat.le_of_ble_eq_true rfl) dX7_valueOf_52 ⟨Nat.le_of_ble_eq_true rfl, Nat.le_of_ble_eq_true rfl⟩ hPc) (fun r52 hw => ?_)
    exact RET _ _ _ hw dX7_valueOf_55
  have hw := hw.2 h1_1
  refine lv_lookup (off := 55) (tgt := 56) hx hb dX7_valueOf_1 (by decide) (by rw [lv_osw h1_0 (by decide), lv_osw h1_1 (by decide)] <;> rfl) (by decide) ?_
  refine lv_aload_n hx hb dX7_valueOf_56 rfl (lv_at hl 2 rfl) ?_
  refine lv_iload hx hb dX7_valueOf_57 (lv_at hl 4 rfl) ?_
  refine kcRI (wc := [(g0, o1 g1 f_P_size f_P_leftTop f_P_leftBottom f_P_rightTop f_P_rightBottom), (g1, ai cI 64 f_P_terms)]) hP [3, 4] rfl (fun hPc => oV (As := [.int v4]) (rest := []) C0 hK hN (c1_stepAt l D cI cJ cN cR g0 g1 f_P_size f_P_leftTop f_P_leftBottom f_P_rightTop f_P_rightBottom f_P_terms v4 _ hw) 1 gX7_valueOf_X1_stepAt rfl ⟨rfl, rfl⟩ nm1_stepAt ⟨Nat.le_of_ble_eq_true rfl, Nat.le_of_ble_eq_true rfl⟩ (q0 := 0) rfl rfl rfl rfl hl.1 rfl (Nat.le_of_ble_eq_true rfl) dX7_valueOf_59 ⟨Nat.le_of_ble_eq_true rfl, Nat.le_of_ble_eq_true rfl⟩ hPc) (fun r59 hw => ?_)
  exact RET _ _ _ hw dX7_valueOf_62
abbrev rm7_fillArray : Room := { frames := 4, cells := 0, slots := 0, locals := 89 }
theorem nm7_fillArray : kNm yX7_fillArray 3 := by decide +kernel
set_option maxHeartbeats 4000000 in
set_option maxRecDepth 100000 in
theorem c7_fillArray (l : Launch) (D : va_G) (cI cJ cN cR : ClassId) (rf : Nat → Nat) (sz : Nat) (f_hasSnapshot : Int32) (f_termListSize : Int32) (f_textSize : Int32) (f_tops : (Nat → Int32)) (f_bottoms : (Nat → Int32)) (f_arraySizes : (Nat → Int32)) (f_E_size : Int32) (f_E_leftTop : Int64) (f_E_leftBottom : Int64) (f_E_rightTop : Int64) (f_E_rightBottom : Int64) (f_E_terms : (Nat → Int32)) (f_arrays0 : (Nat → Int32)) (f_arrays1 : (Nat → Int32)) (f_arrays2 : (Nat → Int32)) (v1 : Int32) (v2 : Int32) (v3 : Int32) (post : Int32 → (Nat → Int32) → Int32 → (Nat → Int32) → (Nat → Int32) → (Nat → Int32) → (Nat → Int32) → Prop) (hw : w7_fillArray f_tops f_bottoms f_arraySizes f_E_size f_E_terms f_arrays0 f_arrays1 f_arrays2 v1 v2 v3 post) : Met l yX7_fillArray wsX7_fillArray rm7_fillArray (kP D (kT cI cJ cN cR) sz [.ref (rf 0), .int v1, .int v2, .int v3] [((rf 0), o7 rf f_hasSnapshot f_termListSize f_textSize), ((rf 1), ai cI 8 f_tops), ((rf 2), ai cI 8 f_bottoms), ((rf 12), ar cR rf), ((rf 13), ai cI 3 f_arraySizes), ((rf 14), o1 (rf 17) f_E_size f_E_leftTop f_E_leftBottom f_E_rightTop f_E_rightBottom), ((rf 17), ai cI 64 f_E_terms), ((rf 23), ai cI 60 f_arrays0), ((rf 24), ai cI 60 f_arrays1), ((rf 25), ai cI 60 f_arrays2)]) (kQi D [((rf 0), o7 rf f_hasSnapshot f_termListSize f_textSize), ((rf 1), ai cI 8 f_tops), ((rf 2), ai cI 8 f_bottoms), ((rf 12), ar cR rf), ((rf 13), ai cI 3 f_arraySizes), ((rf 14), o1 (rf 17) f_E_size f_E_leftTop f_E_leftBottom f_E_rightTop f_E_rightBottom), ((rf 17), ai cI 64 f_E_terms), ((rf 23), ai cI 60 f_arrays0), ((rf 24), ai cI 60 f_arrays1), ((rf 25), ai cI 60 f_arrays2)] sz (fun (r : Int32) (u : (Nat → Int32) × Int32 × (Nat → Int32) × (Nat → Int32) × (Nat → Int32) × (Nat → Int32)) => post r u.1 u.2.1 u.2.2.1 u.2.2.2.1 u.2.2.2.2.1 u.2.2.2.2.2) (fun (u : (Nat → Int32) × Int32 × (Nat → Int32) × (Nat → Int32) × (Nat → Int32) × (Nat → Int32)) => [((rf 0), o7 rf f_hasSnapshot f_termListSize f_textSize), ((rf 1), ai cI 8 f_tops), ((rf 2), ai cI 8 f_bottoms), ((rf 12), ar cR rf), ((rf 13), ai cI 3 u.1), ((rf 14), o1 (rf 17) u.2.1 f_E_leftTop f_E_leftBottom f_E_rightTop f_E_rightBottom), ((rf 17), ai cI 64 u.2.2.1), ((rf 23), ai cI 60 u.2.2.2.1), ((rf 24), ai cI 60 u.2.2.2.2.1), ((rf 25), ai cI 60 u.2.2.2.2.2)])) 0 0 (va_A [((rf 0), o7 rf f_hasSnapshot f_termListSize f_textSize), ((rf 1), ai cI 8 f_tops), ((rf 2), ai cI 8 f_bottoms), ((rf 12), ar cR rf), ((rf 13), ai cI 3 f_arraySizes), ((rf 14), o1 (rf 17) f_E_size f_E_leftTop f_E_leftBottom f_E_rightTop f_E_rightBottom), ((rf 17), ai cI 64 f_E_terms), ((rf 23), ai cI 60 f_arrays0), ((rf 24), ai cI 60 f_arrays1), ((rf 25), ai cI 60 f_arrays2)] sz) := by
  refine kMetI (cc := cX7_fillArray) (maxL := 7) (by decide +kernel) rfl (Nat.le_of_ble_eq_true rfl) ?_
  intro p e s m args below meth c H0 ls A Q C0 hK hN hP hD hS hA hl RET
  obtain ⟨hx, hb, hml, hown, hts⟩ := id C0
  have hl : lv_has ls 7 [(0, .ref (rf 0)), (1, .int v1), (2, .int v2), (3, .int v3)] := hl
  have g39 := hts (.fieldLink RX7 39 "SternBrocotExplorer" "arrays" "[[I") (by decide +kernel)
  have g42 := hts (.fieldLink RX7 42 "SternBrocotExplorer" "arraySizes" "[I") (by decide +kernel)
  have hi9 : ∀ w ∈ wsX70, w ∈ wsX7_fillArray := fun w h => List.mem_cons_of_mem _ (List.mem_append_left _ (List.mem_append_right _ h))
  unfold w7_fillArray at hw
  have hP : va_P D vwCl [((rf 0), o7 rf f_hasSnapshot f_termListSize f_textSize), ((rf 1), ai cI 8 f_tops), ((rf 2), ai cI 8 f_bottoms), ((rf 12), ar cR rf), ((rf 13), ai cI 3 f_arraySizes), ((rf 14), o1 (rf 17) f_E_size f_E_leftTop f_E_leftBottom f_E_rightTop f_E_rightBottom), ((rf 17), ai cI 64 f_E_terms), ((rf 23), ai cI 60 f_arrays0), ((rf 24), ai cI 60 f_arrays1), ((rf 25), ai cI 60 f_arrays2)] H0 := hP
  have JOIN_62 : ∀ (f_arraySizes : (Nat → Int32)) (f_E_size : Int32) (f_E_terms : (Nat → Int32)) (f_arrays0 : (Nat → Int32)) (f_arrays1 : (Nat → Int32)) (f_arrays2 : (Nat → Int32)) (s0 : Int32) (H : Heap) (locs : List Loc) (ls : Array Slot), w7_fillArray_J62 f_tops f_bottoms f_arraySizes f_E_size f_E_terms f_arrays0 f_arrays1 f_arrays2 v1 v2 v3 s0 post → va_P D vwCl [((rf 0), o7 rf f_hasSnapshot f_termListSize f_textSize), ((rf 1), ai cI 8 f_tops), ((rf 2), ai cI 8 f_bottoms), ((rf 12), ar cR rf), ((rf 13), ai cI 3 f_arraySizes), ((rf 14), o1 (rf 17) f_E_size f_E_leftTop f_E_leftBottom f_E_rightTop f_E_rightBottom), ((rf 17), ai cI 64 f_E_terms), ((rf 23), ai cI 60 f_arrays0), ((rf 24), ai cI 60 f_arrays1), ((rf 25), ai cI 60 f_arrays2)] H → va_D A [((rf 0), o7 rf f_hasSnapshot f_termListSize f_textSize), ((rf 1), ai cI 8 f_tops), ((rf 2), ai cI 8 f_bottoms), ((rf 12), ar cR rf), ((rf 13), ai cI 3 f_arraySizes), ((rf 14), o1 (rf 17) f_E_size f_E_leftTop f_E_leftBottom f_E_rightTop f_E_rightBottom), ((rf 17), ai cI 64 f_E_terms), ((rf 23), ai cI 60 f_arrays0), ((rf 24), ai cI 60 f_arrays1), ((rf 25), ai cI 60 f_arrays2)] → va_S A H0 H locs → lv_has ls 7 [(0, .ref (rf 0)), (1, .int v1), (2, .int v2), (3, .int v3), (4, .ref (rf 14))] → W p l e rm7_fillArray s m args below meth c H locs 0 0 Q (F0 m 62 ls [.int s0]) := by
    intro f_arraySizes f_E_size f_E_terms f_arrays0 f_arrays1 f_arrays2 s0 H locs ls hw hP hD hS hl
    unfold w7_fillArray_J62 at hw
    refine lv_istore (lv' := [(5, .int s0), (0, .ref (rf 0)), (1, .int v1), (2, .int v2), (3, .int v3), (4, .ref (rf 14))]) hx hb dX7_fillArray_62 hl (by decide) rfl (fun ls hl => ?_)
    refine lv_iload hx hb dX7_fillArray_64 (lv_at hl 0 rfl) ?_
    refine lv_bipush (v := (60 : Int32)) hx hb dX7_fillArray_66 (by decide) ?_
    refine lv_icmp_le (tgt := 74) hx hb dX7_fillArray_68 (by decide) (fun k => ?_) (fun k => ?_)
    · have hw := hw.1 k
      refine lv_iconst (v := (0 : Int32)) hx hb dX7_fillArray_74 (by decide) ?_
      refine lv_istore (lv' := [(6, .int (0 : Int32)), (5, .int s0), (0, .ref (rf 0)), (1, .int v1), (2, .int v2), (3, .int v3), (4, .ref (rf 14))]) hx hb dX7_fillArray_75 hl (by decide) rfl (fun ls hl => ?_)
      obtain ⟨n77, hw⟩ := hw
      have LOOP_77 : ∀ (n77 : Nat) (v6 : Int32) (f_arrays0 : (Nat → Int32)) (f_arrays1 : (Nat → Int32)) (f_arrays2 : (Nat → Int32)) (H : Heap) (locs : List Loc) (ls : Array Slot), w7_fillArray_L77 f_tops f_bottoms f_arraySizes f_E_size f_E_terms v1 v2 v3 s0 post n77 v6 f_arrays0 f_arrays1 f_arrays2 → va_P D vwCl [((rf 0), o7 rf f_hasSnapshot f_termListSize f_textSize), ((rf 1), ai cI 8 f_tops), ((rf 2), ai cI 8 f_bottoms), ((rf 12), ar cR rf), ((rf 13), ai cI 3 f_arraySizes), ((rf 14), o1 (rf 17) f_E_size f_E_leftTop f_E_leftBottom f_E_rightTop f_E_rightBottom), ((rf 17), ai cI 64 f_E_terms), ((rf 23), ai cI 60 f_arrays0), ((rf 24), ai cI 60 f_arrays1), ((rf 25), ai cI 60 f_arrays2)] H → va_D A [((rf 0), o7 rf f_hasSnapshot f_termListSize f_textSize), ((rf 1), ai cI 8 f_tops), ((rf 2), ai cI 8 f_bottoms), ((rf 12), ar cR rf), ((rf 13), ai cI 3 f_arraySizes), ((rf 14), o1 (rf 17) f_E_size f_E_leftTop f_E_leftBottom f_E_rightTop f_E_rightBottom), ((rf 17), ai cI 64 f_E_terms), ((rf 23), ai cI 60 f_arrays0), ((rf 24), ai cI 60 f_arrays1), ((rf 25), ai cI 60 f_arrays2)] → va_S A H0 H locs → lv_has ls 7 [(0, .ref (rf 0)), (1, .int v1), (2, .int v2), (3, .int v3), (4, .ref (rf 14)), (5, .int s0), (6, .int v6)] → W p l e rm7_fillArray s m args below meth c H locs 0 0 Q (F0 m 77 ls []) := by
        clear hw hl hP hD hS
        intro n77
        induction n77 with
        | zero =>
          intro v6 f_arrays0 f_arrays1 f_arrays2 H locs ls hw hP hD hS hl
          rw [w7_fillArray_L77] at hw
          exact hw.elim
        | succ n77 ih77 =>
          intro v6 f_arrays0 f_arrays1 f_arrays2 H locs ls hw hP hD hS hl
          rw [w7_fillArray_L77] at hw
          refine lv_iload hx hb dX7_fillArray_77 (lv_at hl 6 rfl) ?_
          refine lv_iload hx hb dX7_fillArray_79 (lv_at hl 5 rfl) ?_
          refine lv_icmp_ge (tgt := 109) hx hb dX7_fillArray_81 (by decide) (fun k => ?_) (fun k => ?_)
          · have hw := hw.1 k
            refine lv_aload_n hx hb dX7_fillArray_109 rfl (lv_at hl 0 rfl) ?_
            refine va_get (D := D) (ci := 7) (v := .ref (rf 13)) (C := RX7) (T := TX7) (N := 16) hx hb hts hi9 hown hK hP 0 rfl rfl 12 (by decide) g42 (fun _ h9 => h9) rfl dX7_fillArray_110 ?_
            refine lv_iload_n hx hb dX7_fillArray_113 rfl (lv_at hl 1 rfl) ?_
            refine lv_iload hx hb dX7_fillArray_114 (lv_at hl 5 rfl) ?_
            obtain ⟨hin, hw⟩ := hw
            refine va_iast hx hb hK hP hD hS 4 0 rfl rfl hin dX7_fillArray_116 (fun H locs hP hD hS => ?_)
            have hP : va_P D vwCl [((rf 0), o7 rf f_hasSnapshot f_termListSize f_textSize), ((rf 1), ai cI 8 f_tops), ((rf 2), ai cI 8 f_bottoms), ((rf 12), ar cR rf), ((rf 13), ai cI 3 (upd f_arraySizes v1.toNatClampNeg s0)), ((rf 14), o1 (rf 17) f_E_size f_E_leftTop f_E_leftBottom f_E_rightTop f_E_rightBottom), ((rf 17), ai cI 64 f_E_terms), ((rf 23), ai cI 60 f_arrays0), ((rf 24), ai cI 60 f_arrays1), ((rf 25), ai cI 60 f_arrays2)] H := hP
            have hD : va_D A [((rf 0), o7 rf f_hasSnapshot f_termListSize f_textSize), ((rf 1), ai cI 8 f_tops), ((rf 2), ai cI 8 f_bottoms), ((rf 12), ar cR rf), ((rf 13), ai cI 3 (upd f_arraySizes v1.toNatClampNeg s0)), ((rf 14), o1 (rf 17) f_E_size f_E_leftTop f_E_leftBottom f_E_rightTop f_E_rightBottom), ((rf 17), ai cI 64 f_E_terms), ((rf 23), ai cI 60 f_arrays0), ((rf 24), ai cI 60 f_arrays1), ((rf 25), ai cI 60 f_arrays2)] := hD
            refine lv_iload hx hb dX7_fillArray_117 (lv_at hl 5 rfl) ?_
            exact RET _ _ _ ((upd f_arraySizes v1.toNatClampNeg s0), f_E_size, f_E_terms, f_arrays0, f_arrays1, f_arrays2) _ _ hw hP hD hS dX7_fillArray_119
          · have hw := hw.2 k
            refine lv_aload_n hx hb dX7_fillArray_84 rfl (lv_at hl 0 rfl) ?_
            refine va_get (D := D) (ci := 7) (v := .ref (rf 12)) (C := RX7) (T := TX7) (N := 16) hx hb hts hi9 hown hK hP 0 rfl rfl 11 (by decide) g39 (fun _ h9 => h9) rfl dX7_fillArray_85 ?_
            refine lv_iload_n hx hb dX7_fillArray_88 rfl (lv_at hl 1 rfl) ?_
            obtain ⟨hin, hw⟩ := hw
            rcases k_three hin with h3 | h3 | h3
            · have hw := hw.1 h3
              refine k_aldM (q := (rf 23)) hx hb hK hP 3 3 rfl rfl hin (by rw [h3]; rfl) dX7_fillArray_89 ?_
              refine lv_iload hx hb dX7_fillArray_90 (lv_at hl 6 rfl) ?_
              refine lv_aload_n hx hb dX7_fillArray_92 rfl (lv_at hl 0 rfl) ?_
              refine lv_iload_n hx hb dX7_fillArray_93 rfl (lv_at hl 2 rfl) ?_
              refine lv_aload hx hb dX7_fillArray_94 (lv_at hl 4 rfl) ?_
              refine lv_iload_n hx hb dX7_fillArray_96 rfl (lv_at hl 3 rfl) ?_
              refine lv_iload hx hb dX7_fillArray_97 (lv_at hl 6 rfl) ?_
              refine kcRI (wc := [((rf 0), o7 rf f_hasSnapshot f_termListSize f_textSize), ((rf 1), ai cI 8 f_tops), ((rf 2), ai cI 8 f_bottoms), ((rf 14), o1 (rf 17) f_E_size f_E_leftTop f_E_leftBottom f_E_rightTop f_E_rightBottom), ((rf 17), ai cI 64 f_E_terms)]) hP [0, 1, 2, 5, 6] rfl (fun hPc => oV (As := [.int v2, .ref (rf 14), .int v3, .int v6]) (rest := [.int v6, .ref (rf 23)]) C0 hK hN (c7_valueOf l D cI cJ cN cR rf (rf 14) (rf 17) f_hasSnapshot f_termListSize f_textSize f_tops f_bottoms f_E_size f_E_leftTop f_E_leftBottom f_E_rightTop f_E_rightBottom f_E_terms v2 v3 v6 _ hw) 4 gX7_fillArray_X7_valueOf rfl ⟨rfl, rfl⟩ nm7_valueOf ⟨Nat.le_of_ble_eq_true rfl, Nat.le_of_ble_eq_true rfl⟩ (q0 := 0) rfl rfl rfl rfl hl.1 rfl (Nat.le_of_ble_eq_true rfl) dX7_fillArray_99 ⟨Nat.le_of_ble_eq_true rfl, Nat.le_of_ble_eq_true rfl⟩ hPc) (fun r99 hw => ?_)
              obtain ⟨hin, hw⟩ := hw
              refine va_iast hx hb hK hP hD hS 7 0 rfl rfl hin dX7_fillArray_102 (fun H locs hP hD hS => ?_)
              have hP : va_P D vwCl [((rf 0), o7 rf f_hasSnapshot f_termListSize f_textSize), ((rf 1), ai cI 8 f_tops), ((rf 2), ai cI 8 f_bottoms), ((rf 12), ar cR rf), ((rf 13), ai cI 3 f_arraySizes), ((rf 14), o1 (rf 17) f_E_size f_E_leftTop f_E_leftBottom f_E_rightTop f_E_rightBottom), ((rf 17), ai cI 64 f_E_terms), ((rf 23), ai cI 60 (upd f_arrays0 v6.toNatClampNeg r99)), ((rf 24), ai cI 60 f_arrays1), ((rf 25), ai cI 60 f_arrays2)] H := hP
              have hD : va_D A [((rf 0), o7 rf f_hasSnapshot f_termListSize f_textSize), ((rf 1), ai cI 8 f_tops), ((rf 2), ai cI 8 f_bottoms), ((rf 12), ar cR rf), ((rf 13), ai cI 3 f_arraySizes), ((rf 14), o1 (rf 17) f_E_size f_E_leftTop f_E_leftBottom f_E_rightTop f_E_rightBottom), ((rf 17), ai cI 64 f_E_terms), ((rf 23), ai cI 60 (upd f_arrays0 v6.toNatClampNeg r99)), ((rf 24), ai cI 60 f_arrays1), ((rf 25), ai cI 60 f_arrays2)] := hD
              obtain ⟨x103, ex103⟩ : ∃ y : Int32, y = (v6 + (1 : Int32)) := ⟨_, rfl⟩
              have hw := hw x103 ex103
              refine lv_iinc (v := x103) (lv' := [(6, .int x103), (0, .ref (rf 0)), (1, .int v1), (2, .int v2), (3, .int v3), (4, .ref (rf 14)), (5, .int s0)]) hx hb dX7_fillArray_103 hl (k := 6) rfl (by rw [ex103]; rfl) (by decide) rfl (fun ls hl => ?_)
              refine lv_goto (tgt := 77) hx hb dX7_fillArray_106 (by decide) ?_
              exact ih77 x103 (upd f_arrays0 v6.toNatClampNeg r99) f_arrays1 f_arrays2 _ _ ls hw hP hD hS (lv_sub hl [1, 2, 3, 4, 5, 6, 0] rfl)
            · have hw := hw.2.1 h3
              refine k_aldM (q := (rf 24)) hx hb hK hP 3 3 rfl rfl hin (by rw [h3]; rfl) dX7_fillArray_89 ?_
              refine lv_iload hx hb dX7_fillArray_90 (lv_at hl 6 rfl) ?_
              refine lv_aload_n hx hb dX7_fillArray_92 rfl (lv_at hl 0 rfl) ?_
              refine lv_iload_n hx hb dX7_fillArray_93 rfl (lv_at hl 2 rfl) ?_
              refine lv_aload hx hb dX7_fillArray_94 (lv_at hl 4 rfl) ?_
              refine lv_iload_n hx hb dX7_fillArray_96 rfl (lv_at hl 3 rfl) ?_
              refine lv_iload hx hb dX7_fillArray_97 (lv_at hl 6 rfl) ?_
              refine kcRI (wc := [((rf 0), o7 rf f_hasSnapshot f_termListSize f_textSize), ((rf 1), ai cI 8 f_tops), ((rf 2), ai cI 8 f_bottoms), ((rf 14), o1 (rf 17) f_E_size f_E_leftTop f_E_leftBottom f_E_rightTop f_E_rightBottom), ((rf 17), ai cI 64 f_E_terms)]) hP [0, 1, 2, 5, 6] rfl (fun hPc => oV (As := [.int v2, .ref (rf 14), .int v3, .int v6]) (rest := [.int v6, .ref (rf 24)]) C0 hK hN (c7_valueOf l D cI cJ cN cR rf (rf 14) (rf 17) f_hasSnapshot f_termListSize f_textSize f_tops f_bottoms f_E_size f_E_leftTop f_E_leftBottom f_E_rightTop f_E_rightBottom f_E_terms v2 v3 v6 _ hw) 4 gX7_fillArray_X7_valueOf rfl ⟨rfl, rfl⟩ nm7_valueOf ⟨Nat.le_of_ble_eq_true rfl, Nat.le_of_ble_eq_true rfl⟩ (q0 := 0) rfl rfl rfl rfl hl.1 rfl (Nat.le_of_ble_eq_true rfl) dX7_fillArray_99 ⟨Nat.le_of_ble_eq_true rfl, Nat.le_of_ble_eq_true rfl⟩ hPc) (fun r99 hw => ?_)
              obtain ⟨hin, hw⟩ := hw
              refine va_iast hx hb hK hP hD hS 8 0 rfl rfl hin dX7_fillArray_102 (fun H locs hP hD hS => ?_)
              have hP : va_P D vwCl [((rf 0), o7 rf f_hasSnapshot f_termListSize f_textSize), ((rf 1), ai cI 8 f_tops), ((rf 2), ai cI 8 f_bottoms), ((rf 12), ar cR rf), ((rf 13), ai cI 3 f_arraySizes), ((rf 14), o1 (rf 17) f_E_size f_E_leftTop f_E_leftBottom f_E_rightTop f_E_rightBottom), ((rf 17), ai cI 64 f_E_terms), ((rf 23), ai cI 60 f_arrays0), ((rf 24), ai cI 60 (upd f_arrays1 v6.toNatClampNeg r99)), ((rf 25), ai cI 60 f_arrays2)] H := hP
              have hD : va_D A [((rf 0), o7 rf f_hasSnapshot f_termListSize f_textSize), ((rf 1), ai cI 8 f_tops), ((rf 2), ai cI 8 f_bottoms), ((rf 12), ar cR rf), ((rf 13), ai cI 3 f_arraySizes), ((rf 14), o1 (rf 17) f_E_size f_E_leftTop f_E_leftBottom f_E_rightTop f_E_rightBottom), ((rf 17), ai cI 64 f_E_terms), ((rf 23), ai cI 60 f_arrays0), ((rf 24), ai cI 60 (upd f_arrays1 v6.toNatClampNeg r99)), ((rf 25), ai cI 60 f_arrays2)] := hD
              obtain ⟨x103, ex103⟩ : ∃ y : Int32, y = (v6 + (1 : Int32)) := ⟨_, rfl⟩
              have hw := hw x103 ex103
              refine lv_iinc (v := x103) (lv' := [(6, .int x103), (0, .ref (rf 0)), (1, .int v1), (2, .int v2), (3, .int v3), (4, .ref (rf 14)), (5, .int s0)]) hx hb dX7_fillArray_103 hl (k := 6) rfl (by rw [ex103]; rfl) (by decide) rfl (fun ls hl => ?_)
              refine lv_goto (tgt := 77) hx hb dX7_fillArray_106 (by decide) ?_
              exact ih77 x103 f_arrays0 (upd f_arrays1 v6.toNatClampNeg r99) f_arrays2 _ _ ls hw hP hD hS (lv_sub hl [1, 2, 3, 4, 5, 6, 0] rfl)
            · have hw := hw.2.2 h3
              refine k_aldM (q := (rf 25)) hx hb hK hP 3 3 rfl rfl hin (by rw [h3]; rfl) dX7_fillArray_89 ?_
              refine lv_iload hx hb dX7_fillArray_90 (lv_at hl 6 rfl) ?_
              refine lv_aload_n hx hb dX7_fillArray_92 rfl (lv_at hl 0 rfl) ?_
              refine lv_iload_n hx hb dX7_fillArray_93 rfl (lv_at hl 2 rfl) ?_
              refine lv_aload hx hb dX7_fillArray_94 (lv_at hl 4 rfl) ?_
              refine lv_iload_n hx hb dX7_fillArray_96 rfl (lv_at hl 3 rfl) ?_
              refine lv_iload hx hb dX7_fillArray_97 (lv_at hl 6 rfl) ?_
              refine kcRI (wc := [((rf 0), o7 rf f_hasSnapshot f_termListSize f_textSize), ((rf 1), ai cI 8 f_tops), ((rf 2), ai cI 8 f_bottoms), ((rf 14), o1 (rf 17) f_E_size f_E_leftTop f_E_leftBottom f_E_rightTop f_E_rightBottom), ((rf 17), ai cI 64 f_E_terms)]) hP [0, 1, 2, 5, 6] rfl (fun hPc => oV (As := [.int v2, .ref (rf 14), .int v3, .int v6]) (rest := [.int v6, .ref (rf 25)]) C0 hK hN (c7_valueOf l D cI cJ cN cR rf (rf 14) (rf 17) f_hasSnapshot f_termListSize f_textSize f_tops f_bottoms f_E_size f_E_leftTop f_E_leftBottom f_E_rightTop f_E_rightBottom f_E_terms v2 v3 v6 _ hw) 4 gX7_fillArray_X7_valueOf rfl ⟨rfl, rfl⟩ nm7_valueOf ⟨Nat.le_of_ble_eq_true rfl, Nat.le_of_ble_eq_true rfl⟩ (q0 := 0) rfl rfl rfl rfl hl.1 rfl (Nat.le_of_ble_eq_true rfl) dX7_fillArray_99 ⟨Nat.le_of_ble_eq_true rfl, Nat.le_of_ble_eq_true rfl⟩ hPc) (fun r99 hw => ?_)
              obtain ⟨hin, hw⟩ := hw
              refine va_iast hx hb hK hP hD hS 9 0 rfl rfl hin dX7_fillArray_102 (fun H locs hP hD hS => ?_)
              have hP : va_P D vwCl [((rf 0), o7 rf f_hasSnapshot f_termListSize f_textSize), ((rf 1), ai cI 8 f_tops), ((rf 2), ai cI 8 f_bottoms), ((rf 12), ar cR rf), ((rf 13), ai cI 3 f_arraySizes), ((rf 14), o1 (rf 17) f_E_size f_E_leftTop f_E_leftBottom f_E_rightTop f_E_rightBottom), ((rf 17), ai cI 64 f_E_terms), ((rf 23), ai cI 60 f_arrays0), ((rf 24), ai cI 60 f_arrays1), ((rf 25), ai cI 60 (upd f_arrays2 v6.toNatClampNeg r99))] H := hP
              have hD : va_D A [((rf 0), o7 rf f_hasSnapshot f_termListSize f_textSize), ((rf 1), ai cI 8 f_tops), ((rf 2), ai cI 8 f_bottoms), ((rf 12), ar cR rf), ((rf 13), ai cI 3 f_arraySizes), ((rf 14), o1 (rf 17) f_E_size f_E_leftTop f_E_leftBottom f_E_rightTop f_E_rightBottom), ((rf 17), ai cI 64 f_E_terms), ((rf 23), ai cI 60 f_arrays0), ((rf 24), ai cI 60 f_arrays1), ((rf 25), ai cI 60 (upd f_arrays2 v6.toNatClampNeg r99))] := hD
              obtain ⟨x103, ex103⟩ : ∃ y : Int32, y = (v6 + (1 : Int32)) := ⟨_, rfl⟩
              have hw := hw x103 ex103
              refine lv_iinc (v := x103) (lv' := [(6, .int x103), (0, .ref (rf 0)), (1, .int v1), (2, .int v2), (3, .int v3), (4, .ref (rf 14)), (5, .int s0)]) hx hb dX7_fillArray_103 hl (k := 6) rfl (by rw [ex103]; rfl) (by decide) rfl (fun ls hl => ?_)
              refine lv_goto (tgt := 77) hx hb dX7_fillArray_106 (by decide) ?_
              exact ih77 x103 f_arrays0 f_arrays1 (upd f_arrays2 v6.toNatClampNeg r99) _ _ ls hw hP hD hS (lv_sub hl [1, 2, 3, 4, 5, 6, 0] rfl)
      exact LOOP_77 n77 (0 : Int32) f_arrays0 f_arrays1 f_arrays2 _ _ ls hw hP hD hS (lv_sub hl [2, 3, 4, 5, 6, 1, 0] rfl)
    · have hw := hw.2 k
      refine lv_bipush (v := (-3 : Int32)) hx hb dX7_fillArray_71 (by decide) ?_
      exact RET _ _ _ (f_arraySizes, f_E_size, f_E_terms, f_arrays0, f_arrays1, f_arrays2) _ _ hw hP hD hS dX7_fillArray_73
  refine lv_iload_n hx hb dX7_fillArray_0 rfl (lv_at hl 1 rfl) ?_
  refine kcRI (wc := []) hP [] rfl (fun hPc => oS (As := [.int v1]) (rest := []) C0 hK hN (c7_isArray l D cI cJ cN cR   v1 _ hw) 1 gX7_fillArray_X7_isArray rfl ⟨rfl, rfl⟩ nm7_isArray ⟨Nat.le_of_ble_eq_true rfl, Nat.le_of_ble_eq_true rfl⟩ rfl hl.1 rfl (Nat.le_of_ble_eq_true rfl) dX7_fillArray_1 ⟨Nat.le_of_ble_eq_true rfl, Nat.le_of_ble_eq_true rfl⟩ hPc) (fun r1 hw => ?_)
  obtain ⟨nb1, hw⟩ := hw
  refine lv_if_eq (tgt := 23) hx hb dX7_fillArray_4 (by decide) (fun k => ?_) (fun k => ?_)
  · have hw := hw.1 k
    refine lv_iconst (v := (-1 : Int32)) hx hb dX7_fillArray_23 (by decide) ?_
    exact RET _ _ _ (f_arraySizes, f_E_size, f_E_terms, f_arrays0, f_arrays1, f_arrays2) _ _ hw hP hD hS dX7_fillArray_24
  · have hw := hw.2 k
    refine lv_iload_n hx hb dX7_fillArray_7 rfl (lv_at hl 2 rfl) ?_
    refine kcRI (wc := []) hP [] rfl (fun hPc => oS (As := [.int v2]) (rest := []) C0 hK hN (c7_isRegister l D cI cJ cN cR   v2 _ hw) 1 gX7_fillArray_X7_isRegister rfl ⟨rfl, rfl⟩ nm7_isRegister ⟨Nat.le_of_ble_eq_true rfl, Nat.le_of_ble_eq_true rfl⟩ rfl hl.1 rfl (Nat.le_of_ble_eq_true rfl) dX7_fillArray_8 ⟨Nat.le_of_ble_eq_true rfl, Nat.le_of_ble_eq_true rfl⟩ hPc) (fun r8 hw => ?_)
    obtain ⟨nb8, hw⟩ := hw
    refine lv_if_eq (tgt := 23) hx hb dX7_fillArray_11 (by decide) (fun k => ?_) (fun k => ?_)
    · have hw := hw.1 k
      refine lv_iconst (v := (-1 : Int32)) hx hb dX7_fillArray_23 (by decide) ?_
      exact RET _ _ _ (f_arraySizes, f_E_size, f_E_terms, f_arrays0, f_arrays1, f_arrays2) _ _ hw hP hD hS dX7_fillArray_24
    · have hw := hw.2 k
      refine lv_iload_n hx hb dX7_fillArray_14 rfl (lv_at hl 3 rfl) ?_
      refine lv_iconst (v := (0 : Int32)) hx hb dX7_fillArray_15 (by decide) ?_
      refine lv_iconst (v := (2 : Int32)) hx hb dX7_fillArray_16 (by decide) ?_
      refine kcRI (wc := []) hP [] rfl (fun hPc => oS (As := [.int v3, .int (0 : Int32), .int (2 : Int32)]) (rest := []) C0 hK hN (c7_isIn l D cI cJ cN cR   v3 (0 : Int32) (2 : Int32) _ hw) 3 gX7_fillArray_X7_isIn rfl ⟨rfl, rfl⟩ nm7_isIn ⟨Nat.le_of_ble_eq_true rfl, Nat.le_of_ble_eq_true rfl⟩ rfl hl.1 rfl (Nat.le_of_ble_eq_true rfl) dX7_fillArray_17 ⟨Nat.le_of_ble_eq_true rfl, Nat.le_of_ble_eq_true rfl⟩ hPc) (fun r17 hw => ?_)
      obtain ⟨nb17, hw⟩ := hw
      refine lv_if_ne (tgt := 25) hx hb dX7_fillArray_20 (by decide) (fun k => ?_) (fun k => ?_)
      · have hw := hw.1 k
        refine lv_aload_n hx hb dX7_fillArray_25 rfl (lv_at hl 0 rfl) ?_
        refine lv_iload_n hx hb dX7_fillArray_26 rfl (lv_at hl 2 rfl) ?_
        refine kcR (wc := [((rf 0), o7 rf f_hasSnapshot f_termListSize f_textSize), ((rf 1), ai cI 8 f_tops), ((rf 2), ai cI 8 f_bottoms), ((rf 14), o1 (rf 17) f_E_size f_E_leftTop f_E_leftBottom f_E_rightTop f_E_rightBottom), ((rf 17), ai cI 64 f_E_terms)]) (wr := [((rf 12), ar cR rf), ((rf 13), ai cI 3 f_arraySizes), ((rf 23), ai cI 60 f_arrays0), ((rf 24), ai cI 60 f_arrays1), ((rf 25), ai cI 60 f_arrays2)]) hP hD hS hA [0, 1, 2, 5, 6] [3, 4, 7, 8, 9] rfl rfl ⟨rfl, rfl, by decide⟩ (fun hPc hDc => rV (As := [.int v2]) (rest := []) C0 hK hN (c7_expand l D cI cJ cN cR rf H0.size f_hasSnapshot f_termListSize f_textSize f_tops f_bottoms f_E_size f_E_leftTop f_E_leftBottom f_E_rightTop f_E_rightBottom f_E_terms v2 _ hw) 1 gX7_fillArray_X7_expand rfl ⟨rfl, rfl⟩ nm7_expand ⟨Nat.le_of_ble_eq_true rfl, Nat.le_of_ble_eq_true rfl⟩ (q0 := 0) rfl rfl rfl rfl hl.1 rfl (Nat.le_of_ble_eq_true rfl) dX7_fillArray_27 ⟨Nat.le_of_ble_eq_true rfl, Nat.le_of_ble_eq_true rfl⟩ hPc hDc) (fun u27 H locs hw hP hD hS => ?_)
        obtain ⟨f_E_size_27, f_E_terms_27⟩ := u27
        dsimp only at hw
        have hP : va_P D vwCl [((rf 12), ar cR rf), ((rf 13), ai cI 3 f_arraySizes), ((rf 23), ai cI 60 f_arrays0), ((rf 24), ai cI 60 f_arrays1), ((rf 25), ai cI 60 f_arrays2), ((rf 0), o7 rf f_hasSnapshot f_termListSize f_textSize), ((rf 1), ai cI 8 f_tops), ((rf 2), ai cI 8 f_bottoms), ((rf 14), o1 (rf 17) f_E_size_27 f_E_leftTop f_E_leftBottom f_E_rightTop f_E_rightBottom), ((rf 17), ai cI 64 f_E_terms_27)] H := hP
        have hD : va_D A [((rf 12), ar cR rf), ((rf 13), ai cI 3 f_arraySizes), ((rf 23), ai cI 60 f_arrays0), ((rf 24), ai cI 60 f_arrays1), ((rf 25), ai cI 60 f_arrays2), ((rf 0), o7 rf f_hasSnapshot f_termListSize f_textSize), ((rf 1), ai cI 8 f_tops), ((rf 2), ai cI 8 f_bottoms), ((rf 14), o1 (rf 17) f_E_size_27 f_E_leftTop f_E_leftBottom f_E_rightTop f_E_rightBottom), ((rf 17), ai cI 64 f_E_terms_27)] := hD
        refine lv_astore (lv' := [(4, .ref (rf 14)), (0, .ref (rf 0)), (1, .int v1), (2, .int v2), (3, .int v3)]) hx hb dX7_fillArray_30 hl (by decide) rfl (fun ls hl => ?_)
        refine lv_iload_n hx hb dX7_fillArray_32 rfl (lv_at hl 4 rfl) ?_
        refine lv_if_ne (tgt := 44) hx hb dX7_fillArray_33 (by decide) (fun k => ?_) (fun k => ?_)
        · have hw := hw.1 k
          refine lv_iload_n hx hb dX7_fillArray_44 rfl (lv_at hl 4 rfl) ?_
          refine lv_iconst (v := (1 : Int32)) hx hb dX7_fillArray_45 (by decide) ?_
          refine lv_icmp_ne (tgt := 57) hx hb dX7_fillArray_46 (by decide) (fun k => ?_) (fun k => ?_)
          · have hw := hw.1 k
            refine lv_aload hx hb dX7_fillArray_57 (lv_at hl 0 rfl) ?_
            refine kcRI (wc := [((rf 14), o1 (rf 17) f_E_size_27 f_E_leftTop f_E_leftBottom f_E_rightTop f_E_rightBottom), ((rf 17), ai cI 64 f_E_terms_27)]) hP [8, 9] rfl (fun hPc => oV (As := []) (rest := []) C0 hK hN (c1_stepCount l D cI cJ cN cR (rf 14) (rf 17) f_E_size_27 f_E_leftTop f_E_leftBottom f_E_rightTop f_E_rightBottom f_E_terms_27  _ hw) 0 gX7_fillArray_X1_stepCount rfl ⟨rfl, rfl⟩ nm1_stepCount ⟨Nat.le_of_ble_eq_true rfl, Nat.le_of_ble_eq_true rfl⟩ (q0 := 0) rfl rfl rfl rfl hl.1 rfl (Nat.le_of_ble_eq_true rfl) dX7_fillArray_59 ⟨Nat.le_of_ble_eq_true rfl, Nat.le_of_ble_eq_true rfl⟩ hPc) (fun r59 hw => ?_)
            obtain ⟨hP, hD⟩ := k_sub (ws' := [((rf 0), o7 rf f_hasSnapshot f_termListSize f_textSize), ((rf 1), ai cI 8 f_tops), ((rf 2), ai cI 8 f_bottoms), ((rf 12), ar cR rf), ((rf 13), ai cI 3 f_arraySizes), ((rf 14), o1 (rf 17) f_E_size_27 f_E_leftTop f_E_leftBottom f_E_rightTop f_E_rightBottom), ((rf 17), ai cI 64 f_E_terms_27), ((rf 23), ai cI 60 f_arrays0), ((rf 24), ai cI 60 f_arrays1), ((rf 25), ai cI 60 f_arrays2)]) hP hD [5, 6, 7, 0, 1, 8, 9, 2, 3, 4] rfl rfl
            exact JOIN_62 f_arraySizes f_E_size_27 f_E_terms_27 f_arrays0 f_arrays1 f_arrays2 r59 _ _ ls hw hP hD hS (lv_sub hl [1, 2, 3, 4, 0] rfl)
          · have hw := hw.2 k
            refine lv_aload_n hx hb dX7_fillArray_49 rfl (lv_at hl 1 rfl) ?_
            refine lv_iload_n hx hb dX7_fillArray_50 rfl (lv_at hl 3 rfl) ?_
            refine kcRI (wc := [((rf 0), o7 rf f_hasSnapshot f_termListSize f_textSize), ((rf 1), ai cI 8 f_tops), ((rf 2), ai cI 8 f_bottoms)]) hP [5, 6, 7] rfl (fun hPc => oV (As := [.int v2]) (rest := []) C0 hK hN (c7_wordSize l D cI cJ cN cR rf f_hasSnapshot f_termListSize f_textSize f_tops f_bottoms v2 _ hw) 1 gX7_fillArray_X7_wordSize rfl ⟨rfl, rfl⟩ nm7_wordSize ⟨Nat.le_of_ble_eq_true rfl, Nat.le_of_ble_eq_true rfl⟩ (q0 := 0) rfl rfl rfl rfl hl.1 rfl (Nat.le_of_ble_eq_true rfl) dX7_fillArray_51 ⟨Nat.le_of_ble_eq_true rfl, Nat.le_of_ble_eq_true rfl⟩ hPc) (fun r51 hw => ?_)
            refine lv_goto (tgt := 62) hx hb dX7_fillArray_54 (by decide) ?_
            obtain ⟨hP, hD⟩ := k_sub (ws' := [((rf 0), o7 rf f_hasSnapshot f_termListSize f_textSize), ((rf 1), ai cI 8 f_tops), ((rf 2), ai cI 8 f_bottoms), ((rf 12), ar cR rf), ((rf 13), ai cI 3 f_arraySizes), ((rf 14), o1 (rf 17) f_E_size_27 f_E_leftTop f_E_leftBottom f_E_rightTop f_E_rightBottom), ((rf 17), ai cI 64 f_E_terms_27), ((rf 23), ai cI 60 f_arrays0), ((rf 24), ai cI 60 f_arrays1), ((rf 25), ai cI 60 f_arrays2)]) hP hD [5, 6, 7, 0, 1, 8, 9, 2, 3, 4] rfl rfl
            exact JOIN_62 f_arraySizes f_E_size_27 f_E_terms_27 f_arrays0 f_arrays1 f_arrays2 r51 _ _ ls hw hP hD hS (lv_sub hl [1, 2, 3, 4, 0] rfl)
        · have hw := hw.2 k
          refine lv_aload hx hb dX7_fillArray_36 (lv_at hl 0 rfl) ?_
          refine kcRI (wc := [((rf 14), o1 (rf 17) f_E_size_27 f_E_leftTop f_E_leftBottom f_E_rightTop f_E_rightBottom)]) hP [8] rfl (fun hPc => oV (As := []) (rest := []) C0 hK hN (c1_size l D cI cJ cN cR (rf 14) (rf 17) f_E_size_27 f_E_leftTop f_E_leftBottom f_E_rightTop f_E_rightBottom  _ hw) 0 gX7_fillArray_X1_size rfl ⟨rfl, rfl⟩ nm1_size ⟨Nat.le_of_ble_eq_true rfl, Nat.le_of_ble_eq_true rfl⟩ (q0 := 0) rfl rfl rfl rfl hl.1 rfl (Nat.le_of_ble_eq_true rfl) dX7_fillArray_38 ⟨Nat.le_of_ble_eq_true rfl, Nat.le_of_ble_eq_true rfl⟩ hPc) (fun r38 hw => ?_)
          refine lv_goto (tgt := 62) hx hb dX7_fillArray_41 (by decide) ?_
          obtain ⟨hP, hD⟩ := k_sub (ws' := [((rf 0), o7 rf f_hasSnapshot f_termListSize f_textSize), ((rf 1), ai cI 8 f_tops), ((rf 2), ai cI 8 f_bottoms), ((rf 12), ar cR rf), ((rf 13), ai cI 3 f_arraySizes), ((rf 14), o1 (rf 17) f_E_size_27 f_E_leftTop f_E_leftBottom f_E_rightTop f_E_rightBottom), ((rf 17), ai cI 64 f_E_terms_27), ((rf 23), ai cI 60 f_arrays0), ((rf 24), ai cI 60 f_arrays1), ((rf 25), ai cI 60 f_arrays2)]) hP hD [5, 6, 7, 0, 1, 8, 9, 2, 3, 4] rfl rfl
          exact JOIN_62 f_arraySizes f_E_size_27 f_E_terms_27 f_arrays0 f_arrays1 f_arrays2 r38 _ _ ls hw hP hD hS (lv_sub hl [1, 2, 3, 4, 0] rfl)
      · have hw := hw.2 k
        refine lv_iconst (v := (-1 : Int32)) hx hb dX7_fillArray_23 (by decide) ?_
        exact RET _ _ _ (f_arraySizes, f_E_size, f_E_terms, f_arrays0, f_arrays1, f_arrays2) _ _ hw hP hD hS dX7_fillArray_24
abbrev rm7_arrayCount : Room := { frames := 0, cells := 0, slots := 0, locals := 0 }
theorem nm7_arrayCount : kNm yX7_arrayCount 0 := by decide +kernel
set_option maxHeartbeats 4000000 in
set_option maxRecDepth 100000 in
theorem c7_arrayCount (l : Launch) (D : va_G) (cI cJ cN cR : ClassId) (rf : Nat → Nat) (f_hasSnapshot : Int32) (f_termListSize : Int32) (f_textSize : Int32) (f_arraySizes : (Nat → Int32))  (post : Int32 → Prop) (hw : w7_arrayCount f_arraySizes post) : Met l yX7_arrayCount wsX7_arrayCount rm7_arrayCount (kR D (kT cI cJ cN cR) [.ref (rf 0)] [((rf 0), o7 rf f_hasSnapshot f_termListSize f_textSize), ((rf 13), ai cI 3 f_arraySizes)]) (vp_Si post) 0 0 (fun _ => False) := by
  refine kMetRI (cc := cX7_arrayCount) (maxL := 3) (by decide +kernel) rfl (Nat.le_of_ble_eq_true rfl) ?_
  intro p e s m args below meth c H ls Q C0 hK hN hP hl RET
  obtain ⟨hx, hb, hml, hown, hts⟩ := id C0
  have hl : lv_has ls 3 [(0, .ref (rf 0))] := hl
  have g42 := hts (.fieldLink RX7 42 "SternBrocotExplorer" "arraySizes" "[I") (by decide +kernel)
  have hi9 : ∀ w ∈ wsX70, w ∈ wsX7_arrayCount := fun w h => List.mem_cons_of_mem _ (List.mem_append_right _ h)
  unfold w7_arrayCount at hw
  refine lv_iconst (v := (0 : Int32)) hx hb dX7_arrayCount_0 (by decide) ?_
  refine lv_istore_n (lv' := [(1, .int (0 : Int32)), (0, .ref (rf 0))]) hx hb dX7_arrayCount_1 rfl hl (by decide) rfl (fun ls hl => ?_)
  refine lv_iconst (v := (0 : Int32)) hx hb dX7_arrayCount_2 (by decide) ?_
  refine lv_istore_n (lv' := [(2, .int (0 : Int32)), (1, .int (0 : Int32)), (0, .ref (rf 0))]) hx hb dX7_arrayCount_3 rfl hl (by decide) rfl (fun ls hl => ?_)
  obtain ⟨n4, hw⟩ := hw
  have LOOP_4 : ∀ (n4 : Nat) (v1 : Int32) (v2 : Int32) (ls : Array Slot), w7_arrayCount_L4 f_arraySizes post n4 v1 v2 → lv_has ls 3 [(0, .ref (rf 0)), (1, .int v1), (2, .int v2)] → W p l e rm7_arrayCount s m args below meth c H [] 0 0 Q (F0 m 4 ls []) := by
    clear hw hl
    intro n4
    induction n4 with
    | zero =>
      intro v1 v2 ls hw hl
      rw [w7_arrayCount_L4] at hw
      exact hw.elim
    | succ n4 ih4 =>
      intro v1 v2 ls hw hl
      rw [w7_arrayCount_L4] at hw
      refine lv_iload_n hx hb dX7_arrayCount_4 rfl (lv_at hl 2 rfl) ?_
      refine lv_iconst (v := (3 : Int32)) hx hb dX7_arrayCount_5 (by decide) ?_
      refine lv_icmp_ge (tgt := 28) hx hb dX7_arrayCount_6 (by decide) (fun k => ?_) (fun k => ?_)
      · have hw := hw.1 k
        refine lv_iload_n hx hb dX7_arrayCount_28 rfl (lv_at hl 1 rfl) ?_
        exact RET _ _ _ hw dX7_arrayCount_29
      · have hw := hw.2 k
        refine lv_aload_n hx hb dX7_arrayCount_9 rfl (lv_at hl 0 rfl) ?_
        refine va_get (D := D) (ci := 7) (v := .ref (rf 13)) (C := RX7) (T := TX7) (N := 16) hx hb hts hi9 hown hK hP 0 rfl rfl 12 (by decide) g42 (fun _ h9 => h9) rfl dX7_arrayCount_10 ?_
        refine lv_iload_n hx hb dX7_arrayCount_13 rfl (lv_at hl 2 rfl) ?_
        obtain ⟨hin, hw⟩ := hw
        refine va_iald hx hb hK hP 1 0 rfl rfl hin dX7_arrayCount_14 ?_
        refine lv_iconst (v := (-1 : Int32)) hx hb dX7_arrayCount_15 (by decide) ?_
        refine lv_icmp_eq (tgt := 22) hx hb dX7_arrayCount_16 (by decide) (fun k => ?_) (fun k => ?_)
        · have hw := hw.1 k
          obtain ⟨x22, ex22⟩ : ∃ y : Int32, y = (v2 + (1 : Int32)) := ⟨_, rfl⟩
          have hw := hw x22 ex22
          refine lv_iinc (v := x22) (lv' := [(2, .int x22), (0, .ref (rf 0)), (1, .int v1)]) hx hb dX7_arrayCount_22 hl (k := 2) rfl (by rw [ex22]; rfl) (by decide) rfl (fun ls hl => ?_)
          refine lv_goto (tgt := 4) hx hb dX7_arrayCount_25 (by decide) ?_
          exact ih4 v1 x22 ls hw (lv_sub hl [1, 2, 0] rfl)
        · have hw := hw.2 k
          obtain ⟨x19, ex19⟩ : ∃ y : Int32, y = (v1 + (1 : Int32)) := ⟨_, rfl⟩
          have hw := hw x19 ex19
          refine lv_iinc (v := x19) (lv' := [(1, .int x19), (0, .ref (rf 0)), (2, .int v2)]) hx hb dX7_arrayCount_19 hl (k := 1) rfl (by rw [ex19]; rfl) (by decide) rfl (fun ls hl => ?_)
          obtain ⟨x22, ex22⟩ : ∃ y : Int32, y = (v2 + (1 : Int32)) := ⟨_, rfl⟩
          have hw := hw x22 ex22
          refine lv_iinc (v := x22) (lv' := [(2, .int x22), (1, .int x19), (0, .ref (rf 0))]) hx hb dX7_arrayCount_22 hl (k := 2) rfl (by rw [ex22]; rfl) (by decide) rfl (fun ls hl => ?_)
          refine lv_goto (tgt := 4) hx hb dX7_arrayCount_25 (by decide) ?_
          exact ih4 x19 x22 ls hw (lv_sub hl [2, 1, 0] rfl)
  exact LOOP_4 n4 (0 : Int32) (0 : Int32) ls hw (lv_sub hl [2, 1, 0] rfl)
abbrev rm7_nodeCount : Room := { frames := 0, cells := 0, slots := 0, locals := 0 }
theorem nm7_nodeCount : kNm yX7_nodeCount 0 := by decide +kernel
set_option maxHeartbeats 4000000 in
set_option maxRecDepth 100000 in
theorem c7_nodeCount (l : Launch) (D : va_G) (cI cJ cN cR : ClassId) (rf : Nat → Nat) (f_hasSnapshot : Int32) (f_termListSize : Int32) (f_textSize : Int32) (f_slots : (Nat → Option Nat))  (post : Int32 → Prop) (hw : w7_nodeCount f_slots post) : Met l yX7_nodeCount wsX7_nodeCount rm7_nodeCount (kR D (kT cI cJ cN cR) [.ref (rf 0)] [((rf 0), o7 rf f_hasSnapshot f_termListSize f_textSize), ((rf 3), aq cN 5 f_slots)]) (vp_Si post) 0 0 (fun _ => False) := by
  refine kMetRI (cc := cX7_nodeCount) (maxL := 3) (by decide +kernel) rfl (Nat.le_of_ble_eq_true rfl) ?_
  intro p e s m args below meth c H ls Q C0 hK hN hP hl RET
  obtain ⟨hx, hb, hml, hown, hts⟩ := id C0
  have hl : lv_has ls 3 [(0, .ref (rf 0))] := hl
  have g18 := hts (.fieldLink RX7 18 "SternBrocotExplorer" "slots" "[LSternBrocotExplorer$Node;") (by decide +kernel)
  have hi9 : ∀ w ∈ wsX70, w ∈ wsX7_nodeCount := fun w h => List.mem_cons_of_mem _ (List.mem_append_right _ h)
  unfold w7_nodeCount at hw
  refine lv_iconst (v := (0 : Int32)) hx hb dX7_nodeCount_0 (by decide) ?_
  refine lv_istore_n (lv' := [(1, .int (0 : Int32)), (0, .ref (rf 0))]) hx hb dX7_nodeCount_1 rfl hl (by decide) rfl (fun ls hl => ?_)
  refine lv_iconst (v := (0 : Int32)) hx hb dX7_nodeCount_2 (by decide) ?_
  refine lv_istore_n (lv' := [(2, .int (0 : Int32)), (1, .int (0 : Int32)), (0, .ref (rf 0))]) hx hb dX7_nodeCount_3 rfl hl (by decide) rfl (fun ls hl => ?_)
  obtain ⟨n4, hw⟩ := hw
  have LOOP_4 : ∀ (n4 : Nat) (v1 : Int32) (v2 : Int32) (ls : Array Slot), w7_nodeCount_L4 f_slots post n4 v1 v2 → lv_has ls 3 [(0, .ref (rf 0)), (1, .int v1), (2, .int v2)] → W p l e rm7_nodeCount s m args below meth c H [] 0 0 Q (F0 m 4 ls []) := by
    clear hw hl
    intro n4
    induction n4 with
    | zero =>
      intro v1 v2 ls hw hl
      rw [w7_nodeCount_L4] at hw
      exact hw.elim
    | succ n4 ih4 =>
      intro v1 v2 ls hw hl
      rw [w7_nodeCount_L4] at hw
      refine lv_iload_n hx hb dX7_nodeCount_4 rfl (lv_at hl 2 rfl) ?_
      refine lv_iconst (v := (5 : Int32)) hx hb dX7_nodeCount_5 (by decide) ?_
      refine lv_icmp_ge (tgt := 27) hx hb dX7_nodeCount_6 (by decide) (fun k => ?_) (fun k => ?_)
      · have hw := hw.1 k
        refine lv_iload_n hx hb dX7_nodeCount_27 rfl (lv_at hl 1 rfl) ?_
        exact RET _ _ _ hw dX7_nodeCount_28
      · have hw := hw.2 k
        refine lv_aload_n hx hb dX7_nodeCount_9 rfl (lv_at hl 0 rfl) ?_
        refine va_get (D := D) (ci := 7) (v := .ref (rf 3)) (C := RX7) (T := TX7) (N := 16) hx hb hts hi9 hown hK hP 0 rfl rfl 2 (by decide) g18 (fun _ h9 => h9) rfl dX7_nodeCount_10 ?_
        refine lv_iload_n hx hb dX7_nodeCount_13 rfl (lv_at hl 2 rfl) ?_
        obtain ⟨hin, hw⟩ := hw
        refine va_aldq hx hb hK hP 1 2 rfl rfl hin dX7_nodeCount_14 ?_
        rcases hq15 : (f_slots v2.toNatClampNeg) with _ | a15
        · have hw := hw.1 hq15
          refine lv_ifnullN (tgt := 21) hx hb dX7_nodeCount_15 (by decide) ?_
          obtain ⟨x21, ex21⟩ : ∃ y : Int32, y = (v2 + (1 : Int32)) := ⟨_, rfl⟩
          have hw := hw x21 ex21
          refine lv_iinc (v := x21) (lv' := [(2, .int x21), (0, .ref (rf 0)), (1, .int v1)]) hx hb dX7_nodeCount_21 hl (k := 2) rfl (by rw [ex21]; rfl) (by decide) rfl (fun ls hl => ?_)
          refine lv_goto (tgt := 4) hx hb dX7_nodeCount_24 (by decide) ?_
          exact ih4 v1 x21 ls hw (lv_sub hl [1, 2, 0] rfl)
        · have hw := hw.2 a15 hq15
          refine lv_ifnull hx hb dX7_nodeCount_15 ?_
          obtain ⟨x18, ex18⟩ : ∃ y : Int32, y = (v1 + (1 : Int32)) := ⟨_, rfl⟩
          have hw := hw x18 ex18
          refine lv_iinc (v := x18) (lv' := [(1, .int x18), (0, .ref (rf 0)), (2, .int v2)]) hx hb dX7_nodeCount_18 hl (k := 1) rfl (by rw [ex18]; rfl) (by decide) rfl (fun ls hl => ?_)
          obtain ⟨x21, ex21⟩ : ∃ y : Int32, y = (v2 + (1 : Int32)) := ⟨_, rfl⟩
          have hw := hw x21 ex21
          refine lv_iinc (v := x21) (lv' := [(2, .int x21), (1, .int x18), (0, .ref (rf 0))]) hx hb dX7_nodeCount_21 hl (k := 2) rfl (by rw [ex21]; rfl) (by decide) rfl (fun ls hl => ?_)
          refine lv_goto (tgt := 4) hx hb dX7_nodeCount_24 (by decide) ?_
          exact ih4 x18 x21 ls hw (lv_sub hl [2, 1, 0] rfl)
  exact LOOP_4 n4 (0 : Int32) (0 : Int32) ls hw (lv_sub hl [2, 1, 0] rfl)
abbrev rm7_count : Room := { frames := 1, cells := 0, slots := 0, locals := 22 }
theorem nm7_count : kNm yX7_count 1 := by decide +kernel
set_option maxHeartbeats 4000000 in
set_option maxRecDepth 100000 in
theorem c7_count (l : Launch) (D : va_G) (cI cJ cN cR : ClassId) (rf : Nat → Nat) (f_hasSnapshot : Int32) (f_termListSize : Int32) (f_textSize : Int32) (f_slots : (Nat → Option Nat)) (f_arraySizes : (Nat → Int32)) (v1 : Int32) (post : Int32 → Prop) (hw : w7_count f_termListSize f_textSize f_slots f_arraySizes v1 post) : Met l yX7_count wsX7_count rm7_count (kR D (kT cI cJ cN cR) [.ref (rf 0), .int v1] [((rf 0), o7 rf f_hasSnapshot f_termListSize f_textSize), ((rf 3), aq cN 5 f_slots), ((rf 13), ai cI 3 f_arraySizes)]) (vp_Si post) 0 0 (fun _ => False) := by
  refine kMetRI (cc := cX7_count) (maxL := 2) (by decide +kernel) rfl (Nat.le_of_ble_eq_true rfl) ?_
  intro p e s m args below meth c H ls Q C0 hK hN hP hl RET
  obtain ⟨hx, hb, hml, hown, hts⟩ := id C0
  have hl : lv_has ls 2 [(0, .ref (rf 0)), (1, .int v1)] := hl
  have g130 := hts (.fieldLink RX7 130 "SternBrocotExplorer" "termListSize" "I") (by decide +kernel)
  have g202 := hts (.fieldLink RX7 202 "SternBrocotExplorer" "textSize" "I") (by decide +kernel)
  have hi9 : ∀ w ∈ wsX70, w ∈ wsX7_count := fun w h => List.mem_cons_of_mem _ (List.mem_append_right _ h)
  unfold w7_count at hw
  refine lv_iload_n hx hb dX7_count_0 rfl (lv_at hl 1 rfl) ?_
  by_cases ho : v1.toInt < 0 ∨ 3 < v1.toInt
  · have hw := hw.1 ho
    refine lv_tableOut (tgt := 52) hx hb dX7_count_1 ho (by decide) ?_
    refine lv_iconst (v := (-1 : Int32)) hx hb dX7_count_52 (by decide) ?_
    exact RET _ _ _ hw dX7_count_53
  rcases (show v1.toInt = 0 ∨ v1.toInt = 1 ∨ v1.toInt = 2 ∨ v1.toInt = 3 by omega) with h9 | h9 | h9 | h9
  · have hw := hw.2.1 (Int32.toInt_inj.mp (h9.trans (by decide)))
    refine lv_tableIn (tgt := 32) hx hb dX7_count_1 (by rw [h9]; decide) (by rw [h9]; decide) (by rw [h9]; rfl) (by decide) ?_
    refine lv_aload_n hx hb dX7_count_32 rfl (lv_at hl 0 rfl) ?_
    refine va_get (D := D) (ci := 7) (v := .int f_termListSize) (C := RX7) (T := TX7) (N := 16) hx hb hts hi9 hown hK hP 0 rfl rfl 8 (by decide) g130 (fun _ h9 => h9) rfl dX7_count_33 ?_
    exact RET _ _ _ hw dX7_count_36
  · have hw := hw.2.2.1 (Int32.toInt_inj.mp (h9.trans (by decide)))
    refine lv_tableIn (tgt := 37) hx hb dX7_count_1 (by rw [h9]; decide) (by rw [h9]; decide) (by rw [h9]; rfl) (by decide) ?_
    refine lv_aload_n hx hb dX7_count_37 rfl (lv_at hl 0 rfl) ?_
    refine va_get (D := D) (ci := 7) (v := .int f_textSize) (C := RX7) (T := TX7) (N := 16) hx hb hts hi9 hown hK hP 0 rfl rfl 10 (by decide) g202 (fun _ h9 => h9) rfl dX7_count_38 ?_
    exact RET _ _ _ hw dX7_count_41
  · have hw := hw.2.2.2.1 (Int32.toInt_inj.mp (h9.trans (by decide)))
    refine lv_tableIn (tgt := 42) hx hb dX7_count_1 (by rw [h9]; decide) (by rw [h9]; decide) (by rw [h9]; rfl) (by decide) ?_
    refine lv_aload_n hx hb dX7_count_42 rfl (lv_at hl 0 rfl) ?_
    refine kcRI (wc := [((rf 0), o7 rf f_hasSnapshot f_termListSize f_textSize), ((rf 3), aq cN 5 f_slots)]) hP [0, 1] rfl (fun hPc => oV (As := []) (rest := []) C0 hK hN (c7_nodeCount l D cI cJ cN cR rf f_hasSnapshot f_termListSize f_textSize f_slots  _ hw) 0 gX7_count_X7_nodeCount rfl ⟨rfl, rfl⟩ nm7_nodeCount ⟨Nat.le_of_ble_eq_true rfl, Nat.le_of_ble_eq_true rfl⟩ (q0 := 0) rfl rfl rfl rfl hl.1 rfl (Nat.le_of_ble_eq_true rfl) dX7_count_43 ⟨Nat.le_of_ble_eq_true rfl, Nat.le_of_ble_eq_true rfl⟩ hPc) (fun r43 hw => ?_)
    exact RET _ _ _ hw dX7_count_46
  · have hw := hw.2.2.2.2 (Int32.toInt_inj.mp (h9.trans (by decide)))
    refine lv_tableIn (tgt := 47) hx hb dX7_count_1 (by rw [h9]; decide) (by rw [h9]; decide) (by rw [h9]; rfl) (by decide) ?_
    refine lv_aload_n hx hb dX7_count_47 rfl (lv_at hl 0 rfl) ?_
    refine kcRI (wc := [((rf 0), o7 rf f_hasSnapshot f_termListSize f_textSize), ((rf 13), ai cI 3 f_arraySizes)]) hP [0, 2] rfl (fun hPc => oV (As := []) (rest := []) C0 hK hN (c7_arrayCount l D cI cJ cN cR rf f_hasSnapshot f_termListSize f_textSize f_arraySizes  _ hw) 0 gX7_count_X7_arrayCount rfl ⟨rfl, rfl⟩ nm7_arrayCount ⟨Nat.le_of_ble_eq_true rfl, Nat.le_of_ble_eq_true rfl⟩ (q0 := 0) rfl rfl rfl rfl hl.1 rfl (Nat.le_of_ble_eq_true rfl) dX7_count_48 ⟨Nat.le_of_ble_eq_true rfl, Nat.le_of_ble_eq_true rfl⟩ hPc) (fun r48 hw => ?_)
    exact RET _ _ _ hw dX7_count_51
abbrev rm7_isSlot : Room := { frames := 0, cells := 0, slots := 0, locals := 0 }
theorem nm7_isSlot : kNm yX7_isSlot 1 := by decide +kernel
set_option maxHeartbeats 4000000 in
set_option maxRecDepth 100000 in
theorem c7_isSlot (l : Launch) (D : va_G) (cI cJ cN cR : ClassId)   (v0 : Int32) (post : Int32 → Prop) (hw : w7_isSlot v0 post) : Met l yX7_isSlot wsX7_isSlot rm7_isSlot (kR D (kT cI cJ cN cR) [.int v0] []) (vp_Si (fun (r : Int32) => narrow .boolean (.int r) = .int r ∧ post r)) 0 0 (fun _ => False) := by
  refine kMetRZ (cc := cX7_isSlot) (maxL := 1) (by decide +kernel) rfl (Nat.le_of_ble_eq_true rfl) ?_
  intro p e s m args below meth c H ls Q C0 hK hN hP hl RET
  obtain ⟨hx, hb, hml, hown, hts⟩ := id C0
  have hl : lv_has ls 1 [(0, .int v0)] := hl
  unfold w7_isSlot at hw
  refine lv_iload_n hx hb dX7_isSlot_0 rfl (lv_at hl 0 rfl) ?_
  refine lv_if_lt (tgt := 13) hx hb dX7_isSlot_1 (by decide) (fun k => ?_) (fun k => ?_)
  · have hw := hw.1 k
    refine lv_iconst (v := (0 : Int32)) hx hb dX7_isSlot_13 (by decide) ?_
    exact RET _ _ _ rfl hw dX7_isSlot_14
  · have hw := hw.2 k
    refine lv_iload_n hx hb dX7_isSlot_4 rfl (lv_at hl 0 rfl) ?_
    refine lv_iconst (v := (5 : Int32)) hx hb dX7_isSlot_5 (by decide) ?_
    refine lv_icmp_ge (tgt := 13) hx hb dX7_isSlot_6 (by decide) (fun k => ?_) (fun k => ?_)
    · have hw := hw.1 k
      refine lv_iconst (v := (0 : Int32)) hx hb dX7_isSlot_13 (by decide) ?_
      exact RET _ _ _ rfl hw dX7_isSlot_14
    · have hw := hw.2 k
      refine lv_iconst (v := (1 : Int32)) hx hb dX7_isSlot_9 (by decide) ?_
      refine lv_goto (tgt := 14) hx hb dX7_isSlot_10 (by decide) ?_
      exact RET _ _ _ rfl hw dX7_isSlot_14
