abbrev rm8_commonAncestor : Room := { frames := 2, cells := 0, slots := 0, locals := 57 }
theorem nm8_commonAncestor : kNm yX8_commonAncestor 3 := by decide +kernel
set_option maxHeartbeats 4000000 in
set_option maxRecDepth 100000 in
theorem c8_commonAncestor (l : Launch) (D : va_G) (cI cJ cN cR : ClassId) (rf : Nat → Nat) (sz : Nat) (f_terms : Int32) (f_runs : Int32) (f_leftAbove : Int64) (f_leftBelow : Int64) (f_rightAbove : Int64) (f_rightBelow : Int64) (f_listed : Int32) (f_fed : Int32) (f_read : Int32) (f_formed : Int32) (f_hasSnapshot : Int32) (f_above : (Nat → Int32)) (f_below : (Nat → Int32)) (f_term : (Nat → Int32)) (f_run : (Nat → Int32)) (f_isRight : (Nat → Int32)) (f_otherRun : (Nat → Int32)) (f_otherRight : (Nat → Int32)) (v1 : Int32) (v2 : Int32) (v3 : Int32) (post : Int32 → Int32 → Int32 → Int64 → Int64 → Int64 → Int64 → (Nat → Int32) → (Nat → Int32) → (Nat → Int32) → (Nat → Int32) → (Nat → Int32) → (Nat → Int32) → (Nat → Int32) → Prop) (hw : w8_commonAncestor f_terms f_runs f_leftAbove f_leftBelow f_rightAbove f_rightBelow f_above f_below f_term f_run f_isRight f_otherRun f_otherRight v1 v2 v3 post) : Met l yX8_commonAncestor wsX8_commonAncestor rm8_commonAncestor (kP D (kT cI cJ cN cR) sz [.ref (rf 0), .int v1, .int v2, .int v3] [((rf 0), o8 rf f_terms f_runs f_leftAbove f_leftBelow f_rightAbove f_rightBelow f_listed f_fed f_read f_formed f_hasSnapshot), ((rf 1), ai cI 8 f_above), ((rf 2), ai cI 8 f_below), ((rf 3), ai cI 64 f_term), ((rf 4), ai cI 64 f_run), ((rf 5), ai cI 64 f_isRight), ((rf 12), ai cI 64 f_otherRun), ((rf 13), ai cI 64 f_otherRight)]) (kQi D [((rf 0), o8 rf f_terms f_runs f_leftAbove f_leftBelow f_rightAbove f_rightBelow f_listed f_fed f_read f_formed f_hasSnapshot), ((rf 1), ai cI 8 f_above), ((rf 2), ai cI 8 f_below), ((rf 3), ai cI 64 f_term), ((rf 4), ai cI 64 f_run), ((rf 5), ai cI 64 f_isRight), ((rf 12), ai cI 64 f_otherRun), ((rf 13), ai cI 64 f_otherRight)] sz (fun (r : Int32) (u : Int32 × Int32 × Int64 × Int64 × Int64 × Int64 × (Nat → Int32) × (Nat → Int32) × (Nat → Int32) × (Nat → Int32) × (Nat → Int32) × (Nat → Int32) × (Nat → Int32)) => post r u.1 u.2.1 u.2.2.1 u.2.2.2.1 u.2.2.2.2.1 u.2.2.2.2.2.1 u.2.2.2.2.2.2.1 u.2.2.2.2.2.2.2.1 u.2.2.2.2.2.2.2.2.1 u.2.2.2.2.2.2.2.2.2.1 u.2.2.2.2.2.2.2.2.2.2.1 u.2.2.2.2.2.2.2.2.2.2.2.1 u.2.2.2.2.2.2.2.2.2.2.2.2) (fun (u : Int32 × Int32 × Int64 × Int64 × Int64 × Int64 × (Nat → Int32) × (Nat → Int32) × (Nat → Int32) × (Nat → Int32) × (Nat → Int32) × (Nat → Int32) × (Nat → Int32)) => [((rf 0), o8 rf u.1 u.2.1 u.2.2.1 u.2.2.2.1 u.2.2.2.2.1 u.2.2.2.2.2.1 f_listed f_fed f_read f_formed f_hasSnapshot), ((rf 1), ai cI 8 u.2.2.2.2.2.2.1), ((rf 2), ai cI 8 u.2.2.2.2.2.2.2.1), ((rf 3), ai cI 64 u.2.2.2.2.2.2.2.2.1), ((rf 4), ai cI 64 u.2.2.2.2.2.2.2.2.2.1), ((rf 5), ai cI 64 u.2.2.2.2.2.2.2.2.2.2.1), ((rf 12), ai cI 64 u.2.2.2.2.2.2.2.2.2.2.2.1), ((rf 13), ai cI 64 u.2.2.2.2.2.2.2.2.2.2.2.2)])) 0 0 (va_A [((rf 0), o8 rf f_terms f_runs f_leftAbove f_leftBelow f_rightAbove f_rightBelow f_listed f_fed f_read f_formed f_hasSnapshot), ((rf 1), ai cI 8 f_above), ((rf 2), ai cI 8 f_below), ((rf 3), ai cI 64 f_term), ((rf 4), ai cI 64 f_run), ((rf 5), ai cI 64 f_isRight), ((rf 12), ai cI 64 f_otherRun), ((rf 13), ai cI 64 f_otherRight)] sz) := by
  refine kMetI (cc := cX8_commonAncestor) (maxL := 8) (by decide +kernel) rfl (Nat.le_of_ble_eq_true rfl) ?_
  intro p e s m args below meth c H0 ls A Q C0 hK hN hP hD hS hA hl RET
  obtain ⟨hx, hb, hml, hown, hts⟩ := id C0
  have hl : lv_has ls 8 [(0, .ref (rf 0)), (1, .int v1), (2, .int v2), (3, .int v3)] := hl
  have g7 := hts (.fieldLink RX8 7 "SternBrocotExplorerModel" "above" "[I") (by decide +kernel)
  have g13 := hts (.fieldLink RX8 13 "SternBrocotExplorerModel" "below" "[I") (by decide +kernel)
  have g29 := hts (.fieldLink RX8 29 "SternBrocotExplorerModel" "runs" "I") (by decide +kernel)
  have g45 := hts (.fieldLink RX8 45 "SternBrocotExplorerModel" "otherRun" "[I") (by decide +kernel)
  have g19 := hts (.fieldLink RX8 19 "SternBrocotExplorerModel" "run" "[I") (by decide +kernel)
  have g48 := hts (.fieldLink RX8 48 "SternBrocotExplorerModel" "otherRight" "[I") (by decide +kernel)
  have g22 := hts (.fieldLink RX8 22 "SternBrocotExplorerModel" "isRight" "[I") (by decide +kernel)
  have g32 := hts (.fieldLink RX8 32 "SternBrocotExplorerModel" "leftAbove" "J") (by decide +kernel)
  have g39 := hts (.fieldLink RX8 39 "SternBrocotExplorerModel" "rightAbove" "J") (by decide +kernel)
  have g36 := hts (.fieldLink RX8 36 "SternBrocotExplorerModel" "leftBelow" "J") (by decide +kernel)
  have g42 := hts (.fieldLink RX8 42 "SternBrocotExplorerModel" "rightBelow" "J") (by decide +kernel)
  have hi9 : ∀ w ∈ wsX80, w ∈ wsX8_commonAncestor := fun w h => List.mem_cons_of_mem _ (List.mem_append_right _ h)
  unfold w8_commonAncestor at hw
  have hP : va_P D vwCl [((rf 0), o8 rf f_terms f_runs f_leftAbove f_leftBelow f_rightAbove f_rightBelow f_listed f_fed f_read f_formed f_hasSnapshot), ((rf 1), ai cI 8 f_above), ((rf 2), ai cI 8 f_below), ((rf 3), ai cI 64 f_term), ((rf 4), ai cI 64 f_run), ((rf 5), ai cI 64 f_isRight), ((rf 12), ai cI 64 f_otherRun), ((rf 13), ai cI 64 f_otherRight)] H0 := hP
  have JOIN_218 : ∀ (v5 : Int32) (f_terms : Int32) (f_runs : Int32) (f_leftAbove : Int64) (f_leftBelow : Int64) (f_rightAbove : Int64) (f_rightBelow : Int64) (f_above : (Nat → Int32)) (f_below : (Nat → Int32)) (f_term : (Nat → Int32)) (f_run : (Nat → Int32)) (f_isRight : (Nat → Int32)) (f_otherRun : (Nat → Int32)) (f_otherRight : (Nat → Int32)) (H : Heap) (locs : List Loc) (ls : Array Slot), w8_commonAncestor_J218 f_terms f_runs f_leftAbove f_leftBelow f_rightAbove f_rightBelow f_above f_below f_term f_run f_isRight f_otherRun f_otherRight v1 v5 post → va_P D vwCl [((rf 0), o8 rf f_terms f_runs f_leftAbove f_leftBelow f_rightAbove f_rightBelow f_listed f_fed f_read f_formed f_hasSnapshot), ((rf 1), ai cI 8 f_above), ((rf 2), ai cI 8 f_below), ((rf 3), ai cI 64 f_term), ((rf 4), ai cI 64 f_run), ((rf 5), ai cI 64 f_isRight), ((rf 12), ai cI 64 f_otherRun), ((rf 13), ai cI 64 f_otherRight)] H → va_D A [((rf 0), o8 rf f_terms f_runs f_leftAbove f_leftBelow f_rightAbove f_rightBelow f_listed f_fed f_read f_formed f_hasSnapshot), ((rf 1), ai cI 8 f_above), ((rf 2), ai cI 8 f_below), ((rf 3), ai cI 64 f_term), ((rf 4), ai cI 64 f_run), ((rf 5), ai cI 64 f_isRight), ((rf 12), ai cI 64 f_otherRun), ((rf 13), ai cI 64 f_otherRight)] → va_S A H0 H locs → lv_has ls 8 [(0, .ref (rf 0)), (1, .int v1), (5, .int v5)] → W p l e rm8_commonAncestor s m args below meth c H locs 0 0 Q (F0 m 218 ls []) := by
    intro v5 f_terms f_runs f_leftAbove f_leftBelow f_rightAbove f_rightBelow f_above f_below f_term f_run f_isRight f_otherRun f_otherRight H locs ls hw hP hD hS hl
    unfold w8_commonAncestor_J218 at hw
    refine lv_aload_n hx hb dX8_commonAncestor_218 rfl (lv_at hl 0 rfl) ?_
    refine lv_iload hx hb dX8_commonAncestor_219 (lv_at hl 2 rfl) ?_
    refine kcV (wc := [((rf 0), o8 rf f_terms f_runs f_leftAbove f_leftBelow f_rightAbove f_rightBelow f_listed f_fed f_read f_formed f_hasSnapshot), ((rf 4), ai cI 64 f_run), ((rf 5), ai cI 64 f_isRight)]) (wr := [((rf 1), ai cI 8 f_above), ((rf 2), ai cI 8 f_below), ((rf 3), ai cI 64 f_term), ((rf 12), ai cI 64 f_otherRun), ((rf 13), ai cI 64 f_otherRight)]) hP hD hS hA [0, 4, 5] [1, 2, 3, 6, 7] rfl rfl ⟨rfl, rfl, by decide⟩ (fun hPc hDc => rV (As := [.int v5]) (rest := []) C0 hK hN (c8_goDown l D cI cJ cN cR rf H.size f_terms f_runs f_leftAbove f_leftBelow f_rightAbove f_rightBelow f_listed f_fed f_read f_formed f_hasSnapshot f_run f_isRight v5 _ hw) 1 gX8_commonAncestor_X8_goDown rfl ⟨rfl, rfl⟩ nm8_goDown ⟨Nat.le_of_ble_eq_true rfl, Nat.le_of_ble_eq_true rfl⟩ (q0 := 0) rfl rfl rfl rfl hl.1 rfl (Nat.le_of_ble_eq_true rfl) dX8_commonAncestor_221 ⟨Nat.le_of_ble_eq_true rfl, Nat.le_of_ble_eq_true rfl⟩ hPc hDc) (fun u221 H locs hw hP hD hS => ?_)
    obtain ⟨f_leftAbove_221, f_leftBelow_221, f_rightAbove_221, f_rightBelow_221⟩ := u221
    dsimp only at hw
    have hP : va_P D vwCl [((rf 1), ai cI 8 f_above), ((rf 2), ai cI 8 f_below), ((rf 3), ai cI 64 f_term), ((rf 12), ai cI 64 f_otherRun), ((rf 13), ai cI 64 f_otherRight), ((rf 0), o8 rf f_terms f_runs f_leftAbove_221 f_leftBelow_221 f_rightAbove_221 f_rightBelow_221 f_listed f_fed f_read f_formed f_hasSnapshot), ((rf 4), ai cI 64 f_run), ((rf 5), ai cI 64 f_isRight)] H := hP
    have hD : va_D A [((rf 1), ai cI 8 f_above), ((rf 2), ai cI 8 f_below), ((rf 3), ai cI 64 f_term), ((rf 12), ai cI 64 f_otherRun), ((rf 13), ai cI 64 f_otherRight), ((rf 0), o8 rf f_terms f_runs f_leftAbove_221 f_leftBelow_221 f_rightAbove_221 f_rightBelow_221 f_listed f_fed f_read f_formed f_hasSnapshot), ((rf 4), ai cI 64 f_run), ((rf 5), ai cI 64 f_isRight)] := hD
    refine lv_aload_n hx hb dX8_commonAncestor_224 rfl (lv_at hl 0 rfl) ?_
    refine lv_iload_n hx hb dX8_commonAncestor_225 rfl (lv_at hl 1 rfl) ?_
    refine lv_aload_n hx hb dX8_commonAncestor_226 rfl (lv_at hl 0 rfl) ?_
    refine va_get (D := D) (ci := 8) (v := .long f_leftAbove_221) (C := RX8) (T := TX8) (N := 35) hx hb hts hi9 hown hK hP 5 rfl rfl 7 (by decide) g32 (fun _ h9 => h9) rfl dX8_commonAncestor_227 ?_
    refine lv_aload_n hx hb dX8_commonAncestor_230 rfl (lv_at hl 0 rfl) ?_
    refine va_get (D := D) (ci := 8) (v := .long f_rightAbove_221) (C := RX8) (T := TX8) (N := 35) hx hb hts hi9 hown hK hP 5 rfl rfl 9 (by decide) g39 (fun _ h9 => h9) rfl dX8_commonAncestor_231 ?_
    refine lv_ladd hx hb dX8_commonAncestor_234 ?_
    refine lv_aload_n hx hb dX8_commonAncestor_235 rfl (lv_at hl 0 rfl) ?_
    refine va_get (D := D) (ci := 8) (v := .long f_leftBelow_221) (C := RX8) (T := TX8) (N := 35) hx hb hts hi9 hown hK hP 5 rfl rfl 8 (by decide) g36 (fun _ h9 => h9) rfl dX8_commonAncestor_236 ?_
    refine lv_aload_n hx hb dX8_commonAncestor_239 rfl (lv_at hl 0 rfl) ?_
    refine va_get (D := D) (ci := 8) (v := .long f_rightBelow_221) (C := RX8) (T := TX8) (N := 35) hx hb hts hi9 hown hK hP 5 rfl rfl 10 (by decide) g42 (fun _ h9 => h9) rfl dX8_commonAncestor_240 ?_
    refine lv_ladd hx hb dX8_commonAncestor_243 ?_
    refine kcI (wc := [((rf 0), o8 rf f_terms f_runs f_leftAbove_221 f_leftBelow_221 f_rightAbove_221 f_rightBelow_221 f_listed f_fed f_read f_formed f_hasSnapshot), ((rf 1), ai cI 8 f_above), ((rf 2), ai cI 8 f_below)]) (wr := [((rf 3), ai cI 64 f_term), ((rf 12), ai cI 64 f_otherRun), ((rf 13), ai cI 64 f_otherRight), ((rf 4), ai cI 64 f_run), ((rf 5), ai cI 64 f_isRight)]) hP hD hS hA [5, 0, 1] [2, 3, 4, 6, 7] rfl rfl ⟨rfl, rfl, by decide⟩ (fun hPc hDc => rV (As := [.int v1, .long (f_leftAbove_221 + f_rightAbove_221), .long (f_leftBelow_221 + f_rightBelow_221)]) (rest := []) C0 hK hN (c8_put l D cI cJ cN cR rf H.size f_terms f_runs f_leftAbove_221 f_leftBelow_221 f_rightAbove_221 f_rightBelow_221 f_listed f_fed f_read f_formed f_hasSnapshot f_above f_below v1 (f_leftAbove_221 + f_rightAbove_221) (f_leftBelow_221 + f_rightBelow_221) _ hw) 3 gX8_commonAncestor_X8_put rfl ⟨rfl, rfl⟩ nm8_put ⟨Nat.le_of_ble_eq_true rfl, Nat.le_of_ble_eq_true rfl⟩ (q0 := 0) rfl rfl rfl rfl hl.1 rfl (Nat.le_of_ble_eq_true rfl) dX8_commonAncestor_244 ⟨Nat.le_of_ble_eq_true rfl, Nat.le_of_ble_eq_true rfl⟩ hPc hDc) (fun r244 u244 H locs hw hP hD hS => ?_)
    obtain ⟨f_above_244, f_below_244⟩ := u244
    dsimp only at hw
    have hP : va_P D vwCl [((rf 3), ai cI 64 f_term), ((rf 12), ai cI 64 f_otherRun), ((rf 13), ai cI 64 f_otherRight), ((rf 4), ai cI 64 f_run), ((rf 5), ai cI 64 f_isRight), ((rf 0), o8 rf f_terms f_runs f_leftAbove_221 f_leftBelow_221 f_rightAbove_221 f_rightBelow_221 f_listed f_fed f_read f_formed f_hasSnapshot), ((rf 1), ai cI 8 f_above_244), ((rf 2), ai cI 8 f_below_244)] H := hP
    have hD : va_D A [((rf 3), ai cI 64 f_term), ((rf 12), ai cI 64 f_otherRun), ((rf 13), ai cI 64 f_otherRight), ((rf 4), ai cI 64 f_run), ((rf 5), ai cI 64 f_isRight), ((rf 0), o8 rf f_terms f_runs f_leftAbove_221 f_leftBelow_221 f_rightAbove_221 f_rightBelow_221 f_listed f_fed f_read f_formed f_hasSnapshot), ((rf 1), ai cI 8 f_above_244), ((rf 2), ai cI 8 f_below_244)] := hD
    refine lv_istore (lv' := [(6, .int r244), (0, .ref (rf 0)), (1, .int v1), (5, .int v5)]) hx hb dX8_commonAncestor_247 hl (by decide) rfl (fun ls hl => ?_)
    refine lv_iload hx hb dX8_commonAncestor_249 (lv_at hl 3 rfl) ?_
    obtain ⟨hP, hD⟩ := k_sub (ws' := [((rf 0), o8 rf f_terms f_runs f_leftAbove_221 f_leftBelow_221 f_rightAbove_221 f_rightBelow_221 f_listed f_fed f_read f_formed f_hasSnapshot), ((rf 1), ai cI 8 f_above_244), ((rf 2), ai cI 8 f_below_244), ((rf 3), ai cI 64 f_term), ((rf 4), ai cI 64 f_run), ((rf 5), ai cI 64 f_isRight), ((rf 12), ai cI 64 f_otherRun), ((rf 13), ai cI 64 f_otherRight)]) hP hD [5, 6, 7, 0, 3, 4, 1, 2] rfl rfl
    exact RET _ _ _ (f_terms, f_runs, f_leftAbove_221, f_leftBelow_221, f_rightAbove_221, f_rightBelow_221, f_above_244, f_below_244, f_term, f_run, f_isRight, f_otherRun, f_otherRight) _ _ hw hP hD hS dX8_commonAncestor_251
  refine lv_aload_n hx hb dX8_commonAncestor_0 rfl (lv_at hl 0 rfl) ?_
  refine lv_iload_n hx hb dX8_commonAncestor_1 rfl (lv_at hl 1 rfl) ?_
  refine kcRI (wc := [((rf 0), o8 rf f_terms f_runs f_leftAbove f_leftBelow f_rightAbove f_rightBelow f_listed f_fed f_read f_formed f_hasSnapshot)]) hP [0] rfl (fun hPc => oV (As := [.int v1]) (rest := []) C0 hK hN (c8_isRegister l D cI cJ cN cR rf f_terms f_runs f_leftAbove f_leftBelow f_rightAbove f_rightBelow f_listed f_fed f_read f_formed f_hasSnapshot v1 _ hw) 1 gX8_commonAncestor_X8_isRegister rfl ⟨rfl, rfl⟩ nm8_isRegister ⟨Nat.le_of_ble_eq_true rfl, Nat.le_of_ble_eq_true rfl⟩ (q0 := 0) rfl rfl rfl rfl hl.1 rfl (Nat.le_of_ble_eq_true rfl) dX8_commonAncestor_2 ⟨Nat.le_of_ble_eq_true rfl, Nat.le_of_ble_eq_true rfl⟩ hPc) (fun r2 hw => ?_)
  obtain ⟨nb2, hw⟩ := hw
  refine lv_if_eq (tgt := 24) hx hb dX8_commonAncestor_5 (by decide) (fun k => ?_) (fun k => ?_)
  · have hw := hw.1 k
    refine lv_iconst (v := (-1 : Int32)) hx hb dX8_commonAncestor_24 (by decide) ?_
    exact RET _ _ _ (f_terms, f_runs, f_leftAbove, f_leftBelow, f_rightAbove, f_rightBelow, f_above, f_below, f_term, f_run, f_isRight, f_otherRun, f_otherRight) _ _ hw hP hD hS dX8_commonAncestor_25
  · have hw := hw.2 k
    refine lv_aload_n hx hb dX8_commonAncestor_8 rfl (lv_at hl 0 rfl) ?_
    refine lv_iload_n hx hb dX8_commonAncestor_9 rfl (lv_at hl 2 rfl) ?_
    refine kcRI (wc := [((rf 0), o8 rf f_terms f_runs f_leftAbove f_leftBelow f_rightAbove f_rightBelow f_listed f_fed f_read f_formed f_hasSnapshot)]) hP [0] rfl (fun hPc => oV (As := [.int v2]) (rest := []) C0 hK hN (c8_isRegister l D cI cJ cN cR rf f_terms f_runs f_leftAbove f_leftBelow f_rightAbove f_rightBelow f_listed f_fed f_read f_formed f_hasSnapshot v2 _ hw) 1 gX8_commonAncestor_X8_isRegister rfl ⟨rfl, rfl⟩ nm8_isRegister ⟨Nat.le_of_ble_eq_true rfl, Nat.le_of_ble_eq_true rfl⟩ (q0 := 0) rfl rfl rfl rfl hl.1 rfl (Nat.le_of_ble_eq_true rfl) dX8_commonAncestor_10 ⟨Nat.le_of_ble_eq_true rfl, Nat.le_of_ble_eq_true rfl⟩ hPc) (fun r10 hw => ?_)
    obtain ⟨nb10, hw⟩ := hw
    refine lv_if_eq (tgt := 24) hx hb dX8_commonAncestor_13 (by decide) (fun k => ?_) (fun k => ?_)
    · have hw := hw.1 k
      refine lv_iconst (v := (-1 : Int32)) hx hb dX8_commonAncestor_24 (by decide) ?_
      exact RET _ _ _ (f_terms, f_runs, f_leftAbove, f_leftBelow, f_rightAbove, f_rightBelow, f_above, f_below, f_term, f_run, f_isRight, f_otherRun, f_otherRight) _ _ hw hP hD hS dX8_commonAncestor_25
    · have hw := hw.2 k
      refine lv_aload_n hx hb dX8_commonAncestor_16 rfl (lv_at hl 0 rfl) ?_
      refine lv_iload_n hx hb dX8_commonAncestor_17 rfl (lv_at hl 3 rfl) ?_
      refine kcRI (wc := [((rf 0), o8 rf f_terms f_runs f_leftAbove f_leftBelow f_rightAbove f_rightBelow f_listed f_fed f_read f_formed f_hasSnapshot)]) hP [0] rfl (fun hPc => oV (As := [.int v3]) (rest := []) C0 hK hN (c8_isRegister l D cI cJ cN cR rf f_terms f_runs f_leftAbove f_leftBelow f_rightAbove f_rightBelow f_listed f_fed f_read f_formed f_hasSnapshot v3 _ hw) 1 gX8_commonAncestor_X8_isRegister rfl ⟨rfl, rfl⟩ nm8_isRegister ⟨Nat.le_of_ble_eq_true rfl, Nat.le_of_ble_eq_true rfl⟩ (q0 := 0) rfl rfl rfl rfl hl.1 rfl (Nat.le_of_ble_eq_true rfl) dX8_commonAncestor_18 ⟨Nat.le_of_ble_eq_true rfl, Nat.le_of_ble_eq_true rfl⟩ hPc) (fun r18 hw => ?_)
      obtain ⟨nb18, hw⟩ := hw
      refine lv_if_ne (tgt := 26) hx hb dX8_commonAncestor_21 (by decide) (fun k => ?_) (fun k => ?_)
      · have hw := hw.1 k
        refine lv_aload_n hx hb dX8_commonAncestor_26 rfl (lv_at hl 0 rfl) ?_
        refine lv_aload_n hx hb dX8_commonAncestor_27 rfl (lv_at hl 0 rfl) ?_
        refine va_get (D := D) (ci := 8) (v := .ref (rf 1)) (C := RX8) (T := TX8) (N := 35) hx hb hts hi9 hown hK hP 0 rfl rfl 0 (by decide) g7 (fun _ h9 => h9) rfl dX8_commonAncestor_28 ?_
        refine lv_iload_n hx hb dX8_commonAncestor_31 rfl (lv_at hl 2 rfl) ?_
        obtain ⟨hin, hw⟩ := hw
        refine va_iald hx hb hK hP 1 0 rfl rfl hin dX8_commonAncestor_32 ?_
        refine lv_aload_n hx hb dX8_commonAncestor_33 rfl (lv_at hl 0 rfl) ?_
        refine va_get (D := D) (ci := 8) (v := .ref (rf 2)) (C := RX8) (T := TX8) (N := 35) hx hb hts hi9 hown hK hP 0 rfl rfl 1 (by decide) g13 (fun _ h9 => h9) rfl dX8_commonAncestor_34 ?_
        refine lv_iload_n hx hb dX8_commonAncestor_37 rfl (lv_at hl 2 rfl) ?_
        obtain ⟨hin, hw⟩ := hw
        refine va_iald hx hb hK hP 2 0 rfl rfl hin dX8_commonAncestor_38 ?_
        refine kcV (wc := [((rf 0), o8 rf f_terms f_runs f_leftAbove f_leftBelow f_rightAbove f_rightBelow f_listed f_fed f_read f_formed f_hasSnapshot), ((rf 3), ai cI 64 f_term), ((rf 4), ai cI 64 f_run), ((rf 5), ai cI 64 f_isRight)]) (wr := [((rf 1), ai cI 8 f_above), ((rf 2), ai cI 8 f_below), ((rf 12), ai cI 64 f_otherRun), ((rf 13), ai cI 64 f_otherRight)]) hP hD hS hA [0, 3, 4, 5] [1, 2, 6, 7] rfl rfl ⟨rfl, rfl, by decide⟩ (fun hPc hDc => rV (As := [.int (f_above v2.toNatClampNeg), .int (f_below v2.toNatClampNeg)]) (rest := []) C0 hK hN (c8_layRuns l D cI cJ cN cR rf H0.size f_terms f_runs f_leftAbove f_leftBelow f_rightAbove f_rightBelow f_listed f_fed f_read f_formed f_hasSnapshot f_term f_run f_isRight (f_above v2.toNatClampNeg) (f_below v2.toNatClampNeg) _ hw) 2 gX8_commonAncestor_X8_layRuns rfl ⟨rfl, rfl⟩ nm8_layRuns ⟨Nat.le_of_ble_eq_true rfl, Nat.le_of_ble_eq_true rfl⟩ (q0 := 0) rfl rfl rfl rfl hl.1 rfl (Nat.le_of_ble_eq_true rfl) dX8_commonAncestor_39 ⟨Nat.le_of_ble_eq_true rfl, Nat.le_of_ble_eq_true rfl⟩ hPc hDc) (fun u39 H locs hw hP hD hS => ?_)
        obtain ⟨f_terms_39, f_runs_39, f_term_39, f_run_39, f_isRight_39⟩ := u39
        dsimp only at hw
        have hP : va_P D vwCl [((rf 1), ai cI 8 f_above), ((rf 2), ai cI 8 f_below), ((rf 12), ai cI 64 f_otherRun), ((rf 13), ai cI 64 f_otherRight), ((rf 0), o8 rf f_terms_39 f_runs_39 f_leftAbove f_leftBelow f_rightAbove f_rightBelow f_listed f_fed f_read f_formed f_hasSnapshot), ((rf 3), ai cI 64 f_term_39), ((rf 4), ai cI 64 f_run_39), ((rf 5), ai cI 64 f_isRight_39)] H := hP
        have hD : va_D A [((rf 1), ai cI 8 f_above), ((rf 2), ai cI 8 f_below), ((rf 12), ai cI 64 f_otherRun), ((rf 13), ai cI 64 f_otherRight), ((rf 0), o8 rf f_terms_39 f_runs_39 f_leftAbove f_leftBelow f_rightAbove f_rightBelow f_listed f_fed f_read f_formed f_hasSnapshot), ((rf 3), ai cI 64 f_term_39), ((rf 4), ai cI 64 f_run_39), ((rf 5), ai cI 64 f_isRight_39)] := hD
        refine lv_aload_n hx hb dX8_commonAncestor_42 rfl (lv_at hl 0 rfl) ?_
        refine va_get (D := D) (ci := 8) (v := .int f_runs_39) (C := RX8) (T := TX8) (N := 35) hx hb hts hi9 hown hK hP 4 rfl rfl 6 (by decide) g29 (fun _ h9 => h9) rfl dX8_commonAncestor_43 ?_
        refine lv_istore (lv' := [(4, .int f_runs_39), (0, .ref (rf 0)), (1, .int v1), (2, .int v2), (3, .int v3)]) hx hb dX8_commonAncestor_46 hl (by decide) rfl (fun ls hl => ?_)
        refine lv_iconst (v := (0 : Int32)) hx hb dX8_commonAncestor_48 (by decide) ?_
        refine lv_istore (lv' := [(5, .int (0 : Int32)), (4, .int f_runs_39), (0, .ref (rf 0)), (1, .int v1), (2, .int v2), (3, .int v3)]) hx hb dX8_commonAncestor_49 hl (by decide) rfl (fun ls hl => ?_)
        obtain ⟨n51, hw⟩ := hw
        have LOOP_51 : ∀ (n51 : Nat) (v5 : Int32) (f_otherRun : (Nat → Int32)) (f_otherRight : (Nat → Int32)) (H : Heap) (locs : List Loc) (ls : Array Slot), w8_commonAncestor_L51 f_terms_39 f_runs_39 f_leftAbove f_leftBelow f_rightAbove f_rightBelow f_above f_below f_term_39 f_run_39 f_isRight_39 v1 v3 f_runs_39 post n51 v5 f_otherRun f_otherRight → va_P D vwCl [((rf 0), o8 rf f_terms_39 f_runs_39 f_leftAbove f_leftBelow f_rightAbove f_rightBelow f_listed f_fed f_read f_formed f_hasSnapshot), ((rf 1), ai cI 8 f_above), ((rf 2), ai cI 8 f_below), ((rf 3), ai cI 64 f_term_39), ((rf 4), ai cI 64 f_run_39), ((rf 5), ai cI 64 f_isRight_39), ((rf 12), ai cI 64 f_otherRun), ((rf 13), ai cI 64 f_otherRight)] H → va_D A [((rf 0), o8 rf f_terms_39 f_runs_39 f_leftAbove f_leftBelow f_rightAbove f_rightBelow f_listed f_fed f_read f_formed f_hasSnapshot), ((rf 1), ai cI 8 f_above), ((rf 2), ai cI 8 f_below), ((rf 3), ai cI 64 f_term_39), ((rf 4), ai cI 64 f_run_39), ((rf 5), ai cI 64 f_isRight_39), ((rf 12), ai cI 64 f_otherRun), ((rf 13), ai cI 64 f_otherRight)] → va_S A H0 H locs → lv_has ls 8 [(0, .ref (rf 0)), (1, .int v1), (3, .int v3), (4, .int f_runs_39), (5, .int v5)] → W p l e rm8_commonAncestor s m args below meth c H locs 0 0 Q (F0 m 51 ls []) := by
          clear hw hl hP hD hS
          intro n51
          induction n51 with
          | zero =>
            intro v5 f_otherRun f_otherRight H locs ls hw hP hD hS hl
            rw [w8_commonAncestor_L51] at hw
            exact hw.elim
          | succ n51 ih51 =>
            intro v5 f_otherRun f_otherRight H locs ls hw hP hD hS hl
            rw [w8_commonAncestor_L51] at hw
            refine lv_iload hx hb dX8_commonAncestor_51 (lv_at hl 4 rfl) ?_
            refine lv_aload_n hx hb dX8_commonAncestor_53 rfl (lv_at hl 0 rfl) ?_
            refine va_get (D := D) (ci := 8) (v := .int f_runs_39) (C := RX8) (T := TX8) (N := 35) hx hb hts hi9 hown hK hP 0 rfl rfl 6 (by decide) g29 (fun _ h9 => h9) rfl dX8_commonAncestor_54 ?_
            refine lv_icmp_ge (tgt := 94) hx hb dX8_commonAncestor_57 (by decide) (fun k => ?_) (fun k => ?_)
            · have hw := hw.1 k
              refine lv_aload_n hx hb dX8_commonAncestor_94 rfl (lv_at hl 0 rfl) ?_
              refine lv_aload_n hx hb dX8_commonAncestor_95 rfl (lv_at hl 0 rfl) ?_
              refine va_get (D := D) (ci := 8) (v := .ref (rf 1)) (C := RX8) (T := TX8) (N := 35) hx hb hts hi9 hown hK hP 0 rfl rfl 0 (by decide) g7 (fun _ h9 => h9) rfl dX8_commonAncestor_96 ?_
              refine lv_iload_n hx hb dX8_commonAncestor_99 rfl (lv_at hl 2 rfl) ?_
              obtain ⟨hin, hw⟩ := hw
              refine va_iald hx hb hK hP 1 0 rfl rfl hin dX8_commonAncestor_100 ?_
              refine lv_aload_n hx hb dX8_commonAncestor_101 rfl (lv_at hl 0 rfl) ?_
              refine va_get (D := D) (ci := 8) (v := .ref (rf 2)) (C := RX8) (T := TX8) (N := 35) hx hb hts hi9 hown hK hP 0 rfl rfl 1 (by decide) g13 (fun _ h9 => h9) rfl dX8_commonAncestor_102 ?_
              refine lv_iload_n hx hb dX8_commonAncestor_105 rfl (lv_at hl 2 rfl) ?_
              obtain ⟨hin, hw⟩ := hw
              refine va_iald hx hb hK hP 2 0 rfl rfl hin dX8_commonAncestor_106 ?_
              refine kcV (wc := [((rf 0), o8 rf f_terms_39 f_runs_39 f_leftAbove f_leftBelow f_rightAbove f_rightBelow f_listed f_fed f_read f_formed f_hasSnapshot), ((rf 3), ai cI 64 f_term_39), ((rf 4), ai cI 64 f_run_39), ((rf 5), ai cI 64 f_isRight_39)]) (wr := [((rf 1), ai cI 8 f_above), ((rf 2), ai cI 8 f_below), ((rf 12), ai cI 64 f_otherRun), ((rf 13), ai cI 64 f_otherRight)]) hP hD hS hA [0, 3, 4, 5] [1, 2, 6, 7] rfl rfl ⟨rfl, rfl, by decide⟩ (fun hPc hDc => rV (As := [.int (f_above v3.toNatClampNeg), .int (f_below v3.toNatClampNeg)]) (rest := []) C0 hK hN (c8_layRuns l D cI cJ cN cR rf H.size f_terms_39 f_runs_39 f_leftAbove f_leftBelow f_rightAbove f_rightBelow f_listed f_fed f_read f_formed f_hasSnapshot f_term_39 f_run_39 f_isRight_39 (f_above v3.toNatClampNeg) (f_below v3.toNatClampNeg) _ hw) 2 gX8_commonAncestor_X8_layRuns rfl ⟨rfl, rfl⟩ nm8_layRuns ⟨Nat.le_of_ble_eq_true rfl, Nat.le_of_ble_eq_true rfl⟩ (q0 := 0) rfl rfl rfl rfl hl.1 rfl (Nat.le_of_ble_eq_true rfl) dX8_commonAncestor_107 ⟨Nat.le_of_ble_eq_true rfl, Nat.le_of_ble_eq_true rfl⟩ hPc hDc) (fun u107 H locs hw hP hD hS => ?_)
              obtain ⟨f_terms_107, f_runs_107, f_term_107, f_run_107, f_isRight_107⟩ := u107
              dsimp only at hw
              have hP : va_P D vwCl [((rf 1), ai cI 8 f_above), ((rf 2), ai cI 8 f_below), ((rf 12), ai cI 64 f_otherRun), ((rf 13), ai cI 64 f_otherRight), ((rf 0), o8 rf f_terms_107 f_runs_107 f_leftAbove f_leftBelow f_rightAbove f_rightBelow f_listed f_fed f_read f_formed f_hasSnapshot), ((rf 3), ai cI 64 f_term_107), ((rf 4), ai cI 64 f_run_107), ((rf 5), ai cI 64 f_isRight_107)] H := hP
              have hD : va_D A [((rf 1), ai cI 8 f_above), ((rf 2), ai cI 8 f_below), ((rf 12), ai cI 64 f_otherRun), ((rf 13), ai cI 64 f_otherRight), ((rf 0), o8 rf f_terms_107 f_runs_107 f_leftAbove f_leftBelow f_rightAbove f_rightBelow f_listed f_fed f_read f_formed f_hasSnapshot), ((rf 3), ai cI 64 f_term_107), ((rf 4), ai cI 64 f_run_107), ((rf 5), ai cI 64 f_isRight_107)] := hD
              refine lv_iconst (v := (0 : Int32)) hx hb dX8_commonAncestor_110 (by decide) ?_
              refine lv_istore (lv' := [(5, .int (0 : Int32)), (0, .ref (rf 0)), (1, .int v1), (3, .int v3), (4, .int f_runs_39)]) hx hb dX8_commonAncestor_111 hl (by decide) rfl (fun ls hl => ?_)
              refine lv_iconst (v := (0 : Int32)) hx hb dX8_commonAncestor_113 (by decide) ?_
              refine lv_istore (lv' := [(6, .int (0 : Int32)), (5, .int (0 : Int32)), (0, .ref (rf 0)), (1, .int v1), (3, .int v3), (4, .int f_runs_39)]) hx hb dX8_commonAncestor_114 hl (by decide) rfl (fun ls hl => ?_)
              obtain ⟨n116, hw⟩ := hw
              have LOOP_116 : ∀ (n116 : Nat) (v5 : Int32) (v6 : Int32) (H : Heap) (locs : List Loc) (ls : Array Slot), w8_commonAncestor_L116 f_terms_107 f_runs_107 f_leftAbove f_leftBelow f_rightAbove f_rightBelow f_above f_below f_term_107 f_run_107 f_isRight_107 f_otherRun f_otherRight v1 f_runs_39 post n116 v5 v6 → va_P D vwCl [((rf 0), o8 rf f_terms_107 f_runs_107 f_leftAbove f_leftBelow f_rightAbove f_rightBelow f_listed f_fed f_read f_formed f_hasSnapshot), ((rf 1), ai cI 8 f_above), ((rf 2), ai cI 8 f_below), ((rf 3), ai cI 64 f_term_107), ((rf 4), ai cI 64 f_run_107), ((rf 5), ai cI 64 f_isRight_107), ((rf 12), ai cI 64 f_otherRun), ((rf 13), ai cI 64 f_otherRight)] H → va_D A [((rf 0), o8 rf f_terms_107 f_runs_107 f_leftAbove f_leftBelow f_rightAbove f_rightBelow f_listed f_fed f_read f_formed f_hasSnapshot), ((rf 1), ai cI 8 f_above), ((rf 2), ai cI 8 f_below), ((rf 3), ai cI 64 f_term_107), ((rf 4), ai cI 64 f_run_107), ((rf 5), ai cI 64 f_isRight_107), ((rf 12), ai cI 64 f_otherRun), ((rf 13), ai cI 64 f_otherRight)] → va_S A H0 H locs → lv_has ls 8 [(0, .ref (rf 0)), (1, .int v1), (4, .int f_runs_39), (5, .int v5), (6, .int v6)] → W p l e rm8_commonAncestor s m args below meth c H locs 0 0 Q (F0 m 116 ls []) := by
                clear hw hl hP hD hS
                intro n116
                induction n116 with
                | zero =>
                  intro v5 v6 H locs ls hw hP hD hS hl
                  rw [w8_commonAncestor_L116] at hw
                  exact hw.elim
                | succ n116 ih116 =>
                  intro v5 v6 H locs ls hw hP hD hS hl
                  rw [w8_commonAncestor_L116] at hw
                  have JOIN_183 : ∀ (v5 : Int32) (v6 : Int32) (s0 : Int32) (H : Heap) (locs : List Loc) (ls : Array Slot), w8_commonAncestor_J183 f_terms_107 f_runs_107 f_leftAbove f_leftBelow f_rightAbove f_rightBelow f_above f_below f_term_107 f_run_107 f_isRight_107 f_otherRun f_otherRight v1 f_runs_39 v5 v6 s0 post (fun z0 z1 => w8_commonAncestor_L116 f_terms_107 f_runs_107 f_leftAbove f_leftBelow f_rightAbove f_rightBelow f_above f_below f_term_107 f_run_107 f_isRight_107 f_otherRun f_otherRight v1 f_runs_39 post n116 z0 z1) → va_P D vwCl [((rf 0), o8 rf f_terms_107 f_runs_107 f_leftAbove f_leftBelow f_rightAbove f_rightBelow f_listed f_fed f_read f_formed f_hasSnapshot), ((rf 1), ai cI 8 f_above), ((rf 2), ai cI 8 f_below), ((rf 3), ai cI 64 f_term_107), ((rf 4), ai cI 64 f_run_107), ((rf 5), ai cI 64 f_isRight_107), ((rf 12), ai cI 64 f_otherRun), ((rf 13), ai cI 64 f_otherRight)] H → va_D A [((rf 0), o8 rf f_terms_107 f_runs_107 f_leftAbove f_leftBelow f_rightAbove f_rightBelow f_listed f_fed f_read f_formed f_hasSnapshot), ((rf 1), ai cI 8 f_above), ((rf 2), ai cI 8 f_below), ((rf 3), ai cI 64 f_term_107), ((rf 4), ai cI 64 f_run_107), ((rf 5), ai cI 64 f_isRight_107), ((rf 12), ai cI 64 f_otherRun), ((rf 13), ai cI 64 f_otherRight)] → va_S A H0 H locs → lv_has ls 8 [(0, .ref (rf 0)), (1, .int v1), (4, .int f_runs_39), (5, .int v5), (6, .int v6)] → W p l e rm8_commonAncestor s m args below meth c H locs 0 0 Q (F0 m 183 ls [.int s0]) := by
                    intro v5 v6 s0 H locs ls hw hP hD hS hl
                    unfold w8_commonAncestor_J183 at hw
                    refine lv_istore (lv' := [(7, .int s0), (0, .ref (rf 0)), (1, .int v1), (4, .int f_runs_39), (5, .int v5), (6, .int v6)]) hx hb dX8_commonAncestor_183 hl (by decide) rfl (fun ls hl => ?_)
                    refine lv_iload hx hb dX8_commonAncestor_185 (lv_at hl 4 rfl) ?_
                    refine lv_iload hx hb dX8_commonAncestor_187 (lv_at hl 0 rfl) ?_
                    refine lv_iadd hx hb dX8_commonAncestor_189 ?_
                    refine lv_topi (fun x190 ex190 => ?_)
                    have hw := hw x190 ex190
                    refine lv_istore (lv' := [(5, .int x190), (7, .int s0), (0, .ref (rf 0)), (1, .int v1), (4, .int f_runs_39), (6, .int v6)]) hx hb dX8_commonAncestor_190 hl (by decide) rfl (fun ls hl => ?_)
                    refine lv_aload_n hx hb dX8_commonAncestor_192 rfl (lv_at hl 2 rfl) ?_
                    refine va_get (D := D) (ci := 8) (v := .ref (rf 4)) (C := RX8) (T := TX8) (N := 35) hx hb hts hi9 hown hK hP 0 rfl rfl 3 (by decide) g19 (fun _ h9 => h9) rfl dX8_commonAncestor_193 ?_
                    refine lv_iload hx hb dX8_commonAncestor_196 (lv_at hl 5 rfl) ?_
                    obtain ⟨hin, hw⟩ := hw
                    refine va_iald hx hb hK hP 4 0 rfl rfl hin dX8_commonAncestor_198 ?_
                    refine lv_aload_n hx hb dX8_commonAncestor_199 rfl (lv_at hl 2 rfl) ?_
                    refine va_get (D := D) (ci := 8) (v := .ref (rf 12)) (C := RX8) (T := TX8) (N := 35) hx hb hts hi9 hown hK hP 0 rfl rfl 11 (by decide) g45 (fun _ h9 => h9) rfl dX8_commonAncestor_200 ?_
                    refine lv_iload hx hb dX8_commonAncestor_203 (lv_at hl 5 rfl) ?_
                    obtain ⟨hin, hw⟩ := hw
                    refine va_iald hx hb hK hP 6 0 rfl rfl hin dX8_commonAncestor_205 ?_
                    refine lv_icmp_eq (tgt := 212) hx hb dX8_commonAncestor_206 (by decide) (fun k => ?_) (fun k => ?_)
                    · have hw := hw.1 k
                      obtain ⟨x212, ex212⟩ : ∃ y : Int32, y = (v6 + (1 : Int32)) := ⟨_, rfl⟩
                      have hw := hw x212 ex212
                      refine lv_iinc (v := x212) (lv' := [(6, .int x212), (5, .int x190), (7, .int s0), (0, .ref (rf 0)), (1, .int v1), (4, .int f_runs_39)]) hx hb dX8_commonAncestor_212 hl (k := 5) rfl (by rw [ex212]; rfl) (by decide) rfl (fun ls hl => ?_)
                      refine lv_goto (tgt := 116) hx hb dX8_commonAncestor_215 (by decide) ?_
                      exact ih116 x190 x212 _ _ ls hw hP hD hS (lv_sub hl [3, 4, 5, 1, 0] rfl)
                    · have hw := hw.2 k
                      refine lv_goto (tgt := 218) hx hb dX8_commonAncestor_209 (by decide) ?_
                      exact JOIN_218 x190 f_terms_107 f_runs_107 f_leftAbove f_leftBelow f_rightAbove f_rightBelow f_above f_below f_term_107 f_run_107 f_isRight_107 f_otherRun f_otherRight _ _ ls hw hP hD hS (lv_sub hl [2, 3, 0] rfl)
                  refine lv_iload hx hb dX8_commonAncestor_116 (lv_at hl 4 rfl) ?_
                  refine lv_aload_n hx hb dX8_commonAncestor_118 rfl (lv_at hl 0 rfl) ?_
                  refine va_get (D := D) (ci := 8) (v := .int f_runs_107) (C := RX8) (T := TX8) (N := 35) hx hb hts hi9 hown hK hP 0 rfl rfl 6 (by decide) g29 (fun _ h9 => h9) rfl dX8_commonAncestor_119 ?_
                  refine lv_icmp_ge (tgt := 218) hx hb dX8_commonAncestor_122 (by decide) (fun k => ?_) (fun k => ?_)
                  · have hw := hw.1 k
                    exact JOIN_218 v5 f_terms_107 f_runs_107 f_leftAbove f_leftBelow f_rightAbove f_rightBelow f_above f_below f_term_107 f_run_107 f_isRight_107 f_otherRun f_otherRight _ _ ls hw hP hD hS (lv_sub hl [0, 1, 3] rfl)
                  · have hw := hw.2 k
                    refine lv_iload hx hb dX8_commonAncestor_125 (lv_at hl 4 rfl) ?_
                    refine lv_iload hx hb dX8_commonAncestor_127 (lv_at hl 2 rfl) ?_
                    refine lv_icmp_ge (tgt := 218) hx hb dX8_commonAncestor_129 (by decide) (fun k => ?_) (fun k => ?_)
                    · have hw := hw.1 k
                      exact JOIN_218 v5 f_terms_107 f_runs_107 f_leftAbove f_leftBelow f_rightAbove f_rightBelow f_above f_below f_term_107 f_run_107 f_isRight_107 f_otherRun f_otherRight _ _ ls hw hP hD hS (lv_sub hl [0, 1, 3] rfl)
                    · have hw := hw.2 k
                      refine lv_aload_n hx hb dX8_commonAncestor_132 rfl (lv_at hl 0 rfl) ?_
                      refine va_get (D := D) (ci := 8) (v := .ref (rf 5)) (C := RX8) (T := TX8) (N := 35) hx hb hts hi9 hown hK hP 0 rfl rfl 4 (by decide) g22 (fun _ h9 => h9) rfl dX8_commonAncestor_133 ?_
                      refine lv_iload hx hb dX8_commonAncestor_136 (lv_at hl 4 rfl) ?_
                      obtain ⟨hin, hw⟩ := hw
                      refine va_iald hx hb hK hP 5 0 rfl rfl hin dX8_commonAncestor_138 ?_
                      refine lv_aload_n hx hb dX8_commonAncestor_139 rfl (lv_at hl 0 rfl) ?_
                      refine va_get (D := D) (ci := 8) (v := .ref (rf 13)) (C := RX8) (T := TX8) (N := 35) hx hb hts hi9 hown hK hP 0 rfl rfl 12 (by decide) g48 (fun _ h9 => h9) rfl dX8_commonAncestor_140 ?_
                      refine lv_iload hx hb dX8_commonAncestor_143 (lv_at hl 4 rfl) ?_
                      obtain ⟨hin, hw⟩ := hw
                      refine va_iald hx hb hK hP 7 0 rfl rfl hin dX8_commonAncestor_145 ?_
                      refine lv_icmp_ne (tgt := 218) hx hb dX8_commonAncestor_146 (by decide) (fun k => ?_) (fun k => ?_)
                      · have hw := hw.1 k
                        exact JOIN_218 v5 f_terms_107 f_runs_107 f_leftAbove f_leftBelow f_rightAbove f_rightBelow f_above f_below f_term_107 f_run_107 f_isRight_107 f_otherRun f_otherRight _ _ ls hw hP hD hS (lv_sub hl [0, 1, 3] rfl)
                      · have hw := hw.2 k
                        refine lv_aload_n hx hb dX8_commonAncestor_149 rfl (lv_at hl 0 rfl) ?_
                        refine va_get (D := D) (ci := 8) (v := .ref (rf 4)) (C := RX8) (T := TX8) (N := 35) hx hb hts hi9 hown hK hP 0 rfl rfl 3 (by decide) g19 (fun _ h9 => h9) rfl dX8_commonAncestor_150 ?_
                        refine lv_iload hx hb dX8_commonAncestor_153 (lv_at hl 4 rfl) ?_
                        obtain ⟨hin, hw⟩ := hw
                        refine va_iald hx hb hK hP 4 0 rfl rfl hin dX8_commonAncestor_155 ?_
                        refine lv_aload_n hx hb dX8_commonAncestor_156 rfl (lv_at hl 0 rfl) ?_
                        refine va_get (D := D) (ci := 8) (v := .ref (rf 12)) (C := RX8) (T := TX8) (N := 35) hx hb hts hi9 hown hK hP 0 rfl rfl 11 (by decide) g45 (fun _ h9 => h9) rfl dX8_commonAncestor_157 ?_
                        refine lv_iload hx hb dX8_commonAncestor_160 (lv_at hl 4 rfl) ?_
                        obtain ⟨hin, hw⟩ := hw
                        refine va_iald hx hb hK hP 6 0 rfl rfl hin dX8_commonAncestor_162 ?_
                        refine lv_icmp_ge (tgt := 176) hx hb dX8_commonAncestor_163 (by decide) (fun k => ?_) (fun k => ?_)
                        · have hw := hw.1 k
                          refine lv_aload_n hx hb dX8_commonAncestor_176 rfl (lv_at hl 0 rfl) ?_
                          refine va_get (D := D) (ci := 8) (v := .ref (rf 12)) (C := RX8) (T := TX8) (N := 35) hx hb hts hi9 hown hK hP 0 rfl rfl 11 (by decide) g45 (fun _ h9 => h9) rfl dX8_commonAncestor_177 ?_
                          refine lv_iload hx hb dX8_commonAncestor_180 (lv_at hl 4 rfl) ?_
                          obtain ⟨hin, hw⟩ := hw
                          refine va_iald hx hb hK hP 6 0 rfl rfl hin dX8_commonAncestor_182 ?_
                          exact JOIN_183 v5 v6 (f_otherRun v6.toNatClampNeg) _ _ ls hw hP hD hS (lv_sub hl [0, 1, 2, 3, 4] rfl)
                        · have hw := hw.2 k
                          refine lv_aload_n hx hb dX8_commonAncestor_166 rfl (lv_at hl 0 rfl) ?_
                          refine va_get (D := D) (ci := 8) (v := .ref (rf 4)) (C := RX8) (T := TX8) (N := 35) hx hb hts hi9 hown hK hP 0 rfl rfl 3 (by decide) g19 (fun _ h9 => h9) rfl dX8_commonAncestor_167 ?_
                          refine lv_iload hx hb dX8_commonAncestor_170 (lv_at hl 4 rfl) ?_
                          obtain ⟨hin, hw⟩ := hw
                          refine va_iald hx hb hK hP 4 0 rfl rfl hin dX8_commonAncestor_172 ?_
                          refine lv_goto (tgt := 183) hx hb dX8_commonAncestor_173 (by decide) ?_
                          exact JOIN_183 v5 v6 (f_run_107 v6.toNatClampNeg) _ _ ls hw hP hD hS (lv_sub hl [0, 1, 2, 3, 4] rfl)
              obtain ⟨hP, hD⟩ := k_sub (ws' := [((rf 0), o8 rf f_terms_107 f_runs_107 f_leftAbove f_leftBelow f_rightAbove f_rightBelow f_listed f_fed f_read f_formed f_hasSnapshot), ((rf 1), ai cI 8 f_above), ((rf 2), ai cI 8 f_below), ((rf 3), ai cI 64 f_term_107), ((rf 4), ai cI 64 f_run_107), ((rf 5), ai cI 64 f_isRight_107), ((rf 12), ai cI 64 f_otherRun), ((rf 13), ai cI 64 f_otherRight)]) hP hD [4, 0, 1, 5, 6, 7, 2, 3] rfl rfl
              exact LOOP_116 n116 (0 : Int32) (0 : Int32) _ _ ls hw hP hD hS (lv_sub hl [2, 3, 5, 1, 0] rfl)
            · have hw := hw.2 k
              refine lv_aload_n hx hb dX8_commonAncestor_60 rfl (lv_at hl 0 rfl) ?_
              refine va_get (D := D) (ci := 8) (v := .ref (rf 12)) (C := RX8) (T := TX8) (N := 35) hx hb hts hi9 hown hK hP 0 rfl rfl 11 (by decide) g45 (fun _ h9 => h9) rfl dX8_commonAncestor_61 ?_
              refine lv_iload hx hb dX8_commonAncestor_64 (lv_at hl 4 rfl) ?_
              refine lv_aload_n hx hb dX8_commonAncestor_66 rfl (lv_at hl 0 rfl) ?_
              refine va_get (D := D) (ci := 8) (v := .ref (rf 4)) (C := RX8) (T := TX8) (N := 35) hx hb hts hi9 hown hK hP 0 rfl rfl 3 (by decide) g19 (fun _ h9 => h9) rfl dX8_commonAncestor_67 ?_
              refine lv_iload hx hb dX8_commonAncestor_70 (lv_at hl 4 rfl) ?_
              obtain ⟨hin, hw⟩ := hw
              refine va_iald hx hb hK hP 4 0 rfl rfl hin dX8_commonAncestor_72 ?_
              obtain ⟨hin, hw⟩ := hw
              refine va_iast hx hb hK hP hD hS 6 0 rfl rfl hin dX8_commonAncestor_73 (fun H locs hP hD hS => ?_)
              have hP : va_P D vwCl [((rf 0), o8 rf f_terms_39 f_runs_39 f_leftAbove f_leftBelow f_rightAbove f_rightBelow f_listed f_fed f_read f_formed f_hasSnapshot), ((rf 1), ai cI 8 f_above), ((rf 2), ai cI 8 f_below), ((rf 3), ai cI 64 f_term_39), ((rf 4), ai cI 64 f_run_39), ((rf 5), ai cI 64 f_isRight_39), ((rf 12), ai cI 64 (upd f_otherRun v5.toNatClampNeg (f_run_39 v5.toNatClampNeg))), ((rf 13), ai cI 64 f_otherRight)] H := hP
              have hD : va_D A [((rf 0), o8 rf f_terms_39 f_runs_39 f_leftAbove f_leftBelow f_rightAbove f_rightBelow f_listed f_fed f_read f_formed f_hasSnapshot), ((rf 1), ai cI 8 f_above), ((rf 2), ai cI 8 f_below), ((rf 3), ai cI 64 f_term_39), ((rf 4), ai cI 64 f_run_39), ((rf 5), ai cI 64 f_isRight_39), ((rf 12), ai cI 64 (upd f_otherRun v5.toNatClampNeg (f_run_39 v5.toNatClampNeg))), ((rf 13), ai cI 64 f_otherRight)] := hD
              refine lv_aload_n hx hb dX8_commonAncestor_74 rfl (lv_at hl 0 rfl) ?_
              refine va_get (D := D) (ci := 8) (v := .ref (rf 13)) (C := RX8) (T := TX8) (N := 35) hx hb hts hi9 hown hK hP 0 rfl rfl 12 (by decide) g48 (fun _ h9 => h9) rfl dX8_commonAncestor_75 ?_
              refine lv_iload hx hb dX8_commonAncestor_78 (lv_at hl 4 rfl) ?_
              refine lv_aload_n hx hb dX8_commonAncestor_80 rfl (lv_at hl 0 rfl) ?_
              refine va_get (D := D) (ci := 8) (v := .ref (rf 5)) (C := RX8) (T := TX8) (N := 35) hx hb hts hi9 hown hK hP 0 rfl rfl 4 (by decide) g22 (fun _ h9 => h9) rfl dX8_commonAncestor_81 ?_
              refine lv_iload hx hb dX8_commonAncestor_84 (lv_at hl 4 rfl) ?_
              obtain ⟨hin, hw⟩ := hw
              refine va_iald hx hb hK hP 5 0 rfl rfl hin dX8_commonAncestor_86 ?_
              obtain ⟨hin, hw⟩ := hw
              refine va_iast hx hb hK hP hD hS 7 0 rfl rfl hin dX8_commonAncestor_87 (fun H locs hP hD hS => ?_)
              have hP : va_P D vwCl [((rf 0), o8 rf f_terms_39 f_runs_39 f_leftAbove f_leftBelow f_rightAbove f_rightBelow f_listed f_fed f_read f_formed f_hasSnapshot), ((rf 1), ai cI 8 f_above), ((rf 2), ai cI 8 f_below), ((rf 3), ai cI 64 f_term_39), ((rf 4), ai cI 64 f_run_39), ((rf 5), ai cI 64 f_isRight_39), ((rf 12), ai cI 64 (upd f_otherRun v5.toNatClampNeg (f_run_39 v5.toNatClampNeg))), ((rf 13), ai cI 64 (upd f_otherRight v5.toNatClampNeg (f_isRight_39 v5.toNatClampNeg)))] H := hP
              have hD : va_D A [((rf 0), o8 rf f_terms_39 f_runs_39 f_leftAbove f_leftBelow f_rightAbove f_rightBelow f_listed f_fed f_read f_formed f_hasSnapshot), ((rf 1), ai cI 8 f_above), ((rf 2), ai cI 8 f_below), ((rf 3), ai cI 64 f_term_39), ((rf 4), ai cI 64 f_run_39), ((rf 5), ai cI 64 f_isRight_39), ((rf 12), ai cI 64 (upd f_otherRun v5.toNatClampNeg (f_run_39 v5.toNatClampNeg))), ((rf 13), ai cI 64 (upd f_otherRight v5.toNatClampNeg (f_isRight_39 v5.toNatClampNeg)))] := hD
              obtain ⟨x88, ex88⟩ : ∃ y : Int32, y = (v5 + (1 : Int32)) := ⟨_, rfl⟩
              have hw := hw x88 ex88
              refine lv_iinc (v := x88) (lv' := [(5, .int x88), (0, .ref (rf 0)), (1, .int v1), (3, .int v3), (4, .int f_runs_39)]) hx hb dX8_commonAncestor_88 hl (k := 4) rfl (by rw [ex88]; rfl) (by decide) rfl (fun ls hl => ?_)
              refine lv_goto (tgt := 51) hx hb dX8_commonAncestor_91 (by decide) ?_
              exact ih51 x88 (upd f_otherRun v5.toNatClampNeg (f_run_39 v5.toNatClampNeg)) (upd f_otherRight v5.toNatClampNeg (f_isRight_39 v5.toNatClampNeg)) _ _ ls hw hP hD hS (lv_sub hl [1, 2, 3, 4, 0] rfl)
        obtain ⟨hP, hD⟩ := k_sub (ws' := [((rf 0), o8 rf f_terms_39 f_runs_39 f_leftAbove f_leftBelow f_rightAbove f_rightBelow f_listed f_fed f_read f_formed f_hasSnapshot), ((rf 1), ai cI 8 f_above), ((rf 2), ai cI 8 f_below), ((rf 3), ai cI 64 f_term_39), ((rf 4), ai cI 64 f_run_39), ((rf 5), ai cI 64 f_isRight_39), ((rf 12), ai cI 64 f_otherRun), ((rf 13), ai cI 64 f_otherRight)]) hP hD [4, 0, 1, 5, 6, 7, 2, 3] rfl rfl
        exact LOOP_51 n51 (0 : Int32) f_otherRun f_otherRight _ _ ls hw hP hD hS (lv_sub hl [2, 3, 5, 1, 0] rfl)
      · have hw := hw.2 k
        refine lv_iconst (v := (-1 : Int32)) hx hb dX8_commonAncestor_24 (by decide) ?_
        exact RET _ _ _ (f_terms, f_runs, f_leftAbove, f_leftBelow, f_rightAbove, f_rightBelow, f_above, f_below, f_term, f_run, f_isRight, f_otherRun, f_otherRight) _ _ hw hP hD hS dX8_commonAncestor_25
abbrev rm8_termCount : Room := { frames := 2, cells := 0, slots := 0, locals := 46 }
theorem nm8_termCount : kNm yX8_termCount 1 := by decide +kernel
set_option maxHeartbeats 4000000 in
set_option maxRecDepth 100000 in
theorem c8_termCount (l : Launch) (D : va_G) (cI cJ cN cR : ClassId) (rf : Nat → Nat) (sz : Nat) (f_terms : Int32) (f_runs : Int32) (f_leftAbove : Int64) (f_leftBelow : Int64) (f_rightAbove : Int64) (f_rightBelow : Int64) (f_listed : Int32) (f_fed : Int32) (f_read : Int32) (f_formed : Int32) (f_hasSnapshot : Int32) (f_above : (Nat → Int32)) (f_below : (Nat → Int32)) (f_term : (Nat → Int32)) (v1 : Int32) (post : Int32 → Int32 → (Nat → Int32) → Prop) (hw : w8_termCount f_terms f_above f_below f_term v1 post) : Met l yX8_termCount wsX8_termCount rm8_termCount (kP D (kT cI cJ cN cR) sz [.ref (rf 0), .int v1] [((rf 0), o8 rf f_terms f_runs f_leftAbove f_leftBelow f_rightAbove f_rightBelow f_listed f_fed f_read f_formed f_hasSnapshot), ((rf 1), ai cI 8 f_above), ((rf 2), ai cI 8 f_below), ((rf 3), ai cI 64 f_term)]) (kQi D [((rf 0), o8 rf f_terms f_runs f_leftAbove f_leftBelow f_rightAbove f_rightBelow f_listed f_fed f_read f_formed f_hasSnapshot), ((rf 1), ai cI 8 f_above), ((rf 2), ai cI 8 f_below), ((rf 3), ai cI 64 f_term)] sz (fun (r : Int32) (u : Int32 × (Nat → Int32)) => post r u.1 u.2) (fun (u : Int32 × (Nat → Int32)) => [((rf 0), o8 rf u.1 f_runs f_leftAbove f_leftBelow f_rightAbove f_rightBelow f_listed f_fed f_read f_formed f_hasSnapshot), ((rf 1), ai cI 8 f_above), ((rf 2), ai cI 8 f_below), ((rf 3), ai cI 64 u.2)])) 0 0 (va_A [((rf 0), o8 rf f_terms f_runs f_leftAbove f_leftBelow f_rightAbove f_rightBelow f_listed f_fed f_read f_formed f_hasSnapshot), ((rf 1), ai cI 8 f_above), ((rf 2), ai cI 8 f_below), ((rf 3), ai cI 64 f_term)] sz) := by
  refine kMetI (cc := cX8_termCount) (maxL := 2) (by decide +kernel) rfl (Nat.le_of_ble_eq_true rfl) ?_
  intro p e s m args below meth c H0 ls A Q C0 hK hN hP hD hS hA hl RET
  obtain ⟨hx, hb, hml, hown, hts⟩ := id C0
  have hl : lv_has ls 2 [(0, .ref (rf 0)), (1, .int v1)] := hl
  have g7 := hts (.fieldLink RX8 7 "SternBrocotExplorerModel" "above" "[I") (by decide +kernel)
  have g13 := hts (.fieldLink RX8 13 "SternBrocotExplorerModel" "below" "[I") (by decide +kernel)
  have g25 := hts (.fieldLink RX8 25 "SternBrocotExplorerModel" "terms" "I") (by decide +kernel)
  have hi9 : ∀ w ∈ wsX80, w ∈ wsX8_termCount := fun w h => List.mem_cons_of_mem _ (List.mem_append_right _ h)
  unfold w8_termCount at hw
  have hP : va_P D vwCl [((rf 0), o8 rf f_terms f_runs f_leftAbove f_leftBelow f_rightAbove f_rightBelow f_listed f_fed f_read f_formed f_hasSnapshot), ((rf 1), ai cI 8 f_above), ((rf 2), ai cI 8 f_below), ((rf 3), ai cI 64 f_term)] H0 := hP
  refine lv_aload_n hx hb dX8_termCount_0 rfl (lv_at hl 0 rfl) ?_
  refine lv_iload_n hx hb dX8_termCount_1 rfl (lv_at hl 1 rfl) ?_
  refine kcRI (wc := [((rf 0), o8 rf f_terms f_runs f_leftAbove f_leftBelow f_rightAbove f_rightBelow f_listed f_fed f_read f_formed f_hasSnapshot)]) hP [0] rfl (fun hPc => oV (As := [.int v1]) (rest := []) C0 hK hN (c8_isRegister l D cI cJ cN cR rf f_terms f_runs f_leftAbove f_leftBelow f_rightAbove f_rightBelow f_listed f_fed f_read f_formed f_hasSnapshot v1 _ hw) 1 gX8_termCount_X8_isRegister rfl ⟨rfl, rfl⟩ nm8_isRegister ⟨Nat.le_of_ble_eq_true rfl, Nat.le_of_ble_eq_true rfl⟩ (q0 := 0) rfl rfl rfl rfl hl.1 rfl (Nat.le_of_ble_eq_true rfl) dX8_termCount_2 ⟨Nat.le_of_ble_eq_true rfl, Nat.le_of_ble_eq_true rfl⟩ hPc) (fun r2 hw => ?_)
  obtain ⟨nb2, hw⟩ := hw
  refine lv_if_ne (tgt := 10) hx hb dX8_termCount_5 (by decide) (fun k => ?_) (fun k => ?_)
  · have hw := hw.1 k
    refine lv_aload_n hx hb dX8_termCount_10 rfl (lv_at hl 0 rfl) ?_
    refine lv_aload_n hx hb dX8_termCount_11 rfl (lv_at hl 0 rfl) ?_
    refine va_get (D := D) (ci := 8) (v := .ref (rf 1)) (C := RX8) (T := TX8) (N := 35) hx hb hts hi9 hown hK hP 0 rfl rfl 0 (by decide) g7 (fun _ h9 => h9) rfl dX8_termCount_12 ?_
    refine lv_iload_n hx hb dX8_termCount_15 rfl (lv_at hl 1 rfl) ?_
    obtain ⟨hin, hw⟩ := hw
    refine va_iald hx hb hK hP 1 0 rfl rfl hin dX8_termCount_16 ?_
    refine lv_aload_n hx hb dX8_termCount_17 rfl (lv_at hl 0 rfl) ?_
    refine va_get (D := D) (ci := 8) (v := .ref (rf 2)) (C := RX8) (T := TX8) (N := 35) hx hb hts hi9 hown hK hP 0 rfl rfl 1 (by decide) g13 (fun _ h9 => h9) rfl dX8_termCount_18 ?_
    refine lv_iload_n hx hb dX8_termCount_21 rfl (lv_at hl 1 rfl) ?_
    obtain ⟨hin, hw⟩ := hw
    refine va_iald hx hb hK hP 2 0 rfl rfl hin dX8_termCount_22 ?_
    refine kcV (wc := [((rf 0), o8 rf f_terms f_runs f_leftAbove f_leftBelow f_rightAbove f_rightBelow f_listed f_fed f_read f_formed f_hasSnapshot), ((rf 3), ai cI 64 f_term)]) (wr := [((rf 1), ai cI 8 f_above), ((rf 2), ai cI 8 f_below)]) hP hD hS hA [0, 3] [1, 2] rfl rfl ⟨rfl, rfl, by decide⟩ (fun hPc hDc => rV (As := [.int (f_above v1.toNatClampNeg), .int (f_below v1.toNatClampNeg)]) (rest := []) C0 hK hN (c8_layTerms l D cI cJ cN cR rf H0.size f_terms f_runs f_leftAbove f_leftBelow f_rightAbove f_rightBelow f_listed f_fed f_read f_formed f_hasSnapshot f_term (f_above v1.toNatClampNeg) (f_below v1.toNatClampNeg) _ hw) 2 gX8_termCount_X8_layTerms rfl ⟨rfl, rfl⟩ nm8_layTerms ⟨Nat.le_of_ble_eq_true rfl, Nat.le_of_ble_eq_true rfl⟩ (q0 := 0) rfl rfl rfl rfl hl.1 rfl (Nat.le_of_ble_eq_true rfl) dX8_termCount_23 ⟨Nat.le_of_ble_eq_true rfl, Nat.le_of_ble_eq_true rfl⟩ hPc hDc) (fun u23 H locs hw hP hD hS => ?_)
    obtain ⟨f_terms_23, f_term_23⟩ := u23
    dsimp only at hw
    have hP : va_P D vwCl [((rf 1), ai cI 8 f_above), ((rf 2), ai cI 8 f_below), ((rf 0), o8 rf f_terms_23 f_runs f_leftAbove f_leftBelow f_rightAbove f_rightBelow f_listed f_fed f_read f_formed f_hasSnapshot), ((rf 3), ai cI 64 f_term_23)] H := hP
    have hD : va_D A [((rf 1), ai cI 8 f_above), ((rf 2), ai cI 8 f_below), ((rf 0), o8 rf f_terms_23 f_runs f_leftAbove f_leftBelow f_rightAbove f_rightBelow f_listed f_fed f_read f_formed f_hasSnapshot), ((rf 3), ai cI 64 f_term_23)] := hD
    refine lv_aload_n hx hb dX8_termCount_26 rfl (lv_at hl 0 rfl) ?_
    refine va_get (D := D) (ci := 8) (v := .int f_terms_23) (C := RX8) (T := TX8) (N := 35) hx hb hts hi9 hown hK hP 2 rfl rfl 5 (by decide) g25 (fun _ h9 => h9) rfl dX8_termCount_27 ?_
    obtain ⟨hP, hD⟩ := k_sub (ws' := [((rf 0), o8 rf f_terms_23 f_runs f_leftAbove f_leftBelow f_rightAbove f_rightBelow f_listed f_fed f_read f_formed f_hasSnapshot), ((rf 1), ai cI 8 f_above), ((rf 2), ai cI 8 f_below), ((rf 3), ai cI 64 f_term_23)]) hP hD [2, 0, 1, 3] rfl rfl
    exact RET _ _ _ (f_terms_23, f_term_23) _ _ hw hP hD hS dX8_termCount_30
  · have hw := hw.2 k
    refine lv_iconst (v := (-1 : Int32)) hx hb dX8_termCount_8 (by decide) ?_
    exact RET _ _ _ (f_terms, f_term) _ _ hw hP hD hS dX8_termCount_9
abbrev rm8_term : Room := { frames := 2, cells := 0, slots := 0, locals := 46 }
theorem nm8_term : kNm yX8_term 2 := by decide +kernel
set_option maxHeartbeats 4000000 in
set_option maxRecDepth 100000 in
theorem c8_term (l : Launch) (D : va_G) (cI cJ cN cR : ClassId) (rf : Nat → Nat) (sz : Nat) (f_terms : Int32) (f_runs : Int32) (f_leftAbove : Int64) (f_leftBelow : Int64) (f_rightAbove : Int64) (f_rightBelow : Int64) (f_listed : Int32) (f_fed : Int32) (f_read : Int32) (f_formed : Int32) (f_hasSnapshot : Int32) (f_above : (Nat → Int32)) (f_below : (Nat → Int32)) (f_term : (Nat → Int32)) (v1 : Int32) (v2 : Int32) (post : Int32 → Int32 → (Nat → Int32) → Prop) (hw : w8_term f_terms f_above f_below f_term v1 v2 post) : Met l yX8_term wsX8_term rm8_term (kP D (kT cI cJ cN cR) sz [.ref (rf 0), .int v1, .int v2] [((rf 0), o8 rf f_terms f_runs f_leftAbove f_leftBelow f_rightAbove f_rightBelow f_listed f_fed f_read f_formed f_hasSnapshot), ((rf 1), ai cI 8 f_above), ((rf 2), ai cI 8 f_below), ((rf 3), ai cI 64 f_term)]) (kQi D [((rf 0), o8 rf f_terms f_runs f_leftAbove f_leftBelow f_rightAbove f_rightBelow f_listed f_fed f_read f_formed f_hasSnapshot), ((rf 1), ai cI 8 f_above), ((rf 2), ai cI 8 f_below), ((rf 3), ai cI 64 f_term)] sz (fun (r : Int32) (u : Int32 × (Nat → Int32)) => post r u.1 u.2) (fun (u : Int32 × (Nat → Int32)) => [((rf 0), o8 rf u.1 f_runs f_leftAbove f_leftBelow f_rightAbove f_rightBelow f_listed f_fed f_read f_formed f_hasSnapshot), ((rf 1), ai cI 8 f_above), ((rf 2), ai cI 8 f_below), ((rf 3), ai cI 64 u.2)])) 0 0 (va_A [((rf 0), o8 rf f_terms f_runs f_leftAbove f_leftBelow f_rightAbove f_rightBelow f_listed f_fed f_read f_formed f_hasSnapshot), ((rf 1), ai cI 8 f_above), ((rf 2), ai cI 8 f_below), ((rf 3), ai cI 64 f_term)] sz) := by
  refine kMetI (cc := cX8_term) (maxL := 3) (by decide +kernel) rfl (Nat.le_of_ble_eq_true rfl) ?_
  intro p e s m args below meth c H0 ls A Q C0 hK hN hP hD hS hA hl RET
  obtain ⟨hx, hb, hml, hown, hts⟩ := id C0
  have hl : lv_has ls 3 [(0, .ref (rf 0)), (1, .int v1), (2, .int v2)] := hl
  have g7 := hts (.fieldLink RX8 7 "SternBrocotExplorerModel" "above" "[I") (by decide +kernel)
  have g13 := hts (.fieldLink RX8 13 "SternBrocotExplorerModel" "below" "[I") (by decide +kernel)
  have g25 := hts (.fieldLink RX8 25 "SternBrocotExplorerModel" "terms" "I") (by decide +kernel)
  have g16 := hts (.fieldLink RX8 16 "SternBrocotExplorerModel" "term" "[I") (by decide +kernel)
  have hi9 : ∀ w ∈ wsX80, w ∈ wsX8_term := fun w h => List.mem_cons_of_mem _ (List.mem_append_right _ h)
  unfold w8_term at hw
  have hP : va_P D vwCl [((rf 0), o8 rf f_terms f_runs f_leftAbove f_leftBelow f_rightAbove f_rightBelow f_listed f_fed f_read f_formed f_hasSnapshot), ((rf 1), ai cI 8 f_above), ((rf 2), ai cI 8 f_below), ((rf 3), ai cI 64 f_term)] H0 := hP
  refine lv_aload_n hx hb dX8_term_0 rfl (lv_at hl 0 rfl) ?_
  refine lv_iload_n hx hb dX8_term_1 rfl (lv_at hl 1 rfl) ?_
  refine kcRI (wc := [((rf 0), o8 rf f_terms f_runs f_leftAbove f_leftBelow f_rightAbove f_rightBelow f_listed f_fed f_read f_formed f_hasSnapshot)]) hP [0] rfl (fun hPc => oV (As := [.int v1]) (rest := []) C0 hK hN (c8_isRegister l D cI cJ cN cR rf f_terms f_runs f_leftAbove f_leftBelow f_rightAbove f_rightBelow f_listed f_fed f_read f_formed f_hasSnapshot v1 _ hw) 1 gX8_term_X8_isRegister rfl ⟨rfl, rfl⟩ nm8_isRegister ⟨Nat.le_of_ble_eq_true rfl, Nat.le_of_ble_eq_true rfl⟩ (q0 := 0) rfl rfl rfl rfl hl.1 rfl (Nat.le_of_ble_eq_true rfl) dX8_term_2 ⟨Nat.le_of_ble_eq_true rfl, Nat.le_of_ble_eq_true rfl⟩ hPc) (fun r2 hw => ?_)
  obtain ⟨nb2, hw⟩ := hw
  refine lv_if_eq (tgt := 12) hx hb dX8_term_5 (by decide) (fun k => ?_) (fun k => ?_)
  · have hw := hw.1 k
    refine lv_iconst (v := (-1 : Int32)) hx hb dX8_term_12 (by decide) ?_
    exact RET _ _ _ (f_terms, f_term) _ _ hw hP hD hS dX8_term_13
  · have hw := hw.2 k
    refine lv_iload_n hx hb dX8_term_8 rfl (lv_at hl 2 rfl) ?_
    refine lv_if_ge (tgt := 14) hx hb dX8_term_9 (by decide) (fun k => ?_) (fun k => ?_)
    · have hw := hw.1 k
      refine lv_aload_n hx hb dX8_term_14 rfl (lv_at hl 0 rfl) ?_
      refine lv_aload_n hx hb dX8_term_15 rfl (lv_at hl 0 rfl) ?_
      refine va_get (D := D) (ci := 8) (v := .ref (rf 1)) (C := RX8) (T := TX8) (N := 35) hx hb hts hi9 hown hK hP 0 rfl rfl 0 (by decide) g7 (fun _ h9 => h9) rfl dX8_term_16 ?_
      refine lv_iload_n hx hb dX8_term_19 rfl (lv_at hl 1 rfl) ?_
      obtain ⟨hin, hw⟩ := hw
      refine va_iald hx hb hK hP 1 0 rfl rfl hin dX8_term_20 ?_
      refine lv_aload_n hx hb dX8_term_21 rfl (lv_at hl 0 rfl) ?_
      refine va_get (D := D) (ci := 8) (v := .ref (rf 2)) (C := RX8) (T := TX8) (N := 35) hx hb hts hi9 hown hK hP 0 rfl rfl 1 (by decide) g13 (fun _ h9 => h9) rfl dX8_term_22 ?_
      refine lv_iload_n hx hb dX8_term_25 rfl (lv_at hl 1 rfl) ?_
      obtain ⟨hin, hw⟩ := hw
      refine va_iald hx hb hK hP 2 0 rfl rfl hin dX8_term_26 ?_
      refine kcV (wc := [((rf 0), o8 rf f_terms f_runs f_leftAbove f_leftBelow f_rightAbove f_rightBelow f_listed f_fed f_read f_formed f_hasSnapshot), ((rf 3), ai cI 64 f_term)]) (wr := [((rf 1), ai cI 8 f_above), ((rf 2), ai cI 8 f_below)]) hP hD hS hA [0, 3] [1, 2] rfl rfl ⟨rfl, rfl, by decide⟩ (fun hPc hDc => rV (As := [.int (f_above v1.toNatClampNeg), .int (f_below v1.toNatClampNeg)]) (rest := []) C0 hK hN (c8_layTerms l D cI cJ cN cR rf H0.size f_terms f_runs f_leftAbove f_leftBelow f_rightAbove f_rightBelow f_listed f_fed f_read f_formed f_hasSnapshot f_term (f_above v1.toNatClampNeg) (f_below v1.toNatClampNeg) _ hw) 2 gX8_term_X8_layTerms rfl ⟨rfl, rfl⟩ nm8_layTerms ⟨Nat.le_of_ble_eq_true rfl, Nat.le_of_ble_eq_true rfl⟩ (q0 := 0) rfl rfl rfl rfl hl.1 rfl (Nat.le_of_ble_eq_true rfl) dX8_term_27 ⟨Nat.le_of_ble_eq_true rfl, Nat.le_of_ble_eq_true rfl⟩ hPc hDc) (fun u27 H locs hw hP hD hS => ?_)
      obtain ⟨f_terms_27, f_term_27⟩ := u27
      dsimp only at hw
      have hP : va_P D vwCl [((rf 1), ai cI 8 f_above), ((rf 2), ai cI 8 f_below), ((rf 0), o8 rf f_terms_27 f_runs f_leftAbove f_leftBelow f_rightAbove f_rightBelow f_listed f_fed f_read f_formed f_hasSnapshot), ((rf 3), ai cI 64 f_term_27)] H := hP
      have hD : va_D A [((rf 1), ai cI 8 f_above), ((rf 2), ai cI 8 f_below), ((rf 0), o8 rf f_terms_27 f_runs f_leftAbove f_leftBelow f_rightAbove f_rightBelow f_listed f_fed f_read f_formed f_hasSnapshot), ((rf 3), ai cI 64 f_term_27)] := hD
      refine lv_iload_n hx hb dX8_term_30 rfl (lv_at hl 2 rfl) ?_
      refine lv_aload_n hx hb dX8_term_31 rfl (lv_at hl 0 rfl) ?_
      refine va_get (D := D) (ci := 8) (v := .int f_terms_27) (C := RX8) (T := TX8) (N := 35) hx hb hts hi9 hown hK hP 2 rfl rfl 5 (by decide) g25 (fun _ h9 => h9) rfl dX8_term_32 ?_
      refine lv_icmp_ge (tgt := 47) hx hb dX8_term_35 (by decide) (fun k => ?_) (fun k => ?_)
      · have hw := hw.1 k
        refine lv_bipush (v := (-2 : Int32)) hx hb dX8_term_47 (by decide) ?_
        obtain ⟨hP, hD⟩ := k_sub (ws' := [((rf 0), o8 rf f_terms_27 f_runs f_leftAbove f_leftBelow f_rightAbove f_rightBelow f_listed f_fed f_read f_formed f_hasSnapshot), ((rf 1), ai cI 8 f_above), ((rf 2), ai cI 8 f_below), ((rf 3), ai cI 64 f_term_27)]) hP hD [2, 0, 1, 3] rfl rfl
        exact RET _ _ _ (f_terms_27, f_term_27) _ _ hw hP hD hS dX8_term_49
      · have hw := hw.2 k
        refine lv_aload_n hx hb dX8_term_38 rfl (lv_at hl 0 rfl) ?_
        refine va_get (D := D) (ci := 8) (v := .ref (rf 3)) (C := RX8) (T := TX8) (N := 35) hx hb hts hi9 hown hK hP 2 rfl rfl 2 (by decide) g16 (fun _ h9 => h9) rfl dX8_term_39 ?_
        refine lv_iload_n hx hb dX8_term_42 rfl (lv_at hl 2 rfl) ?_
        obtain ⟨hin, hw⟩ := hw
        refine va_iald hx hb hK hP 3 0 rfl rfl hin dX8_term_43 ?_
        refine lv_goto (tgt := 49) hx hb dX8_term_44 (by decide) ?_
        obtain ⟨hP, hD⟩ := k_sub (ws' := [((rf 0), o8 rf f_terms_27 f_runs f_leftAbove f_leftBelow f_rightAbove f_rightBelow f_listed f_fed f_read f_formed f_hasSnapshot), ((rf 1), ai cI 8 f_above), ((rf 2), ai cI 8 f_below), ((rf 3), ai cI 64 f_term_27)]) hP hD [2, 0, 1, 3] rfl rfl
        exact RET _ _ _ (f_terms_27, f_term_27) _ _ hw hP hD hS dX8_term_49
    · have hw := hw.2 k
      refine lv_iconst (v := (-1 : Int32)) hx hb dX8_term_12 (by decide) ?_
      exact RET _ _ _ (f_terms, f_term) _ _ hw hP hD hS dX8_term_13
abbrev rm8_convergent : Room := { frames := 2, cells := 0, slots := 0, locals := 57 }
theorem nm8_convergent : kNm yX8_convergent 3 := by decide +kernel
set_option maxHeartbeats 4000000 in
set_option maxRecDepth 100000 in
theorem c8_convergent (l : Launch) (D : va_G) (cI cJ cN cR : ClassId) (rf : Nat → Nat) (sz : Nat) (f_terms : Int32) (f_runs : Int32) (f_leftAbove : Int64) (f_leftBelow : Int64) (f_rightAbove : Int64) (f_rightBelow : Int64) (f_listed : Int32) (f_fed : Int32) (f_read : Int32) (f_formed : Int32) (f_hasSnapshot : Int32) (f_above : (Nat → Int32)) (f_below : (Nat → Int32)) (f_term : (Nat → Int32)) (v1 : Int32) (v2 : Int32) (v3 : Int32) (post : Int32 → Int32 → (Nat → Int32) → (Nat → Int32) → (Nat → Int32) → Prop) (hw : w8_convergent f_terms f_above f_below f_term v1 v2 v3 post) : Met l yX8_convergent wsX8_convergent rm8_convergent (kP D (kT cI cJ cN cR) sz [.ref (rf 0), .int v1, .int v2, .int v3] [((rf 0), o8 rf f_terms f_runs f_leftAbove f_leftBelow f_rightAbove f_rightBelow f_listed f_fed f_read f_formed f_hasSnapshot), ((rf 1), ai cI 8 f_above), ((rf 2), ai cI 8 f_below), ((rf 3), ai cI 64 f_term)]) (kQi D [((rf 0), o8 rf f_terms f_runs f_leftAbove f_leftBelow f_rightAbove f_rightBelow f_listed f_fed f_read f_formed f_hasSnapshot), ((rf 1), ai cI 8 f_above), ((rf 2), ai cI 8 f_below), ((rf 3), ai cI 64 f_term)] sz (fun (r : Int32) (u : Int32 × (Nat → Int32) × (Nat → Int32) × (Nat → Int32)) => post r u.1 u.2.1 u.2.2.1 u.2.2.2) (fun (u : Int32 × (Nat → Int32) × (Nat → Int32) × (Nat → Int32)) => [((rf 0), o8 rf u.1 f_runs f_leftAbove f_leftBelow f_rightAbove f_rightBelow f_listed f_fed f_read f_formed f_hasSnapshot), ((rf 1), ai cI 8 u.2.1), ((rf 2), ai cI 8 u.2.2.1), ((rf 3), ai cI 64 u.2.2.2)])) 0 0 (va_A [((rf 0), o8 rf f_terms f_runs f_leftAbove f_leftBelow f_rightAbove f_rightBelow f_listed f_fed f_read f_formed f_hasSnapshot), ((rf 1), ai cI 8 f_above), ((rf 2), ai cI 8 f_below), ((rf 3), ai cI 64 f_term)] sz) := by
  refine kMetI (cc := cX8_convergent) (maxL := 11) (by decide +kernel) rfl (Nat.le_of_ble_eq_true rfl) ?_
  intro p e s m args below meth c H0 ls A Q C0 hK hN hP hD hS hA hl RET
  obtain ⟨hx, hb, hml, hown, hts⟩ := id C0
  have hl : lv_has ls 11 [(0, .ref (rf 0)), (1, .int v1), (2, .int v2), (3, .int v3)] := hl
  have g7 := hts (.fieldLink RX8 7 "SternBrocotExplorerModel" "above" "[I") (by decide +kernel)
  have g13 := hts (.fieldLink RX8 13 "SternBrocotExplorerModel" "below" "[I") (by decide +kernel)
  have g25 := hts (.fieldLink RX8 25 "SternBrocotExplorerModel" "terms" "I") (by decide +kernel)
  have g16 := hts (.fieldLink RX8 16 "SternBrocotExplorerModel" "term" "[I") (by decide +kernel)
  have hi9 : ∀ w ∈ wsX80, w ∈ wsX8_convergent := fun w h => List.mem_cons_of_mem _ (List.mem_append_right _ h)
  unfold w8_convergent at hw
  have hP : va_P D vwCl [((rf 0), o8 rf f_terms f_runs f_leftAbove f_leftBelow f_rightAbove f_rightBelow f_listed f_fed f_read f_formed f_hasSnapshot), ((rf 1), ai cI 8 f_above), ((rf 2), ai cI 8 f_below), ((rf 3), ai cI 64 f_term)] H0 := hP
  refine lv_aload_n hx hb dX8_convergent_0 rfl (lv_at hl 0 rfl) ?_
  refine lv_iload_n hx hb dX8_convergent_1 rfl (lv_at hl 1 rfl) ?_
  refine kcRI (wc := [((rf 0), o8 rf f_terms f_runs f_leftAbove f_leftBelow f_rightAbove f_rightBelow f_listed f_fed f_read f_formed f_hasSnapshot)]) hP [0] rfl (fun hPc => oV (As := [.int v1]) (rest := []) C0 hK hN (c8_isRegister l D cI cJ cN cR rf f_terms f_runs f_leftAbove f_leftBelow f_rightAbove f_rightBelow f_listed f_fed f_read f_formed f_hasSnapshot v1 _ hw) 1 gX8_convergent_X8_isRegister rfl ⟨rfl, rfl⟩ nm8_isRegister ⟨Nat.le_of_ble_eq_true rfl, Nat.le_of_ble_eq_true rfl⟩ (q0 := 0) rfl rfl rfl rfl hl.1 rfl (Nat.le_of_ble_eq_true rfl) dX8_convergent_2 ⟨Nat.le_of_ble_eq_true rfl, Nat.le_of_ble_eq_true rfl⟩ hPc) (fun r2 hw => ?_)
  obtain ⟨nb2, hw⟩ := hw
  refine lv_if_eq (tgt := 20) hx hb dX8_convergent_5 (by decide) (fun k => ?_) (fun k => ?_)
  · have hw := hw.1 k
    refine lv_iconst (v := (-1 : Int32)) hx hb dX8_convergent_20 (by decide) ?_
    exact RET _ _ _ (f_terms, f_above, f_below, f_term) _ _ hw hP hD hS dX8_convergent_21
  · have hw := hw.2 k
    refine lv_aload_n hx hb dX8_convergent_8 rfl (lv_at hl 0 rfl) ?_
    refine lv_iload_n hx hb dX8_convergent_9 rfl (lv_at hl 2 rfl) ?_
    refine kcRI (wc := [((rf 0), o8 rf f_terms f_runs f_leftAbove f_leftBelow f_rightAbove f_rightBelow f_listed f_fed f_read f_formed f_hasSnapshot)]) hP [0] rfl (fun hPc => oV (As := [.int v2]) (rest := []) C0 hK hN (c8_isRegister l D cI cJ cN cR rf f_terms f_runs f_leftAbove f_leftBelow f_rightAbove f_rightBelow f_listed f_fed f_read f_formed f_hasSnapshot v2 _ hw) 1 gX8_convergent_X8_isRegister rfl ⟨rfl, rfl⟩ nm8_isRegister ⟨Nat.le_of_ble_eq_true rfl, Nat.le_of_ble_eq_true rfl⟩ (q0 := 0) rfl rfl rfl rfl hl.1 rfl (Nat.le_of_ble_eq_true rfl) dX8_convergent_10 ⟨Nat.le_of_ble_eq_true rfl, Nat.le_of_ble_eq_true rfl⟩ hPc) (fun r10 hw => ?_)
    obtain ⟨nb10, hw⟩ := hw
    refine lv_if_eq (tgt := 20) hx hb dX8_convergent_13 (by decide) (fun k => ?_) (fun k => ?_)
    · have hw := hw.1 k
      refine lv_iconst (v := (-1 : Int32)) hx hb dX8_convergent_20 (by decide) ?_
      exact RET _ _ _ (f_terms, f_above, f_below, f_term) _ _ hw hP hD hS dX8_convergent_21
    · have hw := hw.2 k
      refine lv_iload_n hx hb dX8_convergent_16 rfl (lv_at hl 3 rfl) ?_
      refine lv_if_ge (tgt := 22) hx hb dX8_convergent_17 (by decide) (fun k => ?_) (fun k => ?_)
      · have hw := hw.1 k
        refine lv_aload_n hx hb dX8_convergent_22 rfl (lv_at hl 0 rfl) ?_
        refine lv_aload_n hx hb dX8_convergent_23 rfl (lv_at hl 0 rfl) ?_
        refine va_get (D := D) (ci := 8) (v := .ref (rf 1)) (C := RX8) (T := TX8) (N := 35) hx hb hts hi9 hown hK hP 0 rfl rfl 0 (by decide) g7 (fun _ h9 => h9) rfl dX8_convergent_24 ?_
        refine lv_iload_n hx hb dX8_convergent_27 rfl (lv_at hl 2 rfl) ?_
        obtain ⟨hin, hw⟩ := hw
        refine va_iald hx hb hK hP 1 0 rfl rfl hin dX8_convergent_28 ?_
        refine lv_aload_n hx hb dX8_convergent_29 rfl (lv_at hl 0 rfl) ?_
        refine va_get (D := D) (ci := 8) (v := .ref (rf 2)) (C := RX8) (T := TX8) (N := 35) hx hb hts hi9 hown hK hP 0 rfl rfl 1 (by decide) g13 (fun _ h9 => h9) rfl dX8_convergent_30 ?_
        refine lv_iload_n hx hb dX8_convergent_33 rfl (lv_at hl 2 rfl) ?_
        obtain ⟨hin, hw⟩ := hw
        refine va_iald hx hb hK hP 2 0 rfl rfl hin dX8_convergent_34 ?_
        refine kcV (wc := [((rf 0), o8 rf f_terms f_runs f_leftAbove f_leftBelow f_rightAbove f_rightBelow f_listed f_fed f_read f_formed f_hasSnapshot), ((rf 3), ai cI 64 f_term)]) (wr := [((rf 1), ai cI 8 f_above), ((rf 2), ai cI 8 f_below)]) hP hD hS hA [0, 3] [1, 2] rfl rfl ⟨rfl, rfl, by decide⟩ (fun hPc hDc => rV (As := [.int (f_above v2.toNatClampNeg), .int (f_below v2.toNatClampNeg)]) (rest := []) C0 hK hN (c8_layTerms l D cI cJ cN cR rf H0.size f_terms f_runs f_leftAbove f_leftBelow f_rightAbove f_rightBelow f_listed f_fed f_read f_formed f_hasSnapshot f_term (f_above v2.toNatClampNeg) (f_below v2.toNatClampNeg) _ hw) 2 gX8_convergent_X8_layTerms rfl ⟨rfl, rfl⟩ nm8_layTerms ⟨Nat.le_of_ble_eq_true rfl, Nat.le_of_ble_eq_true rfl⟩ (q0 := 0) rfl rfl rfl rfl hl.1 rfl (Nat.le_of_ble_eq_true rfl) dX8_convergent_35 ⟨Nat.le_of_ble_eq_true rfl, Nat.le_of_ble_eq_true rfl⟩ hPc hDc) (fun u35 H locs hw hP hD hS => ?_)
        obtain ⟨f_terms_35, f_term_35⟩ := u35
        dsimp only at hw
        have hP : va_P D vwCl [((rf 1), ai cI 8 f_above), ((rf 2), ai cI 8 f_below), ((rf 0), o8 rf f_terms_35 f_runs f_leftAbove f_leftBelow f_rightAbove f_rightBelow f_listed f_fed f_read f_formed f_hasSnapshot), ((rf 3), ai cI 64 f_term_35)] H := hP
        have hD : va_D A [((rf 1), ai cI 8 f_above), ((rf 2), ai cI 8 f_below), ((rf 0), o8 rf f_terms_35 f_runs f_leftAbove f_leftBelow f_rightAbove f_rightBelow f_listed f_fed f_read f_formed f_hasSnapshot), ((rf 3), ai cI 64 f_term_35)] := hD
        refine lv_iload_n hx hb dX8_convergent_38 rfl (lv_at hl 3 rfl) ?_
        refine lv_aload_n hx hb dX8_convergent_39 rfl (lv_at hl 0 rfl) ?_
        refine va_get (D := D) (ci := 8) (v := .int f_terms_35) (C := RX8) (T := TX8) (N := 35) hx hb hts hi9 hown hK hP 2 rfl rfl 5 (by decide) g25 (fun _ h9 => h9) rfl dX8_convergent_40 ?_
        refine lv_icmp_lt (tgt := 49) hx hb dX8_convergent_43 (by decide) (fun k => ?_) (fun k => ?_)
        · have hw := hw.1 k
          refine lv_aload_n hx hb dX8_convergent_49 rfl (lv_at hl 0 rfl) ?_
          refine va_get (D := D) (ci := 8) (v := .ref (rf 3)) (C := RX8) (T := TX8) (N := 35) hx hb hts hi9 hown hK hP 2 rfl rfl 2 (by decide) g16 (fun _ h9 => h9) rfl dX8_convergent_50 ?_
          refine lv_iload_n hx hb dX8_convergent_53 rfl (lv_at hl 3 rfl) ?_
          obtain ⟨hin, hw⟩ := hw
          refine va_iald hx hb hK hP 3 0 rfl rfl hin dX8_convergent_54 ?_
          refine lv_i2l hx hb dX8_convergent_55 rfl ?_
          refine lv_topl (fun x56 ex56 => ?_)
          have hw := hw x56 ex56
          refine lv_lstore (lv' := [(4, .long x56), (0, .ref (rf 0)), (1, .int v1), (2, .int v2), (3, .int v3)]) hx hb dX8_convergent_56 hl (by decide) rfl (fun ls hl => ?_)
          refine lv_lconst (v := (1 : Int64)) hx hb dX8_convergent_58 (by decide) ?_
          refine lv_lstore (lv' := [(6, .long (1 : Int64)), (4, .long x56), (0, .ref (rf 0)), (1, .int v1), (2, .int v2), (3, .int v3)]) hx hb dX8_convergent_59 hl (by decide) rfl (fun ls hl => ?_)
          refine lv_iload_n hx hb dX8_convergent_61 rfl (lv_at hl 5 rfl) ?_
          refine lv_iconst (v := (1 : Int32)) hx hb dX8_convergent_62 (by decide) ?_
          refine lv_isub hx hb dX8_convergent_63 ?_
          refine lv_topi (fun x64 ex64 => ?_)
          have hw := hw x64 ex64
          refine lv_istore (lv' := [(8, .int x64), (6, .long (1 : Int64)), (4, .long x56), (0, .ref (rf 0)), (1, .int v1), (2, .int v2), (3, .int v3)]) hx hb dX8_convergent_64 hl (by decide) rfl (fun ls hl => ?_)
          obtain ⟨n66, hw⟩ := hw
          have LOOP_66 : ∀ (n66 : Nat) (v4 : Int64) (v6 : Int64) (v8 : Int32) (H : Heap) (locs : List Loc) (ls : Array Slot), w8_convergent_L66 f_terms_35 f_above f_below f_term_35 v1 post n66 v4 v6 v8 → va_P D vwCl [((rf 0), o8 rf f_terms_35 f_runs f_leftAbove f_leftBelow f_rightAbove f_rightBelow f_listed f_fed f_read f_formed f_hasSnapshot), ((rf 1), ai cI 8 f_above), ((rf 2), ai cI 8 f_below), ((rf 3), ai cI 64 f_term_35)] H → va_D A [((rf 0), o8 rf f_terms_35 f_runs f_leftAbove f_leftBelow f_rightAbove f_rightBelow f_listed f_fed f_read f_formed f_hasSnapshot), ((rf 1), ai cI 8 f_above), ((rf 2), ai cI 8 f_below), ((rf 3), ai cI 64 f_term_35)] → va_S A H0 H locs → lv_has ls 11 [(0, .ref (rf 0)), (1, .int v1), (4, .long v4), (6, .long v6), (8, .int v8)] → W p l e rm8_convergent s m args below meth c H locs 0 0 Q (F0 m 66 ls []) := by
            clear hw hl hP hD hS
            intro n66
            induction n66 with
            | zero =>
              intro v4 v6 v8 H locs ls hw hP hD hS hl
              rw [w8_convergent_L66] at hw
              exact hw.elim
            | succ n66 ih66 =>
              intro v4 v6 v8 H locs ls hw hP hD hS hl
              rw [w8_convergent_L66] at hw
              refine lv_iload hx hb dX8_convergent_66 (lv_at hl 4 rfl) ?_
              refine lv_if_lt (tgt := 101) hx hb dX8_convergent_68 (by decide) (fun k => ?_) (fun k => ?_)
              · have hw := hw.1 k
                refine lv_lload hx hb dX8_convergent_101 (lv_at hl 2 rfl) ?_
                refine lv_lconst (v := (0 : Int64)) hx hb dX8_convergent_103 (by decide) ?_
                refine W.lcmp hx hb dX8_convergent_104 ?_
                refine lv_if_ne (tgt := 113) hx hb dX8_convergent_105 (by decide) (fun k => ?_) (fun k => ?_)
                · have hw := hw.1 (fun h => k ((lg_cmp_eq _ _).mpr h))
                  refine lv_aload_n hx hb dX8_convergent_113 rfl (lv_at hl 0 rfl) ?_
                  refine lv_iload_n hx hb dX8_convergent_114 rfl (lv_at hl 1 rfl) ?_
                  refine lv_lload hx hb dX8_convergent_115 (lv_at hl 2 rfl) ?_
                  refine lv_lload hx hb dX8_convergent_117 (lv_at hl 3 rfl) ?_
                  refine kcI (wc := [((rf 0), o8 rf f_terms_35 f_runs f_leftAbove f_leftBelow f_rightAbove f_rightBelow f_listed f_fed f_read f_formed f_hasSnapshot), ((rf 1), ai cI 8 f_above), ((rf 2), ai cI 8 f_below)]) (wr := [((rf 3), ai cI 64 f_term_35)]) hP hD hS hA [0, 1, 2] [3] rfl rfl ⟨rfl, rfl, by decide⟩ (fun hPc hDc => rV (As := [.int v1, .long v4, .long v6]) (rest := []) C0 hK hN (c8_put l D cI cJ cN cR rf H.size f_terms_35 f_runs f_leftAbove f_leftBelow f_rightAbove f_rightBelow f_listed f_fed f_read f_formed f_hasSnapshot f_above f_below v1 v4 v6 _ hw) 3 gX8_convergent_X8_put rfl ⟨rfl, rfl⟩ nm8_put ⟨Nat.le_of_ble_eq_true rfl, Nat.le_of_ble_eq_true rfl⟩ (q0 := 0) rfl rfl rfl rfl hl.1 rfl (Nat.le_of_ble_eq_true rfl) dX8_convergent_119 ⟨Nat.le_of_ble_eq_true rfl, Nat.le_of_ble_eq_true rfl⟩ hPc hDc) (fun r119 u119 H locs hw hP hD hS => ?_)
                  obtain ⟨f_above_119, f_below_119⟩ := u119
                  dsimp only at hw
                  have hP : va_P D vwCl [((rf 3), ai cI 64 f_term_35), ((rf 0), o8 rf f_terms_35 f_runs f_leftAbove f_leftBelow f_rightAbove f_rightBelow f_listed f_fed f_read f_formed f_hasSnapshot), ((rf 1), ai cI 8 f_above_119), ((rf 2), ai cI 8 f_below_119)] H := hP
                  have hD : va_D A [((rf 3), ai cI 64 f_term_35), ((rf 0), o8 rf f_terms_35 f_runs f_leftAbove f_leftBelow f_rightAbove f_rightBelow f_listed f_fed f_read f_formed f_hasSnapshot), ((rf 1), ai cI 8 f_above_119), ((rf 2), ai cI 8 f_below_119)] := hD
                  obtain ⟨hP, hD⟩ := k_sub (ws' := [((rf 0), o8 rf f_terms_35 f_runs f_leftAbove f_leftBelow f_rightAbove f_rightBelow f_listed f_fed f_read f_formed f_hasSnapshot), ((rf 1), ai cI 8 f_above_119), ((rf 2), ai cI 8 f_below_119), ((rf 3), ai cI 64 f_term_35)]) hP hD [1, 2, 3, 0] rfl rfl
                  exact RET _ _ _ (f_terms_35, f_above_119, f_below_119, f_term_35) _ _ hw hP hD hS dX8_convergent_122
                · have hw := hw.2 ((lg_cmp_eq _ _).mp k)
                  refine lv_bipush (v := (-2 : Int32)) hx hb dX8_convergent_108 (by decide) ?_
                  refine lv_goto (tgt := 122) hx hb dX8_convergent_110 (by decide) ?_
                  exact RET _ _ _ (f_terms_35, f_above, f_below, f_term_35) _ _ hw hP hD hS dX8_convergent_122
              · have hw := hw.2 k
                refine lv_lload hx hb dX8_convergent_71 (lv_at hl 2 rfl) ?_
                refine lv_lstore (lv' := [(9, .long v4), (0, .ref (rf 0)), (1, .int v1), (4, .long v4), (6, .long v6), (8, .int v8)]) hx hb dX8_convergent_73 hl (by decide) rfl (fun ls hl => ?_)
                refine lv_aload_n hx hb dX8_convergent_75 rfl (lv_at hl 1 rfl) ?_
                refine va_get (D := D) (ci := 8) (v := .ref (rf 3)) (C := RX8) (T := TX8) (N := 35) hx hb hts hi9 hown hK hP 0 rfl rfl 2 (by decide) g16 (fun _ h9 => h9) rfl dX8_convergent_76 ?_
                refine lv_iload hx hb dX8_convergent_79 (lv_at hl 5 rfl) ?_
                obtain ⟨hin, hw⟩ := hw
                refine va_iald hx hb hK hP 3 0 rfl rfl hin dX8_convergent_81 ?_
                refine lv_i2l hx hb dX8_convergent_82 rfl ?_
                refine lv_lload hx hb dX8_convergent_83 (lv_at hl 3 rfl) ?_
                refine lv_lmul hx hb dX8_convergent_85 ?_
                refine lv_lload hx hb dX8_convergent_86 (lv_at hl 4 rfl) ?_
                refine lv_ladd hx hb dX8_convergent_88 ?_
                refine lv_topl (fun x89 ex89 => ?_)
                have hw := hw x89 ex89
                refine lv_lstore (lv' := [(4, .long x89), (9, .long v4), (0, .ref (rf 0)), (1, .int v1), (6, .long v6), (8, .int v8)]) hx hb dX8_convergent_89 hl (by decide) rfl (fun ls hl => ?_)
                refine lv_lload hx hb dX8_convergent_91 (lv_at hl 1 rfl) ?_
                refine lv_lstore (lv' := [(6, .long v4), (4, .long x89), (9, .long v4), (0, .ref (rf 0)), (1, .int v1), (8, .int v8)]) hx hb dX8_convergent_93 hl (by decide) rfl (fun ls hl => ?_)
                obtain ⟨x95, ex95⟩ : ∃ y : Int32, y = (v8 + (-1 : Int32)) := ⟨_, rfl⟩
                have hw := hw x95 ex95
                refine lv_iinc (v := x95) (lv' := [(8, .int x95), (6, .long v4), (4, .long x89), (9, .long v4), (0, .ref (rf 0)), (1, .int v1)]) hx hb dX8_convergent_95 hl (k := 5) rfl (by rw [ex95]; rfl) (by decide) rfl (fun ls hl => ?_)
                refine lv_goto (tgt := 66) hx hb dX8_convergent_98 (by decide) ?_
                exact ih66 x89 v4 x95 _ _ ls hw hP hD hS (lv_sub hl [4, 5, 2, 1, 0] rfl)
          obtain ⟨hP, hD⟩ := k_sub (ws' := [((rf 0), o8 rf f_terms_35 f_runs f_leftAbove f_leftBelow f_rightAbove f_rightBelow f_listed f_fed f_read f_formed f_hasSnapshot), ((rf 1), ai cI 8 f_above), ((rf 2), ai cI 8 f_below), ((rf 3), ai cI 64 f_term_35)]) hP hD [2, 0, 1, 3] rfl rfl
          exact LOOP_66 n66 x56 (1 : Int64) x64 _ _ ls hw hP hD hS (lv_sub hl [3, 4, 2, 1, 0] rfl)
        · have hw := hw.2 k
          refine lv_bipush (v := (-2 : Int32)) hx hb dX8_convergent_46 (by decide) ?_
          obtain ⟨hP, hD⟩ := k_sub (ws' := [((rf 0), o8 rf f_terms_35 f_runs f_leftAbove f_leftBelow f_rightAbove f_rightBelow f_listed f_fed f_read f_formed f_hasSnapshot), ((rf 1), ai cI 8 f_above), ((rf 2), ai cI 8 f_below), ((rf 3), ai cI 64 f_term_35)]) hP hD [2, 0, 1, 3] rfl rfl
          exact RET _ _ _ (f_terms_35, f_above, f_below, f_term_35) _ _ hw hP hD hS dX8_convergent_48
      · have hw := hw.2 k
        refine lv_iconst (v := (-1 : Int32)) hx hb dX8_convergent_20 (by decide) ?_
        exact RET _ _ _ (f_terms, f_above, f_below, f_term) _ _ hw hP hD hS dX8_convergent_21
abbrev rm8_pushTerm : Room := { frames := 1, cells := 0, slots := 0, locals := 25 }
theorem nm8_pushTerm : kNm yX8_pushTerm 1 := by decide +kernel
set_option maxHeartbeats 4000000 in
set_option maxRecDepth 100000 in
theorem c8_pushTerm (l : Launch) (D : va_G) (cI cJ cN cR : ClassId) (rf : Nat → Nat) (sz : Nat) (f_terms : Int32) (f_runs : Int32) (f_leftAbove : Int64) (f_leftBelow : Int64) (f_rightAbove : Int64) (f_rightBelow : Int64) (f_listed : Int32) (f_fed : Int32) (f_read : Int32) (f_formed : Int32) (f_hasSnapshot : Int32) (f_list : (Nat → Int32)) (v1 : Int32) (post : Int32 → Int32 → (Nat → Int32) → Prop) (hw : w8_pushTerm f_listed f_list v1 post) : Met l yX8_pushTerm wsX8_pushTerm rm8_pushTerm (kP D (kT cI cJ cN cR) sz [.ref (rf 0), .int v1] [((rf 0), o8 rf f_terms f_runs f_leftAbove f_leftBelow f_rightAbove f_rightBelow f_listed f_fed f_read f_formed f_hasSnapshot), ((rf 14), ai cI 20 f_list)]) (kQi D [((rf 0), o8 rf f_terms f_runs f_leftAbove f_leftBelow f_rightAbove f_rightBelow f_listed f_fed f_read f_formed f_hasSnapshot), ((rf 14), ai cI 20 f_list)] sz (fun (r : Int32) (u : Int32 × (Nat → Int32)) => post r u.1 u.2) (fun (u : Int32 × (Nat → Int32)) => [((rf 0), o8 rf f_terms f_runs f_leftAbove f_leftBelow f_rightAbove f_rightBelow u.1 f_fed f_read f_formed f_hasSnapshot), ((rf 14), ai cI 20 u.2)])) 0 0 (va_A [((rf 0), o8 rf f_terms f_runs f_leftAbove f_leftBelow f_rightAbove f_rightBelow f_listed f_fed f_read f_formed f_hasSnapshot), ((rf 14), ai cI 20 f_list)] sz) := by
  refine kMetI (cc := cX8_pushTerm) (maxL := 2) (by decide +kernel) rfl (Nat.le_of_ble_eq_true rfl) ?_
  intro p e s m args below meth c H0 ls A Q C0 hK hN hP hD hS hA hl RET
  obtain ⟨hx, hb, hml, hown, hts⟩ := id C0
  have hl : lv_has ls 2 [(0, .ref (rf 0)), (1, .int v1)] := hl
  have g54 := hts (.fieldLink RX8 54 "SternBrocotExplorerModel" "listed" "I") (by decide +kernel)
  have g51 := hts (.fieldLink RX8 51 "SternBrocotExplorerModel" "list" "[I") (by decide +kernel)
  have hi9 : ∀ w ∈ wsX80, w ∈ wsX8_pushTerm := fun w h => List.mem_cons_of_mem _ (List.mem_append_right _ h)
  unfold w8_pushTerm at hw
  have hP : va_P D vwCl [((rf 0), o8 rf f_terms f_runs f_leftAbove f_leftBelow f_rightAbove f_rightBelow f_listed f_fed f_read f_formed f_hasSnapshot), ((rf 14), ai cI 20 f_list)] H0 := hP
  refine lv_iload_n hx hb dX8_pushTerm_0 rfl (lv_at hl 1 rfl) ?_
  refine lv_i2l hx hb dX8_pushTerm_1 rfl ?_
  refine lv_lconst (v := (0 : Int64)) hx hb dX8_pushTerm_2 (by decide) ?_
  refine lv_ldc2 (v := (1000000 : Int64)) hx hb hown (hts (.constantLong RX8 129 (1000000)) (by decide +kernel)) dX8_pushTerm_3 ?_
  refine kcRI (wc := []) hP [] rfl (fun hPc => oS (As := [.long v1.toInt64, .long (0 : Int64), .long (1000000 : Int64)]) (rest := []) C0 hK hN (c8_within l D cI cJ cN cR   v1.toInt64 (0 : Int64) (1000000 : Int64) _ hw) 3 gX8_pushTerm_X8_within rfl ⟨rfl, rfl⟩ nm8_within ⟨Nat.le_of_ble_eq_true rfl, Nat.le_of_ble_eq_true rfl⟩ rfl hl.1 rfl (Nat.le_of_ble_eq_true rfl) dX8_pushTerm_6 ⟨Nat.le_of_ble_eq_true rfl, Nat.le_of_ble_eq_true rfl⟩ hPc) (fun r6 hw => ?_)
  obtain ⟨nb6, hw⟩ := hw
  refine lv_if_ne (tgt := 14) hx hb dX8_pushTerm_9 (by decide) (fun k => ?_) (fun k => ?_)
  · have hw := hw.1 k
    refine lv_aload_n hx hb dX8_pushTerm_14 rfl (lv_at hl 0 rfl) ?_
    refine va_get (D := D) (ci := 8) (v := .int f_listed) (C := RX8) (T := TX8) (N := 35) hx hb hts hi9 hown hK hP 0 rfl rfl 14 (by decide) g54 (fun _ h9 => h9) rfl dX8_pushTerm_15 ?_
    refine lv_bipush (v := (20 : Int32)) hx hb dX8_pushTerm_18 (by decide) ?_
    refine lv_icmp_ne (tgt := 26) hx hb dX8_pushTerm_20 (by decide) (fun k => ?_) (fun k => ?_)
    · have hw := hw.1 k
      refine lv_aload_n hx hb dX8_pushTerm_26 rfl (lv_at hl 0 rfl) ?_
      refine va_get (D := D) (ci := 8) (v := .ref (rf 14)) (C := RX8) (T := TX8) (N := 35) hx hb hts hi9 hown hK hP 0 rfl rfl 13 (by decide) g51 (fun _ h9 => h9) rfl dX8_pushTerm_27 ?_
      refine lv_aload_n hx hb dX8_pushTerm_30 rfl (lv_at hl 0 rfl) ?_
      refine va_get (D := D) (ci := 8) (v := .int f_listed) (C := RX8) (T := TX8) (N := 35) hx hb hts hi9 hown hK hP 0 rfl rfl 14 (by decide) g54 (fun _ h9 => h9) rfl dX8_pushTerm_31 ?_
      refine lv_iload_n hx hb dX8_pushTerm_34 rfl (lv_at hl 1 rfl) ?_
      obtain ⟨hin, hw⟩ := hw
      refine va_iast hx hb hK hP hD hS 1 0 rfl rfl hin dX8_pushTerm_35 (fun H locs hP hD hS => ?_)
      have hP : va_P D vwCl [((rf 0), o8 rf f_terms f_runs f_leftAbove f_leftBelow f_rightAbove f_rightBelow f_listed f_fed f_read f_formed f_hasSnapshot), ((rf 14), ai cI 20 (upd f_list f_listed.toNatClampNeg v1))] H := hP
      have hD : va_D A [((rf 0), o8 rf f_terms f_runs f_leftAbove f_leftBelow f_rightAbove f_rightBelow f_listed f_fed f_read f_formed f_hasSnapshot), ((rf 14), ai cI 20 (upd f_list f_listed.toNatClampNeg v1))] := hD
      refine lv_aload_n hx hb dX8_pushTerm_36 rfl (lv_at hl 0 rfl) ?_
      refine lv_dup hx hb dX8_pushTerm_37 rfl ?_
      refine va_get (D := D) (ci := 8) (v := .int f_listed) (C := RX8) (T := TX8) (N := 35) hx hb hts hi9 hown hK hP 0 rfl rfl 14 (by decide) g54 (fun _ h9 => h9) rfl dX8_pushTerm_38 ?_
      refine lv_iconst (v := (1 : Int32)) hx hb dX8_pushTerm_41 (by decide) ?_
      refine lv_iadd hx hb dX8_pushTerm_42 ?_
      refine lv_topi (fun x43 ex43 => ?_)
      have hw := hw x43 ex43
      refine va_put (D := D) (ci := 8) (v := .int x43) (ty := .int) (C := RX8) (T := TX8) (N := 35) hx hb hts hi9 tyX8 tyX8_ok nmX8 hown hK hP hD hS 0 rfl rfl 14 (by decide) g54 (fun _ h9 => h9) rfl (by decide +kernel) rfl rfl (Nat.le_of_ble_eq_true rfl) dX8_pushTerm_43 (fun H locs hP hD hS => ?_)
      have hP : va_P D vwCl [((rf 0), o8 rf f_terms f_runs f_leftAbove f_leftBelow f_rightAbove f_rightBelow x43 f_fed f_read f_formed f_hasSnapshot), ((rf 14), ai cI 20 (upd f_list f_listed.toNatClampNeg v1))] H := hP
      have hD : va_D A [((rf 0), o8 rf f_terms f_runs f_leftAbove f_leftBelow f_rightAbove f_rightBelow x43 f_fed f_read f_formed f_hasSnapshot), ((rf 14), ai cI 20 (upd f_list f_listed.toNatClampNeg v1))] := hD
      refine lv_aload_n hx hb dX8_pushTerm_46 rfl (lv_at hl 0 rfl) ?_
      refine va_get (D := D) (ci := 8) (v := .int x43) (C := RX8) (T := TX8) (N := 35) hx hb hts hi9 hown hK hP 0 rfl rfl 14 (by decide) g54 (fun _ h9 => h9) rfl dX8_pushTerm_47 ?_
      exact RET _ _ _ (x43, (upd f_list f_listed.toNatClampNeg v1)) _ _ hw hP hD hS dX8_pushTerm_50
    · have hw := hw.2 k
      refine lv_bipush (v := (-5 : Int32)) hx hb dX8_pushTerm_23 (by decide) ?_
      exact RET _ _ _ (f_listed, f_list) _ _ hw hP hD hS dX8_pushTerm_25
  · have hw := hw.2 k
    refine lv_iconst (v := (-1 : Int32)) hx hb dX8_pushTerm_12 (by decide) ?_
    exact RET _ _ _ (f_listed, f_list) _ _ hw hP hD hS dX8_pushTerm_13
abbrev rm8_clearTerms : Room := { frames := 0, cells := 0, slots := 0, locals := 0 }
theorem nm8_clearTerms : kNm yX8_clearTerms 0 := by decide +kernel
set_option maxHeartbeats 4000000 in
set_option maxRecDepth 100000 in
theorem c8_clearTerms (l : Launch) (D : va_G) (cI cJ cN cR : ClassId) (rf : Nat → Nat) (sz : Nat) (f_terms : Int32) (f_runs : Int32) (f_leftAbove : Int64) (f_leftBelow : Int64) (f_rightAbove : Int64) (f_rightBelow : Int64) (f_listed : Int32) (f_fed : Int32) (f_read : Int32) (f_formed : Int32) (f_hasSnapshot : Int32)  (post : Int32 → Int32 → Prop) (hw : w8_clearTerms f_listed post) : Met l yX8_clearTerms wsX8_clearTerms rm8_clearTerms (kP D (kT cI cJ cN cR) sz [.ref (rf 0)] [((rf 0), o8 rf f_terms f_runs f_leftAbove f_leftBelow f_rightAbove f_rightBelow f_listed f_fed f_read f_formed f_hasSnapshot)]) (kQi D [((rf 0), o8 rf f_terms f_runs f_leftAbove f_leftBelow f_rightAbove f_rightBelow f_listed f_fed f_read f_formed f_hasSnapshot)] sz (fun (r : Int32) (u : Int32) => post r u) (fun (u : Int32) => [((rf 0), o8 rf f_terms f_runs f_leftAbove f_leftBelow f_rightAbove f_rightBelow u f_fed f_read f_formed f_hasSnapshot)])) 0 0 (va_A [((rf 0), o8 rf f_terms f_runs f_leftAbove f_leftBelow f_rightAbove f_rightBelow f_listed f_fed f_read f_formed f_hasSnapshot)] sz) := by
  refine kMetI (cc := cX8_clearTerms) (maxL := 2) (by decide +kernel) rfl (Nat.le_of_ble_eq_true rfl) ?_
  intro p e s m args below meth c H0 ls A Q C0 hK hN hP hD hS hA hl RET
  obtain ⟨hx, hb, hml, hown, hts⟩ := id C0
  have hl : lv_has ls 2 [(0, .ref (rf 0))] := hl
  have g54 := hts (.fieldLink RX8 54 "SternBrocotExplorerModel" "listed" "I") (by decide +kernel)
  have hi9 : ∀ w ∈ wsX80, w ∈ wsX8_clearTerms := fun w h => List.mem_cons_of_mem _ (List.mem_append_right _ h)
  unfold w8_clearTerms at hw
  have hP : va_P D vwCl [((rf 0), o8 rf f_terms f_runs f_leftAbove f_leftBelow f_rightAbove f_rightBelow f_listed f_fed f_read f_formed f_hasSnapshot)] H0 := hP
  refine lv_aload_n hx hb dX8_clearTerms_0 rfl (lv_at hl 0 rfl) ?_
  refine va_get (D := D) (ci := 8) (v := .int f_listed) (C := RX8) (T := TX8) (N := 35) hx hb hts hi9 hown hK hP 0 rfl rfl 14 (by decide) g54 (fun _ h9 => h9) rfl dX8_clearTerms_1 ?_
  refine lv_istore_n (lv' := [(1, .int f_listed), (0, .ref (rf 0))]) hx hb dX8_clearTerms_4 rfl hl (by decide) rfl (fun ls hl => ?_)
  refine lv_aload_n hx hb dX8_clearTerms_5 rfl (lv_at hl 1 rfl) ?_
  refine lv_iconst (v := (0 : Int32)) hx hb dX8_clearTerms_6 (by decide) ?_
  refine va_put (D := D) (ci := 8) (v := .int (0 : Int32)) (ty := .int) (C := RX8) (T := TX8) (N := 35) hx hb hts hi9 tyX8 tyX8_ok nmX8 hown hK hP hD hS 0 rfl rfl 14 (by decide) g54 (fun _ h9 => h9) rfl (by decide +kernel) rfl rfl (Nat.le_of_ble_eq_true rfl) dX8_clearTerms_7 (fun H locs hP hD hS => ?_)
  have hP : va_P D vwCl [((rf 0), o8 rf f_terms f_runs f_leftAbove f_leftBelow f_rightAbove f_rightBelow (0 : Int32) f_fed f_read f_formed f_hasSnapshot)] H := hP
  have hD : va_D A [((rf 0), o8 rf f_terms f_runs f_leftAbove f_leftBelow f_rightAbove f_rightBelow (0 : Int32) f_fed f_read f_formed f_hasSnapshot)] := hD
  refine lv_iload_n hx hb dX8_clearTerms_10 rfl (lv_at hl 0 rfl) ?_
  exact RET _ _ _ (0 : Int32) _ _ hw hP hD hS dX8_clearTerms_11
abbrev rm8_fromTerms : Room := { frames := 2, cells := 0, slots := 0, locals := 57 }
theorem nm8_fromTerms : kNm yX8_fromTerms 1 := by decide +kernel
set_option maxHeartbeats 4000000 in
set_option maxRecDepth 100000 in
theorem c8_fromTerms (l : Launch) (D : va_G) (cI cJ cN cR : ClassId) (rf : Nat → Nat) (sz : Nat) (f_terms : Int32) (f_runs : Int32) (f_leftAbove : Int64) (f_leftBelow : Int64) (f_rightAbove : Int64) (f_rightBelow : Int64) (f_listed : Int32) (f_fed : Int32) (f_read : Int32) (f_formed : Int32) (f_hasSnapshot : Int32) (f_above : (Nat → Int32)) (f_below : (Nat → Int32)) (f_list : (Nat → Int32)) (v1 : Int32) (post : Int32 → (Nat → Int32) → (Nat → Int32) → Prop) (hw : w8_fromTerms f_listed f_above f_below f_list v1 post) : Met l yX8_fromTerms wsX8_fromTerms rm8_fromTerms (kP D (kT cI cJ cN cR) sz [.ref (rf 0), .int v1] [((rf 0), o8 rf f_terms f_runs f_leftAbove f_leftBelow f_rightAbove f_rightBelow f_listed f_fed f_read f_formed f_hasSnapshot), ((rf 1), ai cI 8 f_above), ((rf 2), ai cI 8 f_below), ((rf 14), ai cI 20 f_list)]) (kQi D [((rf 0), o8 rf f_terms f_runs f_leftAbove f_leftBelow f_rightAbove f_rightBelow f_listed f_fed f_read f_formed f_hasSnapshot), ((rf 1), ai cI 8 f_above), ((rf 2), ai cI 8 f_below), ((rf 14), ai cI 20 f_list)] sz (fun (r : Int32) (u : (Nat → Int32) × (Nat → Int32)) => post r u.1 u.2) (fun (u : (Nat → Int32) × (Nat → Int32)) => [((rf 0), o8 rf f_terms f_runs f_leftAbove f_leftBelow f_rightAbove f_rightBelow f_listed f_fed f_read f_formed f_hasSnapshot), ((rf 1), ai cI 8 u.1), ((rf 2), ai cI 8 u.2), ((rf 14), ai cI 20 f_list)])) 0 0 (va_A [((rf 0), o8 rf f_terms f_runs f_leftAbove f_leftBelow f_rightAbove f_rightBelow f_listed f_fed f_read f_formed f_hasSnapshot), ((rf 1), ai cI 8 f_above), ((rf 2), ai cI 8 f_below), ((rf 14), ai cI 20 f_list)] sz) := by
  refine kMetI (cc := cX8_fromTerms) (maxL := 9) (by decide +kernel) rfl (Nat.le_of_ble_eq_true rfl) ?_
  intro p e s m args below meth c H0 ls A Q C0 hK hN hP hD hS hA hl RET
  obtain ⟨hx, hb, hml, hown, hts⟩ := id C0
  have hl : lv_has ls 9 [(0, .ref (rf 0)), (1, .int v1)] := hl
  have g54 := hts (.fieldLink RX8 54 "SternBrocotExplorerModel" "listed" "I") (by decide +kernel)
  have g51 := hts (.fieldLink RX8 51 "SternBrocotExplorerModel" "list" "[I") (by decide +kernel)
  have hi9 : ∀ w ∈ wsX80, w ∈ wsX8_fromTerms := fun w h => List.mem_cons_of_mem _ (List.mem_append_right _ h)
  unfold w8_fromTerms at hw
  have hP : va_P D vwCl [((rf 0), o8 rf f_terms f_runs f_leftAbove f_leftBelow f_rightAbove f_rightBelow f_listed f_fed f_read f_formed f_hasSnapshot), ((rf 1), ai cI 8 f_above), ((rf 2), ai cI 8 f_below), ((rf 14), ai cI 20 f_list)] H0 := hP
  have JOIN_37 : ∀ (f_above : (Nat → Int32)) (f_below : (Nat → Int32)) (H : Heap) (locs : List Loc) (ls : Array Slot), w8_fromTerms_J37 f_listed f_above f_below f_list v1 post → va_P D vwCl [((rf 0), o8 rf f_terms f_runs f_leftAbove f_leftBelow f_rightAbove f_rightBelow f_listed f_fed f_read f_formed f_hasSnapshot), ((rf 1), ai cI 8 f_above), ((rf 2), ai cI 8 f_below), ((rf 14), ai cI 20 f_list)] H → va_D A [((rf 0), o8 rf f_terms f_runs f_leftAbove f_leftBelow f_rightAbove f_rightBelow f_listed f_fed f_read f_formed f_hasSnapshot), ((rf 1), ai cI 8 f_above), ((rf 2), ai cI 8 f_below), ((rf 14), ai cI 20 f_list)] → va_S A H0 H locs → lv_has ls 9 [(0, .ref (rf 0)), (1, .int v1)] → W p l e rm8_fromTerms s m args below meth c H locs 0 0 Q (F0 m 37 ls []) := by
    intro f_above f_below H locs ls hw hP hD hS hl
    unfold w8_fromTerms_J37 at hw
    refine lv_iconst (v := (1 : Int32)) hx hb dX8_fromTerms_37 (by decide) ?_
    refine lv_istore_n (lv' := [(2, .int (1 : Int32)), (0, .ref (rf 0)), (1, .int v1)]) hx hb dX8_fromTerms_38 rfl hl (by decide) rfl (fun ls hl => ?_)
    obtain ⟨n39, hw⟩ := hw
    have LOOP_39 : ∀ (n39 : Nat) (v2 : Int32) (H : Heap) (locs : List Loc) (ls : Array Slot), w8_fromTerms_L39 f_listed f_above f_below f_list v1 post n39 v2 → va_P D vwCl [((rf 0), o8 rf f_terms f_runs f_leftAbove f_leftBelow f_rightAbove f_rightBelow f_listed f_fed f_read f_formed f_hasSnapshot), ((rf 1), ai cI 8 f_above), ((rf 2), ai cI 8 f_below), ((rf 14), ai cI 20 f_list)] H → va_D A [((rf 0), o8 rf f_terms f_runs f_leftAbove f_leftBelow f_rightAbove f_rightBelow f_listed f_fed f_read f_formed f_hasSnapshot), ((rf 1), ai cI 8 f_above), ((rf 2), ai cI 8 f_below), ((rf 14), ai cI 20 f_list)] → va_S A H0 H locs → lv_has ls 9 [(0, .ref (rf 0)), (1, .int v1), (2, .int v2)] → W p l e rm8_fromTerms s m args below meth c H locs 0 0 Q (F0 m 39 ls []) := by
      clear hw hl hP hD hS
      intro n39
      induction n39 with
      | zero =>
        intro v2 H locs ls hw hP hD hS hl
        rw [w8_fromTerms_L39] at hw
        exact hw.elim
      | succ n39 ih39 =>
        intro v2 H locs ls hw hP hD hS hl
        rw [w8_fromTerms_L39] at hw
        refine lv_iload_n hx hb dX8_fromTerms_39 rfl (lv_at hl 2 rfl) ?_
        refine lv_aload_n hx hb dX8_fromTerms_40 rfl (lv_at hl 0 rfl) ?_
        refine va_get (D := D) (ci := 8) (v := .int f_listed) (C := RX8) (T := TX8) (N := 35) hx hb hts hi9 hown hK hP 0 rfl rfl 14 (by decide) g54 (fun _ h9 => h9) rfl dX8_fromTerms_41 ?_
        refine lv_icmp_ge (tgt := 65) hx hb dX8_fromTerms_44 (by decide) (fun k => ?_) (fun k => ?_)
        · have hw := hw.1 k
          refine lv_aload_n hx hb dX8_fromTerms_65 rfl (lv_at hl 0 rfl) ?_
          refine va_get (D := D) (ci := 8) (v := .ref (rf 14)) (C := RX8) (T := TX8) (N := 35) hx hb hts hi9 hown hK hP 0 rfl rfl 13 (by decide) g51 (fun _ h9 => h9) rfl dX8_fromTerms_66 ?_
          refine lv_aload_n hx hb dX8_fromTerms_69 rfl (lv_at hl 0 rfl) ?_
          refine va_get (D := D) (ci := 8) (v := .int f_listed) (C := RX8) (T := TX8) (N := 35) hx hb hts hi9 hown hK hP 0 rfl rfl 14 (by decide) g54 (fun _ h9 => h9) rfl dX8_fromTerms_70 ?_
          refine lv_iconst (v := (1 : Int32)) hx hb dX8_fromTerms_73 (by decide) ?_
          refine lv_isub hx hb dX8_fromTerms_74 ?_
          obtain ⟨hin, hw⟩ := hw
          refine va_iald hx hb hK hP 3 0 rfl rfl hin dX8_fromTerms_75 ?_
          refine lv_i2l hx hb dX8_fromTerms_76 rfl ?_
          refine lv_topl (fun x77 ex77 => ?_)
          have hw := hw x77 ex77
          refine lv_lstore_n (lv' := [(2, .long x77), (0, .ref (rf 0)), (1, .int v1)]) hx hb dX8_fromTerms_77 rfl hl (by decide) rfl (fun ls hl => ?_)
          refine lv_lconst (v := (1 : Int64)) hx hb dX8_fromTerms_78 (by decide) ?_
          refine lv_lstore (lv' := [(4, .long (1 : Int64)), (2, .long x77), (0, .ref (rf 0)), (1, .int v1)]) hx hb dX8_fromTerms_79 hl (by decide) rfl (fun ls hl => ?_)
          refine lv_aload_n hx hb dX8_fromTerms_81 rfl (lv_at hl 2 rfl) ?_
          refine va_get (D := D) (ci := 8) (v := .int f_listed) (C := RX8) (T := TX8) (N := 35) hx hb hts hi9 hown hK hP 0 rfl rfl 14 (by decide) g54 (fun _ h9 => h9) rfl dX8_fromTerms_82 ?_
          refine lv_iconst (v := (2 : Int32)) hx hb dX8_fromTerms_85 (by decide) ?_
          refine lv_isub hx hb dX8_fromTerms_86 ?_
          refine lv_topi (fun x87 ex87 => ?_)
          have hw := hw x87 ex87
          refine lv_istore (lv' := [(6, .int x87), (4, .long (1 : Int64)), (2, .long x77), (0, .ref (rf 0)), (1, .int v1)]) hx hb dX8_fromTerms_87 hl (by decide) rfl (fun ls hl => ?_)
          obtain ⟨n89, hw⟩ := hw
          have LOOP_89 : ∀ (n89 : Nat) (v2 : Int64) (v4 : Int64) (v6 : Int32) (H : Heap) (locs : List Loc) (ls : Array Slot), w8_fromTerms_L89 f_above f_below f_list v1 post n89 v2 v4 v6 → va_P D vwCl [((rf 0), o8 rf f_terms f_runs f_leftAbove f_leftBelow f_rightAbove f_rightBelow f_listed f_fed f_read f_formed f_hasSnapshot), ((rf 1), ai cI 8 f_above), ((rf 2), ai cI 8 f_below), ((rf 14), ai cI 20 f_list)] H → va_D A [((rf 0), o8 rf f_terms f_runs f_leftAbove f_leftBelow f_rightAbove f_rightBelow f_listed f_fed f_read f_formed f_hasSnapshot), ((rf 1), ai cI 8 f_above), ((rf 2), ai cI 8 f_below), ((rf 14), ai cI 20 f_list)] → va_S A H0 H locs → lv_has ls 9 [(0, .ref (rf 0)), (1, .int v1), (2, .long v2), (4, .long v4), (6, .int v6)] → W p l e rm8_fromTerms s m args below meth c H locs 0 0 Q (F0 m 89 ls []) := by
            clear hw hl hP hD hS
            intro n89
            induction n89 with
            | zero =>
              intro v2 v4 v6 H locs ls hw hP hD hS hl
              rw [w8_fromTerms_L89] at hw
              exact hw.elim
            | succ n89 ih89 =>
              intro v2 v4 v6 H locs ls hw hP hD hS hl
              rw [w8_fromTerms_L89] at hw
              refine lv_iload hx hb dX8_fromTerms_89 (lv_at hl 4 rfl) ?_
              refine lv_if_lt (tgt := 141) hx hb dX8_fromTerms_91 (by decide) (fun k => ?_) (fun k => ?_)
              · have hw := hw.1 k
                refine lv_aload_n hx hb dX8_fromTerms_141 rfl (lv_at hl 0 rfl) ?_
                refine lv_iload_n hx hb dX8_fromTerms_142 rfl (lv_at hl 1 rfl) ?_
                refine lv_lload_n hx hb dX8_fromTerms_143 rfl (lv_at hl 2 rfl) ?_
                refine lv_lload hx hb dX8_fromTerms_144 (lv_at hl 3 rfl) ?_
                refine kcI (wc := [((rf 0), o8 rf f_terms f_runs f_leftAbove f_leftBelow f_rightAbove f_rightBelow f_listed f_fed f_read f_formed f_hasSnapshot), ((rf 1), ai cI 8 f_above), ((rf 2), ai cI 8 f_below)]) (wr := [((rf 14), ai cI 20 f_list)]) hP hD hS hA [0, 1, 2] [3] rfl rfl ⟨rfl, rfl, by decide⟩ (fun hPc hDc => rV (As := [.int v1, .long v2, .long v4]) (rest := []) C0 hK hN (c8_put l D cI cJ cN cR rf H.size f_terms f_runs f_leftAbove f_leftBelow f_rightAbove f_rightBelow f_listed f_fed f_read f_formed f_hasSnapshot f_above f_below v1 v2 v4 _ hw) 3 gX8_fromTerms_X8_put rfl ⟨rfl, rfl⟩ nm8_put ⟨Nat.le_of_ble_eq_true rfl, Nat.le_of_ble_eq_true rfl⟩ (q0 := 0) rfl rfl rfl rfl hl.1 rfl (Nat.le_of_ble_eq_true rfl) dX8_fromTerms_146 ⟨Nat.le_of_ble_eq_true rfl, Nat.le_of_ble_eq_true rfl⟩ hPc hDc) (fun r146 u146 H locs hw hP hD hS => ?_)
                obtain ⟨f_above_146, f_below_146⟩ := u146
                dsimp only at hw
                have hP : va_P D vwCl [((rf 14), ai cI 20 f_list), ((rf 0), o8 rf f_terms f_runs f_leftAbove f_leftBelow f_rightAbove f_rightBelow f_listed f_fed f_read f_formed f_hasSnapshot), ((rf 1), ai cI 8 f_above_146), ((rf 2), ai cI 8 f_below_146)] H := hP
                have hD : va_D A [((rf 14), ai cI 20 f_list), ((rf 0), o8 rf f_terms f_runs f_leftAbove f_leftBelow f_rightAbove f_rightBelow f_listed f_fed f_read f_formed f_hasSnapshot), ((rf 1), ai cI 8 f_above_146), ((rf 2), ai cI 8 f_below_146)] := hD
                obtain ⟨hP, hD⟩ := k_sub (ws' := [((rf 0), o8 rf f_terms f_runs f_leftAbove f_leftBelow f_rightAbove f_rightBelow f_listed f_fed f_read f_formed f_hasSnapshot), ((rf 1), ai cI 8 f_above_146), ((rf 2), ai cI 8 f_below_146), ((rf 14), ai cI 20 f_list)]) hP hD [1, 2, 3, 0] rfl rfl
                exact RET _ _ _ (f_above_146, f_below_146) _ _ hw hP hD hS dX8_fromTerms_149
              · have hw := hw.2 k
                refine lv_lload_n hx hb dX8_fromTerms_94 rfl (lv_at hl 2 rfl) ?_
                refine lv_lstore (lv' := [(7, .long v2), (0, .ref (rf 0)), (1, .int v1), (2, .long v2), (4, .long v4), (6, .int v6)]) hx hb dX8_fromTerms_95 hl (by decide) rfl (fun ls hl => ?_)
                refine lv_aload_n hx hb dX8_fromTerms_97 rfl (lv_at hl 1 rfl) ?_
                refine va_get (D := D) (ci := 8) (v := .ref (rf 14)) (C := RX8) (T := TX8) (N := 35) hx hb hts hi9 hown hK hP 0 rfl rfl 13 (by decide) g51 (fun _ h9 => h9) rfl dX8_fromTerms_98 ?_
                refine lv_iload hx hb dX8_fromTerms_101 (lv_at hl 5 rfl) ?_
                obtain ⟨hin, hw⟩ := hw
                refine va_iald hx hb hK hP 3 0 rfl rfl hin dX8_fromTerms_103 ?_
                refine lv_i2l hx hb dX8_fromTerms_104 rfl ?_
                refine lv_lload_n hx hb dX8_fromTerms_105 rfl (lv_at hl 3 rfl) ?_
                refine lv_lmul hx hb dX8_fromTerms_106 ?_
                refine lv_lload hx hb dX8_fromTerms_107 (lv_at hl 4 rfl) ?_
                refine lv_ladd hx hb dX8_fromTerms_109 ?_
                refine lv_topl (fun x110 ex110 => ?_)
                have hw := hw x110 ex110
                refine lv_lstore_n (lv' := [(2, .long x110), (7, .long v2), (0, .ref (rf 0)), (1, .int v1), (4, .long v4), (6, .int v6)]) hx hb dX8_fromTerms_110 rfl hl (by decide) rfl (fun ls hl => ?_)
                refine lv_lload hx hb dX8_fromTerms_111 (lv_at hl 1 rfl) ?_
                refine lv_lstore (lv' := [(4, .long v2), (2, .long x110), (7, .long v2), (0, .ref (rf 0)), (1, .int v1), (6, .int v6)]) hx hb dX8_fromTerms_113 hl (by decide) rfl (fun ls hl => ?_)
                refine lv_lload_n hx hb dX8_fromTerms_115 rfl (lv_at hl 1 rfl) ?_
                refine lv_ldc2 (v := (1000000 : Int64)) hx hb hown (hts (.constantLong RX8 129 (1000000)) (by decide +kernel)) dX8_fromTerms_116 ?_
                refine W.lcmp hx hb dX8_fromTerms_119 ?_
                refine lv_if_gt (tgt := 132) hx hb dX8_fromTerms_120 (by decide) (fun k => ?_) (fun k => ?_)
                · have hw := hw.1 ((lg_cmp_gt _ _).mp k)
                  refine lv_bipush (v := (-3 : Int32)) hx hb dX8_fromTerms_132 (by decide) ?_
                  exact RET _ _ _ (f_above, f_below) _ _ hw hP hD hS dX8_fromTerms_134
                · have hw := hw.2 (fun h => k ((lg_cmp_gt _ _).mpr h))
                  refine lv_lload hx hb dX8_fromTerms_123 (lv_at hl 0 rfl) ?_
                  refine lv_ldc2 (v := (1000000 : Int64)) hx hb hown (hts (.constantLong RX8 129 (1000000)) (by decide +kernel)) dX8_fromTerms_125 ?_
                  refine W.lcmp hx hb dX8_fromTerms_128 ?_
                  refine lv_if_le (tgt := 135) hx hb dX8_fromTerms_129 (by decide) (fun k => ?_) (fun k => ?_)
                  · have hw := hw.1 ((lg_cmp_le _ _).mp k)
                    obtain ⟨x135, ex135⟩ : ∃ y : Int32, y = (v6 + (-1 : Int32)) := ⟨_, rfl⟩
                    have hw := hw x135 ex135
                    refine lv_iinc (v := x135) (lv' := [(6, .int x135), (4, .long v2), (2, .long x110), (7, .long v2), (0, .ref (rf 0)), (1, .int v1)]) hx hb dX8_fromTerms_135 hl (k := 5) rfl (by rw [ex135]; rfl) (by decide) rfl (fun ls hl => ?_)
                    refine lv_goto (tgt := 89) hx hb dX8_fromTerms_138 (by decide) ?_
                    exact ih89 x110 v2 x135 _ _ ls hw hP hD hS (lv_sub hl [4, 5, 2, 1, 0] rfl)
                  · have hw := hw.2 (fun h => k ((lg_cmp_le _ _).mpr h))
                    refine lv_bipush (v := (-3 : Int32)) hx hb dX8_fromTerms_132 (by decide) ?_
                    exact RET _ _ _ (f_above, f_below) _ _ hw hP hD hS dX8_fromTerms_134
          exact LOOP_89 n89 x77 (1 : Int64) x87 _ _ ls hw hP hD hS (lv_sub hl [3, 4, 2, 1, 0] rfl)
        · have hw := hw.2 k
          refine lv_aload_n hx hb dX8_fromTerms_47 rfl (lv_at hl 0 rfl) ?_
          refine va_get (D := D) (ci := 8) (v := .ref (rf 14)) (C := RX8) (T := TX8) (N := 35) hx hb hts hi9 hown hK hP 0 rfl rfl 13 (by decide) g51 (fun _ h9 => h9) rfl dX8_fromTerms_48 ?_
          refine lv_iload_n hx hb dX8_fromTerms_51 rfl (lv_at hl 2 rfl) ?_
          obtain ⟨hin, hw⟩ := hw
          refine va_iald hx hb hK hP 3 0 rfl rfl hin dX8_fromTerms_52 ?_
          refine lv_if_ne (tgt := 59) hx hb dX8_fromTerms_53 (by decide) (fun k => ?_) (fun k => ?_)
          · have hw := hw.1 k
            obtain ⟨x59, ex59⟩ : ∃ y : Int32, y = (v2 + (1 : Int32)) := ⟨_, rfl⟩
            have hw := hw x59 ex59
            refine lv_iinc (v := x59) (lv' := [(2, .int x59), (0, .ref (rf 0)), (1, .int v1)]) hx hb dX8_fromTerms_59 hl (k := 2) rfl (by rw [ex59]; rfl) (by decide) rfl (fun ls hl => ?_)
            refine lv_goto (tgt := 39) hx hb dX8_fromTerms_62 (by decide) ?_
            exact ih39 x59 _ _ ls hw hP hD hS (lv_sub hl [1, 2, 0] rfl)
          · have hw := hw.2 k
            refine lv_bipush (v := (-2 : Int32)) hx hb dX8_fromTerms_56 (by decide) ?_
            exact RET _ _ _ (f_above, f_below) _ _ hw hP hD hS dX8_fromTerms_58
    exact LOOP_39 n39 (1 : Int32) _ _ ls hw hP hD hS (lv_sub hl [1, 2, 0] rfl)
  refine lv_aload_n hx hb dX8_fromTerms_0 rfl (lv_at hl 0 rfl) ?_
  refine lv_iload_n hx hb dX8_fromTerms_1 rfl (lv_at hl 1 rfl) ?_
  refine kcRI (wc := [((rf 0), o8 rf f_terms f_runs f_leftAbove f_leftBelow f_rightAbove f_rightBelow f_listed f_fed f_read f_formed f_hasSnapshot)]) hP [0] rfl (fun hPc => oV (As := [.int v1]) (rest := []) C0 hK hN (c8_isRegister l D cI cJ cN cR rf f_terms f_runs f_leftAbove f_leftBelow f_rightAbove f_rightBelow f_listed f_fed f_read f_formed f_hasSnapshot v1 _ hw) 1 gX8_fromTerms_X8_isRegister rfl ⟨rfl, rfl⟩ nm8_isRegister ⟨Nat.le_of_ble_eq_true rfl, Nat.le_of_ble_eq_true rfl⟩ (q0 := 0) rfl rfl rfl rfl hl.1 rfl (Nat.le_of_ble_eq_true rfl) dX8_fromTerms_2 ⟨Nat.le_of_ble_eq_true rfl, Nat.le_of_ble_eq_true rfl⟩ hPc) (fun r2 hw => ?_)
  obtain ⟨nb2, hw⟩ := hw
  refine lv_if_ne (tgt := 10) hx hb dX8_fromTerms_5 (by decide) (fun k => ?_) (fun k => ?_)
  · have hw := hw.1 k
    refine lv_aload_n hx hb dX8_fromTerms_10 rfl (lv_at hl 0 rfl) ?_
    refine va_get (D := D) (ci := 8) (v := .int f_listed) (C := RX8) (T := TX8) (N := 35) hx hb hts hi9 hown hK hP 0 rfl rfl 14 (by decide) g54 (fun _ h9 => h9) rfl dX8_fromTerms_11 ?_
    refine lv_if_eq (tgt := 34) hx hb dX8_fromTerms_14 (by decide) (fun k => ?_) (fun k => ?_)
    · have hw := hw.1 k
      refine lv_bipush (v := (-2 : Int32)) hx hb dX8_fromTerms_34 (by decide) ?_
      exact RET _ _ _ (f_above, f_below) _ _ hw hP hD hS dX8_fromTerms_36
    · have hw := hw.2 k
      refine lv_aload_n hx hb dX8_fromTerms_17 rfl (lv_at hl 0 rfl) ?_
      refine va_get (D := D) (ci := 8) (v := .int f_listed) (C := RX8) (T := TX8) (N := 35) hx hb hts hi9 hown hK hP 0 rfl rfl 14 (by decide) g54 (fun _ h9 => h9) rfl dX8_fromTerms_18 ?_
      refine lv_iconst (v := (1 : Int32)) hx hb dX8_fromTerms_21 (by decide) ?_
      refine lv_icmp_ne (tgt := 37) hx hb dX8_fromTerms_22 (by decide) (fun k => ?_) (fun k => ?_)
      · have hw := hw.1 k
        exact JOIN_37 f_above f_below _ _ ls hw hP hD hS (lv_sub hl [0, 1] rfl)
      · have hw := hw.2 k
        refine lv_aload_n hx hb dX8_fromTerms_25 rfl (lv_at hl 0 rfl) ?_
        refine va_get (D := D) (ci := 8) (v := .ref (rf 14)) (C := RX8) (T := TX8) (N := 35) hx hb hts hi9 hown hK hP 0 rfl rfl 13 (by decide) g51 (fun _ h9 => h9) rfl dX8_fromTerms_26 ?_
        refine lv_iconst (v := (0 : Int32)) hx hb dX8_fromTerms_29 (by decide) ?_
        obtain ⟨hin, hw⟩ := hw
        refine va_iald hx hb hK hP 3 0 rfl rfl hin dX8_fromTerms_30 ?_
        refine lv_if_ne (tgt := 37) hx hb dX8_fromTerms_31 (by decide) (fun k => ?_) (fun k => ?_)
        · have hw := hw.1 k
          exact JOIN_37 f_above f_below _ _ ls hw hP hD hS (lv_sub hl [0, 1] rfl)
        · have hw := hw.2 k
          refine lv_bipush (v := (-2 : Int32)) hx hb dX8_fromTerms_34 (by decide) ?_
          exact RET _ _ _ (f_above, f_below) _ _ hw hP hD hS dX8_fromTerms_36
  · have hw := hw.2 k
    refine lv_iconst (v := (-1 : Int32)) hx hb dX8_fromTerms_8 (by decide) ?_
    exact RET _ _ _ (f_above, f_below) _ _ hw hP hD hS dX8_fromTerms_9
abbrev rm8_less : Room := { frames := 0, cells := 0, slots := 0, locals := 0 }
theorem nm8_less : kNm yX8_less 2 := by decide +kernel
set_option maxHeartbeats 4000000 in
set_option maxRecDepth 100000 in
theorem c8_less (l : Launch) (D : va_G) (cI cJ cN cR : ClassId) (rf : Nat → Nat) (f_terms : Int32) (f_runs : Int32) (f_leftAbove : Int64) (f_leftBelow : Int64) (f_rightAbove : Int64) (f_rightBelow : Int64) (f_listed : Int32) (f_fed : Int32) (f_read : Int32) (f_formed : Int32) (f_hasSnapshot : Int32) (v1 : Int64) (v3 : Int64) (post : Int64 → Prop) (hw : w8_less v1 v3 post) : Met l yX8_less wsX8_less rm8_less (kR D (kT cI cJ cN cR) [.ref (rf 0), .long v1, .long v3] [((rf 0), o8 rf f_terms f_runs f_leftAbove f_leftBelow f_rightAbove f_rightBelow f_listed f_fed f_read f_formed f_hasSnapshot)]) (vp_Sl post) 0 0 (fun _ => False) := by
  refine kMetRL (cc := cX8_less) (maxL := 5) (by decide +kernel) rfl (Nat.le_of_ble_eq_true rfl) ?_
  intro p e s m args below meth c H ls Q C0 hK hN hP hl RET
  obtain ⟨hx, hb, hml, hown, hts⟩ := id C0
  have hl : lv_has ls 5 [(0, .ref (rf 0)), (1, .long v1), (3, .long v3)] := hl
  unfold w8_less at hw
  refine lv_lload_n hx hb dX8_less_0 rfl (lv_at hl 1 rfl) ?_
  refine lv_lload_n hx hb dX8_less_1 rfl (lv_at hl 2 rfl) ?_
  refine W.lcmp hx hb dX8_less_2 ?_
  refine lv_if_ge (tgt := 10) hx hb dX8_less_3 (by decide) (fun k => ?_) (fun k => ?_)
  · have hw := hw.1 ((lg_cmp_ge _ _).mp k)
    refine lv_lload_n hx hb dX8_less_10 rfl (lv_at hl 2 rfl) ?_
    exact RET _ _ _ hw dX8_less_11
  · have hw := hw.2 (fun h => k ((lg_cmp_ge _ _).mpr h))
    refine lv_lload_n hx hb dX8_less_6 rfl (lv_at hl 1 rfl) ?_
    refine lv_goto (tgt := 11) hx hb dX8_less_7 (by decide) ?_
    exact RET _ _ _ hw dX8_less_11
abbrev rm8_close : Room := { frames := 1, cells := 0, slots := 0, locals := 24 }
theorem nm8_close : kNm yX8_close 3 := by decide +kernel
set_option maxHeartbeats 4000000 in
set_option maxRecDepth 100000 in
theorem c8_close (l : Launch) (D : va_G) (cI cJ cN cR : ClassId) (rf : Nat → Nat) (sz : Nat) (f_terms : Int32) (f_runs : Int32) (f_leftAbove : Int64) (f_leftBelow : Int64) (f_rightAbove : Int64) (f_rightBelow : Int64) (f_listed : Int32) (f_fed : Int32) (f_read : Int32) (f_formed : Int32) (f_hasSnapshot : Int32) (v1 : Int64) (v3 : Int64) (v5 : Int64) (post : Int64 → Int64 → Int64 → Int64 → Prop) (hw : w8_close f_leftAbove f_leftBelow f_rightAbove f_rightBelow v1 v3 v5 post) : Met l yX8_close wsX8_close rm8_close (kP D (kT cI cJ cN cR) sz [.ref (rf 0), .long v1, .long v3, .long v5] [((rf 0), o8 rf f_terms f_runs f_leftAbove f_leftBelow f_rightAbove f_rightBelow f_listed f_fed f_read f_formed f_hasSnapshot)]) (kQv D [((rf 0), o8 rf f_terms f_runs f_leftAbove f_leftBelow f_rightAbove f_rightBelow f_listed f_fed f_read f_formed f_hasSnapshot)] sz (fun (u : Int64 × Int64 × Int64 × Int64) => post u.1 u.2.1 u.2.2.1 u.2.2.2) (fun (u : Int64 × Int64 × Int64 × Int64) => [((rf 0), o8 rf f_terms f_runs u.1 u.2.1 u.2.2.1 u.2.2.2 f_listed f_fed f_read f_formed f_hasSnapshot)])) 0 0 (va_A [((rf 0), o8 rf f_terms f_runs f_leftAbove f_leftBelow f_rightAbove f_rightBelow f_listed f_fed f_read f_formed f_hasSnapshot)] sz) := by
  refine kMetV (cc := cX8_close) (maxL := 13) (by decide +kernel) rfl (Nat.le_of_ble_eq_true rfl) ?_
  intro p e s m args below meth c H0 ls A Q C0 hK hN hP hD hS hA hl RET
  obtain ⟨hx, hb, hml, hown, hts⟩ := id C0
  have hl : lv_has ls 13 [(0, .ref (rf 0)), (1, .long v1), (3, .long v3), (5, .long v5)] := hl
  have g36 := hts (.fieldLink RX8 36 "SternBrocotExplorerModel" "leftBelow" "J") (by decide +kernel)
  have g42 := hts (.fieldLink RX8 42 "SternBrocotExplorerModel" "rightBelow" "J") (by decide +kernel)
  have g32 := hts (.fieldLink RX8 32 "SternBrocotExplorerModel" "leftAbove" "J") (by decide +kernel)
  have g39 := hts (.fieldLink RX8 39 "SternBrocotExplorerModel" "rightAbove" "J") (by decide +kernel)
  have hi9 : ∀ w ∈ wsX80, w ∈ wsX8_close := fun w h => List.mem_cons_of_mem _ (List.mem_append_right _ h)
  unfold w8_close at hw
  have hP : va_P D vwCl [((rf 0), o8 rf f_terms f_runs f_leftAbove f_leftBelow f_rightAbove f_rightBelow f_listed f_fed f_read f_formed f_hasSnapshot)] H0 := hP
  refine lv_aload_n hx hb dX8_close_0 rfl (lv_at hl 0 rfl) ?_
  refine kcV (wc := [((rf 0), o8 rf f_terms f_runs f_leftAbove f_leftBelow f_rightAbove f_rightBelow f_listed f_fed f_read f_formed f_hasSnapshot)]) (wr := []) hP hD hS hA [0] [] rfl rfl ⟨rfl, rfl, by decide⟩ (fun hPc hDc => rV (As := []) (rest := []) C0 hK hN (c8_toRoot l D cI cJ cN cR rf H0.size f_terms f_runs f_leftAbove f_leftBelow f_rightAbove f_rightBelow f_listed f_fed f_read f_formed f_hasSnapshot  _ hw) 0 gX8_close_X8_toRoot rfl ⟨rfl, rfl⟩ nm8_toRoot ⟨Nat.le_of_ble_eq_true rfl, Nat.le_of_ble_eq_true rfl⟩ (q0 := 0) rfl rfl rfl rfl hl.1 rfl (Nat.le_of_ble_eq_true rfl) dX8_close_1 ⟨Nat.le_of_ble_eq_true rfl, Nat.le_of_ble_eq_true rfl⟩ hPc hDc) (fun u1 H locs hw hP hD hS => ?_)
  obtain ⟨f_leftAbove_1, f_leftBelow_1, f_rightAbove_1, f_rightBelow_1⟩ := u1
  dsimp only at hw
  have hP : va_P D vwCl [((rf 0), o8 rf f_terms f_runs f_leftAbove_1 f_leftBelow_1 f_rightAbove_1 f_rightBelow_1 f_listed f_fed f_read f_formed f_hasSnapshot)] H := hP
  have hD : va_D A [((rf 0), o8 rf f_terms f_runs f_leftAbove_1 f_leftBelow_1 f_rightAbove_1 f_rightBelow_1 f_listed f_fed f_read f_formed f_hasSnapshot)] := hD
  obtain ⟨n4, hw⟩ := hw
  have LOOP_4 : ∀ (n4 : Nat) (f_leftAbove : Int64) (f_leftBelow : Int64) (f_rightAbove : Int64) (f_rightBelow : Int64) (H : Heap) (locs : List Loc) (ls : Array Slot), w8_close_L4 v1 v3 v5 post n4 f_leftAbove f_leftBelow f_rightAbove f_rightBelow → va_P D vwCl [((rf 0), o8 rf f_terms f_runs f_leftAbove f_leftBelow f_rightAbove f_rightBelow f_listed f_fed f_read f_formed f_hasSnapshot)] H → va_D A [((rf 0), o8 rf f_terms f_runs f_leftAbove f_leftBelow f_rightAbove f_rightBelow f_listed f_fed f_read f_formed f_hasSnapshot)] → va_S A H0 H locs → lv_has ls 13 [(0, .ref (rf 0)), (1, .long v1), (3, .long v3), (5, .long v5)] → W p l e rm8_close s m args below meth c H locs 0 0 Q (F0 m 4 ls []) := by
    clear hw hl hP hD hS
    intro n4
    induction n4 with
    | zero =>
      intro f_leftAbove f_leftBelow f_rightAbove f_rightBelow H locs ls hw hP hD hS hl
      rw [w8_close_L4] at hw
      exact hw.elim
    | succ n4 ih4 =>
      intro f_leftAbove f_leftBelow f_rightAbove f_rightBelow H locs ls hw hP hD hS hl
      rw [w8_close_L4] at hw
      refine lv_aload_n hx hb dX8_close_4 rfl (lv_at hl 0 rfl) ?_
      refine va_get (D := D) (ci := 8) (v := .long f_leftBelow) (C := RX8) (T := TX8) (N := 35) hx hb hts hi9 hown hK hP 0 rfl rfl 8 (by decide) g36 (fun _ h9 => h9) rfl dX8_close_5 ?_
      refine lv_aload_n hx hb dX8_close_8 rfl (lv_at hl 0 rfl) ?_
      refine va_get (D := D) (ci := 8) (v := .long f_rightBelow) (C := RX8) (T := TX8) (N := 35) hx hb hts hi9 hown hK hP 0 rfl rfl 10 (by decide) g42 (fun _ h9 => h9) rfl dX8_close_9 ?_
      refine lv_ladd hx hb dX8_close_12 ?_
      refine lv_lload hx hb dX8_close_13 (lv_at hl 3 rfl) ?_
      refine W.lcmp hx hb dX8_close_15 ?_
      refine lv_if_gt (tgt := 139) hx hb dX8_close_16 (by decide) (fun k => ?_) (fun k => ?_)
      · have hw := hw.1 ((lg_cmp_gt _ _).mp k)
        exact RET _ _ (f_leftAbove, f_leftBelow, f_rightAbove, f_rightBelow) _ _ hw hP hD hS dX8_close_139
      · have hw := hw.2 (fun h => k ((lg_cmp_gt _ _).mpr h))
        refine lv_lload_n hx hb dX8_close_19 rfl (lv_at hl 1 rfl) ?_
        refine lv_aload_n hx hb dX8_close_20 rfl (lv_at hl 0 rfl) ?_
        refine va_get (D := D) (ci := 8) (v := .long f_leftBelow) (C := RX8) (T := TX8) (N := 35) hx hb hts hi9 hown hK hP 0 rfl rfl 8 (by decide) g36 (fun _ h9 => h9) rfl dX8_close_21 ?_
        refine lv_lmul hx hb dX8_close_24 ?_
        refine lv_lload_n hx hb dX8_close_25 rfl (lv_at hl 2 rfl) ?_
        refine lv_aload_n hx hb dX8_close_26 rfl (lv_at hl 0 rfl) ?_
        refine va_get (D := D) (ci := 8) (v := .long f_leftAbove) (C := RX8) (T := TX8) (N := 35) hx hb hts hi9 hown hK hP 0 rfl rfl 7 (by decide) g32 (fun _ h9 => h9) rfl dX8_close_27 ?_
        refine lv_lmul hx hb dX8_close_30 ?_
        refine lv_lsub hx hb dX8_close_31 ?_
        refine lv_topl (fun x32 ex32 => ?_)
        have hw := hw x32 ex32
        refine lv_lstore (lv' := [(7, .long x32), (0, .ref (rf 0)), (1, .long v1), (3, .long v3), (5, .long v5)]) hx hb dX8_close_32 hl (by decide) rfl (fun ls hl => ?_)
        refine lv_lload_n hx hb dX8_close_34 rfl (lv_at hl 3 rfl) ?_
        refine lv_aload_n hx hb dX8_close_35 rfl (lv_at hl 1 rfl) ?_
        refine va_get (D := D) (ci := 8) (v := .long f_rightAbove) (C := RX8) (T := TX8) (N := 35) hx hb hts hi9 hown hK hP 0 rfl rfl 9 (by decide) g39 (fun _ h9 => h9) rfl dX8_close_36 ?_
        refine lv_lmul hx hb dX8_close_39 ?_
        refine lv_lload_n hx hb dX8_close_40 rfl (lv_at hl 2 rfl) ?_
        refine lv_aload_n hx hb dX8_close_41 rfl (lv_at hl 1 rfl) ?_
        refine va_get (D := D) (ci := 8) (v := .long f_rightBelow) (C := RX8) (T := TX8) (N := 35) hx hb hts hi9 hown hK hP 0 rfl rfl 10 (by decide) g42 (fun _ h9 => h9) rfl dX8_close_42 ?_
        refine lv_lmul hx hb dX8_close_45 ?_
        refine lv_lsub hx hb dX8_close_46 ?_
        refine lv_topl (fun x47 ex47 => ?_)
        have hw := hw x47 ex47
        refine lv_lstore (lv' := [(9, .long x47), (7, .long x32), (0, .ref (rf 0)), (1, .long v1), (3, .long v3), (5, .long v5)]) hx hb dX8_close_47 hl (by decide) rfl (fun ls hl => ?_)
        refine lv_lload hx hb dX8_close_49 (lv_at hl 1 rfl) ?_
        refine lv_lload hx hb dX8_close_51 (lv_at hl 0 rfl) ?_
        refine W.lcmp hx hb dX8_close_53 ?_
        refine lv_if_le (tgt := 105) hx hb dX8_close_54 (by decide) (fun k => ?_) (fun k => ?_)
        · have hw := hw.1 ((lg_cmp_le _ _).mp k)
          refine lv_lload hx hb dX8_close_105 (lv_at hl 0 rfl) ?_
          refine lv_lconst (v := (1 : Int64)) hx hb dX8_close_107 (by decide) ?_
          refine lv_lsub hx hb dX8_close_108 ?_
          refine lv_lload hx hb dX8_close_109 (lv_at hl 1 rfl) ?_
          obtain ⟨hne, hw⟩ := hw
          refine lv_ldiv hx hb dX8_close_111 hne ?_
          refine lv_topl (fun x112 ex112 => ?_)
          have hw := hw x112 ex112
          refine lv_lstore (lv' := [(11, .long x112), (9, .long x47), (7, .long x32), (0, .ref (rf 0)), (1, .long v1), (3, .long v3), (5, .long v5)]) hx hb dX8_close_112 hl (by decide) rfl (fun ls hl => ?_)
          refine lv_aload_n hx hb dX8_close_114 rfl (lv_at hl 3 rfl) ?_
          refine lv_aload_n hx hb dX8_close_115 rfl (lv_at hl 3 rfl) ?_
          refine lv_lload hx hb dX8_close_116 (lv_at hl 0 rfl) ?_
          refine lv_lload hx hb dX8_close_118 (lv_at hl 6 rfl) ?_
          refine lv_aload_n hx hb dX8_close_120 rfl (lv_at hl 3 rfl) ?_
          refine va_get (D := D) (ci := 8) (v := .long f_rightBelow) (C := RX8) (T := TX8) (N := 35) hx hb hts hi9 hown hK hP 0 rfl rfl 10 (by decide) g42 (fun _ h9 => h9) rfl dX8_close_121 ?_
          refine lv_lsub hx hb dX8_close_124 ?_
          refine lv_aload_n hx hb dX8_close_125 rfl (lv_at hl 3 rfl) ?_
          refine va_get (D := D) (ci := 8) (v := .long f_leftBelow) (C := RX8) (T := TX8) (N := 35) hx hb hts hi9 hown hK hP 0 rfl rfl 8 (by decide) g36 (fun _ h9 => h9) rfl dX8_close_126 ?_
          obtain ⟨hne, hw⟩ := hw
          refine lv_ldiv hx hb dX8_close_129 hne ?_
          refine kcRL (wc := [((rf 0), o8 rf f_terms f_runs f_leftAbove f_leftBelow f_rightAbove f_rightBelow f_listed f_fed f_read f_formed f_hasSnapshot)]) hP [0] rfl (fun hPc => oV (As := [.long x112, .long ((v5 - f_rightBelow) / f_leftBelow)]) (rest := [.ref (rf 0)]) C0 hK hN (c8_less l D cI cJ cN cR rf f_terms f_runs f_leftAbove f_leftBelow f_rightAbove f_rightBelow f_listed f_fed f_read f_formed f_hasSnapshot x112 ((v5 - f_rightBelow) / f_leftBelow) _ hw) 2 gX8_close_X8_less rfl ⟨rfl, rfl⟩ nm8_less ⟨Nat.le_of_ble_eq_true rfl, Nat.le_of_ble_eq_true rfl⟩ (q0 := 0) rfl rfl rfl rfl hl.1 rfl (Nat.le_of_ble_eq_true rfl) dX8_close_130 ⟨Nat.le_of_ble_eq_true rfl, Nat.le_of_ble_eq_true rfl⟩ hPc) (fun r130 hw => ?_)
          refine kcV (wc := [((rf 0), o8 rf f_terms f_runs f_leftAbove f_leftBelow f_rightAbove f_rightBelow f_listed f_fed f_read f_formed f_hasSnapshot)]) (wr := []) hP hD hS hA [0] [] rfl rfl ⟨rfl, rfl, by decide⟩ (fun hPc hDc => rV (As := [.long r130]) (rest := []) C0 hK hN (c8_goLeft l D cI cJ cN cR rf H.size f_terms f_runs f_leftAbove f_leftBelow f_rightAbove f_rightBelow f_listed f_fed f_read f_formed f_hasSnapshot r130 _ hw) 1 gX8_close_X8_goLeft rfl ⟨rfl, rfl⟩ nm8_goLeft ⟨Nat.le_of_ble_eq_true rfl, Nat.le_of_ble_eq_true rfl⟩ (q0 := 0) rfl rfl rfl rfl hl.1 rfl (Nat.le_of_ble_eq_true rfl) dX8_close_133 ⟨Nat.le_of_ble_eq_true rfl, Nat.le_of_ble_eq_true rfl⟩ hPc hDc) (fun u133 H locs hw hP hD hS => ?_)
          obtain ⟨f_rightAbove_133, f_rightBelow_133⟩ := u133
          dsimp only at hw
          have hP : va_P D vwCl [((rf 0), o8 rf f_terms f_runs f_leftAbove f_leftBelow f_rightAbove_133 f_rightBelow_133 f_listed f_fed f_read f_formed f_hasSnapshot)] H := hP
          have hD : va_D A [((rf 0), o8 rf f_terms f_runs f_leftAbove f_leftBelow f_rightAbove_133 f_rightBelow_133 f_listed f_fed f_read f_formed f_hasSnapshot)] := hD
          refine lv_goto (tgt := 4) hx hb dX8_close_136 (by decide) ?_
          exact ih4 f_leftAbove f_leftBelow f_rightAbove_133 f_rightBelow_133 _ _ ls hw hP hD hS (lv_sub hl [3, 4, 5, 6] rfl)
        · have hw := hw.2 (fun h => k ((lg_cmp_le _ _).mpr h))
          refine lv_lload hx hb dX8_close_57 (lv_at hl 1 rfl) ?_
          refine lv_lconst (v := (1 : Int64)) hx hb dX8_close_59 (by decide) ?_
          refine lv_lsub hx hb dX8_close_60 ?_
          refine lv_lload hx hb dX8_close_61 (lv_at hl 0 rfl) ?_
          obtain ⟨hne, hw⟩ := hw
          refine lv_ldiv hx hb dX8_close_63 hne ?_
          refine lv_topl (fun x64 ex64 => ?_)
          have hw := hw x64 ex64
          refine lv_lstore (lv' := [(11, .long x64), (9, .long x47), (7, .long x32), (0, .ref (rf 0)), (1, .long v1), (3, .long v3), (5, .long v5)]) hx hb dX8_close_64 hl (by decide) rfl (fun ls hl => ?_)
          refine lv_aload_n hx hb dX8_close_66 rfl (lv_at hl 3 rfl) ?_
          refine lv_aload_n hx hb dX8_close_67 rfl (lv_at hl 3 rfl) ?_
          refine va_get (D := D) (ci := 8) (v := .long f_rightBelow) (C := RX8) (T := TX8) (N := 35) hx hb hts hi9 hown hK hP 0 rfl rfl 10 (by decide) g42 (fun _ h9 => h9) rfl dX8_close_68 ?_
          refine lv_lconst (v := (0 : Int64)) hx hb dX8_close_71 (by decide) ?_
          refine W.lcmp hx hb dX8_close_72 ?_
          refine lv_if_ne (tgt := 81) hx hb dX8_close_73 (by decide) (fun k => ?_) (fun k => ?_)
          · have hw := hw.1 (fun h => k ((lg_cmp_eq _ _).mpr h))
            refine lv_aload_n hx hb dX8_close_81 rfl (lv_at hl 3 rfl) ?_
            refine lv_lload hx hb dX8_close_82 (lv_at hl 0 rfl) ?_
            refine lv_lload hx hb dX8_close_84 (lv_at hl 6 rfl) ?_
            refine lv_aload_n hx hb dX8_close_86 rfl (lv_at hl 3 rfl) ?_
            refine va_get (D := D) (ci := 8) (v := .long f_leftBelow) (C := RX8) (T := TX8) (N := 35) hx hb hts hi9 hown hK hP 0 rfl rfl 8 (by decide) g36 (fun _ h9 => h9) rfl dX8_close_87 ?_
            refine lv_lsub hx hb dX8_close_90 ?_
            refine lv_aload_n hx hb dX8_close_91 rfl (lv_at hl 3 rfl) ?_
            refine va_get (D := D) (ci := 8) (v := .long f_rightBelow) (C := RX8) (T := TX8) (N := 35) hx hb hts hi9 hown hK hP 0 rfl rfl 10 (by decide) g42 (fun _ h9 => h9) rfl dX8_close_92 ?_
            obtain ⟨hne, hw⟩ := hw
            refine lv_ldiv hx hb dX8_close_95 hne ?_
            refine kcRL (wc := [((rf 0), o8 rf f_terms f_runs f_leftAbove f_leftBelow f_rightAbove f_rightBelow f_listed f_fed f_read f_formed f_hasSnapshot)]) hP [0] rfl (fun hPc => oV (As := [.long x64, .long ((v5 - f_leftBelow) / f_rightBelow)]) (rest := [.ref (rf 0)]) C0 hK hN (c8_less l D cI cJ cN cR rf f_terms f_runs f_leftAbove f_leftBelow f_rightAbove f_rightBelow f_listed f_fed f_read f_formed f_hasSnapshot x64 ((v5 - f_leftBelow) / f_rightBelow) _ hw) 2 gX8_close_X8_less rfl ⟨rfl, rfl⟩ nm8_less ⟨Nat.le_of_ble_eq_true rfl, Nat.le_of_ble_eq_true rfl⟩ (q0 := 0) rfl rfl rfl rfl hl.1 rfl (Nat.le_of_ble_eq_true rfl) dX8_close_96 ⟨Nat.le_of_ble_eq_true rfl, Nat.le_of_ble_eq_true rfl⟩ hPc) (fun r96 hw => ?_)
            refine kcV (wc := [((rf 0), o8 rf f_terms f_runs f_leftAbove f_leftBelow f_rightAbove f_rightBelow f_listed f_fed f_read f_formed f_hasSnapshot)]) (wr := []) hP hD hS hA [0] [] rfl rfl ⟨rfl, rfl, by decide⟩ (fun hPc hDc => rV (As := [.long r96]) (rest := []) C0 hK hN (c8_goRight l D cI cJ cN cR rf H.size f_terms f_runs f_leftAbove f_leftBelow f_rightAbove f_rightBelow f_listed f_fed f_read f_formed f_hasSnapshot r96 _ hw) 1 gX8_close_X8_goRight rfl ⟨rfl, rfl⟩ nm8_goRight ⟨Nat.le_of_ble_eq_true rfl, Nat.le_of_ble_eq_true rfl⟩ (q0 := 0) rfl rfl rfl rfl hl.1 rfl (Nat.le_of_ble_eq_true rfl) dX8_close_99 ⟨Nat.le_of_ble_eq_true rfl, Nat.le_of_ble_eq_true rfl⟩ hPc hDc) (fun u99 H locs hw hP hD hS => ?_)
            obtain ⟨f_leftAbove_99, f_leftBelow_99⟩ := u99
            dsimp only at hw
            have hP : va_P D vwCl [((rf 0), o8 rf f_terms f_runs f_leftAbove_99 f_leftBelow_99 f_rightAbove f_rightBelow f_listed f_fed f_read f_formed f_hasSnapshot)] H := hP
            have hD : va_D A [((rf 0), o8 rf f_terms f_runs f_leftAbove_99 f_leftBelow_99 f_rightAbove f_rightBelow f_listed f_fed f_read f_formed f_hasSnapshot)] := hD
            refine lv_goto (tgt := 136) hx hb dX8_close_102 (by decide) ?_
            refine lv_goto (tgt := 4) hx hb dX8_close_136 (by decide) ?_
            exact ih4 f_leftAbove_99 f_leftBelow_99 f_rightAbove f_rightBelow _ _ ls hw hP hD hS (lv_sub hl [3, 4, 5, 6] rfl)
          · have hw := hw.2 ((lg_cmp_eq _ _).mp k)
            refine lv_lload hx hb dX8_close_76 (lv_at hl 0 rfl) ?_
            refine lv_goto (tgt := 99) hx hb dX8_close_78 (by decide) ?_
            refine kcV (wc := [((rf 0), o8 rf f_terms f_runs f_leftAbove f_leftBelow f_rightAbove f_rightBelow f_listed f_fed f_read f_formed f_hasSnapshot)]) (wr := []) hP hD hS hA [0] [] rfl rfl ⟨rfl, rfl, by decide⟩ (fun hPc hDc => rV (As := [.long x64]) (rest := []) C0 hK hN (c8_goRight l D cI cJ cN cR rf H.size f_terms f_runs f_leftAbove f_leftBelow f_rightAbove f_rightBelow f_listed f_fed f_read f_formed f_hasSnapshot x64 _ hw) 1 gX8_close_X8_goRight rfl ⟨rfl, rfl⟩ nm8_goRight ⟨Nat.le_of_ble_eq_true rfl, Nat.le_of_ble_eq_true rfl⟩ (q0 := 0) rfl rfl rfl rfl hl.1 rfl (Nat.le_of_ble_eq_true rfl) dX8_close_99 ⟨Nat.le_of_ble_eq_true rfl, Nat.le_of_ble_eq_true rfl⟩ hPc hDc) (fun u99 H locs hw hP hD hS => ?_)
            obtain ⟨f_leftAbove_99, f_leftBelow_99⟩ := u99
            dsimp only at hw
            have hP : va_P D vwCl [((rf 0), o8 rf f_terms f_runs f_leftAbove_99 f_leftBelow_99 f_rightAbove f_rightBelow f_listed f_fed f_read f_formed f_hasSnapshot)] H := hP
            have hD : va_D A [((rf 0), o8 rf f_terms f_runs f_leftAbove_99 f_leftBelow_99 f_rightAbove f_rightBelow f_listed f_fed f_read f_formed f_hasSnapshot)] := hD
            refine lv_goto (tgt := 136) hx hb dX8_close_102 (by decide) ?_
            refine lv_goto (tgt := 4) hx hb dX8_close_136 (by decide) ?_
            exact ih4 f_leftAbove_99 f_leftBelow_99 f_rightAbove f_rightBelow _ _ ls hw hP hD hS (lv_sub hl [3, 4, 5, 6] rfl)
  exact LOOP_4 n4 f_leftAbove_1 f_leftBelow_1 f_rightAbove_1 f_rightBelow_1 _ _ ls hw hP hD hS (lv_sub hl [0, 1, 2, 3] rfl)
abbrev rm8_best : Room := { frames := 2, cells := 0, slots := 0, locals := 57 }
theorem nm8_best : kNm yX8_best 4 := by decide +kernel
set_option maxHeartbeats 4000000 in
set_option maxRecDepth 100000 in
theorem c8_best (l : Launch) (D : va_G) (cI cJ cN cR : ClassId) (rf : Nat → Nat) (sz : Nat) (f_terms : Int32) (f_runs : Int32) (f_leftAbove : Int64) (f_leftBelow : Int64) (f_rightAbove : Int64) (f_rightBelow : Int64) (f_listed : Int32) (f_fed : Int32) (f_read : Int32) (f_formed : Int32) (f_hasSnapshot : Int32) (f_above : (Nat → Int32)) (f_below : (Nat → Int32)) (v1 : Int32) (v2 : Int32) (v3 : Int32) (v4 : Int32) (post : Int32 → Int64 → Int64 → Int64 → Int64 → (Nat → Int32) → (Nat → Int32) → Prop) (hw : w8_best f_leftAbove f_leftBelow f_rightAbove f_rightBelow f_above f_below v1 v2 v3 v4 post) : Met l yX8_best wsX8_best rm8_best (kP D (kT cI cJ cN cR) sz [.ref (rf 0), .int v1, .int v2, .int v3, .int v4] [((rf 0), o8 rf f_terms f_runs f_leftAbove f_leftBelow f_rightAbove f_rightBelow f_listed f_fed f_read f_formed f_hasSnapshot), ((rf 1), ai cI 8 f_above), ((rf 2), ai cI 8 f_below)]) (kQi D [((rf 0), o8 rf f_terms f_runs f_leftAbove f_leftBelow f_rightAbove f_rightBelow f_listed f_fed f_read f_formed f_hasSnapshot), ((rf 1), ai cI 8 f_above), ((rf 2), ai cI 8 f_below)] sz (fun (r : Int32) (u : Int64 × Int64 × Int64 × Int64 × (Nat → Int32) × (Nat → Int32)) => post r u.1 u.2.1 u.2.2.1 u.2.2.2.1 u.2.2.2.2.1 u.2.2.2.2.2) (fun (u : Int64 × Int64 × Int64 × Int64 × (Nat → Int32) × (Nat → Int32)) => [((rf 0), o8 rf f_terms f_runs u.1 u.2.1 u.2.2.1 u.2.2.2.1 f_listed f_fed f_read f_formed f_hasSnapshot), ((rf 1), ai cI 8 u.2.2.2.2.1), ((rf 2), ai cI 8 u.2.2.2.2.2)])) 0 0 (va_A [((rf 0), o8 rf f_terms f_runs f_leftAbove f_leftBelow f_rightAbove f_rightBelow f_listed f_fed f_read f_formed f_hasSnapshot), ((rf 1), ai cI 8 f_above), ((rf 2), ai cI 8 f_below)] sz) := by
  refine kMetI (cc := cX8_best) (maxL := 14) (by decide +kernel) rfl (Nat.le_of_ble_eq_true rfl) ?_
  intro p e s m args below meth c H0 ls A Q C0 hK hN hP hD hS hA hl RET
  obtain ⟨hx, hb, hml, hown, hts⟩ := id C0
  have hl : lv_has ls 14 [(0, .ref (rf 0)), (1, .int v1), (2, .int v2), (3, .int v3), (4, .int v4)] := hl
  have g7 := hts (.fieldLink RX8 7 "SternBrocotExplorerModel" "above" "[I") (by decide +kernel)
  have g13 := hts (.fieldLink RX8 13 "SternBrocotExplorerModel" "below" "[I") (by decide +kernel)
  have g36 := hts (.fieldLink RX8 36 "SternBrocotExplorerModel" "leftBelow" "J") (by decide +kernel)
  have g32 := hts (.fieldLink RX8 32 "SternBrocotExplorerModel" "leftAbove" "J") (by decide +kernel)
  have g42 := hts (.fieldLink RX8 42 "SternBrocotExplorerModel" "rightBelow" "J") (by decide +kernel)
  have g39 := hts (.fieldLink RX8 39 "SternBrocotExplorerModel" "rightAbove" "J") (by decide +kernel)
  have hi9 : ∀ w ∈ wsX80, w ∈ wsX8_best := fun w h => List.mem_cons_of_mem _ (List.mem_append_right _ h)
  unfold w8_best at hw
  have hP : va_P D vwCl [((rf 0), o8 rf f_terms f_runs f_leftAbove f_leftBelow f_rightAbove f_rightBelow f_listed f_fed f_read f_formed f_hasSnapshot), ((rf 1), ai cI 8 f_above), ((rf 2), ai cI 8 f_below)] H0 := hP
  have JOIN_177 : ∀ (f_leftAbove : Int64) (f_leftBelow : Int64) (f_rightAbove : Int64) (f_rightBelow : Int64) (f_above : (Nat → Int32)) (f_below : (Nat → Int32)) (s0 : Int32) (H : Heap) (locs : List Loc) (ls : Array Slot), w8_best_J177 f_leftAbove f_leftBelow f_rightAbove f_rightBelow f_above f_below v1 s0 post → va_P D vwCl [((rf 0), o8 rf f_terms f_runs f_leftAbove f_leftBelow f_rightAbove f_rightBelow f_listed f_fed f_read f_formed f_hasSnapshot), ((rf 1), ai cI 8 f_above), ((rf 2), ai cI 8 f_below)] H → va_D A [((rf 0), o8 rf f_terms f_runs f_leftAbove f_leftBelow f_rightAbove f_rightBelow f_listed f_fed f_read f_formed f_hasSnapshot), ((rf 1), ai cI 8 f_above), ((rf 2), ai cI 8 f_below)] → va_S A H0 H locs → lv_has ls 14 [(0, .ref (rf 0)), (1, .int v1)] → W p l e rm8_best s m args below meth c H locs 0 0 Q (F0 m 177 ls [.int s0]) := by
    intro f_leftAbove f_leftBelow f_rightAbove f_rightBelow f_above f_below s0 H locs ls hw hP hD hS hl
    unfold w8_best_J177 at hw
    refine lv_istore (lv' := [(13, .int s0), (0, .ref (rf 0)), (1, .int v1)]) hx hb dX8_best_177 hl (by decide) rfl (fun ls hl => ?_)
    refine lv_iload hx hb dX8_best_179 (lv_at hl 0 rfl) ?_
    refine lv_if_ne (tgt := 198) hx hb dX8_best_181 (by decide) (fun k => ?_) (fun k => ?_)
    · have hw := hw.1 k
      refine lv_aload_n hx hb dX8_best_198 rfl (lv_at hl 1 rfl) ?_
      refine va_get (D := D) (ci := 8) (v := .long f_leftAbove) (C := RX8) (T := TX8) (N := 35) hx hb hts hi9 hown hK hP 0 rfl rfl 7 (by decide) g32 (fun _ h9 => h9) rfl dX8_best_199 ?_
      refine lv_lconst (v := (0 : Int64)) hx hb dX8_best_202 (by decide) ?_
      refine W.lcmp hx hb dX8_best_203 ?_
      refine lv_if_ne (tgt := 212) hx hb dX8_best_204 (by decide) (fun k => ?_) (fun k => ?_)
      · have hw := hw.1 (fun h => k ((lg_cmp_eq _ _).mpr h))
        refine lv_aload_n hx hb dX8_best_212 rfl (lv_at hl 1 rfl) ?_
        refine lv_iload_n hx hb dX8_best_213 rfl (lv_at hl 2 rfl) ?_
        refine lv_aload_n hx hb dX8_best_214 rfl (lv_at hl 1 rfl) ?_
        refine va_get (D := D) (ci := 8) (v := .long f_leftAbove) (C := RX8) (T := TX8) (N := 35) hx hb hts hi9 hown hK hP 0 rfl rfl 7 (by decide) g32 (fun _ h9 => h9) rfl dX8_best_215 ?_
        refine lv_aload_n hx hb dX8_best_218 rfl (lv_at hl 1 rfl) ?_
        refine va_get (D := D) (ci := 8) (v := .long f_leftBelow) (C := RX8) (T := TX8) (N := 35) hx hb hts hi9 hown hK hP 0 rfl rfl 8 (by decide) g36 (fun _ h9 => h9) rfl dX8_best_219 ?_
        refine kcI (wc := [((rf 0), o8 rf f_terms f_runs f_leftAbove f_leftBelow f_rightAbove f_rightBelow f_listed f_fed f_read f_formed f_hasSnapshot), ((rf 1), ai cI 8 f_above), ((rf 2), ai cI 8 f_below)]) (wr := []) hP hD hS hA [0, 1, 2] [] rfl rfl ⟨rfl, rfl, by decide⟩ (fun hPc hDc => rV (As := [.int v1, .long f_leftAbove, .long f_leftBelow]) (rest := []) C0 hK hN (c8_put l D cI cJ cN cR rf H.size f_terms f_runs f_leftAbove f_leftBelow f_rightAbove f_rightBelow f_listed f_fed f_read f_formed f_hasSnapshot f_above f_below v1 f_leftAbove f_leftBelow _ hw) 3 gX8_best_X8_put rfl ⟨rfl, rfl⟩ nm8_put ⟨Nat.le_of_ble_eq_true rfl, Nat.le_of_ble_eq_true rfl⟩ (q0 := 0) rfl rfl rfl rfl hl.1 rfl (Nat.le_of_ble_eq_true rfl) dX8_best_222 ⟨Nat.le_of_ble_eq_true rfl, Nat.le_of_ble_eq_true rfl⟩ hPc hDc) (fun r222 u222 H locs hw hP hD hS => ?_)
        obtain ⟨f_above_222, f_below_222⟩ := u222
        dsimp only at hw
        have hP : va_P D vwCl [((rf 0), o8 rf f_terms f_runs f_leftAbove f_leftBelow f_rightAbove f_rightBelow f_listed f_fed f_read f_formed f_hasSnapshot), ((rf 1), ai cI 8 f_above_222), ((rf 2), ai cI 8 f_below_222)] H := hP
        have hD : va_D A [((rf 0), o8 rf f_terms f_runs f_leftAbove f_leftBelow f_rightAbove f_rightBelow f_listed f_fed f_read f_formed f_hasSnapshot), ((rf 1), ai cI 8 f_above_222), ((rf 2), ai cI 8 f_below_222)] := hD
        exact RET _ _ _ (f_leftAbove, f_leftBelow, f_rightAbove, f_rightBelow, f_above_222, f_below_222) _ _ hw hP hD hS dX8_best_225
      · have hw := hw.2 ((lg_cmp_eq _ _).mp k)
        refine lv_bipush (v := (-2 : Int32)) hx hb dX8_best_207 (by decide) ?_
        refine lv_goto (tgt := 225) hx hb dX8_best_209 (by decide) ?_
        exact RET _ _ _ (f_leftAbove, f_leftBelow, f_rightAbove, f_rightBelow, f_above, f_below) _ _ hw hP hD hS dX8_best_225
    · have hw := hw.2 k
      refine lv_aload_n hx hb dX8_best_184 rfl (lv_at hl 1 rfl) ?_
      refine lv_iload_n hx hb dX8_best_185 rfl (lv_at hl 2 rfl) ?_
      refine lv_aload_n hx hb dX8_best_186 rfl (lv_at hl 1 rfl) ?_
      refine va_get (D := D) (ci := 8) (v := .long f_rightAbove) (C := RX8) (T := TX8) (N := 35) hx hb hts hi9 hown hK hP 0 rfl rfl 9 (by decide) g39 (fun _ h9 => h9) rfl dX8_best_187 ?_
      refine lv_aload_n hx hb dX8_best_190 rfl (lv_at hl 1 rfl) ?_
      refine va_get (D := D) (ci := 8) (v := .long f_rightBelow) (C := RX8) (T := TX8) (N := 35) hx hb hts hi9 hown hK hP 0 rfl rfl 10 (by decide) g42 (fun _ h9 => h9) rfl dX8_best_191 ?_
      refine kcI (wc := [((rf 0), o8 rf f_terms f_runs f_leftAbove f_leftBelow f_rightAbove f_rightBelow f_listed f_fed f_read f_formed f_hasSnapshot), ((rf 1), ai cI 8 f_above), ((rf 2), ai cI 8 f_below)]) (wr := []) hP hD hS hA [0, 1, 2] [] rfl rfl ⟨rfl, rfl, by decide⟩ (fun hPc hDc => rV (As := [.int v1, .long f_rightAbove, .long f_rightBelow]) (rest := []) C0 hK hN (c8_put l D cI cJ cN cR rf H.size f_terms f_runs f_leftAbove f_leftBelow f_rightAbove f_rightBelow f_listed f_fed f_read f_formed f_hasSnapshot f_above f_below v1 f_rightAbove f_rightBelow _ hw) 3 gX8_best_X8_put rfl ⟨rfl, rfl⟩ nm8_put ⟨Nat.le_of_ble_eq_true rfl, Nat.le_of_ble_eq_true rfl⟩ (q0 := 0) rfl rfl rfl rfl hl.1 rfl (Nat.le_of_ble_eq_true rfl) dX8_best_194 ⟨Nat.le_of_ble_eq_true rfl, Nat.le_of_ble_eq_true rfl⟩ hPc hDc) (fun r194 u194 H locs hw hP hD hS => ?_)
      obtain ⟨f_above_194, f_below_194⟩ := u194
      dsimp only at hw
      have hP : va_P D vwCl [((rf 0), o8 rf f_terms f_runs f_leftAbove f_leftBelow f_rightAbove f_rightBelow f_listed f_fed f_read f_formed f_hasSnapshot), ((rf 1), ai cI 8 f_above_194), ((rf 2), ai cI 8 f_below_194)] H := hP
      have hD : va_D A [((rf 0), o8 rf f_terms f_runs f_leftAbove f_leftBelow f_rightAbove f_rightBelow f_listed f_fed f_read f_formed f_hasSnapshot), ((rf 1), ai cI 8 f_above_194), ((rf 2), ai cI 8 f_below_194)] := hD
      exact RET _ _ _ (f_leftAbove, f_leftBelow, f_rightAbove, f_rightBelow, f_above_194, f_below_194) _ _ hw hP hD hS dX8_best_197
  have JOIN_176 : ∀ (f_leftAbove : Int64) (f_leftBelow : Int64) (f_rightAbove : Int64) (f_rightBelow : Int64) (f_above : (Nat → Int32)) (f_below : (Nat → Int32)) (H : Heap) (locs : List Loc) (ls : Array Slot), w8_best_J176 f_leftAbove f_leftBelow f_rightAbove f_rightBelow f_above f_below v1 post → va_P D vwCl [((rf 0), o8 rf f_terms f_runs f_leftAbove f_leftBelow f_rightAbove f_rightBelow f_listed f_fed f_read f_formed f_hasSnapshot), ((rf 1), ai cI 8 f_above), ((rf 2), ai cI 8 f_below)] H → va_D A [((rf 0), o8 rf f_terms f_runs f_leftAbove f_leftBelow f_rightAbove f_rightBelow f_listed f_fed f_read f_formed f_hasSnapshot), ((rf 1), ai cI 8 f_above), ((rf 2), ai cI 8 f_below)] → va_S A H0 H locs → lv_has ls 14 [(0, .ref (rf 0)), (1, .int v1)] → W p l e rm8_best s m args below meth c H locs 0 0 Q (F0 m 176 ls []) := by
    intro f_leftAbove f_leftBelow f_rightAbove f_rightBelow f_above f_below H locs ls hw hP hD hS hl
    unfold w8_best_J176 at hw
    refine lv_iconst (v := (0 : Int32)) hx hb dX8_best_176 (by decide) ?_
    exact JOIN_177 f_leftAbove f_leftBelow f_rightAbove f_rightBelow f_above f_below (0 : Int32) _ _ ls hw hP hD hS (lv_sub hl [0, 1] rfl)
  have JOIN_172 : ∀ (f_leftAbove : Int64) (f_leftBelow : Int64) (f_rightAbove : Int64) (f_rightBelow : Int64) (f_above : (Nat → Int32)) (f_below : (Nat → Int32)) (H : Heap) (locs : List Loc) (ls : Array Slot), w8_best_J172 f_leftAbove f_leftBelow f_rightAbove f_rightBelow f_above f_below v1 post → va_P D vwCl [((rf 0), o8 rf f_terms f_runs f_leftAbove f_leftBelow f_rightAbove f_rightBelow f_listed f_fed f_read f_formed f_hasSnapshot), ((rf 1), ai cI 8 f_above), ((rf 2), ai cI 8 f_below)] H → va_D A [((rf 0), o8 rf f_terms f_runs f_leftAbove f_leftBelow f_rightAbove f_rightBelow f_listed f_fed f_read f_formed f_hasSnapshot), ((rf 1), ai cI 8 f_above), ((rf 2), ai cI 8 f_below)] → va_S A H0 H locs → lv_has ls 14 [(0, .ref (rf 0)), (1, .int v1)] → W p l e rm8_best s m args below meth c H locs 0 0 Q (F0 m 172 ls []) := by
    intro f_leftAbove f_leftBelow f_rightAbove f_rightBelow f_above f_below H locs ls hw hP hD hS hl
    unfold w8_best_J172 at hw
    refine lv_iconst (v := (1 : Int32)) hx hb dX8_best_172 (by decide) ?_
    refine lv_goto (tgt := 177) hx hb dX8_best_173 (by decide) ?_
    exact JOIN_177 f_leftAbove f_leftBelow f_rightAbove f_rightBelow f_above f_below (1 : Int32) _ _ ls hw hP hD hS (lv_sub hl [0, 1] rfl)
  refine lv_aload_n hx hb dX8_best_0 rfl (lv_at hl 0 rfl) ?_
  refine lv_iload_n hx hb dX8_best_1 rfl (lv_at hl 1 rfl) ?_
  refine kcRI (wc := [((rf 0), o8 rf f_terms f_runs f_leftAbove f_leftBelow f_rightAbove f_rightBelow f_listed f_fed f_read f_formed f_hasSnapshot)]) hP [0] rfl (fun hPc => oV (As := [.int v1]) (rest := []) C0 hK hN (c8_isRegister l D cI cJ cN cR rf f_terms f_runs f_leftAbove f_leftBelow f_rightAbove f_rightBelow f_listed f_fed f_read f_formed f_hasSnapshot v1 _ hw) 1 gX8_best_X8_isRegister rfl ⟨rfl, rfl⟩ nm8_isRegister ⟨Nat.le_of_ble_eq_true rfl, Nat.le_of_ble_eq_true rfl⟩ (q0 := 0) rfl rfl rfl rfl hl.1 rfl (Nat.le_of_ble_eq_true rfl) dX8_best_2 ⟨Nat.le_of_ble_eq_true rfl, Nat.le_of_ble_eq_true rfl⟩ hPc) (fun r2 hw => ?_)
  obtain ⟨nb2, hw⟩ := hw
  refine lv_if_eq (tgt := 41) hx hb dX8_best_5 (by decide) (fun k => ?_) (fun k => ?_)
  · have hw := hw.1 k
    refine lv_iconst (v := (-1 : Int32)) hx hb dX8_best_41 (by decide) ?_
    exact RET _ _ _ (f_leftAbove, f_leftBelow, f_rightAbove, f_rightBelow, f_above, f_below) _ _ hw hP hD hS dX8_best_42
  · have hw := hw.2 k
    refine lv_aload_n hx hb dX8_best_8 rfl (lv_at hl 0 rfl) ?_
    refine lv_iload_n hx hb dX8_best_9 rfl (lv_at hl 2 rfl) ?_
    refine kcRI (wc := [((rf 0), o8 rf f_terms f_runs f_leftAbove f_leftBelow f_rightAbove f_rightBelow f_listed f_fed f_read f_formed f_hasSnapshot)]) hP [0] rfl (fun hPc => oV (As := [.int v2]) (rest := []) C0 hK hN (c8_isRegister l D cI cJ cN cR rf f_terms f_runs f_leftAbove f_leftBelow f_rightAbove f_rightBelow f_listed f_fed f_read f_formed f_hasSnapshot v2 _ hw) 1 gX8_best_X8_isRegister rfl ⟨rfl, rfl⟩ nm8_isRegister ⟨Nat.le_of_ble_eq_true rfl, Nat.le_of_ble_eq_true rfl⟩ (q0 := 0) rfl rfl rfl rfl hl.1 rfl (Nat.le_of_ble_eq_true rfl) dX8_best_10 ⟨Nat.le_of_ble_eq_true rfl, Nat.le_of_ble_eq_true rfl⟩ hPc) (fun r10 hw => ?_)
    obtain ⟨nb10, hw⟩ := hw
    refine lv_if_eq (tgt := 41) hx hb dX8_best_13 (by decide) (fun k => ?_) (fun k => ?_)
    · have hw := hw.1 k
      refine lv_iconst (v := (-1 : Int32)) hx hb dX8_best_41 (by decide) ?_
      exact RET _ _ _ (f_leftAbove, f_leftBelow, f_rightAbove, f_rightBelow, f_above, f_below) _ _ hw hP hD hS dX8_best_42
    · have hw := hw.2 k
      refine lv_iload_n hx hb dX8_best_16 rfl (lv_at hl 3 rfl) ?_
      refine lv_i2l hx hb dX8_best_17 rfl ?_
      refine lv_lconst (v := (1 : Int64)) hx hb dX8_best_18 (by decide) ?_
      refine lv_ldc2 (v := (1000000 : Int64)) hx hb hown (hts (.constantLong RX8 129 (1000000)) (by decide +kernel)) dX8_best_19 ?_
      refine kcRI (wc := []) hP [] rfl (fun hPc => oS (As := [.long v3.toInt64, .long (1 : Int64), .long (1000000 : Int64)]) (rest := []) C0 hK hN (c8_within l D cI cJ cN cR   v3.toInt64 (1 : Int64) (1000000 : Int64) _ hw) 3 gX8_best_X8_within rfl ⟨rfl, rfl⟩ nm8_within ⟨Nat.le_of_ble_eq_true rfl, Nat.le_of_ble_eq_true rfl⟩ rfl hl.1 rfl (Nat.le_of_ble_eq_true rfl) dX8_best_22 ⟨Nat.le_of_ble_eq_true rfl, Nat.le_of_ble_eq_true rfl⟩ hPc) (fun r22 hw => ?_)
      obtain ⟨nb22, hw⟩ := hw
      refine lv_if_eq (tgt := 41) hx hb dX8_best_25 (by decide) (fun k => ?_) (fun k => ?_)
      · have hw := hw.1 k
        refine lv_iconst (v := (-1 : Int32)) hx hb dX8_best_41 (by decide) ?_
        exact RET _ _ _ (f_leftAbove, f_leftBelow, f_rightAbove, f_rightBelow, f_above, f_below) _ _ hw hP hD hS dX8_best_42
      · have hw := hw.2 k
        refine lv_iload hx hb dX8_best_28 (lv_at hl 4 rfl) ?_
        refine lv_i2l hx hb dX8_best_30 rfl ?_
        refine lv_lconst (v := (0 : Int64)) hx hb dX8_best_31 (by decide) ?_
        refine lv_ldc2 (v := (2 : Int64)) hx hb hown (hts (.constantLong RX8 182 (2)) (by decide +kernel)) dX8_best_32 ?_
        refine kcRI (wc := []) hP [] rfl (fun hPc => oS (As := [.long v4.toInt64, .long (0 : Int64), .long (2 : Int64)]) (rest := []) C0 hK hN (c8_within l D cI cJ cN cR   v4.toInt64 (0 : Int64) (2 : Int64) _ hw) 3 gX8_best_X8_within rfl ⟨rfl, rfl⟩ nm8_within ⟨Nat.le_of_ble_eq_true rfl, Nat.le_of_ble_eq_true rfl⟩ rfl hl.1 rfl (Nat.le_of_ble_eq_true rfl) dX8_best_35 ⟨Nat.le_of_ble_eq_true rfl, Nat.le_of_ble_eq_true rfl⟩ hPc) (fun r35 hw => ?_)
        obtain ⟨nb35, hw⟩ := hw
        refine lv_if_ne (tgt := 43) hx hb dX8_best_38 (by decide) (fun k => ?_) (fun k => ?_)
        · have hw := hw.1 k
          refine lv_aload_n hx hb dX8_best_43 rfl (lv_at hl 0 rfl) ?_
          refine va_get (D := D) (ci := 8) (v := .ref (rf 1)) (C := RX8) (T := TX8) (N := 35) hx hb hts hi9 hown hK hP 0 rfl rfl 0 (by decide) g7 (fun _ h9 => h9) rfl dX8_best_44 ?_
          refine lv_iload_n hx hb dX8_best_47 rfl (lv_at hl 2 rfl) ?_
          obtain ⟨hin, hw⟩ := hw
          refine va_iald hx hb hK hP 1 0 rfl rfl hin dX8_best_48 ?_
          refine lv_i2l hx hb dX8_best_49 rfl ?_
          refine lv_topl (fun x50 ex50 => ?_)
          have hw := hw x50 ex50
          refine lv_lstore (lv' := [(5, .long x50), (0, .ref (rf 0)), (1, .int v1), (2, .int v2), (3, .int v3), (4, .int v4)]) hx hb dX8_best_50 hl (by decide) rfl (fun ls hl => ?_)
          refine lv_aload_n hx hb dX8_best_52 rfl (lv_at hl 1 rfl) ?_
          refine va_get (D := D) (ci := 8) (v := .ref (rf 2)) (C := RX8) (T := TX8) (N := 35) hx hb hts hi9 hown hK hP 0 rfl rfl 1 (by decide) g13 (fun _ h9 => h9) rfl dX8_best_53 ?_
          refine lv_iload_n hx hb dX8_best_56 rfl (lv_at hl 3 rfl) ?_
          obtain ⟨hin, hw⟩ := hw
          refine va_iald hx hb hK hP 2 0 rfl rfl hin dX8_best_57 ?_
          refine lv_i2l hx hb dX8_best_58 rfl ?_
          refine lv_topl (fun x59 ex59 => ?_)
          have hw := hw x59 ex59
          refine lv_lstore (lv' := [(7, .long x59), (5, .long x50), (0, .ref (rf 0)), (1, .int v1), (2, .int v2), (3, .int v3), (4, .int v4)]) hx hb dX8_best_59 hl (by decide) rfl (fun ls hl => ?_)
          refine lv_lload hx hb dX8_best_61 (lv_at hl 0 rfl) ?_
          refine lv_iload_n hx hb dX8_best_63 rfl (lv_at hl 5 rfl) ?_
          refine lv_i2l hx hb dX8_best_64 rfl ?_
          refine W.lcmp hx hb dX8_best_65 ?_
          refine lv_if_gt (tgt := 79) hx hb dX8_best_66 (by decide) (fun k => ?_) (fun k => ?_)
          · have hw := hw.1 ((lg_cmp_gt _ _).mp k)
            refine lv_aload_n hx hb dX8_best_79 rfl (lv_at hl 2 rfl) ?_
            refine lv_lload hx hb dX8_best_80 (lv_at hl 1 rfl) ?_
            refine lv_lload hx hb dX8_best_82 (lv_at hl 0 rfl) ?_
            refine lv_iload_n hx hb dX8_best_84 rfl (lv_at hl 5 rfl) ?_
            refine lv_i2l hx hb dX8_best_85 rfl ?_
            refine kcV (wc := [((rf 0), o8 rf f_terms f_runs f_leftAbove f_leftBelow f_rightAbove f_rightBelow f_listed f_fed f_read f_formed f_hasSnapshot)]) (wr := [((rf 1), ai cI 8 f_above), ((rf 2), ai cI 8 f_below)]) hP hD hS hA [0] [1, 2] rfl rfl ⟨rfl, rfl, by decide⟩ (fun hPc hDc => rV (As := [.long x50, .long x59, .long v3.toInt64]) (rest := []) C0 hK hN (c8_close l D cI cJ cN cR rf H0.size f_terms f_runs f_leftAbove f_leftBelow f_rightAbove f_rightBelow f_listed f_fed f_read f_formed f_hasSnapshot x50 x59 v3.toInt64 _ hw) 3 gX8_best_X8_close rfl ⟨rfl, rfl⟩ nm8_close ⟨Nat.le_of_ble_eq_true rfl, Nat.le_of_ble_eq_true rfl⟩ (q0 := 0) rfl rfl rfl rfl hl.1 rfl (Nat.le_of_ble_eq_true rfl) dX8_best_86 ⟨Nat.le_of_ble_eq_true rfl, Nat.le_of_ble_eq_true rfl⟩ hPc hDc) (fun u86 H locs hw hP hD hS => ?_)
            obtain ⟨f_leftAbove_86, f_leftBelow_86, f_rightAbove_86, f_rightBelow_86⟩ := u86
            dsimp only at hw
            have hP : va_P D vwCl [((rf 1), ai cI 8 f_above), ((rf 2), ai cI 8 f_below), ((rf 0), o8 rf f_terms f_runs f_leftAbove_86 f_leftBelow_86 f_rightAbove_86 f_rightBelow_86 f_listed f_fed f_read f_formed f_hasSnapshot)] H := hP
            have hD : va_D A [((rf 1), ai cI 8 f_above), ((rf 2), ai cI 8 f_below), ((rf 0), o8 rf f_terms f_runs f_leftAbove_86 f_leftBelow_86 f_rightAbove_86 f_rightBelow_86 f_listed f_fed f_read f_formed f_hasSnapshot)] := hD
            refine lv_lload hx hb dX8_best_89 (lv_at hl 1 rfl) ?_
            refine lv_aload_n hx hb dX8_best_91 rfl (lv_at hl 2 rfl) ?_
            refine va_get (D := D) (ci := 8) (v := .long f_leftBelow_86) (C := RX8) (T := TX8) (N := 35) hx hb hts hi9 hown hK hP 2 rfl rfl 8 (by decide) g36 (fun _ h9 => h9) rfl dX8_best_92 ?_
            refine lv_lmul hx hb dX8_best_95 ?_
            refine lv_lload hx hb dX8_best_96 (lv_at hl 0 rfl) ?_
            refine lv_aload_n hx hb dX8_best_98 rfl (lv_at hl 2 rfl) ?_
            refine va_get (D := D) (ci := 8) (v := .long f_leftAbove_86) (C := RX8) (T := TX8) (N := 35) hx hb hts hi9 hown hK hP 2 rfl rfl 7 (by decide) g32 (fun _ h9 => h9) rfl dX8_best_99 ?_
            refine lv_lmul hx hb dX8_best_102 ?_
            refine lv_lsub hx hb dX8_best_103 ?_
            refine lv_aload_n hx hb dX8_best_104 rfl (lv_at hl 2 rfl) ?_
            refine va_get (D := D) (ci := 8) (v := .long f_rightBelow_86) (C := RX8) (T := TX8) (N := 35) hx hb hts hi9 hown hK hP 2 rfl rfl 10 (by decide) g42 (fun _ h9 => h9) rfl dX8_best_105 ?_
            refine lv_lmul hx hb dX8_best_108 ?_
            refine lv_topl (fun x109 ex109 => ?_)
            have hw := hw x109 ex109
            refine lv_lstore (lv' := [(9, .long x109), (7, .long x59), (5, .long x50), (0, .ref (rf 0)), (1, .int v1), (2, .int v2), (3, .int v3), (4, .int v4)]) hx hb dX8_best_109 hl (by decide) rfl (fun ls hl => ?_)
            refine lv_lload hx hb dX8_best_111 (lv_at hl 1 rfl) ?_
            refine lv_aload_n hx hb dX8_best_113 rfl (lv_at hl 3 rfl) ?_
            refine va_get (D := D) (ci := 8) (v := .long f_rightAbove_86) (C := RX8) (T := TX8) (N := 35) hx hb hts hi9 hown hK hP 2 rfl rfl 9 (by decide) g39 (fun _ h9 => h9) rfl dX8_best_114 ?_
            refine lv_lmul hx hb dX8_best_117 ?_
            refine lv_lload hx hb dX8_best_118 (lv_at hl 2 rfl) ?_
            refine lv_aload_n hx hb dX8_best_120 rfl (lv_at hl 3 rfl) ?_
            refine va_get (D := D) (ci := 8) (v := .long f_rightBelow_86) (C := RX8) (T := TX8) (N := 35) hx hb hts hi9 hown hK hP 2 rfl rfl 10 (by decide) g42 (fun _ h9 => h9) rfl dX8_best_121 ?_
            refine lv_lmul hx hb dX8_best_124 ?_
            refine lv_lsub hx hb dX8_best_125 ?_
            refine lv_aload_n hx hb dX8_best_126 rfl (lv_at hl 3 rfl) ?_
            refine va_get (D := D) (ci := 8) (v := .long f_leftBelow_86) (C := RX8) (T := TX8) (N := 35) hx hb hts hi9 hown hK hP 2 rfl rfl 8 (by decide) g36 (fun _ h9 => h9) rfl dX8_best_127 ?_
            refine lv_lmul hx hb dX8_best_130 ?_
            refine lv_topl (fun x131 ex131 => ?_)
            have hw := hw x131 ex131
            refine lv_lstore (lv' := [(11, .long x131), (9, .long x109), (7, .long x59), (5, .long x50), (0, .ref (rf 0)), (1, .int v1), (2, .int v2), (3, .int v3), (4, .int v4)]) hx hb dX8_best_131 hl (by decide) rfl (fun ls hl => ?_)
            refine lv_iload hx hb dX8_best_133 (lv_at hl 8 rfl) ?_
            refine lv_iconst (v := (1 : Int32)) hx hb dX8_best_135 (by decide) ?_
            refine lv_icmp_eq (tgt := 172) hx hb dX8_best_136 (by decide) (fun k => ?_) (fun k => ?_)
            · have hw := hw.1 k
              obtain ⟨hP, hD⟩ := k_sub (ws' := [((rf 0), o8 rf f_terms f_runs f_leftAbove_86 f_leftBelow_86 f_rightAbove_86 f_rightBelow_86 f_listed f_fed f_read f_formed f_hasSnapshot), ((rf 1), ai cI 8 f_above), ((rf 2), ai cI 8 f_below)]) hP hD [2, 0, 1] rfl rfl
              exact JOIN_172 f_leftAbove_86 f_leftBelow_86 f_rightAbove_86 f_rightBelow_86 f_above f_below _ _ ls hw hP hD hS (lv_sub hl [4, 5] rfl)
            · have hw := hw.2 k
              refine lv_iload hx hb dX8_best_139 (lv_at hl 8 rfl) ?_
              refine lv_if_ne (tgt := 176) hx hb dX8_best_141 (by decide) (fun k => ?_) (fun k => ?_)
              · have hw := hw.1 k
                obtain ⟨hP, hD⟩ := k_sub (ws' := [((rf 0), o8 rf f_terms f_runs f_leftAbove_86 f_leftBelow_86 f_rightAbove_86 f_rightBelow_86 f_listed f_fed f_read f_formed f_hasSnapshot), ((rf 1), ai cI 8 f_above), ((rf 2), ai cI 8 f_below)]) hP hD [2, 0, 1] rfl rfl
                exact JOIN_176 f_leftAbove_86 f_leftBelow_86 f_rightAbove_86 f_rightBelow_86 f_above f_below _ _ ls hw hP hD hS (lv_sub hl [4, 5] rfl)
              · have hw := hw.2 k
                refine lv_lload hx hb dX8_best_144 (lv_at hl 1 rfl) ?_
                refine lv_lload hx hb dX8_best_146 (lv_at hl 0 rfl) ?_
                refine W.lcmp hx hb dX8_best_148 ?_
                refine lv_if_lt (tgt := 172) hx hb dX8_best_149 (by decide) (fun k => ?_) (fun k => ?_)
                · have hw := hw.1 ((lg_cmp_lt _ _).mp k)
                  obtain ⟨hP, hD⟩ := k_sub (ws' := [((rf 0), o8 rf f_terms f_runs f_leftAbove_86 f_leftBelow_86 f_rightAbove_86 f_rightBelow_86 f_listed f_fed f_read f_formed f_hasSnapshot), ((rf 1), ai cI 8 f_above), ((rf 2), ai cI 8 f_below)]) hP hD [2, 0, 1] rfl rfl
                  exact JOIN_172 f_leftAbove_86 f_leftBelow_86 f_rightAbove_86 f_rightBelow_86 f_above f_below _ _ ls hw hP hD hS (lv_sub hl [4, 5] rfl)
                · have hw := hw.2 (fun h => k ((lg_cmp_lt _ _).mpr h))
                  refine lv_lload hx hb dX8_best_152 (lv_at hl 1 rfl) ?_
                  refine lv_lload hx hb dX8_best_154 (lv_at hl 0 rfl) ?_
                  refine W.lcmp hx hb dX8_best_156 ?_
                  refine lv_if_ne (tgt := 176) hx hb dX8_best_157 (by decide) (fun k => ?_) (fun k => ?_)
                  · have hw := hw.1 (fun h => k ((lg_cmp_eq _ _).mpr h))
                    obtain ⟨hP, hD⟩ := k_sub (ws' := [((rf 0), o8 rf f_terms f_runs f_leftAbove_86 f_leftBelow_86 f_rightAbove_86 f_rightBelow_86 f_listed f_fed f_read f_formed f_hasSnapshot), ((rf 1), ai cI 8 f_above), ((rf 2), ai cI 8 f_below)]) hP hD [2, 0, 1] rfl rfl
                    exact JOIN_176 f_leftAbove_86 f_leftBelow_86 f_rightAbove_86 f_rightBelow_86 f_above f_below _ _ ls hw hP hD hS (lv_sub hl [4, 5] rfl)
                  · have hw := hw.2 ((lg_cmp_eq _ _).mp k)
                    refine lv_aload_n hx hb dX8_best_160 rfl (lv_at hl 4 rfl) ?_
                    refine va_get (D := D) (ci := 8) (v := .long f_leftBelow_86) (C := RX8) (T := TX8) (N := 35) hx hb hts hi9 hown hK hP 2 rfl rfl 8 (by decide) g36 (fun _ h9 => h9) rfl dX8_best_161 ?_
                    refine lv_aload_n hx hb dX8_best_164 rfl (lv_at hl 4 rfl) ?_
                    refine va_get (D := D) (ci := 8) (v := .long f_rightBelow_86) (C := RX8) (T := TX8) (N := 35) hx hb hts hi9 hown hK hP 2 rfl rfl 10 (by decide) g42 (fun _ h9 => h9) rfl dX8_best_165 ?_
                    refine W.lcmp hx hb dX8_best_168 ?_
                    refine lv_if_gt (tgt := 176) hx hb dX8_best_169 (by decide) (fun k => ?_) (fun k => ?_)
                    · have hw := hw.1 ((lg_cmp_gt _ _).mp k)
                      obtain ⟨hP, hD⟩ := k_sub (ws' := [((rf 0), o8 rf f_terms f_runs f_leftAbove_86 f_leftBelow_86 f_rightAbove_86 f_rightBelow_86 f_listed f_fed f_read f_formed f_hasSnapshot), ((rf 1), ai cI 8 f_above), ((rf 2), ai cI 8 f_below)]) hP hD [2, 0, 1] rfl rfl
                      exact JOIN_176 f_leftAbove_86 f_leftBelow_86 f_rightAbove_86 f_rightBelow_86 f_above f_below _ _ ls hw hP hD hS (lv_sub hl [4, 5] rfl)
                    · have hw := hw.2 (fun h => k ((lg_cmp_gt _ _).mpr h))
                      obtain ⟨hP, hD⟩ := k_sub (ws' := [((rf 0), o8 rf f_terms f_runs f_leftAbove_86 f_leftBelow_86 f_rightAbove_86 f_rightBelow_86 f_listed f_fed f_read f_formed f_hasSnapshot), ((rf 1), ai cI 8 f_above), ((rf 2), ai cI 8 f_below)]) hP hD [2, 0, 1] rfl rfl
                      exact JOIN_172 f_leftAbove_86 f_leftBelow_86 f_rightAbove_86 f_rightBelow_86 f_above f_below _ _ ls hw hP hD hS (lv_sub hl [4, 5] rfl)
          · have hw := hw.2 (fun h => k ((lg_cmp_gt _ _).mpr h))
            refine lv_aload_n hx hb dX8_best_69 rfl (lv_at hl 2 rfl) ?_
            refine lv_iload_n hx hb dX8_best_70 rfl (lv_at hl 3 rfl) ?_
            refine lv_lload hx hb dX8_best_71 (lv_at hl 1 rfl) ?_
            refine lv_lload hx hb dX8_best_73 (lv_at hl 0 rfl) ?_
            refine kcI (wc := [((rf 0), o8 rf f_terms f_runs f_leftAbove f_leftBelow f_rightAbove f_rightBelow f_listed f_fed f_read f_formed f_hasSnapshot), ((rf 1), ai cI 8 f_above), ((rf 2), ai cI 8 f_below)]) (wr := []) hP hD hS hA [0, 1, 2] [] rfl rfl ⟨rfl, rfl, by decide⟩ (fun hPc hDc => rV (As := [.int v1, .long x50, .long x59]) (rest := []) C0 hK hN (c8_put l D cI cJ cN cR rf H0.size f_terms f_runs f_leftAbove f_leftBelow f_rightAbove f_rightBelow f_listed f_fed f_read f_formed f_hasSnapshot f_above f_below v1 x50 x59 _ hw) 3 gX8_best_X8_put rfl ⟨rfl, rfl⟩ nm8_put ⟨Nat.le_of_ble_eq_true rfl, Nat.le_of_ble_eq_true rfl⟩ (q0 := 0) rfl rfl rfl rfl hl.1 rfl (Nat.le_of_ble_eq_true rfl) dX8_best_75 ⟨Nat.le_of_ble_eq_true rfl, Nat.le_of_ble_eq_true rfl⟩ hPc hDc) (fun r75 u75 H locs hw hP hD hS => ?_)
            obtain ⟨f_above_75, f_below_75⟩ := u75
            dsimp only at hw
            have hP : va_P D vwCl [((rf 0), o8 rf f_terms f_runs f_leftAbove f_leftBelow f_rightAbove f_rightBelow f_listed f_fed f_read f_formed f_hasSnapshot), ((rf 1), ai cI 8 f_above_75), ((rf 2), ai cI 8 f_below_75)] H := hP
            have hD : va_D A [((rf 0), o8 rf f_terms f_runs f_leftAbove f_leftBelow f_rightAbove f_rightBelow f_listed f_fed f_read f_formed f_hasSnapshot), ((rf 1), ai cI 8 f_above_75), ((rf 2), ai cI 8 f_below_75)] := hD
            exact RET _ _ _ (f_leftAbove, f_leftBelow, f_rightAbove, f_rightBelow, f_above_75, f_below_75) _ _ hw hP hD hS dX8_best_78
        · have hw := hw.2 k
          refine lv_iconst (v := (-1 : Int32)) hx hb dX8_best_41 (by decide) ?_
          exact RET _ _ _ (f_leftAbove, f_leftBelow, f_rightAbove, f_rightBelow, f_above, f_below) _ _ hw hP hD hS dX8_best_42
abbrev rm8_simplestBetween : Room := { frames := 2, cells := 0, slots := 0, locals := 57 }
theorem nm8_simplestBetween : kNm yX8_simplestBetween 3 := by decide +kernel
set_option maxHeartbeats 4000000 in
set_option maxRecDepth 100000 in
theorem c8_simplestBetween (l : Launch) (D : va_G) (cI cJ cN cR : ClassId) (rf : Nat → Nat) (sz : Nat) (f_terms : Int32) (f_runs : Int32) (f_leftAbove : Int64) (f_leftBelow : Int64) (f_rightAbove : Int64) (f_rightBelow : Int64) (f_listed : Int32) (f_fed : Int32) (f_read : Int32) (f_formed : Int32) (f_hasSnapshot : Int32) (f_above : (Nat → Int32)) (f_below : (Nat → Int32)) (v1 : Int32) (v2 : Int32) (v3 : Int32) (post : Int32 → Int64 → Int64 → Int64 → Int64 → (Nat → Int32) → (Nat → Int32) → Prop) (hw : w8_simplestBetween f_leftAbove f_leftBelow f_rightAbove f_rightBelow f_above f_below v1 v2 v3 post) : Met l yX8_simplestBetween wsX8_simplestBetween rm8_simplestBetween (kP D (kT cI cJ cN cR) sz [.ref (rf 0), .int v1, .int v2, .int v3] [((rf 0), o8 rf f_terms f_runs f_leftAbove f_leftBelow f_rightAbove f_rightBelow f_listed f_fed f_read f_formed f_hasSnapshot), ((rf 1), ai cI 8 f_above), ((rf 2), ai cI 8 f_below)]) (kQi D [((rf 0), o8 rf f_terms f_runs f_leftAbove f_leftBelow f_rightAbove f_rightBelow f_listed f_fed f_read f_formed f_hasSnapshot), ((rf 1), ai cI 8 f_above), ((rf 2), ai cI 8 f_below)] sz (fun (r : Int32) (u : Int64 × Int64 × Int64 × Int64 × (Nat → Int32) × (Nat → Int32)) => post r u.1 u.2.1 u.2.2.1 u.2.2.2.1 u.2.2.2.2.1 u.2.2.2.2.2) (fun (u : Int64 × Int64 × Int64 × Int64 × (Nat → Int32) × (Nat → Int32)) => [((rf 0), o8 rf f_terms f_runs u.1 u.2.1 u.2.2.1 u.2.2.2.1 f_listed f_fed f_read f_formed f_hasSnapshot), ((rf 1), ai cI 8 u.2.2.2.2.1), ((rf 2), ai cI 8 u.2.2.2.2.2)])) 0 0 (va_A [((rf 0), o8 rf f_terms f_runs f_leftAbove f_leftBelow f_rightAbove f_rightBelow f_listed f_fed f_read f_formed f_hasSnapshot), ((rf 1), ai cI 8 f_above), ((rf 2), ai cI 8 f_below)] sz) := by
  refine kMetI (cc := cX8_simplestBetween) (maxL := 16) (by decide +kernel) rfl (Nat.le_of_ble_eq_true rfl) ?_
  intro p e s m args below meth c H0 ls A Q C0 hK hN hP hD hS hA hl RET
  obtain ⟨hx, hb, hml, hown, hts⟩ := id C0
  have hl : lv_has ls 16 [(0, .ref (rf 0)), (1, .int v1), (2, .int v2), (3, .int v3)] := hl
  have g7 := hts (.fieldLink RX8 7 "SternBrocotExplorerModel" "above" "[I") (by decide +kernel)
  have g13 := hts (.fieldLink RX8 13 "SternBrocotExplorerModel" "below" "[I") (by decide +kernel)
  have g32 := hts (.fieldLink RX8 32 "SternBrocotExplorerModel" "leftAbove" "J") (by decide +kernel)
  have g39 := hts (.fieldLink RX8 39 "SternBrocotExplorerModel" "rightAbove" "J") (by decide +kernel)
  have g36 := hts (.fieldLink RX8 36 "SternBrocotExplorerModel" "leftBelow" "J") (by decide +kernel)
  have g42 := hts (.fieldLink RX8 42 "SternBrocotExplorerModel" "rightBelow" "J") (by decide +kernel)
  have hi9 : ∀ w ∈ wsX80, w ∈ wsX8_simplestBetween := fun w h => List.mem_cons_of_mem _ (List.mem_append_right _ h)
  unfold w8_simplestBetween at hw
  have hP : va_P D vwCl [((rf 0), o8 rf f_terms f_runs f_leftAbove f_leftBelow f_rightAbove f_rightBelow f_listed f_fed f_read f_formed f_hasSnapshot), ((rf 1), ai cI 8 f_above), ((rf 2), ai cI 8 f_below)] H0 := hP
  refine lv_aload_n hx hb dX8_simplestBetween_0 rfl (lv_at hl 0 rfl) ?_
  refine lv_iload_n hx hb dX8_simplestBetween_1 rfl (lv_at hl 1 rfl) ?_
  refine kcRI (wc := [((rf 0), o8 rf f_terms f_runs f_leftAbove f_leftBelow f_rightAbove f_rightBelow f_listed f_fed f_read f_formed f_hasSnapshot)]) hP [0] rfl (fun hPc => oV (As := [.int v1]) (rest := []) C0 hK hN (c8_isRegister l D cI cJ cN cR rf f_terms f_runs f_leftAbove f_leftBelow f_rightAbove f_rightBelow f_listed f_fed f_read f_formed f_hasSnapshot v1 _ hw) 1 gX8_simplestBetween_X8_isRegister rfl ⟨rfl, rfl⟩ nm8_isRegister ⟨Nat.le_of_ble_eq_true rfl, Nat.le_of_ble_eq_true rfl⟩ (q0 := 0) rfl rfl rfl rfl hl.1 rfl (Nat.le_of_ble_eq_true rfl) dX8_simplestBetween_2 ⟨Nat.le_of_ble_eq_true rfl, Nat.le_of_ble_eq_true rfl⟩ hPc) (fun r2 hw => ?_)
  obtain ⟨nb2, hw⟩ := hw
  refine lv_if_eq (tgt := 24) hx hb dX8_simplestBetween_5 (by decide) (fun k => ?_) (fun k => ?_)
  · have hw := hw.1 k
    refine lv_iconst (v := (-1 : Int32)) hx hb dX8_simplestBetween_24 (by decide) ?_
    exact RET _ _ _ (f_leftAbove, f_leftBelow, f_rightAbove, f_rightBelow, f_above, f_below) _ _ hw hP hD hS dX8_simplestBetween_25
  · have hw := hw.2 k
    refine lv_aload_n hx hb dX8_simplestBetween_8 rfl (lv_at hl 0 rfl) ?_
    refine lv_iload_n hx hb dX8_simplestBetween_9 rfl (lv_at hl 2 rfl) ?_
    refine kcRI (wc := [((rf 0), o8 rf f_terms f_runs f_leftAbove f_leftBelow f_rightAbove f_rightBelow f_listed f_fed f_read f_formed f_hasSnapshot)]) hP [0] rfl (fun hPc => oV (As := [.int v2]) (rest := []) C0 hK hN (c8_isRegister l D cI cJ cN cR rf f_terms f_runs f_leftAbove f_leftBelow f_rightAbove f_rightBelow f_listed f_fed f_read f_formed f_hasSnapshot v2 _ hw) 1 gX8_simplestBetween_X8_isRegister rfl ⟨rfl, rfl⟩ nm8_isRegister ⟨Nat.le_of_ble_eq_true rfl, Nat.le_of_ble_eq_true rfl⟩ (q0 := 0) rfl rfl rfl rfl hl.1 rfl (Nat.le_of_ble_eq_true rfl) dX8_simplestBetween_10 ⟨Nat.le_of_ble_eq_true rfl, Nat.le_of_ble_eq_true rfl⟩ hPc) (fun r10 hw => ?_)
    obtain ⟨nb10, hw⟩ := hw
    refine lv_if_eq (tgt := 24) hx hb dX8_simplestBetween_13 (by decide) (fun k => ?_) (fun k => ?_)
    · have hw := hw.1 k
      refine lv_iconst (v := (-1 : Int32)) hx hb dX8_simplestBetween_24 (by decide) ?_
      exact RET _ _ _ (f_leftAbove, f_leftBelow, f_rightAbove, f_rightBelow, f_above, f_below) _ _ hw hP hD hS dX8_simplestBetween_25
    · have hw := hw.2 k
      refine lv_aload_n hx hb dX8_simplestBetween_16 rfl (lv_at hl 0 rfl) ?_
      refine lv_iload_n hx hb dX8_simplestBetween_17 rfl (lv_at hl 3 rfl) ?_
      refine kcRI (wc := [((rf 0), o8 rf f_terms f_runs f_leftAbove f_leftBelow f_rightAbove f_rightBelow f_listed f_fed f_read f_formed f_hasSnapshot)]) hP [0] rfl (fun hPc => oV (As := [.int v3]) (rest := []) C0 hK hN (c8_isRegister l D cI cJ cN cR rf f_terms f_runs f_leftAbove f_leftBelow f_rightAbove f_rightBelow f_listed f_fed f_read f_formed f_hasSnapshot v3 _ hw) 1 gX8_simplestBetween_X8_isRegister rfl ⟨rfl, rfl⟩ nm8_isRegister ⟨Nat.le_of_ble_eq_true rfl, Nat.le_of_ble_eq_true rfl⟩ (q0 := 0) rfl rfl rfl rfl hl.1 rfl (Nat.le_of_ble_eq_true rfl) dX8_simplestBetween_18 ⟨Nat.le_of_ble_eq_true rfl, Nat.le_of_ble_eq_true rfl⟩ hPc) (fun r18 hw => ?_)
      obtain ⟨nb18, hw⟩ := hw
      refine lv_if_ne (tgt := 26) hx hb dX8_simplestBetween_21 (by decide) (fun k => ?_) (fun k => ?_)
      · have hw := hw.1 k
        refine lv_aload_n hx hb dX8_simplestBetween_26 rfl (lv_at hl 0 rfl) ?_
        refine lv_iload_n hx hb dX8_simplestBetween_27 rfl (lv_at hl 2 rfl) ?_
        refine lv_iload_n hx hb dX8_simplestBetween_28 rfl (lv_at hl 3 rfl) ?_
        refine kcRL (wc := [((rf 0), o8 rf f_terms f_runs f_leftAbove f_leftBelow f_rightAbove f_rightBelow f_listed f_fed f_read f_formed f_hasSnapshot), ((rf 1), ai cI 8 f_above), ((rf 2), ai cI 8 f_below)]) hP [0, 1, 2] rfl (fun hPc => oV (As := [.int v2, .int v3]) (rest := []) C0 hK hN (c8_cross l D cI cJ cN cR rf f_terms f_runs f_leftAbove f_leftBelow f_rightAbove f_rightBelow f_listed f_fed f_read f_formed f_hasSnapshot f_above f_below v2 v3 _ hw) 2 gX8_simplestBetween_X8_cross rfl ⟨rfl, rfl⟩ nm8_cross ⟨Nat.le_of_ble_eq_true rfl, Nat.le_of_ble_eq_true rfl⟩ (q0 := 0) rfl rfl rfl rfl hl.1 rfl (Nat.le_of_ble_eq_true rfl) dX8_simplestBetween_29 ⟨Nat.le_of_ble_eq_true rfl, Nat.le_of_ble_eq_true rfl⟩ hPc) (fun r29 hw => ?_)
        refine lv_lconst (v := (0 : Int64)) hx hb dX8_simplestBetween_32 (by decide) ?_
        refine W.lcmp hx hb dX8_simplestBetween_33 ?_
        refine lv_if_lt (tgt := 40) hx hb dX8_simplestBetween_34 (by decide) (fun k => ?_) (fun k => ?_)
        · have hw := hw.1 ((lg_cmp_lt _ _).mp k)
          refine lv_aload_n hx hb dX8_simplestBetween_40 rfl (lv_at hl 0 rfl) ?_
          refine va_get (D := D) (ci := 8) (v := .ref (rf 1)) (C := RX8) (T := TX8) (N := 35) hx hb hts hi9 hown hK hP 0 rfl rfl 0 (by decide) g7 (fun _ h9 => h9) rfl dX8_simplestBetween_41 ?_
          refine lv_iload_n hx hb dX8_simplestBetween_44 rfl (lv_at hl 2 rfl) ?_
          obtain ⟨hin, hw⟩ := hw
          refine va_iald hx hb hK hP 1 0 rfl rfl hin dX8_simplestBetween_45 ?_
          refine lv_i2l hx hb dX8_simplestBetween_46 rfl ?_
          refine lv_topl (fun x47 ex47 => ?_)
          have hw := hw x47 ex47
          refine lv_lstore (lv' := [(4, .long x47), (0, .ref (rf 0)), (1, .int v1), (2, .int v2), (3, .int v3)]) hx hb dX8_simplestBetween_47 hl (by decide) rfl (fun ls hl => ?_)
          refine lv_aload_n hx hb dX8_simplestBetween_49 rfl (lv_at hl 1 rfl) ?_
          refine va_get (D := D) (ci := 8) (v := .ref (rf 2)) (C := RX8) (T := TX8) (N := 35) hx hb hts hi9 hown hK hP 0 rfl rfl 1 (by decide) g13 (fun _ h9 => h9) rfl dX8_simplestBetween_50 ?_
          refine lv_iload_n hx hb dX8_simplestBetween_53 rfl (lv_at hl 3 rfl) ?_
          obtain ⟨hin, hw⟩ := hw
          refine va_iald hx hb hK hP 2 0 rfl rfl hin dX8_simplestBetween_54 ?_
          refine lv_i2l hx hb dX8_simplestBetween_55 rfl ?_
          refine lv_topl (fun x56 ex56 => ?_)
          have hw := hw x56 ex56
          refine lv_lstore (lv' := [(6, .long x56), (4, .long x47), (0, .ref (rf 0)), (1, .int v1), (2, .int v2), (3, .int v3)]) hx hb dX8_simplestBetween_56 hl (by decide) rfl (fun ls hl => ?_)
          refine lv_aload_n hx hb dX8_simplestBetween_58 rfl (lv_at hl 2 rfl) ?_
          refine va_get (D := D) (ci := 8) (v := .ref (rf 1)) (C := RX8) (T := TX8) (N := 35) hx hb hts hi9 hown hK hP 0 rfl rfl 0 (by decide) g7 (fun _ h9 => h9) rfl dX8_simplestBetween_59 ?_
          refine lv_iload_n hx hb dX8_simplestBetween_62 rfl (lv_at hl 5 rfl) ?_
          obtain ⟨hin, hw⟩ := hw
          refine va_iald hx hb hK hP 1 0 rfl rfl hin dX8_simplestBetween_63 ?_
          refine lv_i2l hx hb dX8_simplestBetween_64 rfl ?_
          refine lv_topl (fun x65 ex65 => ?_)
          have hw := hw x65 ex65
          refine lv_lstore (lv' := [(8, .long x65), (6, .long x56), (4, .long x47), (0, .ref (rf 0)), (1, .int v1), (2, .int v2), (3, .int v3)]) hx hb dX8_simplestBetween_65 hl (by decide) rfl (fun ls hl => ?_)
          refine lv_aload_n hx hb dX8_simplestBetween_67 rfl (lv_at hl 3 rfl) ?_
          refine va_get (D := D) (ci := 8) (v := .ref (rf 2)) (C := RX8) (T := TX8) (N := 35) hx hb hts hi9 hown hK hP 0 rfl rfl 1 (by decide) g13 (fun _ h9 => h9) rfl dX8_simplestBetween_68 ?_
          refine lv_iload_n hx hb dX8_simplestBetween_71 rfl (lv_at hl 6 rfl) ?_
          obtain ⟨hin, hw⟩ := hw
          refine va_iald hx hb hK hP 2 0 rfl rfl hin dX8_simplestBetween_72 ?_
          refine lv_i2l hx hb dX8_simplestBetween_73 rfl ?_
          refine lv_topl (fun x74 ex74 => ?_)
          have hw := hw x74 ex74
          refine lv_lstore (lv' := [(10, .long x74), (8, .long x65), (6, .long x56), (4, .long x47), (0, .ref (rf 0)), (1, .int v1), (2, .int v2), (3, .int v3)]) hx hb dX8_simplestBetween_74 hl (by decide) rfl (fun ls hl => ?_)
          refine lv_aload_n hx hb dX8_simplestBetween_76 rfl (lv_at hl 4 rfl) ?_
          refine kcV (wc := [((rf 0), o8 rf f_terms f_runs f_leftAbove f_leftBelow f_rightAbove f_rightBelow f_listed f_fed f_read f_formed f_hasSnapshot)]) (wr := [((rf 1), ai cI 8 f_above), ((rf 2), ai cI 8 f_below)]) hP hD hS hA [0] [1, 2] rfl rfl ⟨rfl, rfl, by decide⟩ (fun hPc hDc => rV (As := []) (rest := []) C0 hK hN (c8_toRoot l D cI cJ cN cR rf H0.size f_terms f_runs f_leftAbove f_leftBelow f_rightAbove f_rightBelow f_listed f_fed f_read f_formed f_hasSnapshot  _ hw) 0 gX8_simplestBetween_X8_toRoot rfl ⟨rfl, rfl⟩ nm8_toRoot ⟨Nat.le_of_ble_eq_true rfl, Nat.le_of_ble_eq_true rfl⟩ (q0 := 0) rfl rfl rfl rfl hl.1 rfl (Nat.le_of_ble_eq_true rfl) dX8_simplestBetween_77 ⟨Nat.le_of_ble_eq_true rfl, Nat.le_of_ble_eq_true rfl⟩ hPc hDc) (fun u77 H locs hw hP hD hS => ?_)
          obtain ⟨f_leftAbove_77, f_leftBelow_77, f_rightAbove_77, f_rightBelow_77⟩ := u77
          dsimp only at hw
          have hP : va_P D vwCl [((rf 1), ai cI 8 f_above), ((rf 2), ai cI 8 f_below), ((rf 0), o8 rf f_terms f_runs f_leftAbove_77 f_leftBelow_77 f_rightAbove_77 f_rightBelow_77 f_listed f_fed f_read f_formed f_hasSnapshot)] H := hP
          have hD : va_D A [((rf 1), ai cI 8 f_above), ((rf 2), ai cI 8 f_below), ((rf 0), o8 rf f_terms f_runs f_leftAbove_77 f_leftBelow_77 f_rightAbove_77 f_rightBelow_77 f_listed f_fed f_read f_formed f_hasSnapshot)] := hD
          obtain ⟨n80, hw⟩ := hw
          have LOOP_80 : ∀ (n80 : Nat) (f_leftAbove : Int64) (f_leftBelow : Int64) (f_rightAbove : Int64) (f_rightBelow : Int64) (H : Heap) (locs : List Loc) (ls : Array Slot), w8_simplestBetween_L80 f_above f_below v1 x47 x56 x65 x74 post n80 f_leftAbove f_leftBelow f_rightAbove f_rightBelow → va_P D vwCl [((rf 0), o8 rf f_terms f_runs f_leftAbove f_leftBelow f_rightAbove f_rightBelow f_listed f_fed f_read f_formed f_hasSnapshot), ((rf 1), ai cI 8 f_above), ((rf 2), ai cI 8 f_below)] H → va_D A [((rf 0), o8 rf f_terms f_runs f_leftAbove f_leftBelow f_rightAbove f_rightBelow f_listed f_fed f_read f_formed f_hasSnapshot), ((rf 1), ai cI 8 f_above), ((rf 2), ai cI 8 f_below)] → va_S A H0 H locs → lv_has ls 16 [(0, .ref (rf 0)), (1, .int v1), (4, .long x47), (6, .long x56), (8, .long x65), (10, .long x74)] → W p l e rm8_simplestBetween s m args below meth c H locs 0 0 Q (F0 m 80 ls []) := by
            clear hw hl hP hD hS
            intro n80
            induction n80 with
            | zero =>
              intro f_leftAbove f_leftBelow f_rightAbove f_rightBelow H locs ls hw hP hD hS hl
              rw [w8_simplestBetween_L80] at hw
              exact hw.elim
            | succ n80 ih80 =>
              intro f_leftAbove f_leftBelow f_rightAbove f_rightBelow H locs ls hw hP hD hS hl
              rw [w8_simplestBetween_L80] at hw
              refine lv_aload_n hx hb dX8_simplestBetween_80 rfl (lv_at hl 0 rfl) ?_
              refine va_get (D := D) (ci := 8) (v := .long f_leftAbove) (C := RX8) (T := TX8) (N := 35) hx hb hts hi9 hown hK hP 0 rfl rfl 7 (by decide) g32 (fun _ h9 => h9) rfl dX8_simplestBetween_81 ?_
              refine lv_aload_n hx hb dX8_simplestBetween_84 rfl (lv_at hl 0 rfl) ?_
              refine va_get (D := D) (ci := 8) (v := .long f_rightAbove) (C := RX8) (T := TX8) (N := 35) hx hb hts hi9 hown hK hP 0 rfl rfl 9 (by decide) g39 (fun _ h9 => h9) rfl dX8_simplestBetween_85 ?_
              refine lv_ladd hx hb dX8_simplestBetween_88 ?_
              refine lv_topl (fun x89 ex89 => ?_)
              have hw := hw x89 ex89
              refine lv_lstore (lv' := [(12, .long x89), (0, .ref (rf 0)), (1, .int v1), (4, .long x47), (6, .long x56), (8, .long x65), (10, .long x74)]) hx hb dX8_simplestBetween_89 hl (by decide) rfl (fun ls hl => ?_)
              refine lv_aload_n hx hb dX8_simplestBetween_91 rfl (lv_at hl 1 rfl) ?_
              refine va_get (D := D) (ci := 8) (v := .long f_leftBelow) (C := RX8) (T := TX8) (N := 35) hx hb hts hi9 hown hK hP 0 rfl rfl 8 (by decide) g36 (fun _ h9 => h9) rfl dX8_simplestBetween_92 ?_
              refine lv_aload_n hx hb dX8_simplestBetween_95 rfl (lv_at hl 1 rfl) ?_
              refine va_get (D := D) (ci := 8) (v := .long f_rightBelow) (C := RX8) (T := TX8) (N := 35) hx hb hts hi9 hown hK hP 0 rfl rfl 10 (by decide) g42 (fun _ h9 => h9) rfl dX8_simplestBetween_96 ?_
              refine lv_ladd hx hb dX8_simplestBetween_99 ?_
              refine lv_topl (fun x100 ex100 => ?_)
              have hw := hw x100 ex100
              refine lv_lstore (lv' := [(14, .long x100), (12, .long x89), (0, .ref (rf 0)), (1, .int v1), (4, .long x47), (6, .long x56), (8, .long x65), (10, .long x74)]) hx hb dX8_simplestBetween_100 hl (by decide) rfl (fun ls hl => ?_)
              refine lv_lload hx hb dX8_simplestBetween_102 (lv_at hl 1 rfl) ?_
              refine lv_lload hx hb dX8_simplestBetween_104 (lv_at hl 5 rfl) ?_
              refine lv_lmul hx hb dX8_simplestBetween_106 ?_
              refine lv_lload hx hb dX8_simplestBetween_107 (lv_at hl 4 rfl) ?_
              refine lv_lload hx hb dX8_simplestBetween_109 (lv_at hl 0 rfl) ?_
              refine lv_lmul hx hb dX8_simplestBetween_111 ?_
              refine W.lcmp hx hb dX8_simplestBetween_112 ?_
              refine lv_if_gt (tgt := 154) hx hb dX8_simplestBetween_113 (by decide) (fun k => ?_) (fun k => ?_)
              · have hw := hw.1 ((lg_cmp_gt _ _).mp k)
                refine lv_lload hx hb dX8_simplestBetween_154 (lv_at hl 1 rfl) ?_
                refine lv_lload hx hb dX8_simplestBetween_156 (lv_at hl 7 rfl) ?_
                refine lv_lmul hx hb dX8_simplestBetween_158 ?_
                refine lv_lload hx hb dX8_simplestBetween_159 (lv_at hl 6 rfl) ?_
                refine lv_lload hx hb dX8_simplestBetween_161 (lv_at hl 0 rfl) ?_
                refine lv_lmul hx hb dX8_simplestBetween_163 ?_
                refine W.lcmp hx hb dX8_simplestBetween_164 ?_
                refine lv_if_lt (tgt := 206) hx hb dX8_simplestBetween_165 (by decide) (fun k => ?_) (fun k => ?_)
                · have hw := hw.1 ((lg_cmp_lt _ _).mp k)
                  refine lv_aload_n hx hb dX8_simplestBetween_206 rfl (lv_at hl 2 rfl) ?_
                  refine lv_iload_n hx hb dX8_simplestBetween_207 rfl (lv_at hl 3 rfl) ?_
                  refine lv_lload hx hb dX8_simplestBetween_208 (lv_at hl 1 rfl) ?_
                  refine lv_lload hx hb dX8_simplestBetween_210 (lv_at hl 0 rfl) ?_
                  refine kcI (wc := [((rf 0), o8 rf f_terms f_runs f_leftAbove f_leftBelow f_rightAbove f_rightBelow f_listed f_fed f_read f_formed f_hasSnapshot), ((rf 1), ai cI 8 f_above), ((rf 2), ai cI 8 f_below)]) (wr := []) hP hD hS hA [0, 1, 2] [] rfl rfl ⟨rfl, rfl, by decide⟩ (fun hPc hDc => rV (As := [.int v1, .long x89, .long x100]) (rest := []) C0 hK hN (c8_put l D cI cJ cN cR rf H.size f_terms f_runs f_leftAbove f_leftBelow f_rightAbove f_rightBelow f_listed f_fed f_read f_formed f_hasSnapshot f_above f_below v1 x89 x100 _ hw) 3 gX8_simplestBetween_X8_put rfl ⟨rfl, rfl⟩ nm8_put ⟨Nat.le_of_ble_eq_true rfl, Nat.le_of_ble_eq_true rfl⟩ (q0 := 0) rfl rfl rfl rfl hl.1 rfl (Nat.le_of_ble_eq_true rfl) dX8_simplestBetween_212 ⟨Nat.le_of_ble_eq_true rfl, Nat.le_of_ble_eq_true rfl⟩ hPc hDc) (fun r212 u212 H locs hw hP hD hS => ?_)
                  obtain ⟨f_above_212, f_below_212⟩ := u212
                  dsimp only at hw
                  have hP : va_P D vwCl [((rf 0), o8 rf f_terms f_runs f_leftAbove f_leftBelow f_rightAbove f_rightBelow f_listed f_fed f_read f_formed f_hasSnapshot), ((rf 1), ai cI 8 f_above_212), ((rf 2), ai cI 8 f_below_212)] H := hP
                  have hD : va_D A [((rf 0), o8 rf f_terms f_runs f_leftAbove f_leftBelow f_rightAbove f_rightBelow f_listed f_fed f_read f_formed f_hasSnapshot), ((rf 1), ai cI 8 f_above_212), ((rf 2), ai cI 8 f_below_212)] := hD
                  exact RET _ _ _ (f_leftAbove, f_leftBelow, f_rightAbove, f_rightBelow, f_above_212, f_below_212) _ _ hw hP hD hS dX8_simplestBetween_215
                · have hw := hw.2 (fun h => k ((lg_cmp_lt _ _).mpr h))
                  refine lv_aload_n hx hb dX8_simplestBetween_168 rfl (lv_at hl 2 rfl) ?_
                  refine lv_lload hx hb dX8_simplestBetween_169 (lv_at hl 7 rfl) ?_
                  refine lv_aload_n hx hb dX8_simplestBetween_171 rfl (lv_at hl 2 rfl) ?_
                  refine va_get (D := D) (ci := 8) (v := .long f_rightAbove) (C := RX8) (T := TX8) (N := 35) hx hb hts hi9 hown hK hP 0 rfl rfl 9 (by decide) g39 (fun _ h9 => h9) rfl dX8_simplestBetween_172 ?_
                  refine lv_lmul hx hb dX8_simplestBetween_175 ?_
                  refine lv_lload hx hb dX8_simplestBetween_176 (lv_at hl 6 rfl) ?_
                  refine lv_aload_n hx hb dX8_simplestBetween_178 rfl (lv_at hl 2 rfl) ?_
                  refine va_get (D := D) (ci := 8) (v := .long f_rightBelow) (C := RX8) (T := TX8) (N := 35) hx hb hts hi9 hown hK hP 0 rfl rfl 10 (by decide) g42 (fun _ h9 => h9) rfl dX8_simplestBetween_179 ?_
                  refine lv_lmul hx hb dX8_simplestBetween_182 ?_
                  refine lv_lsub hx hb dX8_simplestBetween_183 ?_
                  refine lv_lload hx hb dX8_simplestBetween_184 (lv_at hl 6 rfl) ?_
                  refine lv_aload_n hx hb dX8_simplestBetween_186 rfl (lv_at hl 2 rfl) ?_
                  refine va_get (D := D) (ci := 8) (v := .long f_leftBelow) (C := RX8) (T := TX8) (N := 35) hx hb hts hi9 hown hK hP 0 rfl rfl 8 (by decide) g36 (fun _ h9 => h9) rfl dX8_simplestBetween_187 ?_
                  refine lv_lmul hx hb dX8_simplestBetween_190 ?_
                  refine lv_lload hx hb dX8_simplestBetween_191 (lv_at hl 7 rfl) ?_
                  refine lv_aload_n hx hb dX8_simplestBetween_193 rfl (lv_at hl 2 rfl) ?_
                  refine va_get (D := D) (ci := 8) (v := .long f_leftAbove) (C := RX8) (T := TX8) (N := 35) hx hb hts hi9 hown hK hP 0 rfl rfl 7 (by decide) g32 (fun _ h9 => h9) rfl dX8_simplestBetween_194 ?_
                  refine lv_lmul hx hb dX8_simplestBetween_197 ?_
                  refine lv_lsub hx hb dX8_simplestBetween_198 ?_
                  obtain ⟨hne, hw⟩ := hw
                  refine lv_ldiv hx hb dX8_simplestBetween_199 hne ?_
                  refine kcV (wc := [((rf 0), o8 rf f_terms f_runs f_leftAbove f_leftBelow f_rightAbove f_rightBelow f_listed f_fed f_read f_formed f_hasSnapshot)]) (wr := [((rf 1), ai cI 8 f_above), ((rf 2), ai cI 8 f_below)]) hP hD hS hA [0] [1, 2] rfl rfl ⟨rfl, rfl, by decide⟩ (fun hPc hDc => rV (As := [.long (((x74 * f_rightAbove) - (x65 * f_rightBelow)) / ((x65 * f_leftBelow) - (x74 * f_leftAbove)))]) (rest := []) C0 hK hN (c8_goLeft l D cI cJ cN cR rf H.size f_terms f_runs f_leftAbove f_leftBelow f_rightAbove f_rightBelow f_listed f_fed f_read f_formed f_hasSnapshot (((x74 * f_rightAbove) - (x65 * f_rightBelow)) / ((x65 * f_leftBelow) - (x74 * f_leftAbove))) _ hw) 1 gX8_simplestBetween_X8_goLeft rfl ⟨rfl, rfl⟩ nm8_goLeft ⟨Nat.le_of_ble_eq_true rfl, Nat.le_of_ble_eq_true rfl⟩ (q0 := 0) rfl rfl rfl rfl hl.1 rfl (Nat.le_of_ble_eq_true rfl) dX8_simplestBetween_200 ⟨Nat.le_of_ble_eq_true rfl, Nat.le_of_ble_eq_true rfl⟩ hPc hDc) (fun u200 H locs hw hP hD hS => ?_)
                  obtain ⟨f_rightAbove_200, f_rightBelow_200⟩ := u200
                  dsimp only at hw
                  have hP : va_P D vwCl [((rf 1), ai cI 8 f_above), ((rf 2), ai cI 8 f_below), ((rf 0), o8 rf f_terms f_runs f_leftAbove f_leftBelow f_rightAbove_200 f_rightBelow_200 f_listed f_fed f_read f_formed f_hasSnapshot)] H := hP
                  have hD : va_D A [((rf 1), ai cI 8 f_above), ((rf 2), ai cI 8 f_below), ((rf 0), o8 rf f_terms f_runs f_leftAbove f_leftBelow f_rightAbove_200 f_rightBelow_200 f_listed f_fed f_read f_formed f_hasSnapshot)] := hD
                  refine lv_goto (tgt := 216) hx hb dX8_simplestBetween_203 (by decide) ?_
                  refine lv_goto (tgt := 80) hx hb dX8_simplestBetween_216 (by decide) ?_
                  obtain ⟨hP, hD⟩ := k_sub (ws' := [((rf 0), o8 rf f_terms f_runs f_leftAbove f_leftBelow f_rightAbove_200 f_rightBelow_200 f_listed f_fed f_read f_formed f_hasSnapshot), ((rf 1), ai cI 8 f_above), ((rf 2), ai cI 8 f_below)]) hP hD [2, 0, 1] rfl rfl
                  exact ih80 f_leftAbove f_leftBelow f_rightAbove_200 f_rightBelow_200 _ _ ls hw hP hD hS (lv_sub hl [2, 3, 4, 5, 6, 7] rfl)
              · have hw := hw.2 (fun h => k ((lg_cmp_gt _ _).mpr h))
                refine lv_aload_n hx hb dX8_simplestBetween_116 rfl (lv_at hl 2 rfl) ?_
                refine lv_lload hx hb dX8_simplestBetween_117 (lv_at hl 4 rfl) ?_
                refine lv_aload_n hx hb dX8_simplestBetween_119 rfl (lv_at hl 2 rfl) ?_
                refine va_get (D := D) (ci := 8) (v := .long f_leftBelow) (C := RX8) (T := TX8) (N := 35) hx hb hts hi9 hown hK hP 0 rfl rfl 8 (by decide) g36 (fun _ h9 => h9) rfl dX8_simplestBetween_120 ?_
                refine lv_lmul hx hb dX8_simplestBetween_123 ?_
                refine lv_lload hx hb dX8_simplestBetween_124 (lv_at hl 5 rfl) ?_
                refine lv_aload_n hx hb dX8_simplestBetween_126 rfl (lv_at hl 2 rfl) ?_
                refine va_get (D := D) (ci := 8) (v := .long f_leftAbove) (C := RX8) (T := TX8) (N := 35) hx hb hts hi9 hown hK hP 0 rfl rfl 7 (by decide) g32 (fun _ h9 => h9) rfl dX8_simplestBetween_127 ?_
                refine lv_lmul hx hb dX8_simplestBetween_130 ?_
                refine lv_lsub hx hb dX8_simplestBetween_131 ?_
                refine lv_lload hx hb dX8_simplestBetween_132 (lv_at hl 5 rfl) ?_
                refine lv_aload_n hx hb dX8_simplestBetween_134 rfl (lv_at hl 2 rfl) ?_
                refine va_get (D := D) (ci := 8) (v := .long f_rightAbove) (C := RX8) (T := TX8) (N := 35) hx hb hts hi9 hown hK hP 0 rfl rfl 9 (by decide) g39 (fun _ h9 => h9) rfl dX8_simplestBetween_135 ?_
                refine lv_lmul hx hb dX8_simplestBetween_138 ?_
                refine lv_lload hx hb dX8_simplestBetween_139 (lv_at hl 4 rfl) ?_
                refine lv_aload_n hx hb dX8_simplestBetween_141 rfl (lv_at hl 2 rfl) ?_
                refine va_get (D := D) (ci := 8) (v := .long f_rightBelow) (C := RX8) (T := TX8) (N := 35) hx hb hts hi9 hown hK hP 0 rfl rfl 10 (by decide) g42 (fun _ h9 => h9) rfl dX8_simplestBetween_142 ?_
                refine lv_lmul hx hb dX8_simplestBetween_145 ?_
                refine lv_lsub hx hb dX8_simplestBetween_146 ?_
                obtain ⟨hne, hw⟩ := hw
                refine lv_ldiv hx hb dX8_simplestBetween_147 hne ?_
                refine kcV (wc := [((rf 0), o8 rf f_terms f_runs f_leftAbove f_leftBelow f_rightAbove f_rightBelow f_listed f_fed f_read f_formed f_hasSnapshot)]) (wr := [((rf 1), ai cI 8 f_above), ((rf 2), ai cI 8 f_below)]) hP hD hS hA [0] [1, 2] rfl rfl ⟨rfl, rfl, by decide⟩ (fun hPc hDc => rV (As := [.long (((x47 * f_leftBelow) - (x56 * f_leftAbove)) / ((x56 * f_rightAbove) - (x47 * f_rightBelow)))]) (rest := []) C0 hK hN (c8_goRight l D cI cJ cN cR rf H.size f_terms f_runs f_leftAbove f_leftBelow f_rightAbove f_rightBelow f_listed f_fed f_read f_formed f_hasSnapshot (((x47 * f_leftBelow) - (x56 * f_leftAbove)) / ((x56 * f_rightAbove) - (x47 * f_rightBelow))) _ hw) 1 gX8_simplestBetween_X8_goRight rfl ⟨rfl, rfl⟩ nm8_goRight ⟨Nat.le_of_ble_eq_true rfl, Nat.le_of_ble_eq_true rfl⟩ (q0 := 0) rfl rfl rfl rfl hl.1 rfl (Nat.le_of_ble_eq_true rfl) dX8_simplestBetween_148 ⟨Nat.le_of_ble_eq_true rfl, Nat.le_of_ble_eq_true rfl⟩ hPc hDc) (fun u148 H locs hw hP hD hS => ?_)
                obtain ⟨f_leftAbove_148, f_leftBelow_148⟩ := u148
                dsimp only at hw
                have hP : va_P D vwCl [((rf 1), ai cI 8 f_above), ((rf 2), ai cI 8 f_below), ((rf 0), o8 rf f_terms f_runs f_leftAbove_148 f_leftBelow_148 f_rightAbove f_rightBelow f_listed f_fed f_read f_formed f_hasSnapshot)] H := hP
                have hD : va_D A [((rf 1), ai cI 8 f_above), ((rf 2), ai cI 8 f_below), ((rf 0), o8 rf f_terms f_runs f_leftAbove_148 f_leftBelow_148 f_rightAbove f_rightBelow f_listed f_fed f_read f_formed f_hasSnapshot)] := hD
                refine lv_goto (tgt := 216) hx hb dX8_simplestBetween_151 (by decide) ?_
                refine lv_goto (tgt := 80) hx hb dX8_simplestBetween_216 (by decide) ?_
                obtain ⟨hP, hD⟩ := k_sub (ws' := [((rf 0), o8 rf f_terms f_runs f_leftAbove_148 f_leftBelow_148 f_rightAbove f_rightBelow f_listed f_fed f_read f_formed f_hasSnapshot), ((rf 1), ai cI 8 f_above), ((rf 2), ai cI 8 f_below)]) hP hD [2, 0, 1] rfl rfl
                exact ih80 f_leftAbove_148 f_leftBelow_148 f_rightAbove f_rightBelow _ _ ls hw hP hD hS (lv_sub hl [2, 3, 4, 5, 6, 7] rfl)
          obtain ⟨hP, hD⟩ := k_sub (ws' := [((rf 0), o8 rf f_terms f_runs f_leftAbove_77 f_leftBelow_77 f_rightAbove_77 f_rightBelow_77 f_listed f_fed f_read f_formed f_hasSnapshot), ((rf 1), ai cI 8 f_above), ((rf 2), ai cI 8 f_below)]) hP hD [2, 0, 1] rfl rfl
          exact LOOP_80 n80 f_leftAbove_77 f_leftBelow_77 f_rightAbove_77 f_rightBelow_77 _ _ ls hw hP hD hS (lv_sub hl [4, 5, 3, 2, 1, 0] rfl)
        · have hw := hw.2 (fun h => k ((lg_cmp_lt _ _).mpr h))
          refine lv_bipush (v := (-2 : Int32)) hx hb dX8_simplestBetween_37 (by decide) ?_
          exact RET _ _ _ (f_leftAbove, f_leftBelow, f_rightAbove, f_rightBelow, f_above, f_below) _ _ hw hP hD hS dX8_simplestBetween_39
      · have hw := hw.2 k
        refine lv_iconst (v := (-1 : Int32)) hx hb dX8_simplestBetween_24 (by decide) ?_
        exact RET _ _ _ (f_leftAbove, f_leftBelow, f_rightAbove, f_rightBelow, f_above, f_below) _ _ hw hP hD hS dX8_simplestBetween_25
abbrev rm8_measureOf : Room := { frames := 3, cells := 0, slots := 0, locals := 73 }
theorem nm8_measureOf : kNm yX8_measureOf 3 := by decide +kernel
set_option maxHeartbeats 4000000 in
set_option maxRecDepth 100000 in
theorem c8_measureOf (l : Launch) (D : va_G) (cI cJ cN cR : ClassId) (rf : Nat → Nat) (sz : Nat) (f_terms : Int32) (f_runs : Int32) (f_leftAbove : Int64) (f_leftBelow : Int64) (f_rightAbove : Int64) (f_rightBelow : Int64) (f_listed : Int32) (f_fed : Int32) (f_read : Int32) (f_formed : Int32) (f_hasSnapshot : Int32) (f_term : (Nat → Int32)) (f_run : (Nat → Int32)) (f_isRight : (Nat → Int32)) (v1 : Int32) (v2 : Int32) (v3 : Int32) (post : Int32 → Int32 → Int32 → (Nat → Int32) → (Nat → Int32) → (Nat → Int32) → Prop) (hw : w8_measureOf f_terms f_runs f_term f_run f_isRight v1 v2 v3 post) : Met l yX8_measureOf wsX8_measureOf rm8_measureOf (kP D (kT cI cJ cN cR) sz [.ref (rf 0), .int v1, .int v2, .int v3] [((rf 0), o8 rf f_terms f_runs f_leftAbove f_leftBelow f_rightAbove f_rightBelow f_listed f_fed f_read f_formed f_hasSnapshot), ((rf 3), ai cI 64 f_term), ((rf 4), ai cI 64 f_run), ((rf 5), ai cI 64 f_isRight)]) (kQi D [((rf 0), o8 rf f_terms f_runs f_leftAbove f_leftBelow f_rightAbove f_rightBelow f_listed f_fed f_read f_formed f_hasSnapshot), ((rf 3), ai cI 64 f_term), ((rf 4), ai cI 64 f_run), ((rf 5), ai cI 64 f_isRight)] sz (fun (r : Int32) (u : Int32 × Int32 × (Nat → Int32) × (Nat → Int32) × (Nat → Int32)) => post r u.1 u.2.1 u.2.2.1 u.2.2.2.1 u.2.2.2.2) (fun (u : Int32 × Int32 × (Nat → Int32) × (Nat → Int32) × (Nat → Int32)) => [((rf 0), o8 rf u.1 u.2.1 f_leftAbove f_leftBelow f_rightAbove f_rightBelow f_listed f_fed f_read f_formed f_hasSnapshot), ((rf 3), ai cI 64 u.2.2.1), ((rf 4), ai cI 64 u.2.2.2.1), ((rf 5), ai cI 64 u.2.2.2.2)])) 0 0 (va_A [((rf 0), o8 rf f_terms f_runs f_leftAbove f_leftBelow f_rightAbove f_rightBelow f_listed f_fed f_read f_formed f_hasSnapshot), ((rf 3), ai cI 64 f_term), ((rf 4), ai cI 64 f_run), ((rf 5), ai cI 64 f_isRight)] sz) := by
  refine kMetI (cc := cX8_measureOf) (maxL := 6) (by decide +kernel) rfl (Nat.le_of_ble_eq_true rfl) ?_
  intro p e s m args below meth c H0 ls A Q C0 hK hN hP hD hS hA hl RET
  obtain ⟨hx, hb, hml, hown, hts⟩ := id C0
  have hl : lv_has ls 6 [(0, .ref (rf 0)), (1, .int v1), (2, .int v2), (3, .int v3)] := hl
  have g25 := hts (.fieldLink RX8 25 "SternBrocotExplorerModel" "terms" "I") (by decide +kernel)
  have g16 := hts (.fieldLink RX8 16 "SternBrocotExplorerModel" "term" "[I") (by decide +kernel)
  have hi9 : ∀ w ∈ wsX80, w ∈ wsX8_measureOf := fun w h => List.mem_cons_of_mem _ (List.mem_append_right _ h)
  unfold w8_measureOf at hw
  have hP : va_P D vwCl [((rf 0), o8 rf f_terms f_runs f_leftAbove f_leftBelow f_rightAbove f_rightBelow f_listed f_fed f_read f_formed f_hasSnapshot), ((rf 3), ai cI 64 f_term), ((rf 4), ai cI 64 f_run), ((rf 5), ai cI 64 f_isRight)] H0 := hP
  refine lv_iload_n hx hb dX8_measureOf_0 rfl (lv_at hl 3 rfl) ?_
  by_cases ho : v3.toInt < 0 ∨ 3 < v3.toInt
  · have hw := hw.1 ho
    refine lv_tableOut (tgt := 101) hx hb dX8_measureOf_1 ho (by decide) ?_
    refine lv_aload_n hx hb dX8_measureOf_101 rfl (lv_at hl 0 rfl) ?_
    refine lv_iload_n hx hb dX8_measureOf_102 rfl (lv_at hl 1 rfl) ?_
    refine lv_iload_n hx hb dX8_measureOf_103 rfl (lv_at hl 2 rfl) ?_
    refine kcV (wc := [((rf 0), o8 rf f_terms f_runs f_leftAbove f_leftBelow f_rightAbove f_rightBelow f_listed f_fed f_read f_formed f_hasSnapshot), ((rf 3), ai cI 64 f_term)]) (wr := [((rf 4), ai cI 64 f_run), ((rf 5), ai cI 64 f_isRight)]) hP hD hS hA [0, 1] [2, 3] rfl rfl ⟨rfl, rfl, by decide⟩ (fun hPc hDc => rV (As := [.int v1, .int v2]) (rest := []) C0 hK hN (c8_layTerms l D cI cJ cN cR rf H0.size f_terms f_runs f_leftAbove f_leftBelow f_rightAbove f_rightBelow f_listed f_fed f_read f_formed f_hasSnapshot f_term v1 v2 _ hw) 2 gX8_measureOf_X8_layTerms rfl ⟨rfl, rfl⟩ nm8_layTerms ⟨Nat.le_of_ble_eq_true rfl, Nat.le_of_ble_eq_true rfl⟩ (q0 := 0) rfl rfl rfl rfl hl.1 rfl (Nat.le_of_ble_eq_true rfl) dX8_measureOf_104 ⟨Nat.le_of_ble_eq_true rfl, Nat.le_of_ble_eq_true rfl⟩ hPc hDc) (fun u104 H locs hw hP hD hS => ?_)
    obtain ⟨f_terms_104, f_term_104⟩ := u104
    dsimp only at hw
    have hP : va_P D vwCl [((rf 4), ai cI 64 f_run), ((rf 5), ai cI 64 f_isRight), ((rf 0), o8 rf f_terms_104 f_runs f_leftAbove f_leftBelow f_rightAbove f_rightBelow f_listed f_fed f_read f_formed f_hasSnapshot), ((rf 3), ai cI 64 f_term_104)] H := hP
    have hD : va_D A [((rf 4), ai cI 64 f_run), ((rf 5), ai cI 64 f_isRight), ((rf 0), o8 rf f_terms_104 f_runs f_leftAbove f_leftBelow f_rightAbove f_rightBelow f_listed f_fed f_read f_formed f_hasSnapshot), ((rf 3), ai cI 64 f_term_104)] := hD
    refine lv_aload_n hx hb dX8_measureOf_107 rfl (lv_at hl 0 rfl) ?_
    refine va_get (D := D) (ci := 8) (v := .int f_terms_104) (C := RX8) (T := TX8) (N := 35) hx hb hts hi9 hown hK hP 2 rfl rfl 5 (by decide) g25 (fun _ h9 => h9) rfl dX8_measureOf_108 ?_
    refine lv_ineg hx hb dX8_measureOf_111 ?_
    obtain ⟨hP, hD⟩ := k_sub (ws' := [((rf 0), o8 rf f_terms_104 f_runs f_leftAbove f_leftBelow f_rightAbove f_rightBelow f_listed f_fed f_read f_formed f_hasSnapshot), ((rf 3), ai cI 64 f_term_104), ((rf 4), ai cI 64 f_run), ((rf 5), ai cI 64 f_isRight)]) hP hD [2, 3, 0, 1] rfl rfl
    exact RET _ _ _ (f_terms_104, f_runs, f_term_104, f_run, f_isRight) _ _ hw hP hD hS dX8_measureOf_112
  rcases (show v3.toInt = 0 ∨ v3.toInt = 1 ∨ v3.toInt = 2 ∨ v3.toInt = 3 by omega) with h9 | h9 | h9 | h9
  · have hw := hw.2.1 (Int32.toInt_inj.mp (h9.trans (by decide)))
    refine lv_tableIn (tgt := 32) hx hb dX8_measureOf_1 (by rw [h9]; decide) (by rw [h9]; decide) (by rw [h9]; rfl) (by decide) ?_
    refine lv_iload_n hx hb dX8_measureOf_32 rfl (lv_at hl 2 rfl) ?_
    exact RET _ _ _ (f_terms, f_runs, f_term, f_run, f_isRight) _ _ hw hP hD hS dX8_measureOf_33
  · have hw := hw.2.2.1 (Int32.toInt_inj.mp (h9.trans (by decide)))
    refine lv_tableIn (tgt := 34) hx hb dX8_measureOf_1 (by rw [h9]; decide) (by rw [h9]; decide) (by rw [h9]; rfl) (by decide) ?_
    refine lv_iload_n hx hb dX8_measureOf_34 rfl (lv_at hl 1 rfl) ?_
    refine lv_iload_n hx hb dX8_measureOf_35 rfl (lv_at hl 2 rfl) ?_
    refine lv_iadd hx hb dX8_measureOf_36 ?_
    exact RET _ _ _ (f_terms, f_runs, f_term, f_run, f_isRight) _ _ hw hP hD hS dX8_measureOf_37
  · have hw := hw.2.2.2.1 (Int32.toInt_inj.mp (h9.trans (by decide)))
    refine lv_tableIn (tgt := 38) hx hb dX8_measureOf_1 (by rw [h9]; decide) (by rw [h9]; decide) (by rw [h9]; rfl) (by decide) ?_
    refine lv_aload_n hx hb dX8_measureOf_38 rfl (lv_at hl 0 rfl) ?_
    refine lv_iload_n hx hb dX8_measureOf_39 rfl (lv_at hl 1 rfl) ?_
    refine lv_iload_n hx hb dX8_measureOf_40 rfl (lv_at hl 2 rfl) ?_
    refine kcI (wc := [((rf 0), o8 rf f_terms f_runs f_leftAbove f_leftBelow f_rightAbove f_rightBelow f_listed f_fed f_read f_formed f_hasSnapshot), ((rf 3), ai cI 64 f_term), ((rf 4), ai cI 64 f_run), ((rf 5), ai cI 64 f_isRight)]) (wr := []) hP hD hS hA [0, 1, 2, 3] [] rfl rfl ⟨rfl, rfl, by decide⟩ (fun hPc hDc => rV (As := [.int v1, .int v2]) (rest := []) C0 hK hN (c8_depthOf l D cI cJ cN cR rf H0.size f_terms f_runs f_leftAbove f_leftBelow f_rightAbove f_rightBelow f_listed f_fed f_read f_formed f_hasSnapshot f_term f_run f_isRight v1 v2 _ hw) 2 gX8_measureOf_X8_depthOf rfl ⟨rfl, rfl⟩ nm8_depthOf ⟨Nat.le_of_ble_eq_true rfl, Nat.le_of_ble_eq_true rfl⟩ (q0 := 0) rfl rfl rfl rfl hl.1 rfl (Nat.le_of_ble_eq_true rfl) dX8_measureOf_41 ⟨Nat.le_of_ble_eq_true rfl, Nat.le_of_ble_eq_true rfl⟩ hPc hDc) (fun r41 u41 H locs hw hP hD hS => ?_)
    obtain ⟨f_terms_41, f_runs_41, f_term_41, f_run_41, f_isRight_41⟩ := u41
    dsimp only at hw
    have hP : va_P D vwCl [((rf 0), o8 rf f_terms_41 f_runs_41 f_leftAbove f_leftBelow f_rightAbove f_rightBelow f_listed f_fed f_read f_formed f_hasSnapshot), ((rf 3), ai cI 64 f_term_41), ((rf 4), ai cI 64 f_run_41), ((rf 5), ai cI 64 f_isRight_41)] H := hP
    have hD : va_D A [((rf 0), o8 rf f_terms_41 f_runs_41 f_leftAbove f_leftBelow f_rightAbove f_rightBelow f_listed f_fed f_read f_formed f_hasSnapshot), ((rf 3), ai cI 64 f_term_41), ((rf 4), ai cI 64 f_run_41), ((rf 5), ai cI 64 f_isRight_41)] := hD
    exact RET _ _ _ (f_terms_41, f_runs_41, f_term_41, f_run_41, f_isRight_41) _ _ hw hP hD hS dX8_measureOf_44
  · have hw := hw.2.2.2.2 (Int32.toInt_inj.mp (h9.trans (by decide)))
    refine lv_tableIn (tgt := 45) hx hb dX8_measureOf_1 (by rw [h9]; decide) (by rw [h9]; decide) (by rw [h9]; rfl) (by decide) ?_
    refine lv_aload_n hx hb dX8_measureOf_45 rfl (lv_at hl 0 rfl) ?_
    refine lv_iload_n hx hb dX8_measureOf_46 rfl (lv_at hl 1 rfl) ?_
    refine lv_iload_n hx hb dX8_measureOf_47 rfl (lv_at hl 2 rfl) ?_
    refine kcV (wc := [((rf 0), o8 rf f_terms f_runs f_leftAbove f_leftBelow f_rightAbove f_rightBelow f_listed f_fed f_read f_formed f_hasSnapshot), ((rf 3), ai cI 64 f_term)]) (wr := [((rf 4), ai cI 64 f_run), ((rf 5), ai cI 64 f_isRight)]) hP hD hS hA [0, 1] [2, 3] rfl rfl ⟨rfl, rfl, by decide⟩ (fun hPc hDc => rV (As := [.int v1, .int v2]) (rest := []) C0 hK hN (c8_layTerms l D cI cJ cN cR rf H0.size f_terms f_runs f_leftAbove f_leftBelow f_rightAbove f_rightBelow f_listed f_fed f_read f_formed f_hasSnapshot f_term v1 v2 _ hw) 2 gX8_measureOf_X8_layTerms rfl ⟨rfl, rfl⟩ nm8_layTerms ⟨Nat.le_of_ble_eq_true rfl, Nat.le_of_ble_eq_true rfl⟩ (q0 := 0) rfl rfl rfl rfl hl.1 rfl (Nat.le_of_ble_eq_true rfl) dX8_measureOf_48 ⟨Nat.le_of_ble_eq_true rfl, Nat.le_of_ble_eq_true rfl⟩ hPc hDc) (fun u48 H locs hw hP hD hS => ?_)
    obtain ⟨f_terms_48, f_term_48⟩ := u48
    dsimp only at hw
    have hP : va_P D vwCl [((rf 4), ai cI 64 f_run), ((rf 5), ai cI 64 f_isRight), ((rf 0), o8 rf f_terms_48 f_runs f_leftAbove f_leftBelow f_rightAbove f_rightBelow f_listed f_fed f_read f_formed f_hasSnapshot), ((rf 3), ai cI 64 f_term_48)] H := hP
    have hD : va_D A [((rf 4), ai cI 64 f_run), ((rf 5), ai cI 64 f_isRight), ((rf 0), o8 rf f_terms_48 f_runs f_leftAbove f_leftBelow f_rightAbove f_rightBelow f_listed f_fed f_read f_formed f_hasSnapshot), ((rf 3), ai cI 64 f_term_48)] := hD
    refine lv_iconst (v := (0 : Int32)) hx hb dX8_measureOf_51 (by decide) ?_
    refine lv_istore (lv' := [(4, .int (0 : Int32)), (0, .ref (rf 0)), (1, .int v1), (2, .int v2), (3, .int v3)]) hx hb dX8_measureOf_52 hl (by decide) rfl (fun ls hl => ?_)
    refine lv_iconst (v := (0 : Int32)) hx hb dX8_measureOf_54 (by decide) ?_
    refine lv_istore (lv' := [(5, .int (0 : Int32)), (4, .int (0 : Int32)), (0, .ref (rf 0)), (1, .int v1), (2, .int v2), (3, .int v3)]) hx hb dX8_measureOf_55 hl (by decide) rfl (fun ls hl => ?_)
    obtain ⟨n57, hw⟩ := hw
    have LOOP_57 : ∀ (n57 : Nat) (v4 : Int32) (v5 : Int32) (H : Heap) (locs : List Loc) (ls : Array Slot), w8_measureOf_L57 f_terms_48 f_runs f_term_48 f_run f_isRight post n57 v4 v5 → va_P D vwCl [((rf 0), o8 rf f_terms_48 f_runs f_leftAbove f_leftBelow f_rightAbove f_rightBelow f_listed f_fed f_read f_formed f_hasSnapshot), ((rf 3), ai cI 64 f_term_48), ((rf 4), ai cI 64 f_run), ((rf 5), ai cI 64 f_isRight)] H → va_D A [((rf 0), o8 rf f_terms_48 f_runs f_leftAbove f_leftBelow f_rightAbove f_rightBelow f_listed f_fed f_read f_formed f_hasSnapshot), ((rf 3), ai cI 64 f_term_48), ((rf 4), ai cI 64 f_run), ((rf 5), ai cI 64 f_isRight)] → va_S A H0 H locs → lv_has ls 6 [(0, .ref (rf 0)), (4, .int v4), (5, .int v5)] → W p l e rm8_measureOf s m args below meth c H locs 0 0 Q (F0 m 57 ls []) := by
      clear hw hl hP hD hS
      intro n57
      induction n57 with
      | zero =>
        intro v4 v5 H locs ls hw hP hD hS hl
        rw [w8_measureOf_L57] at hw
        exact hw.elim
      | succ n57 ih57 =>
        intro v4 v5 H locs ls hw hP hD hS hl
        rw [w8_measureOf_L57] at hw
        refine lv_iload hx hb dX8_measureOf_57 (lv_at hl 2 rfl) ?_
        refine lv_aload_n hx hb dX8_measureOf_59 rfl (lv_at hl 0 rfl) ?_
        refine va_get (D := D) (ci := 8) (v := .int f_terms_48) (C := RX8) (T := TX8) (N := 35) hx hb hts hi9 hown hK hP 0 rfl rfl 5 (by decide) g25 (fun _ h9 => h9) rfl dX8_measureOf_60 ?_
        refine lv_icmp_ge (tgt := 98) hx hb dX8_measureOf_63 (by decide) (fun k => ?_) (fun k => ?_)
        · have hw := hw.1 k
          refine lv_iload hx hb dX8_measureOf_98 (lv_at hl 1 rfl) ?_
          exact RET _ _ _ (f_terms_48, f_runs, f_term_48, f_run, f_isRight) _ _ hw hP hD hS dX8_measureOf_100
        · have hw := hw.2 k
          refine lv_aload_n hx hb dX8_measureOf_66 rfl (lv_at hl 0 rfl) ?_
          refine va_get (D := D) (ci := 8) (v := .ref (rf 3)) (C := RX8) (T := TX8) (N := 35) hx hb hts hi9 hown hK hP 0 rfl rfl 2 (by decide) g16 (fun _ h9 => h9) rfl dX8_measureOf_67 ?_
          refine lv_iload hx hb dX8_measureOf_70 (lv_at hl 2 rfl) ?_
          obtain ⟨hin, hw⟩ := hw
          refine va_iald hx hb hK hP 1 0 rfl rfl hin dX8_measureOf_72 ?_
          refine lv_iload hx hb dX8_measureOf_73 (lv_at hl 1 rfl) ?_
          refine lv_icmp_le (tgt := 88) hx hb dX8_measureOf_75 (by decide) (fun k => ?_) (fun k => ?_)
          · have hw := hw.1 k
            refine lv_iload hx hb dX8_measureOf_88 (lv_at hl 1 rfl) ?_
            refine lv_istore (lv' := [(4, .int v4), (0, .ref (rf 0)), (5, .int v5)]) hx hb dX8_measureOf_90 hl (by decide) rfl (fun ls hl => ?_)
            obtain ⟨x92, ex92⟩ : ∃ y : Int32, y = (v5 + (1 : Int32)) := ⟨_, rfl⟩
            have hw := hw x92 ex92
            refine lv_iinc (v := x92) (lv' := [(5, .int x92), (4, .int v4), (0, .ref (rf 0))]) hx hb dX8_measureOf_92 hl (k := 2) rfl (by rw [ex92]; rfl) (by decide) rfl (fun ls hl => ?_)
            refine lv_goto (tgt := 57) hx hb dX8_measureOf_95 (by decide) ?_
            exact ih57 v4 x92 _ _ ls hw hP hD hS (lv_sub hl [2, 1, 0] rfl)
          · have hw := hw.2 k
            refine lv_aload_n hx hb dX8_measureOf_78 rfl (lv_at hl 0 rfl) ?_
            refine va_get (D := D) (ci := 8) (v := .ref (rf 3)) (C := RX8) (T := TX8) (N := 35) hx hb hts hi9 hown hK hP 0 rfl rfl 2 (by decide) g16 (fun _ h9 => h9) rfl dX8_measureOf_79 ?_
            refine lv_iload hx hb dX8_measureOf_82 (lv_at hl 2 rfl) ?_
            obtain ⟨hin, hw⟩ := hw
            refine va_iald hx hb hK hP 1 0 rfl rfl hin dX8_measureOf_84 ?_
            refine lv_goto (tgt := 90) hx hb dX8_measureOf_85 (by decide) ?_
            refine lv_topi (fun x90 ex90 => ?_)
            have hw := hw x90 ex90
            refine lv_istore (lv' := [(4, .int x90), (0, .ref (rf 0)), (5, .int v5)]) hx hb dX8_measureOf_90 hl (by decide) rfl (fun ls hl => ?_)
            obtain ⟨x92, ex92⟩ : ∃ y : Int32, y = (v5 + (1 : Int32)) := ⟨_, rfl⟩
            have hw := hw x92 ex92
            refine lv_iinc (v := x92) (lv' := [(5, .int x92), (4, .int x90), (0, .ref (rf 0))]) hx hb dX8_measureOf_92 hl (k := 2) rfl (by rw [ex92]; rfl) (by decide) rfl (fun ls hl => ?_)
            refine lv_goto (tgt := 57) hx hb dX8_measureOf_95 (by decide) ?_
            exact ih57 x90 x92 _ _ ls hw hP hD hS (lv_sub hl [2, 1, 0] rfl)
    obtain ⟨hP, hD⟩ := k_sub (ws' := [((rf 0), o8 rf f_terms_48 f_runs f_leftAbove f_leftBelow f_rightAbove f_rightBelow f_listed f_fed f_read f_formed f_hasSnapshot), ((rf 3), ai cI 64 f_term_48), ((rf 4), ai cI 64 f_run), ((rf 5), ai cI 64 f_isRight)]) hP hD [2, 3, 0, 1] rfl rfl
    exact LOOP_57 n57 (0 : Int32) (0 : Int32) _ _ ls hw hP hD hS (lv_sub hl [2, 1, 0] rfl)
abbrev rm8_rankedBetween : Room := { frames := 4, cells := 0, slots := 0, locals := 98 }
theorem nm8_rankedBetween : kNm yX8_rankedBetween 5 := by decide +kernel
set_option maxHeartbeats 4000000 in
set_option maxRecDepth 100000 in
theorem c8_rankedBetween (l : Launch) (D : va_G) (cI cJ cN cR : ClassId) (rf : Nat → Nat) (sz : Nat) (f_terms : Int32) (f_runs : Int32) (f_leftAbove : Int64) (f_leftBelow : Int64) (f_rightAbove : Int64) (f_rightBelow : Int64) (f_listed : Int32) (f_fed : Int32) (f_read : Int32) (f_formed : Int32) (f_hasSnapshot : Int32) (f_above : (Nat → Int32)) (f_below : (Nat → Int32)) (f_term : (Nat → Int32)) (f_run : (Nat → Int32)) (f_isRight : (Nat → Int32)) (f_fractions : (Nat → Int32)) (f_keys : (Nat → Int64)) (v1 : Int32) (v2 : Int32) (v3 : Int32) (v4 : Int32) (v5 : Int32) (post : Int32 → Int32 → Int32 → (Nat → Int32) → (Nat → Int32) → (Nat → Int32) → (Nat → Int32) → (Nat → Int32) → (Nat → Int32) → (Nat → Int64) → Prop) (hw : w8_rankedBetween f_terms f_runs f_above f_below f_term f_run f_isRight f_fractions f_keys v1 v2 v3 v4 v5 post) : Met l yX8_rankedBetween wsX8_rankedBetween rm8_rankedBetween (kP D (kT cI cJ cN cR) sz [.ref (rf 0), .int v1, .int v2, .int v3, .int v4, .int v5] [((rf 0), o8 rf f_terms f_runs f_leftAbove f_leftBelow f_rightAbove f_rightBelow f_listed f_fed f_read f_formed f_hasSnapshot), ((rf 1), ai cI 8 f_above), ((rf 2), ai cI 8 f_below), ((rf 3), ai cI 64 f_term), ((rf 4), ai cI 64 f_run), ((rf 5), ai cI 64 f_isRight), ((rf 16), ai cI 800 f_fractions), ((rf 17), al cJ 800 f_keys)]) (kQi D [((rf 0), o8 rf f_terms f_runs f_leftAbove f_leftBelow f_rightAbove f_rightBelow f_listed f_fed f_read f_formed f_hasSnapshot), ((rf 1), ai cI 8 f_above), ((rf 2), ai cI 8 f_below), ((rf 3), ai cI 64 f_term), ((rf 4), ai cI 64 f_run), ((rf 5), ai cI 64 f_isRight), ((rf 16), ai cI 800 f_fractions), ((rf 17), al cJ 800 f_keys)] sz (fun (r : Int32) (u : Int32 × Int32 × (Nat → Int32) × (Nat → Int32) × (Nat → Int32) × (Nat → Int32) × (Nat → Int32) × (Nat → Int32) × (Nat → Int64)) => post r u.1 u.2.1 u.2.2.1 u.2.2.2.1 u.2.2.2.2.1 u.2.2.2.2.2.1 u.2.2.2.2.2.2.1 u.2.2.2.2.2.2.2.1 u.2.2.2.2.2.2.2.2) (fun (u : Int32 × Int32 × (Nat → Int32) × (Nat → Int32) × (Nat → Int32) × (Nat → Int32) × (Nat → Int32) × (Nat → Int32) × (Nat → Int64)) => [((rf 0), o8 rf u.1 u.2.1 f_leftAbove f_leftBelow f_rightAbove f_rightBelow f_listed f_fed f_read f_formed f_hasSnapshot), ((rf 1), ai cI 8 u.2.2.1), ((rf 2), ai cI 8 u.2.2.2.1), ((rf 3), ai cI 64 u.2.2.2.2.1), ((rf 4), ai cI 64 u.2.2.2.2.2.1), ((rf 5), ai cI 64 u.2.2.2.2.2.2.1), ((rf 16), ai cI 800 u.2.2.2.2.2.2.2.1), ((rf 17), al cJ 800 u.2.2.2.2.2.2.2.2)])) 0 0 (va_A [((rf 0), o8 rf f_terms f_runs f_leftAbove f_leftBelow f_rightAbove f_rightBelow f_listed f_fed f_read f_formed f_hasSnapshot), ((rf 1), ai cI 8 f_above), ((rf 2), ai cI 8 f_below), ((rf 3), ai cI 64 f_term), ((rf 4), ai cI 64 f_run), ((rf 5), ai cI 64 f_isRight), ((rf 16), ai cI 800 f_fractions), ((rf 17), al cJ 800 f_keys)] sz) := by
  refine kMetI (cc := cX8_rankedBetween) (maxL := 10) (by decide +kernel) rfl (Nat.le_of_ble_eq_true rfl) ?_
  intro p e s m args below meth c H0 ls A Q C0 hK hN hP hD hS hA hl RET
  obtain ⟨hx, hb, hml, hown, hts⟩ := id C0
  have hl : lv_has ls 10 [(0, .ref (rf 0)), (1, .int v1), (2, .int v2), (3, .int v3), (4, .int v4), (5, .int v5)] := hl
  have g13 := hts (.fieldLink RX8 13 "SternBrocotExplorerModel" "below" "[I") (by decide +kernel)
  have g7 := hts (.fieldLink RX8 7 "SternBrocotExplorerModel" "above" "[I") (by decide +kernel)
  have g57 := hts (.fieldLink RX8 57 "SternBrocotExplorerModel" "fractions" "[I") (by decide +kernel)
  have g60 := hts (.fieldLink RX8 60 "SternBrocotExplorerModel" "keys" "[J") (by decide +kernel)
  have hi9 : ∀ w ∈ wsX80, w ∈ wsX8_rankedBetween := fun w h => List.mem_cons_of_mem _ (List.mem_append_right _ h)
  unfold w8_rankedBetween at hw
  have hP : va_P D vwCl [((rf 0), o8 rf f_terms f_runs f_leftAbove f_leftBelow f_rightAbove f_rightBelow f_listed f_fed f_read f_formed f_hasSnapshot), ((rf 1), ai cI 8 f_above), ((rf 2), ai cI 8 f_below), ((rf 3), ai cI 64 f_term), ((rf 4), ai cI 64 f_run), ((rf 5), ai cI 64 f_isRight), ((rf 16), ai cI 800 f_fractions), ((rf 17), al cJ 800 f_keys)] H0 := hP
  refine lv_aload_n hx hb dX8_rankedBetween_0 rfl (lv_at hl 0 rfl) ?_
  refine lv_iload_n hx hb dX8_rankedBetween_1 rfl (lv_at hl 1 rfl) ?_
  refine kcRI (wc := [((rf 0), o8 rf f_terms f_runs f_leftAbove f_leftBelow f_rightAbove f_rightBelow f_listed f_fed f_read f_formed f_hasSnapshot)]) hP [0] rfl (fun hPc => oV (As := [.int v1]) (rest := []) C0 hK hN (c8_isRegister l D cI cJ cN cR rf f_terms f_runs f_leftAbove f_leftBelow f_rightAbove f_rightBelow f_listed f_fed f_read f_formed f_hasSnapshot v1 _ hw) 1 gX8_rankedBetween_X8_isRegister rfl ⟨rfl, rfl⟩ nm8_isRegister ⟨Nat.le_of_ble_eq_true rfl, Nat.le_of_ble_eq_true rfl⟩ (q0 := 0) rfl rfl rfl rfl hl.1 rfl (Nat.le_of_ble_eq_true rfl) dX8_rankedBetween_2 ⟨Nat.le_of_ble_eq_true rfl, Nat.le_of_ble_eq_true rfl⟩ hPc) (fun r2 hw => ?_)
  obtain ⟨nb2, hw⟩ := hw
  refine lv_if_eq (tgt := 42) hx hb dX8_rankedBetween_5 (by decide) (fun k => ?_) (fun k => ?_)
  · have hw := hw.1 k
    refine lv_iconst (v := (-1 : Int32)) hx hb dX8_rankedBetween_42 (by decide) ?_
    exact RET _ _ _ (f_terms, f_runs, f_above, f_below, f_term, f_run, f_isRight, f_fractions, f_keys) _ _ hw hP hD hS dX8_rankedBetween_43
  · have hw := hw.2 k
    refine lv_aload_n hx hb dX8_rankedBetween_8 rfl (lv_at hl 0 rfl) ?_
    refine lv_iload_n hx hb dX8_rankedBetween_9 rfl (lv_at hl 2 rfl) ?_
    refine kcRI (wc := [((rf 0), o8 rf f_terms f_runs f_leftAbove f_leftBelow f_rightAbove f_rightBelow f_listed f_fed f_read f_formed f_hasSnapshot)]) hP [0] rfl (fun hPc => oV (As := [.int v2]) (rest := []) C0 hK hN (c8_isRegister l D cI cJ cN cR rf f_terms f_runs f_leftAbove f_leftBelow f_rightAbove f_rightBelow f_listed f_fed f_read f_formed f_hasSnapshot v2 _ hw) 1 gX8_rankedBetween_X8_isRegister rfl ⟨rfl, rfl⟩ nm8_isRegister ⟨Nat.le_of_ble_eq_true rfl, Nat.le_of_ble_eq_true rfl⟩ (q0 := 0) rfl rfl rfl rfl hl.1 rfl (Nat.le_of_ble_eq_true rfl) dX8_rankedBetween_10 ⟨Nat.le_of_ble_eq_true rfl, Nat.le_of_ble_eq_true rfl⟩ hPc) (fun r10 hw => ?_)
    obtain ⟨nb10, hw⟩ := hw
    refine lv_if_eq (tgt := 42) hx hb dX8_rankedBetween_13 (by decide) (fun k => ?_) (fun k => ?_)
    · have hw := hw.1 k
      refine lv_iconst (v := (-1 : Int32)) hx hb dX8_rankedBetween_42 (by decide) ?_
      exact RET _ _ _ (f_terms, f_runs, f_above, f_below, f_term, f_run, f_isRight, f_fractions, f_keys) _ _ hw hP hD hS dX8_rankedBetween_43
    · have hw := hw.2 k
      refine lv_aload_n hx hb dX8_rankedBetween_16 rfl (lv_at hl 0 rfl) ?_
      refine lv_iload_n hx hb dX8_rankedBetween_17 rfl (lv_at hl 3 rfl) ?_
      refine kcRI (wc := [((rf 0), o8 rf f_terms f_runs f_leftAbove f_leftBelow f_rightAbove f_rightBelow f_listed f_fed f_read f_formed f_hasSnapshot)]) hP [0] rfl (fun hPc => oV (As := [.int v3]) (rest := []) C0 hK hN (c8_isRegister l D cI cJ cN cR rf f_terms f_runs f_leftAbove f_leftBelow f_rightAbove f_rightBelow f_listed f_fed f_read f_formed f_hasSnapshot v3 _ hw) 1 gX8_rankedBetween_X8_isRegister rfl ⟨rfl, rfl⟩ nm8_isRegister ⟨Nat.le_of_ble_eq_true rfl, Nat.le_of_ble_eq_true rfl⟩ (q0 := 0) rfl rfl rfl rfl hl.1 rfl (Nat.le_of_ble_eq_true rfl) dX8_rankedBetween_18 ⟨Nat.le_of_ble_eq_true rfl, Nat.le_of_ble_eq_true rfl⟩ hPc) (fun r18 hw => ?_)
      obtain ⟨nb18, hw⟩ := hw
      refine lv_if_eq (tgt := 42) hx hb dX8_rankedBetween_21 (by decide) (fun k => ?_) (fun k => ?_)
      · have hw := hw.1 k
        refine lv_iconst (v := (-1 : Int32)) hx hb dX8_rankedBetween_42 (by decide) ?_
        exact RET _ _ _ (f_terms, f_runs, f_above, f_below, f_term, f_run, f_isRight, f_fractions, f_keys) _ _ hw hP hD hS dX8_rankedBetween_43
      · have hw := hw.2 k
        refine lv_iload hx hb dX8_rankedBetween_24 (lv_at hl 4 rfl) ?_
        refine lv_i2l hx hb dX8_rankedBetween_26 rfl ?_
        refine lv_lconst (v := (0 : Int64)) hx hb dX8_rankedBetween_27 (by decide) ?_
        refine lv_ldc2 (v := (4 : Int64)) hx hb hown (hts (.constantLong RX8 143 (4)) (by decide +kernel)) dX8_rankedBetween_28 ?_
        refine kcRI (wc := []) hP [] rfl (fun hPc => oS (As := [.long v4.toInt64, .long (0 : Int64), .long (4 : Int64)]) (rest := []) C0 hK hN (c8_within l D cI cJ cN cR   v4.toInt64 (0 : Int64) (4 : Int64) _ hw) 3 gX8_rankedBetween_X8_within rfl ⟨rfl, rfl⟩ nm8_within ⟨Nat.le_of_ble_eq_true rfl, Nat.le_of_ble_eq_true rfl⟩ rfl hl.1 rfl (Nat.le_of_ble_eq_true rfl) dX8_rankedBetween_31 ⟨Nat.le_of_ble_eq_true rfl, Nat.le_of_ble_eq_true rfl⟩ hPc) (fun r31 hw => ?_)
        obtain ⟨nb31, hw⟩ := hw
        refine lv_if_eq (tgt := 42) hx hb dX8_rankedBetween_34 (by decide) (fun k => ?_) (fun k => ?_)
        · have hw := hw.1 k
          refine lv_iconst (v := (-1 : Int32)) hx hb dX8_rankedBetween_42 (by decide) ?_
          exact RET _ _ _ (f_terms, f_runs, f_above, f_below, f_term, f_run, f_isRight, f_fractions, f_keys) _ _ hw hP hD hS dX8_rankedBetween_43
        · have hw := hw.2 k
          refine lv_iload hx hb dX8_rankedBetween_37 (lv_at hl 5 rfl) ?_
          refine lv_if_ge (tgt := 44) hx hb dX8_rankedBetween_39 (by decide) (fun k => ?_) (fun k => ?_)
          · have hw := hw.1 k
            refine lv_iconst (v := (0 : Int32)) hx hb dX8_rankedBetween_44 (by decide) ?_
            refine lv_istore (lv' := [(6, .int (0 : Int32)), (0, .ref (rf 0)), (1, .int v1), (2, .int v2), (3, .int v3), (4, .int v4), (5, .int v5)]) hx hb dX8_rankedBetween_45 hl (by decide) rfl (fun ls hl => ?_)
            refine lv_iconst (v := (1 : Int32)) hx hb dX8_rankedBetween_47 (by decide) ?_
            refine lv_istore (lv' := [(7, .int (1 : Int32)), (6, .int (0 : Int32)), (0, .ref (rf 0)), (1, .int v1), (2, .int v2), (3, .int v3), (4, .int v4), (5, .int v5)]) hx hb dX8_rankedBetween_48 hl (by decide) rfl (fun ls hl => ?_)
            obtain ⟨n50, hw⟩ := hw
            have LOOP_50 : ∀ (n50 : Nat) (v6 : Int32) (v7 : Int32) (f_terms : Int32) (f_runs : Int32) (f_term : (Nat → Int32)) (f_run : (Nat → Int32)) (f_isRight : (Nat → Int32)) (f_fractions : (Nat → Int32)) (f_keys : (Nat → Int64)) (H : Heap) (locs : List Loc) (ls : Array Slot), w8_rankedBetween_L50 f_above f_below v1 v2 v3 v4 v5 post n50 v6 v7 f_terms f_runs f_term f_run f_isRight f_fractions f_keys → va_P D vwCl [((rf 0), o8 rf f_terms f_runs f_leftAbove f_leftBelow f_rightAbove f_rightBelow f_listed f_fed f_read f_formed f_hasSnapshot), ((rf 1), ai cI 8 f_above), ((rf 2), ai cI 8 f_below), ((rf 3), ai cI 64 f_term), ((rf 4), ai cI 64 f_run), ((rf 5), ai cI 64 f_isRight), ((rf 16), ai cI 800 f_fractions), ((rf 17), al cJ 800 f_keys)] H → va_D A [((rf 0), o8 rf f_terms f_runs f_leftAbove f_leftBelow f_rightAbove f_rightBelow f_listed f_fed f_read f_formed f_hasSnapshot), ((rf 1), ai cI 8 f_above), ((rf 2), ai cI 8 f_below), ((rf 3), ai cI 64 f_term), ((rf 4), ai cI 64 f_run), ((rf 5), ai cI 64 f_isRight), ((rf 16), ai cI 800 f_fractions), ((rf 17), al cJ 800 f_keys)] → va_S A H0 H locs → lv_has ls 10 [(0, .ref (rf 0)), (1, .int v1), (2, .int v2), (3, .int v3), (4, .int v4), (5, .int v5), (6, .int v6), (7, .int v7)] → W p l e rm8_rankedBetween s m args below meth c H locs 0 0 Q (F0 m 50 ls []) := by
              clear hw hl hP hD hS
              intro n50
              induction n50 with
              | zero =>
                intro v6 v7 f_terms f_runs f_term f_run f_isRight f_fractions f_keys H locs ls hw hP hD hS hl
                rw [w8_rankedBetween_L50] at hw
                exact hw.elim
              | succ n50 ih50 =>
                intro v6 v7 f_terms f_runs f_term f_run f_isRight f_fractions f_keys H locs ls hw hP hD hS hl
                rw [w8_rankedBetween_L50] at hw
                refine lv_iload hx hb dX8_rankedBetween_50 (lv_at hl 7 rfl) ?_
                refine lv_bipush (v := (24 : Int32)) hx hb dX8_rankedBetween_52 (by decide) ?_
                refine lv_icmp_gt (tgt := 208) hx hb dX8_rankedBetween_54 (by decide) (fun k => ?_) (fun k => ?_)
                · have hw := hw.1 k
                  refine lv_iload hx hb dX8_rankedBetween_208 (lv_at hl 5 rfl) ?_
                  refine lv_iload hx hb dX8_rankedBetween_210 (lv_at hl 6 rfl) ?_
                  refine lv_icmp_lt (tgt := 218) hx hb dX8_rankedBetween_212 (by decide) (fun k => ?_) (fun k => ?_)
                  · have hw := hw.1 k
                    refine lv_iconst (v := (0 : Int32)) hx hb dX8_rankedBetween_218 (by decide) ?_
                    refine lv_istore (lv' := [(7, .int (0 : Int32)), (0, .ref (rf 0)), (1, .int v1), (2, .int v2), (3, .int v3), (4, .int v4), (5, .int v5), (6, .int v6)]) hx hb dX8_rankedBetween_219 hl (by decide) rfl (fun ls hl => ?_)
                    obtain ⟨n221, hw⟩ := hw
                    have LOOP_221 : ∀ (n221 : Nat) (v7 : Int32) (H : Heap) (locs : List Loc) (ls : Array Slot), w8_rankedBetween_L221 f_terms f_runs f_above f_below f_term f_run f_isRight f_fractions f_keys v1 v5 v6 post n221 v7 → va_P D vwCl [((rf 0), o8 rf f_terms f_runs f_leftAbove f_leftBelow f_rightAbove f_rightBelow f_listed f_fed f_read f_formed f_hasSnapshot), ((rf 1), ai cI 8 f_above), ((rf 2), ai cI 8 f_below), ((rf 3), ai cI 64 f_term), ((rf 4), ai cI 64 f_run), ((rf 5), ai cI 64 f_isRight), ((rf 16), ai cI 800 f_fractions), ((rf 17), al cJ 800 f_keys)] H → va_D A [((rf 0), o8 rf f_terms f_runs f_leftAbove f_leftBelow f_rightAbove f_rightBelow f_listed f_fed f_read f_formed f_hasSnapshot), ((rf 1), ai cI 8 f_above), ((rf 2), ai cI 8 f_below), ((rf 3), ai cI 64 f_term), ((rf 4), ai cI 64 f_run), ((rf 5), ai cI 64 f_isRight), ((rf 16), ai cI 800 f_fractions), ((rf 17), al cJ 800 f_keys)] → va_S A H0 H locs → lv_has ls 10 [(0, .ref (rf 0)), (1, .int v1), (5, .int v5), (6, .int v6), (7, .int v7)] → W p l e rm8_rankedBetween s m args below meth c H locs 0 0 Q (F0 m 221 ls []) := by
                      clear hw hl hP hD hS
                      intro n221
                      induction n221 with
                      | zero =>
                        intro v7 H locs ls hw hP hD hS hl
                        rw [w8_rankedBetween_L221] at hw
                        exact hw.elim
                      | succ n221 ih221 =>
                        intro v7 H locs ls hw hP hD hS hl
                        rw [w8_rankedBetween_L221] at hw
                        refine lv_iload hx hb dX8_rankedBetween_221 (lv_at hl 4 rfl) ?_
                        refine lv_iload hx hb dX8_rankedBetween_223 (lv_at hl 3 rfl) ?_
                        refine lv_icmp_ge (tgt := 329) hx hb dX8_rankedBetween_225 (by decide) (fun k => ?_) (fun k => ?_)
                        · have hw := hw.1 k
                          refine lv_bipush (v := (-2 : Int32)) hx hb dX8_rankedBetween_329 (by decide) ?_
                          exact RET _ _ _ (f_terms, f_runs, f_above, f_below, f_term, f_run, f_isRight, f_fractions, f_keys) _ _ hw hP hD hS dX8_rankedBetween_331
                        · have hw := hw.2 k
                          refine lv_iconst (v := (0 : Int32)) hx hb dX8_rankedBetween_228 (by decide) ?_
                          refine lv_istore (lv' := [(8, .int (0 : Int32)), (0, .ref (rf 0)), (1, .int v1), (5, .int v5), (6, .int v6), (7, .int v7)]) hx hb dX8_rankedBetween_229 hl (by decide) rfl (fun ls hl => ?_)
                          refine lv_iconst (v := (0 : Int32)) hx hb dX8_rankedBetween_231 (by decide) ?_
                          refine lv_istore (lv' := [(9, .int (0 : Int32)), (8, .int (0 : Int32)), (0, .ref (rf 0)), (1, .int v1), (5, .int v5), (6, .int v6), (7, .int v7)]) hx hb dX8_rankedBetween_232 hl (by decide) rfl (fun ls hl => ?_)
                          obtain ⟨n234, hw⟩ := hw
                          have LOOP_234 : ∀ (n234 : Nat) (v8 : Int32) (v9 : Int32) (H : Heap) (locs : List Loc) (ls : Array Slot), w8_rankedBetween_L234 f_terms f_runs f_above f_below f_term f_run f_isRight f_fractions f_keys v1 v5 v6 v7 post (fun z0 => w8_rankedBetween_L221 f_terms f_runs f_above f_below f_term f_run f_isRight f_fractions f_keys v1 v5 v6 post n221 z0) n234 v8 v9 → va_P D vwCl [((rf 0), o8 rf f_terms f_runs f_leftAbove f_leftBelow f_rightAbove f_rightBelow f_listed f_fed f_read f_formed f_hasSnapshot), ((rf 1), ai cI 8 f_above), ((rf 2), ai cI 8 f_below), ((rf 3), ai cI 64 f_term), ((rf 4), ai cI 64 f_run), ((rf 5), ai cI 64 f_isRight), ((rf 16), ai cI 800 f_fractions), ((rf 17), al cJ 800 f_keys)] H → va_D A [((rf 0), o8 rf f_terms f_runs f_leftAbove f_leftBelow f_rightAbove f_rightBelow f_listed f_fed f_read f_formed f_hasSnapshot), ((rf 1), ai cI 8 f_above), ((rf 2), ai cI 8 f_below), ((rf 3), ai cI 64 f_term), ((rf 4), ai cI 64 f_run), ((rf 5), ai cI 64 f_isRight), ((rf 16), ai cI 800 f_fractions), ((rf 17), al cJ 800 f_keys)] → va_S A H0 H locs → lv_has ls 10 [(0, .ref (rf 0)), (1, .int v1), (5, .int v5), (6, .int v6), (7, .int v7), (8, .int v8), (9, .int v9)] → W p l e rm8_rankedBetween s m args below meth c H locs 0 0 Q (F0 m 234 ls []) := by
                            clear hw hl hP hD hS
                            intro n234
                            induction n234 with
                            | zero =>
                              intro v8 v9 H locs ls hw hP hD hS hl
                              rw [w8_rankedBetween_L234] at hw
                              exact hw.elim
                            | succ n234 ih234 =>
                              intro v8 v9 H locs ls hw hP hD hS hl
                              rw [w8_rankedBetween_L234] at hw
                              refine lv_iload hx hb dX8_rankedBetween_234 (lv_at hl 6 rfl) ?_
                              refine lv_iload hx hb dX8_rankedBetween_236 (lv_at hl 3 rfl) ?_
                              refine lv_icmp_ge (tgt := 275) hx hb dX8_rankedBetween_238 (by decide) (fun k => ?_) (fun k => ?_)
                              · have hw := hw.1 k
                                refine lv_iload hx hb dX8_rankedBetween_275 (lv_at hl 5 rfl) ?_
                                refine lv_iload hx hb dX8_rankedBetween_277 (lv_at hl 2 rfl) ?_
                                refine lv_icmp_ne (tgt := 323) hx hb dX8_rankedBetween_279 (by decide) (fun k => ?_) (fun k => ?_)
                                · have hw := hw.1 k
                                  obtain ⟨x323, ex323⟩ : ∃ y : Int32, y = (v7 + (1 : Int32)) := ⟨_, rfl⟩
                                  have hw := hw x323 ex323
                                  refine lv_iinc (v := x323) (lv' := [(7, .int x323), (0, .ref (rf 0)), (1, .int v1), (5, .int v5), (6, .int v6), (8, .int v8), (9, .int v9)]) hx hb dX8_rankedBetween_323 hl (k := 4) rfl (by rw [ex323]; rfl) (by decide) rfl (fun ls hl => ?_)
                                  refine lv_goto (tgt := 221) hx hb dX8_rankedBetween_326 (by decide) ?_
                                  exact ih221 x323 _ _ ls hw hP hD hS (lv_sub hl [1, 2, 3, 4, 0] rfl)
                                · have hw := hw.2 k
                                  refine lv_aload_n hx hb dX8_rankedBetween_282 rfl (lv_at hl 0 rfl) ?_
                                  refine lv_iload_n hx hb dX8_rankedBetween_283 rfl (lv_at hl 1 rfl) ?_
                                  refine lv_aload_n hx hb dX8_rankedBetween_284 rfl (lv_at hl 0 rfl) ?_
                                  refine va_get (D := D) (ci := 8) (v := .ref (rf 16)) (C := RX8) (T := TX8) (N := 35) hx hb hts hi9 hown hK hP 0 rfl rfl 15 (by decide) g57 (fun _ h9 => h9) rfl dX8_rankedBetween_285 ?_
                                  refine lv_iload hx hb dX8_rankedBetween_288 (lv_at hl 4 rfl) ?_
                                  obtain ⟨hin, hw⟩ := hw
                                  refine va_iald hx hb hK hP 6 0 rfl rfl hin dX8_rankedBetween_290 ?_
                                  refine lv_sipush (v := (1000 : Int32)) hx hb dX8_rankedBetween_291 (by decide) ?_
                                  obtain ⟨hne, hw⟩ := hw
                                  refine lv_idiv hx hb dX8_rankedBetween_294 hne ?_
                                  refine lv_i2l hx hb dX8_rankedBetween_295 rfl ?_
                                  refine lv_aload_n hx hb dX8_rankedBetween_296 rfl (lv_at hl 0 rfl) ?_
                                  refine va_get (D := D) (ci := 8) (v := .ref (rf 16)) (C := RX8) (T := TX8) (N := 35) hx hb hts hi9 hown hK hP 0 rfl rfl 15 (by decide) g57 (fun _ h9 => h9) rfl dX8_rankedBetween_297 ?_
                                  refine lv_iload hx hb dX8_rankedBetween_300 (lv_at hl 4 rfl) ?_
                                  obtain ⟨hin, hw⟩ := hw
                                  refine va_iald hx hb hK hP 6 0 rfl rfl hin dX8_rankedBetween_302 ?_
                                  refine lv_sipush (v := (1000 : Int32)) hx hb dX8_rankedBetween_303 (by decide) ?_
                                  obtain ⟨hne, hw⟩ := hw
                                  refine lv_irem hx hb dX8_rankedBetween_306 hne ?_
                                  refine lv_i2l hx hb dX8_rankedBetween_307 rfl ?_
                                  refine kcI (wc := [((rf 0), o8 rf f_terms f_runs f_leftAbove f_leftBelow f_rightAbove f_rightBelow f_listed f_fed f_read f_formed f_hasSnapshot), ((rf 1), ai cI 8 f_above), ((rf 2), ai cI 8 f_below)]) (wr := [((rf 3), ai cI 64 f_term), ((rf 4), ai cI 64 f_run), ((rf 5), ai cI 64 f_isRight), ((rf 16), ai cI 800 f_fractions), ((rf 17), al cJ 800 f_keys)]) hP hD hS hA [0, 1, 2] [3, 4, 5, 6, 7] rfl rfl ⟨rfl, rfl, by decide⟩ (fun hPc hDc => rV (As := [.int v1, .long (((f_fractions v7.toNatClampNeg) / (1000 : Int32)).toInt64), .long (((f_fractions v7.toNatClampNeg) - ((f_fractions v7.toNatClampNeg) / (1000 : Int32)) * (1000 : Int32)).toInt64)]) (rest := []) C0 hK hN (c8_put l D cI cJ cN cR rf H.size f_terms f_runs f_leftAbove f_leftBelow f_rightAbove f_rightBelow f_listed f_fed f_read f_formed f_hasSnapshot f_above f_below v1 (((f_fractions v7.toNatClampNeg) / (1000 : Int32)).toInt64) (((f_fractions v7.toNatClampNeg) - ((f_fractions v7.toNatClampNeg) / (1000 : Int32)) * (1000 : Int32)).toInt64) _ hw) 3 gX8_rankedBetween_X8_put rfl ⟨rfl, rfl⟩ nm8_put ⟨Nat.le_of_ble_eq_true rfl, Nat.le_of_ble_eq_true rfl⟩ (q0 := 0) rfl rfl rfl rfl hl.1 rfl (Nat.le_of_ble_eq_true rfl) dX8_rankedBetween_308 ⟨Nat.le_of_ble_eq_true rfl, Nat.le_of_ble_eq_true rfl⟩ hPc hDc) (fun r308 u308 H locs hw hP hD hS => ?_)
                                  obtain ⟨f_above_308, f_below_308⟩ := u308
                                  dsimp only at hw
                                  have hP : va_P D vwCl [((rf 3), ai cI 64 f_term), ((rf 4), ai cI 64 f_run), ((rf 5), ai cI 64 f_isRight), ((rf 16), ai cI 800 f_fractions), ((rf 17), al cJ 800 f_keys), ((rf 0), o8 rf f_terms f_runs f_leftAbove f_leftBelow f_rightAbove f_rightBelow f_listed f_fed f_read f_formed f_hasSnapshot), ((rf 1), ai cI 8 f_above_308), ((rf 2), ai cI 8 f_below_308)] H := hP
                                  have hD : va_D A [((rf 3), ai cI 64 f_term), ((rf 4), ai cI 64 f_run), ((rf 5), ai cI 64 f_isRight), ((rf 16), ai cI 800 f_fractions), ((rf 17), al cJ 800 f_keys), ((rf 0), o8 rf f_terms f_runs f_leftAbove f_leftBelow f_rightAbove f_rightBelow f_listed f_fed f_read f_formed f_hasSnapshot), ((rf 1), ai cI 8 f_above_308), ((rf 2), ai cI 8 f_below_308)] := hD
                                  refine lv_iconst (v := (1 : Int32)) hx hb dX8_rankedBetween_311 (by decide) ?_
                                  refine lv_icmp_ne (tgt := 320) hx hb dX8_rankedBetween_312 (by decide) (fun k => ?_) (fun k => ?_)
                                  · have hw := hw.1 k
                                    refine lv_bipush (v := (-2 : Int32)) hx hb dX8_rankedBetween_320 (by decide) ?_
                                    obtain ⟨hP, hD⟩ := k_sub (ws' := [((rf 0), o8 rf f_terms f_runs f_leftAbove f_leftBelow f_rightAbove f_rightBelow f_listed f_fed f_read f_formed f_hasSnapshot), ((rf 1), ai cI 8 f_above_308), ((rf 2), ai cI 8 f_below_308), ((rf 3), ai cI 64 f_term), ((rf 4), ai cI 64 f_run), ((rf 5), ai cI 64 f_isRight), ((rf 16), ai cI 800 f_fractions), ((rf 17), al cJ 800 f_keys)]) hP hD [5, 6, 7, 0, 1, 2, 3, 4] rfl rfl
                                    exact RET _ _ _ (f_terms, f_runs, f_above_308, f_below_308, f_term, f_run, f_isRight, f_fractions, f_keys) _ _ hw hP hD hS dX8_rankedBetween_322
                                  · have hw := hw.2 k
                                    refine lv_iload hx hb dX8_rankedBetween_315 (lv_at hl 3 rfl) ?_
                                    refine lv_goto (tgt := 322) hx hb dX8_rankedBetween_317 (by decide) ?_
                                    obtain ⟨hP, hD⟩ := k_sub (ws' := [((rf 0), o8 rf f_terms f_runs f_leftAbove f_leftBelow f_rightAbove f_rightBelow f_listed f_fed f_read f_formed f_hasSnapshot), ((rf 1), ai cI 8 f_above_308), ((rf 2), ai cI 8 f_below_308), ((rf 3), ai cI 64 f_term), ((rf 4), ai cI 64 f_run), ((rf 5), ai cI 64 f_isRight), ((rf 16), ai cI 800 f_fractions), ((rf 17), al cJ 800 f_keys)]) hP hD [5, 6, 7, 0, 1, 2, 3, 4] rfl rfl
                                    exact RET _ _ _ (f_terms, f_runs, f_above_308, f_below_308, f_term, f_run, f_isRight, f_fractions, f_keys) _ _ hw hP hD hS dX8_rankedBetween_322
                              · have hw := hw.2 k
                                refine lv_iload hx hb dX8_rankedBetween_241 (lv_at hl 5 rfl) ?_
                                refine lv_aload_n hx hb dX8_rankedBetween_243 rfl (lv_at hl 0 rfl) ?_
                                refine va_get (D := D) (ci := 8) (v := .ref (rf 17)) (C := RX8) (T := TX8) (N := 35) hx hb hts hi9 hown hK hP 0 rfl rfl 16 (by decide) g60 (fun _ h9 => h9) rfl dX8_rankedBetween_244 ?_
                                refine lv_iload hx hb dX8_rankedBetween_247 (lv_at hl 6 rfl) ?_
                                obtain ⟨hin, hw⟩ := hw
                                refine va_lald hx hb hK hP 7 1 rfl rfl hin dX8_rankedBetween_249 ?_
                                refine lv_aload_n hx hb dX8_rankedBetween_250 rfl (lv_at hl 0 rfl) ?_
                                refine va_get (D := D) (ci := 8) (v := .ref (rf 17)) (C := RX8) (T := TX8) (N := 35) hx hb hts hi9 hown hK hP 0 rfl rfl 16 (by decide) g60 (fun _ h9 => h9) rfl dX8_rankedBetween_251 ?_
                                refine lv_iload hx hb dX8_rankedBetween_254 (lv_at hl 4 rfl) ?_
                                obtain ⟨hin, hw⟩ := hw
                                refine va_lald hx hb hK hP 7 1 rfl rfl hin dX8_rankedBetween_256 ?_
                                refine W.lcmp hx hb dX8_rankedBetween_257 ?_
                                refine lv_if_ge (tgt := 265) hx hb dX8_rankedBetween_258 (by decide) (fun k => ?_) (fun k => ?_)
                                · have hw := hw.1 ((lg_cmp_ge _ _).mp k)
                                  refine lv_iconst (v := (0 : Int32)) hx hb dX8_rankedBetween_265 (by decide) ?_
                                  refine lv_iadd hx hb dX8_rankedBetween_266 ?_
                                  refine lv_topi (fun x267 ex267 => ?_)
                                  have hw := hw x267 ex267
                                  refine lv_istore (lv' := [(8, .int x267), (0, .ref (rf 0)), (1, .int v1), (5, .int v5), (6, .int v6), (7, .int v7), (9, .int v9)]) hx hb dX8_rankedBetween_267 hl (by decide) rfl (fun ls hl => ?_)
                                  obtain ⟨x269, ex269⟩ : ∃ y : Int32, y = (v9 + (1 : Int32)) := ⟨_, rfl⟩
                                  have hw := hw x269 ex269
                                  refine lv_iinc (v := x269) (lv' := [(9, .int x269), (8, .int x267), (0, .ref (rf 0)), (1, .int v1), (5, .int v5), (6, .int v6), (7, .int v7)]) hx hb dX8_rankedBetween_269 hl (k := 6) rfl (by rw [ex269]; rfl) (by decide) rfl (fun ls hl => ?_)
                                  refine lv_goto (tgt := 234) hx hb dX8_rankedBetween_272 (by decide) ?_
                                  exact ih234 x267 x269 _ _ ls hw hP hD hS (lv_sub hl [2, 3, 4, 5, 6, 1, 0] rfl)
                                · have hw := hw.2 (fun h => k ((lg_cmp_ge _ _).mpr h))
                                  refine lv_iconst (v := (1 : Int32)) hx hb dX8_rankedBetween_261 (by decide) ?_
                                  refine lv_goto (tgt := 266) hx hb dX8_rankedBetween_262 (by decide) ?_
                                  refine lv_iadd hx hb dX8_rankedBetween_266 ?_
                                  refine lv_topi (fun x267 ex267 => ?_)
                                  have hw := hw x267 ex267
                                  refine lv_istore (lv' := [(8, .int x267), (0, .ref (rf 0)), (1, .int v1), (5, .int v5), (6, .int v6), (7, .int v7), (9, .int v9)]) hx hb dX8_rankedBetween_267 hl (by decide) rfl (fun ls hl => ?_)
                                  obtain ⟨x269, ex269⟩ : ∃ y : Int32, y = (v9 + (1 : Int32)) := ⟨_, rfl⟩
                                  have hw := hw x269 ex269
                                  refine lv_iinc (v := x269) (lv' := [(9, .int x269), (8, .int x267), (0, .ref (rf 0)), (1, .int v1), (5, .int v5), (6, .int v6), (7, .int v7)]) hx hb dX8_rankedBetween_269 hl (k := 6) rfl (by rw [ex269]; rfl) (by decide) rfl (fun ls hl => ?_)
                                  refine lv_goto (tgt := 234) hx hb dX8_rankedBetween_272 (by decide) ?_
                                  exact ih234 x267 x269 _ _ ls hw hP hD hS (lv_sub hl [2, 3, 4, 5, 6, 1, 0] rfl)
                          exact LOOP_234 n234 (0 : Int32) (0 : Int32) _ _ ls hw hP hD hS (lv_sub hl [2, 3, 4, 5, 6, 1, 0] rfl)
                    exact LOOP_221 n221 (0 : Int32) _ _ ls hw hP hD hS (lv_sub hl [1, 2, 6, 7, 0] rfl)
                  · have hw := hw.2 k
                    refine lv_bipush (v := (-2 : Int32)) hx hb dX8_rankedBetween_215 (by decide) ?_
                    exact RET _ _ _ (f_terms, f_runs, f_above, f_below, f_term, f_run, f_isRight, f_fractions, f_keys) _ _ hw hP hD hS dX8_rankedBetween_217
                · have hw := hw.2 k
                  refine lv_iconst (v := (1 : Int32)) hx hb dX8_rankedBetween_57 (by decide) ?_
                  refine lv_istore (lv' := [(8, .int (1 : Int32)), (0, .ref (rf 0)), (1, .int v1), (2, .int v2), (3, .int v3), (4, .int v4), (5, .int v5), (6, .int v6), (7, .int v7)]) hx hb dX8_rankedBetween_58 hl (by decide) rfl (fun ls hl => ?_)
                  obtain ⟨n60, hw⟩ := hw
                  have LOOP_60 : ∀ (n60 : Nat) (v6 : Int32) (v8 : Int32) (f_terms : Int32) (f_runs : Int32) (f_term : (Nat → Int32)) (f_run : (Nat → Int32)) (f_isRight : (Nat → Int32)) (f_fractions : (Nat → Int32)) (f_keys : (Nat → Int64)) (H : Heap) (locs : List Loc) (ls : Array Slot), w8_rankedBetween_L60 f_above f_below v1 v2 v3 v4 v5 v7 post (fun z0 z1 z2 z3 z4 z5 z6 z7 z8 => w8_rankedBetween_L50 f_above f_below v1 v2 v3 v4 v5 post n50 z0 z1 z2 z3 z4 z5 z6 z7 z8) n60 v6 v8 f_terms f_runs f_term f_run f_isRight f_fractions f_keys → va_P D vwCl [((rf 0), o8 rf f_terms f_runs f_leftAbove f_leftBelow f_rightAbove f_rightBelow f_listed f_fed f_read f_formed f_hasSnapshot), ((rf 1), ai cI 8 f_above), ((rf 2), ai cI 8 f_below), ((rf 3), ai cI 64 f_term), ((rf 4), ai cI 64 f_run), ((rf 5), ai cI 64 f_isRight), ((rf 16), ai cI 800 f_fractions), ((rf 17), al cJ 800 f_keys)] H → va_D A [((rf 0), o8 rf f_terms f_runs f_leftAbove f_leftBelow f_rightAbove f_rightBelow f_listed f_fed f_read f_formed f_hasSnapshot), ((rf 1), ai cI 8 f_above), ((rf 2), ai cI 8 f_below), ((rf 3), ai cI 64 f_term), ((rf 4), ai cI 64 f_run), ((rf 5), ai cI 64 f_isRight), ((rf 16), ai cI 800 f_fractions), ((rf 17), al cJ 800 f_keys)] → va_S A H0 H locs → lv_has ls 10 [(0, .ref (rf 0)), (1, .int v1), (2, .int v2), (3, .int v3), (4, .int v4), (5, .int v5), (6, .int v6), (7, .int v7), (8, .int v8)] → W p l e rm8_rankedBetween s m args below meth c H locs 0 0 Q (F0 m 60 ls []) := by
                    clear hw hl hP hD hS
                    intro n60
                    induction n60 with
                    | zero =>
                      intro v6 v8 f_terms f_runs f_term f_run f_isRight f_fractions f_keys H locs ls hw hP hD hS hl
                      rw [w8_rankedBetween_L60] at hw
                      exact hw.elim
                    | succ n60 ih60 =>
                      intro v6 v8 f_terms f_runs f_term f_run f_isRight f_fractions f_keys H locs ls hw hP hD hS hl
                      rw [w8_rankedBetween_L60] at hw
                      refine lv_iload hx hb dX8_rankedBetween_60 (lv_at hl 8 rfl) ?_
                      refine lv_iconst (v := (4 : Int32)) hx hb dX8_rankedBetween_62 (by decide) ?_
                      refine lv_iload hx hb dX8_rankedBetween_63 (lv_at hl 7 rfl) ?_
                      refine lv_imul hx hb dX8_rankedBetween_65 ?_
                      refine lv_icmp_ge (tgt := 202) hx hb dX8_rankedBetween_66 (by decide) (fun k => ?_) (fun k => ?_)
                      · have hw := hw.1 k
                        obtain ⟨x202, ex202⟩ : ∃ y : Int32, y = (v7 + (1 : Int32)) := ⟨_, rfl⟩
                        have hw := hw x202 ex202
                        refine lv_iinc (v := x202) (lv' := [(7, .int x202), (0, .ref (rf 0)), (1, .int v1), (2, .int v2), (3, .int v3), (4, .int v4), (5, .int v5), (6, .int v6), (8, .int v8)]) hx hb dX8_rankedBetween_202 hl (k := 7) rfl (by rw [ex202]; rfl) (by decide) rfl (fun ls hl => ?_)
                        refine lv_goto (tgt := 50) hx hb dX8_rankedBetween_205 (by decide) ?_
                        exact ih50 v6 x202 f_terms f_runs f_term f_run f_isRight f_fractions f_keys _ _ ls hw hP hD hS (lv_sub hl [1, 2, 3, 4, 5, 6, 7, 0] rfl)
                      · have hw := hw.2 k
                        refine lv_aload_n hx hb dX8_rankedBetween_69 rfl (lv_at hl 0 rfl) ?_
                        refine lv_iload hx hb dX8_rankedBetween_70 (lv_at hl 8 rfl) ?_
                        refine lv_i2l hx hb dX8_rankedBetween_72 rfl ?_
                        refine lv_iload hx hb dX8_rankedBetween_73 (lv_at hl 7 rfl) ?_
                        refine lv_i2l hx hb dX8_rankedBetween_75 rfl ?_
                        refine kcRL (wc := [((rf 0), o8 rf f_terms f_runs f_leftAbove f_leftBelow f_rightAbove f_rightBelow f_listed f_fed f_read f_formed f_hasSnapshot)]) hP [0] rfl (fun hPc => oV (As := [.long v8.toInt64, .long v7.toInt64]) (rest := []) C0 hK hN (c8_divisor l D cI cJ cN cR rf f_terms f_runs f_leftAbove f_leftBelow f_rightAbove f_rightBelow f_listed f_fed f_read f_formed f_hasSnapshot v8.toInt64 v7.toInt64 _ hw) 2 gX8_rankedBetween_X8_divisor rfl ⟨rfl, rfl⟩ nm8_divisor ⟨Nat.le_of_ble_eq_true rfl, Nat.le_of_ble_eq_true rfl⟩ (q0 := 0) rfl rfl rfl rfl hl.1 rfl (Nat.le_of_ble_eq_true rfl) dX8_rankedBetween_76 ⟨Nat.le_of_ble_eq_true rfl, Nat.le_of_ble_eq_true rfl⟩ hPc) (fun r76 hw => ?_)
                        refine lv_lconst (v := (1 : Int64)) hx hb dX8_rankedBetween_79 (by decide) ?_
                        refine W.lcmp hx hb dX8_rankedBetween_80 ?_
                        refine lv_if_ne (tgt := 196) hx hb dX8_rankedBetween_81 (by decide) (fun k => ?_) (fun k => ?_)
                        · have hw := hw.1 (fun h => k ((lg_cmp_eq _ _).mpr h))
                          obtain ⟨x196, ex196⟩ : ∃ y : Int32, y = (v8 + (1 : Int32)) := ⟨_, rfl⟩
                          have hw := hw x196 ex196
                          refine lv_iinc (v := x196) (lv' := [(8, .int x196), (0, .ref (rf 0)), (1, .int v1), (2, .int v2), (3, .int v3), (4, .int v4), (5, .int v5), (6, .int v6), (7, .int v7)]) hx hb dX8_rankedBetween_196 hl (k := 8) rfl (by rw [ex196]; rfl) (by decide) rfl (fun ls hl => ?_)
                          refine lv_goto (tgt := 60) hx hb dX8_rankedBetween_199 (by decide) ?_
                          exact ih60 v6 x196 f_terms f_runs f_term f_run f_isRight f_fractions f_keys _ _ ls hw hP hD hS (lv_sub hl [1, 2, 3, 4, 5, 6, 7, 8, 0] rfl)
                        · have hw := hw.2 ((lg_cmp_eq _ _).mp k)
                          refine lv_iload hx hb dX8_rankedBetween_84 (lv_at hl 8 rfl) ?_
                          refine lv_i2l hx hb dX8_rankedBetween_86 rfl ?_
                          refine lv_aload_n hx hb dX8_rankedBetween_87 rfl (lv_at hl 0 rfl) ?_
                          refine va_get (D := D) (ci := 8) (v := .ref (rf 2)) (C := RX8) (T := TX8) (N := 35) hx hb hts hi9 hown hK hP 0 rfl rfl 1 (by decide) g13 (fun _ h9 => h9) rfl dX8_rankedBetween_88 ?_
                          refine lv_iload_n hx hb dX8_rankedBetween_91 rfl (lv_at hl 2 rfl) ?_
                          obtain ⟨hin, hw⟩ := hw
                          refine va_iald hx hb hK hP 2 0 rfl rfl hin dX8_rankedBetween_92 ?_
                          refine lv_i2l hx hb dX8_rankedBetween_93 rfl ?_
                          refine lv_lmul hx hb dX8_rankedBetween_94 ?_
                          refine lv_aload_n hx hb dX8_rankedBetween_95 rfl (lv_at hl 0 rfl) ?_
                          refine va_get (D := D) (ci := 8) (v := .ref (rf 1)) (C := RX8) (T := TX8) (N := 35) hx hb hts hi9 hown hK hP 0 rfl rfl 0 (by decide) g7 (fun _ h9 => h9) rfl dX8_rankedBetween_96 ?_
                          refine lv_iload_n hx hb dX8_rankedBetween_99 rfl (lv_at hl 2 rfl) ?_
                          obtain ⟨hin, hw⟩ := hw
                          refine va_iald hx hb hK hP 1 0 rfl rfl hin dX8_rankedBetween_100 ?_
                          refine lv_i2l hx hb dX8_rankedBetween_101 rfl ?_
                          refine lv_iload hx hb dX8_rankedBetween_102 (lv_at hl 7 rfl) ?_
                          refine lv_i2l hx hb dX8_rankedBetween_104 rfl ?_
                          refine lv_lmul hx hb dX8_rankedBetween_105 ?_
                          refine W.lcmp hx hb dX8_rankedBetween_106 ?_
                          refine lv_if_le (tgt := 196) hx hb dX8_rankedBetween_107 (by decide) (fun k => ?_) (fun k => ?_)
                          · have hw := hw.1 ((lg_cmp_le _ _).mp k)
                            obtain ⟨x196, ex196⟩ : ∃ y : Int32, y = (v8 + (1 : Int32)) := ⟨_, rfl⟩
                            have hw := hw x196 ex196
                            refine lv_iinc (v := x196) (lv' := [(8, .int x196), (0, .ref (rf 0)), (1, .int v1), (2, .int v2), (3, .int v3), (4, .int v4), (5, .int v5), (6, .int v6), (7, .int v7)]) hx hb dX8_rankedBetween_196 hl (k := 8) rfl (by rw [ex196]; rfl) (by decide) rfl (fun ls hl => ?_)
                            refine lv_goto (tgt := 60) hx hb dX8_rankedBetween_199 (by decide) ?_
                            exact ih60 v6 x196 f_terms f_runs f_term f_run f_isRight f_fractions f_keys _ _ ls hw hP hD hS (lv_sub hl [1, 2, 3, 4, 5, 6, 7, 8, 0] rfl)
                          · have hw := hw.2 (fun h => k ((lg_cmp_le _ _).mpr h))
                            refine lv_iload hx hb dX8_rankedBetween_110 (lv_at hl 8 rfl) ?_
                            refine lv_i2l hx hb dX8_rankedBetween_112 rfl ?_
                            refine lv_aload_n hx hb dX8_rankedBetween_113 rfl (lv_at hl 0 rfl) ?_
                            refine va_get (D := D) (ci := 8) (v := .ref (rf 2)) (C := RX8) (T := TX8) (N := 35) hx hb hts hi9 hown hK hP 0 rfl rfl 1 (by decide) g13 (fun _ h9 => h9) rfl dX8_rankedBetween_114 ?_
                            refine lv_iload_n hx hb dX8_rankedBetween_117 rfl (lv_at hl 3 rfl) ?_
                            obtain ⟨hin, hw⟩ := hw
                            refine va_iald hx hb hK hP 2 0 rfl rfl hin dX8_rankedBetween_118 ?_
                            refine lv_i2l hx hb dX8_rankedBetween_119 rfl ?_
                            refine lv_lmul hx hb dX8_rankedBetween_120 ?_
                            refine lv_aload_n hx hb dX8_rankedBetween_121 rfl (lv_at hl 0 rfl) ?_
                            refine va_get (D := D) (ci := 8) (v := .ref (rf 1)) (C := RX8) (T := TX8) (N := 35) hx hb hts hi9 hown hK hP 0 rfl rfl 0 (by decide) g7 (fun _ h9 => h9) rfl dX8_rankedBetween_122 ?_
                            refine lv_iload_n hx hb dX8_rankedBetween_125 rfl (lv_at hl 3 rfl) ?_
                            obtain ⟨hin, hw⟩ := hw
                            refine va_iald hx hb hK hP 1 0 rfl rfl hin dX8_rankedBetween_126 ?_
                            refine lv_i2l hx hb dX8_rankedBetween_127 rfl ?_
                            refine lv_iload hx hb dX8_rankedBetween_128 (lv_at hl 7 rfl) ?_
                            refine lv_i2l hx hb dX8_rankedBetween_130 rfl ?_
                            refine lv_lmul hx hb dX8_rankedBetween_131 ?_
                            refine W.lcmp hx hb dX8_rankedBetween_132 ?_
                            refine lv_if_lt (tgt := 139) hx hb dX8_rankedBetween_133 (by decide) (fun k => ?_) (fun k => ?_)
                            · have hw := hw.1 ((lg_cmp_lt _ _).mp k)
                              refine lv_aload_n hx hb dX8_rankedBetween_139 rfl (lv_at hl 0 rfl) ?_
                              refine va_get (D := D) (ci := 8) (v := .ref (rf 16)) (C := RX8) (T := TX8) (N := 35) hx hb hts hi9 hown hK hP 0 rfl rfl 15 (by decide) g57 (fun _ h9 => h9) rfl dX8_rankedBetween_140 ?_
                              refine lv_iload hx hb dX8_rankedBetween_143 (lv_at hl 6 rfl) ?_
                              refine lv_sipush (v := (1000 : Int32)) hx hb dX8_rankedBetween_145 (by decide) ?_
                              refine lv_iload hx hb dX8_rankedBetween_148 (lv_at hl 8 rfl) ?_
                              refine lv_imul hx hb dX8_rankedBetween_150 ?_
                              refine lv_iload hx hb dX8_rankedBetween_151 (lv_at hl 7 rfl) ?_
                              refine lv_iadd hx hb dX8_rankedBetween_153 ?_
                              obtain ⟨hin, hw⟩ := hw
                              refine va_iast hx hb hK hP hD hS 6 0 rfl rfl hin dX8_rankedBetween_154 (fun H locs hP hD hS => ?_)
                              have hP : va_P D vwCl [((rf 0), o8 rf f_terms f_runs f_leftAbove f_leftBelow f_rightAbove f_rightBelow f_listed f_fed f_read f_formed f_hasSnapshot), ((rf 1), ai cI 8 f_above), ((rf 2), ai cI 8 f_below), ((rf 3), ai cI 64 f_term), ((rf 4), ai cI 64 f_run), ((rf 5), ai cI 64 f_isRight), ((rf 16), ai cI 800 (upd f_fractions v6.toNatClampNeg (((1000 : Int32) * v8) + v7))), ((rf 17), al cJ 800 f_keys)] H := hP
                              have hD : va_D A [((rf 0), o8 rf f_terms f_runs f_leftAbove f_leftBelow f_rightAbove f_rightBelow f_listed f_fed f_read f_formed f_hasSnapshot), ((rf 1), ai cI 8 f_above), ((rf 2), ai cI 8 f_below), ((rf 3), ai cI 64 f_term), ((rf 4), ai cI 64 f_run), ((rf 5), ai cI 64 f_isRight), ((rf 16), ai cI 800 (upd f_fractions v6.toNatClampNeg (((1000 : Int32) * v8) + v7))), ((rf 17), al cJ 800 f_keys)] := hD
                              refine lv_aload_n hx hb dX8_rankedBetween_155 rfl (lv_at hl 0 rfl) ?_
                              refine va_get (D := D) (ci := 8) (v := .ref (rf 17)) (C := RX8) (T := TX8) (N := 35) hx hb hts hi9 hown hK hP 0 rfl rfl 16 (by decide) g60 (fun _ h9 => h9) rfl dX8_rankedBetween_156 ?_
                              refine lv_iload hx hb dX8_rankedBetween_159 (lv_at hl 6 rfl) ?_
                              refine lv_ldc2 (v := (1000000 : Int64)) hx hb hown (hts (.constantLong RX8 129 (1000000)) (by decide +kernel)) dX8_rankedBetween_161 ?_
                              refine lv_aload_n hx hb dX8_rankedBetween_164 rfl (lv_at hl 0 rfl) ?_
                              refine lv_iload hx hb dX8_rankedBetween_165 (lv_at hl 8 rfl) ?_
                              refine lv_iload hx hb dX8_rankedBetween_167 (lv_at hl 7 rfl) ?_
                              refine lv_iload hx hb dX8_rankedBetween_169 (lv_at hl 4 rfl) ?_
                              refine kcI (wc := [((rf 0), o8 rf f_terms f_runs f_leftAbove f_leftBelow f_rightAbove f_rightBelow f_listed f_fed f_read f_formed f_hasSnapshot), ((rf 3), ai cI 64 f_term), ((rf 4), ai cI 64 f_run), ((rf 5), ai cI 64 f_isRight)]) (wr := [((rf 1), ai cI 8 f_above), ((rf 2), ai cI 8 f_below), ((rf 16), ai cI 800 (upd f_fractions v6.toNatClampNeg (((1000 : Int32) * v8) + v7))), ((rf 17), al cJ 800 f_keys)]) hP hD hS hA [0, 3, 4, 5] [1, 2, 6, 7] rfl rfl ⟨rfl, rfl, by decide⟩ (fun hPc hDc => rV (As := [.int v8, .int v7, .int v4]) (rest := [.long (1000000 : Int64), .int v6, .ref (rf 17)]) C0 hK hN (c8_measureOf l D cI cJ cN cR rf H.size f_terms f_runs f_leftAbove f_leftBelow f_rightAbove f_rightBelow f_listed f_fed f_read f_formed f_hasSnapshot f_term f_run f_isRight v8 v7 v4 _ hw) 3 gX8_rankedBetween_X8_measureOf rfl ⟨rfl, rfl⟩ nm8_measureOf ⟨Nat.le_of_ble_eq_true rfl, Nat.le_of_ble_eq_true rfl⟩ (q0 := 0) rfl rfl rfl rfl hl.1 rfl (Nat.le_of_ble_eq_true rfl) dX8_rankedBetween_171 ⟨Nat.le_of_ble_eq_true rfl, Nat.le_of_ble_eq_true rfl⟩ hPc hDc) (fun r171 u171 H locs hw hP hD hS => ?_)
                              obtain ⟨f_terms_171, f_runs_171, f_term_171, f_run_171, f_isRight_171⟩ := u171
                              dsimp only at hw
                              have hP : va_P D vwCl [((rf 1), ai cI 8 f_above), ((rf 2), ai cI 8 f_below), ((rf 16), ai cI 800 (upd f_fractions v6.toNatClampNeg (((1000 : Int32) * v8) + v7))), ((rf 17), al cJ 800 f_keys), ((rf 0), o8 rf f_terms_171 f_runs_171 f_leftAbove f_leftBelow f_rightAbove f_rightBelow f_listed f_fed f_read f_formed f_hasSnapshot), ((rf 3), ai cI 64 f_term_171), ((rf 4), ai cI 64 f_run_171), ((rf 5), ai cI 64 f_isRight_171)] H := hP
                              have hD : va_D A [((rf 1), ai cI 8 f_above), ((rf 2), ai cI 8 f_below), ((rf 16), ai cI 800 (upd f_fractions v6.toNatClampNeg (((1000 : Int32) * v8) + v7))), ((rf 17), al cJ 800 f_keys), ((rf 0), o8 rf f_terms_171 f_runs_171 f_leftAbove f_leftBelow f_rightAbove f_rightBelow f_listed f_fed f_read f_formed f_hasSnapshot), ((rf 3), ai cI 64 f_term_171), ((rf 4), ai cI 64 f_run_171), ((rf 5), ai cI 64 f_isRight_171)] := hD
                              refine lv_sipush (v := (1000 : Int32)) hx hb dX8_rankedBetween_174 (by decide) ?_
                              refine lv_iadd hx hb dX8_rankedBetween_177 ?_
                              refine lv_i2l hx hb dX8_rankedBetween_178 rfl ?_
                              refine lv_lmul hx hb dX8_rankedBetween_179 ?_
                              refine lv_ldc2 (v := (1000 : Int64)) hx hb hown (hts (.constantLong RX8 192 (1000)) (by decide +kernel)) dX8_rankedBetween_180 ?_
                              refine lv_iload hx hb dX8_rankedBetween_183 (lv_at hl 7 rfl) ?_
                              refine lv_i2l hx hb dX8_rankedBetween_185 rfl ?_
                              refine lv_lmul hx hb dX8_rankedBetween_186 ?_
                              refine lv_ladd hx hb dX8_rankedBetween_187 ?_
                              refine lv_iload hx hb dX8_rankedBetween_188 (lv_at hl 8 rfl) ?_
                              refine lv_i2l hx hb dX8_rankedBetween_190 rfl ?_
                              refine lv_ladd hx hb dX8_rankedBetween_191 ?_
                              obtain ⟨hin, hw⟩ := hw
                              refine va_last hx hb hK hP hD hS 3 1 rfl rfl hin dX8_rankedBetween_192 (fun H locs hP hD hS => ?_)
                              have hP : va_P D vwCl [((rf 1), ai cI 8 f_above), ((rf 2), ai cI 8 f_below), ((rf 16), ai cI 800 (upd f_fractions v6.toNatClampNeg (((1000 : Int32) * v8) + v7))), ((rf 17), al cJ 800 (vp_updL f_keys v6.toNatClampNeg ((((1000000 : Int64) * (r171 + (1000 : Int32)).toInt64) + ((1000 : Int64) * v7.toInt64)) + v8.toInt64))), ((rf 0), o8 rf f_terms_171 f_runs_171 f_leftAbove f_leftBelow f_rightAbove f_rightBelow f_listed f_fed f_read f_formed f_hasSnapshot), ((rf 3), ai cI 64 f_term_171), ((rf 4), ai cI 64 f_run_171), ((rf 5), ai cI 64 f_isRight_171)] H := hP
                              have hD : va_D A [((rf 1), ai cI 8 f_above), ((rf 2), ai cI 8 f_below), ((rf 16), ai cI 800 (upd f_fractions v6.toNatClampNeg (((1000 : Int32) * v8) + v7))), ((rf 17), al cJ 800 (vp_updL f_keys v6.toNatClampNeg ((((1000000 : Int64) * (r171 + (1000 : Int32)).toInt64) + ((1000 : Int64) * v7.toInt64)) + v8.toInt64))), ((rf 0), o8 rf f_terms_171 f_runs_171 f_leftAbove f_leftBelow f_rightAbove f_rightBelow f_listed f_fed f_read f_formed f_hasSnapshot), ((rf 3), ai cI 64 f_term_171), ((rf 4), ai cI 64 f_run_171), ((rf 5), ai cI 64 f_isRight_171)] := hD
                              obtain ⟨x193, ex193⟩ : ∃ y : Int32, y = (v6 + (1 : Int32)) := ⟨_, rfl⟩
                              have hw := hw x193 ex193
                              refine lv_iinc (v := x193) (lv' := [(6, .int x193), (0, .ref (rf 0)), (1, .int v1), (2, .int v2), (3, .int v3), (4, .int v4), (5, .int v5), (7, .int v7), (8, .int v8)]) hx hb dX8_rankedBetween_193 hl (k := 6) rfl (by rw [ex193]; rfl) (by decide) rfl (fun ls hl => ?_)
                              obtain ⟨x196, ex196⟩ : ∃ y : Int32, y = (v8 + (1 : Int32)) := ⟨_, rfl⟩
                              have hw := hw x196 ex196
                              refine lv_iinc (v := x196) (lv' := [(8, .int x196), (6, .int x193), (0, .ref (rf 0)), (1, .int v1), (2, .int v2), (3, .int v3), (4, .int v4), (5, .int v5), (7, .int v7)]) hx hb dX8_rankedBetween_196 hl (k := 8) rfl (by rw [ex196]; rfl) (by decide) rfl (fun ls hl => ?_)
                              refine lv_goto (tgt := 60) hx hb dX8_rankedBetween_199 (by decide) ?_
                              obtain ⟨hP, hD⟩ := k_sub (ws' := [((rf 0), o8 rf f_terms_171 f_runs_171 f_leftAbove f_leftBelow f_rightAbove f_rightBelow f_listed f_fed f_read f_formed f_hasSnapshot), ((rf 1), ai cI 8 f_above), ((rf 2), ai cI 8 f_below), ((rf 3), ai cI 64 f_term_171), ((rf 4), ai cI 64 f_run_171), ((rf 5), ai cI 64 f_isRight_171), ((rf 16), ai cI 800 (upd f_fractions v6.toNatClampNeg (((1000 : Int32) * v8) + v7))), ((rf 17), al cJ 800 (vp_updL f_keys v6.toNatClampNeg ((((1000000 : Int64) * (r171 + (1000 : Int32)).toInt64) + ((1000 : Int64) * v7.toInt64)) + v8.toInt64)))]) hP hD [4, 0, 1, 5, 6, 7, 2, 3] rfl rfl
                              exact ih60 x193 x196 f_terms_171 f_runs_171 f_term_171 f_run_171 f_isRight_171 (upd f_fractions v6.toNatClampNeg (((1000 : Int32) * v8) + v7)) (vp_updL f_keys v6.toNatClampNeg ((((1000000 : Int64) * (r171 + (1000 : Int32)).toInt64) + ((1000 : Int64) * v7.toInt64)) + v8.toInt64)) _ _ ls hw hP hD hS (lv_sub hl [2, 3, 4, 5, 6, 7, 1, 8, 0] rfl)
                            · have hw := hw.2 (fun h => k ((lg_cmp_lt _ _).mpr h))
                              refine lv_goto (tgt := 196) hx hb dX8_rankedBetween_136 (by decide) ?_
                              obtain ⟨x196, ex196⟩ : ∃ y : Int32, y = (v8 + (1 : Int32)) := ⟨_, rfl⟩
                              have hw := hw x196 ex196
                              refine lv_iinc (v := x196) (lv' := [(8, .int x196), (0, .ref (rf 0)), (1, .int v1), (2, .int v2), (3, .int v3), (4, .int v4), (5, .int v5), (6, .int v6), (7, .int v7)]) hx hb dX8_rankedBetween_196 hl (k := 8) rfl (by rw [ex196]; rfl) (by decide) rfl (fun ls hl => ?_)
                              refine lv_goto (tgt := 60) hx hb dX8_rankedBetween_199 (by decide) ?_
                              exact ih60 v6 x196 f_terms f_runs f_term f_run f_isRight f_fractions f_keys _ _ ls hw hP hD hS (lv_sub hl [1, 2, 3, 4, 5, 6, 7, 8, 0] rfl)
                  exact LOOP_60 n60 v6 (1 : Int32) f_terms f_runs f_term f_run f_isRight f_fractions f_keys _ _ ls hw hP hD hS (lv_sub hl [1, 2, 3, 4, 5, 6, 7, 8, 0] rfl)
            exact LOOP_50 n50 (0 : Int32) (1 : Int32) f_terms f_runs f_term f_run f_isRight f_fractions f_keys _ _ ls hw hP hD hS (lv_sub hl [2, 3, 4, 5, 6, 7, 1, 0] rfl)
          · have hw := hw.2 k
            refine lv_iconst (v := (-1 : Int32)) hx hb dX8_rankedBetween_42 (by decide) ?_
            exact RET _ _ _ (f_terms, f_runs, f_above, f_below, f_term, f_run, f_isRight, f_fractions, f_keys) _ _ hw hP hD hS dX8_rankedBetween_43
