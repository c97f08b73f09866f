abbrev rm7_convergent : Room := { frames := 3, cells := 0, slots := 0, locals := 84 }
theorem nm7_convergent : kNm yX7_convergent 3 := by decide +kernel
set_option maxHeartbeats 4000000 in
set_option maxRecDepth 100000 in
theorem c7_convergent (l : Launch) (D : va_G) (cI cJ cN cR : ClassId) (rf : Nat → Nat) (sz : Nat) (f_hasSnapshot : Int32) (f_termListSize : Int32) (f_textSize : Int32) (f_tops : (Nat → Int32)) (f_bottoms : (Nat → Int32)) (f_E_size : Int32) (f_E_leftTop : Int64) (f_E_leftBottom : Int64) (f_E_rightTop : Int64) (f_E_rightBottom : Int64) (f_E_terms : (Nat → Int32)) (v1 : Int32) (v2 : Int32) (v3 : Int32) (post : Int32 → (Nat → Int32) → (Nat → Int32) → Int32 → (Nat → Int32) → Prop) (hw : w7_convergent f_tops f_bottoms f_E_size f_E_terms v1 v2 v3 post) : Met l yX7_convergent wsX7_convergent rm7_convergent (kP D (kT cI cJ cN cR) sz [.ref (rf 0), .int v1, .int v2, .int v3] [((rf 0), o7 rf f_hasSnapshot f_termListSize f_textSize), ((rf 1), ai cI 8 f_tops), ((rf 2), ai cI 8 f_bottoms), ((rf 14), o1 (rf 17) f_E_size f_E_leftTop f_E_leftBottom f_E_rightTop f_E_rightBottom), ((rf 17), ai cI 64 f_E_terms)]) (kQi D [((rf 0), o7 rf f_hasSnapshot f_termListSize f_textSize), ((rf 1), ai cI 8 f_tops), ((rf 2), ai cI 8 f_bottoms), ((rf 14), o1 (rf 17) f_E_size f_E_leftTop f_E_leftBottom f_E_rightTop f_E_rightBottom), ((rf 17), ai cI 64 f_E_terms)] sz (fun (r : Int32) (u : (Nat → Int32) × (Nat → Int32) × Int32 × (Nat → Int32)) => post r u.1 u.2.1 u.2.2.1 u.2.2.2) (fun (u : (Nat → Int32) × (Nat → Int32) × Int32 × (Nat → Int32)) => [((rf 0), o7 rf f_hasSnapshot f_termListSize f_textSize), ((rf 1), ai cI 8 u.1), ((rf 2), ai cI 8 u.2.1), ((rf 14), o1 (rf 17) u.2.2.1 f_E_leftTop f_E_leftBottom f_E_rightTop f_E_rightBottom), ((rf 17), ai cI 64 u.2.2.2)])) 0 0 (va_A [((rf 0), o7 rf f_hasSnapshot f_termListSize f_textSize), ((rf 1), ai cI 8 f_tops), ((rf 2), ai cI 8 f_bottoms), ((rf 14), o1 (rf 17) f_E_size f_E_leftTop f_E_leftBottom f_E_rightTop f_E_rightBottom), ((rf 17), ai cI 64 f_E_terms)] sz) := by
  refine kMetI (cc := cX7_convergent) (maxL := 5) (by decide +kernel) rfl (Nat.le_of_ble_eq_true rfl) ?_
  intro p e s m args below meth c H0 ls A Q C0 hK hN hP hD hS hA hl RET
  obtain ⟨hx, hb, hml, hown, hts⟩ := id C0
  have hl : lv_has ls 5 [(0, .ref (rf 0)), (1, .int v1), (2, .int v2), (3, .int v3)] := hl
  unfold w7_convergent at hw
  have hP : va_P D vwCl [((rf 0), o7 rf f_hasSnapshot f_termListSize f_textSize), ((rf 1), ai cI 8 f_tops), ((rf 2), ai cI 8 f_bottoms), ((rf 14), o1 (rf 17) f_E_size f_E_leftTop f_E_leftBottom f_E_rightTop f_E_rightBottom), ((rf 17), ai cI 64 f_E_terms)] H0 := hP
  refine lv_iload_n hx hb dX7_convergent_0 rfl (lv_at hl 1 rfl) ?_
  refine kcRI (wc := []) hP [] rfl (fun hPc => oS (As := [.int v1]) (rest := []) C0 hK hN (c7_isRegister l D cI cJ cN cR   v1 _ hw) 1 gX7_convergent_X7_isRegister rfl ⟨rfl, rfl⟩ nm7_isRegister ⟨Nat.le_of_ble_eq_true rfl, Nat.le_of_ble_eq_true rfl⟩ rfl hl.1 rfl (Nat.le_of_ble_eq_true rfl) dX7_convergent_1 ⟨Nat.le_of_ble_eq_true rfl, Nat.le_of_ble_eq_true rfl⟩ hPc) (fun r1 hw => ?_)
  obtain ⟨nb1, hw⟩ := hw
  refine lv_if_eq (tgt := 18) hx hb dX7_convergent_4 (by decide) (fun k => ?_) (fun k => ?_)
  · have hw := hw.1 k
    refine lv_iconst (v := (-1 : Int32)) hx hb dX7_convergent_18 (by decide) ?_
    exact RET _ _ _ (f_tops, f_bottoms, f_E_size, f_E_terms) _ _ hw hP hD hS dX7_convergent_19
  · have hw := hw.2 k
    refine lv_iload_n hx hb dX7_convergent_7 rfl (lv_at hl 2 rfl) ?_
    refine kcRI (wc := []) hP [] rfl (fun hPc => oS (As := [.int v2]) (rest := []) C0 hK hN (c7_isRegister l D cI cJ cN cR   v2 _ hw) 1 gX7_convergent_X7_isRegister rfl ⟨rfl, rfl⟩ nm7_isRegister ⟨Nat.le_of_ble_eq_true rfl, Nat.le_of_ble_eq_true rfl⟩ rfl hl.1 rfl (Nat.le_of_ble_eq_true rfl) dX7_convergent_8 ⟨Nat.le_of_ble_eq_true rfl, Nat.le_of_ble_eq_true rfl⟩ hPc) (fun r8 hw => ?_)
    obtain ⟨nb8, hw⟩ := hw
    refine lv_if_eq (tgt := 18) hx hb dX7_convergent_11 (by decide) (fun k => ?_) (fun k => ?_)
    · have hw := hw.1 k
      refine lv_iconst (v := (-1 : Int32)) hx hb dX7_convergent_18 (by decide) ?_
      exact RET _ _ _ (f_tops, f_bottoms, f_E_size, f_E_terms) _ _ hw hP hD hS dX7_convergent_19
    · have hw := hw.2 k
      refine lv_iload_n hx hb dX7_convergent_14 rfl (lv_at hl 3 rfl) ?_
      refine lv_if_ge (tgt := 20) hx hb dX7_convergent_15 (by decide) (fun k => ?_) (fun k => ?_)
      · have hw := hw.1 k
        refine lv_aload_n hx hb dX7_convergent_20 rfl (lv_at hl 0 rfl) ?_
        refine lv_iload_n hx hb dX7_convergent_21 rfl (lv_at hl 2 rfl) ?_
        refine kcR (wc := [((rf 0), o7 rf f_hasSnapshot f_termListSize f_textSize), ((rf 1), ai cI 8 f_tops), ((rf 2), ai cI 8 f_bottoms), ((rf 14), o1 (rf 17) f_E_size f_E_leftTop f_E_leftBottom f_E_rightTop f_E_rightBottom), ((rf 17), ai cI 64 f_E_terms)]) (wr := []) hP hD hS hA [0, 1, 2, 3, 4] [] rfl rfl ⟨rfl, rfl, by decide⟩ (fun hPc hDc => rV (As := [.int v2]) (rest := []) C0 hK hN (c7_expand l D cI cJ cN cR rf H0.size f_hasSnapshot f_termListSize f_textSize f_tops f_bottoms f_E_size f_E_leftTop f_E_leftBottom f_E_rightTop f_E_rightBottom f_E_terms v2 _ hw) 1 gX7_convergent_X7_expand rfl ⟨rfl, rfl⟩ nm7_expand ⟨Nat.le_of_ble_eq_true rfl, Nat.le_of_ble_eq_true rfl⟩ (q0 := 0) rfl rfl rfl rfl hl.1 rfl (Nat.le_of_ble_eq_true rfl) dX7_convergent_22 ⟨Nat.le_of_ble_eq_true rfl, Nat.le_of_ble_eq_true rfl⟩ hPc hDc) (fun u22 H locs hw hP hD hS => ?_)
        obtain ⟨f_E_size_22, f_E_terms_22⟩ := u22
        dsimp only at hw
        have hP : va_P D vwCl [((rf 0), o7 rf f_hasSnapshot f_termListSize f_textSize), ((rf 1), ai cI 8 f_tops), ((rf 2), ai cI 8 f_bottoms), ((rf 14), o1 (rf 17) f_E_size_22 f_E_leftTop f_E_leftBottom f_E_rightTop f_E_rightBottom), ((rf 17), ai cI 64 f_E_terms_22)] H := hP
        have hD : va_D A [((rf 0), o7 rf f_hasSnapshot f_termListSize f_textSize), ((rf 1), ai cI 8 f_tops), ((rf 2), ai cI 8 f_bottoms), ((rf 14), o1 (rf 17) f_E_size_22 f_E_leftTop f_E_leftBottom f_E_rightTop f_E_rightBottom), ((rf 17), ai cI 64 f_E_terms_22)] := hD
        refine lv_astore (lv' := [(4, .ref (rf 14)), (0, .ref (rf 0)), (1, .int v1), (2, .int v2), (3, .int v3)]) hx hb dX7_convergent_25 hl (by decide) rfl (fun ls hl => ?_)
        refine lv_iload_n hx hb dX7_convergent_27 rfl (lv_at hl 4 rfl) ?_
        refine lv_aload hx hb dX7_convergent_28 (lv_at hl 0 rfl) ?_
        refine kcRI (wc := [((rf 14), o1 (rf 17) f_E_size_22 f_E_leftTop f_E_leftBottom f_E_rightTop f_E_rightBottom)]) hP [3] rfl (fun hPc => oV (As := []) (rest := [.int v3]) C0 hK hN (c1_size l D cI cJ cN cR (rf 14) (rf 17) f_E_size_22 f_E_leftTop f_E_leftBottom f_E_rightTop f_E_rightBottom  _ hw) 0 gX7_convergent_X1_size rfl ⟨rfl, rfl⟩ nm1_size ⟨Nat.le_of_ble_eq_true rfl, Nat.le_of_ble_eq_true rfl⟩ (q0 := 0) rfl rfl rfl rfl hl.1 rfl (Nat.le_of_ble_eq_true rfl) dX7_convergent_30 ⟨Nat.le_of_ble_eq_true rfl, Nat.le_of_ble_eq_true rfl⟩ hPc) (fun r30 hw => ?_)
        refine lv_icmp_ge (tgt := 47) hx hb dX7_convergent_33 (by decide) (fun k => ?_) (fun k => ?_)
        · have hw := hw.1 k
          refine lv_bipush (v := (-2 : Int32)) hx hb dX7_convergent_47 (by decide) ?_
          exact RET _ _ _ (f_tops, f_bottoms, f_E_size_22, f_E_terms_22) _ _ hw hP hD hS dX7_convergent_49
        · have hw := hw.2 k
          refine lv_aload hx hb dX7_convergent_36 (lv_at hl 0 rfl) ?_
          refine lv_iload_n hx hb dX7_convergent_38 rfl (lv_at hl 4 rfl) ?_
          refine kcRL (wc := [((rf 14), o1 (rf 17) f_E_size_22 f_E_leftTop f_E_leftBottom f_E_rightTop f_E_rightBottom), ((rf 17), ai cI 64 f_E_terms_22)]) hP [3, 4] rfl (fun hPc => oV (As := [.int v3]) (rest := []) C0 hK hN (c1_convergentTop l D cI cJ cN cR (rf 14) (rf 17) f_E_size_22 f_E_leftTop f_E_leftBottom f_E_rightTop f_E_rightBottom f_E_terms_22 v3 _ hw) 1 gX7_convergent_X1_convergentTop rfl ⟨rfl, rfl⟩ nm1_convergentTop ⟨Nat.le_of_ble_eq_true rfl, Nat.le_of_ble_eq_true rfl⟩ (q0 := 0) rfl rfl rfl rfl hl.1 rfl (Nat.le_of_ble_eq_true rfl) dX7_convergent_39 ⟨Nat.le_of_ble_eq_true rfl, Nat.le_of_ble_eq_true rfl⟩ hPc) (fun r39 hw => ?_)
          refine lv_lconst (v := (0 : Int64)) hx hb dX7_convergent_42 (by decide) ?_
          refine W.lcmp hx hb dX7_convergent_43 ?_
          refine lv_if_ne (tgt := 50) hx hb dX7_convergent_44 (by decide) (fun k => ?_) (fun k => ?_)
          · have hw := hw.1 (fun h => k ((lg_cmp_eq _ _).mpr h))
            refine lv_aload_n hx hb dX7_convergent_50 rfl (lv_at hl 1 rfl) ?_
            refine lv_iload_n hx hb dX7_convergent_51 rfl (lv_at hl 2 rfl) ?_
            refine lv_aload hx hb dX7_convergent_52 (lv_at hl 0 rfl) ?_
            refine lv_iload_n hx hb dX7_convergent_54 rfl (lv_at hl 4 rfl) ?_
            refine kcI (wc := [((rf 0), o7 rf f_hasSnapshot f_termListSize f_textSize), ((rf 1), ai cI 8 f_tops), ((rf 2), ai cI 8 f_bottoms), ((rf 14), o1 (rf 17) f_E_size_22 f_E_leftTop f_E_leftBottom f_E_rightTop f_E_rightBottom), ((rf 17), ai cI 64 f_E_terms_22)]) (wr := []) hP hD hS hA [0, 1, 2, 3, 4] [] rfl rfl ⟨rfl, rfl, by decide⟩ (fun hPc hDc => rV (As := [.int v1, .ref (rf 14), .int v3]) (rest := []) C0 hK hN (c7_storeConvergent l D cI cJ cN cR rf (rf 14) (rf 17) H.size f_hasSnapshot f_termListSize f_textSize f_tops f_bottoms f_E_size_22 f_E_leftTop f_E_leftBottom f_E_rightTop f_E_rightBottom f_E_terms_22 v1 v3 _ hw) 3 gX7_convergent_X7_storeConvergent rfl ⟨rfl, rfl⟩ nm7_storeConvergent ⟨Nat.le_of_ble_eq_true rfl, Nat.le_of_ble_eq_true rfl⟩ (q0 := 0) rfl rfl rfl rfl hl.1 rfl (Nat.le_of_ble_eq_true rfl) dX7_convergent_55 ⟨Nat.le_of_ble_eq_true rfl, Nat.le_of_ble_eq_true rfl⟩ hPc hDc) (fun r55 u55 H locs hw hP hD hS => ?_)
            obtain ⟨f_tops_55, f_bottoms_55⟩ := u55
            dsimp only at hw
            have hP : va_P D vwCl [((rf 0), o7 rf f_hasSnapshot f_termListSize f_textSize), ((rf 1), ai cI 8 f_tops_55), ((rf 2), ai cI 8 f_bottoms_55), ((rf 14), o1 (rf 17) f_E_size_22 f_E_leftTop f_E_leftBottom f_E_rightTop f_E_rightBottom), ((rf 17), ai cI 64 f_E_terms_22)] H := hP
            have hD : va_D A [((rf 0), o7 rf f_hasSnapshot f_termListSize f_textSize), ((rf 1), ai cI 8 f_tops_55), ((rf 2), ai cI 8 f_bottoms_55), ((rf 14), o1 (rf 17) f_E_size_22 f_E_leftTop f_E_leftBottom f_E_rightTop f_E_rightBottom), ((rf 17), ai cI 64 f_E_terms_22)] := hD
            exact RET _ _ _ (f_tops_55, f_bottoms_55, f_E_size_22, f_E_terms_22) _ _ hw hP hD hS dX7_convergent_58
          · have hw := hw.2 ((lg_cmp_eq _ _).mp k)
            refine lv_bipush (v := (-2 : Int32)) hx hb dX7_convergent_47 (by decide) ?_
            exact RET _ _ _ (f_tops, f_bottoms, f_E_size_22, f_E_terms_22) _ _ hw hP hD hS dX7_convergent_49
      · have hw := hw.2 k
        refine lv_iconst (v := (-1 : Int32)) hx hb dX7_convergent_18 (by decide) ?_
        exact RET _ _ _ (f_tops, f_bottoms, f_E_size, f_E_terms) _ _ hw hP hD hS dX7_convergent_19
abbrev rm7_pushTerm : Room := { frames := 1, cells := 0, slots := 0, locals := 22 }
theorem nm7_pushTerm : kNm yX7_pushTerm 1 := by decide +kernel
set_option maxHeartbeats 4000000 in
set_option maxRecDepth 100000 in
theorem c7_pushTerm (l : Launch) (D : va_G) (cI cJ cN cR : ClassId) (rf : Nat → Nat) (sz : Nat) (f_hasSnapshot : Int32) (f_termListSize : Int32) (f_textSize : Int32) (f_termList : (Nat → Int32)) (v1 : Int32) (post : Int32 → Int32 → (Nat → Int32) → Prop) (hw : w7_pushTerm f_termListSize f_termList v1 post) : Met l yX7_pushTerm wsX7_pushTerm rm7_pushTerm (kP D (kT cI cJ cN cR) sz [.ref (rf 0), .int v1] [((rf 0), o7 rf f_hasSnapshot f_termListSize f_textSize), ((rf 8), ai cI 20 f_termList)]) (kQi D [((rf 0), o7 rf f_hasSnapshot f_termListSize f_textSize), ((rf 8), ai cI 20 f_termList)] sz (fun (r : Int32) (u : Int32 × (Nat → Int32)) => post r u.1 u.2) (fun (u : Int32 × (Nat → Int32)) => [((rf 0), o7 rf f_hasSnapshot u.1 f_textSize), ((rf 8), ai cI 20 u.2)])) 0 0 (va_A [((rf 0), o7 rf f_hasSnapshot f_termListSize f_textSize), ((rf 8), ai cI 20 f_termList)] sz) := by
  refine kMetI (cc := cX7_pushTerm) (maxL := 2) (by decide +kernel) rfl (Nat.le_of_ble_eq_true rfl) ?_
  intro p e s m args below meth c H0 ls A Q C0 hK hN hP hD hS hA hl RET
  obtain ⟨hx, hb, hml, hown, hts⟩ := id C0
  have hl : lv_has ls 2 [(0, .ref (rf 0)), (1, .int v1)] := hl
  have g130 := hts (.fieldLink RX7 130 "SternBrocotExplorer" "termListSize" "I") (by decide +kernel)
  have g31 := hts (.fieldLink RX7 31 "SternBrocotExplorer" "termList" "[I") (by decide +kernel)
  have hi9 : ∀ w ∈ wsX70, w ∈ wsX7_pushTerm := fun w h => List.mem_cons_of_mem _ (List.mem_append_right _ h)
  unfold w7_pushTerm at hw
  have hP : va_P D vwCl [((rf 0), o7 rf f_hasSnapshot f_termListSize f_textSize), ((rf 8), ai cI 20 f_termList)] H0 := hP
  refine lv_iload_n hx hb dX7_pushTerm_0 rfl (lv_at hl 1 rfl) ?_
  refine lv_iconst (v := (0 : Int32)) hx hb dX7_pushTerm_1 (by decide) ?_
  refine lv_ldc (v := (1000000 : Int32)) hx hb hown (hts (.constant RX7 66 (1000000)) (by decide +kernel)) dX7_pushTerm_2 ?_
  refine kcRI (wc := []) hP [] rfl (fun hPc => oS (As := [.int v1, .int (0 : Int32), .int (1000000 : Int32)]) (rest := []) C0 hK hN (c7_isIn l D cI cJ cN cR   v1 (0 : Int32) (1000000 : Int32) _ hw) 3 gX7_pushTerm_X7_isIn rfl ⟨rfl, rfl⟩ nm7_isIn ⟨Nat.le_of_ble_eq_true rfl, Nat.le_of_ble_eq_true rfl⟩ rfl hl.1 rfl (Nat.le_of_ble_eq_true rfl) dX7_pushTerm_4 ⟨Nat.le_of_ble_eq_true rfl, Nat.le_of_ble_eq_true rfl⟩ hPc) (fun r4 hw => ?_)
  obtain ⟨nb4, hw⟩ := hw
  refine lv_if_ne (tgt := 12) hx hb dX7_pushTerm_7 (by decide) (fun k => ?_) (fun k => ?_)
  · have hw := hw.1 k
    refine lv_aload_n hx hb dX7_pushTerm_12 rfl (lv_at hl 0 rfl) ?_
    refine va_get (D := D) (ci := 7) (v := .int f_termListSize) (C := RX7) (T := TX7) (N := 16) hx hb hts hi9 hown hK hP 0 rfl rfl 8 (by decide) g130 (fun _ h9 => h9) rfl dX7_pushTerm_13 ?_
    refine lv_bipush (v := (20 : Int32)) hx hb dX7_pushTerm_16 (by decide) ?_
    refine lv_icmp_lt (tgt := 24) hx hb dX7_pushTerm_18 (by decide) (fun k => ?_) (fun k => ?_)
    · have hw := hw.1 k
      refine lv_aload_n hx hb dX7_pushTerm_24 rfl (lv_at hl 0 rfl) ?_
      refine va_get (D := D) (ci := 7) (v := .ref (rf 8)) (C := RX7) (T := TX7) (N := 16) hx hb hts hi9 hown hK hP 0 rfl rfl 7 (by decide) g31 (fun _ h9 => h9) rfl dX7_pushTerm_25 ?_
      refine lv_aload_n hx hb dX7_pushTerm_28 rfl (lv_at hl 0 rfl) ?_
      refine va_get (D := D) (ci := 7) (v := .int f_termListSize) (C := RX7) (T := TX7) (N := 16) hx hb hts hi9 hown hK hP 0 rfl rfl 8 (by decide) g130 (fun _ h9 => h9) rfl dX7_pushTerm_29 ?_
      refine lv_iload_n hx hb dX7_pushTerm_32 rfl (lv_at hl 1 rfl) ?_
      obtain ⟨hin, hw⟩ := hw
      refine va_iast hx hb hK hP hD hS 1 0 rfl rfl hin dX7_pushTerm_33 (fun H locs hP hD hS => ?_)
      have hP : va_P D vwCl [((rf 0), o7 rf f_hasSnapshot f_termListSize f_textSize), ((rf 8), ai cI 20 (upd f_termList f_termListSize.toNatClampNeg v1))] H := hP
      have hD : va_D A [((rf 0), o7 rf f_hasSnapshot f_termListSize f_textSize), ((rf 8), ai cI 20 (upd f_termList f_termListSize.toNatClampNeg v1))] := hD
      refine lv_aload_n hx hb dX7_pushTerm_34 rfl (lv_at hl 0 rfl) ?_
      refine lv_dup hx hb dX7_pushTerm_35 rfl ?_
      refine va_get (D := D) (ci := 7) (v := .int f_termListSize) (C := RX7) (T := TX7) (N := 16) hx hb hts hi9 hown hK hP 0 rfl rfl 8 (by decide) g130 (fun _ h9 => h9) rfl dX7_pushTerm_36 ?_
      refine lv_iconst (v := (1 : Int32)) hx hb dX7_pushTerm_39 (by decide) ?_
      refine lv_iadd hx hb dX7_pushTerm_40 ?_
      refine lv_topi (fun x41 ex41 => ?_)
      have hw := hw x41 ex41
      refine va_put (D := D) (ci := 7) (v := .int x41) (ty := .int) (C := RX7) (T := TX7) (N := 16) hx hb hts hi9 tyX7 tyX7_ok nmX7 hown hK hP hD hS 0 rfl rfl 8 (by decide) g130 (fun _ h9 => h9) rfl (by decide +kernel) rfl rfl (Nat.le_of_ble_eq_true rfl) dX7_pushTerm_41 (fun H locs hP hD hS => ?_)
      have hP : va_P D vwCl [((rf 0), o7 rf f_hasSnapshot x41 f_textSize), ((rf 8), ai cI 20 (upd f_termList f_termListSize.toNatClampNeg v1))] H := hP
      have hD : va_D A [((rf 0), o7 rf f_hasSnapshot x41 f_textSize), ((rf 8), ai cI 20 (upd f_termList f_termListSize.toNatClampNeg v1))] := hD
      refine lv_aload_n hx hb dX7_pushTerm_44 rfl (lv_at hl 0 rfl) ?_
      refine va_get (D := D) (ci := 7) (v := .int x41) (C := RX7) (T := TX7) (N := 16) hx hb hts hi9 hown hK hP 0 rfl rfl 8 (by decide) g130 (fun _ h9 => h9) rfl dX7_pushTerm_45 ?_
      exact RET _ _ _ (x41, (upd f_termList f_termListSize.toNatClampNeg v1)) _ _ hw hP hD hS dX7_pushTerm_48
    · have hw := hw.2 k
      refine lv_bipush (v := (-5 : Int32)) hx hb dX7_pushTerm_21 (by decide) ?_
      exact RET _ _ _ (f_termListSize, f_termList) _ _ hw hP hD hS dX7_pushTerm_23
  · have hw := hw.2 k
    refine lv_iconst (v := (-1 : Int32)) hx hb dX7_pushTerm_10 (by decide) ?_
    exact RET _ _ _ (f_termListSize, f_termList) _ _ hw hP hD hS dX7_pushTerm_11
abbrev rm7_clearTerms : Room := { frames := 0, cells := 0, slots := 0, locals := 0 }
theorem nm7_clearTerms : kNm yX7_clearTerms 0 := by decide +kernel
set_option maxHeartbeats 4000000 in
set_option maxRecDepth 100000 in
theorem c7_clearTerms (l : Launch) (D : va_G) (cI cJ cN cR : ClassId) (rf : Nat → Nat) (sz : Nat) (f_hasSnapshot : Int32) (f_termListSize : Int32) (f_textSize : Int32)  (post : Int32 → Int32 → Prop) (hw : w7_clearTerms f_termListSize post) : Met l yX7_clearTerms wsX7_clearTerms rm7_clearTerms (kP D (kT cI cJ cN cR) sz [.ref (rf 0)] [((rf 0), o7 rf f_hasSnapshot f_termListSize f_textSize)]) (kQi D [((rf 0), o7 rf f_hasSnapshot f_termListSize f_textSize)] sz (fun (r : Int32) (u : Int32) => post r u) (fun (u : Int32) => [((rf 0), o7 rf f_hasSnapshot u f_textSize)])) 0 0 (va_A [((rf 0), o7 rf f_hasSnapshot f_termListSize f_textSize)] sz) := by
  refine kMetI (cc := cX7_clearTerms) (maxL := 2) (by decide +kernel) rfl (Nat.le_of_ble_eq_true rfl) ?_
  intro p e s m args below meth c H0 ls A Q C0 hK hN hP hD hS hA hl RET
  obtain ⟨hx, hb, hml, hown, hts⟩ := id C0
  have hl : lv_has ls 2 [(0, .ref (rf 0))] := hl
  have g130 := hts (.fieldLink RX7 130 "SternBrocotExplorer" "termListSize" "I") (by decide +kernel)
  have hi9 : ∀ w ∈ wsX70, w ∈ wsX7_clearTerms := fun w h => List.mem_cons_of_mem _ (List.mem_append_right _ h)
  unfold w7_clearTerms at hw
  have hP : va_P D vwCl [((rf 0), o7 rf f_hasSnapshot f_termListSize f_textSize)] H0 := hP
  refine lv_aload_n hx hb dX7_clearTerms_0 rfl (lv_at hl 0 rfl) ?_
  refine va_get (D := D) (ci := 7) (v := .int f_termListSize) (C := RX7) (T := TX7) (N := 16) hx hb hts hi9 hown hK hP 0 rfl rfl 8 (by decide) g130 (fun _ h9 => h9) rfl dX7_clearTerms_1 ?_
  refine lv_istore_n (lv' := [(1, .int f_termListSize), (0, .ref (rf 0))]) hx hb dX7_clearTerms_4 rfl hl (by decide) rfl (fun ls hl => ?_)
  refine lv_aload_n hx hb dX7_clearTerms_5 rfl (lv_at hl 1 rfl) ?_
  refine lv_iconst (v := (0 : Int32)) hx hb dX7_clearTerms_6 (by decide) ?_
  refine va_put (D := D) (ci := 7) (v := .int (0 : Int32)) (ty := .int) (C := RX7) (T := TX7) (N := 16) hx hb hts hi9 tyX7 tyX7_ok nmX7 hown hK hP hD hS 0 rfl rfl 8 (by decide) g130 (fun _ h9 => h9) rfl (by decide +kernel) rfl rfl (Nat.le_of_ble_eq_true rfl) dX7_clearTerms_7 (fun H locs hP hD hS => ?_)
  have hP : va_P D vwCl [((rf 0), o7 rf f_hasSnapshot (0 : Int32) f_textSize)] H := hP
  have hD : va_D A [((rf 0), o7 rf f_hasSnapshot (0 : Int32) f_textSize)] := hD
  refine lv_iload_n hx hb dX7_clearTerms_10 rfl (lv_at hl 0 rfl) ?_
  exact RET _ _ _ (0 : Int32) _ _ hw hP hD hS dX7_clearTerms_11
abbrev rm7_hasTermListValue : Room := { frames := 0, cells := 0, slots := 0, locals := 0 }
theorem nm7_hasTermListValue : kNm yX7_hasTermListValue 0 := by decide +kernel
set_option maxHeartbeats 4000000 in
set_option maxRecDepth 100000 in
theorem c7_hasTermListValue (l : Launch) (D : va_G) (cI cJ cN cR : ClassId) (rf : Nat → Nat) (f_hasSnapshot : Int32) (f_termListSize : Int32) (f_textSize : Int32) (f_termList : (Nat → Int32))  (post : Int32 → Prop) (hw : w7_hasTermListValue f_termListSize f_termList post) : Met l yX7_hasTermListValue wsX7_hasTermListValue rm7_hasTermListValue (kR D (kT cI cJ cN cR) [.ref (rf 0)] [((rf 0), o7 rf f_hasSnapshot f_termListSize f_textSize), ((rf 8), ai cI 20 f_termList)]) (vp_Si (fun (r : Int32) => narrow .boolean (.int r) = .int r ∧ post r)) 0 0 (fun _ => False) := by
  refine kMetRZ (cc := cX7_hasTermListValue) (maxL := 2) (by decide +kernel) rfl (Nat.le_of_ble_eq_true rfl) ?_
  intro p e s m args below meth c H ls Q C0 hK hN hP hl RET
  obtain ⟨hx, hb, hml, hown, hts⟩ := id C0
  have hl : lv_has ls 2 [(0, .ref (rf 0))] := hl
  have g130 := hts (.fieldLink RX7 130 "SternBrocotExplorer" "termListSize" "I") (by decide +kernel)
  have g31 := hts (.fieldLink RX7 31 "SternBrocotExplorer" "termList" "[I") (by decide +kernel)
  have hi9 : ∀ w ∈ wsX70, w ∈ wsX7_hasTermListValue := fun w h => List.mem_cons_of_mem _ (List.mem_append_right _ h)
  unfold w7_hasTermListValue at hw
  refine lv_aload_n hx hb dX7_hasTermListValue_0 rfl (lv_at hl 0 rfl) ?_
  refine va_get (D := D) (ci := 7) (v := .int f_termListSize) (C := RX7) (T := TX7) (N := 16) hx hb hts hi9 hown hK hP 0 rfl rfl 8 (by decide) g130 (fun _ h9 => h9) rfl dX7_hasTermListValue_1 ?_
  refine lv_if_ne (tgt := 9) hx hb dX7_hasTermListValue_4 (by decide) (fun k => ?_) (fun k => ?_)
  · have hw := hw.1 k
    refine lv_iconst (v := (1 : Int32)) hx hb dX7_hasTermListValue_9 (by decide) ?_
    refine lv_istore_n (lv' := [(1, .int (1 : Int32)), (0, .ref (rf 0))]) hx hb dX7_hasTermListValue_10 rfl hl (by decide) rfl (fun ls hl => ?_)
    obtain ⟨n11, hw⟩ := hw
    have LOOP_11 : ∀ (n11 : Nat) (v1 : Int32) (ls : Array Slot), w7_hasTermListValue_L11 f_termListSize f_termList post n11 v1 → lv_has ls 2 [(0, .ref (rf 0)), (1, .int v1)] → W p l e rm7_hasTermListValue s m args below meth c H [] 0 0 Q (F0 m 11 ls []) := by
      clear hw hl
      intro n11
      induction n11 with
      | zero =>
        intro v1 ls hw hl
        rw [w7_hasTermListValue_L11] at hw
        exact hw.elim
      | succ n11 ih11 =>
        intro v1 ls hw hl
        rw [w7_hasTermListValue_L11] at hw
        refine lv_iload_n hx hb dX7_hasTermListValue_11 rfl (lv_at hl 1 rfl) ?_
        refine lv_aload_n hx hb dX7_hasTermListValue_12 rfl (lv_at hl 0 rfl) ?_
        refine va_get (D := D) (ci := 7) (v := .int f_termListSize) (C := RX7) (T := TX7) (N := 16) hx hb hts hi9 hown hK hP 0 rfl rfl 8 (by decide) g130 (fun _ h9 => h9) rfl dX7_hasTermListValue_13 ?_
        refine lv_icmp_ge (tgt := 36) hx hb dX7_hasTermListValue_16 (by decide) (fun k => ?_) (fun k => ?_)
        · have hw := hw.1 k
          refine lv_aload_n hx hb dX7_hasTermListValue_36 rfl (lv_at hl 0 rfl) ?_
          refine va_get (D := D) (ci := 7) (v := .int f_termListSize) (C := RX7) (T := TX7) (N := 16) hx hb hts hi9 hown hK hP 0 rfl rfl 8 (by decide) g130 (fun _ h9 => h9) rfl dX7_hasTermListValue_37 ?_
          refine lv_iconst (v := (1 : Int32)) hx hb dX7_hasTermListValue_40 (by decide) ?_
          refine lv_icmp_gt (tgt := 53) hx hb dX7_hasTermListValue_41 (by decide) (fun k => ?_) (fun k => ?_)
          · have hw := hw.1 k
            refine lv_iconst (v := (1 : Int32)) hx hb dX7_hasTermListValue_53 (by decide) ?_
            refine lv_goto (tgt := 58) hx hb dX7_hasTermListValue_54 (by decide) ?_
            exact RET _ _ _ rfl hw dX7_hasTermListValue_58
          · have hw := hw.2 k
            refine lv_aload_n hx hb dX7_hasTermListValue_44 rfl (lv_at hl 0 rfl) ?_
            refine va_get (D := D) (ci := 7) (v := .ref (rf 8)) (C := RX7) (T := TX7) (N := 16) hx hb hts hi9 hown hK hP 0 rfl rfl 7 (by decide) g31 (fun _ h9 => h9) rfl dX7_hasTermListValue_45 ?_
            refine lv_iconst (v := (0 : Int32)) hx hb dX7_hasTermListValue_48 (by decide) ?_
            obtain ⟨hin, hw⟩ := hw
            refine va_iald hx hb hK hP 1 0 rfl rfl hin dX7_hasTermListValue_49 ?_
            refine lv_if_le (tgt := 57) hx hb dX7_hasTermListValue_50 (by decide) (fun k => ?_) (fun k => ?_)
            · have hw := hw.1 k
              refine lv_iconst (v := (0 : Int32)) hx hb dX7_hasTermListValue_57 (by decide) ?_
              exact RET _ _ _ rfl hw dX7_hasTermListValue_58
            · have hw := hw.2 k
              refine lv_iconst (v := (1 : Int32)) hx hb dX7_hasTermListValue_53 (by decide) ?_
              refine lv_goto (tgt := 58) hx hb dX7_hasTermListValue_54 (by decide) ?_
              exact RET _ _ _ rfl hw dX7_hasTermListValue_58
        · have hw := hw.2 k
          refine lv_aload_n hx hb dX7_hasTermListValue_19 rfl (lv_at hl 0 rfl) ?_
          refine va_get (D := D) (ci := 7) (v := .ref (rf 8)) (C := RX7) (T := TX7) (N := 16) hx hb hts hi9 hown hK hP 0 rfl rfl 7 (by decide) g31 (fun _ h9 => h9) rfl dX7_hasTermListValue_20 ?_
          refine lv_iload_n hx hb dX7_hasTermListValue_23 rfl (lv_at hl 1 rfl) ?_
          obtain ⟨hin, hw⟩ := hw
          refine va_iald hx hb hK hP 1 0 rfl rfl hin dX7_hasTermListValue_24 ?_
          refine lv_if_ne (tgt := 30) hx hb dX7_hasTermListValue_25 (by decide) (fun k => ?_) (fun k => ?_)
          · have hw := hw.1 k
            obtain ⟨x30, ex30⟩ : ∃ y : Int32, y = (v1 + (1 : Int32)) := ⟨_, rfl⟩
            have hw := hw x30 ex30
            refine lv_iinc (v := x30) (lv' := [(1, .int x30), (0, .ref (rf 0))]) hx hb dX7_hasTermListValue_30 hl (k := 1) rfl (by rw [ex30]; rfl) (by decide) rfl (fun ls hl => ?_)
            refine lv_goto (tgt := 11) hx hb dX7_hasTermListValue_33 (by decide) ?_
            exact ih11 x30 ls hw (lv_sub hl [1, 0] rfl)
          · have hw := hw.2 k
            refine lv_iconst (v := (0 : Int32)) hx hb dX7_hasTermListValue_28 (by decide) ?_
            exact RET _ _ _ rfl hw dX7_hasTermListValue_29
    exact LOOP_11 n11 (1 : Int32) ls hw (lv_sub hl [1, 0] rfl)
  · have hw := hw.2 k
    refine lv_iconst (v := (0 : Int32)) hx hb dX7_hasTermListValue_7 (by decide) ?_
    exact RET _ _ _ rfl hw dX7_hasTermListValue_8
abbrev rm7_fromTerms : Room := { frames := 2, cells := 0, slots := 0, locals := 61 }
theorem nm7_fromTerms : kNm yX7_fromTerms 1 := by decide +kernel
set_option maxHeartbeats 4000000 in
set_option maxRecDepth 100000 in
theorem c7_fromTerms (l : Launch) (D : va_G) (cI cJ cN cR : ClassId) (rf : Nat → Nat) (sz : Nat) (f_hasSnapshot : Int32) (f_termListSize : Int32) (f_textSize : Int32) (f_tops : (Nat → Int32)) (f_bottoms : (Nat → Int32)) (f_termList : (Nat → Int32)) (v1 : Int32) (post : Int32 → (Nat → Int32) → (Nat → Int32) → Prop) (hw : w7_fromTerms f_termListSize f_tops f_bottoms f_termList v1 post) : Met l yX7_fromTerms wsX7_fromTerms rm7_fromTerms (kP D (kT cI cJ cN cR) sz [.ref (rf 0), .int v1] [((rf 0), o7 rf f_hasSnapshot f_termListSize f_textSize), ((rf 1), ai cI 8 f_tops), ((rf 2), ai cI 8 f_bottoms), ((rf 8), ai cI 20 f_termList)]) (kQi D [((rf 0), o7 rf f_hasSnapshot f_termListSize f_textSize), ((rf 1), ai cI 8 f_tops), ((rf 2), ai cI 8 f_bottoms), ((rf 8), ai cI 20 f_termList)] sz (fun (r : Int32) (u : (Nat → Int32) × (Nat → Int32)) => post r u.1 u.2) (fun (u : (Nat → Int32) × (Nat → Int32)) => [((rf 0), o7 rf f_hasSnapshot f_termListSize f_textSize), ((rf 1), ai cI 8 u.1), ((rf 2), ai cI 8 u.2), ((rf 8), ai cI 20 f_termList)])) 0 0 (va_A [((rf 0), o7 rf f_hasSnapshot f_termListSize f_textSize), ((rf 1), ai cI 8 f_tops), ((rf 2), ai cI 8 f_bottoms), ((rf 8), ai cI 20 f_termList)] sz) := by
  refine kMetI (cc := cX7_fromTerms) (maxL := 9) (by decide +kernel) rfl (Nat.le_of_ble_eq_true rfl) ?_
  intro p e s m args below meth c H0 ls A Q C0 hK hN hP hD hS hA hl RET
  obtain ⟨hx, hb, hml, hown, hts⟩ := id C0
  have hl : lv_has ls 9 [(0, .ref (rf 0)), (1, .int v1)] := hl
  have g31 := hts (.fieldLink RX7 31 "SternBrocotExplorer" "termList" "[I") (by decide +kernel)
  have g130 := hts (.fieldLink RX7 130 "SternBrocotExplorer" "termListSize" "I") (by decide +kernel)
  have hi9 : ∀ w ∈ wsX70, w ∈ wsX7_fromTerms := fun w h => List.mem_cons_of_mem _ (List.mem_append_right _ h)
  unfold w7_fromTerms at hw
  have hP : va_P D vwCl [((rf 0), o7 rf f_hasSnapshot f_termListSize f_textSize), ((rf 1), ai cI 8 f_tops), ((rf 2), ai cI 8 f_bottoms), ((rf 8), ai cI 20 f_termList)] H0 := hP
  refine lv_iload_n hx hb dX7_fromTerms_0 rfl (lv_at hl 1 rfl) ?_
  refine kcRI (wc := []) hP [] rfl (fun hPc => oS (As := [.int v1]) (rest := []) C0 hK hN (c7_isRegister l D cI cJ cN cR   v1 _ hw) 1 gX7_fromTerms_X7_isRegister rfl ⟨rfl, rfl⟩ nm7_isRegister ⟨Nat.le_of_ble_eq_true rfl, Nat.le_of_ble_eq_true rfl⟩ rfl hl.1 rfl (Nat.le_of_ble_eq_true rfl) dX7_fromTerms_1 ⟨Nat.le_of_ble_eq_true rfl, Nat.le_of_ble_eq_true rfl⟩ hPc) (fun r1 hw => ?_)
  obtain ⟨nb1, hw⟩ := hw
  refine lv_if_ne (tgt := 9) hx hb dX7_fromTerms_4 (by decide) (fun k => ?_) (fun k => ?_)
  · have hw := hw.1 k
    refine lv_aload_n hx hb dX7_fromTerms_9 rfl (lv_at hl 0 rfl) ?_
    refine kcRI (wc := [((rf 0), o7 rf f_hasSnapshot f_termListSize f_textSize), ((rf 8), ai cI 20 f_termList)]) hP [0, 3] rfl (fun hPc => oV (As := []) (rest := []) C0 hK hN (c7_hasTermListValue l D cI cJ cN cR rf f_hasSnapshot f_termListSize f_textSize f_termList  _ hw) 0 gX7_fromTerms_X7_hasTermListValue rfl ⟨rfl, rfl⟩ nm7_hasTermListValue ⟨Nat.le_of_ble_eq_true rfl, Nat.le_of_ble_eq_true rfl⟩ (q0 := 0) rfl rfl rfl rfl hl.1 rfl (Nat.le_of_ble_eq_true rfl) dX7_fromTerms_10 ⟨Nat.le_of_ble_eq_true rfl, Nat.le_of_ble_eq_true rfl⟩ hPc) (fun r10 hw => ?_)
    obtain ⟨nb10, hw⟩ := hw
    refine lv_if_ne (tgt := 19) hx hb dX7_fromTerms_13 (by decide) (fun k => ?_) (fun k => ?_)
    · have hw := hw.1 k
      refine lv_aload_n hx hb dX7_fromTerms_19 rfl (lv_at hl 0 rfl) ?_
      refine va_get (D := D) (ci := 7) (v := .ref (rf 8)) (C := RX7) (T := TX7) (N := 16) hx hb hts hi9 hown hK hP 0 rfl rfl 7 (by decide) g31 (fun _ h9 => h9) rfl dX7_fromTerms_20 ?_
      refine lv_aload_n hx hb dX7_fromTerms_23 rfl (lv_at hl 0 rfl) ?_
      refine va_get (D := D) (ci := 7) (v := .int f_termListSize) (C := RX7) (T := TX7) (N := 16) hx hb hts hi9 hown hK hP 0 rfl rfl 8 (by decide) g130 (fun _ h9 => h9) rfl dX7_fromTerms_24 ?_
      refine lv_iconst (v := (1 : Int32)) hx hb dX7_fromTerms_27 (by decide) ?_
      refine lv_isub hx hb dX7_fromTerms_28 ?_
      obtain ⟨hin, hw⟩ := hw
      refine va_iald hx hb hK hP 3 0 rfl rfl hin dX7_fromTerms_29 ?_
      refine lv_i2l hx hb dX7_fromTerms_30 rfl ?_
      refine lv_topl (fun x31 ex31 => ?_)
      have hw := hw x31 ex31
      refine lv_lstore_n (lv' := [(2, .long x31), (0, .ref (rf 0)), (1, .int v1)]) hx hb dX7_fromTerms_31 rfl hl (by decide) rfl (fun ls hl => ?_)
      refine lv_lconst (v := (1 : Int64)) hx hb dX7_fromTerms_32 (by decide) ?_
      refine lv_lstore (lv' := [(4, .long (1 : Int64)), (2, .long x31), (0, .ref (rf 0)), (1, .int v1)]) hx hb dX7_fromTerms_33 hl (by decide) rfl (fun ls hl => ?_)
      refine lv_aload_n hx hb dX7_fromTerms_35 rfl (lv_at hl 2 rfl) ?_
      refine va_get (D := D) (ci := 7) (v := .int f_termListSize) (C := RX7) (T := TX7) (N := 16) hx hb hts hi9 hown hK hP 0 rfl rfl 8 (by decide) g130 (fun _ h9 => h9) rfl dX7_fromTerms_36 ?_
      refine lv_iconst (v := (2 : Int32)) hx hb dX7_fromTerms_39 (by decide) ?_
      refine lv_isub hx hb dX7_fromTerms_40 ?_
      refine lv_topi (fun x41 ex41 => ?_)
      have hw := hw x41 ex41
      refine lv_istore (lv' := [(6, .int x41), (4, .long (1 : Int64)), (2, .long x31), (0, .ref (rf 0)), (1, .int v1)]) hx hb dX7_fromTerms_41 hl (by decide) rfl (fun ls hl => ?_)
      obtain ⟨n43, hw⟩ := hw
      have LOOP_43 : ∀ (n43 : Nat) (v2 : Int64) (v4 : Int64) (v6 : Int32) (H : Heap) (locs : List Loc) (ls : Array Slot), w7_fromTerms_L43 f_tops f_bottoms f_termList v1 post n43 v2 v4 v6 → va_P D vwCl [((rf 0), o7 rf f_hasSnapshot f_termListSize f_textSize), ((rf 1), ai cI 8 f_tops), ((rf 2), ai cI 8 f_bottoms), ((rf 8), ai cI 20 f_termList)] H → va_D A [((rf 0), o7 rf f_hasSnapshot f_termListSize f_textSize), ((rf 1), ai cI 8 f_tops), ((rf 2), ai cI 8 f_bottoms), ((rf 8), ai cI 20 f_termList)] → va_S A H0 H locs → lv_has ls 9 [(0, .ref (rf 0)), (1, .int v1), (2, .long v2), (4, .long v4), (6, .int v6)] → W p l e rm7_fromTerms s m args below meth c H locs 0 0 Q (F0 m 43 ls []) := by
        clear hw hl hP hD hS
        intro n43
        induction n43 with
        | zero =>
          intro v2 v4 v6 H locs ls hw hP hD hS hl
          rw [w7_fromTerms_L43] at hw
          exact hw.elim
        | succ n43 ih43 =>
          intro v2 v4 v6 H locs ls hw hP hD hS hl
          rw [w7_fromTerms_L43] at hw
          refine lv_iload hx hb dX7_fromTerms_43 (lv_at hl 4 rfl) ?_
          refine lv_if_lt (tgt := 95) hx hb dX7_fromTerms_45 (by decide) (fun k => ?_) (fun k => ?_)
          · have hw := hw.1 k
            refine lv_aload_n hx hb dX7_fromTerms_95 rfl (lv_at hl 0 rfl) ?_
            refine lv_iload_n hx hb dX7_fromTerms_96 rfl (lv_at hl 1 rfl) ?_
            refine lv_lload_n hx hb dX7_fromTerms_97 rfl (lv_at hl 2 rfl) ?_
            refine lv_lload hx hb dX7_fromTerms_98 (lv_at hl 3 rfl) ?_
            refine kcI (wc := [((rf 0), o7 rf f_hasSnapshot f_termListSize f_textSize), ((rf 1), ai cI 8 f_tops), ((rf 2), ai cI 8 f_bottoms)]) (wr := [((rf 8), ai cI 20 f_termList)]) hP hD hS hA [0, 1, 2] [3] rfl rfl ⟨rfl, rfl, by decide⟩ (fun hPc hDc => rV (As := [.int v1, .long v2, .long v4]) (rest := []) C0 hK hN (c7_store l D cI cJ cN cR rf H.size f_hasSnapshot f_termListSize f_textSize f_tops f_bottoms v1 v2 v4 _ hw) 3 gX7_fromTerms_X7_store rfl ⟨rfl, rfl⟩ nm7_store ⟨Nat.le_of_ble_eq_true rfl, Nat.le_of_ble_eq_true rfl⟩ (q0 := 0) rfl rfl rfl rfl hl.1 rfl (Nat.le_of_ble_eq_true rfl) dX7_fromTerms_100 ⟨Nat.le_of_ble_eq_true rfl, Nat.le_of_ble_eq_true rfl⟩ hPc hDc) (fun r100 u100 H locs hw hP hD hS => ?_)
            obtain ⟨f_tops_100, f_bottoms_100⟩ := u100
            dsimp only at hw
            have hP : va_P D vwCl [((rf 8), ai cI 20 f_termList), ((rf 0), o7 rf f_hasSnapshot f_termListSize f_textSize), ((rf 1), ai cI 8 f_tops_100), ((rf 2), ai cI 8 f_bottoms_100)] H := hP
            have hD : va_D A [((rf 8), ai cI 20 f_termList), ((rf 0), o7 rf f_hasSnapshot f_termListSize f_textSize), ((rf 1), ai cI 8 f_tops_100), ((rf 2), ai cI 8 f_bottoms_100)] := hD
            obtain ⟨hP, hD⟩ := k_sub (ws' := [((rf 0), o7 rf f_hasSnapshot f_termListSize f_textSize), ((rf 1), ai cI 8 f_tops_100), ((rf 2), ai cI 8 f_bottoms_100), ((rf 8), ai cI 20 f_termList)]) hP hD [1, 2, 3, 0] rfl rfl
            exact RET _ _ _ (f_tops_100, f_bottoms_100) _ _ hw hP hD hS dX7_fromTerms_103
          · have hw := hw.2 k
            refine lv_aload_n hx hb dX7_fromTerms_48 rfl (lv_at hl 0 rfl) ?_
            refine va_get (D := D) (ci := 7) (v := .ref (rf 8)) (C := RX7) (T := TX7) (N := 16) hx hb hts hi9 hown hK hP 0 rfl rfl 7 (by decide) g31 (fun _ h9 => h9) rfl dX7_fromTerms_49 ?_
            refine lv_iload hx hb dX7_fromTerms_52 (lv_at hl 4 rfl) ?_
            obtain ⟨hin, hw⟩ := hw
            refine va_iald hx hb hK hP 3 0 rfl rfl hin dX7_fromTerms_54 ?_
            refine lv_i2l hx hb dX7_fromTerms_55 rfl ?_
            refine lv_lload_n hx hb dX7_fromTerms_56 rfl (lv_at hl 2 rfl) ?_
            refine lv_lmul hx hb dX7_fromTerms_57 ?_
            refine lv_lload hx hb dX7_fromTerms_58 (lv_at hl 3 rfl) ?_
            refine lv_ladd hx hb dX7_fromTerms_60 ?_
            refine lv_topl (fun x61 ex61 => ?_)
            have hw := hw x61 ex61
            refine lv_lstore (lv' := [(7, .long x61), (0, .ref (rf 0)), (1, .int v1), (2, .long v2), (4, .long v4), (6, .int v6)]) hx hb dX7_fromTerms_61 hl (by decide) rfl (fun ls hl => ?_)
            refine lv_lload_n hx hb dX7_fromTerms_63 rfl (lv_at hl 3 rfl) ?_
            refine lv_lstore (lv' := [(4, .long v2), (7, .long x61), (0, .ref (rf 0)), (1, .int v1), (2, .long v2), (6, .int v6)]) hx hb dX7_fromTerms_64 hl (by decide) rfl (fun ls hl => ?_)
            refine lv_lload hx hb dX7_fromTerms_66 (lv_at hl 1 rfl) ?_
            refine lv_lstore_n (lv' := [(2, .long x61), (4, .long v2), (7, .long x61), (0, .ref (rf 0)), (1, .int v1), (6, .int v6)]) hx hb dX7_fromTerms_68 rfl hl (by decide) rfl (fun ls hl => ?_)
            refine lv_lload_n hx hb dX7_fromTerms_69 rfl (lv_at hl 0 rfl) ?_
            refine lv_ldc2 (v := (1000000 : Int64)) hx hb hown (hts (.constantLong RX7 138 (1000000)) (by decide +kernel)) dX7_fromTerms_70 ?_
            refine W.lcmp hx hb dX7_fromTerms_73 ?_
            refine lv_if_gt (tgt := 86) hx hb dX7_fromTerms_74 (by decide) (fun k => ?_) (fun k => ?_)
            · have hw := hw.1 ((lg_cmp_gt _ _).mp k)
              refine lv_bipush (v := (-3 : Int32)) hx hb dX7_fromTerms_86 (by decide) ?_
              exact RET _ _ _ (f_tops, f_bottoms) _ _ hw hP hD hS dX7_fromTerms_88
            · have hw := hw.2 (fun h => k ((lg_cmp_gt _ _).mpr h))
              refine lv_lload hx hb dX7_fromTerms_77 (lv_at hl 1 rfl) ?_
              refine lv_ldc2 (v := (1000000 : Int64)) hx hb hown (hts (.constantLong RX7 138 (1000000)) (by decide +kernel)) dX7_fromTerms_79 ?_
              refine W.lcmp hx hb dX7_fromTerms_82 ?_
              refine lv_if_le (tgt := 89) hx hb dX7_fromTerms_83 (by decide) (fun k => ?_) (fun k => ?_)
              · have hw := hw.1 ((lg_cmp_le _ _).mp k)
                obtain ⟨x89, ex89⟩ : ∃ y : Int32, y = (v6 + (-1 : Int32)) := ⟨_, rfl⟩
                have hw := hw x89 ex89
                refine lv_iinc (v := x89) (lv' := [(6, .int x89), (2, .long x61), (4, .long v2), (7, .long x61), (0, .ref (rf 0)), (1, .int v1)]) hx hb dX7_fromTerms_89 hl (k := 5) rfl (by rw [ex89]; rfl) (by decide) rfl (fun ls hl => ?_)
                refine lv_goto (tgt := 43) hx hb dX7_fromTerms_92 (by decide) ?_
                exact ih43 x61 v2 x89 _ _ ls hw hP hD hS (lv_sub hl [4, 5, 1, 2, 0] rfl)
              · have hw := hw.2 (fun h => k ((lg_cmp_le _ _).mpr h))
                refine lv_bipush (v := (-3 : Int32)) hx hb dX7_fromTerms_86 (by decide) ?_
                exact RET _ _ _ (f_tops, f_bottoms) _ _ hw hP hD hS dX7_fromTerms_88
      exact LOOP_43 n43 x31 (1 : Int64) x41 _ _ ls hw hP hD hS (lv_sub hl [3, 4, 2, 1, 0] rfl)
    · have hw := hw.2 k
      refine lv_bipush (v := (-2 : Int32)) hx hb dX7_fromTerms_16 (by decide) ?_
      exact RET _ _ _ (f_tops, f_bottoms) _ _ hw hP hD hS dX7_fromTerms_18
  · have hw := hw.2 k
    refine lv_iconst (v := (-1 : Int32)) hx hb dX7_fromTerms_7 (by decide) ?_
    exact RET _ _ _ (f_tops, f_bottoms) _ _ hw hP hD hS dX7_fromTerms_8
abbrev rm7_nearerSide : Room := { frames := 1, cells := 0, slots := 0, locals := 21 }
theorem nm7_nearerSide : kNm yX7_nearerSide 2 := by decide +kernel
set_option maxHeartbeats 4000000 in
set_option maxRecDepth 100000 in
theorem c7_nearerSide (l : Launch) (D : va_G) (cI cJ cN cR : ClassId) (rf : Nat → Nat) (g0 : Nat) (g1 : Nat) (f_hasSnapshot : Int32) (f_termListSize : Int32) (f_textSize : Int32) (f_tops : (Nat → Int32)) (f_bottoms : (Nat → Int32)) (f_P_size : Int32) (f_P_leftTop : Int64) (f_P_leftBottom : Int64) (f_P_rightTop : Int64) (f_P_rightBottom : Int64) (v1 : Int32) (post : Int32 → Prop) (hw : w7_nearerSide f_tops f_bottoms f_P_leftTop f_P_leftBottom f_P_rightTop f_P_rightBottom v1 post) : Met l yX7_nearerSide wsX7_nearerSide rm7_nearerSide (kR D (kT cI cJ cN cR) [.ref (rf 0), .int v1, .ref g0] [((rf 0), o7 rf f_hasSnapshot f_termListSize f_textSize), ((rf 1), ai cI 8 f_tops), ((rf 2), ai cI 8 f_bottoms), (g0, o1 g1 f_P_size f_P_leftTop f_P_leftBottom f_P_rightTop f_P_rightBottom)]) (vp_Si post) 0 0 (fun _ => False) := by
  refine kMetRI (cc := cX7_nearerSide) (maxL := 15) (by decide +kernel) rfl (Nat.le_of_ble_eq_true rfl) ?_
  intro p e s m args below meth c H ls Q C0 hK hN hP hl RET
  obtain ⟨hx, hb, hml, hown, hts⟩ := id C0
  have hl : lv_has ls 15 [(0, .ref (rf 0)), (1, .int v1), (2, .ref g0)] := hl
  have g9 := hts (.fieldLink RX7 9 "SternBrocotExplorer" "tops" "[I") (by decide +kernel)
  have g13 := hts (.fieldLink RX7 13 "SternBrocotExplorer" "bottoms" "[I") (by decide +kernel)
  have hi9 : ∀ w ∈ wsX70, w ∈ wsX7_nearerSide := fun w h => List.mem_cons_of_mem _ (List.mem_append_left _ (List.mem_append_right _ h))
  unfold w7_nearerSide at hw
  refine lv_aload_n hx hb dX7_nearerSide_0 rfl (lv_at hl 0 rfl) ?_
  refine va_get (D := D) (ci := 7) (v := .ref (rf 1)) (C := RX7) (T := TX7) (N := 16) hx hb hts hi9 hown hK hP 0 rfl rfl 0 (by decide) g9 (fun _ h9 => h9) rfl dX7_nearerSide_1 ?_
  refine lv_iload_n hx hb dX7_nearerSide_4 rfl (lv_at hl 1 rfl) ?_
  obtain ⟨hin, hw⟩ := hw
  refine va_iald hx hb hK hP 1 0 rfl rfl hin dX7_nearerSide_5 ?_
  refine lv_i2l hx hb dX7_nearerSide_6 rfl ?_
  refine lv_topl (fun x7 ex7 => ?_)
  have hw := hw x7 ex7
  refine lv_lstore_n (lv' := [(3, .long x7), (0, .ref (rf 0)), (1, .int v1), (2, .ref g0)]) hx hb dX7_nearerSide_7 rfl hl (by decide) rfl (fun ls hl => ?_)
  refine lv_aload_n hx hb dX7_nearerSide_8 rfl (lv_at hl 1 rfl) ?_
  refine va_get (D := D) (ci := 7) (v := .ref (rf 2)) (C := RX7) (T := TX7) (N := 16) hx hb hts hi9 hown hK hP 0 rfl rfl 1 (by decide) g13 (fun _ h9 => h9) rfl dX7_nearerSide_9 ?_
  refine lv_iload_n hx hb dX7_nearerSide_12 rfl (lv_at hl 2 rfl) ?_
  obtain ⟨hin, hw⟩ := hw
  refine va_iald hx hb hK hP 2 0 rfl rfl hin dX7_nearerSide_13 ?_
  refine lv_i2l hx hb dX7_nearerSide_14 rfl ?_
  refine lv_topl (fun x15 ex15 => ?_)
  have hw := hw x15 ex15
  refine lv_lstore (lv' := [(5, .long x15), (3, .long x7), (0, .ref (rf 0)), (1, .int v1), (2, .ref g0)]) hx hb dX7_nearerSide_15 hl (by decide) rfl (fun ls hl => ?_)
  refine lv_aload_n hx hb dX7_nearerSide_17 rfl (lv_at hl 4 rfl) ?_
  refine lv_iconst (v := (0 : Int32)) hx hb dX7_nearerSide_18 (by decide) ?_
  refine kcRL (wc := [(g0, o1 g1 f_P_size f_P_leftTop f_P_leftBottom f_P_rightTop f_P_rightBottom)]) hP [3] rfl (fun hPc => oV (As := [.int (0 : Int32)]) (rest := []) C0 hK hN (c1_boundBottom l D cI cJ cN cR g0 g1 f_P_size f_P_leftTop f_P_leftBottom f_P_rightTop f_P_rightBottom (0 : Int32) _ hw) 1 gX7_nearerSide_X1_boundBottom rfl ⟨rfl, rfl⟩ nm1_boundBottom ⟨Nat.le_of_ble_eq_true rfl, Nat.le_of_ble_eq_true rfl⟩ (q0 := 0) rfl rfl rfl rfl hl.1 rfl (Nat.le_of_ble_eq_true rfl) dX7_nearerSide_19 ⟨Nat.le_of_ble_eq_true rfl, Nat.le_of_ble_eq_true rfl⟩ hPc) (fun r19 hw => ?_)
  refine lv_lstore (lv' := [(7, .long r19), (5, .long x15), (3, .long x7), (0, .ref (rf 0)), (1, .int v1), (2, .ref g0)]) hx hb dX7_nearerSide_22 hl (by decide) rfl (fun ls hl => ?_)
  refine lv_aload_n hx hb dX7_nearerSide_24 rfl (lv_at hl 5 rfl) ?_
  refine lv_iconst (v := (1 : Int32)) hx hb dX7_nearerSide_25 (by decide) ?_
  refine kcRL (wc := [(g0, o1 g1 f_P_size f_P_leftTop f_P_leftBottom f_P_rightTop f_P_rightBottom)]) hP [3] rfl (fun hPc => oV (As := [.int (1 : Int32)]) (rest := []) C0 hK hN (c1_boundBottom l D cI cJ cN cR g0 g1 f_P_size f_P_leftTop f_P_leftBottom f_P_rightTop f_P_rightBottom (1 : Int32) _ hw) 1 gX7_nearerSide_X1_boundBottom rfl ⟨rfl, rfl⟩ nm1_boundBottom ⟨Nat.le_of_ble_eq_true rfl, Nat.le_of_ble_eq_true rfl⟩ (q0 := 0) rfl rfl rfl rfl hl.1 rfl (Nat.le_of_ble_eq_true rfl) dX7_nearerSide_26 ⟨Nat.le_of_ble_eq_true rfl, Nat.le_of_ble_eq_true rfl⟩ hPc) (fun r26 hw => ?_)
  refine lv_lstore (lv' := [(9, .long r26), (7, .long r19), (5, .long x15), (3, .long x7), (0, .ref (rf 0)), (1, .int v1), (2, .ref g0)]) hx hb dX7_nearerSide_29 hl (by decide) rfl (fun ls hl => ?_)
  refine lv_lload_n hx hb dX7_nearerSide_31 rfl (lv_at hl 3 rfl) ?_
  refine lv_lload hx hb dX7_nearerSide_32 (lv_at hl 1 rfl) ?_
  refine lv_lmul hx hb dX7_nearerSide_34 ?_
  refine lv_lload hx hb dX7_nearerSide_35 (lv_at hl 2 rfl) ?_
  refine lv_aload_n hx hb dX7_nearerSide_37 rfl (lv_at hl 6 rfl) ?_
  refine lv_iconst (v := (0 : Int32)) hx hb dX7_nearerSide_38 (by decide) ?_
  refine kcRL (wc := [(g0, o1 g1 f_P_size f_P_leftTop f_P_leftBottom f_P_rightTop f_P_rightBottom)]) hP [3] rfl (fun hPc => oV (As := [.int (0 : Int32)]) (rest := [.long x15, .long (x7 * r19)]) C0 hK hN (c1_boundTop l D cI cJ cN cR g0 g1 f_P_size f_P_leftTop f_P_leftBottom f_P_rightTop f_P_rightBottom (0 : Int32) _ hw) 1 gX7_nearerSide_X1_boundTop rfl ⟨rfl, rfl⟩ nm1_boundTop ⟨Nat.le_of_ble_eq_true rfl, Nat.le_of_ble_eq_true rfl⟩ (q0 := 0) rfl rfl rfl rfl hl.1 rfl (Nat.le_of_ble_eq_true rfl) dX7_nearerSide_39 ⟨Nat.le_of_ble_eq_true rfl, Nat.le_of_ble_eq_true rfl⟩ hPc) (fun r39 hw => ?_)
  refine lv_lmul hx hb dX7_nearerSide_42 ?_
  refine lv_lsub hx hb dX7_nearerSide_43 ?_
  refine lv_lload hx hb dX7_nearerSide_44 (lv_at hl 0 rfl) ?_
  refine lv_lmul hx hb dX7_nearerSide_46 ?_
  refine lv_topl (fun x47 ex47 => ?_)
  have hw := hw x47 ex47
  refine lv_lstore (lv' := [(11, .long x47), (9, .long r26), (7, .long r19), (5, .long x15), (3, .long x7), (0, .ref (rf 0)), (1, .int v1), (2, .ref g0)]) hx hb dX7_nearerSide_47 hl (by decide) rfl (fun ls hl => ?_)
  refine lv_lload hx hb dX7_nearerSide_49 (lv_at hl 3 rfl) ?_
  refine lv_aload_n hx hb dX7_nearerSide_51 rfl (lv_at hl 7 rfl) ?_
  refine lv_iconst (v := (1 : Int32)) hx hb dX7_nearerSide_52 (by decide) ?_
  refine kcRL (wc := [(g0, o1 g1 f_P_size f_P_leftTop f_P_leftBottom f_P_rightTop f_P_rightBottom)]) hP [3] rfl (fun hPc => oV (As := [.int (1 : Int32)]) (rest := [.long x15]) C0 hK hN (c1_boundTop l D cI cJ cN cR g0 g1 f_P_size f_P_leftTop f_P_leftBottom f_P_rightTop f_P_rightBottom (1 : Int32) _ hw) 1 gX7_nearerSide_X1_boundTop rfl ⟨rfl, rfl⟩ nm1_boundTop ⟨Nat.le_of_ble_eq_true rfl, Nat.le_of_ble_eq_true rfl⟩ (q0 := 0) rfl rfl rfl rfl hl.1 rfl (Nat.le_of_ble_eq_true rfl) dX7_nearerSide_53 ⟨Nat.le_of_ble_eq_true rfl, Nat.le_of_ble_eq_true rfl⟩ hPc) (fun r53 hw => ?_)
  refine lv_lmul hx hb dX7_nearerSide_56 ?_
  refine lv_lload_n hx hb dX7_nearerSide_57 rfl (lv_at hl 4 rfl) ?_
  refine lv_lload hx hb dX7_nearerSide_58 (lv_at hl 1 rfl) ?_
  refine lv_lmul hx hb dX7_nearerSide_60 ?_
  refine lv_lsub hx hb dX7_nearerSide_61 ?_
  refine lv_lload hx hb dX7_nearerSide_62 (lv_at hl 2 rfl) ?_
  refine lv_lmul hx hb dX7_nearerSide_64 ?_
  refine lv_topl (fun x65 ex65 => ?_)
  have hw := hw x65 ex65
  refine lv_lstore (lv' := [(13, .long x65), (11, .long x47), (9, .long r26), (7, .long r19), (5, .long x15), (3, .long x7), (0, .ref (rf 0)), (1, .int v1), (2, .ref g0)]) hx hb dX7_nearerSide_65 hl (by decide) rfl (fun ls hl => ?_)
  refine lv_lload hx hb dX7_nearerSide_67 (lv_at hl 1 rfl) ?_
  refine lv_lload hx hb dX7_nearerSide_69 (lv_at hl 0 rfl) ?_
  refine W.lcmp hx hb dX7_nearerSide_71 ?_
  refine lv_if_ne (tgt := 89) hx hb dX7_nearerSide_72 (by decide) (fun k => ?_) (fun k => ?_)
  · have hw := hw.1 (fun h => k ((lg_cmp_eq _ _).mpr h))
    refine lv_lload hx hb dX7_nearerSide_89 (lv_at hl 1 rfl) ?_
    refine lv_lload hx hb dX7_nearerSide_91 (lv_at hl 0 rfl) ?_
    refine W.lcmp hx hb dX7_nearerSide_93 ?_
    refine lv_if_ge (tgt := 101) hx hb dX7_nearerSide_94 (by decide) (fun k => ?_) (fun k => ?_)
    · have hw := hw.1 ((lg_cmp_ge _ _).mp k)
      refine lv_iconst (v := (1 : Int32)) hx hb dX7_nearerSide_101 (by decide) ?_
      exact RET _ _ _ hw dX7_nearerSide_102
    · have hw := hw.2 (fun h => k ((lg_cmp_ge _ _).mpr h))
      refine lv_iconst (v := (0 : Int32)) hx hb dX7_nearerSide_97 (by decide) ?_
      refine lv_goto (tgt := 102) hx hb dX7_nearerSide_98 (by decide) ?_
      exact RET _ _ _ hw dX7_nearerSide_102
  · have hw := hw.2 ((lg_cmp_eq _ _).mp k)
    refine lv_lload hx hb dX7_nearerSide_75 (lv_at hl 3 rfl) ?_
    refine lv_lload hx hb dX7_nearerSide_77 (lv_at hl 2 rfl) ?_
    refine W.lcmp hx hb dX7_nearerSide_79 ?_
    refine lv_if_gt (tgt := 87) hx hb dX7_nearerSide_80 (by decide) (fun k => ?_) (fun k => ?_)
    · have hw := hw.1 ((lg_cmp_gt _ _).mp k)
      refine lv_iconst (v := (1 : Int32)) hx hb dX7_nearerSide_87 (by decide) ?_
      exact RET _ _ _ hw dX7_nearerSide_88
    · have hw := hw.2 (fun h => k ((lg_cmp_gt _ _).mpr h))
      refine lv_iconst (v := (0 : Int32)) hx hb dX7_nearerSide_83 (by decide) ?_
      refine lv_goto (tgt := 88) hx hb dX7_nearerSide_84 (by decide) ?_
      exact RET _ _ _ hw dX7_nearerSide_88
abbrev rm7_best : Room := { frames := 4, cells := 0, slots := 0, locals := 108 }
theorem nm7_best : kNm yX7_best 4 := by decide +kernel
set_option maxHeartbeats 4000000 in
set_option maxRecDepth 100000 in
theorem c7_best (l : Launch) (D : va_G) (cI cJ cN cR : ClassId) (rf : Nat → Nat) (sz : Nat) (f_hasSnapshot : Int32) (f_termListSize : Int32) (f_textSize : Int32) (f_tops : (Nat → Int32)) (f_bottoms : (Nat → Int32)) (f_E_size : Int32) (f_E_leftTop : Int64) (f_E_leftBottom : Int64) (f_E_rightTop : Int64) (f_E_rightBottom : Int64) (f_E_terms : (Nat → Int32)) (v1 : Int32) (v2 : Int32) (v3 : Int32) (v4 : Int32) (post : Int32 → (Nat → Int32) → (Nat → Int32) → Int32 → Int64 → Int64 → Int64 → Int64 → (Nat → Int32) → Prop) (hw : w7_best f_tops f_bottoms f_E_size f_E_leftTop f_E_leftBottom f_E_rightTop f_E_rightBottom f_E_terms v1 v2 v3 v4 post) : Met l yX7_best wsX7_best rm7_best (kP D (kT cI cJ cN cR) sz [.ref (rf 0), .int v1, .int v2, .int v3, .int v4] [((rf 0), o7 rf f_hasSnapshot f_termListSize f_textSize), ((rf 1), ai cI 8 f_tops), ((rf 2), ai cI 8 f_bottoms), ((rf 14), o1 (rf 17) f_E_size f_E_leftTop f_E_leftBottom f_E_rightTop f_E_rightBottom), ((rf 17), ai cI 64 f_E_terms)]) (kQi D [((rf 0), o7 rf f_hasSnapshot f_termListSize f_textSize), ((rf 1), ai cI 8 f_tops), ((rf 2), ai cI 8 f_bottoms), ((rf 14), o1 (rf 17) f_E_size f_E_leftTop f_E_leftBottom f_E_rightTop f_E_rightBottom), ((rf 17), ai cI 64 f_E_terms)] sz (fun (r : Int32) (u : (Nat → Int32) × (Nat → Int32) × Int32 × Int64 × Int64 × Int64 × Int64 × (Nat → Int32)) => post r u.1 u.2.1 u.2.2.1 u.2.2.2.1 u.2.2.2.2.1 u.2.2.2.2.2.1 u.2.2.2.2.2.2.1 u.2.2.2.2.2.2.2) (fun (u : (Nat → Int32) × (Nat → Int32) × Int32 × Int64 × Int64 × Int64 × Int64 × (Nat → Int32)) => [((rf 0), o7 rf f_hasSnapshot f_termListSize f_textSize), ((rf 1), ai cI 8 u.1), ((rf 2), ai cI 8 u.2.1), ((rf 14), o1 (rf 17) u.2.2.1 u.2.2.2.1 u.2.2.2.2.1 u.2.2.2.2.2.1 u.2.2.2.2.2.2.1), ((rf 17), ai cI 64 u.2.2.2.2.2.2.2)])) 0 0 (va_A [((rf 0), o7 rf f_hasSnapshot f_termListSize f_textSize), ((rf 1), ai cI 8 f_tops), ((rf 2), ai cI 8 f_bottoms), ((rf 14), o1 (rf 17) f_E_size f_E_leftTop f_E_leftBottom f_E_rightTop f_E_rightBottom), ((rf 17), ai cI 64 f_E_terms)] sz) := by
  refine kMetI (cc := cX7_best) (maxL := 7) (by decide +kernel) rfl (Nat.le_of_ble_eq_true rfl) ?_
  intro p e s m args below meth c H0 ls A Q C0 hK hN hP hD hS hA hl RET
  obtain ⟨hx, hb, hml, hown, hts⟩ := id C0
  have hl : lv_has ls 7 [(0, .ref (rf 0)), (1, .int v1), (2, .int v2), (3, .int v3), (4, .int v4)] := hl
  have g13 := hts (.fieldLink RX7 13 "SternBrocotExplorer" "bottoms" "[I") (by decide +kernel)
  have g9 := hts (.fieldLink RX7 9 "SternBrocotExplorer" "tops" "[I") (by decide +kernel)
  have hi9 : ∀ w ∈ wsX70, w ∈ wsX7_best := fun w h => List.mem_cons_of_mem _ (List.mem_append_left _ (List.mem_append_right _ h))
  unfold w7_best at hw
  have hP : va_P D vwCl [((rf 0), o7 rf f_hasSnapshot f_termListSize f_textSize), ((rf 1), ai cI 8 f_tops), ((rf 2), ai cI 8 f_bottoms), ((rf 14), o1 (rf 17) f_E_size f_E_leftTop f_E_leftBottom f_E_rightTop f_E_rightBottom), ((rf 17), ai cI 64 f_E_terms)] H0 := hP
  have JOIN_98 : ∀ (f_tops : (Nat → Int32)) (f_bottoms : (Nat → Int32)) (f_E_size : Int32) (f_E_leftTop : Int64) (f_E_leftBottom : Int64) (f_E_rightTop : Int64) (f_E_rightBottom : Int64) (f_E_terms : (Nat → Int32)) (s0 : Int32) (H : Heap) (locs : List Loc) (ls : Array Slot), w7_best_J98 f_tops f_bottoms f_E_size f_E_leftTop f_E_leftBottom f_E_rightTop f_E_rightBottom f_E_terms v1 s0 post → va_P D vwCl [((rf 0), o7 rf f_hasSnapshot f_termListSize f_textSize), ((rf 1), ai cI 8 f_tops), ((rf 2), ai cI 8 f_bottoms), ((rf 14), o1 (rf 17) f_E_size f_E_leftTop f_E_leftBottom f_E_rightTop f_E_rightBottom), ((rf 17), ai cI 64 f_E_terms)] H → va_D A [((rf 0), o7 rf f_hasSnapshot f_termListSize f_textSize), ((rf 1), ai cI 8 f_tops), ((rf 2), ai cI 8 f_bottoms), ((rf 14), o1 (rf 17) f_E_size f_E_leftTop f_E_leftBottom f_E_rightTop f_E_rightBottom), ((rf 17), ai cI 64 f_E_terms)] → va_S A H0 H locs → lv_has ls 7 [(0, .ref (rf 0)), (1, .int v1), (5, .ref (rf 14))] → W p l e rm7_best s m args below meth c H locs 0 0 Q (F0 m 98 ls [.int s0]) := by
    intro f_tops f_bottoms f_E_size f_E_leftTop f_E_leftBottom f_E_rightTop f_E_rightBottom f_E_terms s0 H locs ls hw hP hD hS hl
    unfold w7_best_J98 at hw
    refine lv_istore (lv' := [(6, .int s0), (0, .ref (rf 0)), (1, .int v1), (5, .ref (rf 14))]) hx hb dX7_best_98 hl (by decide) rfl (fun ls hl => ?_)
    refine lv_aload hx hb dX7_best_100 (lv_at hl 3 rfl) ?_
    refine lv_iload hx hb dX7_best_102 (lv_at hl 0 rfl) ?_
    refine kcRL (wc := [((rf 14), o1 (rf 17) f_E_size f_E_leftTop f_E_leftBottom f_E_rightTop f_E_rightBottom)]) hP [3] rfl (fun hPc => oV (As := [.int s0]) (rest := []) C0 hK hN (c1_boundTop l D cI cJ cN cR (rf 14) (rf 17) f_E_size f_E_leftTop f_E_leftBottom f_E_rightTop f_E_rightBottom s0 _ hw) 1 gX7_best_X1_boundTop rfl ⟨rfl, rfl⟩ nm1_boundTop ⟨Nat.le_of_ble_eq_true rfl, Nat.le_of_ble_eq_true rfl⟩ (q0 := 0) rfl rfl rfl rfl hl.1 rfl (Nat.le_of_ble_eq_true rfl) dX7_best_104 ⟨Nat.le_of_ble_eq_true rfl, Nat.le_of_ble_eq_true rfl⟩ hPc) (fun r104 hw => ?_)
    refine lv_lconst (v := (0 : Int64)) hx hb dX7_best_107 (by decide) ?_
    refine W.lcmp hx hb dX7_best_108 ?_
    refine lv_if_ne (tgt := 115) hx hb dX7_best_109 (by decide) (fun k => ?_) (fun k => ?_)
    · have hw := hw.1 (fun h => k ((lg_cmp_eq _ _).mpr h))
      refine lv_aload_n hx hb dX7_best_115 rfl (lv_at hl 1 rfl) ?_
      refine lv_iload_n hx hb dX7_best_116 rfl (lv_at hl 2 rfl) ?_
      refine lv_aload hx hb dX7_best_117 (lv_at hl 3 rfl) ?_
      refine lv_iload hx hb dX7_best_119 (lv_at hl 0 rfl) ?_
      refine kcRL (wc := [((rf 14), o1 (rf 17) f_E_size f_E_leftTop f_E_leftBottom f_E_rightTop f_E_rightBottom)]) hP [3] rfl (fun hPc => oV (As := [.int s0]) (rest := [.int v1, .ref (rf 0)]) C0 hK hN (c1_boundTop l D cI cJ cN cR (rf 14) (rf 17) f_E_size f_E_leftTop f_E_leftBottom f_E_rightTop f_E_rightBottom s0 _ hw) 1 gX7_best_X1_boundTop rfl ⟨rfl, rfl⟩ nm1_boundTop ⟨Nat.le_of_ble_eq_true rfl, Nat.le_of_ble_eq_true rfl⟩ (q0 := 0) rfl rfl rfl rfl hl.1 rfl (Nat.le_of_ble_eq_true rfl) dX7_best_121 ⟨Nat.le_of_ble_eq_true rfl, Nat.le_of_ble_eq_true rfl⟩ hPc) (fun r121 hw => ?_)
      refine lv_aload hx hb dX7_best_124 (lv_at hl 3 rfl) ?_
      refine lv_iload hx hb dX7_best_126 (lv_at hl 0 rfl) ?_
      refine kcRL (wc := [((rf 14), o1 (rf 17) f_E_size f_E_leftTop f_E_leftBottom f_E_rightTop f_E_rightBottom)]) hP [3] rfl (fun hPc => oV (As := [.int s0]) (rest := [.long r121, .int v1, .ref (rf 0)]) C0 hK hN (c1_boundBottom l D cI cJ cN cR (rf 14) (rf 17) f_E_size f_E_leftTop f_E_leftBottom f_E_rightTop f_E_rightBottom s0 _ hw) 1 gX7_best_X1_boundBottom rfl ⟨rfl, rfl⟩ nm1_boundBottom ⟨Nat.le_of_ble_eq_true rfl, Nat.le_of_ble_eq_true rfl⟩ (q0 := 0) rfl rfl rfl rfl hl.1 rfl (Nat.le_of_ble_eq_true rfl) dX7_best_128 ⟨Nat.le_of_ble_eq_true rfl, Nat.le_of_ble_eq_true rfl⟩ hPc) (fun r128 hw => ?_)
      refine kcI (wc := [((rf 0), o7 rf f_hasSnapshot f_termListSize f_textSize), ((rf 1), ai cI 8 f_tops), ((rf 2), ai cI 8 f_bottoms)]) (wr := [((rf 14), o1 (rf 17) f_E_size f_E_leftTop f_E_leftBottom f_E_rightTop f_E_rightBottom), ((rf 17), ai cI 64 f_E_terms)]) hP hD hS hA [0, 1, 2] [3, 4] rfl rfl ⟨rfl, rfl, by decide⟩ (fun hPc hDc => rV (As := [.int v1, .long r121, .long r128]) (rest := []) C0 hK hN (c7_store l D cI cJ cN cR rf H.size f_hasSnapshot f_termListSize f_textSize f_tops f_bottoms v1 r121 r128 _ hw) 3 gX7_best_X7_store rfl ⟨rfl, rfl⟩ nm7_store ⟨Nat.le_of_ble_eq_true rfl, Nat.le_of_ble_eq_true rfl⟩ (q0 := 0) rfl rfl rfl rfl hl.1 rfl (Nat.le_of_ble_eq_true rfl) dX7_best_131 ⟨Nat.le_of_ble_eq_true rfl, Nat.le_of_ble_eq_true rfl⟩ hPc hDc) (fun r131 u131 H locs hw hP hD hS => ?_)
      obtain ⟨f_tops_131, f_bottoms_131⟩ := u131
      dsimp only at hw
      have hP : va_P D vwCl [((rf 14), o1 (rf 17) f_E_size f_E_leftTop f_E_leftBottom f_E_rightTop f_E_rightBottom), ((rf 17), ai cI 64 f_E_terms), ((rf 0), o7 rf f_hasSnapshot f_termListSize f_textSize), ((rf 1), ai cI 8 f_tops_131), ((rf 2), ai cI 8 f_bottoms_131)] H := hP
      have hD : va_D A [((rf 14), o1 (rf 17) f_E_size f_E_leftTop f_E_leftBottom f_E_rightTop f_E_rightBottom), ((rf 17), ai cI 64 f_E_terms), ((rf 0), o7 rf f_hasSnapshot f_termListSize f_textSize), ((rf 1), ai cI 8 f_tops_131), ((rf 2), ai cI 8 f_bottoms_131)] := hD
      obtain ⟨hP, hD⟩ := k_sub (ws' := [((rf 0), o7 rf f_hasSnapshot f_termListSize f_textSize), ((rf 1), ai cI 8 f_tops_131), ((rf 2), ai cI 8 f_bottoms_131), ((rf 14), o1 (rf 17) f_E_size f_E_leftTop f_E_leftBottom f_E_rightTop f_E_rightBottom), ((rf 17), ai cI 64 f_E_terms)]) hP hD [2, 3, 4, 0, 1] rfl rfl
      exact RET _ _ _ (f_tops_131, f_bottoms_131, f_E_size, f_E_leftTop, f_E_leftBottom, f_E_rightTop, f_E_rightBottom, f_E_terms) _ _ hw hP hD hS dX7_best_134
    · have hw := hw.2 ((lg_cmp_eq _ _).mp k)
      refine lv_bipush (v := (-2 : Int32)) hx hb dX7_best_112 (by decide) ?_
      exact RET _ _ _ (f_tops, f_bottoms, f_E_size, f_E_leftTop, f_E_leftBottom, f_E_rightTop, f_E_rightBottom, f_E_terms) _ _ hw hP hD hS dX7_best_114
  refine lv_iload_n hx hb dX7_best_0 rfl (lv_at hl 1 rfl) ?_
  refine kcRI (wc := []) hP [] rfl (fun hPc => oS (As := [.int v1]) (rest := []) C0 hK hN (c7_isRegister l D cI cJ cN cR   v1 _ hw) 1 gX7_best_X7_isRegister rfl ⟨rfl, rfl⟩ nm7_isRegister ⟨Nat.le_of_ble_eq_true rfl, Nat.le_of_ble_eq_true rfl⟩ rfl hl.1 rfl (Nat.le_of_ble_eq_true rfl) dX7_best_1 ⟨Nat.le_of_ble_eq_true rfl, Nat.le_of_ble_eq_true rfl⟩ hPc) (fun r1 hw => ?_)
  obtain ⟨nb1, hw⟩ := hw
  refine lv_if_eq (tgt := 34) hx hb dX7_best_4 (by decide) (fun k => ?_) (fun k => ?_)
  · have hw := hw.1 k
    refine lv_iconst (v := (-1 : Int32)) hx hb dX7_best_34 (by decide) ?_
    exact RET _ _ _ (f_tops, f_bottoms, f_E_size, f_E_leftTop, f_E_leftBottom, f_E_rightTop, f_E_rightBottom, f_E_terms) _ _ hw hP hD hS dX7_best_35
  · have hw := hw.2 k
    refine lv_iload_n hx hb dX7_best_7 rfl (lv_at hl 2 rfl) ?_
    refine kcRI (wc := []) hP [] rfl (fun hPc => oS (As := [.int v2]) (rest := []) C0 hK hN (c7_isRegister l D cI cJ cN cR   v2 _ hw) 1 gX7_best_X7_isRegister rfl ⟨rfl, rfl⟩ nm7_isRegister ⟨Nat.le_of_ble_eq_true rfl, Nat.le_of_ble_eq_true rfl⟩ rfl hl.1 rfl (Nat.le_of_ble_eq_true rfl) dX7_best_8 ⟨Nat.le_of_ble_eq_true rfl, Nat.le_of_ble_eq_true rfl⟩ hPc) (fun r8 hw => ?_)
    obtain ⟨nb8, hw⟩ := hw
    refine lv_if_eq (tgt := 34) hx hb dX7_best_11 (by decide) (fun k => ?_) (fun k => ?_)
    · have hw := hw.1 k
      refine lv_iconst (v := (-1 : Int32)) hx hb dX7_best_34 (by decide) ?_
      exact RET _ _ _ (f_tops, f_bottoms, f_E_size, f_E_leftTop, f_E_leftBottom, f_E_rightTop, f_E_rightBottom, f_E_terms) _ _ hw hP hD hS dX7_best_35
    · have hw := hw.2 k
      refine lv_iload_n hx hb dX7_best_14 rfl (lv_at hl 3 rfl) ?_
      refine lv_iconst (v := (1 : Int32)) hx hb dX7_best_15 (by decide) ?_
      refine lv_ldc (v := (1000000 : Int32)) hx hb hown (hts (.constant RX7 66 (1000000)) (by decide +kernel)) dX7_best_16 ?_
      refine kcRI (wc := []) hP [] rfl (fun hPc => oS (As := [.int v3, .int (1 : Int32), .int (1000000 : Int32)]) (rest := []) C0 hK hN (c7_isIn l D cI cJ cN cR   v3 (1 : Int32) (1000000 : Int32) _ hw) 3 gX7_best_X7_isIn rfl ⟨rfl, rfl⟩ nm7_isIn ⟨Nat.le_of_ble_eq_true rfl, Nat.le_of_ble_eq_true rfl⟩ rfl hl.1 rfl (Nat.le_of_ble_eq_true rfl) dX7_best_18 ⟨Nat.le_of_ble_eq_true rfl, Nat.le_of_ble_eq_true rfl⟩ hPc) (fun r18 hw => ?_)
      obtain ⟨nb18, hw⟩ := hw
      refine lv_if_eq (tgt := 34) hx hb dX7_best_21 (by decide) (fun k => ?_) (fun k => ?_)
      · have hw := hw.1 k
        refine lv_iconst (v := (-1 : Int32)) hx hb dX7_best_34 (by decide) ?_
        exact RET _ _ _ (f_tops, f_bottoms, f_E_size, f_E_leftTop, f_E_leftBottom, f_E_rightTop, f_E_rightBottom, f_E_terms) _ _ hw hP hD hS dX7_best_35
      · have hw := hw.2 k
        refine lv_iload hx hb dX7_best_24 (lv_at hl 4 rfl) ?_
        refine lv_iconst (v := (0 : Int32)) hx hb dX7_best_26 (by decide) ?_
        refine lv_iconst (v := (2 : Int32)) hx hb dX7_best_27 (by decide) ?_
        refine kcRI (wc := []) hP [] rfl (fun hPc => oS (As := [.int v4, .int (0 : Int32), .int (2 : Int32)]) (rest := []) C0 hK hN (c7_isIn l D cI cJ cN cR   v4 (0 : Int32) (2 : Int32) _ hw) 3 gX7_best_X7_isIn rfl ⟨rfl, rfl⟩ nm7_isIn ⟨Nat.le_of_ble_eq_true rfl, Nat.le_of_ble_eq_true rfl⟩ rfl hl.1 rfl (Nat.le_of_ble_eq_true rfl) dX7_best_28 ⟨Nat.le_of_ble_eq_true rfl, Nat.le_of_ble_eq_true rfl⟩ hPc) (fun r28 hw => ?_)
        obtain ⟨nb28, hw⟩ := hw
        refine lv_if_ne (tgt := 36) hx hb dX7_best_31 (by decide) (fun k => ?_) (fun k => ?_)
        · have hw := hw.1 k
          refine lv_aload_n hx hb dX7_best_36 rfl (lv_at hl 0 rfl) ?_
          refine va_get (D := D) (ci := 7) (v := .ref (rf 2)) (C := RX7) (T := TX7) (N := 16) hx hb hts hi9 hown hK hP 0 rfl rfl 1 (by decide) g13 (fun _ h9 => h9) rfl dX7_best_37 ?_
          refine lv_iload_n hx hb dX7_best_40 rfl (lv_at hl 2 rfl) ?_
          obtain ⟨hin, hw⟩ := hw
          refine va_iald hx hb hK hP 2 0 rfl rfl hin dX7_best_41 ?_
          refine lv_iload_n hx hb dX7_best_42 rfl (lv_at hl 3 rfl) ?_
          refine lv_icmp_gt (tgt := 66) hx hb dX7_best_43 (by decide) (fun k => ?_) (fun k => ?_)
          · have hw := hw.1 k
            refine lv_aload_n hx hb dX7_best_66 rfl (lv_at hl 0 rfl) ?_
            refine lv_iload_n hx hb dX7_best_67 rfl (lv_at hl 2 rfl) ?_
            refine kcR (wc := [((rf 0), o7 rf f_hasSnapshot f_termListSize f_textSize), ((rf 1), ai cI 8 f_tops), ((rf 2), ai cI 8 f_bottoms), ((rf 14), o1 (rf 17) f_E_size f_E_leftTop f_E_leftBottom f_E_rightTop f_E_rightBottom), ((rf 17), ai cI 64 f_E_terms)]) (wr := []) hP hD hS hA [0, 1, 2, 3, 4] [] rfl rfl ⟨rfl, rfl, by decide⟩ (fun hPc hDc => rV (As := [.int v2]) (rest := []) C0 hK hN (c7_expand l D cI cJ cN cR rf H0.size f_hasSnapshot f_termListSize f_textSize f_tops f_bottoms f_E_size f_E_leftTop f_E_leftBottom f_E_rightTop f_E_rightBottom f_E_terms v2 _ hw) 1 gX7_best_X7_expand rfl ⟨rfl, rfl⟩ nm7_expand ⟨Nat.le_of_ble_eq_true rfl, Nat.le_of_ble_eq_true rfl⟩ (q0 := 0) rfl rfl rfl rfl hl.1 rfl (Nat.le_of_ble_eq_true rfl) dX7_best_68 ⟨Nat.le_of_ble_eq_true rfl, Nat.le_of_ble_eq_true rfl⟩ hPc hDc) (fun u68 H locs hw hP hD hS => ?_)
            obtain ⟨f_E_size_68, f_E_terms_68⟩ := u68
            dsimp only at hw
            have hP : va_P D vwCl [((rf 0), o7 rf f_hasSnapshot f_termListSize f_textSize), ((rf 1), ai cI 8 f_tops), ((rf 2), ai cI 8 f_bottoms), ((rf 14), o1 (rf 17) f_E_size_68 f_E_leftTop f_E_leftBottom f_E_rightTop f_E_rightBottom), ((rf 17), ai cI 64 f_E_terms_68)] H := hP
            have hD : va_D A [((rf 0), o7 rf f_hasSnapshot f_termListSize f_textSize), ((rf 1), ai cI 8 f_tops), ((rf 2), ai cI 8 f_bottoms), ((rf 14), o1 (rf 17) f_E_size_68 f_E_leftTop f_E_leftBottom f_E_rightTop f_E_rightBottom), ((rf 17), ai cI 64 f_E_terms_68)] := hD
            refine lv_astore (lv' := [(5, .ref (rf 14)), (0, .ref (rf 0)), (1, .int v1), (2, .int v2), (3, .int v3), (4, .int v4)]) hx hb dX7_best_71 hl (by decide) rfl (fun ls hl => ?_)
            refine lv_aload hx hb dX7_best_73 (lv_at hl 0 rfl) ?_
            refine lv_iload_n hx hb dX7_best_75 rfl (lv_at hl 4 rfl) ?_
            refine kcV (wc := [((rf 14), o1 (rf 17) f_E_size_68 f_E_leftTop f_E_leftBottom f_E_rightTop f_E_rightBottom), ((rf 17), ai cI 64 f_E_terms_68)]) (wr := [((rf 0), o7 rf f_hasSnapshot f_termListSize f_textSize), ((rf 1), ai cI 8 f_tops), ((rf 2), ai cI 8 f_bottoms)]) hP hD hS hA [3, 4] [0, 1, 2] rfl rfl ⟨rfl, rfl, by decide⟩ (fun hPc hDc => rV (As := [.int v3]) (rest := []) C0 hK hN (c1_findNeighbours l D cI cJ cN cR (rf 14) (rf 17) H.size f_E_size_68 f_E_leftTop f_E_leftBottom f_E_rightTop f_E_rightBottom f_E_terms_68 v3 _ hw) 1 gX7_best_X1_findNeighbours rfl ⟨rfl, rfl⟩ nm1_findNeighbours ⟨Nat.le_of_ble_eq_true rfl, Nat.le_of_ble_eq_true rfl⟩ (q0 := 0) rfl rfl rfl rfl hl.1 rfl (Nat.le_of_ble_eq_true rfl) dX7_best_76 ⟨Nat.le_of_ble_eq_true rfl, Nat.le_of_ble_eq_true rfl⟩ hPc hDc) (fun u76 H locs hw hP hD hS => ?_)
            obtain ⟨f_E_leftTop_76, f_E_leftBottom_76, f_E_rightTop_76, f_E_rightBottom_76⟩ := u76
            dsimp only at hw
            have hP : va_P D vwCl [((rf 0), o7 rf f_hasSnapshot f_termListSize f_textSize), ((rf 1), ai cI 8 f_tops), ((rf 2), ai cI 8 f_bottoms), ((rf 14), o1 (rf 17) f_E_size_68 f_E_leftTop_76 f_E_leftBottom_76 f_E_rightTop_76 f_E_rightBottom_76), ((rf 17), ai cI 64 f_E_terms_68)] H := hP
            have hD : va_D A [((rf 0), o7 rf f_hasSnapshot f_termListSize f_textSize), ((rf 1), ai cI 8 f_tops), ((rf 2), ai cI 8 f_bottoms), ((rf 14), o1 (rf 17) f_E_size_68 f_E_leftTop_76 f_E_leftBottom_76 f_E_rightTop_76 f_E_rightBottom_76), ((rf 17), ai cI 64 f_E_terms_68)] := hD
            refine lv_iload hx hb dX7_best_79 (lv_at hl 5 rfl) ?_
            refine lv_if_ne (tgt := 94) hx hb dX7_best_81 (by decide) (fun k => ?_) (fun k => ?_)
            · have hw := hw.1 k
              refine lv_iload hx hb dX7_best_94 (lv_at hl 5 rfl) ?_
              refine lv_iconst (v := (1 : Int32)) hx hb dX7_best_96 (by decide) ?_
              refine lv_isub hx hb dX7_best_97 ?_
              exact JOIN_98 f_tops f_bottoms f_E_size_68 f_E_leftTop_76 f_E_leftBottom_76 f_E_rightTop_76 f_E_rightBottom_76 f_E_terms_68 (v4 - (1 : Int32)) _ _ ls hw hP hD hS (lv_sub hl [1, 2, 0] rfl)
            · have hw := hw.2 k
              refine lv_aload_n hx hb dX7_best_84 rfl (lv_at hl 1 rfl) ?_
              refine lv_iload_n hx hb dX7_best_85 rfl (lv_at hl 3 rfl) ?_
              refine lv_aload hx hb dX7_best_86 (lv_at hl 0 rfl) ?_
              refine kcRI (wc := [((rf 0), o7 rf f_hasSnapshot f_termListSize f_textSize), ((rf 1), ai cI 8 f_tops), ((rf 2), ai cI 8 f_bottoms), ((rf 14), o1 (rf 17) f_E_size_68 f_E_leftTop_76 f_E_leftBottom_76 f_E_rightTop_76 f_E_rightBottom_76)]) hP [0, 1, 2, 3] rfl (fun hPc => oV (As := [.int v2, .ref (rf 14)]) (rest := []) C0 hK hN (c7_nearerSide l D cI cJ cN cR rf (rf 14) (rf 17) f_hasSnapshot f_termListSize f_textSize f_tops f_bottoms f_E_size_68 f_E_leftTop_76 f_E_leftBottom_76 f_E_rightTop_76 f_E_rightBottom_76 v2 _ hw) 2 gX7_best_X7_nearerSide rfl ⟨rfl, rfl⟩ nm7_nearerSide ⟨Nat.le_of_ble_eq_true rfl, Nat.le_of_ble_eq_true rfl⟩ (q0 := 0) rfl rfl rfl rfl hl.1 rfl (Nat.le_of_ble_eq_true rfl) dX7_best_88 ⟨Nat.le_of_ble_eq_true rfl, Nat.le_of_ble_eq_true rfl⟩ hPc) (fun r88 hw => ?_)
              refine lv_goto (tgt := 98) hx hb dX7_best_91 (by decide) ?_
              exact JOIN_98 f_tops f_bottoms f_E_size_68 f_E_leftTop_76 f_E_leftBottom_76 f_E_rightTop_76 f_E_rightBottom_76 f_E_terms_68 r88 _ _ ls hw hP hD hS (lv_sub hl [1, 2, 0] rfl)
          · have hw := hw.2 k
            refine lv_aload_n hx hb dX7_best_46 rfl (lv_at hl 0 rfl) ?_
            refine lv_iload_n hx hb dX7_best_47 rfl (lv_at hl 1 rfl) ?_
            refine lv_aload_n hx hb dX7_best_48 rfl (lv_at hl 0 rfl) ?_
            refine va_get (D := D) (ci := 7) (v := .ref (rf 1)) (C := RX7) (T := TX7) (N := 16) hx hb hts hi9 hown hK hP 0 rfl rfl 0 (by decide) g9 (fun _ h9 => h9) rfl dX7_best_49 ?_
            refine lv_iload_n hx hb dX7_best_52 rfl (lv_at hl 2 rfl) ?_
            obtain ⟨hin, hw⟩ := hw
            refine va_iald hx hb hK hP 1 0 rfl rfl hin dX7_best_53 ?_
            refine lv_i2l hx hb dX7_best_54 rfl ?_
            refine lv_aload_n hx hb dX7_best_55 rfl (lv_at hl 0 rfl) ?_
            refine va_get (D := D) (ci := 7) (v := .ref (rf 2)) (C := RX7) (T := TX7) (N := 16) hx hb hts hi9 hown hK hP 0 rfl rfl 1 (by decide) g13 (fun _ h9 => h9) rfl dX7_best_56 ?_
            refine lv_iload_n hx hb dX7_best_59 rfl (lv_at hl 2 rfl) ?_
            obtain ⟨hin, hw⟩ := hw
            refine va_iald hx hb hK hP 2 0 rfl rfl hin dX7_best_60 ?_
            refine lv_i2l hx hb dX7_best_61 rfl ?_
            refine kcI (wc := [((rf 0), o7 rf f_hasSnapshot f_termListSize f_textSize), ((rf 1), ai cI 8 f_tops), ((rf 2), ai cI 8 f_bottoms)]) (wr := [((rf 14), o1 (rf 17) f_E_size f_E_leftTop f_E_leftBottom f_E_rightTop f_E_rightBottom), ((rf 17), ai cI 64 f_E_terms)]) hP hD hS hA [0, 1, 2] [3, 4] rfl rfl ⟨rfl, rfl, by decide⟩ (fun hPc hDc => rV (As := [.int v1, .long ((f_tops v2.toNatClampNeg).toInt64), .long ((f_bottoms v2.toNatClampNeg).toInt64)]) (rest := []) C0 hK hN (c7_store l D cI cJ cN cR rf H0.size f_hasSnapshot f_termListSize f_textSize f_tops f_bottoms v1 ((f_tops v2.toNatClampNeg).toInt64) ((f_bottoms v2.toNatClampNeg).toInt64) _ hw) 3 gX7_best_X7_store rfl ⟨rfl, rfl⟩ nm7_store ⟨Nat.le_of_ble_eq_true rfl, Nat.le_of_ble_eq_true rfl⟩ (q0 := 0) rfl rfl rfl rfl hl.1 rfl (Nat.le_of_ble_eq_true rfl) dX7_best_62 ⟨Nat.le_of_ble_eq_true rfl, Nat.le_of_ble_eq_true rfl⟩ hPc hDc) (fun r62 u62 H locs hw hP hD hS => ?_)
            obtain ⟨f_tops_62, f_bottoms_62⟩ := u62
            dsimp only at hw
            have hP : va_P D vwCl [((rf 14), o1 (rf 17) f_E_size f_E_leftTop f_E_leftBottom f_E_rightTop f_E_rightBottom), ((rf 17), ai cI 64 f_E_terms), ((rf 0), o7 rf f_hasSnapshot f_termListSize f_textSize), ((rf 1), ai cI 8 f_tops_62), ((rf 2), ai cI 8 f_bottoms_62)] H := hP
            have hD : va_D A [((rf 14), o1 (rf 17) f_E_size f_E_leftTop f_E_leftBottom f_E_rightTop f_E_rightBottom), ((rf 17), ai cI 64 f_E_terms), ((rf 0), o7 rf f_hasSnapshot f_termListSize f_textSize), ((rf 1), ai cI 8 f_tops_62), ((rf 2), ai cI 8 f_bottoms_62)] := hD
            obtain ⟨hP, hD⟩ := k_sub (ws' := [((rf 0), o7 rf f_hasSnapshot f_termListSize f_textSize), ((rf 1), ai cI 8 f_tops_62), ((rf 2), ai cI 8 f_bottoms_62), ((rf 14), o1 (rf 17) f_E_size f_E_leftTop f_E_leftBottom f_E_rightTop f_E_rightBottom), ((rf 17), ai cI 64 f_E_terms)]) hP hD [2, 3, 4, 0, 1] rfl rfl
            exact RET _ _ _ (f_tops_62, f_bottoms_62, f_E_size, f_E_leftTop, f_E_leftBottom, f_E_rightTop, f_E_rightBottom, f_E_terms) _ _ hw hP hD hS dX7_best_65
        · have hw := hw.2 k
          refine lv_iconst (v := (-1 : Int32)) hx hb dX7_best_34 (by decide) ?_
          exact RET _ _ _ (f_tops, f_bottoms, f_E_size, f_E_leftTop, f_E_leftBottom, f_E_rightTop, f_E_rightBottom, f_E_terms) _ _ hw hP hD hS dX7_best_35
abbrev rm7_simplestBetween : Room := { frames := 3, cells := 0, slots := 0, locals := 84 }
theorem nm7_simplestBetween : kNm yX7_simplestBetween 3 := by decide +kernel
set_option maxHeartbeats 4000000 in
set_option maxRecDepth 100000 in
theorem c7_simplestBetween (l : Launch) (D : va_G) (cI cJ cN cR : ClassId) (rf : Nat → Nat) (sz : Nat) (f_hasSnapshot : Int32) (f_termListSize : Int32) (f_textSize : Int32) (f_tops : (Nat → Int32)) (f_bottoms : (Nat → Int32)) (f_E_size : Int32) (f_E_leftTop : Int64) (f_E_leftBottom : Int64) (f_E_rightTop : Int64) (f_E_rightBottom : Int64) (f_E_terms : (Nat → Int32)) (v1 : Int32) (v2 : Int32) (v3 : Int32) (post : Int32 → (Nat → Int32) → (Nat → Int32) → Int32 → (Nat → Int32) → Prop) (hw : w7_simplestBetween f_tops f_bottoms f_E_size f_E_terms v1 v2 v3 post) : Met l yX7_simplestBetween wsX7_simplestBetween rm7_simplestBetween (kP D (kT cI cJ cN cR) sz [.ref (rf 0), .int v1, .int v2, .int v3] [((rf 0), o7 rf f_hasSnapshot f_termListSize f_textSize), ((rf 1), ai cI 8 f_tops), ((rf 2), ai cI 8 f_bottoms), ((rf 14), o1 (rf 17) f_E_size f_E_leftTop f_E_leftBottom f_E_rightTop f_E_rightBottom), ((rf 17), ai cI 64 f_E_terms)]) (kQi D [((rf 0), o7 rf f_hasSnapshot f_termListSize f_textSize), ((rf 1), ai cI 8 f_tops), ((rf 2), ai cI 8 f_bottoms), ((rf 14), o1 (rf 17) f_E_size f_E_leftTop f_E_leftBottom f_E_rightTop f_E_rightBottom), ((rf 17), ai cI 64 f_E_terms)] sz (fun (r : Int32) (u : (Nat → Int32) × (Nat → Int32) × Int32 × (Nat → Int32)) => post r u.1 u.2.1 u.2.2.1 u.2.2.2) (fun (u : (Nat → Int32) × (Nat → Int32) × Int32 × (Nat → Int32)) => [((rf 0), o7 rf f_hasSnapshot f_termListSize f_textSize), ((rf 1), ai cI 8 u.1), ((rf 2), ai cI 8 u.2.1), ((rf 14), o1 (rf 17) u.2.2.1 f_E_leftTop f_E_leftBottom f_E_rightTop f_E_rightBottom), ((rf 17), ai cI 64 u.2.2.2)])) 0 0 (va_A [((rf 0), o7 rf f_hasSnapshot f_termListSize f_textSize), ((rf 1), ai cI 8 f_tops), ((rf 2), ai cI 8 f_bottoms), ((rf 14), o1 (rf 17) f_E_size f_E_leftTop f_E_leftBottom f_E_rightTop f_E_rightBottom), ((rf 17), ai cI 64 f_E_terms)] sz) := by
  refine kMetI (cc := cX7_simplestBetween) (maxL := 4) (by decide +kernel) rfl (Nat.le_of_ble_eq_true rfl) ?_
  intro p e s m args below meth c H0 ls A Q C0 hK hN hP hD hS hA hl RET
  obtain ⟨hx, hb, hml, hown, hts⟩ := id C0
  have hl : lv_has ls 4 [(0, .ref (rf 0)), (1, .int v1), (2, .int v2), (3, .int v3)] := hl
  have g48 := hts (.fieldLink RX7 48 "SternBrocotExplorer" "expansion" "LSternBrocotExplorer$Expansion;") (by decide +kernel)
  have g9 := hts (.fieldLink RX7 9 "SternBrocotExplorer" "tops" "[I") (by decide +kernel)
  have g13 := hts (.fieldLink RX7 13 "SternBrocotExplorer" "bottoms" "[I") (by decide +kernel)
  have hi9 : ∀ w ∈ wsX70, w ∈ wsX7_simplestBetween := fun w h => List.mem_cons_of_mem _ (List.mem_append_left _ (List.mem_append_right _ h))
  unfold w7_simplestBetween at hw
  have hP : va_P D vwCl [((rf 0), o7 rf f_hasSnapshot f_termListSize f_textSize), ((rf 1), ai cI 8 f_tops), ((rf 2), ai cI 8 f_bottoms), ((rf 14), o1 (rf 17) f_E_size f_E_leftTop f_E_leftBottom f_E_rightTop f_E_rightBottom), ((rf 17), ai cI 64 f_E_terms)] H0 := hP
  refine lv_iload_n hx hb dX7_simplestBetween_0 rfl (lv_at hl 1 rfl) ?_
  refine kcRI (wc := []) hP [] rfl (fun hPc => oS (As := [.int v1]) (rest := []) C0 hK hN (c7_isRegister l D cI cJ cN cR   v1 _ hw) 1 gX7_simplestBetween_X7_isRegister rfl ⟨rfl, rfl⟩ nm7_isRegister ⟨Nat.le_of_ble_eq_true rfl, Nat.le_of_ble_eq_true rfl⟩ rfl hl.1 rfl (Nat.le_of_ble_eq_true rfl) dX7_simplestBetween_1 ⟨Nat.le_of_ble_eq_true rfl, Nat.le_of_ble_eq_true rfl⟩ hPc) (fun r1 hw => ?_)
  obtain ⟨nb1, hw⟩ := hw
  refine lv_if_eq (tgt := 21) hx hb dX7_simplestBetween_4 (by decide) (fun k => ?_) (fun k => ?_)
  · have hw := hw.1 k
    refine lv_iconst (v := (-1 : Int32)) hx hb dX7_simplestBetween_21 (by decide) ?_
    exact RET _ _ _ (f_tops, f_bottoms, f_E_size, f_E_terms) _ _ hw hP hD hS dX7_simplestBetween_22
  · have hw := hw.2 k
    refine lv_iload_n hx hb dX7_simplestBetween_7 rfl (lv_at hl 2 rfl) ?_
    refine kcRI (wc := []) hP [] rfl (fun hPc => oS (As := [.int v2]) (rest := []) C0 hK hN (c7_isRegister l D cI cJ cN cR   v2 _ hw) 1 gX7_simplestBetween_X7_isRegister rfl ⟨rfl, rfl⟩ nm7_isRegister ⟨Nat.le_of_ble_eq_true rfl, Nat.le_of_ble_eq_true rfl⟩ rfl hl.1 rfl (Nat.le_of_ble_eq_true rfl) dX7_simplestBetween_8 ⟨Nat.le_of_ble_eq_true rfl, Nat.le_of_ble_eq_true rfl⟩ hPc) (fun r8 hw => ?_)
    obtain ⟨nb8, hw⟩ := hw
    refine lv_if_eq (tgt := 21) hx hb dX7_simplestBetween_11 (by decide) (fun k => ?_) (fun k => ?_)
    · have hw := hw.1 k
      refine lv_iconst (v := (-1 : Int32)) hx hb dX7_simplestBetween_21 (by decide) ?_
      exact RET _ _ _ (f_tops, f_bottoms, f_E_size, f_E_terms) _ _ hw hP hD hS dX7_simplestBetween_22
    · have hw := hw.2 k
      refine lv_iload_n hx hb dX7_simplestBetween_14 rfl (lv_at hl 3 rfl) ?_
      refine kcRI (wc := []) hP [] rfl (fun hPc => oS (As := [.int v3]) (rest := []) C0 hK hN (c7_isRegister l D cI cJ cN cR   v3 _ hw) 1 gX7_simplestBetween_X7_isRegister rfl ⟨rfl, rfl⟩ nm7_isRegister ⟨Nat.le_of_ble_eq_true rfl, Nat.le_of_ble_eq_true rfl⟩ rfl hl.1 rfl (Nat.le_of_ble_eq_true rfl) dX7_simplestBetween_15 ⟨Nat.le_of_ble_eq_true rfl, Nat.le_of_ble_eq_true rfl⟩ hPc) (fun r15 hw => ?_)
      obtain ⟨nb15, hw⟩ := hw
      refine lv_if_ne (tgt := 23) hx hb dX7_simplestBetween_18 (by decide) (fun k => ?_) (fun k => ?_)
      · have hw := hw.1 k
        refine lv_aload_n hx hb dX7_simplestBetween_23 rfl (lv_at hl 0 rfl) ?_
        refine lv_iload_n hx hb dX7_simplestBetween_24 rfl (lv_at hl 2 rfl) ?_
        refine lv_iload_n hx hb dX7_simplestBetween_25 rfl (lv_at hl 3 rfl) ?_
        refine kcRL (wc := [((rf 0), o7 rf f_hasSnapshot f_termListSize f_textSize), ((rf 1), ai cI 8 f_tops), ((rf 2), ai cI 8 f_bottoms)]) hP [0, 1, 2] rfl (fun hPc => oV (As := [.int v2, .int v3]) (rest := []) C0 hK hN (c7_crossDifference l D cI cJ cN cR rf f_hasSnapshot f_termListSize f_textSize f_tops f_bottoms v2 v3 _ hw) 2 gX7_simplestBetween_X7_crossDifference rfl ⟨rfl, rfl⟩ nm7_crossDifference ⟨Nat.le_of_ble_eq_true rfl, Nat.le_of_ble_eq_true rfl⟩ (q0 := 0) rfl rfl rfl rfl hl.1 rfl (Nat.le_of_ble_eq_true rfl) dX7_simplestBetween_26 ⟨Nat.le_of_ble_eq_true rfl, Nat.le_of_ble_eq_true rfl⟩ hPc) (fun r26 hw => ?_)
        refine lv_lconst (v := (0 : Int64)) hx hb dX7_simplestBetween_29 (by decide) ?_
        refine W.lcmp hx hb dX7_simplestBetween_30 ?_
        refine lv_if_lt (tgt := 37) hx hb dX7_simplestBetween_31 (by decide) (fun k => ?_) (fun k => ?_)
        · have hw := hw.1 ((lg_cmp_lt _ _).mp k)
          refine lv_aload_n hx hb dX7_simplestBetween_37 rfl (lv_at hl 0 rfl) ?_
          refine va_get (D := D) (ci := 7) (v := .ref (rf 14)) (C := RX7) (T := TX7) (N := 16) hx hb hts hi9 hown hK hP 0 rfl rfl 13 (by decide) g48 (fun _ h9 => h9) rfl dX7_simplestBetween_38 ?_
          refine lv_aload_n hx hb dX7_simplestBetween_41 rfl (lv_at hl 0 rfl) ?_
          refine va_get (D := D) (ci := 7) (v := .ref (rf 1)) (C := RX7) (T := TX7) (N := 16) hx hb hts hi9 hown hK hP 0 rfl rfl 0 (by decide) g9 (fun _ h9 => h9) rfl dX7_simplestBetween_42 ?_
          refine lv_iload_n hx hb dX7_simplestBetween_45 rfl (lv_at hl 2 rfl) ?_
          obtain ⟨hin, hw⟩ := hw
          refine va_iald hx hb hK hP 1 0 rfl rfl hin dX7_simplestBetween_46 ?_
          refine lv_aload_n hx hb dX7_simplestBetween_47 rfl (lv_at hl 0 rfl) ?_
          refine va_get (D := D) (ci := 7) (v := .ref (rf 2)) (C := RX7) (T := TX7) (N := 16) hx hb hts hi9 hown hK hP 0 rfl rfl 1 (by decide) g13 (fun _ h9 => h9) rfl dX7_simplestBetween_48 ?_
          refine lv_iload_n hx hb dX7_simplestBetween_51 rfl (lv_at hl 2 rfl) ?_
          obtain ⟨hin, hw⟩ := hw
          refine va_iald hx hb hK hP 2 0 rfl rfl hin dX7_simplestBetween_52 ?_
          refine lv_aload_n hx hb dX7_simplestBetween_53 rfl (lv_at hl 0 rfl) ?_
          refine va_get (D := D) (ci := 7) (v := .ref (rf 1)) (C := RX7) (T := TX7) (N := 16) hx hb hts hi9 hown hK hP 0 rfl rfl 0 (by decide) g9 (fun _ h9 => h9) rfl dX7_simplestBetween_54 ?_
          refine lv_iload_n hx hb dX7_simplestBetween_57 rfl (lv_at hl 3 rfl) ?_
          obtain ⟨hin, hw⟩ := hw
          refine va_iald hx hb hK hP 1 0 rfl rfl hin dX7_simplestBetween_58 ?_
          refine lv_aload_n hx hb dX7_simplestBetween_59 rfl (lv_at hl 0 rfl) ?_
          refine va_get (D := D) (ci := 7) (v := .ref (rf 2)) (C := RX7) (T := TX7) (N := 16) hx hb hts hi9 hown hK hP 0 rfl rfl 1 (by decide) g13 (fun _ h9 => h9) rfl dX7_simplestBetween_60 ?_
          refine lv_iload_n hx hb dX7_simplestBetween_63 rfl (lv_at hl 3 rfl) ?_
          obtain ⟨hin, hw⟩ := hw
          refine va_iald hx hb hK hP 2 0 rfl rfl hin dX7_simplestBetween_64 ?_
          refine kcV (wc := [((rf 14), o1 (rf 17) f_E_size f_E_leftTop f_E_leftBottom f_E_rightTop f_E_rightBottom), ((rf 17), ai cI 64 f_E_terms)]) (wr := [((rf 0), o7 rf f_hasSnapshot f_termListSize f_textSize), ((rf 1), ai cI 8 f_tops), ((rf 2), ai cI 8 f_bottoms)]) hP hD hS hA [3, 4] [0, 1, 2] rfl rfl ⟨rfl, rfl, by decide⟩ (fun hPc hDc => rV (As := [.int (f_tops v2.toNatClampNeg), .int (f_bottoms v2.toNatClampNeg), .int (f_tops v3.toNatClampNeg), .int (f_bottoms v3.toNatClampNeg)]) (rest := []) C0 hK hN (c1_becomeSimplestBetween l D cI cJ cN cR (rf 14) (rf 17) H0.size f_E_size f_E_leftTop f_E_leftBottom f_E_rightTop f_E_rightBottom f_E_terms (f_tops v2.toNatClampNeg) (f_bottoms v2.toNatClampNeg) (f_tops v3.toNatClampNeg) (f_bottoms v3.toNatClampNeg) _ hw) 4 gX7_simplestBetween_X1_becomeSimplestBetween rfl ⟨rfl, rfl⟩ nm1_becomeSimplestBetween ⟨Nat.le_of_ble_eq_true rfl, Nat.le_of_ble_eq_true rfl⟩ (q0 := 0) rfl rfl rfl rfl hl.1 rfl (Nat.le_of_ble_eq_true rfl) dX7_simplestBetween_65 ⟨Nat.le_of_ble_eq_true rfl, Nat.le_of_ble_eq_true rfl⟩ hPc hDc) (fun u65 H locs hw hP hD hS => ?_)
          obtain ⟨f_E_size_65, f_E_terms_65⟩ := u65
          dsimp only at hw
          have hP : va_P D vwCl [((rf 0), o7 rf f_hasSnapshot f_termListSize f_textSize), ((rf 1), ai cI 8 f_tops), ((rf 2), ai cI 8 f_bottoms), ((rf 14), o1 (rf 17) f_E_size_65 f_E_leftTop f_E_leftBottom f_E_rightTop f_E_rightBottom), ((rf 17), ai cI 64 f_E_terms_65)] H := hP
          have hD : va_D A [((rf 0), o7 rf f_hasSnapshot f_termListSize f_textSize), ((rf 1), ai cI 8 f_tops), ((rf 2), ai cI 8 f_bottoms), ((rf 14), o1 (rf 17) f_E_size_65 f_E_leftTop f_E_leftBottom f_E_rightTop f_E_rightBottom), ((rf 17), ai cI 64 f_E_terms_65)] := hD
          refine lv_aload_n hx hb dX7_simplestBetween_68 rfl (lv_at hl 0 rfl) ?_
          refine lv_iload_n hx hb dX7_simplestBetween_69 rfl (lv_at hl 1 rfl) ?_
          refine lv_aload_n hx hb dX7_simplestBetween_70 rfl (lv_at hl 0 rfl) ?_
          refine va_get (D := D) (ci := 7) (v := .ref (rf 14)) (C := RX7) (T := TX7) (N := 16) hx hb hts hi9 hown hK hP 0 rfl rfl 13 (by decide) g48 (fun _ h9 => h9) rfl dX7_simplestBetween_71 ?_
          refine lv_aload_n hx hb dX7_simplestBetween_74 rfl (lv_at hl 0 rfl) ?_
          refine va_get (D := D) (ci := 7) (v := .ref (rf 14)) (C := RX7) (T := TX7) (N := 16) hx hb hts hi9 hown hK hP 0 rfl rfl 13 (by decide) g48 (fun _ h9 => h9) rfl dX7_simplestBetween_75 ?_
          refine kcRI (wc := [((rf 14), o1 (rf 17) f_E_size_65 f_E_leftTop f_E_leftBottom f_E_rightTop f_E_rightBottom)]) hP [3] rfl (fun hPc => oV (As := []) (rest := [.ref (rf 14), .int v1, .ref (rf 0)]) C0 hK hN (c1_size l D cI cJ cN cR (rf 14) (rf 17) f_E_size_65 f_E_leftTop f_E_leftBottom f_E_rightTop f_E_rightBottom  _ hw) 0 gX7_simplestBetween_X1_size rfl ⟨rfl, rfl⟩ nm1_size ⟨Nat.le_of_ble_eq_true rfl, Nat.le_of_ble_eq_true rfl⟩ (q0 := 0) rfl rfl rfl rfl hl.1 rfl (Nat.le_of_ble_eq_true rfl) dX7_simplestBetween_78 ⟨Nat.le_of_ble_eq_true rfl, Nat.le_of_ble_eq_true rfl⟩ hPc) (fun r78 hw => ?_)
          refine lv_iconst (v := (1 : Int32)) hx hb dX7_simplestBetween_81 (by decide) ?_
          refine lv_isub hx hb dX7_simplestBetween_82 ?_
          refine kcI (wc := [((rf 0), o7 rf f_hasSnapshot f_termListSize f_textSize), ((rf 1), ai cI 8 f_tops), ((rf 2), ai cI 8 f_bottoms), ((rf 14), o1 (rf 17) f_E_size_65 f_E_leftTop f_E_leftBottom f_E_rightTop f_E_rightBottom), ((rf 17), ai cI 64 f_E_terms_65)]) (wr := []) hP hD hS hA [0, 1, 2, 3, 4] [] rfl rfl ⟨rfl, rfl, by decide⟩ (fun hPc hDc => rV (As := [.int v1, .ref (rf 14), .int (r78 - (1 : Int32))]) (rest := []) C0 hK hN (c7_storeConvergent l D cI cJ cN cR rf (rf 14) (rf 17) H.size f_hasSnapshot f_termListSize f_textSize f_tops f_bottoms f_E_size_65 f_E_leftTop f_E_leftBottom f_E_rightTop f_E_rightBottom f_E_terms_65 v1 (r78 - (1 : Int32)) _ hw) 3 gX7_simplestBetween_X7_storeConvergent rfl ⟨rfl, rfl⟩ nm7_storeConvergent ⟨Nat.le_of_ble_eq_true rfl, Nat.le_of_ble_eq_true rfl⟩ (q0 := 0) rfl rfl rfl rfl hl.1 rfl (Nat.le_of_ble_eq_true rfl) dX7_simplestBetween_83 ⟨Nat.le_of_ble_eq_true rfl, Nat.le_of_ble_eq_true rfl⟩ hPc hDc) (fun r83 u83 H locs hw hP hD hS => ?_)
          obtain ⟨f_tops_83, f_bottoms_83⟩ := u83
          dsimp only at hw
          have hP : va_P D vwCl [((rf 0), o7 rf f_hasSnapshot f_termListSize f_textSize), ((rf 1), ai cI 8 f_tops_83), ((rf 2), ai cI 8 f_bottoms_83), ((rf 14), o1 (rf 17) f_E_size_65 f_E_leftTop f_E_leftBottom f_E_rightTop f_E_rightBottom), ((rf 17), ai cI 64 f_E_terms_65)] H := hP
          have hD : va_D A [((rf 0), o7 rf f_hasSnapshot f_termListSize f_textSize), ((rf 1), ai cI 8 f_tops_83), ((rf 2), ai cI 8 f_bottoms_83), ((rf 14), o1 (rf 17) f_E_size_65 f_E_leftTop f_E_leftBottom f_E_rightTop f_E_rightBottom), ((rf 17), ai cI 64 f_E_terms_65)] := hD
          exact RET _ _ _ (f_tops_83, f_bottoms_83, f_E_size_65, f_E_terms_65) _ _ hw hP hD hS dX7_simplestBetween_86
        · have hw := hw.2 (fun h => k ((lg_cmp_lt _ _).mpr h))
          refine lv_bipush (v := (-2 : Int32)) hx hb dX7_simplestBetween_34 (by decide) ?_
          exact RET _ _ _ (f_tops, f_bottoms, f_E_size, f_E_terms) _ _ hw hP hD hS dX7_simplestBetween_36
      · have hw := hw.2 k
        refine lv_iconst (v := (-1 : Int32)) hx hb dX7_simplestBetween_21 (by decide) ?_
        exact RET _ _ _ (f_tops, f_bottoms, f_E_size, f_E_terms) _ _ hw hP hD hS dX7_simplestBetween_22
abbrev rm7_isBetween : Room := { frames := 0, cells := 0, slots := 0, locals := 0 }
theorem nm7_isBetween : kNm yX7_isBetween 4 := by decide +kernel
set_option maxHeartbeats 4000000 in
set_option maxRecDepth 100000 in
theorem c7_isBetween (l : Launch) (D : va_G) (cI cJ cN cR : ClassId) (rf : Nat → Nat) (f_hasSnapshot : Int32) (f_termListSize : Int32) (f_textSize : Int32) (f_tops : (Nat → Int32)) (f_bottoms : (Nat → Int32)) (v1 : Int32) (v2 : Int32) (v3 : Int32) (v4 : Int32) (post : Int32 → Prop) (hw : w7_isBetween f_tops f_bottoms v1 v2 v3 v4 post) : Met l yX7_isBetween wsX7_isBetween rm7_isBetween (kR D (kT cI cJ cN cR) [.ref (rf 0), .int v1, .int v2, .int v3, .int v4] [((rf 0), o7 rf f_hasSnapshot f_termListSize f_textSize), ((rf 1), ai cI 8 f_tops), ((rf 2), ai cI 8 f_bottoms)]) (vp_Si (fun (r : Int32) => narrow .boolean (.int r) = .int r ∧ post r)) 0 0 (fun _ => False) := by
  refine kMetRZ (cc := cX7_isBetween) (maxL := 5) (by decide +kernel) rfl (Nat.le_of_ble_eq_true rfl) ?_
  intro p e s m args below meth c H ls Q C0 hK hN hP hl RET
  obtain ⟨hx, hb, hml, hown, hts⟩ := id C0
  have hl : lv_has ls 5 [(0, .ref (rf 0)), (1, .int v1), (2, .int v2), (3, .int v3), (4, .int v4)] := hl
  have g9 := hts (.fieldLink RX7 9 "SternBrocotExplorer" "tops" "[I") (by decide +kernel)
  have g13 := hts (.fieldLink RX7 13 "SternBrocotExplorer" "bottoms" "[I") (by decide +kernel)
  have hi9 : ∀ w ∈ wsX70, w ∈ wsX7_isBetween := fun w h => List.mem_cons_of_mem _ (List.mem_append_right _ h)
  unfold w7_isBetween at hw
  refine lv_aload_n hx hb dX7_isBetween_0 rfl (lv_at hl 0 rfl) ?_
  refine va_get (D := D) (ci := 7) (v := .ref (rf 1)) (C := RX7) (T := TX7) (N := 16) hx hb hts hi9 hown hK hP 0 rfl rfl 0 (by decide) g9 (fun _ h9 => h9) rfl dX7_isBetween_1 ?_
  refine lv_iload_n hx hb dX7_isBetween_4 rfl (lv_at hl 1 rfl) ?_
  obtain ⟨hin, hw⟩ := hw
  refine va_iald hx hb hK hP 1 0 rfl rfl hin dX7_isBetween_5 ?_
  refine lv_i2l hx hb dX7_isBetween_6 rfl ?_
  refine lv_iload hx hb dX7_isBetween_7 (lv_at hl 4 rfl) ?_
  refine lv_i2l hx hb dX7_isBetween_9 rfl ?_
  refine lv_lmul hx hb dX7_isBetween_10 ?_
  refine lv_iload_n hx hb dX7_isBetween_11 rfl (lv_at hl 3 rfl) ?_
  refine lv_i2l hx hb dX7_isBetween_12 rfl ?_
  refine lv_aload_n hx hb dX7_isBetween_13 rfl (lv_at hl 0 rfl) ?_
  refine va_get (D := D) (ci := 7) (v := .ref (rf 2)) (C := RX7) (T := TX7) (N := 16) hx hb hts hi9 hown hK hP 0 rfl rfl 1 (by decide) g13 (fun _ h9 => h9) rfl dX7_isBetween_14 ?_
  refine lv_iload_n hx hb dX7_isBetween_17 rfl (lv_at hl 1 rfl) ?_
  obtain ⟨hin, hw⟩ := hw
  refine va_iald hx hb hK hP 2 0 rfl rfl hin dX7_isBetween_18 ?_
  refine lv_i2l hx hb dX7_isBetween_19 rfl ?_
  refine lv_lmul hx hb dX7_isBetween_20 ?_
  refine W.lcmp hx hb dX7_isBetween_21 ?_
  refine lv_if_ge (tgt := 54) hx hb dX7_isBetween_22 (by decide) (fun k => ?_) (fun k => ?_)
  · have hw := hw.1 ((lg_cmp_ge _ _).mp k)
    refine lv_iconst (v := (0 : Int32)) hx hb dX7_isBetween_54 (by decide) ?_
    exact RET _ _ _ rfl hw dX7_isBetween_55
  · have hw := hw.2 (fun h => k ((lg_cmp_ge _ _).mpr h))
    refine lv_iload_n hx hb dX7_isBetween_25 rfl (lv_at hl 3 rfl) ?_
    refine lv_i2l hx hb dX7_isBetween_26 rfl ?_
    refine lv_aload_n hx hb dX7_isBetween_27 rfl (lv_at hl 0 rfl) ?_
    refine va_get (D := D) (ci := 7) (v := .ref (rf 2)) (C := RX7) (T := TX7) (N := 16) hx hb hts hi9 hown hK hP 0 rfl rfl 1 (by decide) g13 (fun _ h9 => h9) rfl dX7_isBetween_28 ?_
    refine lv_iload_n hx hb dX7_isBetween_31 rfl (lv_at hl 2 rfl) ?_
    obtain ⟨hin, hw⟩ := hw
    refine va_iald hx hb hK hP 2 0 rfl rfl hin dX7_isBetween_32 ?_
    refine lv_i2l hx hb dX7_isBetween_33 rfl ?_
    refine lv_lmul hx hb dX7_isBetween_34 ?_
    refine lv_aload_n hx hb dX7_isBetween_35 rfl (lv_at hl 0 rfl) ?_
    refine va_get (D := D) (ci := 7) (v := .ref (rf 1)) (C := RX7) (T := TX7) (N := 16) hx hb hts hi9 hown hK hP 0 rfl rfl 0 (by decide) g9 (fun _ h9 => h9) rfl dX7_isBetween_36 ?_
    refine lv_iload_n hx hb dX7_isBetween_39 rfl (lv_at hl 2 rfl) ?_
    obtain ⟨hin, hw⟩ := hw
    refine va_iald hx hb hK hP 1 0 rfl rfl hin dX7_isBetween_40 ?_
    refine lv_i2l hx hb dX7_isBetween_41 rfl ?_
    refine lv_iload hx hb dX7_isBetween_42 (lv_at hl 4 rfl) ?_
    refine lv_i2l hx hb dX7_isBetween_44 rfl ?_
    refine lv_lmul hx hb dX7_isBetween_45 ?_
    refine W.lcmp hx hb dX7_isBetween_46 ?_
    refine lv_if_ge (tgt := 54) hx hb dX7_isBetween_47 (by decide) (fun k => ?_) (fun k => ?_)
    · have hw := hw.1 ((lg_cmp_ge _ _).mp k)
      refine lv_iconst (v := (0 : Int32)) hx hb dX7_isBetween_54 (by decide) ?_
      exact RET _ _ _ rfl hw dX7_isBetween_55
    · have hw := hw.2 (fun h => k ((lg_cmp_ge _ _).mpr h))
      refine lv_iconst (v := (1 : Int32)) hx hb dX7_isBetween_50 (by decide) ?_
      refine lv_goto (tgt := 55) hx hb dX7_isBetween_51 (by decide) ?_
      exact RET _ _ _ rfl hw dX7_isBetween_55
abbrev rm7_measureOf : Room := { frames := 3, cells := 0, slots := 0, locals := 64 }
theorem nm7_measureOf : kNm yX7_measureOf 3 := by decide +kernel
set_option maxHeartbeats 4000000 in
set_option maxRecDepth 100000 in
theorem c7_measureOf (l : Launch) (D : va_G) (cI cJ cN cR : ClassId) (rf : Nat → Nat) (sz : Nat) (f_hasSnapshot : Int32) (f_termListSize : Int32) (f_textSize : Int32) (f_E_size : Int32) (f_E_leftTop : Int64) (f_E_leftBottom : Int64) (f_E_rightTop : Int64) (f_E_rightBottom : Int64) (f_E_terms : (Nat → Int32)) (v1 : Int32) (v2 : Int32) (v3 : Int32) (post : Int32 → Int32 → (Nat → Int32) → Prop) (hw : w7_measureOf f_E_size f_E_terms v1 v2 v3 post) : Met l yX7_measureOf wsX7_measureOf rm7_measureOf (kP D (kT cI cJ cN cR) sz [.ref (rf 0), .int v1, .int v2, .int v3] [((rf 0), o7 rf f_hasSnapshot f_termListSize f_textSize), ((rf 14), o1 (rf 17) f_E_size f_E_leftTop f_E_leftBottom f_E_rightTop f_E_rightBottom), ((rf 17), ai cI 64 f_E_terms)]) (kQi D [((rf 0), o7 rf f_hasSnapshot f_termListSize f_textSize), ((rf 14), o1 (rf 17) f_E_size f_E_leftTop f_E_leftBottom f_E_rightTop f_E_rightBottom), ((rf 17), ai cI 64 f_E_terms)] sz (fun (r : Int32) (u : Int32 × (Nat → Int32)) => post r u.1 u.2) (fun (u : Int32 × (Nat → Int32)) => [((rf 0), o7 rf f_hasSnapshot f_termListSize f_textSize), ((rf 14), o1 (rf 17) u.1 f_E_leftTop f_E_leftBottom f_E_rightTop f_E_rightBottom), ((rf 17), ai cI 64 u.2)])) 0 0 (va_A [((rf 0), o7 rf f_hasSnapshot f_termListSize f_textSize), ((rf 14), o1 (rf 17) f_E_size f_E_leftTop f_E_leftBottom f_E_rightTop f_E_rightBottom), ((rf 17), ai cI 64 f_E_terms)] sz) := by
  refine kMetI (cc := cX7_measureOf) (maxL := 4) (by decide +kernel) rfl (Nat.le_of_ble_eq_true rfl) ?_
  intro p e s m args below meth c H0 ls A Q C0 hK hN hP hD hS hA hl RET
  obtain ⟨hx, hb, hml, hown, hts⟩ := id C0
  have hl : lv_has ls 4 [(0, .ref (rf 0)), (1, .int v1), (2, .int v2), (3, .int v3)] := hl
  have g48 := hts (.fieldLink RX7 48 "SternBrocotExplorer" "expansion" "LSternBrocotExplorer$Expansion;") (by decide +kernel)
  have hi9 : ∀ w ∈ wsX70, w ∈ wsX7_measureOf := fun w h => List.mem_cons_of_mem _ (List.mem_append_left _ (List.mem_append_right _ h))
  unfold w7_measureOf at hw
  have hP : va_P D vwCl [((rf 0), o7 rf f_hasSnapshot f_termListSize f_textSize), ((rf 14), o1 (rf 17) f_E_size f_E_leftTop f_E_leftBottom f_E_rightTop f_E_rightBottom), ((rf 17), ai cI 64 f_E_terms)] H0 := hP
  refine lv_aload_n hx hb dX7_measureOf_0 rfl (lv_at hl 0 rfl) ?_
  refine va_get (D := D) (ci := 7) (v := .ref (rf 14)) (C := RX7) (T := TX7) (N := 16) hx hb hts hi9 hown hK hP 0 rfl rfl 13 (by decide) g48 (fun _ h9 => h9) rfl dX7_measureOf_1 ?_
  refine lv_iload_n hx hb dX7_measureOf_4 rfl (lv_at hl 2 rfl) ?_
  refine lv_iload_n hx hb dX7_measureOf_5 rfl (lv_at hl 3 rfl) ?_
  refine kcV (wc := [((rf 14), o1 (rf 17) f_E_size f_E_leftTop f_E_leftBottom f_E_rightTop f_E_rightBottom), ((rf 17), ai cI 64 f_E_terms)]) (wr := [((rf 0), o7 rf f_hasSnapshot f_termListSize f_textSize)]) hP hD hS hA [1, 2] [0] rfl rfl ⟨rfl, rfl, by decide⟩ (fun hPc hDc => rV (As := [.int v2, .int v3]) (rest := []) C0 hK hN (c1_expand l D cI cJ cN cR (rf 14) (rf 17) H0.size f_E_size f_E_leftTop f_E_leftBottom f_E_rightTop f_E_rightBottom f_E_terms v2 v3 _ hw) 2 gX7_measureOf_X1_expand rfl ⟨rfl, rfl⟩ nm1_expand ⟨Nat.le_of_ble_eq_true rfl, Nat.le_of_ble_eq_true rfl⟩ (q0 := 0) rfl rfl rfl rfl hl.1 rfl (Nat.le_of_ble_eq_true rfl) dX7_measureOf_6 ⟨Nat.le_of_ble_eq_true rfl, Nat.le_of_ble_eq_true rfl⟩ hPc hDc) (fun u6 H locs hw hP hD hS => ?_)
  obtain ⟨f_E_size_6, f_E_terms_6⟩ := u6
  dsimp only at hw
  have hP : va_P D vwCl [((rf 0), o7 rf f_hasSnapshot f_termListSize f_textSize), ((rf 14), o1 (rf 17) f_E_size_6 f_E_leftTop f_E_leftBottom f_E_rightTop f_E_rightBottom), ((rf 17), ai cI 64 f_E_terms_6)] H := hP
  have hD : va_D A [((rf 0), o7 rf f_hasSnapshot f_termListSize f_textSize), ((rf 14), o1 (rf 17) f_E_size_6 f_E_leftTop f_E_leftBottom f_E_rightTop f_E_rightBottom), ((rf 17), ai cI 64 f_E_terms_6)] := hD
  refine lv_iload_n hx hb dX7_measureOf_9 rfl (lv_at hl 1 rfl) ?_
  by_cases ho : v1.toInt < 0 ∨ 3 < v1.toInt
  · have hw := hw.1 ho
    refine lv_tableOut (tgt := 62) hx hb dX7_measureOf_10 ho (by decide) ?_
    refine lv_aload_n hx hb dX7_measureOf_62 rfl (lv_at hl 0 rfl) ?_
    refine va_get (D := D) (ci := 7) (v := .ref (rf 14)) (C := RX7) (T := TX7) (N := 16) hx hb hts hi9 hown hK hP 0 rfl rfl 13 (by decide) g48 (fun _ h9 => h9) rfl dX7_measureOf_63 ?_
    refine kcRI (wc := [((rf 14), o1 (rf 17) f_E_size_6 f_E_leftTop f_E_leftBottom f_E_rightTop f_E_rightBottom)]) hP [1] rfl (fun hPc => oV (As := []) (rest := []) C0 hK hN (c1_size l D cI cJ cN cR (rf 14) (rf 17) f_E_size_6 f_E_leftTop f_E_leftBottom f_E_rightTop f_E_rightBottom  _ hw) 0 gX7_measureOf_X1_size rfl ⟨rfl, rfl⟩ nm1_size ⟨Nat.le_of_ble_eq_true rfl, Nat.le_of_ble_eq_true rfl⟩ (q0 := 0) rfl rfl rfl rfl hl.1 rfl (Nat.le_of_ble_eq_true rfl) dX7_measureOf_66 ⟨Nat.le_of_ble_eq_true rfl, Nat.le_of_ble_eq_true rfl⟩ hPc) (fun r66 hw => ?_)
    refine lv_ineg hx hb dX7_measureOf_69 ?_
    exact RET _ _ _ (f_E_size_6, f_E_terms_6) _ _ hw hP hD hS dX7_measureOf_70
  rcases (show v1.toInt = 0 ∨ v1.toInt = 1 ∨ v1.toInt = 2 ∨ v1.toInt = 3 by omega) with h9 | h9 | h9 | h9
  · have hw := hw.2.1 (Int32.toInt_inj.mp (h9.trans (by decide)))
    refine lv_tableIn (tgt := 40) hx hb dX7_measureOf_10 (by rw [h9]; decide) (by rw [h9]; decide) (by rw [h9]; rfl) (by decide) ?_
    refine lv_iload_n hx hb dX7_measureOf_40 rfl (lv_at hl 3 rfl) ?_
    exact RET _ _ _ (f_E_size_6, f_E_terms_6) _ _ hw hP hD hS dX7_measureOf_41
  · have hw := hw.2.2.1 (Int32.toInt_inj.mp (h9.trans (by decide)))
    refine lv_tableIn (tgt := 42) hx hb dX7_measureOf_10 (by rw [h9]; decide) (by rw [h9]; decide) (by rw [h9]; rfl) (by decide) ?_
    refine lv_iload_n hx hb dX7_measureOf_42 rfl (lv_at hl 2 rfl) ?_
    refine lv_iload_n hx hb dX7_measureOf_43 rfl (lv_at hl 3 rfl) ?_
    refine lv_iadd hx hb dX7_measureOf_44 ?_
    exact RET _ _ _ (f_E_size_6, f_E_terms_6) _ _ hw hP hD hS dX7_measureOf_45
  · have hw := hw.2.2.2.1 (Int32.toInt_inj.mp (h9.trans (by decide)))
    refine lv_tableIn (tgt := 46) hx hb dX7_measureOf_10 (by rw [h9]; decide) (by rw [h9]; decide) (by rw [h9]; rfl) (by decide) ?_
    refine lv_aload_n hx hb dX7_measureOf_46 rfl (lv_at hl 0 rfl) ?_
    refine va_get (D := D) (ci := 7) (v := .ref (rf 14)) (C := RX7) (T := TX7) (N := 16) hx hb hts hi9 hown hK hP 0 rfl rfl 13 (by decide) g48 (fun _ h9 => h9) rfl dX7_measureOf_47 ?_
    refine kcRI (wc := [((rf 14), o1 (rf 17) f_E_size_6 f_E_leftTop f_E_leftBottom f_E_rightTop f_E_rightBottom), ((rf 17), ai cI 64 f_E_terms_6)]) hP [1, 2] rfl (fun hPc => oV (As := []) (rest := []) C0 hK hN (c1_stepCount l D cI cJ cN cR (rf 14) (rf 17) f_E_size_6 f_E_leftTop f_E_leftBottom f_E_rightTop f_E_rightBottom f_E_terms_6  _ hw) 0 gX7_measureOf_X1_stepCount rfl ⟨rfl, rfl⟩ nm1_stepCount ⟨Nat.le_of_ble_eq_true rfl, Nat.le_of_ble_eq_true rfl⟩ (q0 := 0) rfl rfl rfl rfl hl.1 rfl (Nat.le_of_ble_eq_true rfl) dX7_measureOf_50 ⟨Nat.le_of_ble_eq_true rfl, Nat.le_of_ble_eq_true rfl⟩ hPc) (fun r50 hw => ?_)
    exact RET _ _ _ (f_E_size_6, f_E_terms_6) _ _ hw hP hD hS dX7_measureOf_53
  · have hw := hw.2.2.2.2 (Int32.toInt_inj.mp (h9.trans (by decide)))
    refine lv_tableIn (tgt := 54) hx hb dX7_measureOf_10 (by rw [h9]; decide) (by rw [h9]; decide) (by rw [h9]; rfl) (by decide) ?_
    refine lv_aload_n hx hb dX7_measureOf_54 rfl (lv_at hl 0 rfl) ?_
    refine va_get (D := D) (ci := 7) (v := .ref (rf 14)) (C := RX7) (T := TX7) (N := 16) hx hb hts hi9 hown hK hP 0 rfl rfl 13 (by decide) g48 (fun _ h9 => h9) rfl dX7_measureOf_55 ?_
    refine kcRI (wc := [((rf 14), o1 (rf 17) f_E_size_6 f_E_leftTop f_E_leftBottom f_E_rightTop f_E_rightBottom), ((rf 17), ai cI 64 f_E_terms_6)]) hP [1, 2] rfl (fun hPc => oV (As := []) (rest := []) C0 hK hN (c1_greatest l D cI cJ cN cR (rf 14) (rf 17) f_E_size_6 f_E_leftTop f_E_leftBottom f_E_rightTop f_E_rightBottom f_E_terms_6  _ hw) 0 gX7_measureOf_X1_greatest rfl ⟨rfl, rfl⟩ nm1_greatest ⟨Nat.le_of_ble_eq_true rfl, Nat.le_of_ble_eq_true rfl⟩ (q0 := 0) rfl rfl rfl rfl hl.1 rfl (Nat.le_of_ble_eq_true rfl) dX7_measureOf_58 ⟨Nat.le_of_ble_eq_true rfl, Nat.le_of_ble_eq_true rfl⟩ hPc) (fun r58 hw => ?_)
    exact RET _ _ _ (f_E_size_6, f_E_terms_6) _ _ hw hP hD hS dX7_measureOf_61
abbrev rm7_collectRanked : Room := { frames := 4, cells := 0, slots := 0, locals := 87 }
theorem nm7_collectRanked : kNm yX7_collectRanked 3 := by decide +kernel
set_option maxHeartbeats 4000000 in
set_option maxRecDepth 100000 in
theorem c7_collectRanked (l : Launch) (D : va_G) (cI cJ cN cR : ClassId) (rf : Nat → Nat) (sz : Nat) (f_hasSnapshot : Int32) (f_termListSize : Int32) (f_textSize : Int32) (f_tops : (Nat → Int32)) (f_bottoms : (Nat → Int32)) (f_E_size : Int32) (f_E_leftTop : Int64) (f_E_leftBottom : Int64) (f_E_rightTop : Int64) (f_E_rightBottom : Int64) (f_R_size : Int32) (f_E_terms : (Nat → Int32)) (f_R_rankedTops : (Nat → Int32)) (f_R_rankedBottoms : (Nat → Int32)) (f_R_keys : (Nat → Int32)) (f_R_tally : (Nat → Int32)) (v1 : Int32) (v2 : Int32) (v3 : Int32) (post : Int32 → Int32 → (Nat → Int32) → (Nat → Int32) → (Nat → Int32) → (Nat → Int32) → (Nat → Int32) → Prop) (hw : w7_collectRanked f_tops f_bottoms f_E_size f_R_size f_E_terms f_R_rankedTops f_R_rankedBottoms f_R_keys f_R_tally v1 v2 v3 post) : Met l yX7_collectRanked wsX7_collectRanked rm7_collectRanked (kP D (kT cI cJ cN cR) sz [.ref (rf 0), .int v1, .int v2, .int v3] [((rf 0), o7 rf f_hasSnapshot f_termListSize f_textSize), ((rf 1), ai cI 8 f_tops), ((rf 2), ai cI 8 f_bottoms), ((rf 14), o1 (rf 17) f_E_size f_E_leftTop f_E_leftBottom f_E_rightTop f_E_rightBottom), ((rf 16), o4 (rf 19) (rf 20) (rf 21) (rf 22) f_R_size), ((rf 17), ai cI 64 f_E_terms), ((rf 19), ai cI 720 f_R_rankedTops), ((rf 20), ai cI 720 f_R_rankedBottoms), ((rf 21), ai cI 720 f_R_keys), ((rf 22), ai cI 160 f_R_tally)]) (kQv D [((rf 0), o7 rf f_hasSnapshot f_termListSize f_textSize), ((rf 1), ai cI 8 f_tops), ((rf 2), ai cI 8 f_bottoms), ((rf 14), o1 (rf 17) f_E_size f_E_leftTop f_E_leftBottom f_E_rightTop f_E_rightBottom), ((rf 16), o4 (rf 19) (rf 20) (rf 21) (rf 22) f_R_size), ((rf 17), ai cI 64 f_E_terms), ((rf 19), ai cI 720 f_R_rankedTops), ((rf 20), ai cI 720 f_R_rankedBottoms), ((rf 21), ai cI 720 f_R_keys), ((rf 22), ai cI 160 f_R_tally)] sz (fun (u : Int32 × Int32 × (Nat → Int32) × (Nat → Int32) × (Nat → Int32) × (Nat → Int32) × (Nat → Int32)) => post u.1 u.2.1 u.2.2.1 u.2.2.2.1 u.2.2.2.2.1 u.2.2.2.2.2.1 u.2.2.2.2.2.2) (fun (u : Int32 × Int32 × (Nat → Int32) × (Nat → Int32) × (Nat → Int32) × (Nat → Int32) × (Nat → Int32)) => [((rf 0), o7 rf f_hasSnapshot f_termListSize f_textSize), ((rf 1), ai cI 8 f_tops), ((rf 2), ai cI 8 f_bottoms), ((rf 14), o1 (rf 17) u.1 f_E_leftTop f_E_leftBottom f_E_rightTop f_E_rightBottom), ((rf 16), o4 (rf 19) (rf 20) (rf 21) (rf 22) u.2.1), ((rf 17), ai cI 64 u.2.2.1), ((rf 19), ai cI 720 u.2.2.2.1), ((rf 20), ai cI 720 u.2.2.2.2.1), ((rf 21), ai cI 720 u.2.2.2.2.2.1), ((rf 22), ai cI 160 u.2.2.2.2.2.2)])) 0 0 (va_A [((rf 0), o7 rf f_hasSnapshot f_termListSize f_textSize), ((rf 1), ai cI 8 f_tops), ((rf 2), ai cI 8 f_bottoms), ((rf 14), o1 (rf 17) f_E_size f_E_leftTop f_E_leftBottom f_E_rightTop f_E_rightBottom), ((rf 16), o4 (rf 19) (rf 20) (rf 21) (rf 22) f_R_size), ((rf 17), ai cI 64 f_E_terms), ((rf 19), ai cI 720 f_R_rankedTops), ((rf 20), ai cI 720 f_R_rankedBottoms), ((rf 21), ai cI 720 f_R_keys), ((rf 22), ai cI 160 f_R_tally)] sz) := by
  refine kMetV (cc := cX7_collectRanked) (maxL := 6) (by decide +kernel) rfl (Nat.le_of_ble_eq_true rfl) ?_
  intro p e s m args below meth c H0 ls A Q C0 hK hN hP hD hS hA hl RET
  obtain ⟨hx, hb, hml, hown, hts⟩ := id C0
  have hl : lv_has ls 6 [(0, .ref (rf 0)), (1, .int v1), (2, .int v2), (3, .int v3)] := hl
  have g58 := hts (.fieldLink RX7 58 "SternBrocotExplorer" "ranking" "LSternBrocotExplorer$Ranking;") (by decide +kernel)
  have hi9 : ∀ w ∈ wsX70, w ∈ wsX7_collectRanked := fun w h => List.mem_cons_of_mem _ (List.mem_append_left _ (List.mem_append_left _ (List.mem_append_right _ h)))
  unfold w7_collectRanked at hw
  have hP : va_P D vwCl [((rf 0), o7 rf f_hasSnapshot f_termListSize f_textSize), ((rf 1), ai cI 8 f_tops), ((rf 2), ai cI 8 f_bottoms), ((rf 14), o1 (rf 17) f_E_size f_E_leftTop f_E_leftBottom f_E_rightTop f_E_rightBottom), ((rf 16), o4 (rf 19) (rf 20) (rf 21) (rf 22) f_R_size), ((rf 17), ai cI 64 f_E_terms), ((rf 19), ai cI 720 f_R_rankedTops), ((rf 20), ai cI 720 f_R_rankedBottoms), ((rf 21), ai cI 720 f_R_keys), ((rf 22), ai cI 160 f_R_tally)] H0 := hP
  refine lv_aload_n hx hb dX7_collectRanked_0 rfl (lv_at hl 0 rfl) ?_
  refine va_get (D := D) (ci := 7) (v := .ref (rf 16)) (C := RX7) (T := TX7) (N := 16) hx hb hts hi9 hown hK hP 0 rfl rfl 15 (by decide) g58 (fun _ h9 => h9) rfl dX7_collectRanked_1 ?_
  refine kcV (wc := [((rf 16), o4 (rf 19) (rf 20) (rf 21) (rf 22) f_R_size), ((rf 22), ai cI 160 f_R_tally)]) (wr := [((rf 0), o7 rf f_hasSnapshot f_termListSize f_textSize), ((rf 1), ai cI 8 f_tops), ((rf 2), ai cI 8 f_bottoms), ((rf 14), o1 (rf 17) f_E_size f_E_leftTop f_E_leftBottom f_E_rightTop f_E_rightBottom), ((rf 17), ai cI 64 f_E_terms), ((rf 19), ai cI 720 f_R_rankedTops), ((rf 20), ai cI 720 f_R_rankedBottoms), ((rf 21), ai cI 720 f_R_keys)]) hP hD hS hA [4, 9] [0, 1, 2, 3, 5, 6, 7, 8] rfl rfl ⟨rfl, rfl, by decide⟩ (fun hPc hDc => rV (As := []) (rest := []) C0 hK hN (c4_clear l D cI cJ cN cR (rf 16) (rf 19) (rf 20) (rf 21) (rf 22) H0.size f_R_size f_R_tally  _ hw) 0 gX7_collectRanked_X4_clear rfl ⟨rfl, rfl⟩ nm4_clear ⟨Nat.le_of_ble_eq_true rfl, Nat.le_of_ble_eq_true rfl⟩ (q0 := 0) rfl rfl rfl rfl hl.1 rfl (Nat.le_of_ble_eq_true rfl) dX7_collectRanked_4 ⟨Nat.le_of_ble_eq_true rfl, Nat.le_of_ble_eq_true rfl⟩ hPc hDc) (fun u4 H locs hw hP hD hS => ?_)
  obtain ⟨f_R_size_4, f_R_tally_4⟩ := u4
  dsimp only at hw
  have hP : va_P D vwCl [((rf 0), o7 rf f_hasSnapshot f_termListSize f_textSize), ((rf 1), ai cI 8 f_tops), ((rf 2), ai cI 8 f_bottoms), ((rf 14), o1 (rf 17) f_E_size f_E_leftTop f_E_leftBottom f_E_rightTop f_E_rightBottom), ((rf 17), ai cI 64 f_E_terms), ((rf 19), ai cI 720 f_R_rankedTops), ((rf 20), ai cI 720 f_R_rankedBottoms), ((rf 21), ai cI 720 f_R_keys), ((rf 16), o4 (rf 19) (rf 20) (rf 21) (rf 22) f_R_size_4), ((rf 22), ai cI 160 f_R_tally_4)] H := hP
  have hD : va_D A [((rf 0), o7 rf f_hasSnapshot f_termListSize f_textSize), ((rf 1), ai cI 8 f_tops), ((rf 2), ai cI 8 f_bottoms), ((rf 14), o1 (rf 17) f_E_size f_E_leftTop f_E_leftBottom f_E_rightTop f_E_rightBottom), ((rf 17), ai cI 64 f_E_terms), ((rf 19), ai cI 720 f_R_rankedTops), ((rf 20), ai cI 720 f_R_rankedBottoms), ((rf 21), ai cI 720 f_R_keys), ((rf 16), o4 (rf 19) (rf 20) (rf 21) (rf 22) f_R_size_4), ((rf 22), ai cI 160 f_R_tally_4)] := hD
  refine lv_iconst (v := (1 : Int32)) hx hb dX7_collectRanked_7 (by decide) ?_
  refine lv_istore (lv' := [(4, .int (1 : Int32)), (0, .ref (rf 0)), (1, .int v1), (2, .int v2), (3, .int v3)]) hx hb dX7_collectRanked_8 hl (by decide) rfl (fun ls hl => ?_)
  obtain ⟨n10, hw⟩ := hw
  have LOOP_10 : ∀ (n10 : Nat) (v4 : Int32) (f_E_size : Int32) (f_R_size : Int32) (f_E_terms : (Nat → Int32)) (f_R_rankedTops : (Nat → Int32)) (f_R_rankedBottoms : (Nat → Int32)) (f_R_keys : (Nat → Int32)) (f_R_tally : (Nat → Int32)) (H : Heap) (locs : List Loc) (ls : Array Slot), w7_collectRanked_L10 f_tops f_bottoms v1 v2 v3 post n10 v4 f_E_size f_R_size f_E_terms f_R_rankedTops f_R_rankedBottoms f_R_keys f_R_tally → va_P D vwCl [((rf 0), o7 rf f_hasSnapshot f_termListSize f_textSize), ((rf 1), ai cI 8 f_tops), ((rf 2), ai cI 8 f_bottoms), ((rf 14), o1 (rf 17) f_E_size f_E_leftTop f_E_leftBottom f_E_rightTop f_E_rightBottom), ((rf 16), o4 (rf 19) (rf 20) (rf 21) (rf 22) f_R_size), ((rf 17), ai cI 64 f_E_terms), ((rf 19), ai cI 720 f_R_rankedTops), ((rf 20), ai cI 720 f_R_rankedBottoms), ((rf 21), ai cI 720 f_R_keys), ((rf 22), ai cI 160 f_R_tally)] H → va_D A [((rf 0), o7 rf f_hasSnapshot f_termListSize f_textSize), ((rf 1), ai cI 8 f_tops), ((rf 2), ai cI 8 f_bottoms), ((rf 14), o1 (rf 17) f_E_size f_E_leftTop f_E_leftBottom f_E_rightTop f_E_rightBottom), ((rf 16), o4 (rf 19) (rf 20) (rf 21) (rf 22) f_R_size), ((rf 17), ai cI 64 f_E_terms), ((rf 19), ai cI 720 f_R_rankedTops), ((rf 20), ai cI 720 f_R_rankedBottoms), ((rf 21), ai cI 720 f_R_keys), ((rf 22), ai cI 160 f_R_tally)] → va_S A H0 H locs → lv_has ls 6 [(0, .ref (rf 0)), (1, .int v1), (2, .int v2), (3, .int v3), (4, .int v4)] → W p l e rm7_collectRanked s m args below meth c H locs 0 0 Q (F0 m 10 ls []) := by
    clear hw hl hP hD hS
    intro n10
    induction n10 with
    | zero =>
      intro v4 f_E_size f_R_size f_E_terms f_R_rankedTops f_R_rankedBottoms f_R_keys f_R_tally H locs ls hw hP hD hS hl
      rw [w7_collectRanked_L10] at hw
      exact hw.elim
    | succ n10 ih10 =>
      intro v4 f_E_size f_R_size f_E_terms f_R_rankedTops f_R_rankedBottoms f_R_keys f_R_tally H locs ls hw hP hD hS hl
      rw [w7_collectRanked_L10] at hw
      refine lv_iload hx hb dX7_collectRanked_10 (lv_at hl 4 rfl) ?_
      refine lv_bipush (v := (24 : Int32)) hx hb dX7_collectRanked_12 (by decide) ?_
      refine lv_icmp_gt (tgt := 88) hx hb dX7_collectRanked_14 (by decide) (fun k => ?_) (fun k => ?_)
      · have hw := hw.1 k
        exact RET _ _ (f_E_size, f_R_size, f_E_terms, f_R_rankedTops, f_R_rankedBottoms, f_R_keys, f_R_tally) _ _ hw hP hD hS dX7_collectRanked_88
      · have hw := hw.2 k
        refine lv_iconst (v := (1 : Int32)) hx hb dX7_collectRanked_17 (by decide) ?_
        refine lv_istore (lv' := [(5, .int (1 : Int32)), (0, .ref (rf 0)), (1, .int v1), (2, .int v2), (3, .int v3), (4, .int v4)]) hx hb dX7_collectRanked_18 hl (by decide) rfl (fun ls hl => ?_)
        obtain ⟨n20, hw⟩ := hw
        have LOOP_20 : ∀ (n20 : Nat) (v5 : Int32) (f_E_size : Int32) (f_R_size : Int32) (f_E_terms : (Nat → Int32)) (f_R_rankedTops : (Nat → Int32)) (f_R_rankedBottoms : (Nat → Int32)) (f_R_keys : (Nat → Int32)) (f_R_tally : (Nat → Int32)) (H : Heap) (locs : List Loc) (ls : Array Slot), w7_collectRanked_L20 f_tops f_bottoms v1 v2 v3 v4 post (fun z0 z1 z2 z3 z4 z5 z6 z7 => w7_collectRanked_L10 f_tops f_bottoms v1 v2 v3 post n10 z0 z1 z2 z3 z4 z5 z6 z7) n20 v5 f_E_size f_R_size f_E_terms f_R_rankedTops f_R_rankedBottoms f_R_keys f_R_tally → va_P D vwCl [((rf 0), o7 rf f_hasSnapshot f_termListSize f_textSize), ((rf 1), ai cI 8 f_tops), ((rf 2), ai cI 8 f_bottoms), ((rf 14), o1 (rf 17) f_E_size f_E_leftTop f_E_leftBottom f_E_rightTop f_E_rightBottom), ((rf 16), o4 (rf 19) (rf 20) (rf 21) (rf 22) f_R_size), ((rf 17), ai cI 64 f_E_terms), ((rf 19), ai cI 720 f_R_rankedTops), ((rf 20), ai cI 720 f_R_rankedBottoms), ((rf 21), ai cI 720 f_R_keys), ((rf 22), ai cI 160 f_R_tally)] H → va_D A [((rf 0), o7 rf f_hasSnapshot f_termListSize f_textSize), ((rf 1), ai cI 8 f_tops), ((rf 2), ai cI 8 f_bottoms), ((rf 14), o1 (rf 17) f_E_size f_E_leftTop f_E_leftBottom f_E_rightTop f_E_rightBottom), ((rf 16), o4 (rf 19) (rf 20) (rf 21) (rf 22) f_R_size), ((rf 17), ai cI 64 f_E_terms), ((rf 19), ai cI 720 f_R_rankedTops), ((rf 20), ai cI 720 f_R_rankedBottoms), ((rf 21), ai cI 720 f_R_keys), ((rf 22), ai cI 160 f_R_tally)] → va_S A H0 H locs → lv_has ls 6 [(0, .ref (rf 0)), (1, .int v1), (2, .int v2), (3, .int v3), (4, .int v4), (5, .int v5)] → W p l e rm7_collectRanked s m args below meth c H locs 0 0 Q (F0 m 20 ls []) := by
          clear hw hl hP hD hS
          intro n20
          induction n20 with
          | zero =>
            intro v5 f_E_size f_R_size f_E_terms f_R_rankedTops f_R_rankedBottoms f_R_keys f_R_tally H locs ls hw hP hD hS hl
            rw [w7_collectRanked_L20] at hw
            exact hw.elim
          | succ n20 ih20 =>
            intro v5 f_E_size f_R_size f_E_terms f_R_rankedTops f_R_rankedBottoms f_R_keys f_R_tally H locs ls hw hP hD hS hl
            rw [w7_collectRanked_L20] at hw
            refine lv_iload hx hb dX7_collectRanked_20 (lv_at hl 5 rfl) ?_
            refine lv_iconst (v := (4 : Int32)) hx hb dX7_collectRanked_22 (by decide) ?_
            refine lv_iload hx hb dX7_collectRanked_23 (lv_at hl 4 rfl) ?_
            refine lv_imul hx hb dX7_collectRanked_25 ?_
            refine lv_icmp_ge (tgt := 82) hx hb dX7_collectRanked_26 (by decide) (fun k => ?_) (fun k => ?_)
            · have hw := hw.1 k
              obtain ⟨x82, ex82⟩ : ∃ y : Int32, y = (v4 + (1 : Int32)) := ⟨_, rfl⟩
              have hw := hw x82 ex82
              refine lv_iinc (v := x82) (lv' := [(4, .int x82), (0, .ref (rf 0)), (1, .int v1), (2, .int v2), (3, .int v3), (5, .int v5)]) hx hb dX7_collectRanked_82 hl (k := 4) rfl (by rw [ex82]; rfl) (by decide) rfl (fun ls hl => ?_)
              refine lv_goto (tgt := 10) hx hb dX7_collectRanked_85 (by decide) ?_
              exact ih10 x82 f_E_size f_R_size f_E_terms f_R_rankedTops f_R_rankedBottoms f_R_keys f_R_tally _ _ ls hw hP hD hS (lv_sub hl [1, 2, 3, 4, 0] rfl)
            · have hw := hw.2 k
              refine lv_aload_n hx hb dX7_collectRanked_29 rfl (lv_at hl 0 rfl) ?_
              refine lv_iload_n hx hb dX7_collectRanked_30 rfl (lv_at hl 1 rfl) ?_
              refine lv_iload_n hx hb dX7_collectRanked_31 rfl (lv_at hl 2 rfl) ?_
              refine lv_iload hx hb dX7_collectRanked_32 (lv_at hl 5 rfl) ?_
              refine lv_iload hx hb dX7_collectRanked_34 (lv_at hl 4 rfl) ?_
              refine kcRI (wc := [((rf 0), o7 rf f_hasSnapshot f_termListSize f_textSize), ((rf 1), ai cI 8 f_tops), ((rf 2), ai cI 8 f_bottoms)]) hP [0, 1, 2] rfl (fun hPc => oV (As := [.int v1, .int v2, .int v5, .int v4]) (rest := []) C0 hK hN (c7_isBetween l D cI cJ cN cR rf f_hasSnapshot f_termListSize f_textSize f_tops f_bottoms v1 v2 v5 v4 _ hw) 4 gX7_collectRanked_X7_isBetween rfl ⟨rfl, rfl⟩ nm7_isBetween ⟨Nat.le_of_ble_eq_true rfl, Nat.le_of_ble_eq_true rfl⟩ (q0 := 0) rfl rfl rfl rfl hl.1 rfl (Nat.le_of_ble_eq_true rfl) dX7_collectRanked_36 ⟨Nat.le_of_ble_eq_true rfl, Nat.le_of_ble_eq_true rfl⟩ hPc) (fun r36 hw => ?_)
              obtain ⟨nb36, hw⟩ := hw
              refine lv_if_eq (tgt := 76) hx hb dX7_collectRanked_39 (by decide) (fun k => ?_) (fun k => ?_)
              · have hw := hw.1 k
                obtain ⟨x76, ex76⟩ : ∃ y : Int32, y = (v5 + (1 : Int32)) := ⟨_, rfl⟩
                have hw := hw x76 ex76
                refine lv_iinc (v := x76) (lv' := [(5, .int x76), (0, .ref (rf 0)), (1, .int v1), (2, .int v2), (3, .int v3), (4, .int v4)]) hx hb dX7_collectRanked_76 hl (k := 5) rfl (by rw [ex76]; rfl) (by decide) rfl (fun ls hl => ?_)
                refine lv_goto (tgt := 20) hx hb dX7_collectRanked_79 (by decide) ?_
                exact ih20 x76 f_E_size f_R_size f_E_terms f_R_rankedTops f_R_rankedBottoms f_R_keys f_R_tally _ _ ls hw hP hD hS (lv_sub hl [1, 2, 3, 4, 5, 0] rfl)
              · have hw := hw.2 k
                refine lv_iload hx hb dX7_collectRanked_42 (lv_at hl 5 rfl) ?_
                refine lv_i2l hx hb dX7_collectRanked_44 rfl ?_
                refine lv_iload hx hb dX7_collectRanked_45 (lv_at hl 4 rfl) ?_
                refine lv_i2l hx hb dX7_collectRanked_47 rfl ?_
                refine kcRL (wc := []) hP [] rfl (fun hPc => oS (As := [.long v5.toInt64, .long v4.toInt64]) (rest := []) C0 hK hN (c7_gcd l D cI cJ cN cR   v5.toInt64 v4.toInt64 _ hw) 2 gX7_collectRanked_X7_gcd rfl ⟨rfl, rfl⟩ nm7_gcd ⟨Nat.le_of_ble_eq_true rfl, Nat.le_of_ble_eq_true rfl⟩ rfl hl.1 rfl (Nat.le_of_ble_eq_true rfl) dX7_collectRanked_48 ⟨Nat.le_of_ble_eq_true rfl, Nat.le_of_ble_eq_true rfl⟩ hPc) (fun r48 hw => ?_)
                refine lv_lconst (v := (1 : Int64)) hx hb dX7_collectRanked_51 (by decide) ?_
                refine W.lcmp hx hb dX7_collectRanked_52 ?_
                refine lv_if_ne (tgt := 76) hx hb dX7_collectRanked_53 (by decide) (fun k => ?_) (fun k => ?_)
                · have hw := hw.1 (fun h => k ((lg_cmp_eq _ _).mpr h))
                  obtain ⟨x76, ex76⟩ : ∃ y : Int32, y = (v5 + (1 : Int32)) := ⟨_, rfl⟩
                  have hw := hw x76 ex76
                  refine lv_iinc (v := x76) (lv' := [(5, .int x76), (0, .ref (rf 0)), (1, .int v1), (2, .int v2), (3, .int v3), (4, .int v4)]) hx hb dX7_collectRanked_76 hl (k := 5) rfl (by rw [ex76]; rfl) (by decide) rfl (fun ls hl => ?_)
                  refine lv_goto (tgt := 20) hx hb dX7_collectRanked_79 (by decide) ?_
                  exact ih20 x76 f_E_size f_R_size f_E_terms f_R_rankedTops f_R_rankedBottoms f_R_keys f_R_tally _ _ ls hw hP hD hS (lv_sub hl [1, 2, 3, 4, 5, 0] rfl)
                · have hw := hw.2 ((lg_cmp_eq _ _).mp k)
                  refine lv_aload_n hx hb dX7_collectRanked_56 rfl (lv_at hl 0 rfl) ?_
                  refine va_get (D := D) (ci := 7) (v := .ref (rf 16)) (C := RX7) (T := TX7) (N := 16) hx hb hts hi9 hown hK hP 0 rfl rfl 15 (by decide) g58 (fun _ h9 => h9) rfl dX7_collectRanked_57 ?_
                  refine lv_iload hx hb dX7_collectRanked_60 (lv_at hl 5 rfl) ?_
                  refine lv_iload hx hb dX7_collectRanked_62 (lv_at hl 4 rfl) ?_
                  refine lv_aload_n hx hb dX7_collectRanked_64 rfl (lv_at hl 0 rfl) ?_
                  refine lv_iload_n hx hb dX7_collectRanked_65 rfl (lv_at hl 3 rfl) ?_
                  refine lv_iload hx hb dX7_collectRanked_66 (lv_at hl 5 rfl) ?_
                  refine lv_iload hx hb dX7_collectRanked_68 (lv_at hl 4 rfl) ?_
                  refine kcI (wc := [((rf 0), o7 rf f_hasSnapshot f_termListSize f_textSize), ((rf 14), o1 (rf 17) f_E_size f_E_leftTop f_E_leftBottom f_E_rightTop f_E_rightBottom), ((rf 17), ai cI 64 f_E_terms)]) (wr := [((rf 1), ai cI 8 f_tops), ((rf 2), ai cI 8 f_bottoms), ((rf 16), o4 (rf 19) (rf 20) (rf 21) (rf 22) f_R_size), ((rf 19), ai cI 720 f_R_rankedTops), ((rf 20), ai cI 720 f_R_rankedBottoms), ((rf 21), ai cI 720 f_R_keys), ((rf 22), ai cI 160 f_R_tally)]) hP hD hS hA [0, 3, 5] [1, 2, 4, 6, 7, 8, 9] rfl rfl ⟨rfl, rfl, by decide⟩ (fun hPc hDc => rV (As := [.int v3, .int v5, .int v4]) (rest := [.int v4, .int v5, .ref (rf 16)]) C0 hK hN (c7_measureOf l D cI cJ cN cR rf H.size f_hasSnapshot f_termListSize f_textSize f_E_size f_E_leftTop f_E_leftBottom f_E_rightTop f_E_rightBottom f_E_terms v3 v5 v4 _ hw) 3 gX7_collectRanked_X7_measureOf rfl ⟨rfl, rfl⟩ nm7_measureOf ⟨Nat.le_of_ble_eq_true rfl, Nat.le_of_ble_eq_true rfl⟩ (q0 := 0) rfl rfl rfl rfl hl.1 rfl (Nat.le_of_ble_eq_true rfl) dX7_collectRanked_70 ⟨Nat.le_of_ble_eq_true rfl, Nat.le_of_ble_eq_true rfl⟩ hPc hDc) (fun r70 u70 H locs hw hP hD hS => ?_)
                  obtain ⟨f_E_size_70, f_E_terms_70⟩ := u70
                  dsimp only at hw
                  have hP : va_P D vwCl [((rf 1), ai cI 8 f_tops), ((rf 2), ai cI 8 f_bottoms), ((rf 16), o4 (rf 19) (rf 20) (rf 21) (rf 22) f_R_size), ((rf 19), ai cI 720 f_R_rankedTops), ((rf 20), ai cI 720 f_R_rankedBottoms), ((rf 21), ai cI 720 f_R_keys), ((rf 22), ai cI 160 f_R_tally), ((rf 0), o7 rf f_hasSnapshot f_termListSize f_textSize), ((rf 14), o1 (rf 17) f_E_size_70 f_E_leftTop f_E_leftBottom f_E_rightTop f_E_rightBottom), ((rf 17), ai cI 64 f_E_terms_70)] H := hP
                  have hD : va_D A [((rf 1), ai cI 8 f_tops), ((rf 2), ai cI 8 f_bottoms), ((rf 16), o4 (rf 19) (rf 20) (rf 21) (rf 22) f_R_size), ((rf 19), ai cI 720 f_R_rankedTops), ((rf 20), ai cI 720 f_R_rankedBottoms), ((rf 21), ai cI 720 f_R_keys), ((rf 22), ai cI 160 f_R_tally), ((rf 0), o7 rf f_hasSnapshot f_termListSize f_textSize), ((rf 14), o1 (rf 17) f_E_size_70 f_E_leftTop f_E_leftBottom f_E_rightTop f_E_rightBottom), ((rf 17), ai cI 64 f_E_terms_70)] := hD
                  refine kcV (wc := [((rf 16), o4 (rf 19) (rf 20) (rf 21) (rf 22) f_R_size), ((rf 19), ai cI 720 f_R_rankedTops), ((rf 20), ai cI 720 f_R_rankedBottoms), ((rf 21), ai cI 720 f_R_keys), ((rf 22), ai cI 160 f_R_tally)]) (wr := [((rf 1), ai cI 8 f_tops), ((rf 2), ai cI 8 f_bottoms), ((rf 0), o7 rf f_hasSnapshot f_termListSize f_textSize), ((rf 14), o1 (rf 17) f_E_size_70 f_E_leftTop f_E_leftBottom f_E_rightTop f_E_rightBottom), ((rf 17), ai cI 64 f_E_terms_70)]) hP hD hS hA [2, 3, 4, 5, 6] [0, 1, 7, 8, 9] rfl rfl ⟨rfl, rfl, by decide⟩ (fun hPc hDc => rV (As := [.int v5, .int v4, .int r70]) (rest := []) C0 hK hN (c4_add l D cI cJ cN cR (rf 16) (rf 19) (rf 20) (rf 21) (rf 22) H.size f_R_size f_R_rankedTops f_R_rankedBottoms f_R_keys f_R_tally v5 v4 r70 _ hw) 3 gX7_collectRanked_X4_add rfl ⟨rfl, rfl⟩ nm4_add ⟨Nat.le_of_ble_eq_true rfl, Nat.le_of_ble_eq_true rfl⟩ (q0 := 0) rfl rfl rfl rfl hl.1 rfl (Nat.le_of_ble_eq_true rfl) dX7_collectRanked_73 ⟨Nat.le_of_ble_eq_true rfl, Nat.le_of_ble_eq_true rfl⟩ hPc hDc) (fun u73 H locs hw hP hD hS => ?_)
                  obtain ⟨f_R_size_73, f_R_rankedTops_73, f_R_rankedBottoms_73, f_R_keys_73, f_R_tally_73⟩ := u73
                  dsimp only at hw
                  have hP : va_P D vwCl [((rf 1), ai cI 8 f_tops), ((rf 2), ai cI 8 f_bottoms), ((rf 0), o7 rf f_hasSnapshot f_termListSize f_textSize), ((rf 14), o1 (rf 17) f_E_size_70 f_E_leftTop f_E_leftBottom f_E_rightTop f_E_rightBottom), ((rf 17), ai cI 64 f_E_terms_70), ((rf 16), o4 (rf 19) (rf 20) (rf 21) (rf 22) f_R_size_73), ((rf 19), ai cI 720 f_R_rankedTops_73), ((rf 20), ai cI 720 f_R_rankedBottoms_73), ((rf 21), ai cI 720 f_R_keys_73), ((rf 22), ai cI 160 f_R_tally_73)] H := hP
                  have hD : va_D A [((rf 1), ai cI 8 f_tops), ((rf 2), ai cI 8 f_bottoms), ((rf 0), o7 rf f_hasSnapshot f_termListSize f_textSize), ((rf 14), o1 (rf 17) f_E_size_70 f_E_leftTop f_E_leftBottom f_E_rightTop f_E_rightBottom), ((rf 17), ai cI 64 f_E_terms_70), ((rf 16), o4 (rf 19) (rf 20) (rf 21) (rf 22) f_R_size_73), ((rf 19), ai cI 720 f_R_rankedTops_73), ((rf 20), ai cI 720 f_R_rankedBottoms_73), ((rf 21), ai cI 720 f_R_keys_73), ((rf 22), ai cI 160 f_R_tally_73)] := hD
                  obtain ⟨x76, ex76⟩ : ∃ y : Int32, y = (v5 + (1 : Int32)) := ⟨_, rfl⟩
                  have hw := hw x76 ex76
                  refine lv_iinc (v := x76) (lv' := [(5, .int x76), (0, .ref (rf 0)), (1, .int v1), (2, .int v2), (3, .int v3), (4, .int v4)]) hx hb dX7_collectRanked_76 hl (k := 5) rfl (by rw [ex76]; rfl) (by decide) rfl (fun ls hl => ?_)
                  refine lv_goto (tgt := 20) hx hb dX7_collectRanked_79 (by decide) ?_
                  obtain ⟨hP, hD⟩ := k_sub (ws' := [((rf 0), o7 rf f_hasSnapshot f_termListSize f_textSize), ((rf 1), ai cI 8 f_tops), ((rf 2), ai cI 8 f_bottoms), ((rf 14), o1 (rf 17) f_E_size_70 f_E_leftTop f_E_leftBottom f_E_rightTop f_E_rightBottom), ((rf 16), o4 (rf 19) (rf 20) (rf 21) (rf 22) f_R_size_73), ((rf 17), ai cI 64 f_E_terms_70), ((rf 19), ai cI 720 f_R_rankedTops_73), ((rf 20), ai cI 720 f_R_rankedBottoms_73), ((rf 21), ai cI 720 f_R_keys_73), ((rf 22), ai cI 160 f_R_tally_73)]) hP hD [2, 0, 1, 3, 5, 4, 6, 7, 8, 9] rfl rfl
                  exact ih20 x76 f_E_size_70 f_R_size_73 f_E_terms_70 f_R_rankedTops_73 f_R_rankedBottoms_73 f_R_keys_73 f_R_tally_73 _ _ ls hw hP hD hS (lv_sub hl [1, 2, 3, 4, 5, 0] rfl)
        exact LOOP_20 n20 (1 : Int32) f_E_size f_R_size f_E_terms f_R_rankedTops f_R_rankedBottoms f_R_keys f_R_tally _ _ ls hw hP hD hS (lv_sub hl [1, 2, 3, 4, 5, 0] rfl)
  obtain ⟨hP, hD⟩ := k_sub (ws' := [((rf 0), o7 rf f_hasSnapshot f_termListSize f_textSize), ((rf 1), ai cI 8 f_tops), ((rf 2), ai cI 8 f_bottoms), ((rf 14), o1 (rf 17) f_E_size f_E_leftTop f_E_leftBottom f_E_rightTop f_E_rightBottom), ((rf 16), o4 (rf 19) (rf 20) (rf 21) (rf 22) f_R_size_4), ((rf 17), ai cI 64 f_E_terms), ((rf 19), ai cI 720 f_R_rankedTops), ((rf 20), ai cI 720 f_R_rankedBottoms), ((rf 21), ai cI 720 f_R_keys), ((rf 22), ai cI 160 f_R_tally_4)]) hP hD [0, 1, 2, 3, 8, 4, 5, 6, 7, 9] rfl rfl
  exact LOOP_10 n10 (1 : Int32) f_E_size f_R_size_4 f_E_terms f_R_rankedTops f_R_rankedBottoms f_R_keys f_R_tally_4 _ _ ls hw hP hD hS (lv_sub hl [1, 2, 3, 4, 0] rfl)
abbrev rm7_rankedBetween : Room := { frames := 5, cells := 0, slots := 0, locals := 112 }
theorem nm7_rankedBetween : kNm yX7_rankedBetween 5 := by decide +kernel
set_option maxHeartbeats 4000000 in
set_option maxRecDepth 100000 in
theorem c7_rankedBetween (l : Launch) (D : va_G) (cI cJ cN cR : ClassId) (rf : Nat → Nat) (sz : Nat) (f_hasSnapshot : Int32) (f_termListSize : Int32) (f_textSize : Int32) (f_tops : (Nat → Int32)) (f_bottoms : (Nat → Int32)) (f_E_size : Int32) (f_E_leftTop : Int64) (f_E_leftBottom : Int64) (f_E_rightTop : Int64) (f_E_rightBottom : Int64) (f_R_size : Int32) (f_E_terms : (Nat → Int32)) (f_R_rankedTops : (Nat → Int32)) (f_R_rankedBottoms : (Nat → Int32)) (f_R_keys : (Nat → Int32)) (f_R_tally : (Nat → Int32)) (v1 : Int32) (v2 : Int32) (v3 : Int32) (v4 : Int32) (v5 : Int32) (post : Int32 → (Nat → Int32) → (Nat → Int32) → Int32 → Int32 → (Nat → Int32) → (Nat → Int32) → (Nat → Int32) → (Nat → Int32) → (Nat → Int32) → Prop) (hw : w7_rankedBetween f_tops f_bottoms f_E_size f_R_size f_E_terms f_R_rankedTops f_R_rankedBottoms f_R_keys f_R_tally v1 v2 v3 v4 v5 post) : Met l yX7_rankedBetween wsX7_rankedBetween rm7_rankedBetween (kP D (kT cI cJ cN cR) sz [.ref (rf 0), .int v1, .int v2, .int v3, .int v4, .int v5] [((rf 0), o7 rf f_hasSnapshot f_termListSize f_textSize), ((rf 1), ai cI 8 f_tops), ((rf 2), ai cI 8 f_bottoms), ((rf 14), o1 (rf 17) f_E_size f_E_leftTop f_E_leftBottom f_E_rightTop f_E_rightBottom), ((rf 16), o4 (rf 19) (rf 20) (rf 21) (rf 22) f_R_size), ((rf 17), ai cI 64 f_E_terms), ((rf 19), ai cI 720 f_R_rankedTops), ((rf 20), ai cI 720 f_R_rankedBottoms), ((rf 21), ai cI 720 f_R_keys), ((rf 22), ai cI 160 f_R_tally)]) (kQi D [((rf 0), o7 rf f_hasSnapshot f_termListSize f_textSize), ((rf 1), ai cI 8 f_tops), ((rf 2), ai cI 8 f_bottoms), ((rf 14), o1 (rf 17) f_E_size f_E_leftTop f_E_leftBottom f_E_rightTop f_E_rightBottom), ((rf 16), o4 (rf 19) (rf 20) (rf 21) (rf 22) f_R_size), ((rf 17), ai cI 64 f_E_terms), ((rf 19), ai cI 720 f_R_rankedTops), ((rf 20), ai cI 720 f_R_rankedBottoms), ((rf 21), ai cI 720 f_R_keys), ((rf 22), ai cI 160 f_R_tally)] sz (fun (r : Int32) (u : (Nat → Int32) × (Nat → Int32) × Int32 × Int32 × (Nat → Int32) × (Nat → Int32) × (Nat → Int32) × (Nat → Int32) × (Nat → Int32)) => post r u.1 u.2.1 u.2.2.1 u.2.2.2.1 u.2.2.2.2.1 u.2.2.2.2.2.1 u.2.2.2.2.2.2.1 u.2.2.2.2.2.2.2.1 u.2.2.2.2.2.2.2.2) (fun (u : (Nat → Int32) × (Nat → Int32) × Int32 × Int32 × (Nat → Int32) × (Nat → Int32) × (Nat → Int32) × (Nat → Int32) × (Nat → Int32)) => [((rf 0), o7 rf f_hasSnapshot f_termListSize f_textSize), ((rf 1), ai cI 8 u.1), ((rf 2), ai cI 8 u.2.1), ((rf 14), o1 (rf 17) u.2.2.1 f_E_leftTop f_E_leftBottom f_E_rightTop f_E_rightBottom), ((rf 16), o4 (rf 19) (rf 20) (rf 21) (rf 22) u.2.2.2.1), ((rf 17), ai cI 64 u.2.2.2.2.1), ((rf 19), ai cI 720 u.2.2.2.2.2.1), ((rf 20), ai cI 720 u.2.2.2.2.2.2.1), ((rf 21), ai cI 720 u.2.2.2.2.2.2.2.1), ((rf 22), ai cI 160 u.2.2.2.2.2.2.2.2)])) 0 0 (va_A [((rf 0), o7 rf f_hasSnapshot f_termListSize f_textSize), ((rf 1), ai cI 8 f_tops), ((rf 2), ai cI 8 f_bottoms), ((rf 14), o1 (rf 17) f_E_size f_E_leftTop f_E_leftBottom f_E_rightTop f_E_rightBottom), ((rf 16), o4 (rf 19) (rf 20) (rf 21) (rf 22) f_R_size), ((rf 17), ai cI 64 f_E_terms), ((rf 19), ai cI 720 f_R_rankedTops), ((rf 20), ai cI 720 f_R_rankedBottoms), ((rf 21), ai cI 720 f_R_keys), ((rf 22), ai cI 160 f_R_tally)] sz) := by
  refine kMetI (cc := cX7_rankedBetween) (maxL := 7) (by decide +kernel) rfl (Nat.le_of_ble_eq_true rfl) ?_
  intro p e s m args below meth c H0 ls A Q C0 hK hN hP hD hS hA hl RET
  obtain ⟨hx, hb, hml, hown, hts⟩ := id C0
  have hl : lv_has ls 7 [(0, .ref (rf 0)), (1, .int v1), (2, .int v2), (3, .int v3), (4, .int v4), (5, .int v5)] := hl
  have g58 := hts (.fieldLink RX7 58 "SternBrocotExplorer" "ranking" "LSternBrocotExplorer$Ranking;") (by decide +kernel)
  have hi9 : ∀ w ∈ wsX70, w ∈ wsX7_rankedBetween := fun w h => List.mem_cons_of_mem _ (List.mem_append_left _ (List.mem_append_left _ (List.mem_append_right _ h)))
  unfold w7_rankedBetween at hw
  have hP : va_P D vwCl [((rf 0), o7 rf f_hasSnapshot f_termListSize f_textSize), ((rf 1), ai cI 8 f_tops), ((rf 2), ai cI 8 f_bottoms), ((rf 14), o1 (rf 17) f_E_size f_E_leftTop f_E_leftBottom f_E_rightTop f_E_rightBottom), ((rf 16), o4 (rf 19) (rf 20) (rf 21) (rf 22) f_R_size), ((rf 17), ai cI 64 f_E_terms), ((rf 19), ai cI 720 f_R_rankedTops), ((rf 20), ai cI 720 f_R_rankedBottoms), ((rf 21), ai cI 720 f_R_keys), ((rf 22), ai cI 160 f_R_tally)] H0 := hP
  refine lv_iload_n hx hb dX7_rankedBetween_0 rfl (lv_at hl 1 rfl) ?_
  refine kcRI (wc := []) hP [] rfl (fun hPc => oS (As := [.int v1]) (rest := []) C0 hK hN (c7_isRegister l D cI cJ cN cR   v1 _ hw) 1 gX7_rankedBetween_X7_isRegister rfl ⟨rfl, rfl⟩ nm7_isRegister ⟨Nat.le_of_ble_eq_true rfl, Nat.le_of_ble_eq_true rfl⟩ rfl hl.1 rfl (Nat.le_of_ble_eq_true rfl) dX7_rankedBetween_1 ⟨Nat.le_of_ble_eq_true rfl, Nat.le_of_ble_eq_true rfl⟩ hPc) (fun r1 hw => ?_)
  obtain ⟨nb1, hw⟩ := hw
  refine lv_if_eq (tgt := 36) hx hb dX7_rankedBetween_4 (by decide) (fun k => ?_) (fun k => ?_)
  · have hw := hw.1 k
    refine lv_iconst (v := (-1 : Int32)) hx hb dX7_rankedBetween_36 (by decide) ?_
    exact RET _ _ _ (f_tops, f_bottoms, f_E_size, f_R_size, f_E_terms, f_R_rankedTops, f_R_rankedBottoms, f_R_keys, f_R_tally) _ _ hw hP hD hS dX7_rankedBetween_37
  · have hw := hw.2 k
    refine lv_iload_n hx hb dX7_rankedBetween_7 rfl (lv_at hl 2 rfl) ?_
    refine kcRI (wc := []) hP [] rfl (fun hPc => oS (As := [.int v2]) (rest := []) C0 hK hN (c7_isRegister l D cI cJ cN cR   v2 _ hw) 1 gX7_rankedBetween_X7_isRegister rfl ⟨rfl, rfl⟩ nm7_isRegister ⟨Nat.le_of_ble_eq_true rfl, Nat.le_of_ble_eq_true rfl⟩ rfl hl.1 rfl (Nat.le_of_ble_eq_true rfl) dX7_rankedBetween_8 ⟨Nat.le_of_ble_eq_true rfl, Nat.le_of_ble_eq_true rfl⟩ hPc) (fun r8 hw => ?_)
    obtain ⟨nb8, hw⟩ := hw
    refine lv_if_eq (tgt := 36) hx hb dX7_rankedBetween_11 (by decide) (fun k => ?_) (fun k => ?_)
    · have hw := hw.1 k
      refine lv_iconst (v := (-1 : Int32)) hx hb dX7_rankedBetween_36 (by decide) ?_
      exact RET _ _ _ (f_tops, f_bottoms, f_E_size, f_R_size, f_E_terms, f_R_rankedTops, f_R_rankedBottoms, f_R_keys, f_R_tally) _ _ hw hP hD hS dX7_rankedBetween_37
    · have hw := hw.2 k
      refine lv_iload_n hx hb dX7_rankedBetween_14 rfl (lv_at hl 3 rfl) ?_
      refine kcRI (wc := []) hP [] rfl (fun hPc => oS (As := [.int v3]) (rest := []) C0 hK hN (c7_isRegister l D cI cJ cN cR   v3 _ hw) 1 gX7_rankedBetween_X7_isRegister rfl ⟨rfl, rfl⟩ nm7_isRegister ⟨Nat.le_of_ble_eq_true rfl, Nat.le_of_ble_eq_true rfl⟩ rfl hl.1 rfl (Nat.le_of_ble_eq_true rfl) dX7_rankedBetween_15 ⟨Nat.le_of_ble_eq_true rfl, Nat.le_of_ble_eq_true rfl⟩ hPc) (fun r15 hw => ?_)
      obtain ⟨nb15, hw⟩ := hw
      refine lv_if_eq (tgt := 36) hx hb dX7_rankedBetween_18 (by decide) (fun k => ?_) (fun k => ?_)
      · have hw := hw.1 k
        refine lv_iconst (v := (-1 : Int32)) hx hb dX7_rankedBetween_36 (by decide) ?_
        exact RET _ _ _ (f_tops, f_bottoms, f_E_size, f_R_size, f_E_terms, f_R_rankedTops, f_R_rankedBottoms, f_R_keys, f_R_tally) _ _ hw hP hD hS dX7_rankedBetween_37
      · have hw := hw.2 k
        refine lv_iload hx hb dX7_rankedBetween_21 (lv_at hl 4 rfl) ?_
        refine lv_iconst (v := (0 : Int32)) hx hb dX7_rankedBetween_23 (by decide) ?_
        refine lv_iconst (v := (4 : Int32)) hx hb dX7_rankedBetween_24 (by decide) ?_
        refine kcRI (wc := []) hP [] rfl (fun hPc => oS (As := [.int v4, .int (0 : Int32), .int (4 : Int32)]) (rest := []) C0 hK hN (c7_isIn l D cI cJ cN cR   v4 (0 : Int32) (4 : Int32) _ hw) 3 gX7_rankedBetween_X7_isIn rfl ⟨rfl, rfl⟩ nm7_isIn ⟨Nat.le_of_ble_eq_true rfl, Nat.le_of_ble_eq_true rfl⟩ rfl hl.1 rfl (Nat.le_of_ble_eq_true rfl) dX7_rankedBetween_25 ⟨Nat.le_of_ble_eq_true rfl, Nat.le_of_ble_eq_true rfl⟩ hPc) (fun r25 hw => ?_)
        obtain ⟨nb25, hw⟩ := hw
        refine lv_if_eq (tgt := 36) hx hb dX7_rankedBetween_28 (by decide) (fun k => ?_) (fun k => ?_)
        · have hw := hw.1 k
          refine lv_iconst (v := (-1 : Int32)) hx hb dX7_rankedBetween_36 (by decide) ?_
          exact RET _ _ _ (f_tops, f_bottoms, f_E_size, f_R_size, f_E_terms, f_R_rankedTops, f_R_rankedBottoms, f_R_keys, f_R_tally) _ _ hw hP hD hS dX7_rankedBetween_37
        · have hw := hw.2 k
          refine lv_iload hx hb dX7_rankedBetween_31 (lv_at hl 5 rfl) ?_
          refine lv_if_ge (tgt := 38) hx hb dX7_rankedBetween_33 (by decide) (fun k => ?_) (fun k => ?_)
          · have hw := hw.1 k
            refine lv_aload_n hx hb dX7_rankedBetween_38 rfl (lv_at hl 0 rfl) ?_
            refine lv_iload_n hx hb dX7_rankedBetween_39 rfl (lv_at hl 2 rfl) ?_
            refine lv_iload_n hx hb dX7_rankedBetween_40 rfl (lv_at hl 3 rfl) ?_
            refine lv_iload hx hb dX7_rankedBetween_41 (lv_at hl 4 rfl) ?_
            refine kcV (wc := [((rf 0), o7 rf f_hasSnapshot f_termListSize f_textSize), ((rf 1), ai cI 8 f_tops), ((rf 2), ai cI 8 f_bottoms), ((rf 14), o1 (rf 17) f_E_size f_E_leftTop f_E_leftBottom f_E_rightTop f_E_rightBottom), ((rf 16), o4 (rf 19) (rf 20) (rf 21) (rf 22) f_R_size), ((rf 17), ai cI 64 f_E_terms), ((rf 19), ai cI 720 f_R_rankedTops), ((rf 20), ai cI 720 f_R_rankedBottoms), ((rf 21), ai cI 720 f_R_keys), ((rf 22), ai cI 160 f_R_tally)]) (wr := []) hP hD hS hA [0, 1, 2, 3, 4, 5, 6, 7, 8, 9] [] rfl rfl ⟨rfl, rfl, by decide⟩ (fun hPc hDc => rV (As := [.int v2, .int v3, .int v4]) (rest := []) C0 hK hN (c7_collectRanked l D cI cJ cN cR rf H0.size f_hasSnapshot f_termListSize f_textSize f_tops f_bottoms f_E_size f_E_leftTop f_E_leftBottom f_E_rightTop f_E_rightBottom f_R_size f_E_terms f_R_rankedTops f_R_rankedBottoms f_R_keys f_R_tally v2 v3 v4 _ hw) 3 gX7_rankedBetween_X7_collectRanked rfl ⟨rfl, rfl⟩ nm7_collectRanked ⟨Nat.le_of_ble_eq_true rfl, Nat.le_of_ble_eq_true rfl⟩ (q0 := 0) rfl rfl rfl rfl hl.1 rfl (Nat.le_of_ble_eq_true rfl) dX7_rankedBetween_43 ⟨Nat.le_of_ble_eq_true rfl, Nat.le_of_ble_eq_true rfl⟩ hPc hDc) (fun u43 H locs hw hP hD hS => ?_)
            obtain ⟨f_E_size_43, f_R_size_43, f_E_terms_43, f_R_rankedTops_43, f_R_rankedBottoms_43, f_R_keys_43, f_R_tally_43⟩ := u43
            dsimp only at hw
            have hP : va_P D vwCl [((rf 0), o7 rf f_hasSnapshot f_termListSize f_textSize), ((rf 1), ai cI 8 f_tops), ((rf 2), ai cI 8 f_bottoms), ((rf 14), o1 (rf 17) f_E_size_43 f_E_leftTop f_E_leftBottom f_E_rightTop f_E_rightBottom), ((rf 16), o4 (rf 19) (rf 20) (rf 21) (rf 22) f_R_size_43), ((rf 17), ai cI 64 f_E_terms_43), ((rf 19), ai cI 720 f_R_rankedTops_43), ((rf 20), ai cI 720 f_R_rankedBottoms_43), ((rf 21), ai cI 720 f_R_keys_43), ((rf 22), ai cI 160 f_R_tally_43)] H := hP
            have hD : va_D A [((rf 0), o7 rf f_hasSnapshot f_termListSize f_textSize), ((rf 1), ai cI 8 f_tops), ((rf 2), ai cI 8 f_bottoms), ((rf 14), o1 (rf 17) f_E_size_43 f_E_leftTop f_E_leftBottom f_E_rightTop f_E_rightBottom), ((rf 16), o4 (rf 19) (rf 20) (rf 21) (rf 22) f_R_size_43), ((rf 17), ai cI 64 f_E_terms_43), ((rf 19), ai cI 720 f_R_rankedTops_43), ((rf 20), ai cI 720 f_R_rankedBottoms_43), ((rf 21), ai cI 720 f_R_keys_43), ((rf 22), ai cI 160 f_R_tally_43)] := hD
            refine lv_iload hx hb dX7_rankedBetween_46 (lv_at hl 5 rfl) ?_
            refine lv_aload_n hx hb dX7_rankedBetween_48 rfl (lv_at hl 0 rfl) ?_
            refine va_get (D := D) (ci := 7) (v := .ref (rf 16)) (C := RX7) (T := TX7) (N := 16) hx hb hts hi9 hown hK hP 0 rfl rfl 15 (by decide) g58 (fun _ h9 => h9) rfl dX7_rankedBetween_49 ?_
            refine kcRI (wc := [((rf 16), o4 (rf 19) (rf 20) (rf 21) (rf 22) f_R_size_43)]) hP [4] rfl (fun hPc => oV (As := []) (rest := [.int v5]) C0 hK hN (c4_size l D cI cJ cN cR (rf 16) (rf 19) (rf 20) (rf 21) (rf 22) f_R_size_43  _ hw) 0 gX7_rankedBetween_X4_size rfl ⟨rfl, rfl⟩ nm4_size ⟨Nat.le_of_ble_eq_true rfl, Nat.le_of_ble_eq_true rfl⟩ (q0 := 0) rfl rfl rfl rfl hl.1 rfl (Nat.le_of_ble_eq_true rfl) dX7_rankedBetween_52 ⟨Nat.le_of_ble_eq_true rfl, Nat.le_of_ble_eq_true rfl⟩ hPc) (fun r52 hw => ?_)
            refine lv_icmp_lt (tgt := 61) hx hb dX7_rankedBetween_55 (by decide) (fun k => ?_) (fun k => ?_)
            · have hw := hw.1 k
              refine lv_aload_n hx hb dX7_rankedBetween_61 rfl (lv_at hl 0 rfl) ?_
              refine va_get (D := D) (ci := 7) (v := .ref (rf 16)) (C := RX7) (T := TX7) (N := 16) hx hb hts hi9 hown hK hP 0 rfl rfl 15 (by decide) g58 (fun _ h9 => h9) rfl dX7_rankedBetween_62 ?_
              refine lv_iload hx hb dX7_rankedBetween_65 (lv_at hl 5 rfl) ?_
              refine kcRI (wc := [((rf 16), o4 (rf 19) (rf 20) (rf 21) (rf 22) f_R_size_43), ((rf 21), ai cI 720 f_R_keys_43), ((rf 22), ai cI 160 f_R_tally_43)]) hP [4, 8, 9] rfl (fun hPc => oV (As := [.int v5]) (rest := []) C0 hK hN (c4_placeOf l D cI cJ cN cR (rf 16) (rf 19) (rf 20) (rf 21) (rf 22) f_R_size_43 f_R_keys_43 f_R_tally_43 v5 _ hw) 1 gX7_rankedBetween_X4_placeOf rfl ⟨rfl, rfl⟩ nm4_placeOf ⟨Nat.le_of_ble_eq_true rfl, Nat.le_of_ble_eq_true rfl⟩ (q0 := 0) rfl rfl rfl rfl hl.1 rfl (Nat.le_of_ble_eq_true rfl) dX7_rankedBetween_67 ⟨Nat.le_of_ble_eq_true rfl, Nat.le_of_ble_eq_true rfl⟩ hPc) (fun r67 hw => ?_)
              refine lv_istore (lv' := [(6, .int r67), (0, .ref (rf 0)), (1, .int v1), (2, .int v2), (3, .int v3), (4, .int v4), (5, .int v5)]) hx hb dX7_rankedBetween_70 hl (by decide) rfl (fun ls hl => ?_)
              refine lv_aload_n hx hb dX7_rankedBetween_72 rfl (lv_at hl 1 rfl) ?_
              refine lv_iload_n hx hb dX7_rankedBetween_73 rfl (lv_at hl 2 rfl) ?_
              refine lv_aload_n hx hb dX7_rankedBetween_74 rfl (lv_at hl 1 rfl) ?_
              refine va_get (D := D) (ci := 7) (v := .ref (rf 16)) (C := RX7) (T := TX7) (N := 16) hx hb hts hi9 hown hK hP 0 rfl rfl 15 (by decide) g58 (fun _ h9 => h9) rfl dX7_rankedBetween_75 ?_
              refine lv_iload hx hb dX7_rankedBetween_78 (lv_at hl 0 rfl) ?_
              refine kcRI (wc := [((rf 16), o4 (rf 19) (rf 20) (rf 21) (rf 22) f_R_size_43), ((rf 19), ai cI 720 f_R_rankedTops_43)]) hP [4, 6] rfl (fun hPc => oV (As := [.int r67]) (rest := [.int v1, .ref (rf 0)]) C0 hK hN (c4_topAt l D cI cJ cN cR (rf 16) (rf 19) (rf 20) (rf 21) (rf 22) f_R_size_43 f_R_rankedTops_43 r67 _ hw) 1 gX7_rankedBetween_X4_topAt rfl ⟨rfl, rfl⟩ nm4_topAt ⟨Nat.le_of_ble_eq_true rfl, Nat.le_of_ble_eq_true rfl⟩ (q0 := 0) rfl rfl rfl rfl hl.1 rfl (Nat.le_of_ble_eq_true rfl) dX7_rankedBetween_80 ⟨Nat.le_of_ble_eq_true rfl, Nat.le_of_ble_eq_true rfl⟩ hPc) (fun r80 hw => ?_)
              refine lv_i2l hx hb dX7_rankedBetween_83 rfl ?_
              refine lv_aload_n hx hb dX7_rankedBetween_84 rfl (lv_at hl 1 rfl) ?_
              refine va_get (D := D) (ci := 7) (v := .ref (rf 16)) (C := RX7) (T := TX7) (N := 16) hx hb hts hi9 hown hK hP 0 rfl rfl 15 (by decide) g58 (fun _ h9 => h9) rfl dX7_rankedBetween_85 ?_
              refine lv_iload hx hb dX7_rankedBetween_88 (lv_at hl 0 rfl) ?_
              refine kcRI (wc := [((rf 16), o4 (rf 19) (rf 20) (rf 21) (rf 22) f_R_size_43), ((rf 20), ai cI 720 f_R_rankedBottoms_43)]) hP [4, 7] rfl (fun hPc => oV (As := [.int r67]) (rest := [.long r80.toInt64, .int v1, .ref (rf 0)]) C0 hK hN (c4_bottomAt l D cI cJ cN cR (rf 16) (rf 19) (rf 20) (rf 21) (rf 22) f_R_size_43 f_R_rankedBottoms_43 r67 _ hw) 1 gX7_rankedBetween_X4_bottomAt rfl ⟨rfl, rfl⟩ nm4_bottomAt ⟨Nat.le_of_ble_eq_true rfl, Nat.le_of_ble_eq_true rfl⟩ (q0 := 0) rfl rfl rfl rfl hl.1 rfl (Nat.le_of_ble_eq_true rfl) dX7_rankedBetween_90 ⟨Nat.le_of_ble_eq_true rfl, Nat.le_of_ble_eq_true rfl⟩ hPc) (fun r90 hw => ?_)
              refine lv_i2l hx hb dX7_rankedBetween_93 rfl ?_
              refine kcI (wc := [((rf 0), o7 rf f_hasSnapshot f_termListSize f_textSize), ((rf 1), ai cI 8 f_tops), ((rf 2), ai cI 8 f_bottoms)]) (wr := [((rf 14), o1 (rf 17) f_E_size_43 f_E_leftTop f_E_leftBottom f_E_rightTop f_E_rightBottom), ((rf 16), o4 (rf 19) (rf 20) (rf 21) (rf 22) f_R_size_43), ((rf 17), ai cI 64 f_E_terms_43), ((rf 19), ai cI 720 f_R_rankedTops_43), ((rf 20), ai cI 720 f_R_rankedBottoms_43), ((rf 21), ai cI 720 f_R_keys_43), ((rf 22), ai cI 160 f_R_tally_43)]) hP hD hS hA [0, 1, 2] [3, 4, 5, 6, 7, 8, 9] rfl rfl ⟨rfl, rfl, by decide⟩ (fun hPc hDc => rV (As := [.int v1, .long r80.toInt64, .long r90.toInt64]) (rest := []) C0 hK hN (c7_store l D cI cJ cN cR rf H.size f_hasSnapshot f_termListSize f_textSize f_tops f_bottoms v1 r80.toInt64 r90.toInt64 _ hw) 3 gX7_rankedBetween_X7_store rfl ⟨rfl, rfl⟩ nm7_store ⟨Nat.le_of_ble_eq_true rfl, Nat.le_of_ble_eq_true rfl⟩ (q0 := 0) rfl rfl rfl rfl hl.1 rfl (Nat.le_of_ble_eq_true rfl) dX7_rankedBetween_94 ⟨Nat.le_of_ble_eq_true rfl, Nat.le_of_ble_eq_true rfl⟩ hPc hDc) (fun r94 u94 H locs hw hP hD hS => ?_)
              obtain ⟨f_tops_94, f_bottoms_94⟩ := u94
              dsimp only at hw
              have hP : va_P D vwCl [((rf 14), o1 (rf 17) f_E_size_43 f_E_leftTop f_E_leftBottom f_E_rightTop f_E_rightBottom), ((rf 16), o4 (rf 19) (rf 20) (rf 21) (rf 22) f_R_size_43), ((rf 17), ai cI 64 f_E_terms_43), ((rf 19), ai cI 720 f_R_rankedTops_43), ((rf 20), ai cI 720 f_R_rankedBottoms_43), ((rf 21), ai cI 720 f_R_keys_43), ((rf 22), ai cI 160 f_R_tally_43), ((rf 0), o7 rf f_hasSnapshot f_termListSize f_textSize), ((rf 1), ai cI 8 f_tops_94), ((rf 2), ai cI 8 f_bottoms_94)] H := hP
              have hD : va_D A [((rf 14), o1 (rf 17) f_E_size_43 f_E_leftTop f_E_leftBottom f_E_rightTop f_E_rightBottom), ((rf 16), o4 (rf 19) (rf 20) (rf 21) (rf 22) f_R_size_43), ((rf 17), ai cI 64 f_E_terms_43), ((rf 19), ai cI 720 f_R_rankedTops_43), ((rf 20), ai cI 720 f_R_rankedBottoms_43), ((rf 21), ai cI 720 f_R_keys_43), ((rf 22), ai cI 160 f_R_tally_43), ((rf 0), o7 rf f_hasSnapshot f_termListSize f_textSize), ((rf 1), ai cI 8 f_tops_94), ((rf 2), ai cI 8 f_bottoms_94)] := hD
              refine lv_pop hx hb dX7_rankedBetween_97 rfl ?_
              refine lv_aload_n hx hb dX7_rankedBetween_98 rfl (lv_at hl 1 rfl) ?_
              refine va_get (D := D) (ci := 7) (v := .ref (rf 16)) (C := RX7) (T := TX7) (N := 16) hx hb hts hi9 hown hK hP 7 rfl rfl 15 (by decide) g58 (fun _ h9 => h9) rfl dX7_rankedBetween_99 ?_
              refine kcRI (wc := [((rf 16), o4 (rf 19) (rf 20) (rf 21) (rf 22) f_R_size_43)]) hP [1] rfl (fun hPc => oV (As := []) (rest := []) C0 hK hN (c4_size l D cI cJ cN cR (rf 16) (rf 19) (rf 20) (rf 21) (rf 22) f_R_size_43  _ hw) 0 gX7_rankedBetween_X4_size rfl ⟨rfl, rfl⟩ nm4_size ⟨Nat.le_of_ble_eq_true rfl, Nat.le_of_ble_eq_true rfl⟩ (q0 := 0) rfl rfl rfl rfl hl.1 rfl (Nat.le_of_ble_eq_true rfl) dX7_rankedBetween_102 ⟨Nat.le_of_ble_eq_true rfl, Nat.le_of_ble_eq_true rfl⟩ hPc) (fun r102 hw => ?_)
              obtain ⟨hP, hD⟩ := k_sub (ws' := [((rf 0), o7 rf f_hasSnapshot f_termListSize f_textSize), ((rf 1), ai cI 8 f_tops_94), ((rf 2), ai cI 8 f_bottoms_94), ((rf 14), o1 (rf 17) f_E_size_43 f_E_leftTop f_E_leftBottom f_E_rightTop f_E_rightBottom), ((rf 16), o4 (rf 19) (rf 20) (rf 21) (rf 22) f_R_size_43), ((rf 17), ai cI 64 f_E_terms_43), ((rf 19), ai cI 720 f_R_rankedTops_43), ((rf 20), ai cI 720 f_R_rankedBottoms_43), ((rf 21), ai cI 720 f_R_keys_43), ((rf 22), ai cI 160 f_R_tally_43)]) hP hD [7, 8, 9, 0, 1, 2, 3, 4, 5, 6] rfl rfl
              exact RET _ _ _ (f_tops_94, f_bottoms_94, f_E_size_43, f_R_size_43, f_E_terms_43, f_R_rankedTops_43, f_R_rankedBottoms_43, f_R_keys_43, f_R_tally_43) _ _ hw hP hD hS dX7_rankedBetween_105
            · have hw := hw.2 k
              refine lv_bipush (v := (-2 : Int32)) hx hb dX7_rankedBetween_58 (by decide) ?_
              exact RET _ _ _ (f_tops, f_bottoms, f_E_size_43, f_R_size_43, f_E_terms_43, f_R_rankedTops_43, f_R_rankedBottoms_43, f_R_keys_43, f_R_tally_43) _ _ hw hP hD hS dX7_rankedBetween_60
          · have hw := hw.2 k
            refine lv_iconst (v := (-1 : Int32)) hx hb dX7_rankedBetween_36 (by decide) ?_
            exact RET _ _ _ (f_tops, f_bottoms, f_E_size, f_R_size, f_E_terms, f_R_rankedTops, f_R_rankedBottoms, f_R_keys, f_R_tally) _ _ hw hP hD hS dX7_rankedBetween_37
abbrev rm7_fareyNext : Room := { frames := 4, cells := 0, slots := 0, locals := 108 }
theorem nm7_fareyNext : kNm yX7_fareyNext 3 := by decide +kernel
set_option maxHeartbeats 4000000 in
set_option maxRecDepth 100000 in
theorem c7_fareyNext (l : Launch) (D : va_G) (cI cJ cN cR : ClassId) (rf : Nat → Nat) (sz : Nat) (f_hasSnapshot : Int32) (f_termListSize : Int32) (f_textSize : Int32) (f_tops : (Nat → Int32)) (f_bottoms : (Nat → Int32)) (f_E_size : Int32) (f_E_leftTop : Int64) (f_E_leftBottom : Int64) (f_E_rightTop : Int64) (f_E_rightBottom : Int64) (f_E_terms : (Nat → Int32)) (v1 : Int32) (v2 : Int32) (v3 : Int32) (post : Int32 → (Nat → Int32) → (Nat → Int32) → Int32 → Int64 → Int64 → Int64 → Int64 → (Nat → Int32) → Prop) (hw : w7_fareyNext f_tops f_bottoms f_E_size f_E_leftTop f_E_leftBottom f_E_rightTop f_E_rightBottom f_E_terms v1 v2 v3 post) : Met l yX7_fareyNext wsX7_fareyNext rm7_fareyNext (kP D (kT cI cJ cN cR) sz [.ref (rf 0), .int v1, .int v2, .int v3] [((rf 0), o7 rf f_hasSnapshot f_termListSize f_textSize), ((rf 1), ai cI 8 f_tops), ((rf 2), ai cI 8 f_bottoms), ((rf 14), o1 (rf 17) f_E_size f_E_leftTop f_E_leftBottom f_E_rightTop f_E_rightBottom), ((rf 17), ai cI 64 f_E_terms)]) (kQi D [((rf 0), o7 rf f_hasSnapshot f_termListSize f_textSize), ((rf 1), ai cI 8 f_tops), ((rf 2), ai cI 8 f_bottoms), ((rf 14), o1 (rf 17) f_E_size f_E_leftTop f_E_leftBottom f_E_rightTop f_E_rightBottom), ((rf 17), ai cI 64 f_E_terms)] sz (fun (r : Int32) (u : (Nat → Int32) × (Nat → Int32) × Int32 × Int64 × Int64 × Int64 × Int64 × (Nat → Int32)) => post r u.1 u.2.1 u.2.2.1 u.2.2.2.1 u.2.2.2.2.1 u.2.2.2.2.2.1 u.2.2.2.2.2.2.1 u.2.2.2.2.2.2.2) (fun (u : (Nat → Int32) × (Nat → Int32) × Int32 × Int64 × Int64 × Int64 × Int64 × (Nat → Int32)) => [((rf 0), o7 rf f_hasSnapshot f_termListSize f_textSize), ((rf 1), ai cI 8 u.1), ((rf 2), ai cI 8 u.2.1), ((rf 14), o1 (rf 17) u.2.2.1 u.2.2.2.1 u.2.2.2.2.1 u.2.2.2.2.2.1 u.2.2.2.2.2.2.1), ((rf 17), ai cI 64 u.2.2.2.2.2.2.2)])) 0 0 (va_A [((rf 0), o7 rf f_hasSnapshot f_termListSize f_textSize), ((rf 1), ai cI 8 f_tops), ((rf 2), ai cI 8 f_bottoms), ((rf 14), o1 (rf 17) f_E_size f_E_leftTop f_E_leftBottom f_E_rightTop f_E_rightBottom), ((rf 17), ai cI 64 f_E_terms)] sz) := by
  refine kMetI (cc := cX7_fareyNext) (maxL := 7) (by decide +kernel) rfl (Nat.le_of_ble_eq_true rfl) ?_
  intro p e s m args below meth c H0 ls A Q C0 hK hN hP hD hS hA hl RET
  obtain ⟨hx, hb, hml, hown, hts⟩ := id C0
  have hl : lv_has ls 7 [(0, .ref (rf 0)), (1, .int v1), (2, .int v2), (3, .int v3)] := hl
  have g13 := hts (.fieldLink RX7 13 "SternBrocotExplorer" "bottoms" "[I") (by decide +kernel)
  have g9 := hts (.fieldLink RX7 9 "SternBrocotExplorer" "tops" "[I") (by decide +kernel)
  have hi9 : ∀ w ∈ wsX70, w ∈ wsX7_fareyNext := fun w h => List.mem_cons_of_mem _ (List.mem_append_left _ (List.mem_append_right _ h))
  unfold w7_fareyNext at hw
  have hP : va_P D vwCl [((rf 0), o7 rf f_hasSnapshot f_termListSize f_textSize), ((rf 1), ai cI 8 f_tops), ((rf 2), ai cI 8 f_bottoms), ((rf 14), o1 (rf 17) f_E_size f_E_leftTop f_E_leftBottom f_E_rightTop f_E_rightBottom), ((rf 17), ai cI 64 f_E_terms)] H0 := hP
  refine lv_iload_n hx hb dX7_fareyNext_0 rfl (lv_at hl 1 rfl) ?_
  refine kcRI (wc := []) hP [] rfl (fun hPc => oS (As := [.int v1]) (rest := []) C0 hK hN (c7_isRegister l D cI cJ cN cR   v1 _ hw) 1 gX7_fareyNext_X7_isRegister rfl ⟨rfl, rfl⟩ nm7_isRegister ⟨Nat.le_of_ble_eq_true rfl, Nat.le_of_ble_eq_true rfl⟩ rfl hl.1 rfl (Nat.le_of_ble_eq_true rfl) dX7_fareyNext_1 ⟨Nat.le_of_ble_eq_true rfl, Nat.le_of_ble_eq_true rfl⟩ hPc) (fun r1 hw => ?_)
  obtain ⟨nb1, hw⟩ := hw
  refine lv_if_eq (tgt := 25) hx hb dX7_fareyNext_4 (by decide) (fun k => ?_) (fun k => ?_)
  · have hw := hw.1 k
    refine lv_iconst (v := (-1 : Int32)) hx hb dX7_fareyNext_25 (by decide) ?_
    exact RET _ _ _ (f_tops, f_bottoms, f_E_size, f_E_leftTop, f_E_leftBottom, f_E_rightTop, f_E_rightBottom, f_E_terms) _ _ hw hP hD hS dX7_fareyNext_26
  · have hw := hw.2 k
    refine lv_iload_n hx hb dX7_fareyNext_7 rfl (lv_at hl 2 rfl) ?_
    refine kcRI (wc := []) hP [] rfl (fun hPc => oS (As := [.int v2]) (rest := []) C0 hK hN (c7_isRegister l D cI cJ cN cR   v2 _ hw) 1 gX7_fareyNext_X7_isRegister rfl ⟨rfl, rfl⟩ nm7_isRegister ⟨Nat.le_of_ble_eq_true rfl, Nat.le_of_ble_eq_true rfl⟩ rfl hl.1 rfl (Nat.le_of_ble_eq_true rfl) dX7_fareyNext_8 ⟨Nat.le_of_ble_eq_true rfl, Nat.le_of_ble_eq_true rfl⟩ hPc) (fun r8 hw => ?_)
    obtain ⟨nb8, hw⟩ := hw
    refine lv_if_eq (tgt := 25) hx hb dX7_fareyNext_11 (by decide) (fun k => ?_) (fun k => ?_)
    · have hw := hw.1 k
      refine lv_iconst (v := (-1 : Int32)) hx hb dX7_fareyNext_25 (by decide) ?_
      exact RET _ _ _ (f_tops, f_bottoms, f_E_size, f_E_leftTop, f_E_leftBottom, f_E_rightTop, f_E_rightBottom, f_E_terms) _ _ hw hP hD hS dX7_fareyNext_26
    · have hw := hw.2 k
      refine lv_iload_n hx hb dX7_fareyNext_14 rfl (lv_at hl 3 rfl) ?_
      refine lv_iconst (v := (1 : Int32)) hx hb dX7_fareyNext_15 (by decide) ?_
      refine lv_sipush (v := (1000 : Int32)) hx hb dX7_fareyNext_16 (by decide) ?_
      refine kcRI (wc := []) hP [] rfl (fun hPc => oS (As := [.int v3, .int (1 : Int32), .int (1000 : Int32)]) (rest := []) C0 hK hN (c7_isIn l D cI cJ cN cR   v3 (1 : Int32) (1000 : Int32) _ hw) 3 gX7_fareyNext_X7_isIn rfl ⟨rfl, rfl⟩ nm7_isIn ⟨Nat.le_of_ble_eq_true rfl, Nat.le_of_ble_eq_true rfl⟩ rfl hl.1 rfl (Nat.le_of_ble_eq_true rfl) dX7_fareyNext_19 ⟨Nat.le_of_ble_eq_true rfl, Nat.le_of_ble_eq_true rfl⟩ hPc) (fun r19 hw => ?_)
      obtain ⟨nb19, hw⟩ := hw
      refine lv_if_ne (tgt := 27) hx hb dX7_fareyNext_22 (by decide) (fun k => ?_) (fun k => ?_)
      · have hw := hw.1 k
        refine lv_aload_n hx hb dX7_fareyNext_27 rfl (lv_at hl 0 rfl) ?_
        refine lv_iload_n hx hb dX7_fareyNext_28 rfl (lv_at hl 2 rfl) ?_
        refine kcR (wc := [((rf 0), o7 rf f_hasSnapshot f_termListSize f_textSize), ((rf 1), ai cI 8 f_tops), ((rf 2), ai cI 8 f_bottoms), ((rf 14), o1 (rf 17) f_E_size f_E_leftTop f_E_leftBottom f_E_rightTop f_E_rightBottom), ((rf 17), ai cI 64 f_E_terms)]) (wr := []) hP hD hS hA [0, 1, 2, 3, 4] [] rfl rfl ⟨rfl, rfl, by decide⟩ (fun hPc hDc => rV (As := [.int v2]) (rest := []) C0 hK hN (c7_expand l D cI cJ cN cR rf H0.size f_hasSnapshot f_termListSize f_textSize f_tops f_bottoms f_E_size f_E_leftTop f_E_leftBottom f_E_rightTop f_E_rightBottom f_E_terms v2 _ hw) 1 gX7_fareyNext_X7_expand rfl ⟨rfl, rfl⟩ nm7_expand ⟨Nat.le_of_ble_eq_true rfl, Nat.le_of_ble_eq_true rfl⟩ (q0 := 0) rfl rfl rfl rfl hl.1 rfl (Nat.le_of_ble_eq_true rfl) dX7_fareyNext_29 ⟨Nat.le_of_ble_eq_true rfl, Nat.le_of_ble_eq_true rfl⟩ hPc hDc) (fun u29 H locs hw hP hD hS => ?_)
        obtain ⟨f_E_size_29, f_E_terms_29⟩ := u29
        dsimp only at hw
        have hP : va_P D vwCl [((rf 0), o7 rf f_hasSnapshot f_termListSize f_textSize), ((rf 1), ai cI 8 f_tops), ((rf 2), ai cI 8 f_bottoms), ((rf 14), o1 (rf 17) f_E_size_29 f_E_leftTop f_E_leftBottom f_E_rightTop f_E_rightBottom), ((rf 17), ai cI 64 f_E_terms_29)] H := hP
        have hD : va_D A [((rf 0), o7 rf f_hasSnapshot f_termListSize f_textSize), ((rf 1), ai cI 8 f_tops), ((rf 2), ai cI 8 f_bottoms), ((rf 14), o1 (rf 17) f_E_size_29 f_E_leftTop f_E_leftBottom f_E_rightTop f_E_rightBottom), ((rf 17), ai cI 64 f_E_terms_29)] := hD
        refine lv_astore (lv' := [(4, .ref (rf 14)), (0, .ref (rf 0)), (1, .int v1), (2, .int v2), (3, .int v3)]) hx hb dX7_fareyNext_32 hl (by decide) rfl (fun ls hl => ?_)
        refine lv_aload_n hx hb dX7_fareyNext_34 rfl (lv_at hl 1 rfl) ?_
        refine va_get (D := D) (ci := 7) (v := .ref (rf 2)) (C := RX7) (T := TX7) (N := 16) hx hb hts hi9 hown hK hP 0 rfl rfl 1 (by decide) g13 (fun _ h9 => h9) rfl dX7_fareyNext_35 ?_
        refine lv_iload_n hx hb dX7_fareyNext_38 rfl (lv_at hl 3 rfl) ?_
        obtain ⟨hin, hw⟩ := hw
        refine va_iald hx hb hK hP 2 0 rfl rfl hin dX7_fareyNext_39 ?_
        refine lv_iload_n hx hb dX7_fareyNext_40 rfl (lv_at hl 4 rfl) ?_
        refine lv_icmp_le (tgt := 68) hx hb dX7_fareyNext_41 (by decide) (fun k => ?_) (fun k => ?_)
        · have hw := hw.1 k
          refine lv_aload hx hb dX7_fareyNext_68 (lv_at hl 0 rfl) ?_
          refine kcV (wc := [((rf 14), o1 (rf 17) f_E_size_29 f_E_leftTop f_E_leftBottom f_E_rightTop f_E_rightBottom), ((rf 17), ai cI 64 f_E_terms_29)]) (wr := [((rf 0), o7 rf f_hasSnapshot f_termListSize f_textSize), ((rf 1), ai cI 8 f_tops), ((rf 2), ai cI 8 f_bottoms)]) hP hD hS hA [3, 4] [0, 1, 2] rfl rfl ⟨rfl, rfl, by decide⟩ (fun hPc hDc => rV (As := []) (rest := []) C0 hK hN (c1_findBounds l D cI cJ cN cR (rf 14) (rf 17) H.size f_E_size_29 f_E_leftTop f_E_leftBottom f_E_rightTop f_E_rightBottom f_E_terms_29  _ hw) 0 gX7_fareyNext_X1_findBounds rfl ⟨rfl, rfl⟩ nm1_findBounds ⟨Nat.le_of_ble_eq_true rfl, Nat.le_of_ble_eq_true rfl⟩ (q0 := 0) rfl rfl rfl rfl hl.1 rfl (Nat.le_of_ble_eq_true rfl) dX7_fareyNext_70 ⟨Nat.le_of_ble_eq_true rfl, Nat.le_of_ble_eq_true rfl⟩ hPc hDc) (fun u70 H locs hw hP hD hS => ?_)
          obtain ⟨f_E_leftTop_70, f_E_leftBottom_70, f_E_rightTop_70, f_E_rightBottom_70⟩ := u70
          dsimp only at hw
          have hP : va_P D vwCl [((rf 0), o7 rf f_hasSnapshot f_termListSize f_textSize), ((rf 1), ai cI 8 f_tops), ((rf 2), ai cI 8 f_bottoms), ((rf 14), o1 (rf 17) f_E_size_29 f_E_leftTop_70 f_E_leftBottom_70 f_E_rightTop_70 f_E_rightBottom_70), ((rf 17), ai cI 64 f_E_terms_29)] H := hP
          have hD : va_D A [((rf 0), o7 rf f_hasSnapshot f_termListSize f_textSize), ((rf 1), ai cI 8 f_tops), ((rf 2), ai cI 8 f_bottoms), ((rf 14), o1 (rf 17) f_E_size_29 f_E_leftTop_70 f_E_leftBottom_70 f_E_rightTop_70 f_E_rightBottom_70), ((rf 17), ai cI 64 f_E_terms_29)] := hD
          refine lv_iload_n hx hb dX7_fareyNext_73 rfl (lv_at hl 4 rfl) ?_
          refine lv_i2l hx hb dX7_fareyNext_74 rfl ?_
          refine lv_aload hx hb dX7_fareyNext_75 (lv_at hl 0 rfl) ?_
          refine lv_iconst (v := (1 : Int32)) hx hb dX7_fareyNext_77 (by decide) ?_
          refine kcRL (wc := [((rf 14), o1 (rf 17) f_E_size_29 f_E_leftTop_70 f_E_leftBottom_70 f_E_rightTop_70 f_E_rightBottom_70)]) hP [3] rfl (fun hPc => oV (As := [.int (1 : Int32)]) (rest := [.long v3.toInt64]) C0 hK hN (c1_boundBottom l D cI cJ cN cR (rf 14) (rf 17) f_E_size_29 f_E_leftTop_70 f_E_leftBottom_70 f_E_rightTop_70 f_E_rightBottom_70 (1 : Int32) _ hw) 1 gX7_fareyNext_X1_boundBottom rfl ⟨rfl, rfl⟩ nm1_boundBottom ⟨Nat.le_of_ble_eq_true rfl, Nat.le_of_ble_eq_true rfl⟩ (q0 := 0) rfl rfl rfl rfl hl.1 rfl (Nat.le_of_ble_eq_true rfl) dX7_fareyNext_78 ⟨Nat.le_of_ble_eq_true rfl, Nat.le_of_ble_eq_true rfl⟩ hPc) (fun r78 hw => ?_)
          refine lv_lsub hx hb dX7_fareyNext_81 ?_
          refine lv_aload_n hx hb dX7_fareyNext_82 rfl (lv_at hl 1 rfl) ?_
          refine va_get (D := D) (ci := 7) (v := .ref (rf 2)) (C := RX7) (T := TX7) (N := 16) hx hb hts hi9 hown hK hP 0 rfl rfl 1 (by decide) g13 (fun _ h9 => h9) rfl dX7_fareyNext_83 ?_
          refine lv_iload_n hx hb dX7_fareyNext_86 rfl (lv_at hl 3 rfl) ?_
          obtain ⟨hin, hw⟩ := hw
          refine va_iald hx hb hK hP 2 0 rfl rfl hin dX7_fareyNext_87 ?_
          refine lv_i2l hx hb dX7_fareyNext_88 rfl ?_
          refine kcRL (wc := []) hP [] rfl (fun hPc => oS (As := [.long (v3.toInt64 - r78), .long ((f_bottoms v2.toNatClampNeg).toInt64)]) (rest := []) C0 hK hN (c7_quotient l D cI cJ cN cR   (v3.toInt64 - r78) ((f_bottoms v2.toNatClampNeg).toInt64) _ hw) 2 gX7_fareyNext_X7_quotient rfl ⟨rfl, rfl⟩ nm7_quotient ⟨Nat.le_of_ble_eq_true rfl, Nat.le_of_ble_eq_true rfl⟩ rfl hl.1 rfl (Nat.le_of_ble_eq_true rfl) dX7_fareyNext_89 ⟨Nat.le_of_ble_eq_true rfl, Nat.le_of_ble_eq_true rfl⟩ hPc) (fun r89 hw => ?_)
          refine lv_lstore (lv' := [(5, .long r89), (4, .ref (rf 14)), (0, .ref (rf 0)), (1, .int v1), (2, .int v2), (3, .int v3)]) hx hb dX7_fareyNext_92 hl (by decide) rfl (fun ls hl => ?_)
          refine lv_aload_n hx hb dX7_fareyNext_94 rfl (lv_at hl 2 rfl) ?_
          refine lv_iload_n hx hb dX7_fareyNext_95 rfl (lv_at hl 3 rfl) ?_
          refine lv_aload hx hb dX7_fareyNext_96 (lv_at hl 1 rfl) ?_
          refine lv_iconst (v := (1 : Int32)) hx hb dX7_fareyNext_98 (by decide) ?_
          refine kcRL (wc := [((rf 14), o1 (rf 17) f_E_size_29 f_E_leftTop_70 f_E_leftBottom_70 f_E_rightTop_70 f_E_rightBottom_70)]) hP [3] rfl (fun hPc => oV (As := [.int (1 : Int32)]) (rest := [.int v1, .ref (rf 0)]) C0 hK hN (c1_boundTop l D cI cJ cN cR (rf 14) (rf 17) f_E_size_29 f_E_leftTop_70 f_E_leftBottom_70 f_E_rightTop_70 f_E_rightBottom_70 (1 : Int32) _ hw) 1 gX7_fareyNext_X1_boundTop rfl ⟨rfl, rfl⟩ nm1_boundTop ⟨Nat.le_of_ble_eq_true rfl, Nat.le_of_ble_eq_true rfl⟩ (q0 := 0) rfl rfl rfl rfl hl.1 rfl (Nat.le_of_ble_eq_true rfl) dX7_fareyNext_99 ⟨Nat.le_of_ble_eq_true rfl, Nat.le_of_ble_eq_true rfl⟩ hPc) (fun r99 hw => ?_)
          refine lv_lload hx hb dX7_fareyNext_102 (lv_at hl 0 rfl) ?_
          refine lv_aload_n hx hb dX7_fareyNext_104 rfl (lv_at hl 2 rfl) ?_
          refine va_get (D := D) (ci := 7) (v := .ref (rf 1)) (C := RX7) (T := TX7) (N := 16) hx hb hts hi9 hown hK hP 0 rfl rfl 0 (by decide) g9 (fun _ h9 => h9) rfl dX7_fareyNext_105 ?_
          refine lv_iload_n hx hb dX7_fareyNext_108 rfl (lv_at hl 4 rfl) ?_
          obtain ⟨hin, hw⟩ := hw
          refine va_iald hx hb hK hP 1 0 rfl rfl hin dX7_fareyNext_109 ?_
          refine lv_i2l hx hb dX7_fareyNext_110 rfl ?_
          refine lv_lmul hx hb dX7_fareyNext_111 ?_
          refine lv_ladd hx hb dX7_fareyNext_112 ?_
          refine lv_aload hx hb dX7_fareyNext_113 (lv_at hl 1 rfl) ?_
          refine lv_iconst (v := (1 : Int32)) hx hb dX7_fareyNext_115 (by decide) ?_
          refine kcRL (wc := [((rf 14), o1 (rf 17) f_E_size_29 f_E_leftTop_70 f_E_leftBottom_70 f_E_rightTop_70 f_E_rightBottom_70)]) hP [3] rfl (fun hPc => oV (As := [.int (1 : Int32)]) (rest := [.long (r99 + (r89 * (f_tops v2.toNatClampNeg).toInt64)), .int v1, .ref (rf 0)]) C0 hK hN (c1_boundBottom l D cI cJ cN cR (rf 14) (rf 17) f_E_size_29 f_E_leftTop_70 f_E_leftBottom_70 f_E_rightTop_70 f_E_rightBottom_70 (1 : Int32) _ hw) 1 gX7_fareyNext_X1_boundBottom rfl ⟨rfl, rfl⟩ nm1_boundBottom ⟨Nat.le_of_ble_eq_true rfl, Nat.le_of_ble_eq_true rfl⟩ (q0 := 0) rfl rfl rfl rfl hl.1 rfl (Nat.le_of_ble_eq_true rfl) dX7_fareyNext_116 ⟨Nat.le_of_ble_eq_true rfl, Nat.le_of_ble_eq_true rfl⟩ hPc) (fun r116 hw => ?_)
          refine lv_lload hx hb dX7_fareyNext_119 (lv_at hl 0 rfl) ?_
          refine lv_aload_n hx hb dX7_fareyNext_121 rfl (lv_at hl 2 rfl) ?_
          refine va_get (D := D) (ci := 7) (v := .ref (rf 2)) (C := RX7) (T := TX7) (N := 16) hx hb hts hi9 hown hK hP 0 rfl rfl 1 (by decide) g13 (fun _ h9 => h9) rfl dX7_fareyNext_122 ?_
          refine lv_iload_n hx hb dX7_fareyNext_125 rfl (lv_at hl 4 rfl) ?_
          obtain ⟨hin, hw⟩ := hw
          refine va_iald hx hb hK hP 2 0 rfl rfl hin dX7_fareyNext_126 ?_
          refine lv_i2l hx hb dX7_fareyNext_127 rfl ?_
          refine lv_lmul hx hb dX7_fareyNext_128 ?_
          refine lv_ladd hx hb dX7_fareyNext_129 ?_
          refine kcI (wc := [((rf 0), o7 rf f_hasSnapshot f_termListSize f_textSize), ((rf 1), ai cI 8 f_tops), ((rf 2), ai cI 8 f_bottoms)]) (wr := [((rf 14), o1 (rf 17) f_E_size_29 f_E_leftTop_70 f_E_leftBottom_70 f_E_rightTop_70 f_E_rightBottom_70), ((rf 17), ai cI 64 f_E_terms_29)]) hP hD hS hA [0, 1, 2] [3, 4] rfl rfl ⟨rfl, rfl, by decide⟩ (fun hPc hDc => rV (As := [.int v1, .long (r99 + (r89 * (f_tops v2.toNatClampNeg).toInt64)), .long (r116 + (r89 * (f_bottoms v2.toNatClampNeg).toInt64))]) (rest := []) C0 hK hN (c7_store l D cI cJ cN cR rf H.size f_hasSnapshot f_termListSize f_textSize f_tops f_bottoms v1 (r99 + (r89 * (f_tops v2.toNatClampNeg).toInt64)) (r116 + (r89 * (f_bottoms v2.toNatClampNeg).toInt64)) _ hw) 3 gX7_fareyNext_X7_store rfl ⟨rfl, rfl⟩ nm7_store ⟨Nat.le_of_ble_eq_true rfl, Nat.le_of_ble_eq_true rfl⟩ (q0 := 0) rfl rfl rfl rfl hl.1 rfl (Nat.le_of_ble_eq_true rfl) dX7_fareyNext_130 ⟨Nat.le_of_ble_eq_true rfl, Nat.le_of_ble_eq_true rfl⟩ hPc hDc) (fun r130 u130 H locs hw hP hD hS => ?_)
          obtain ⟨f_tops_130, f_bottoms_130⟩ := u130
          dsimp only at hw
          have hP : va_P D vwCl [((rf 14), o1 (rf 17) f_E_size_29 f_E_leftTop_70 f_E_leftBottom_70 f_E_rightTop_70 f_E_rightBottom_70), ((rf 17), ai cI 64 f_E_terms_29), ((rf 0), o7 rf f_hasSnapshot f_termListSize f_textSize), ((rf 1), ai cI 8 f_tops_130), ((rf 2), ai cI 8 f_bottoms_130)] H := hP
          have hD : va_D A [((rf 14), o1 (rf 17) f_E_size_29 f_E_leftTop_70 f_E_leftBottom_70 f_E_rightTop_70 f_E_rightBottom_70), ((rf 17), ai cI 64 f_E_terms_29), ((rf 0), o7 rf f_hasSnapshot f_termListSize f_textSize), ((rf 1), ai cI 8 f_tops_130), ((rf 2), ai cI 8 f_bottoms_130)] := hD
          obtain ⟨hP, hD⟩ := k_sub (ws' := [((rf 0), o7 rf f_hasSnapshot f_termListSize f_textSize), ((rf 1), ai cI 8 f_tops_130), ((rf 2), ai cI 8 f_bottoms_130), ((rf 14), o1 (rf 17) f_E_size_29 f_E_leftTop_70 f_E_leftBottom_70 f_E_rightTop_70 f_E_rightBottom_70), ((rf 17), ai cI 64 f_E_terms_29)]) hP hD [2, 3, 4, 0, 1] rfl rfl
          exact RET _ _ _ (f_tops_130, f_bottoms_130, f_E_size_29, f_E_leftTop_70, f_E_leftBottom_70, f_E_rightTop_70, f_E_rightBottom_70, f_E_terms_29) _ _ hw hP hD hS dX7_fareyNext_133
        · have hw := hw.2 k
          refine lv_aload hx hb dX7_fareyNext_44 (lv_at hl 0 rfl) ?_
          refine lv_iload_n hx hb dX7_fareyNext_46 rfl (lv_at hl 4 rfl) ?_
          refine kcV (wc := [((rf 14), o1 (rf 17) f_E_size_29 f_E_leftTop f_E_leftBottom f_E_rightTop f_E_rightBottom), ((rf 17), ai cI 64 f_E_terms_29)]) (wr := [((rf 0), o7 rf f_hasSnapshot f_termListSize f_textSize), ((rf 1), ai cI 8 f_tops), ((rf 2), ai cI 8 f_bottoms)]) hP hD hS hA [3, 4] [0, 1, 2] rfl rfl ⟨rfl, rfl, by decide⟩ (fun hPc hDc => rV (As := [.int v3]) (rest := []) C0 hK hN (c1_findNeighbours l D cI cJ cN cR (rf 14) (rf 17) H.size f_E_size_29 f_E_leftTop f_E_leftBottom f_E_rightTop f_E_rightBottom f_E_terms_29 v3 _ hw) 1 gX7_fareyNext_X1_findNeighbours rfl ⟨rfl, rfl⟩ nm1_findNeighbours ⟨Nat.le_of_ble_eq_true rfl, Nat.le_of_ble_eq_true rfl⟩ (q0 := 0) rfl rfl rfl rfl hl.1 rfl (Nat.le_of_ble_eq_true rfl) dX7_fareyNext_47 ⟨Nat.le_of_ble_eq_true rfl, Nat.le_of_ble_eq_true rfl⟩ hPc hDc) (fun u47 H locs hw hP hD hS => ?_)
          obtain ⟨f_E_leftTop_47, f_E_leftBottom_47, f_E_rightTop_47, f_E_rightBottom_47⟩ := u47
          dsimp only at hw
          have hP : va_P D vwCl [((rf 0), o7 rf f_hasSnapshot f_termListSize f_textSize), ((rf 1), ai cI 8 f_tops), ((rf 2), ai cI 8 f_bottoms), ((rf 14), o1 (rf 17) f_E_size_29 f_E_leftTop_47 f_E_leftBottom_47 f_E_rightTop_47 f_E_rightBottom_47), ((rf 17), ai cI 64 f_E_terms_29)] H := hP
          have hD : va_D A [((rf 0), o7 rf f_hasSnapshot f_termListSize f_textSize), ((rf 1), ai cI 8 f_tops), ((rf 2), ai cI 8 f_bottoms), ((rf 14), o1 (rf 17) f_E_size_29 f_E_leftTop_47 f_E_leftBottom_47 f_E_rightTop_47 f_E_rightBottom_47), ((rf 17), ai cI 64 f_E_terms_29)] := hD
          refine lv_aload_n hx hb dX7_fareyNext_50 rfl (lv_at hl 1 rfl) ?_
          refine lv_iload_n hx hb dX7_fareyNext_51 rfl (lv_at hl 2 rfl) ?_
          refine lv_aload hx hb dX7_fareyNext_52 (lv_at hl 0 rfl) ?_
          refine lv_iconst (v := (1 : Int32)) hx hb dX7_fareyNext_54 (by decide) ?_
          refine kcRL (wc := [((rf 14), o1 (rf 17) f_E_size_29 f_E_leftTop_47 f_E_leftBottom_47 f_E_rightTop_47 f_E_rightBottom_47)]) hP [3] rfl (fun hPc => oV (As := [.int (1 : Int32)]) (rest := [.int v1, .ref (rf 0)]) C0 hK hN (c1_boundTop l D cI cJ cN cR (rf 14) (rf 17) f_E_size_29 f_E_leftTop_47 f_E_leftBottom_47 f_E_rightTop_47 f_E_rightBottom_47 (1 : Int32) _ hw) 1 gX7_fareyNext_X1_boundTop rfl ⟨rfl, rfl⟩ nm1_boundTop ⟨Nat.le_of_ble_eq_true rfl, Nat.le_of_ble_eq_true rfl⟩ (q0 := 0) rfl rfl rfl rfl hl.1 rfl (Nat.le_of_ble_eq_true rfl) dX7_fareyNext_55 ⟨Nat.le_of_ble_eq_true rfl, Nat.le_of_ble_eq_true rfl⟩ hPc) (fun r55 hw => ?_)
          refine lv_aload hx hb dX7_fareyNext_58 (lv_at hl 0 rfl) ?_
          refine lv_iconst (v := (1 : Int32)) hx hb dX7_fareyNext_60 (by decide) ?_
          refine kcRL (wc := [((rf 14), o1 (rf 17) f_E_size_29 f_E_leftTop_47 f_E_leftBottom_47 f_E_rightTop_47 f_E_rightBottom_47)]) hP [3] rfl (fun hPc => oV (As := [.int (1 : Int32)]) (rest := [.long r55, .int v1, .ref (rf 0)]) C0 hK hN (c1_boundBottom l D cI cJ cN cR (rf 14) (rf 17) f_E_size_29 f_E_leftTop_47 f_E_leftBottom_47 f_E_rightTop_47 f_E_rightBottom_47 (1 : Int32) _ hw) 1 gX7_fareyNext_X1_boundBottom rfl ⟨rfl, rfl⟩ nm1_boundBottom ⟨Nat.le_of_ble_eq_true rfl, Nat.le_of_ble_eq_true rfl⟩ (q0 := 0) rfl rfl rfl rfl hl.1 rfl (Nat.le_of_ble_eq_true rfl) dX7_fareyNext_61 ⟨Nat.le_of_ble_eq_true rfl, Nat.le_of_ble_eq_true rfl⟩ hPc) (fun r61 hw => ?_)
          refine kcI (wc := [((rf 0), o7 rf f_hasSnapshot f_termListSize f_textSize), ((rf 1), ai cI 8 f_tops), ((rf 2), ai cI 8 f_bottoms)]) (wr := [((rf 14), o1 (rf 17) f_E_size_29 f_E_leftTop_47 f_E_leftBottom_47 f_E_rightTop_47 f_E_rightBottom_47), ((rf 17), ai cI 64 f_E_terms_29)]) hP hD hS hA [0, 1, 2] [3, 4] rfl rfl ⟨rfl, rfl, by decide⟩ (fun hPc hDc => rV (As := [.int v1, .long r55, .long r61]) (rest := []) C0 hK hN (c7_store l D cI cJ cN cR rf H.size f_hasSnapshot f_termListSize f_textSize f_tops f_bottoms v1 r55 r61 _ hw) 3 gX7_fareyNext_X7_store rfl ⟨rfl, rfl⟩ nm7_store ⟨Nat.le_of_ble_eq_true rfl, Nat.le_of_ble_eq_true rfl⟩ (q0 := 0) rfl rfl rfl rfl hl.1 rfl (Nat.le_of_ble_eq_true rfl) dX7_fareyNext_64 ⟨Nat.le_of_ble_eq_true rfl, Nat.le_of_ble_eq_true rfl⟩ hPc hDc) (fun r64 u64 H locs hw hP hD hS => ?_)
          obtain ⟨f_tops_64, f_bottoms_64⟩ := u64
          dsimp only at hw
          have hP : va_P D vwCl [((rf 14), o1 (rf 17) f_E_size_29 f_E_leftTop_47 f_E_leftBottom_47 f_E_rightTop_47 f_E_rightBottom_47), ((rf 17), ai cI 64 f_E_terms_29), ((rf 0), o7 rf f_hasSnapshot f_termListSize f_textSize), ((rf 1), ai cI 8 f_tops_64), ((rf 2), ai cI 8 f_bottoms_64)] H := hP
          have hD : va_D A [((rf 14), o1 (rf 17) f_E_size_29 f_E_leftTop_47 f_E_leftBottom_47 f_E_rightTop_47 f_E_rightBottom_47), ((rf 17), ai cI 64 f_E_terms_29), ((rf 0), o7 rf f_hasSnapshot f_termListSize f_textSize), ((rf 1), ai cI 8 f_tops_64), ((rf 2), ai cI 8 f_bottoms_64)] := hD
          obtain ⟨hP, hD⟩ := k_sub (ws' := [((rf 0), o7 rf f_hasSnapshot f_termListSize f_textSize), ((rf 1), ai cI 8 f_tops_64), ((rf 2), ai cI 8 f_bottoms_64), ((rf 14), o1 (rf 17) f_E_size_29 f_E_leftTop_47 f_E_leftBottom_47 f_E_rightTop_47 f_E_rightBottom_47), ((rf 17), ai cI 64 f_E_terms_29)]) hP hD [2, 3, 4, 0, 1] rfl rfl
          exact RET _ _ _ (f_tops_64, f_bottoms_64, f_E_size_29, f_E_leftTop_47, f_E_leftBottom_47, f_E_rightTop_47, f_E_rightBottom_47, f_E_terms_29) _ _ hw hP hD hS dX7_fareyNext_67
      · have hw := hw.2 k
        refine lv_iconst (v := (-1 : Int32)) hx hb dX7_fareyNext_25 (by decide) ?_
        exact RET _ _ _ (f_tops, f_bottoms, f_E_size, f_E_leftTop, f_E_leftBottom, f_E_rightTop, f_E_rightBottom, f_E_terms) _ _ hw hP hD hS dX7_fareyNext_26
