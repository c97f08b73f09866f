abbrev rm1_append : Room := { frames := 0, cells := 0, slots := 0, locals := 0 }
theorem nm1_append : kNm yX1_append 1 := by decide +kernel
set_option maxHeartbeats 4000000 in
set_option maxRecDepth 100000 in
theorem c1_append (l : Launch) (D : va_G) (cI cJ cN cR : ClassId) (h0 : Nat) (h1 : Nat) (sz : Nat) (f_size : Int32) (f_leftTop : Int64) (f_leftBottom : Int64) (f_rightTop : Int64) (f_rightBottom : Int64) (f_terms : (Nat → Int32)) (v1 : Int32) (post : Int32 → (Nat → Int32) → Prop) (hw : w1_append f_size f_terms v1 post) : Met l yX1_append wsX1_append rm1_append (kP D (kT cI cJ cN cR) sz [.ref h0, .int v1] [(h0, o1 h1 f_size f_leftTop f_leftBottom f_rightTop f_rightBottom), (h1, ai cI 64 f_terms)]) (kQv D [(h0, o1 h1 f_size f_leftTop f_leftBottom f_rightTop f_rightBottom), (h1, ai cI 64 f_terms)] sz (fun (u : Int32 × (Nat → Int32)) => post u.1 u.2) (fun (u : Int32 × (Nat → Int32)) => [(h0, o1 h1 u.1 f_leftTop f_leftBottom f_rightTop f_rightBottom), (h1, ai cI 64 u.2)])) 0 0 (va_A [(h0, o1 h1 f_size f_leftTop f_leftBottom f_rightTop f_rightBottom), (h1, ai cI 64 f_terms)] sz) := by
  refine kMetV (cc := cX1_append) (maxL := 2) (by decide +kernel) rfl (Nat.le_of_ble_eq_true rfl) ?_
  intro p e s m args below meth c H0 ls A Q C0 hK hN hP hD hS hA hl RET
  obtain ⟨hx, hb, hml, hown, hts⟩ := id C0
  have hl : lv_has ls 2 [(0, .ref h0), (1, .int v1)] := hl
  have g15 := hts (.fieldLink RX1 15 "SternBrocotExplorer$Expansion" "size" "I") (by decide +kernel)
  have g9 := hts (.fieldLink RX1 9 "SternBrocotExplorer$Expansion" "terms" "[I") (by decide +kernel)
  have hi9 : ∀ w ∈ wsX10, w ∈ wsX1_append := fun w h => List.mem_cons_of_mem _ (List.mem_append_right _ h)
  unfold w1_append at hw
  have hP : va_P D vwCl [(h0, o1 h1 f_size f_leftTop f_leftBottom f_rightTop f_rightBottom), (h1, ai cI 64 f_terms)] H0 := hP
  refine lv_aload_n hx hb dX1_append_0 rfl (lv_at hl 0 rfl) ?_
  refine va_get (D := D) (ci := 0) (v := .int f_size) (C := RX1) (T := TX1) (N := 6) hx hb hts hi9 hown hK hP 0 rfl rfl 1 (by decide) g15 (fun _ h9 => h9) rfl dX1_append_1 ?_
  refine lv_bipush (v := (64 : Int32)) hx hb dX1_append_4 (by decide) ?_
  refine lv_icmp_ge (tgt := 29) hx hb dX1_append_6 (by decide) (fun k => ?_) (fun k => ?_)
  · have hw := hw.1 k
    exact RET _ _ (f_size, f_terms) _ _ hw hP hD hS dX1_append_29
  · have hw := hw.2 k
    refine lv_aload_n hx hb dX1_append_9 rfl (lv_at hl 0 rfl) ?_
    refine va_get (D := D) (ci := 0) (v := .ref h1) (C := RX1) (T := TX1) (N := 6) hx hb hts hi9 hown hK hP 0 rfl rfl 0 (by decide) g9 (fun _ h9 => h9) rfl dX1_append_10 ?_
    refine lv_aload_n hx hb dX1_append_13 rfl (lv_at hl 0 rfl) ?_
    refine va_get (D := D) (ci := 0) (v := .int f_size) (C := RX1) (T := TX1) (N := 6) hx hb hts hi9 hown hK hP 0 rfl rfl 1 (by decide) g15 (fun _ h9 => h9) rfl dX1_append_14 ?_
    refine lv_iload_n hx hb dX1_append_17 rfl (lv_at hl 1 rfl) ?_
    obtain ⟨hin, hw⟩ := hw
    refine va_iast hx hb hK hP hD hS 1 0 rfl rfl hin dX1_append_18 (fun H locs hP hD hS => ?_)
    have hP : va_P D vwCl [(h0, o1 h1 f_size f_leftTop f_leftBottom f_rightTop f_rightBottom), (h1, ai cI 64 (upd f_terms f_size.toNatClampNeg v1))] H := hP
    have hD : va_D A [(h0, o1 h1 f_size f_leftTop f_leftBottom f_rightTop f_rightBottom), (h1, ai cI 64 (upd f_terms f_size.toNatClampNeg v1))] := hD
    refine lv_aload_n hx hb dX1_append_19 rfl (lv_at hl 0 rfl) ?_
    refine lv_dup hx hb dX1_append_20 rfl ?_
    refine va_get (D := D) (ci := 0) (v := .int f_size) (C := RX1) (T := TX1) (N := 6) hx hb hts hi9 hown hK hP 0 rfl rfl 1 (by decide) g15 (fun _ h9 => h9) rfl dX1_append_21 ?_
    refine lv_iconst (v := (1 : Int32)) hx hb dX1_append_24 (by decide) ?_
    refine lv_iadd hx hb dX1_append_25 ?_
    refine lv_topi (fun x26 ex26 => ?_)
    have hw := hw x26 ex26
    refine va_put (D := D) (ci := 0) (v := .int x26) (ty := .int) (C := RX1) (T := TX1) (N := 6) hx hb hts hi9 tyX1 tyX1_ok nmX1 hown hK hP hD hS 0 rfl rfl 1 (by decide) g15 (fun _ h9 => h9) rfl (by decide +kernel) rfl rfl (Nat.le_of_ble_eq_true rfl) dX1_append_26 (fun H locs hP hD hS => ?_)
    have hP : va_P D vwCl [(h0, o1 h1 x26 f_leftTop f_leftBottom f_rightTop f_rightBottom), (h1, ai cI 64 (upd f_terms f_size.toNatClampNeg v1))] H := hP
    have hD : va_D A [(h0, o1 h1 x26 f_leftTop f_leftBottom f_rightTop f_rightBottom), (h1, ai cI 64 (upd f_terms f_size.toNatClampNeg v1))] := hD
    exact RET _ _ (x26, (upd f_terms f_size.toNatClampNeg v1)) _ _ hw hP hD hS dX1_append_29
abbrev rm1_expand : Room := { frames := 1, cells := 0, slots := 0, locals := 21 }
theorem nm1_expand : kNm yX1_expand 2 := by decide +kernel
set_option maxHeartbeats 4000000 in
set_option maxRecDepth 100000 in
theorem c1_expand (l : Launch) (D : va_G) (cI cJ cN cR : ClassId) (h0 : Nat) (h1 : Nat) (sz : Nat) (f_size : Int32) (f_leftTop : Int64) (f_leftBottom : Int64) (f_rightTop : Int64) (f_rightBottom : Int64) (f_terms : (Nat → Int32)) (v1 : Int32) (v2 : Int32) (post : Int32 → (Nat → Int32) → Prop) (hw : w1_expand f_size f_terms v1 v2 post) : Met l yX1_expand wsX1_expand rm1_expand (kP D (kT cI cJ cN cR) sz [.ref h0, .int v1, .int v2] [(h0, o1 h1 f_size f_leftTop f_leftBottom f_rightTop f_rightBottom), (h1, ai cI 64 f_terms)]) (kQv D [(h0, o1 h1 f_size f_leftTop f_leftBottom f_rightTop f_rightBottom), (h1, ai cI 64 f_terms)] sz (fun (u : Int32 × (Nat → Int32)) => post u.1 u.2) (fun (u : Int32 × (Nat → Int32)) => [(h0, o1 h1 u.1 f_leftTop f_leftBottom f_rightTop f_rightBottom), (h1, ai cI 64 u.2)])) 0 0 (va_A [(h0, o1 h1 f_size f_leftTop f_leftBottom f_rightTop f_rightBottom), (h1, ai cI 64 f_terms)] sz) := by
  refine kMetV (cc := cX1_expand) (maxL := 7) (by decide +kernel) rfl (Nat.le_of_ble_eq_true rfl) ?_
  intro p e s m args below meth c H0 ls A Q C0 hK hN hP hD hS hA hl RET
  obtain ⟨hx, hb, hml, hown, hts⟩ := id C0
  have hl : lv_has ls 7 [(0, .ref h0), (1, .int v1), (2, .int v2)] := hl
  have g15 := hts (.fieldLink RX1 15 "SternBrocotExplorer$Expansion" "size" "I") (by decide +kernel)
  have hi9 : ∀ w ∈ wsX10, w ∈ wsX1_expand := fun w h => List.mem_cons_of_mem _ (List.mem_append_right _ h)
  unfold w1_expand at hw
  have hP : va_P D vwCl [(h0, o1 h1 f_size f_leftTop f_leftBottom f_rightTop f_rightBottom), (h1, ai cI 64 f_terms)] H0 := hP
  refine lv_iload_n hx hb dX1_expand_0 rfl (lv_at hl 1 rfl) ?_
  refine lv_istore_n (lv' := [(3, .int v1), (0, .ref h0), (1, .int v1), (2, .int v2)]) hx hb dX1_expand_1 rfl hl (by decide) rfl (fun ls hl => ?_)
  refine lv_iload_n hx hb dX1_expand_2 rfl (lv_at hl 3 rfl) ?_
  refine lv_istore (lv' := [(4, .int v2), (3, .int v1), (0, .ref h0), (1, .int v1), (2, .int v2)]) hx hb dX1_expand_3 hl (by decide) rfl (fun ls hl => ?_)
  refine lv_aload_n hx hb dX1_expand_5 rfl (lv_at hl 2 rfl) ?_
  refine lv_iconst (v := (0 : Int32)) hx hb dX1_expand_6 (by decide) ?_
  refine va_put (D := D) (ci := 0) (v := .int (0 : Int32)) (ty := .int) (C := RX1) (T := TX1) (N := 6) hx hb hts hi9 tyX1 tyX1_ok nmX1 hown hK hP hD hS 0 rfl rfl 1 (by decide) g15 (fun _ h9 => h9) rfl (by decide +kernel) rfl rfl (Nat.le_of_ble_eq_true rfl) dX1_expand_7 (fun H locs hP hD hS => ?_)
  have hP : va_P D vwCl [(h0, o1 h1 (0 : Int32) f_leftTop f_leftBottom f_rightTop f_rightBottom), (h1, ai cI 64 f_terms)] H := hP
  have hD : va_D A [(h0, o1 h1 (0 : Int32) f_leftTop f_leftBottom f_rightTop f_rightBottom), (h1, ai cI 64 f_terms)] := hD
  refine lv_iconst (v := (0 : Int32)) hx hb dX1_expand_10 (by decide) ?_
  refine lv_istore (lv' := [(5, .int (0 : Int32)), (4, .int v2), (3, .int v1), (0, .ref h0), (1, .int v1), (2, .int v2)]) hx hb dX1_expand_11 hl (by decide) rfl (fun ls hl => ?_)
  obtain ⟨n13, hw⟩ := hw
  have LOOP_13 : ∀ (n13 : Nat) (v3 : Int32) (v4 : Int32) (v5 : Int32) (f_size : Int32) (f_terms : (Nat → Int32)) (H : Heap) (locs : List Loc) (ls : Array Slot), w1_expand_L13 post n13 v3 v4 v5 f_size f_terms → va_P D vwCl [(h0, o1 h1 f_size f_leftTop f_leftBottom f_rightTop f_rightBottom), (h1, ai cI 64 f_terms)] H → va_D A [(h0, o1 h1 f_size f_leftTop f_leftBottom f_rightTop f_rightBottom), (h1, ai cI 64 f_terms)] → va_S A H0 H locs → lv_has ls 7 [(0, .ref h0), (3, .int v3), (4, .int v4), (5, .int v5)] → W p l e rm1_expand s m args below meth c H locs 0 0 Q (F0 m 13 ls []) := by
    clear hw hl hP hD hS
    intro n13
    induction n13 with
    | zero =>
      intro v3 v4 v5 f_size f_terms H locs ls hw hP hD hS hl
      rw [w1_expand_L13] at hw
      exact hw.elim
    | succ n13 ih13 =>
      intro v3 v4 v5 f_size f_terms H locs ls hw hP hD hS hl
      rw [w1_expand_L13] at hw
      refine lv_iload hx hb dX1_expand_13 (lv_at hl 3 rfl) ?_
      refine lv_bipush (v := (64 : Int32)) hx hb dX1_expand_15 (by decide) ?_
      refine lv_icmp_ge (tgt := 52) hx hb dX1_expand_17 (by decide) (fun k => ?_) (fun k => ?_)
      · have hw := hw.1 k
        exact RET _ _ (f_size, f_terms) _ _ hw hP hD hS dX1_expand_52
      · have hw := hw.2 k
        refine lv_iload hx hb dX1_expand_20 (lv_at hl 2 rfl) ?_
        refine lv_if_le (tgt := 52) hx hb dX1_expand_22 (by decide) (fun k => ?_) (fun k => ?_)
        · have hw := hw.1 k
          exact RET _ _ (f_size, f_terms) _ _ hw hP hD hS dX1_expand_52
        · have hw := hw.2 k
          refine lv_aload_n hx hb dX1_expand_25 rfl (lv_at hl 0 rfl) ?_
          refine lv_iload_n hx hb dX1_expand_26 rfl (lv_at hl 1 rfl) ?_
          refine lv_iload hx hb dX1_expand_27 (lv_at hl 2 rfl) ?_
          obtain ⟨hne, hw⟩ := hw
          refine lv_idiv hx hb dX1_expand_29 hne ?_
          refine kcV (wc := [(h0, o1 h1 f_size f_leftTop f_leftBottom f_rightTop f_rightBottom), (h1, ai cI 64 f_terms)]) (wr := []) hP hD hS hA [0, 1] [] rfl rfl ⟨rfl, rfl, by decide⟩ (fun hPc hDc => rV (As := [.int (v3 / v4)]) (rest := []) C0 hK hN (c1_append l D cI cJ cN cR h0 h1 H.size f_size f_leftTop f_leftBottom f_rightTop f_rightBottom f_terms (v3 / v4) _ hw) 1 gX1_expand_X1_append rfl ⟨rfl, rfl⟩ nm1_append ⟨Nat.le_of_ble_eq_true rfl, Nat.le_of_ble_eq_true rfl⟩ (q0 := 0) rfl rfl rfl rfl hl.1 rfl (Nat.le_of_ble_eq_true rfl) dX1_expand_30 ⟨Nat.le_of_ble_eq_true rfl, Nat.le_of_ble_eq_true rfl⟩ hPc hDc) (fun u30 H locs hw hP hD hS => ?_)
          obtain ⟨f_size_30, f_terms_30⟩ := u30
          dsimp only at hw
          have hP : va_P D vwCl [(h0, o1 h1 f_size_30 f_leftTop f_leftBottom f_rightTop f_rightBottom), (h1, ai cI 64 f_terms_30)] H := hP
          have hD : va_D A [(h0, o1 h1 f_size_30 f_leftTop f_leftBottom f_rightTop f_rightBottom), (h1, ai cI 64 f_terms_30)] := hD
          refine lv_iload_n hx hb dX1_expand_33 rfl (lv_at hl 1 rfl) ?_
          refine lv_iload hx hb dX1_expand_34 (lv_at hl 2 rfl) ?_
          obtain ⟨hne, hw⟩ := hw
          refine lv_irem hx hb dX1_expand_36 hne ?_
          refine lv_topi (fun x37 ex37 => ?_)
          have hw := hw x37 ex37
          refine lv_istore (lv' := [(6, .int x37), (0, .ref h0), (3, .int v3), (4, .int v4), (5, .int v5)]) hx hb dX1_expand_37 hl (by decide) rfl (fun ls hl => ?_)
          refine lv_iload hx hb dX1_expand_39 (lv_at hl 3 rfl) ?_
          refine lv_istore_n (lv' := [(3, .int v4), (6, .int x37), (0, .ref h0), (4, .int v4), (5, .int v5)]) hx hb dX1_expand_41 rfl hl (by decide) rfl (fun ls hl => ?_)
          refine lv_iload hx hb dX1_expand_42 (lv_at hl 1 rfl) ?_
          refine lv_istore (lv' := [(4, .int x37), (3, .int v4), (6, .int x37), (0, .ref h0), (5, .int v5)]) hx hb dX1_expand_44 hl (by decide) rfl (fun ls hl => ?_)
          obtain ⟨x46, ex46⟩ : ∃ y : Int32, y = (v5 + (1 : Int32)) := ⟨_, rfl⟩
          have hw := hw x46 ex46
          refine lv_iinc (v := x46) (lv' := [(5, .int x46), (4, .int x37), (3, .int v4), (6, .int x37), (0, .ref h0)]) hx hb dX1_expand_46 hl (k := 4) rfl (by rw [ex46]; rfl) (by decide) rfl (fun ls hl => ?_)
          refine lv_goto (tgt := 13) hx hb dX1_expand_49 (by decide) ?_
          exact ih13 v4 x37 x46 f_size_30 f_terms_30 _ _ ls hw hP hD hS (lv_sub hl [4, 2, 1, 0] rfl)
  exact LOOP_13 n13 v1 v2 (0 : Int32) (0 : Int32) f_terms _ _ ls hw hP hD hS (lv_sub hl [3, 2, 1, 0] rfl)
abbrev rm1_at : Room := { frames := 0, cells := 0, slots := 0, locals := 0 }
theorem nm1_at : kNm yX1_at 1 := by decide +kernel
set_option maxHeartbeats 4000000 in
set_option maxRecDepth 100000 in
theorem c1_at (l : Launch) (D : va_G) (cI cJ cN cR : ClassId) (h0 : Nat) (h1 : Nat) (f_size : Int32) (f_leftTop : Int64) (f_leftBottom : Int64) (f_rightTop : Int64) (f_rightBottom : Int64) (f_terms : (Nat → Int32)) (v1 : Int32) (post : Int32 → Prop) (hw : w1_at f_size f_terms v1 post) : Met l yX1_at wsX1_at rm1_at (kR D (kT cI cJ cN cR) [.ref h0, .int v1] [(h0, o1 h1 f_size f_leftTop f_leftBottom f_rightTop f_rightBottom), (h1, ai cI 64 f_terms)]) (vp_Si post) 0 0 (fun _ => False) := by
  refine kMetRI (cc := cX1_at) (maxL := 2) (by decide +kernel) rfl (Nat.le_of_ble_eq_true rfl) ?_
  intro p e s m args below meth c H ls Q C0 hK hN hP hl RET
  obtain ⟨hx, hb, hml, hown, hts⟩ := id C0
  have hl : lv_has ls 2 [(0, .ref h0), (1, .int v1)] := hl
  have g15 := hts (.fieldLink RX1 15 "SternBrocotExplorer$Expansion" "size" "I") (by decide +kernel)
  have g9 := hts (.fieldLink RX1 9 "SternBrocotExplorer$Expansion" "terms" "[I") (by decide +kernel)
  have hi9 : ∀ w ∈ wsX10, w ∈ wsX1_at := fun w h => List.mem_cons_of_mem _ (List.mem_append_right _ h)
  unfold w1_at at hw
  refine lv_iload_n hx hb dX1_at_0 rfl (lv_at hl 1 rfl) ?_
  refine lv_if_lt (tgt := 21) hx hb dX1_at_1 (by decide) (fun k => ?_) (fun k => ?_)
  · have hw := hw.1 k
    refine lv_iconst (v := (0 : Int32)) hx hb dX1_at_21 (by decide) ?_
    exact RET _ _ _ hw dX1_at_22
  · have hw := hw.2 k
    refine lv_iload_n hx hb dX1_at_4 rfl (lv_at hl 1 rfl) ?_
    refine lv_aload_n hx hb dX1_at_5 rfl (lv_at hl 0 rfl) ?_
    refine va_get (D := D) (ci := 0) (v := .int f_size) (C := RX1) (T := TX1) (N := 6) hx hb hts hi9 hown hK hP 0 rfl rfl 1 (by decide) g15 (fun _ h9 => h9) rfl dX1_at_6 ?_
    refine lv_icmp_ge (tgt := 21) hx hb dX1_at_9 (by decide) (fun k => ?_) (fun k => ?_)
    · have hw := hw.1 k
      refine lv_iconst (v := (0 : Int32)) hx hb dX1_at_21 (by decide) ?_
      exact RET _ _ _ hw dX1_at_22
    · have hw := hw.2 k
      refine lv_aload_n hx hb dX1_at_12 rfl (lv_at hl 0 rfl) ?_
      refine va_get (D := D) (ci := 0) (v := .ref h1) (C := RX1) (T := TX1) (N := 6) hx hb hts hi9 hown hK hP 0 rfl rfl 0 (by decide) g9 (fun _ h9 => h9) rfl dX1_at_13 ?_
      refine lv_iload_n hx hb dX1_at_16 rfl (lv_at hl 1 rfl) ?_
      obtain ⟨hin, hw⟩ := hw
      refine va_iald hx hb hK hP 1 0 rfl rfl hin dX1_at_17 ?_
      refine lv_goto (tgt := 22) hx hb dX1_at_18 (by decide) ?_
      exact RET _ _ _ hw dX1_at_22
abbrev rm1_runAt : Room := { frames := 1, cells := 0, slots := 0, locals := 21 }
theorem nm1_runAt : kNm yX1_runAt 1 := by decide +kernel
set_option maxHeartbeats 4000000 in
set_option maxRecDepth 100000 in
theorem c1_runAt (l : Launch) (D : va_G) (cI cJ cN cR : ClassId) (h0 : Nat) (h1 : Nat) (f_size : Int32) (f_leftTop : Int64) (f_leftBottom : Int64) (f_rightTop : Int64) (f_rightBottom : Int64) (f_terms : (Nat → Int32)) (v1 : Int32) (post : Int32 → Prop) (hw : w1_runAt f_size f_terms v1 post) : Met l yX1_runAt wsX1_runAt rm1_runAt (kR D (kT cI cJ cN cR) [.ref h0, .int v1] [(h0, o1 h1 f_size f_leftTop f_leftBottom f_rightTop f_rightBottom), (h1, ai cI 64 f_terms)]) (vp_Si post) 0 0 (fun _ => False) := by
  refine kMetRI (cc := cX1_runAt) (maxL := 2) (by decide +kernel) rfl (Nat.le_of_ble_eq_true rfl) ?_
  intro p e s m args below meth c H ls Q C0 hK hN hP hl RET
  obtain ⟨hx, hb, hml, hown, hts⟩ := id C0
  have hl : lv_has ls 2 [(0, .ref h0), (1, .int v1)] := hl
  have g15 := hts (.fieldLink RX1 15 "SternBrocotExplorer$Expansion" "size" "I") (by decide +kernel)
  have hi9 : ∀ w ∈ wsX10, w ∈ wsX1_runAt := fun w h => List.mem_cons_of_mem _ (List.mem_append_right _ h)
  unfold w1_runAt at hw
  refine lv_iload_n hx hb dX1_runAt_0 rfl (lv_at hl 1 rfl) ?_
  refine lv_aload_n hx hb dX1_runAt_1 rfl (lv_at hl 0 rfl) ?_
  refine va_get (D := D) (ci := 0) (v := .int f_size) (C := RX1) (T := TX1) (N := 6) hx hb hts hi9 hown hK hP 0 rfl rfl 1 (by decide) g15 (fun _ h9 => h9) rfl dX1_runAt_2 ?_
  refine lv_iconst (v := (1 : Int32)) hx hb dX1_runAt_5 (by decide) ?_
  refine lv_isub hx hb dX1_runAt_6 ?_
  refine lv_icmp_ne (tgt := 20) hx hb dX1_runAt_7 (by decide) (fun k => ?_) (fun k => ?_)
  · have hw := hw.1 k
    refine lv_aload_n hx hb dX1_runAt_20 rfl (lv_at hl 0 rfl) ?_
    refine lv_iload_n hx hb dX1_runAt_21 rfl (lv_at hl 1 rfl) ?_
    refine kcRI (wc := [(h0, o1 h1 f_size f_leftTop f_leftBottom f_rightTop f_rightBottom), (h1, ai cI 64 f_terms)]) hP [0, 1] rfl (fun hPc => oV (As := [.int v1]) (rest := []) C0 hK hN (c1_at l D cI cJ cN cR h0 h1 f_size f_leftTop f_leftBottom f_rightTop f_rightBottom f_terms v1 _ hw) 1 gX1_runAt_X1_at rfl ⟨rfl, rfl⟩ nm1_at ⟨Nat.le_of_ble_eq_true rfl, Nat.le_of_ble_eq_true rfl⟩ (q0 := 0) rfl rfl rfl rfl hl.1 rfl (Nat.le_of_ble_eq_true rfl) dX1_runAt_22 ⟨Nat.le_of_ble_eq_true rfl, Nat.le_of_ble_eq_true rfl⟩ hPc) (fun r22 hw => ?_)
    exact RET _ _ _ hw dX1_runAt_25
  · have hw := hw.2 k
    refine lv_aload_n hx hb dX1_runAt_10 rfl (lv_at hl 0 rfl) ?_
    refine lv_iload_n hx hb dX1_runAt_11 rfl (lv_at hl 1 rfl) ?_
    refine kcRI (wc := [(h0, o1 h1 f_size f_leftTop f_leftBottom f_rightTop f_rightBottom), (h1, ai cI 64 f_terms)]) hP [0, 1] rfl (fun hPc => oV (As := [.int v1]) (rest := []) C0 hK hN (c1_at l D cI cJ cN cR h0 h1 f_size f_leftTop f_leftBottom f_rightTop f_rightBottom f_terms v1 _ hw) 1 gX1_runAt_X1_at rfl ⟨rfl, rfl⟩ nm1_at ⟨Nat.le_of_ble_eq_true rfl, Nat.le_of_ble_eq_true rfl⟩ (q0 := 0) rfl rfl rfl rfl hl.1 rfl (Nat.le_of_ble_eq_true rfl) dX1_runAt_12 ⟨Nat.le_of_ble_eq_true rfl, Nat.le_of_ble_eq_true rfl⟩ hPc) (fun r12 hw => ?_)
    refine lv_iconst (v := (1 : Int32)) hx hb dX1_runAt_15 (by decide) ?_
    refine lv_isub hx hb dX1_runAt_16 ?_
    refine lv_goto (tgt := 25) hx hb dX1_runAt_17 (by decide) ?_
    exact RET _ _ _ hw dX1_runAt_25
abbrev rm1_stepCount : Room := { frames := 2, cells := 0, slots := 0, locals := 42 }
theorem nm1_stepCount : kNm yX1_stepCount 0 := by decide +kernel
set_option maxHeartbeats 4000000 in
set_option maxRecDepth 100000 in
theorem c1_stepCount (l : Launch) (D : va_G) (cI cJ cN cR : ClassId) (h0 : Nat) (h1 : Nat) (f_size : Int32) (f_leftTop : Int64) (f_leftBottom : Int64) (f_rightTop : Int64) (f_rightBottom : Int64) (f_terms : (Nat → Int32))  (post : Int32 → Prop) (hw : w1_stepCount f_size f_terms post) : Met l yX1_stepCount wsX1_stepCount rm1_stepCount (kR D (kT cI cJ cN cR) [.ref h0] [(h0, o1 h1 f_size f_leftTop f_leftBottom f_rightTop f_rightBottom), (h1, ai cI 64 f_terms)]) (vp_Si post) 0 0 (fun _ => False) := by
  refine kMetRI (cc := cX1_stepCount) (maxL := 3) (by decide +kernel) rfl (Nat.le_of_ble_eq_true rfl) ?_
  intro p e s m args below meth c H ls Q C0 hK hN hP hl RET
  obtain ⟨hx, hb, hml, hown, hts⟩ := id C0
  have hl : lv_has ls 3 [(0, .ref h0)] := hl
  have g15 := hts (.fieldLink RX1 15 "SternBrocotExplorer$Expansion" "size" "I") (by decide +kernel)
  have hi9 : ∀ w ∈ wsX10, w ∈ wsX1_stepCount := fun w h => List.mem_cons_of_mem _ (List.mem_append_right _ h)
  unfold w1_stepCount at hw
  refine lv_iconst (v := (0 : Int32)) hx hb dX1_stepCount_0 (by decide) ?_
  refine lv_istore_n (lv' := [(1, .int (0 : Int32)), (0, .ref h0)]) hx hb dX1_stepCount_1 rfl hl (by decide) rfl (fun ls hl => ?_)
  refine lv_iconst (v := (0 : Int32)) hx hb dX1_stepCount_2 (by decide) ?_
  refine lv_istore_n (lv' := [(2, .int (0 : Int32)), (1, .int (0 : Int32)), (0, .ref h0)]) hx hb dX1_stepCount_3 rfl hl (by decide) rfl (fun ls hl => ?_)
  obtain ⟨n4, hw⟩ := hw
  have LOOP_4 : ∀ (n4 : Nat) (v1 : Int32) (v2 : Int32) (ls : Array Slot), w1_stepCount_L4 f_size f_terms post n4 v1 v2 → lv_has ls 3 [(0, .ref h0), (1, .int v1), (2, .int v2)] → W p l e rm1_stepCount s m args below meth c H [] 0 0 Q (F0 m 4 ls []) := by
    clear hw hl
    intro n4
    induction n4 with
    | zero =>
      intro v1 v2 ls hw hl
      rw [w1_stepCount_L4] at hw
      exact hw.elim
    | succ n4 ih4 =>
      intro v1 v2 ls hw hl
      rw [w1_stepCount_L4] at hw
      refine lv_iload_n hx hb dX1_stepCount_4 rfl (lv_at hl 2 rfl) ?_
      refine lv_aload_n hx hb dX1_stepCount_5 rfl (lv_at hl 0 rfl) ?_
      refine va_get (D := D) (ci := 0) (v := .int f_size) (C := RX1) (T := TX1) (N := 6) hx hb hts hi9 hown hK hP 0 rfl rfl 1 (by decide) g15 (fun _ h9 => h9) rfl dX1_stepCount_6 ?_
      refine lv_icmp_ge (tgt := 26) hx hb dX1_stepCount_9 (by decide) (fun k => ?_) (fun k => ?_)
      · have hw := hw.1 k
        refine lv_iload_n hx hb dX1_stepCount_26 rfl (lv_at hl 1 rfl) ?_
        exact RET _ _ _ hw dX1_stepCount_27
      · have hw := hw.2 k
        refine lv_iload_n hx hb dX1_stepCount_12 rfl (lv_at hl 1 rfl) ?_
        refine lv_aload_n hx hb dX1_stepCount_13 rfl (lv_at hl 0 rfl) ?_
        refine lv_iload_n hx hb dX1_stepCount_14 rfl (lv_at hl 2 rfl) ?_
        refine kcRI (wc := [(h0, o1 h1 f_size f_leftTop f_leftBottom f_rightTop f_rightBottom), (h1, ai cI 64 f_terms)]) hP [0, 1] rfl (fun hPc => oV (As := [.int v2]) (rest := [.int v1]) C0 hK hN (c1_runAt l D cI cJ cN cR h0 h1 f_size f_leftTop f_leftBottom f_rightTop f_rightBottom f_terms v2 _ hw) 1 gX1_stepCount_X1_runAt rfl ⟨rfl, rfl⟩ nm1_runAt ⟨Nat.le_of_ble_eq_true rfl, Nat.le_of_ble_eq_true rfl⟩ (q0 := 0) rfl rfl rfl rfl hl.1 rfl (Nat.le_of_ble_eq_true rfl) dX1_stepCount_15 ⟨Nat.le_of_ble_eq_true rfl, Nat.le_of_ble_eq_true rfl⟩ hPc) (fun r15 hw => ?_)
        refine lv_iadd hx hb dX1_stepCount_18 ?_
        refine lv_topi (fun x19 ex19 => ?_)
        have hw := hw x19 ex19
        refine lv_istore_n (lv' := [(1, .int x19), (0, .ref h0), (2, .int v2)]) hx hb dX1_stepCount_19 rfl hl (by decide) rfl (fun ls hl => ?_)
        obtain ⟨x20, ex20⟩ : ∃ y : Int32, y = (v2 + (1 : Int32)) := ⟨_, rfl⟩
        have hw := hw x20 ex20
        refine lv_iinc (v := x20) (lv' := [(2, .int x20), (1, .int x19), (0, .ref h0)]) hx hb dX1_stepCount_20 hl (k := 2) rfl (by rw [ex20]; rfl) (by decide) rfl (fun ls hl => ?_)
        refine lv_goto (tgt := 4) hx hb dX1_stepCount_23 (by decide) ?_
        exact ih4 x19 x20 ls hw (lv_sub hl [2, 1, 0] rfl)
  exact LOOP_4 n4 (0 : Int32) (0 : Int32) ls hw (lv_sub hl [2, 1, 0] rfl)
abbrev rm1_commonSteps : Room := { frames := 2, cells := 0, slots := 0, locals := 42 }
theorem nm1_commonSteps : kNm yX1_commonSteps 1 := by decide +kernel
set_option maxHeartbeats 4000000 in
set_option maxRecDepth 100000 in
theorem c1_commonSteps (l : Launch) (D : va_G) (cI cJ cN cR : ClassId) (h0 : Nat) (h1 : Nat) (g0 : Nat) (g1 : Nat) (f_size : Int32) (f_leftTop : Int64) (f_leftBottom : Int64) (f_rightTop : Int64) (f_rightBottom : Int64) (f_terms : (Nat → Int32)) (f_P_size : Int32) (f_P_leftTop : Int64) (f_P_leftBottom : Int64) (f_P_rightTop : Int64) (f_P_rightBottom : Int64) (f_P_terms : (Nat → Int32))  (post : Int32 → Prop) (hw : w1_commonSteps f_size f_terms f_P_size f_P_terms post) : Met l yX1_commonSteps wsX1_commonSteps rm1_commonSteps (kR D (kT cI cJ cN cR) [.ref h0, .ref g0] [(h0, o1 h1 f_size f_leftTop f_leftBottom f_rightTop f_rightBottom), (h1, ai cI 64 f_terms), (g0, o1 g1 f_P_size f_P_leftTop f_P_leftBottom f_P_rightTop f_P_rightBottom), (g1, ai cI 64 f_P_terms)]) (vp_Si post) 0 0 (fun _ => False) := by
  refine kMetRI (cc := cX1_commonSteps) (maxL := 6) (by decide +kernel) rfl (Nat.le_of_ble_eq_true rfl) ?_
  intro p e s m args below meth c H ls Q C0 hK hN hP hl RET
  obtain ⟨hx, hb, hml, hown, hts⟩ := id C0
  have hl : lv_has ls 6 [(0, .ref h0), (1, .ref g0)] := hl
  have g15 := hts (.fieldLink RX1 15 "SternBrocotExplorer$Expansion" "size" "I") (by decide +kernel)
  have hi9 : ∀ w ∈ wsX10, w ∈ wsX1_commonSteps := fun w h => List.mem_cons_of_mem _ (List.mem_append_right _ h)
  unfold w1_commonSteps at hw
  refine lv_iconst (v := (0 : Int32)) hx hb dX1_commonSteps_0 (by decide) ?_
  refine lv_istore_n (lv' := [(2, .int (0 : Int32)), (0, .ref h0), (1, .ref g0)]) hx hb dX1_commonSteps_1 rfl hl (by decide) rfl (fun ls hl => ?_)
  refine lv_iconst (v := (0 : Int32)) hx hb dX1_commonSteps_2 (by decide) ?_
  refine lv_istore_n (lv' := [(3, .int (0 : Int32)), (2, .int (0 : Int32)), (0, .ref h0), (1, .ref g0)]) hx hb dX1_commonSteps_3 rfl hl (by decide) rfl (fun ls hl => ?_)
  obtain ⟨n4, hw⟩ := hw
  have LOOP_4 : ∀ (n4 : Nat) (v2 : Int32) (v3 : Int32) (ls : Array Slot), w1_commonSteps_L4 f_size f_terms f_P_size f_P_terms post n4 v2 v3 → lv_has ls 6 [(0, .ref h0), (1, .ref g0), (2, .int v2), (3, .int v3)] → W p l e rm1_commonSteps s m args below meth c H [] 0 0 Q (F0 m 4 ls []) := by
    clear hw hl
    intro n4
    induction n4 with
    | zero =>
      intro v2 v3 ls hw hl
      rw [w1_commonSteps_L4] at hw
      exact hw.elim
    | succ n4 ih4 =>
      intro v2 v3 ls hw hl
      rw [w1_commonSteps_L4] at hw
      refine lv_iload_n hx hb dX1_commonSteps_4 rfl (lv_at hl 3 rfl) ?_
      refine lv_aload_n hx hb dX1_commonSteps_5 rfl (lv_at hl 0 rfl) ?_
      refine va_get (D := D) (ci := 0) (v := .int f_size) (C := RX1) (T := TX1) (N := 6) hx hb hts hi9 hown hK hP 0 rfl rfl 1 (by decide) g15 (fun _ h9 => h9) rfl dX1_commonSteps_6 ?_
      refine lv_icmp_ge (tgt := 66) hx hb dX1_commonSteps_9 (by decide) (fun k => ?_) (fun k => ?_)
      · have hw := hw.1 k
        refine lv_iload_n hx hb dX1_commonSteps_66 rfl (lv_at hl 2 rfl) ?_
        exact RET _ _ _ hw dX1_commonSteps_67
      · have hw := hw.2 k
        refine lv_iload_n hx hb dX1_commonSteps_12 rfl (lv_at hl 3 rfl) ?_
        refine lv_aload_n hx hb dX1_commonSteps_13 rfl (lv_at hl 1 rfl) ?_
        refine va_get (D := D) (ci := 0) (v := .int f_P_size) (C := RX1) (T := TX1) (N := 6) hx hb hts hi9 hown hK hP 2 rfl rfl 1 (by decide) g15 (fun _ h9 => h9) rfl dX1_commonSteps_14 ?_
        refine lv_icmp_ge (tgt := 66) hx hb dX1_commonSteps_17 (by decide) (fun k => ?_) (fun k => ?_)
        · have hw := hw.1 k
          refine lv_iload_n hx hb dX1_commonSteps_66 rfl (lv_at hl 2 rfl) ?_
          exact RET _ _ _ hw dX1_commonSteps_67
        · have hw := hw.2 k
          refine lv_aload_n hx hb dX1_commonSteps_20 rfl (lv_at hl 0 rfl) ?_
          refine lv_iload_n hx hb dX1_commonSteps_21 rfl (lv_at hl 3 rfl) ?_
          refine kcRI (wc := [(h0, o1 h1 f_size f_leftTop f_leftBottom f_rightTop f_rightBottom), (h1, ai cI 64 f_terms)]) hP [0, 1] rfl (fun hPc => oV (As := [.int v3]) (rest := []) C0 hK hN (c1_runAt l D cI cJ cN cR h0 h1 f_size f_leftTop f_leftBottom f_rightTop f_rightBottom f_terms v3 _ hw) 1 gX1_commonSteps_X1_runAt rfl ⟨rfl, rfl⟩ nm1_runAt ⟨Nat.le_of_ble_eq_true rfl, Nat.le_of_ble_eq_true rfl⟩ (q0 := 0) rfl rfl rfl rfl hl.1 rfl (Nat.le_of_ble_eq_true rfl) dX1_commonSteps_22 ⟨Nat.le_of_ble_eq_true rfl, Nat.le_of_ble_eq_true rfl⟩ hPc) (fun r22 hw => ?_)
          refine lv_istore (lv' := [(4, .int r22), (0, .ref h0), (1, .ref g0), (2, .int v2), (3, .int v3)]) hx hb dX1_commonSteps_25 hl (by decide) rfl (fun ls hl => ?_)
          refine lv_aload_n hx hb dX1_commonSteps_27 rfl (lv_at hl 2 rfl) ?_
          refine lv_iload_n hx hb dX1_commonSteps_28 rfl (lv_at hl 4 rfl) ?_
          refine kcRI (wc := [(g0, o1 g1 f_P_size f_P_leftTop f_P_leftBottom f_P_rightTop f_P_rightBottom), (g1, ai cI 64 f_P_terms)]) hP [2, 3] rfl (fun hPc => oV (As := [.int v3]) (rest := []) C0 hK hN (c1_runAt l D cI cJ cN cR g0 g1 f_P_size f_P_leftTop f_P_leftBottom f_P_rightTop f_P_rightBottom f_P_terms v3 _ hw) 1 gX1_commonSteps_X1_runAt rfl ⟨rfl, rfl⟩ nm1_runAt ⟨Nat.le_of_ble_eq_true rfl, Nat.le_of_ble_eq_true rfl⟩ (q0 := 0) rfl rfl rfl rfl hl.1 rfl (Nat.le_of_ble_eq_true rfl) dX1_commonSteps_29 ⟨Nat.le_of_ble_eq_true rfl, Nat.le_of_ble_eq_true rfl⟩ hPc) (fun r29 hw => ?_)
          refine lv_istore (lv' := [(5, .int r29), (4, .int r22), (0, .ref h0), (1, .ref g0), (2, .int v2), (3, .int v3)]) hx hb dX1_commonSteps_32 hl (by decide) rfl (fun ls hl => ?_)
          refine lv_iload_n hx hb dX1_commonSteps_34 rfl (lv_at hl 4 rfl) ?_
          refine lv_iload hx hb dX1_commonSteps_35 (lv_at hl 1 rfl) ?_
          refine lv_iload hx hb dX1_commonSteps_37 (lv_at hl 0 rfl) ?_
          refine lv_icmp_ge (tgt := 47) hx hb dX1_commonSteps_39 (by decide) (fun k => ?_) (fun k => ?_)
          · have hw := hw.1 k
            refine lv_iload hx hb dX1_commonSteps_47 (lv_at hl 0 rfl) ?_
            refine lv_iadd hx hb dX1_commonSteps_49 ?_
            refine lv_topi (fun x50 ex50 => ?_)
            have hw := hw x50 ex50
            refine lv_istore_n (lv' := [(2, .int x50), (5, .int r29), (4, .int r22), (0, .ref h0), (1, .ref g0), (3, .int v3)]) hx hb dX1_commonSteps_50 rfl hl (by decide) rfl (fun ls hl => ?_)
            refine lv_iload hx hb dX1_commonSteps_51 (lv_at hl 2 rfl) ?_
            refine lv_iload hx hb dX1_commonSteps_53 (lv_at hl 1 rfl) ?_
            refine lv_icmp_eq (tgt := 60) hx hb dX1_commonSteps_55 (by decide) (fun k => ?_) (fun k => ?_)
            · have hw := hw.1 k
              obtain ⟨x60, ex60⟩ : ∃ y : Int32, y = (v3 + (1 : Int32)) := ⟨_, rfl⟩
              have hw := hw x60 ex60
              refine lv_iinc (v := x60) (lv' := [(3, .int x60), (2, .int x50), (5, .int r29), (4, .int r22), (0, .ref h0), (1, .ref g0)]) hx hb dX1_commonSteps_60 hl (k := 5) rfl (by rw [ex60]; rfl) (by decide) rfl (fun ls hl => ?_)
              refine lv_goto (tgt := 4) hx hb dX1_commonSteps_63 (by decide) ?_
              exact ih4 x50 x60 ls hw (lv_sub hl [4, 5, 1, 0] rfl)
            · have hw := hw.2 k
              refine lv_iload_n hx hb dX1_commonSteps_58 rfl (lv_at hl 0 rfl) ?_
              exact RET _ _ _ hw dX1_commonSteps_59
          · have hw := hw.2 k
            refine lv_iload hx hb dX1_commonSteps_42 (lv_at hl 1 rfl) ?_
            refine lv_goto (tgt := 49) hx hb dX1_commonSteps_44 (by decide) ?_
            refine lv_iadd hx hb dX1_commonSteps_49 ?_
            refine lv_topi (fun x50 ex50 => ?_)
            have hw := hw x50 ex50
            refine lv_istore_n (lv' := [(2, .int x50), (5, .int r29), (4, .int r22), (0, .ref h0), (1, .ref g0), (3, .int v3)]) hx hb dX1_commonSteps_50 rfl hl (by decide) rfl (fun ls hl => ?_)
            refine lv_iload hx hb dX1_commonSteps_51 (lv_at hl 2 rfl) ?_
            refine lv_iload hx hb dX1_commonSteps_53 (lv_at hl 1 rfl) ?_
            refine lv_icmp_eq (tgt := 60) hx hb dX1_commonSteps_55 (by decide) (fun k => ?_) (fun k => ?_)
            · have hw := hw.1 k
              obtain ⟨x60, ex60⟩ : ∃ y : Int32, y = (v3 + (1 : Int32)) := ⟨_, rfl⟩
              have hw := hw x60 ex60
              refine lv_iinc (v := x60) (lv' := [(3, .int x60), (2, .int x50), (5, .int r29), (4, .int r22), (0, .ref h0), (1, .ref g0)]) hx hb dX1_commonSteps_60 hl (k := 5) rfl (by rw [ex60]; rfl) (by decide) rfl (fun ls hl => ?_)
              refine lv_goto (tgt := 4) hx hb dX1_commonSteps_63 (by decide) ?_
              exact ih4 x50 x60 ls hw (lv_sub hl [4, 5, 1, 0] rfl)
            · have hw := hw.2 k
              refine lv_iload_n hx hb dX1_commonSteps_58 rfl (lv_at hl 0 rfl) ?_
              exact RET _ _ _ hw dX1_commonSteps_59
  exact LOOP_4 n4 (0 : Int32) (0 : Int32) ls hw (lv_sub hl [2, 3, 1, 0] rfl)
abbrev rm1_cutToDepth : Room := { frames := 2, cells := 0, slots := 0, locals := 42 }
theorem nm1_cutToDepth : kNm yX1_cutToDepth 1 := by decide +kernel
set_option maxHeartbeats 4000000 in
set_option maxRecDepth 100000 in
theorem c1_cutToDepth (l : Launch) (D : va_G) (cI cJ cN cR : ClassId) (h0 : Nat) (h1 : Nat) (sz : Nat) (f_size : Int32) (f_leftTop : Int64) (f_leftBottom : Int64) (f_rightTop : Int64) (f_rightBottom : Int64) (f_terms : (Nat → Int32)) (v1 : Int32) (post : Int32 → (Nat → Int32) → Prop) (hw : w1_cutToDepth f_size f_terms v1 post) : Met l yX1_cutToDepth wsX1_cutToDepth rm1_cutToDepth (kP D (kT cI cJ cN cR) sz [.ref h0, .int v1] [(h0, o1 h1 f_size f_leftTop f_leftBottom f_rightTop f_rightBottom), (h1, ai cI 64 f_terms)]) (kQv D [(h0, o1 h1 f_size f_leftTop f_leftBottom f_rightTop f_rightBottom), (h1, ai cI 64 f_terms)] sz (fun (u : Int32 × (Nat → Int32)) => post u.1 u.2) (fun (u : Int32 × (Nat → Int32)) => [(h0, o1 h1 u.1 f_leftTop f_leftBottom f_rightTop f_rightBottom), (h1, ai cI 64 u.2)])) 0 0 (va_A [(h0, o1 h1 f_size f_leftTop f_leftBottom f_rightTop f_rightBottom), (h1, ai cI 64 f_terms)] sz) := by
  refine kMetV (cc := cX1_cutToDepth) (maxL := 5) (by decide +kernel) rfl (Nat.le_of_ble_eq_true rfl) ?_
  intro p e s m args below meth c H0 ls A Q C0 hK hN hP hD hS hA hl RET
  obtain ⟨hx, hb, hml, hown, hts⟩ := id C0
  have hl : lv_has ls 5 [(0, .ref h0), (1, .int v1)] := hl
  have g15 := hts (.fieldLink RX1 15 "SternBrocotExplorer$Expansion" "size" "I") (by decide +kernel)
  have g9 := hts (.fieldLink RX1 9 "SternBrocotExplorer$Expansion" "terms" "[I") (by decide +kernel)
  have hi9 : ∀ w ∈ wsX10, w ∈ wsX1_cutToDepth := fun w h => List.mem_cons_of_mem _ (List.mem_append_right _ h)
  unfold w1_cutToDepth at hw
  have hP : va_P D vwCl [(h0, o1 h1 f_size f_leftTop f_leftBottom f_rightTop f_rightBottom), (h1, ai cI 64 f_terms)] H0 := hP
  refine lv_iload_n hx hb dX1_cutToDepth_0 rfl (lv_at hl 1 rfl) ?_
  refine lv_istore_n (lv' := [(2, .int v1), (0, .ref h0), (1, .int v1)]) hx hb dX1_cutToDepth_1 rfl hl (by decide) rfl (fun ls hl => ?_)
  refine lv_iconst (v := (0 : Int32)) hx hb dX1_cutToDepth_2 (by decide) ?_
  refine lv_istore_n (lv' := [(3, .int (0 : Int32)), (2, .int v1), (0, .ref h0), (1, .int v1)]) hx hb dX1_cutToDepth_3 rfl hl (by decide) rfl (fun ls hl => ?_)
  obtain ⟨n4, hw⟩ := hw
  have LOOP_4 : ∀ (n4 : Nat) (v2 : Int32) (v3 : Int32) (H : Heap) (locs : List Loc) (ls : Array Slot), w1_cutToDepth_L4 f_size f_terms post n4 v2 v3 → va_P D vwCl [(h0, o1 h1 f_size f_leftTop f_leftBottom f_rightTop f_rightBottom), (h1, ai cI 64 f_terms)] H → va_D A [(h0, o1 h1 f_size f_leftTop f_leftBottom f_rightTop f_rightBottom), (h1, ai cI 64 f_terms)] → va_S A H0 H locs → lv_has ls 5 [(0, .ref h0), (2, .int v2), (3, .int v3)] → W p l e rm1_cutToDepth s m args below meth c H locs 0 0 Q (F0 m 4 ls []) := by
    clear hw hl hP hD hS
    intro n4
    induction n4 with
    | zero =>
      intro v2 v3 H locs ls hw hP hD hS hl
      rw [w1_cutToDepth_L4] at hw
      exact hw.elim
    | succ n4 ih4 =>
      intro v2 v3 H locs ls hw hP hD hS hl
      rw [w1_cutToDepth_L4] at hw
      refine lv_iload_n hx hb dX1_cutToDepth_4 rfl (lv_at hl 2 rfl) ?_
      refine lv_aload_n hx hb dX1_cutToDepth_5 rfl (lv_at hl 0 rfl) ?_
      refine va_get (D := D) (ci := 0) (v := .int f_size) (C := RX1) (T := TX1) (N := 6) hx hb hts hi9 hown hK hP 0 rfl rfl 1 (by decide) g15 (fun _ h9 => h9) rfl dX1_cutToDepth_6 ?_
      refine lv_icmp_ge (tgt := 53) hx hb dX1_cutToDepth_9 (by decide) (fun k => ?_) (fun k => ?_)
      · have hw := hw.1 k
        exact RET _ _ (f_size, f_terms) _ _ hw hP hD hS dX1_cutToDepth_53
      · have hw := hw.2 k
        refine lv_aload_n hx hb dX1_cutToDepth_12 rfl (lv_at hl 0 rfl) ?_
        refine lv_iload_n hx hb dX1_cutToDepth_13 rfl (lv_at hl 2 rfl) ?_
        refine kcRI (wc := [(h0, o1 h1 f_size f_leftTop f_leftBottom f_rightTop f_rightBottom), (h1, ai cI 64 f_terms)]) hP [0, 1] rfl (fun hPc => oV (As := [.int v3]) (rest := []) C0 hK hN (c1_runAt l D cI cJ cN cR h0 h1 f_size f_leftTop f_leftBottom f_rightTop f_rightBottom f_terms v3 _ hw) 1 gX1_cutToDepth_X1_runAt rfl ⟨rfl, rfl⟩ nm1_runAt ⟨Nat.le_of_ble_eq_true rfl, Nat.le_of_ble_eq_true rfl⟩ (q0 := 0) rfl rfl rfl rfl hl.1 rfl (Nat.le_of_ble_eq_true rfl) dX1_cutToDepth_14 ⟨Nat.le_of_ble_eq_true rfl, Nat.le_of_ble_eq_true rfl⟩ hPc) (fun r14 hw => ?_)
        refine lv_istore (lv' := [(4, .int r14), (0, .ref h0), (2, .int v2), (3, .int v3)]) hx hb dX1_cutToDepth_17 hl (by decide) rfl (fun ls hl => ?_)
        refine lv_iload_n hx hb dX1_cutToDepth_19 rfl (lv_at hl 2 rfl) ?_
        refine lv_iload hx hb dX1_cutToDepth_20 (lv_at hl 0 rfl) ?_
        refine lv_icmp_gt (tgt := 42) hx hb dX1_cutToDepth_22 (by decide) (fun k => ?_) (fun k => ?_)
        · have hw := hw.1 k
          refine lv_iload_n hx hb dX1_cutToDepth_42 rfl (lv_at hl 2 rfl) ?_
          refine lv_iload hx hb dX1_cutToDepth_43 (lv_at hl 0 rfl) ?_
          refine lv_isub hx hb dX1_cutToDepth_45 ?_
          refine lv_topi (fun x46 ex46 => ?_)
          have hw := hw x46 ex46
          refine lv_istore_n (lv' := [(2, .int x46), (4, .int r14), (0, .ref h0), (3, .int v3)]) hx hb dX1_cutToDepth_46 rfl hl (by decide) rfl (fun ls hl => ?_)
          obtain ⟨x47, ex47⟩ : ∃ y : Int32, y = (v3 + (1 : Int32)) := ⟨_, rfl⟩
          have hw := hw x47 ex47
          refine lv_iinc (v := x47) (lv' := [(3, .int x47), (2, .int x46), (4, .int r14), (0, .ref h0)]) hx hb dX1_cutToDepth_47 hl (k := 3) rfl (by rw [ex47]; rfl) (by decide) rfl (fun ls hl => ?_)
          refine lv_goto (tgt := 4) hx hb dX1_cutToDepth_50 (by decide) ?_
          exact ih4 x46 x47 _ _ ls hw hP hD hS (lv_sub hl [3, 1, 0] rfl)
        · have hw := hw.2 k
          refine lv_aload_n hx hb dX1_cutToDepth_25 rfl (lv_at hl 1 rfl) ?_
          refine va_get (D := D) (ci := 0) (v := .ref h1) (C := RX1) (T := TX1) (N := 6) hx hb hts hi9 hown hK hP 0 rfl rfl 0 (by decide) g9 (fun _ h9 => h9) rfl dX1_cutToDepth_26 ?_
          refine lv_iload_n hx hb dX1_cutToDepth_29 rfl (lv_at hl 3 rfl) ?_
          refine lv_iload_n hx hb dX1_cutToDepth_30 rfl (lv_at hl 2 rfl) ?_
          refine lv_iconst (v := (1 : Int32)) hx hb dX1_cutToDepth_31 (by decide) ?_
          refine lv_iadd hx hb dX1_cutToDepth_32 ?_
          obtain ⟨hin, hw⟩ := hw
          refine va_iast hx hb hK hP hD hS 1 0 rfl rfl hin dX1_cutToDepth_33 (fun H locs hP hD hS => ?_)
          have hP : va_P D vwCl [(h0, o1 h1 f_size f_leftTop f_leftBottom f_rightTop f_rightBottom), (h1, ai cI 64 (upd f_terms v3.toNatClampNeg (v2 + (1 : Int32))))] H := hP
          have hD : va_D A [(h0, o1 h1 f_size f_leftTop f_leftBottom f_rightTop f_rightBottom), (h1, ai cI 64 (upd f_terms v3.toNatClampNeg (v2 + (1 : Int32))))] := hD
          refine lv_aload_n hx hb dX1_cutToDepth_34 rfl (lv_at hl 1 rfl) ?_
          refine lv_iload_n hx hb dX1_cutToDepth_35 rfl (lv_at hl 3 rfl) ?_
          refine lv_iconst (v := (1 : Int32)) hx hb dX1_cutToDepth_36 (by decide) ?_
          refine lv_iadd hx hb dX1_cutToDepth_37 ?_
          refine lv_topi (fun x38 ex38 => ?_)
          have hw := hw x38 ex38
          refine va_put (D := D) (ci := 0) (v := .int x38) (ty := .int) (C := RX1) (T := TX1) (N := 6) hx hb hts hi9 tyX1 tyX1_ok nmX1 hown hK hP hD hS 0 rfl rfl 1 (by decide) g15 (fun _ h9 => h9) rfl (by decide +kernel) rfl rfl (Nat.le_of_ble_eq_true rfl) dX1_cutToDepth_38 (fun H locs hP hD hS => ?_)
          have hP : va_P D vwCl [(h0, o1 h1 x38 f_leftTop f_leftBottom f_rightTop f_rightBottom), (h1, ai cI 64 (upd f_terms v3.toNatClampNeg (v2 + (1 : Int32))))] H := hP
          have hD : va_D A [(h0, o1 h1 x38 f_leftTop f_leftBottom f_rightTop f_rightBottom), (h1, ai cI 64 (upd f_terms v3.toNatClampNeg (v2 + (1 : Int32))))] := hD
          exact RET _ _ (x38, (upd f_terms v3.toNatClampNeg (v2 + (1 : Int32)))) _ _ hw hP hD hS dX1_cutToDepth_41
  exact LOOP_4 n4 v1 (0 : Int32) _ _ ls hw hP hD hS (lv_sub hl [2, 1, 0] rfl)
abbrev rm1_size : Room := { frames := 0, cells := 0, slots := 0, locals := 0 }
theorem nm1_size : kNm yX1_size 0 := by decide +kernel
set_option maxHeartbeats 4000000 in
set_option maxRecDepth 100000 in
theorem c1_size (l : Launch) (D : va_G) (cI cJ cN cR : ClassId) (h0 : Nat) (h1 : Nat) (f_size : Int32) (f_leftTop : Int64) (f_leftBottom : Int64) (f_rightTop : Int64) (f_rightBottom : Int64)  (post : Int32 → Prop) (hw : w1_size f_size post) : Met l yX1_size wsX1_size rm1_size (kR D (kT cI cJ cN cR) [.ref h0] [(h0, o1 h1 f_size f_leftTop f_leftBottom f_rightTop f_rightBottom)]) (vp_Si post) 0 0 (fun _ => False) := by
  refine kMetRI (cc := cX1_size) (maxL := 1) (by decide +kernel) rfl (Nat.le_of_ble_eq_true rfl) ?_
  intro p e s m args below meth c H ls Q C0 hK hN hP hl RET
  obtain ⟨hx, hb, hml, hown, hts⟩ := id C0
  have hl : lv_has ls 1 [(0, .ref h0)] := hl
  have g15 := hts (.fieldLink RX1 15 "SternBrocotExplorer$Expansion" "size" "I") (by decide +kernel)
  have hi9 : ∀ w ∈ wsX10, w ∈ wsX1_size := fun w h => List.mem_cons_of_mem _ (List.mem_append_right _ h)
  unfold w1_size at hw
  refine lv_aload_n hx hb dX1_size_0 rfl (lv_at hl 0 rfl) ?_
  refine va_get (D := D) (ci := 0) (v := .int f_size) (C := RX1) (T := TX1) (N := 6) hx hb hts hi9 hown hK hP 0 rfl rfl 1 (by decide) g15 (fun _ h9 => h9) rfl dX1_size_1 ?_
  exact RET _ _ _ hw dX1_size_4
abbrev rm1_lastByRule : Room := { frames := 0, cells := 0, slots := 0, locals := 0 }
theorem nm1_lastByRule : kNm yX1_lastByRule 3 := by decide +kernel
set_option maxHeartbeats 4000000 in
set_option maxRecDepth 100000 in
theorem c1_lastByRule (l : Launch) (D : va_G) (cI cJ cN cR : ClassId) (h0 : Nat) (h1 : Nat) (f_size : Int32) (f_leftTop : Int64) (f_leftBottom : Int64) (f_rightTop : Int64) (f_rightBottom : Int64) (f_terms : (Nat → Int32)) (v1 : Int32) (v2 : Int64) (v4 : Int64) (post : Int64 → Prop) (hw : w1_lastByRule f_size f_terms v1 v2 v4 post) : Met l yX1_lastByRule wsX1_lastByRule rm1_lastByRule (kR D (kT cI cJ cN cR) [.ref h0, .int v1, .long v2, .long v4] [(h0, o1 h1 f_size f_leftTop f_leftBottom f_rightTop f_rightBottom), (h1, ai cI 64 f_terms)]) (vp_Sl post) 0 0 (fun _ => False) := by
  refine kMetRL (cc := cX1_lastByRule) (maxL := 13) (by decide +kernel) rfl (Nat.le_of_ble_eq_true rfl) ?_
  intro p e s m args below meth c H ls Q C0 hK hN hP hl RET
  obtain ⟨hx, hb, hml, hown, hts⟩ := id C0
  have hl : lv_has ls 13 [(0, .ref h0), (1, .int v1), (2, .long v2), (4, .long v4)] := hl
  have g15 := hts (.fieldLink RX1 15 "SternBrocotExplorer$Expansion" "size" "I") (by decide +kernel)
  have g9 := hts (.fieldLink RX1 9 "SternBrocotExplorer$Expansion" "terms" "[I") (by decide +kernel)
  have hi9 : ∀ w ∈ wsX10, w ∈ wsX1_lastByRule := fun w h => List.mem_cons_of_mem _ (List.mem_append_right _ h)
  unfold w1_lastByRule at hw
  refine lv_iload_n hx hb dX1_lastByRule_0 rfl (lv_at hl 1 rfl) ?_
  refine lv_iconst (v := (-1 : Int32)) hx hb dX1_lastByRule_1 (by decide) ?_
  refine lv_icmp_ge (tgt := 7) hx hb dX1_lastByRule_2 (by decide) (fun k => ?_) (fun k => ?_)
  · have hw := hw.1 k
    refine lv_lload_n hx hb dX1_lastByRule_7 rfl (lv_at hl 2 rfl) ?_
    refine lv_lstore (lv' := [(6, .long v2), (0, .ref h0), (1, .int v1), (2, .long v2), (4, .long v4)]) hx hb dX1_lastByRule_8 hl (by decide) rfl (fun ls hl => ?_)
    refine lv_lload hx hb dX1_lastByRule_10 (lv_at hl 4 rfl) ?_
    refine lv_lstore (lv' := [(8, .long v4), (6, .long v2), (0, .ref h0), (1, .int v1), (2, .long v2), (4, .long v4)]) hx hb dX1_lastByRule_12 hl (by decide) rfl (fun ls hl => ?_)
    refine lv_iconst (v := (0 : Int32)) hx hb dX1_lastByRule_14 (by decide) ?_
    refine lv_istore (lv' := [(10, .int (0 : Int32)), (8, .long v4), (6, .long v2), (0, .ref h0), (1, .int v1), (2, .long v2), (4, .long v4)]) hx hb dX1_lastByRule_15 hl (by decide) rfl (fun ls hl => ?_)
    obtain ⟨n17, hw⟩ := hw
    have LOOP_17 : ∀ (n17 : Nat) (v6 : Int64) (v8 : Int64) (v10 : Int32) (ls : Array Slot), w1_lastByRule_L17 f_size f_terms v1 post n17 v6 v8 v10 → lv_has ls 13 [(0, .ref h0), (1, .int v1), (6, .long v6), (8, .long v8), (10, .int v10)] → W p l e rm1_lastByRule s m args below meth c H [] 0 0 Q (F0 m 17 ls []) := by
      clear hw hl
      intro n17
      induction n17 with
      | zero =>
        intro v6 v8 v10 ls hw hl
        rw [w1_lastByRule_L17] at hw
        exact hw.elim
      | succ n17 ih17 =>
        intro v6 v8 v10 ls hw hl
        rw [w1_lastByRule_L17] at hw
        refine lv_iload hx hb dX1_lastByRule_17 (lv_at hl 4 rfl) ?_
        refine lv_iload_n hx hb dX1_lastByRule_19 rfl (lv_at hl 1 rfl) ?_
        refine lv_icmp_gt (tgt := 62) hx hb dX1_lastByRule_20 (by decide) (fun k => ?_) (fun k => ?_)
        · have hw := hw.1 k
          refine lv_lload hx hb dX1_lastByRule_62 (lv_at hl 3 rfl) ?_
          exact RET _ _ _ hw dX1_lastByRule_64
        · have hw := hw.2 k
          refine lv_iload hx hb dX1_lastByRule_23 (lv_at hl 4 rfl) ?_
          refine lv_aload_n hx hb dX1_lastByRule_25 rfl (lv_at hl 0 rfl) ?_
          refine va_get (D := D) (ci := 0) (v := .int f_size) (C := RX1) (T := TX1) (N := 6) hx hb hts hi9 hown hK hP 0 rfl rfl 1 (by decide) g15 (fun _ h9 => h9) rfl dX1_lastByRule_26 ?_
          refine lv_icmp_ge (tgt := 62) hx hb dX1_lastByRule_29 (by decide) (fun k => ?_) (fun k => ?_)
          · have hw := hw.1 k
            refine lv_lload hx hb dX1_lastByRule_62 (lv_at hl 3 rfl) ?_
            exact RET _ _ _ hw dX1_lastByRule_64
          · have hw := hw.2 k
            refine lv_aload_n hx hb dX1_lastByRule_32 rfl (lv_at hl 0 rfl) ?_
            refine va_get (D := D) (ci := 0) (v := .ref h1) (C := RX1) (T := TX1) (N := 6) hx hb hts hi9 hown hK hP 0 rfl rfl 0 (by decide) g9 (fun _ h9 => h9) rfl dX1_lastByRule_33 ?_
            refine lv_iload hx hb dX1_lastByRule_36 (lv_at hl 4 rfl) ?_
            obtain ⟨hin, hw⟩ := hw
            refine va_iald hx hb hK hP 1 0 rfl rfl hin dX1_lastByRule_38 ?_
            refine lv_i2l hx hb dX1_lastByRule_39 rfl ?_
            refine lv_lload hx hb dX1_lastByRule_40 (lv_at hl 3 rfl) ?_
            refine lv_lmul hx hb dX1_lastByRule_42 ?_
            refine lv_lload hx hb dX1_lastByRule_43 (lv_at hl 2 rfl) ?_
            refine lv_ladd hx hb dX1_lastByRule_45 ?_
            refine lv_topl (fun x46 ex46 => ?_)
            have hw := hw x46 ex46
            refine lv_lstore (lv' := [(11, .long x46), (0, .ref h0), (1, .int v1), (6, .long v6), (8, .long v8), (10, .int v10)]) hx hb dX1_lastByRule_46 hl (by decide) rfl (fun ls hl => ?_)
            refine lv_lload hx hb dX1_lastByRule_48 (lv_at hl 4 rfl) ?_
            refine lv_lstore (lv' := [(6, .long v8), (11, .long x46), (0, .ref h0), (1, .int v1), (8, .long v8), (10, .int v10)]) hx hb dX1_lastByRule_50 hl (by decide) rfl (fun ls hl => ?_)
            refine lv_lload hx hb dX1_lastByRule_52 (lv_at hl 1 rfl) ?_
            refine lv_lstore (lv' := [(8, .long x46), (6, .long v8), (11, .long x46), (0, .ref h0), (1, .int v1), (10, .int v10)]) hx hb dX1_lastByRule_54 hl (by decide) rfl (fun ls hl => ?_)
            obtain ⟨x56, ex56⟩ : ∃ y : Int32, y = (v10 + (1 : Int32)) := ⟨_, rfl⟩
            have hw := hw x56 ex56
            refine lv_iinc (v := x56) (lv' := [(10, .int x56), (8, .long x46), (6, .long v8), (11, .long x46), (0, .ref h0), (1, .int v1)]) hx hb dX1_lastByRule_56 hl (k := 5) rfl (by rw [ex56]; rfl) (by decide) rfl (fun ls hl => ?_)
            refine lv_goto (tgt := 17) hx hb dX1_lastByRule_59 (by decide) ?_
            exact ih17 v8 x46 x56 ls hw (lv_sub hl [4, 5, 2, 1, 0] rfl)
    exact LOOP_17 n17 v2 v4 (0 : Int32) ls hw (lv_sub hl [3, 4, 2, 1, 0] rfl)
  · have hw := hw.2 k
    refine lv_lload_n hx hb dX1_lastByRule_5 rfl (lv_at hl 2 rfl) ?_
    exact RET _ _ _ hw dX1_lastByRule_6
abbrev rm1_convergentTop : Room := { frames := 1, cells := 0, slots := 0, locals := 32 }
theorem nm1_convergentTop : kNm yX1_convergentTop 1 := by decide +kernel
set_option maxHeartbeats 4000000 in
set_option maxRecDepth 100000 in
theorem c1_convergentTop (l : Launch) (D : va_G) (cI cJ cN cR : ClassId) (h0 : Nat) (h1 : Nat) (f_size : Int32) (f_leftTop : Int64) (f_leftBottom : Int64) (f_rightTop : Int64) (f_rightBottom : Int64) (f_terms : (Nat → Int32)) (v1 : Int32) (post : Int64 → Prop) (hw : w1_convergentTop f_size f_terms v1 post) : Met l yX1_convergentTop wsX1_convergentTop rm1_convergentTop (kR D (kT cI cJ cN cR) [.ref h0, .int v1] [(h0, o1 h1 f_size f_leftTop f_leftBottom f_rightTop f_rightBottom), (h1, ai cI 64 f_terms)]) (vp_Sl post) 0 0 (fun _ => False) := by
  refine kMetRL (cc := cX1_convergentTop) (maxL := 2) (by decide +kernel) rfl (Nat.le_of_ble_eq_true rfl) ?_
  intro p e s m args below meth c H ls Q C0 hK hN hP hl RET
  obtain ⟨hx, hb, hml, hown, hts⟩ := id C0
  have hl : lv_has ls 2 [(0, .ref h0), (1, .int v1)] := hl
  unfold w1_convergentTop at hw
  refine lv_aload_n hx hb dX1_convergentTop_0 rfl (lv_at hl 0 rfl) ?_
  refine lv_iload_n hx hb dX1_convergentTop_1 rfl (lv_at hl 1 rfl) ?_
  refine lv_lconst (v := (0 : Int64)) hx hb dX1_convergentTop_2 (by decide) ?_
  refine lv_lconst (v := (1 : Int64)) hx hb dX1_convergentTop_3 (by decide) ?_
  refine kcRL (wc := [(h0, o1 h1 f_size f_leftTop f_leftBottom f_rightTop f_rightBottom), (h1, ai cI 64 f_terms)]) hP [0, 1] rfl (fun hPc => oV (As := [.int v1, .long (0 : Int64), .long (1 : Int64)]) (rest := []) C0 hK hN (c1_lastByRule l D cI cJ cN cR h0 h1 f_size f_leftTop f_leftBottom f_rightTop f_rightBottom f_terms v1 (0 : Int64) (1 : Int64) _ hw) 3 gX1_convergentTop_X1_lastByRule rfl ⟨rfl, rfl⟩ nm1_lastByRule ⟨Nat.le_of_ble_eq_true rfl, Nat.le_of_ble_eq_true rfl⟩ (q0 := 0) rfl rfl rfl rfl hl.1 rfl (Nat.le_of_ble_eq_true rfl) dX1_convergentTop_4 ⟨Nat.le_of_ble_eq_true rfl, Nat.le_of_ble_eq_true rfl⟩ hPc) (fun r4 hw => ?_)
  exact RET _ _ _ hw dX1_convergentTop_7
abbrev rm1_convergentBottom : Room := { frames := 1, cells := 0, slots := 0, locals := 32 }
theorem nm1_convergentBottom : kNm yX1_convergentBottom 1 := by decide +kernel
set_option maxHeartbeats 4000000 in
set_option maxRecDepth 100000 in
theorem c1_convergentBottom (l : Launch) (D : va_G) (cI cJ cN cR : ClassId) (h0 : Nat) (h1 : Nat) (f_size : Int32) (f_leftTop : Int64) (f_leftBottom : Int64) (f_rightTop : Int64) (f_rightBottom : Int64) (f_terms : (Nat → Int32)) (v1 : Int32) (post : Int64 → Prop) (hw : w1_convergentBottom f_size f_terms v1 post) : Met l yX1_convergentBottom wsX1_convergentBottom rm1_convergentBottom (kR D (kT cI cJ cN cR) [.ref h0, .int v1] [(h0, o1 h1 f_size f_leftTop f_leftBottom f_rightTop f_rightBottom), (h1, ai cI 64 f_terms)]) (vp_Sl post) 0 0 (fun _ => False) := by
  refine kMetRL (cc := cX1_convergentBottom) (maxL := 2) (by decide +kernel) rfl (Nat.le_of_ble_eq_true rfl) ?_
  intro p e s m args below meth c H ls Q C0 hK hN hP hl RET
  obtain ⟨hx, hb, hml, hown, hts⟩ := id C0
  have hl : lv_has ls 2 [(0, .ref h0), (1, .int v1)] := hl
  unfold w1_convergentBottom at hw
  refine lv_aload_n hx hb dX1_convergentBottom_0 rfl (lv_at hl 0 rfl) ?_
  refine lv_iload_n hx hb dX1_convergentBottom_1 rfl (lv_at hl 1 rfl) ?_
  refine lv_lconst (v := (1 : Int64)) hx hb dX1_convergentBottom_2 (by decide) ?_
  refine lv_lconst (v := (0 : Int64)) hx hb dX1_convergentBottom_3 (by decide) ?_
  refine kcRL (wc := [(h0, o1 h1 f_size f_leftTop f_leftBottom f_rightTop f_rightBottom), (h1, ai cI 64 f_terms)]) hP [0, 1] rfl (fun hPc => oV (As := [.int v1, .long (1 : Int64), .long (0 : Int64)]) (rest := []) C0 hK hN (c1_lastByRule l D cI cJ cN cR h0 h1 f_size f_leftTop f_leftBottom f_rightTop f_rightBottom f_terms v1 (1 : Int64) (0 : Int64) _ hw) 3 gX1_convergentBottom_X1_lastByRule rfl ⟨rfl, rfl⟩ nm1_lastByRule ⟨Nat.le_of_ble_eq_true rfl, Nat.le_of_ble_eq_true rfl⟩ (q0 := 0) rfl rfl rfl rfl hl.1 rfl (Nat.le_of_ble_eq_true rfl) dX1_convergentBottom_4 ⟨Nat.le_of_ble_eq_true rfl, Nat.le_of_ble_eq_true rfl⟩ hPc) (fun r4 hw => ?_)
  exact RET _ _ _ hw dX1_convergentBottom_7
abbrev rm7_quotient : Room := { frames := 0, cells := 0, slots := 0, locals := 0 }
theorem nm7_quotient : kNm yX7_quotient 2 := by decide +kernel
set_option maxHeartbeats 4000000 in
set_option maxRecDepth 100000 in
theorem c7_quotient (l : Launch) (D : va_G) (cI cJ cN cR : ClassId)   (v0 : Int64) (v2 : Int64) (post : Int64 → Prop) (hw : w7_quotient v0 v2 post) : Met l yX7_quotient wsX7_quotient rm7_quotient (kR D (kT cI cJ cN cR) [.long v0, .long v2] []) (vp_Sl post) 0 0 (fun _ => False) := by
  refine kMetRL (cc := cX7_quotient) (maxL := 4) (by decide +kernel) rfl (Nat.le_of_ble_eq_true rfl) ?_
  intro p e s m args below meth c H ls Q C0 hK hN hP hl RET
  obtain ⟨hx, hb, hml, hown, hts⟩ := id C0
  have hl : lv_has ls 4 [(0, .long v0), (2, .long v2)] := hl
  unfold w7_quotient at hw
  refine lv_lload_n hx hb dX7_quotient_0 rfl (lv_at hl 1 rfl) ?_
  refine lv_lconst (v := (0 : Int64)) hx hb dX7_quotient_1 (by decide) ?_
  refine W.lcmp hx hb dX7_quotient_2 ?_
  refine lv_if_le (tgt := 12) hx hb dX7_quotient_3 (by decide) (fun k => ?_) (fun k => ?_)
  · have hw := hw.1 ((lg_cmp_le _ _).mp k)
    refine lv_lconst (v := (0 : Int64)) hx hb dX7_quotient_12 (by decide) ?_
    exact RET _ _ _ hw dX7_quotient_13
  · have hw := hw.2 (fun h => k ((lg_cmp_le _ _).mpr h))
    refine lv_lload_n hx hb dX7_quotient_6 rfl (lv_at hl 0 rfl) ?_
    refine lv_lload_n hx hb dX7_quotient_7 rfl (lv_at hl 1 rfl) ?_
    obtain ⟨hne, hw⟩ := hw
    refine lv_ldiv hx hb dX7_quotient_8 hne ?_
    refine lv_goto (tgt := 13) hx hb dX7_quotient_9 (by decide) ?_
    exact RET _ _ _ hw dX7_quotient_13
abbrev rm1_becomeSimplestBetween : Room := { frames := 1, cells := 0, slots := 0, locals := 23 }
theorem nm1_becomeSimplestBetween : kNm yX1_becomeSimplestBetween 4 := by decide +kernel
set_option maxHeartbeats 4000000 in
set_option maxRecDepth 100000 in
theorem c1_becomeSimplestBetween (l : Launch) (D : va_G) (cI cJ cN cR : ClassId) (h0 : Nat) (h1 : Nat) (sz : Nat) (f_size : Int32) (f_leftTop : Int64) (f_leftBottom : Int64) (f_rightTop : Int64) (f_rightBottom : Int64) (f_terms : (Nat → Int32)) (v1 : Int32) (v2 : Int32) (v3 : Int32) (v4 : Int32) (post : Int32 → (Nat → Int32) → Prop) (hw : w1_becomeSimplestBetween f_size f_terms v1 v2 v3 v4 post) : Met l yX1_becomeSimplestBetween wsX1_becomeSimplestBetween rm1_becomeSimplestBetween (kP D (kT cI cJ cN cR) sz [.ref h0, .int v1, .int v2, .int v3, .int v4] [(h0, o1 h1 f_size f_leftTop f_leftBottom f_rightTop f_rightBottom), (h1, ai cI 64 f_terms)]) (kQv D [(h0, o1 h1 f_size f_leftTop f_leftBottom f_rightTop f_rightBottom), (h1, ai cI 64 f_terms)] sz (fun (u : Int32 × (Nat → Int32)) => post u.1 u.2) (fun (u : Int32 × (Nat → Int32)) => [(h0, o1 h1 u.1 f_leftTop f_leftBottom f_rightTop f_rightBottom), (h1, ai cI 64 u.2)])) 0 0 (va_A [(h0, o1 h1 f_size f_leftTop f_leftBottom f_rightTop f_rightBottom), (h1, ai cI 64 f_terms)] sz) := by
  refine kMetV (cc := cX1_becomeSimplestBetween) (maxL := 20) (by decide +kernel) rfl (Nat.le_of_ble_eq_true rfl) ?_
  intro p e s m args below meth c H0 ls A Q C0 hK hN hP hD hS hA hl RET
  obtain ⟨hx, hb, hml, hown, hts⟩ := id C0
  have hl : lv_has ls 20 [(0, .ref h0), (1, .int v1), (2, .int v2), (3, .int v3), (4, .int v4)] := hl
  have g15 := hts (.fieldLink RX1 15 "SternBrocotExplorer$Expansion" "size" "I") (by decide +kernel)
  have hi9 : ∀ w ∈ wsX10, w ∈ wsX1_becomeSimplestBetween := fun w h => List.mem_cons_of_mem _ (List.mem_append_right _ h)
  unfold w1_becomeSimplestBetween at hw
  have hP : va_P D vwCl [(h0, o1 h1 f_size f_leftTop f_leftBottom f_rightTop f_rightBottom), (h1, ai cI 64 f_terms)] H0 := hP
  refine lv_iload_n hx hb dX1_becomeSimplestBetween_0 rfl (lv_at hl 1 rfl) ?_
  refine lv_i2l hx hb dX1_becomeSimplestBetween_1 rfl ?_
  refine lv_topl (fun x2 ex2 => ?_)
  have hw := hw x2 ex2
  refine lv_lstore (lv' := [(5, .long x2), (0, .ref h0), (1, .int v1), (2, .int v2), (3, .int v3), (4, .int v4)]) hx hb dX1_becomeSimplestBetween_2 hl (by decide) rfl (fun ls hl => ?_)
  refine lv_iload_n hx hb dX1_becomeSimplestBetween_4 rfl (lv_at hl 3 rfl) ?_
  refine lv_i2l hx hb dX1_becomeSimplestBetween_5 rfl ?_
  refine lv_topl (fun x6 ex6 => ?_)
  have hw := hw x6 ex6
  refine lv_lstore (lv' := [(7, .long x6), (5, .long x2), (0, .ref h0), (1, .int v1), (2, .int v2), (3, .int v3), (4, .int v4)]) hx hb dX1_becomeSimplestBetween_6 hl (by decide) rfl (fun ls hl => ?_)
  refine lv_iload_n hx hb dX1_becomeSimplestBetween_8 rfl (lv_at hl 5 rfl) ?_
  refine lv_i2l hx hb dX1_becomeSimplestBetween_9 rfl ?_
  refine lv_topl (fun x10 ex10 => ?_)
  have hw := hw x10 ex10
  refine lv_lstore (lv' := [(9, .long x10), (7, .long x6), (5, .long x2), (0, .ref h0), (1, .int v1), (2, .int v2), (3, .int v3), (4, .int v4)]) hx hb dX1_becomeSimplestBetween_10 hl (by decide) rfl (fun ls hl => ?_)
  refine lv_iload hx hb dX1_becomeSimplestBetween_12 (lv_at hl 7 rfl) ?_
  refine lv_i2l hx hb dX1_becomeSimplestBetween_14 rfl ?_
  refine lv_topl (fun x15 ex15 => ?_)
  have hw := hw x15 ex15
  refine lv_lstore (lv' := [(11, .long x15), (9, .long x10), (7, .long x6), (5, .long x2), (0, .ref h0), (1, .int v1), (2, .int v2), (3, .int v3), (4, .int v4)]) hx hb dX1_becomeSimplestBetween_15 hl (by decide) rfl (fun ls hl => ?_)
  refine lv_aload_n hx hb dX1_becomeSimplestBetween_17 rfl (lv_at hl 4 rfl) ?_
  refine lv_iconst (v := (0 : Int32)) hx hb dX1_becomeSimplestBetween_18 (by decide) ?_
  refine va_put (D := D) (ci := 0) (v := .int (0 : Int32)) (ty := .int) (C := RX1) (T := TX1) (N := 6) hx hb hts hi9 tyX1 tyX1_ok nmX1 hown hK hP hD hS 0 rfl rfl 1 (by decide) g15 (fun _ h9 => h9) rfl (by decide +kernel) rfl rfl (Nat.le_of_ble_eq_true rfl) dX1_becomeSimplestBetween_19 (fun H locs hP hD hS => ?_)
  have hP : va_P D vwCl [(h0, o1 h1 (0 : Int32) f_leftTop f_leftBottom f_rightTop f_rightBottom), (h1, ai cI 64 f_terms)] H := hP
  have hD : va_D A [(h0, o1 h1 (0 : Int32) f_leftTop f_leftBottom f_rightTop f_rightBottom), (h1, ai cI 64 f_terms)] := hD
  refine lv_iconst (v := (0 : Int32)) hx hb dX1_becomeSimplestBetween_22 (by decide) ?_
  refine lv_istore (lv' := [(13, .int (0 : Int32)), (11, .long x15), (9, .long x10), (7, .long x6), (5, .long x2), (0, .ref h0), (1, .int v1), (2, .int v2), (3, .int v3), (4, .int v4)]) hx hb dX1_becomeSimplestBetween_23 hl (by decide) rfl (fun ls hl => ?_)
  obtain ⟨n25, hw⟩ := hw
  have LOOP_25 : ∀ (n25 : Nat) (v5 : Int64) (v7 : Int64) (v9 : Int64) (v11 : Int64) (v13 : Int32) (f_size : Int32) (f_terms : (Nat → Int32)) (H : Heap) (locs : List Loc) (ls : Array Slot), w1_becomeSimplestBetween_L25 post n25 v5 v7 v9 v11 v13 f_size f_terms → va_P D vwCl [(h0, o1 h1 f_size f_leftTop f_leftBottom f_rightTop f_rightBottom), (h1, ai cI 64 f_terms)] H → va_D A [(h0, o1 h1 f_size f_leftTop f_leftBottom f_rightTop f_rightBottom), (h1, ai cI 64 f_terms)] → va_S A H0 H locs → lv_has ls 20 [(0, .ref h0), (5, .long v5), (7, .long v7), (9, .long v9), (11, .long v11), (13, .int v13)] → W p l e rm1_becomeSimplestBetween s m args below meth c H locs 0 0 Q (F0 m 25 ls []) := by
    clear hw hl hP hD hS
    intro n25
    induction n25 with
    | zero =>
      intro v5 v7 v9 v11 v13 f_size f_terms H locs ls hw hP hD hS hl
      rw [w1_becomeSimplestBetween_L25] at hw
      exact hw.elim
    | succ n25 ih25 =>
      intro v5 v7 v9 v11 v13 f_size f_terms H locs ls hw hP hD hS hl
      rw [w1_becomeSimplestBetween_L25] at hw
      refine lv_iload hx hb dX1_becomeSimplestBetween_25 (lv_at hl 5 rfl) ?_
      refine lv_bipush (v := (64 : Int32)) hx hb dX1_becomeSimplestBetween_27 (by decide) ?_
      refine lv_icmp_ge (tgt := 113) hx hb dX1_becomeSimplestBetween_29 (by decide) (fun k => ?_) (fun k => ?_)
      · have hw := hw.1 k
        exact RET _ _ (f_size, f_terms) _ _ hw hP hD hS dX1_becomeSimplestBetween_113
      · have hw := hw.2 k
        refine lv_lload hx hb dX1_becomeSimplestBetween_32 (lv_at hl 1 rfl) ?_
        refine lv_lload hx hb dX1_becomeSimplestBetween_34 (lv_at hl 2 rfl) ?_
        refine kcRL (wc := []) hP [] rfl (fun hPc => oSN (As := [.long v5, .long v7]) (rest := []) (host := RX7) C0 hK hN (c7_quotient l D cI cJ cN cR   v5 v7 _ hw) 2 hN.1 (hts (.static yX7_quotient) (by decide +kernel)) (hts (.initialized RX7) (by decide +kernel)) gX1_becomeSimplestBetween_X7_quotient_n23 rfl ⟨rfl, rfl⟩ nm7_quotient ⟨Nat.le_of_ble_eq_true rfl, Nat.le_of_ble_eq_true rfl⟩ rfl hl.1 rfl (Nat.le_of_ble_eq_true rfl) dX1_becomeSimplestBetween_36 ⟨Nat.le_of_ble_eq_true rfl, Nat.le_of_ble_eq_true rfl⟩ hPc) (fun r36 hw => ?_)
        refine lv_lstore (lv' := [(14, .long r36), (0, .ref h0), (5, .long v5), (7, .long v7), (9, .long v9), (11, .long v11), (13, .int v13)]) hx hb dX1_becomeSimplestBetween_39 hl (by decide) rfl (fun ls hl => ?_)
        refine lv_lload hx hb dX1_becomeSimplestBetween_41 (lv_at hl 0 rfl) ?_
        refine lv_lconst (v := (1 : Int64)) hx hb dX1_becomeSimplestBetween_43 (by decide) ?_
        refine lv_ladd hx hb dX1_becomeSimplestBetween_44 ?_
        refine lv_lload hx hb dX1_becomeSimplestBetween_45 (lv_at hl 5 rfl) ?_
        refine lv_lmul hx hb dX1_becomeSimplestBetween_47 ?_
        refine lv_lload hx hb dX1_becomeSimplestBetween_48 (lv_at hl 4 rfl) ?_
        refine W.lcmp hx hb dX1_becomeSimplestBetween_50 ?_
        refine lv_if_ge (tgt := 64) hx hb dX1_becomeSimplestBetween_51 (by decide) (fun k => ?_) (fun k => ?_)
        · have hw := hw.1 ((lg_cmp_ge _ _).mp k)
          refine lv_aload_n hx hb dX1_becomeSimplestBetween_64 rfl (lv_at hl 1 rfl) ?_
          refine lv_lload hx hb dX1_becomeSimplestBetween_65 (lv_at hl 0 rfl) ?_
          refine lv_l2i hx hb dX1_becomeSimplestBetween_67 rfl ?_
          refine kcV (wc := [(h0, o1 h1 f_size f_leftTop f_leftBottom f_rightTop f_rightBottom), (h1, ai cI 64 f_terms)]) (wr := []) hP hD hS hA [0, 1] [] rfl rfl ⟨rfl, rfl, by decide⟩ (fun hPc hDc => rV (As := [.int r36.toInt32]) (rest := []) C0 hK hN (c1_append l D cI cJ cN cR h0 h1 H.size f_size f_leftTop f_leftBottom f_rightTop f_rightBottom f_terms r36.toInt32 _ hw) 1 gX1_becomeSimplestBetween_X1_append rfl ⟨rfl, rfl⟩ nm1_append ⟨Nat.le_of_ble_eq_true rfl, Nat.le_of_ble_eq_true rfl⟩ (q0 := 0) rfl rfl rfl rfl hl.1 rfl (Nat.le_of_ble_eq_true rfl) dX1_becomeSimplestBetween_68 ⟨Nat.le_of_ble_eq_true rfl, Nat.le_of_ble_eq_true rfl⟩ hPc hDc) (fun u68 H locs hw hP hD hS => ?_)
          obtain ⟨f_size_68, f_terms_68⟩ := u68
          dsimp only at hw
          have hP : va_P D vwCl [(h0, o1 h1 f_size_68 f_leftTop f_leftBottom f_rightTop f_rightBottom), (h1, ai cI 64 f_terms_68)] H := hP
          have hD : va_D A [(h0, o1 h1 f_size_68 f_leftTop f_leftBottom f_rightTop f_rightBottom), (h1, ai cI 64 f_terms_68)] := hD
          refine lv_lload hx hb dX1_becomeSimplestBetween_71 (lv_at hl 2 rfl) ?_
          refine lv_lload hx hb dX1_becomeSimplestBetween_73 (lv_at hl 0 rfl) ?_
          refine lv_lload hx hb dX1_becomeSimplestBetween_75 (lv_at hl 3 rfl) ?_
          refine lv_lmul hx hb dX1_becomeSimplestBetween_77 ?_
          refine lv_lsub hx hb dX1_becomeSimplestBetween_78 ?_
          refine lv_topl (fun x79 ex79 => ?_)
          have hw := hw x79 ex79
          refine lv_lstore (lv' := [(16, .long x79), (14, .long r36), (0, .ref h0), (5, .long v5), (7, .long v7), (9, .long v9), (11, .long v11), (13, .int v13)]) hx hb dX1_becomeSimplestBetween_79 hl (by decide) rfl (fun ls hl => ?_)
          refine lv_lload hx hb dX1_becomeSimplestBetween_81 (lv_at hl 5 rfl) ?_
          refine lv_lload hx hb dX1_becomeSimplestBetween_83 (lv_at hl 1 rfl) ?_
          refine lv_lload hx hb dX1_becomeSimplestBetween_85 (lv_at hl 6 rfl) ?_
          refine lv_lmul hx hb dX1_becomeSimplestBetween_87 ?_
          refine lv_lsub hx hb dX1_becomeSimplestBetween_88 ?_
          refine lv_topl (fun x89 ex89 => ?_)
          have hw := hw x89 ex89
          refine lv_lstore (lv' := [(18, .long x89), (16, .long x79), (14, .long r36), (0, .ref h0), (5, .long v5), (7, .long v7), (9, .long v9), (11, .long v11), (13, .int v13)]) hx hb dX1_becomeSimplestBetween_89 hl (by decide) rfl (fun ls hl => ?_)
          refine lv_lload hx hb dX1_becomeSimplestBetween_91 (lv_at hl 7 rfl) ?_
          refine lv_lstore (lv' := [(5, .long v11), (18, .long x89), (16, .long x79), (14, .long r36), (0, .ref h0), (7, .long v7), (9, .long v9), (11, .long v11), (13, .int v13)]) hx hb dX1_becomeSimplestBetween_93 hl (by decide) rfl (fun ls hl => ?_)
          refine lv_lload hx hb dX1_becomeSimplestBetween_95 (lv_at hl 5 rfl) ?_
          refine lv_lstore (lv' := [(9, .long v7), (5, .long v11), (18, .long x89), (16, .long x79), (14, .long r36), (0, .ref h0), (7, .long v7), (11, .long v11), (13, .int v13)]) hx hb dX1_becomeSimplestBetween_97 hl (by decide) rfl (fun ls hl => ?_)
          refine lv_lload hx hb dX1_becomeSimplestBetween_99 (lv_at hl 2 rfl) ?_
          refine lv_lstore (lv' := [(7, .long x89), (9, .long v7), (5, .long v11), (18, .long x89), (16, .long x79), (14, .long r36), (0, .ref h0), (11, .long v11), (13, .int v13)]) hx hb dX1_becomeSimplestBetween_101 hl (by decide) rfl (fun ls hl => ?_)
          refine lv_lload hx hb dX1_becomeSimplestBetween_103 (lv_at hl 4 rfl) ?_
          refine lv_lstore (lv' := [(11, .long x79), (7, .long x89), (9, .long v7), (5, .long v11), (18, .long x89), (16, .long x79), (14, .long r36), (0, .ref h0), (13, .int v13)]) hx hb dX1_becomeSimplestBetween_105 hl (by decide) rfl (fun ls hl => ?_)
          obtain ⟨x107, ex107⟩ : ∃ y : Int32, y = (v13 + (1 : Int32)) := ⟨_, rfl⟩
          have hw := hw x107 ex107
          refine lv_iinc (v := x107) (lv' := [(13, .int x107), (11, .long x79), (7, .long x89), (9, .long v7), (5, .long v11), (18, .long x89), (16, .long x79), (14, .long r36), (0, .ref h0)]) hx hb dX1_becomeSimplestBetween_107 hl (k := 8) rfl (by rw [ex107]; rfl) (by decide) rfl (fun ls hl => ?_)
          refine lv_goto (tgt := 25) hx hb dX1_becomeSimplestBetween_110 (by decide) ?_
          exact ih25 v11 x89 v7 x79 x107 f_size_68 f_terms_68 _ _ ls hw hP hD hS (lv_sub hl [8, 4, 2, 3, 1, 0] rfl)
        · have hw := hw.2 (fun h => k ((lg_cmp_ge _ _).mpr h))
          refine lv_aload_n hx hb dX1_becomeSimplestBetween_54 rfl (lv_at hl 1 rfl) ?_
          refine lv_lload hx hb dX1_becomeSimplestBetween_55 (lv_at hl 0 rfl) ?_
          refine lv_l2i hx hb dX1_becomeSimplestBetween_57 rfl ?_
          refine lv_iconst (v := (1 : Int32)) hx hb dX1_becomeSimplestBetween_58 (by decide) ?_
          refine lv_iadd hx hb dX1_becomeSimplestBetween_59 ?_
          refine kcV (wc := [(h0, o1 h1 f_size f_leftTop f_leftBottom f_rightTop f_rightBottom), (h1, ai cI 64 f_terms)]) (wr := []) hP hD hS hA [0, 1] [] rfl rfl ⟨rfl, rfl, by decide⟩ (fun hPc hDc => rV (As := [.int (r36.toInt32 + (1 : Int32))]) (rest := []) C0 hK hN (c1_append l D cI cJ cN cR h0 h1 H.size f_size f_leftTop f_leftBottom f_rightTop f_rightBottom f_terms (r36.toInt32 + (1 : Int32)) _ hw) 1 gX1_becomeSimplestBetween_X1_append rfl ⟨rfl, rfl⟩ nm1_append ⟨Nat.le_of_ble_eq_true rfl, Nat.le_of_ble_eq_true rfl⟩ (q0 := 0) rfl rfl rfl rfl hl.1 rfl (Nat.le_of_ble_eq_true rfl) dX1_becomeSimplestBetween_60 ⟨Nat.le_of_ble_eq_true rfl, Nat.le_of_ble_eq_true rfl⟩ hPc hDc) (fun u60 H locs hw hP hD hS => ?_)
          obtain ⟨f_size_60, f_terms_60⟩ := u60
          dsimp only at hw
          have hP : va_P D vwCl [(h0, o1 h1 f_size_60 f_leftTop f_leftBottom f_rightTop f_rightBottom), (h1, ai cI 64 f_terms_60)] H := hP
          have hD : va_D A [(h0, o1 h1 f_size_60 f_leftTop f_leftBottom f_rightTop f_rightBottom), (h1, ai cI 64 f_terms_60)] := hD
          exact RET _ _ (f_size_60, f_terms_60) _ _ hw hP hD hS dX1_becomeSimplestBetween_63
  exact LOOP_25 n25 x2 x6 x10 x15 (0 : Int32) (0 : Int32) f_terms _ _ ls hw hP hD hS (lv_sub hl [5, 4, 3, 2, 1, 0] rfl)
