/-! fills: a register gets a fraction -/
abbrev LW3 (cI : ClassId) (rf : Nat → Nat) (tp bo : Nat → Int32) : va_W := [((rf 0), o7 rf 0 0 0), ((rf 1), ai cI 8 tp), ((rf 2), ai cI 8 bo)]
def fillP (tp bo : Nat → Int32) (v1 r : Int32) (u : (Nat → Int32) × (Nat → Int32)) : Prop := r = 1 ∧ ∃ (A B N : Nat) (p q : Int32), CF A B N ∧ p.toInt = (A : Int) ∧ q.toInt = (B : Int) ∧ u = (upd tp v1.toNatClampNeg p, upd bo v1.toNatClampNeg q)
abbrev rmL_fills : Room := { frames := 4, cells := 0, slots := 0, locals := 91 }
theorem nmL_fills : kNm yL_fills 4 := by decide +kernel
set_option maxHeartbeats 4000000 in
set_option maxRecDepth 100000 in
theorem kL_fills (l : Launch) (D : va_G) (cI cJ cN cR : ClassId) (rf : Nat → Nat) (sz b L : Nat) (xs : Nat → Int32) (tp bo : Nat → Int32) (v1 v3 : Int32) (hL : L ≤ 1000) (hv : isR v1) (h1 : 0 ≤ v3.toInt) (h2 : v3.toInt < 900) : Met l yL_fills wsL_fills rmL_fills (kF D (kT cI cJ cN cR) sz [.ref (rf 0), .int v1, .ref b, .int v3] (LW3 cI rf tp bo) b L xs) (kQi D (LW3 cI rf tp bo) sz (fun (r : Int32) (u : (Nat → Int32) × (Nat → Int32)) => narrow .boolean (.int r) = .int r ∧ fillP tp bo v1 r u) (fun (u : (Nat → Int32) × (Nat → Int32)) => LW3 cI rf u.1 u.2)) 0 0 (va_A (LW3 cI rf tp bo) sz) := by
  refine kMetFZ (cc := cL_fills) (maxL := 4) (by decide +kernel) rfl (Nat.le_of_ble_eq_true rfl) ?_
  intro p e s m args below meth c H0 ls A Q C0 hK hN hP hD hS hA hX hbl hl RET
  obtain ⟨hx, hb, hml, hown, hts⟩ := id C0
  have l2 : (2 : Int32).toInt = 2 := rfl
  have hl : lv_has ls 4 [(0, .ref (rf 0)), (1, .int v1), (2, .ref b), (3, .int v3)] := hl
  refine lv_aload_n hx hb dL_fills_0 rfl (lv_at hl 0 rfl) ?_
  refine lv_iload_n hx hb dL_fills_1 rfl (lv_at hl 1 rfl) ?_
  refine lv_aload_n hx hb dL_fills_2 rfl (lv_at hl 2 rfl) ?_
  refine lv_iload_n hx hb dL_fills_3 rfl (lv_at hl 3 rfl) ?_
  refine vp_callSi (oSX (As := [.ref b, .int v3]) (rest := [.int v1, .ref (rf 0)]) C0 hX hbl (kL_size l b L xs v3 hL h1 (by omega)) 2 gL_fills_L_size rfl ⟨rfl, rfl⟩ nmL_size ⟨Nat.le_of_ble_eq_true rfl, Nat.le_of_ble_eq_true rfl⟩ rfl hl.1 rfl (Nat.le_of_ble_eq_true rfl) dL_fills_4 ⟨Nat.le_of_ble_eq_true rfl, Nat.le_of_ble_eq_true rfl⟩) (fun r4 hr4 => ?_)
  refine lv_aload_n hx hb dL_fills_7 rfl (lv_at hl 2 rfl) ?_
  refine lv_iload_n hx hb dL_fills_8 rfl (lv_at hl 3 rfl) ?_
  refine lv_iconst (v := (2 : Int32)) hx hb dL_fills_9 (by decide) ?_
  refine lv_iadd hx hb dL_fills_10 ?_
  refine lv_topi (fun x10 ex10 => ?_)
  have h10 : x10.toInt = v3.toInt + 2 := by rw [ex10, i_add (by omega) (by omega), l2]
  refine vp_callSi (oSX (As := [.ref b, .int x10]) (rest := [.int r4, .int v1, .ref (rf 0)]) C0 hX hbl (kL_size l b L xs x10 hL (by omega) (by omega)) 2 gL_fills_L_size rfl ⟨rfl, rfl⟩ nmL_size ⟨Nat.le_of_ble_eq_true rfl, Nat.le_of_ble_eq_true rfl⟩ rfl hl.1 rfl (Nat.le_of_ble_eq_true rfl) dL_fills_11 ⟨Nat.le_of_ble_eq_true rfl, Nat.le_of_ble_eq_true rfl⟩) (fun r11 hr11 => ?_)
  refine kcI (wc := LW3 cI rf tp bo) (wr := []) hP hD hS hA [0, 1, 2] [] rfl rfl ⟨rfl, rfl, by decide⟩ (fun hPc hDc => rV (As := [.int v1, .int r4, .int r11]) (rest := []) C0 hK hN (c7_set l D cI cJ cN cR rf H0.size 0 0 0 tp bo v1 r4 r11 (fun r a c => fillP tp bo v1 r (a, c)) (p_set hv hr4 hr11 (fun A B N p q h1 h2 h3 => ⟨rfl, A, B, N, p, q, h1, h2, h3, rfl⟩))) 3 gL_fills_X7_set rfl ⟨rfl, rfl⟩ nm7_set ⟨Nat.le_of_ble_eq_true rfl, Nat.le_of_ble_eq_true rfl⟩ (q0 := 0) rfl rfl rfl rfl hl.1 rfl (Nat.le_of_ble_eq_true rfl) dL_fills_14 ⟨Nat.le_of_ble_eq_true rfl, Nat.le_of_ble_eq_true rfl⟩ hPc hDc) (fun r14 u14 H locs hw hP hD hS => ?_)
  have hw : fillP tp bo v1 r14 u14 := hw
  have hP : va_P D vwCl (LW3 cI rf u14.1 u14.2) H := hP
  have hD : va_D A (LW3 cI rf u14.1 u14.2) := hD
  refine lv_iconst (v := (1 : Int32)) hx hb dL_fills_17 (by decide) ?_
  refine lv_icmp_ne (tgt := 25) hx hb dL_fills_18 (by decide) (fun k18 => ?_) (fun k18 => ?_)
  · exact absurd hw.1 k18
  · refine lv_iconst (v := (1 : Int32)) hx hb dL_fills_21 (by decide) ?_
    refine lv_goto (tgt := 26) hx hb dL_fills_22 (by decide) ?_
    refine RET _ _ (1 : Int32) u14 _ _ rfl ?_ hP hD hS dL_fills_26
    rw [hw.1] at hw; exact ⟨rfl, hw⟩
