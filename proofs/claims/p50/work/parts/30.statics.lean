/-! the law's own small methods -/
abbrev rmL_stirred : Room := { frames := 0, cells := 0, slots := 0, locals := 0 }
theorem nmL_stirred : kNm yL_stirred 1 := by decide +kernel
set_option maxHeartbeats 4000000 in
set_option maxRecDepth 100000 in
theorem kL_stirred (l : Launch) (b L : Nat) (xs : Nat → Int32)  (hL : L ≤ 1000) : Met l yL_stirred wsL_stirred rmL_stirred (kX b L xs [.ref b]) (vp_Si (fun _ => True)) 0 0 (fun _ => False) := by
  refine kMetXI (cc := cL_stirred) (maxL := 6) (by decide +kernel) rfl (Nat.le_of_ble_eq_true rfl) ?_
  intro p e s m args below meth c H ls Q C0 hX hbl hl RET
  obtain ⟨hx, hb, hml, hown, hts⟩ := id C0
  have hl : lv_has ls 6 [(0, .ref b)] := hl
  have EXIT : ∀ (h : Int32) (ls : Array Slot), lv_has ls 6 [(1, .int h)] → W p l e rmL_stirred s m args below meth c H [] 0 0 Q (F0 m 39 ls []) := by
    intro h ls hl
    refine lv_iload_n hx hb dL_stirred_39 rfl (lv_at hl 0 rfl) ?_
    refine lv_iload_n hx hb dL_stirred_40 rfl (lv_at hl 0 rfl) ?_
    refine lv_bipush (v := (15 : Int32)) hx hb dL_stirred_41 (by decide) ?_
    refine lv_iushr hx hb dL_stirred_43 rfl ?_
    refine lv_topi (fun x43 ex43 => ?_)
    refine lv_ixor hx hb dL_stirred_44 ?_
    refine lv_topi (fun x44 ex44 => ?_)
    refine lv_istore_n (lv' := [(1, .int x44)]) hx hb dL_stirred_45 rfl hl (by decide) rfl (fun ls hl => ?_)
    refine lv_iload_n hx hb dL_stirred_46 rfl (lv_at hl 0 rfl) ?_
    refine lv_iconst (v := (3 : Int32)) hx hb dL_stirred_47 (by decide) ?_
    refine lv_iand hx hb dL_stirred_48 ?_
    refine lv_topi (fun x48 ex48 => ?_)
    refine lv_if_ne (tgt := 56) hx hb dL_stirred_49 (by decide) (fun k49 => ?_) (fun k49 => ?_)
    · refine lv_iload_n hx hb dL_stirred_56 rfl (lv_at hl 0 rfl) ?_
      exact RET _ _ _ trivial dL_stirred_57
    · refine lv_iconst (v := (0 : Int32)) hx hb dL_stirred_52 (by decide) ?_
      refine lv_goto (tgt := 57) hx hb dL_stirred_53 (by decide) ?_
      exact RET _ _ _ trivial dL_stirred_57
  have LOOP : ∀ (n k : Nat) (h : Int32) (ls : Array Slot), k + n = L → lv_has ls 6 [(0, .ref b), (1, .int h), (2, .ref b), (3, .int (Int32.ofNat L)), (4, .int (Int32.ofNat k))] → W p l e rmL_stirred s m args below meth c H [] 0 0 Q (F0 m 13 ls []) := by
    intro n
    induction n with
    | zero =>
      intro k h ls hk hl
      refine lv_iload hx hb dL_stirred_13 (lv_at hl 4 rfl) ?_
      refine lv_iload_n hx hb dL_stirred_15 rfl (lv_at hl 3 rfl) ?_
      refine lv_icmp_ge (tgt := 39) hx hb dL_stirred_16 (by decide) (fun k16 => ?_) (fun k16 => ?_)
      · exact EXIT h ls (lv_sub hl [1] rfl)
      · exact absurd (i_le.mpr (by rw [n_toI (by omega), n_toI (by omega)]; omega)) k16
    | succ n ih =>
      intro k h ls hk hl
      refine lv_iload hx hb dL_stirred_13 (lv_at hl 4 rfl) ?_
      refine lv_iload_n hx hb dL_stirred_15 rfl (lv_at hl 3 rfl) ?_
      refine lv_icmp_ge (tgt := 39) hx hb dL_stirred_16 (by decide) (fun k16 => ?_) (fun k16 => ?_)
      · exact EXIT h ls (lv_sub hl [1] rfl)
      · refine lv_aload_n hx hb dL_stirred_19 rfl (lv_at hl 2 rfl) ?_
        refine lv_iload hx hb dL_stirred_20 (lv_at hl 4 rfl) ?_
        have hkL : k < L := by omega
        refine va_sld hx hb hX hbl (A := fun _ => False) id va_S.rf (n_inX hkL (by omega)) dL_stirred_22 ?_
        refine lv_topi (fun x22 ex22 => ?_)
        refine lv_istore (lv' := [(5, .int x22), (0, .ref b), (1, .int h), (2, .ref b), (3, .int (Int32.ofNat L)), (4, .int (Int32.ofNat k))]) hx hb dL_stirred_23 hl (by decide) rfl (fun ls hl => ?_)
        refine lv_iload_n hx hb dL_stirred_25 rfl (lv_at hl 2 rfl) ?_
        refine lv_iload hx hb dL_stirred_26 (lv_at hl 0 rfl) ?_
        refine lv_ixor hx hb dL_stirred_28 ?_
        refine lv_topi (fun x28 ex28 => ?_)
        refine lv_ldc (v := (16777619 : Int32)) hx hb hown (hts (.constant RL 7 (16777619)) (by decide +kernel)) dL_stirred_29 ?_
        refine lv_imul hx hb dL_stirred_31 ?_
        refine lv_topi (fun x31 ex31 => ?_)
        refine lv_istore_n (lv' := [(1, .int x31), (5, .int x22), (0, .ref b), (2, .ref b), (3, .int (Int32.ofNat L)), (4, .int (Int32.ofNat k))]) hx hb dL_stirred_32 rfl hl (by decide) rfl (fun ls hl => ?_)
        obtain ⟨x33, ex33⟩ : ∃ z : Int32, z = (Int32.ofNat k) + (1 : Int32) := ⟨_, rfl⟩
        refine lv_iinc (v := x33) (lv' := [(4, .int x33), (1, .int x31), (5, .int x22), (0, .ref b), (2, .ref b), (3, .int (Int32.ofNat L))]) hx hb dL_stirred_33 hl (k := 5) rfl (by rw [ex33]; rfl) (by decide) rfl (fun ls hl => ?_)
        refine lv_goto (tgt := 13) hx hb dL_stirred_36 (by decide) ?_
        have ek : x33 = Int32.ofNat (k + 1) := by rw [ex33]; exact (Int32.ofNat_add _ _).symm
        subst ek
        exact ih (k + 1) _ ls (by omega) (lv_sub hl [3, 1, 4, 5, 0] rfl)
  refine lv_aload_n hx hb dL_stirred_0 rfl (lv_at hl 0 rfl) ?_
  refine va_slen hx hb hX hbl (A := fun _ => False) id va_S.rf dL_stirred_1 ?_
  refine lv_iconst (v := (5 : Int32)) hx hb dL_stirred_2 (by decide) ?_
  refine lv_iadd hx hb dL_stirred_3 ?_
  refine lv_topi (fun x3 ex3 => ?_)
  refine lv_istore_n (lv' := [(1, .int x3), (0, .ref b)]) hx hb dL_stirred_4 rfl hl (by decide) rfl (fun ls hl => ?_)
  refine lv_aload_n hx hb dL_stirred_5 rfl (lv_at hl 1 rfl) ?_
  refine lv_astore_n (lv' := [(2, .ref b), (1, .int x3), (0, .ref b)]) hx hb dL_stirred_6 rfl hl (by decide) rfl (fun ls hl => ?_)
  refine lv_aload_n hx hb dL_stirred_7 rfl (lv_at hl 0 rfl) ?_
  refine va_slen hx hb hX hbl (A := fun _ => False) id va_S.rf dL_stirred_8 ?_
  refine lv_topi (fun x9 ex9 => ?_)
  refine lv_istore_n (lv' := [(3, .int x9), (2, .ref b), (1, .int x3), (0, .ref b)]) hx hb dL_stirred_9 rfl hl (by decide) rfl (fun ls hl => ?_)
  refine lv_iconst (v := (0 : Int32)) hx hb dL_stirred_10 (by decide) ?_
  refine lv_istore (lv' := [(4, .int (0 : Int32)), (3, .int x9), (2, .ref b), (1, .int x3), (0, .ref b)]) hx hb dL_stirred_11 hl (by decide) rfl (fun ls hl => ?_)
  subst ex9
  exact LOOP L 0 _ ls (by omega) (lv_sub hl [4, 3, 2, 1, 0] rfl)
abbrev rmL_cell : Room := { frames := 1, cells := 0, slots := 0, locals := 25 }
theorem nmL_cell : kNm yL_cell 2 := by decide +kernel
set_option maxHeartbeats 4000000 in
set_option maxRecDepth 100000 in
theorem kL_cell (l : Launch) (b L : Nat) (xs : Nat → Int32) (v1 : Int32) (hL : L ≤ 1000) (h1 : 0 ≤ v1.toInt) : Met l yL_cell wsL_cell rmL_cell (kX b L xs [.ref b, .int v1]) (vp_Si (fun _ => True)) 0 0 (fun _ => False) := by
  refine kMetXI (cc := cL_cell) (maxL := 3) (by decide +kernel) rfl (Nat.le_of_ble_eq_true rfl) ?_
  intro p e s m args below meth c H ls Q C0 hX hbl hl RET
  obtain ⟨hx, hb, hml, hown, hts⟩ := id C0
  have hl : lv_has ls 3 [(0, .ref b), (1, .int v1)] := hl
  refine lv_aload_n hx hb dL_cell_0 rfl (lv_at hl 0 rfl) ?_
  refine vp_callSi (oSX (As := [.ref b]) (rest := []) C0 hX hbl (kL_stirred l b L xs hL) 1 gL_cell_L_stirred rfl ⟨rfl, rfl⟩ nmL_stirred ⟨Nat.le_of_ble_eq_true rfl, Nat.le_of_ble_eq_true rfl⟩ rfl hl.1 rfl (Nat.le_of_ble_eq_true rfl) dL_cell_1 ⟨Nat.le_of_ble_eq_true rfl, Nat.le_of_ble_eq_true rfl⟩) (fun r1 hr1 => ?_)
  refine lv_istore_n (lv' := [(2, .int r1), (0, .ref b), (1, .int v1)]) hx hb dL_cell_4 rfl hl (by decide) rfl (fun ls hl => ?_)
  refine lv_iload_n hx hb dL_cell_5 rfl (lv_at hl 0 rfl) ?_
  refine lv_if_ne (tgt := 30) hx hb dL_cell_6 (by decide) (fun k6 => ?_) (fun k6 => ?_)
  · refine lv_iload_n hx hb dL_cell_30 rfl (lv_at hl 0 rfl) ?_
    refine lv_ldc (v := (40503 : Int32)) hx hb hown (hts (.constant RL 14 (40503)) (by decide +kernel)) dL_cell_31 ?_
    refine lv_iload_n hx hb dL_cell_33 rfl (lv_at hl 2 rfl) ?_
    refine lv_imul hx hb dL_cell_34 ?_
    refine lv_topi (fun x34 ex34 => ?_)
    refine lv_ixor hx hb dL_cell_35 ?_
    refine lv_topi (fun x35 ex35 => ?_)
    refine lv_ldc (v := (739982445 : Int32)) hx hb hown (hts (.constant RL 15 (739982445)) (by decide +kernel)) dL_cell_36 ?_
    refine lv_imul hx hb dL_cell_38 ?_
    refine lv_topi (fun x38 ex38 => ?_)
    refine lv_istore_n (lv' := [(2, .int x38), (0, .ref b), (1, .int v1)]) hx hb dL_cell_39 rfl hl (by decide) rfl (fun ls hl => ?_)
    refine lv_iload_n hx hb dL_cell_40 rfl (lv_at hl 0 rfl) ?_
    refine lv_iload_n hx hb dL_cell_41 rfl (lv_at hl 0 rfl) ?_
    refine lv_bipush (v := (12 : Int32)) hx hb dL_cell_42 (by decide) ?_
    refine lv_iushr hx hb dL_cell_44 rfl ?_
    refine lv_topi (fun x44 ex44 => ?_)
    refine lv_ixor hx hb dL_cell_45 ?_
    refine lv_topi (fun x45 ex45 => ?_)
    refine lv_ldc (v := (695872825 : Int32)) hx hb hown (hts (.constant RL 16 (695872825)) (by decide +kernel)) dL_cell_46 ?_
    refine lv_imul hx hb dL_cell_48 ?_
    refine lv_topi (fun x48 ex48 => ?_)
    refine lv_istore_n (lv' := [(2, .int x48), (0, .ref b), (1, .int v1)]) hx hb dL_cell_49 rfl hl (by decide) rfl (fun ls hl => ?_)
    refine lv_iload_n hx hb dL_cell_50 rfl (lv_at hl 0 rfl) ?_
    refine lv_iload_n hx hb dL_cell_51 rfl (lv_at hl 0 rfl) ?_
    refine lv_bipush (v := (15 : Int32)) hx hb dL_cell_52 (by decide) ?_
    refine lv_iushr hx hb dL_cell_54 rfl ?_
    refine lv_topi (fun x54 ex54 => ?_)
    refine lv_ixor hx hb dL_cell_55 ?_
    refine lv_topi (fun x55 ex55 => ?_)
    exact RET _ _ _ trivial dL_cell_56
  · refine lv_iload_n hx hb dL_cell_9 rfl (lv_at hl 2 rfl) ?_
    refine lv_aload_n hx hb dL_cell_10 rfl (lv_at hl 1 rfl) ?_
    refine va_slen hx hb hX hbl (A := fun _ => False) id va_S.rf dL_cell_11 ?_
    refine lv_icmp_ge (tgt := 21) hx hb dL_cell_12 (by decide) (fun k12 => ?_) (fun k12 => ?_)
    · refine lv_sipush (v := (6007 : Int32)) hx hb dL_cell_21 (by decide) ?_
      refine lv_iload_n hx hb dL_cell_24 rfl (lv_at hl 2 rfl) ?_
      refine lv_imul hx hb dL_cell_25 ?_
      refine lv_topi (fun x25 ex25 => ?_)
      refine lv_bipush (v := (41 : Int32)) hx hb dL_cell_26 (by decide) ?_
      refine lv_iadd hx hb dL_cell_28 ?_
      refine lv_topi (fun x28 ex28 => ?_)
      exact RET _ _ _ trivial dL_cell_29
    · refine lv_aload_n hx hb dL_cell_15 rfl (lv_at hl 1 rfl) ?_
      refine lv_iload_n hx hb dL_cell_16 rfl (lv_at hl 2 rfl) ?_
      have hv : v1.toInt < L := by have q := i_lt.mp (Int32.not_le.mp k12); rw [n_toI (by omega)] at q; exact q
      refine va_sld hx hb hX hbl (A := fun _ => False) id va_S.rf (vin h1 hv) dL_cell_17 ?_
      refine lv_topi (fun x17 ex17 => ?_)
      refine lv_goto (tgt := 29) hx hb dL_cell_18 (by decide) ?_
      exact RET _ _ _ trivial dL_cell_29
abbrev rmL_some : Room := { frames := 2, cells := 0, slots := 0, locals := 47 }
theorem nmL_some : kNm yL_some 3 := by decide +kernel
set_option maxHeartbeats 4000000 in
set_option maxRecDepth 100000 in
theorem kL_some (l : Launch) (b L : Nat) (xs : Nat → Int32) (v1 : Int32) (v2 : Int32) (hL : L ≤ 1000) (h1 : 0 ≤ v1.toInt) (h2 : 0 < v2.toInt) : Met l yL_some wsL_some rmL_some (kX b L xs [.ref b, .int v1, .int v2]) (vp_Si (fun r => 0 ≤ r.toInt ∧ r.toInt < v2.toInt)) 0 0 (fun _ => False) := by
  refine kMetXI (cc := cL_some) (maxL := 3) (by decide +kernel) rfl (Nat.le_of_ble_eq_true rfl) ?_
  intro p e s m args below meth c H ls Q C0 hX hbl hl RET
  obtain ⟨hx, hb, hml, hown, hts⟩ := id C0
  have hl : lv_has ls 3 [(0, .ref b), (1, .int v1), (2, .int v2)] := hl
  refine lv_aload_n hx hb dL_some_0 rfl (lv_at hl 0 rfl) ?_
  refine lv_iload_n hx hb dL_some_1 rfl (lv_at hl 1 rfl) ?_
  refine vp_callSi (oSX (As := [.ref b, .int v1]) (rest := []) C0 hX hbl (kL_cell l b L xs v1 hL h1) 2 gL_some_L_cell rfl ⟨rfl, rfl⟩ nmL_cell ⟨Nat.le_of_ble_eq_true rfl, Nat.le_of_ble_eq_true rfl⟩ rfl hl.1 rfl (Nat.le_of_ble_eq_true rfl) dL_some_2 ⟨Nat.le_of_ble_eq_true rfl, Nat.le_of_ble_eq_true rfl⟩) (fun r2 hr2 => ?_)
  refine lv_iconst (v := (3 : Int32)) hx hb dL_some_5 (by decide) ?_
  refine lv_iushr hx hb dL_some_6 rfl ?_
  refine lv_topi (fun x6 ex6 => ?_)
  refine lv_iload_n hx hb dL_some_7 rfl (lv_at hl 2 rfl) ?_
  have h6 : 0 ≤ x6.toInt := by rw [ex6]; exact ushr3 r2
  refine lv_irem hx hb dL_some_8 (fun q => by rw [q] at h2; exact absurd h2 (by decide)) ?_
  have h8 := i_rem h6 h2
  exact RET _ _ _ ⟨by rw [h8]; exact Int.emod_nonneg _ (by omega), by rw [h8]; exact Int.emod_lt_of_pos _ h2⟩ dL_some_9
abbrev rmL_size : Room := { frames := 3, cells := 0, slots := 0, locals := 69 }
theorem nmL_size : kNm yL_size 2 := by decide +kernel
set_option maxHeartbeats 4000000 in
set_option maxRecDepth 100000 in
theorem kL_size (l : Launch) (b L : Nat) (xs : Nat → Int32) (v1 : Int32) (hL : L ≤ 1000) (h1 : 0 ≤ v1.toInt) (h2 : v1.toInt < 1000) : Met l yL_size wsL_size rmL_size (kX b L xs [.ref b, .int v1]) (vp_Si (fun r => 1 ≤ r.toInt ∧ r.toInt ≤ 1000000)) 0 0 (fun _ => False) := by
  refine kMetXI (cc := cL_size) (maxL := 3) (by decide +kernel) rfl (Nat.le_of_ble_eq_true rfl) ?_
  intro p e s m args below meth c H ls Q C0 hX hbl hl RET
  obtain ⟨hx, hb, hml, hown, hts⟩ := id C0
  have hl : lv_has ls 3 [(0, .ref b), (1, .int v1)] := hl
  have l1 : (1 : Int32).toInt = 1 := rfl
  refine lv_aload_n hx hb dL_size_0 rfl (lv_at hl 0 rfl) ?_
  refine lv_iload_n hx hb dL_size_1 rfl (lv_at hl 1 rfl) ?_
  refine lv_iconst (v := (1 : Int32)) hx hb dL_size_2 (by decide) ?_
  refine lv_iadd hx hb dL_size_3 ?_
  refine lv_topi (fun x3 ex3 => ?_)
  refine lv_iconst (v := (4 : Int32)) hx hb dL_size_4 (by decide) ?_
  have h3 : 0 ≤ x3.toInt := by rw [ex3, i_add (by omega) (by omega)]; omega
  refine vp_callSi (oSX (As := [.ref b, .int x3, .int (4 : Int32)]) (rest := []) C0 hX hbl (kL_some l b L xs x3 (4 : Int32) hL h3 (by decide)) 3 gL_size_L_some rfl ⟨rfl, rfl⟩ nmL_some ⟨Nat.le_of_ble_eq_true rfl, Nat.le_of_ble_eq_true rfl⟩ rfl hl.1 rfl (Nat.le_of_ble_eq_true rfl) dL_size_5 ⟨Nat.le_of_ble_eq_true rfl, Nat.le_of_ble_eq_true rfl⟩) (fun r5 hr5 => ?_)
  have FIN : ∀ (n : Int32) (ls : Array Slot), 0 < n.toInt → n.toInt ≤ 1000000 → ls.size = 3 → W p l e rmL_size s m args below meth c H [] 0 0 Q (F0 m 44 ls [.int n, .int v1, .ref b, .int (1 : Int32)]) := by
    intro n ls hn hn2 hsz
    refine vp_callSi (oSX (As := [.ref b, .int v1, .int n]) (rest := [.int (1 : Int32)]) C0 hX hbl (kL_some l b L xs v1 n hL h1 hn) 3 gL_size_L_some rfl ⟨rfl, rfl⟩ nmL_some ⟨Nat.le_of_ble_eq_true rfl, Nat.le_of_ble_eq_true rfl⟩ rfl hsz rfl (Nat.le_of_ble_eq_true rfl) dL_size_44 ⟨Nat.le_of_ble_eq_true rfl, Nat.le_of_ble_eq_true rfl⟩) (fun r44 hr44 => ?_)
    refine lv_iadd hx hb dL_size_47 ?_
    have h9 : ((1 : Int32) + r44).toInt = 1 + r44.toInt := by rw [i_add (by omega) (by omega), l1]
    exact RET _ _ _ ⟨by rw [h9]; omega, by rw [h9]; omega⟩ dL_size_48
  refine lv_istore_n (lv' := [(2, .int r5), (0, .ref b), (1, .int v1)]) hx hb dL_size_8 rfl hl (by decide) rfl (fun ls hl => ?_)
  refine lv_iconst (v := (1 : Int32)) hx hb dL_size_9 (by decide) ?_
  refine lv_aload_n hx hb dL_size_10 rfl (lv_at hl 1 rfl) ?_
  refine lv_iload_n hx hb dL_size_11 rfl (lv_at hl 2 rfl) ?_
  refine lv_iload_n hx hb dL_size_12 rfl (lv_at hl 0 rfl) ?_
  refine lv_if_ne (tgt := 21) hx hb dL_size_13 (by decide) (fun k13 => ?_) (fun k13 => ?_)
  · refine lv_iload_n hx hb dL_size_21 rfl (lv_at hl 0 rfl) ?_
    refine lv_iconst (v := (1 : Int32)) hx hb dL_size_22 (by decide) ?_
    refine lv_icmp_ne (tgt := 31) hx hb dL_size_23 (by decide) (fun k23 => ?_) (fun k23 => ?_)
    · refine lv_iload_n hx hb dL_size_31 rfl (lv_at hl 0 rfl) ?_
      refine lv_iconst (v := (2 : Int32)) hx hb dL_size_32 (by decide) ?_
      refine lv_icmp_ne (tgt := 42) hx hb dL_size_33 (by decide) (fun k33 => ?_) (fun k33 => ?_)
      · refine lv_ldc (v := (1000000 : Int32)) hx hb hown (hts (.constant RL 25 (1000000)) (by decide +kernel)) dL_size_42 ?_
        exact FIN _ ls (by decide) (by decide) hl.1
      · refine lv_sipush (v := (900 : Int32)) hx hb dL_size_36 (by decide) ?_
        refine lv_goto (tgt := 44) hx hb dL_size_39 (by decide) ?_
        exact FIN _ ls (by decide) (by decide) hl.1
    · refine lv_bipush (v := (40 : Int32)) hx hb dL_size_26 (by decide) ?_
      refine lv_goto (tgt := 44) hx hb dL_size_28 (by decide) ?_
      exact FIN _ ls (by decide) (by decide) hl.1
  · refine lv_bipush (v := (6 : Int32)) hx hb dL_size_16 (by decide) ?_
    refine lv_goto (tgt := 44) hx hb dL_size_18 (by decide) ?_
    exact FIN _ ls (by decide) (by decide) hl.1
