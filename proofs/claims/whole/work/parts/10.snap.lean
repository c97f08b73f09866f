def w7_snapshot_L40 (L : List Nat) (f_hasSnapshot : Int32) (f_slots : (Nat → Option Nat)) (f_savedTops : (Nat → Int32)) (f_savedBottoms : (Nat → Int32))  (post : Int32 → Int32 → (Nat → Int32) → (Nat → Int32) → (Nat → Option Nat) → Prop)  : Nat → Int32 → (Nat → Option Nat) → Prop
  | 0, _, _ => False
  | n40 + 1, v1, f_savedSlots =>
  (((5 : Int32) ≤ v1 → (w7_nodeCount f_slots (fun r69 => (post r69 (1 : Int32) f_savedTops f_savedBottoms f_savedSlots)))) ∧ (¬ (5 : Int32) ≤ v1 → (vp_in v1 5 ∧ (vp_in v1 5 ∧ (∀ q9, (f_slots v1.toNatClampNeg) = some q9 → q9 ∈ L) ∧ (∀ x57 : Int32, x57 = (v1 + (1 : Int32)) → (w7_snapshot_L40 L f_hasSnapshot f_slots f_savedTops f_savedBottoms post n40 x57 (va_up f_savedSlots v1.toNatClampNeg (f_slots v1.toNatClampNeg))))))))
def w7_snapshot_L2 (L : List Nat) (f_hasSnapshot : Int32) (f_tops : (Nat → Int32)) (f_bottoms : (Nat → Int32)) (f_slots : (Nat → Option Nat)) (f_savedSlots : (Nat → Option Nat))  (post : Int32 → Int32 → (Nat → Int32) → (Nat → Int32) → (Nat → Option Nat) → Prop)  : Nat → Int32 → (Nat → Int32) → (Nat → Int32) → Prop
  | 0, _, _, _ => False
  | n2 + 1, v1, f_savedTops, f_savedBottoms =>
  (((8 : Int32) ≤ v1 → (∃ n40 : Nat, w7_snapshot_L40 L f_hasSnapshot f_slots f_savedTops f_savedBottoms post n40 (0 : Int32) f_savedSlots)) ∧ (¬ (8 : Int32) ≤ v1 → (vp_in v1 8 ∧ (vp_in v1 8 ∧ (vp_in v1 8 ∧ (vp_in v1 8 ∧ (∀ x32 : Int32, x32 = (v1 + (1 : Int32)) → (w7_snapshot_L2 L f_hasSnapshot f_tops f_bottoms f_slots f_savedSlots post n2 x32 (upd f_savedTops v1.toNatClampNeg (f_tops v1.toNatClampNeg)) (upd f_savedBottoms v1.toNatClampNeg (f_bottoms v1.toNatClampNeg))))))))))
def w7_snapshot (L : List Nat) (f_hasSnapshot : Int32) (f_tops : (Nat → Int32)) (f_bottoms : (Nat → Int32)) (f_slots : (Nat → Option Nat)) (f_savedTops : (Nat → Int32)) (f_savedBottoms : (Nat → Int32)) (f_savedSlots : (Nat → Option Nat))  (post : Int32 → Int32 → (Nat → Int32) → (Nat → Int32) → (Nat → Option Nat) → Prop) : Prop :=
  (∃ n2 : Nat, w7_snapshot_L2 L f_hasSnapshot f_tops f_bottoms f_slots f_savedSlots post n2 (0 : Int32) f_savedTops f_savedBottoms)
def w7_restore_L50 (L : List Nat) (f_tops : (Nat → Int32)) (f_bottoms : (Nat → Int32)) (f_savedSlots : (Nat → Option Nat))  (post : Int32 → (Nat → Int32) → (Nat → Int32) → (Nat → Option Nat) → Prop)  : Nat → Int32 → (Nat → Option Nat) → Prop
  | 0, _, _ => False
  | n50 + 1, v1, f_slots =>
  (((5 : Int32) ≤ v1 → (w7_nodeCount f_slots (fun r74 => (post r74 f_tops f_bottoms f_slots)))) ∧ (¬ (5 : Int32) ≤ v1 → (vp_in v1 5 ∧ (vp_in v1 5 ∧ (∀ q9, (f_savedSlots v1.toNatClampNeg) = some q9 → q9 ∈ L) ∧ (∀ x67 : Int32, x67 = (v1 + (1 : Int32)) → (w7_restore_L50 L f_tops f_bottoms f_savedSlots post n50 x67 (va_up f_slots v1.toNatClampNeg (f_savedSlots v1.toNatClampNeg))))))))
def w7_restore_L12 (L : List Nat) (f_slots : (Nat → Option Nat)) (f_savedTops : (Nat → Int32)) (f_savedBottoms : (Nat → Int32)) (f_savedSlots : (Nat → Option Nat))  (post : Int32 → (Nat → Int32) → (Nat → Int32) → (Nat → Option Nat) → Prop)  : Nat → Int32 → (Nat → Int32) → (Nat → Int32) → Prop
  | 0, _, _, _ => False
  | n12 + 1, v1, f_tops, f_bottoms =>
  (((8 : Int32) ≤ v1 → (∃ n50 : Nat, w7_restore_L50 L f_tops f_bottoms f_savedSlots post n50 (0 : Int32) f_slots)) ∧ (¬ (8 : Int32) ≤ v1 → (vp_in v1 8 ∧ (vp_in v1 8 ∧ (vp_in v1 8 ∧ (vp_in v1 8 ∧ (∀ x42 : Int32, x42 = (v1 + (1 : Int32)) → (w7_restore_L12 L f_slots f_savedTops f_savedBottoms f_savedSlots post n12 x42 (upd f_tops v1.toNatClampNeg (f_savedTops v1.toNatClampNeg)) (upd f_bottoms v1.toNatClampNeg (f_savedBottoms v1.toNatClampNeg))))))))))
def w7_restore (L : List Nat) (f_hasSnapshot : Int32) (f_tops : (Nat → Int32)) (f_bottoms : (Nat → Int32)) (f_slots : (Nat → Option Nat)) (f_savedTops : (Nat → Int32)) (f_savedBottoms : (Nat → Int32)) (f_savedSlots : (Nat → Option Nat))  (post : Int32 → (Nat → Int32) → (Nat → Int32) → (Nat → Option Nat) → Prop) : Prop :=
  ((¬ f_hasSnapshot = 0 → (∃ n12 : Nat, w7_restore_L12 L f_slots f_savedTops f_savedBottoms f_savedSlots post n12 (0 : Int32) f_tops f_bottoms)) ∧ (f_hasSnapshot = 0 → (post (-2 : Int32) f_tops f_bottoms f_slots)))
abbrev rm7_snapshot : Room := { frames := 1, cells := 0, slots := 0, locals := 22 }
theorem nm7_snapshot : kNm yX7_snapshot 0 := by decide +kernel
set_option maxHeartbeats 4000000 in
set_option maxRecDepth 100000 in
theorem c7_snapshot (l : Launch) (D : va_G) (cI cJ cN cR : ClassId) (L : List Nat) (kk tt bb : Nat → Int32) (rf : Nat → Nat) (sz : Nat) (f_hasSnapshot : Int32) (f_termListSize : Int32) (f_textSize : Int32) (f_tops : (Nat → Int32)) (f_bottoms : (Nat → Int32)) (f_slots : (Nat → Option Nat)) (f_savedTops : (Nat → Int32)) (f_savedBottoms : (Nat → Int32)) (f_savedSlots : (Nat → Option Nat))  (post : Int32 → Int32 → (Nat → Int32) → (Nat → Int32) → (Nat → Option Nat) → Prop) (hw : w7_snapshot L f_hasSnapshot f_tops f_bottoms f_slots f_savedTops f_savedBottoms f_savedSlots post) : Met l yX7_snapshot wsX7_snapshot rm7_snapshot (kP D (kT cI cJ cN cR) sz [.ref (rf 0)] ([((rf 0), o7 rf f_hasSnapshot f_termListSize f_textSize), ((rf 1), ai cI 8 f_tops), ((rf 2), ai cI 8 f_bottoms), ((rf 3), aq cN 5 f_slots), ((rf 4), ai cI 8 f_savedTops), ((rf 5), ai cI 8 f_savedBottoms), ((rf 6), aq cN 5 f_savedSlots)] ++ npl L kk tt bb)) (kQi D ([((rf 0), o7 rf f_hasSnapshot f_termListSize f_textSize), ((rf 1), ai cI 8 f_tops), ((rf 2), ai cI 8 f_bottoms), ((rf 3), aq cN 5 f_slots), ((rf 4), ai cI 8 f_savedTops), ((rf 5), ai cI 8 f_savedBottoms), ((rf 6), aq cN 5 f_savedSlots)] ++ npl L kk tt bb) sz (fun (r : Int32) (u : Int32 × (Nat → Int32) × (Nat → Int32) × (Nat → Option Nat)) => post r u.1 u.2.1 u.2.2.1 u.2.2.2) (fun (u : Int32 × (Nat → Int32) × (Nat → Int32) × (Nat → Option Nat)) => ([((rf 0), o7 rf u.1 f_termListSize f_textSize), ((rf 1), ai cI 8 f_tops), ((rf 2), ai cI 8 f_bottoms), ((rf 3), aq cN 5 f_slots), ((rf 4), ai cI 8 u.2.1), ((rf 5), ai cI 8 u.2.2.1), ((rf 6), aq cN 5 u.2.2.2)] ++ npl L kk tt bb))) 0 0 (va_A ([((rf 0), o7 rf f_hasSnapshot f_termListSize f_textSize), ((rf 1), ai cI 8 f_tops), ((rf 2), ai cI 8 f_bottoms), ((rf 3), aq cN 5 f_slots), ((rf 4), ai cI 8 f_savedTops), ((rf 5), ai cI 8 f_savedBottoms), ((rf 6), aq cN 5 f_savedSlots)] ++ npl L kk tt bb) sz) := by
  refine kMetI (cc := cX7_snapshot) (maxL := 2) (by decide +kernel) rfl (Nat.le_of_ble_eq_true rfl) ?_
  intro p e s m args below meth c H0 ls A Q C0 hK hN hP hD hS hA hl RET
  obtain ⟨hx, hb, hml, hown, hts⟩ := id C0
  have hl : lv_has ls 2 [(0, .ref (rf 0))] := hl
  have g22 := hts (.fieldLink RX7 22 "SternBrocotExplorer" "savedTops" "[I") (by decide +kernel)
  have g9 := hts (.fieldLink RX7 9 "SternBrocotExplorer" "tops" "[I") (by decide +kernel)
  have g25 := hts (.fieldLink RX7 25 "SternBrocotExplorer" "savedBottoms" "[I") (by decide +kernel)
  have g13 := hts (.fieldLink RX7 13 "SternBrocotExplorer" "bottoms" "[I") (by decide +kernel)
  have g28 := hts (.fieldLink RX7 28 "SternBrocotExplorer" "savedSlots" "[LSternBrocotExplorer$Node;") (by decide +kernel)
  have g18 := hts (.fieldLink RX7 18 "SternBrocotExplorer" "slots" "[LSternBrocotExplorer$Node;") (by decide +kernel)
  have g246 := hts (.fieldLink RX7 246 "SternBrocotExplorer" "hasSnapshot" "Z") (by decide +kernel)
  have hi9 : ∀ w ∈ wsX70, w ∈ wsX7_snapshot := fun w h => List.mem_cons_of_mem _ (List.mem_append_right _ h)
  unfold w7_snapshot at hw
  have hP : va_P D vwCl ([((rf 0), o7 rf f_hasSnapshot f_termListSize f_textSize), ((rf 1), ai cI 8 f_tops), ((rf 2), ai cI 8 f_bottoms), ((rf 3), aq cN 5 f_slots), ((rf 4), ai cI 8 f_savedTops), ((rf 5), ai cI 8 f_savedBottoms), ((rf 6), aq cN 5 f_savedSlots)] ++ npl L kk tt bb) H0 := hP
  refine lv_iconst (v := (0 : Int32)) hx hb dX7_snapshot_0 (by decide) ?_
  refine lv_istore_n (lv' := [(1, .int (0 : Int32)), (0, .ref (rf 0))]) hx hb dX7_snapshot_1 rfl hl (by decide) rfl (fun ls hl => ?_)
  obtain ⟨n2, hw⟩ := hw
  have LOOP_2 : ∀ (n2 : Nat) (v1 : Int32) (f_savedTops : (Nat → Int32)) (f_savedBottoms : (Nat → Int32)) (H : Heap) (locs : List Loc) (ls : Array Slot), w7_snapshot_L2 L f_hasSnapshot f_tops f_bottoms f_slots f_savedSlots post n2 v1 f_savedTops f_savedBottoms → va_P D vwCl ([((rf 0), o7 rf f_hasSnapshot f_termListSize f_textSize), ((rf 1), ai cI 8 f_tops), ((rf 2), ai cI 8 f_bottoms), ((rf 3), aq cN 5 f_slots), ((rf 4), ai cI 8 f_savedTops), ((rf 5), ai cI 8 f_savedBottoms), ((rf 6), aq cN 5 f_savedSlots)] ++ npl L kk tt bb) H → va_D A ([((rf 0), o7 rf f_hasSnapshot f_termListSize f_textSize), ((rf 1), ai cI 8 f_tops), ((rf 2), ai cI 8 f_bottoms), ((rf 3), aq cN 5 f_slots), ((rf 4), ai cI 8 f_savedTops), ((rf 5), ai cI 8 f_savedBottoms), ((rf 6), aq cN 5 f_savedSlots)] ++ npl L kk tt bb) → va_S A H0 H locs → lv_has ls 2 [(0, .ref (rf 0)), (1, .int v1)] → W p l e rm7_snapshot s m args below meth c H locs 0 0 Q (F0 m 2 ls []) := by
    clear hw hl hP hD hS
    intro n2
    induction n2 with
    | zero =>
      intro v1 f_savedTops f_savedBottoms H locs ls hw hP hD hS hl
      rw [w7_snapshot_L2] at hw
      exact hw.elim
    | succ n2 ih2 =>
      intro v1 f_savedTops f_savedBottoms H locs ls hw hP hD hS hl
      rw [w7_snapshot_L2] at hw
      refine lv_iload_n hx hb dX7_snapshot_2 rfl (lv_at hl 1 rfl) ?_
      refine lv_bipush (v := (8 : Int32)) hx hb dX7_snapshot_3 (by decide) ?_
      refine lv_icmp_ge (tgt := 38) hx hb dX7_snapshot_5 (by decide) (fun k => ?_) (fun k => ?_)
      · have hw := hw.1 k
        refine lv_iconst (v := (0 : Int32)) hx hb dX7_snapshot_38 (by decide) ?_
        refine lv_istore_n (lv' := [(1, .int (0 : Int32)), (0, .ref (rf 0))]) hx hb dX7_snapshot_39 rfl hl (by decide) rfl (fun ls hl => ?_)
        obtain ⟨n40, hw⟩ := hw
        have LOOP_40 : ∀ (n40 : Nat) (v1 : Int32) (f_savedSlots : (Nat → Option Nat)) (H : Heap) (locs : List Loc) (ls : Array Slot), w7_snapshot_L40 L f_hasSnapshot f_slots f_savedTops f_savedBottoms post n40 v1 f_savedSlots → va_P D vwCl ([((rf 0), o7 rf f_hasSnapshot f_termListSize f_textSize), ((rf 1), ai cI 8 f_tops), ((rf 2), ai cI 8 f_bottoms), ((rf 3), aq cN 5 f_slots), ((rf 4), ai cI 8 f_savedTops), ((rf 5), ai cI 8 f_savedBottoms), ((rf 6), aq cN 5 f_savedSlots)] ++ npl L kk tt bb) H → va_D A ([((rf 0), o7 rf f_hasSnapshot f_termListSize f_textSize), ((rf 1), ai cI 8 f_tops), ((rf 2), ai cI 8 f_bottoms), ((rf 3), aq cN 5 f_slots), ((rf 4), ai cI 8 f_savedTops), ((rf 5), ai cI 8 f_savedBottoms), ((rf 6), aq cN 5 f_savedSlots)] ++ npl L kk tt bb) → va_S A H0 H locs → lv_has ls 2 [(0, .ref (rf 0)), (1, .int v1)] → W p l e rm7_snapshot s m args below meth c H locs 0 0 Q (F0 m 40 ls []) := by
          clear hw hl hP hD hS
          intro n40
          induction n40 with
          | zero =>
            intro v1 f_savedSlots H locs ls hw hP hD hS hl
            rw [w7_snapshot_L40] at hw
            exact hw.elim
          | succ n40 ih40 =>
            intro v1 f_savedSlots H locs ls hw hP hD hS hl
            rw [w7_snapshot_L40] at hw
            refine lv_iload_n hx hb dX7_snapshot_40 rfl (lv_at hl 1 rfl) ?_
            refine lv_iconst (v := (5 : Int32)) hx hb dX7_snapshot_41 (by decide) ?_
            refine lv_icmp_ge (tgt := 63) hx hb dX7_snapshot_42 (by decide) (fun k => ?_) (fun k => ?_)
            · have hw := hw.1 k
              refine lv_aload_n hx hb dX7_snapshot_63 rfl (lv_at hl 0 rfl) ?_
              refine lv_iconst (v := (1 : Int32)) hx hb dX7_snapshot_64 (by decide) ?_
              refine va_put (D := D) (ci := 7) (v := .int (1 : Int32)) (ty := .boolean) (C := RX7) (T := TX7) (N := 16) hx hb hts hi9 tyX7 tyX7_ok nmX7 hown hK hP hD hS 0 rfl rfl 6 (by decide) g246 (fun _ h9 => h9) rfl (by decide +kernel) rfl rfl (Nat.le_of_ble_eq_true rfl) dX7_snapshot_65 (fun H locs hP hD hS => ?_)
              have hP : va_P D vwCl ([((rf 0), o7 rf (1 : Int32) f_termListSize f_textSize), ((rf 1), ai cI 8 f_tops), ((rf 2), ai cI 8 f_bottoms), ((rf 3), aq cN 5 f_slots), ((rf 4), ai cI 8 f_savedTops), ((rf 5), ai cI 8 f_savedBottoms), ((rf 6), aq cN 5 f_savedSlots)] ++ npl L kk tt bb) H := hP
              have hD : va_D A ([((rf 0), o7 rf (1 : Int32) f_termListSize f_textSize), ((rf 1), ai cI 8 f_tops), ((rf 2), ai cI 8 f_bottoms), ((rf 3), aq cN 5 f_slots), ((rf 4), ai cI 8 f_savedTops), ((rf 5), ai cI 8 f_savedBottoms), ((rf 6), aq cN 5 f_savedSlots)] ++ npl L kk tt bb) := hD
              refine lv_aload_n hx hb dX7_snapshot_68 rfl (lv_at hl 0 rfl) ?_
              refine kcRI (wc := [((rf 0), o7 rf (1 : Int32) f_termListSize f_textSize), ((rf 3), aq cN 5 f_slots)]) hP [0, 3] rfl (fun hPc => oV (As := []) (rest := []) C0 hK hN (c7_nodeCount l D cI cJ cN cR rf (1 : Int32) f_termListSize f_textSize f_slots  _ hw) 0 gX7_snapshot_X7_nodeCount rfl ⟨rfl, rfl⟩ nm7_nodeCount ⟨Nat.le_of_ble_eq_true rfl, Nat.le_of_ble_eq_true rfl⟩ (q0 := 0) rfl rfl rfl rfl hl.1 rfl (Nat.le_of_ble_eq_true rfl) dX7_snapshot_69 ⟨Nat.le_of_ble_eq_true rfl, Nat.le_of_ble_eq_true rfl⟩ hPc) (fun r69 hw => ?_)
              exact RET _ _ _ ((1 : Int32), f_savedTops, f_savedBottoms, f_savedSlots) _ _ hw hP hD hS dX7_snapshot_72
            · have hw := hw.2 k
              refine lv_aload_n hx hb dX7_snapshot_45 rfl (lv_at hl 0 rfl) ?_
              refine va_get (D := D) (ci := 7) (v := .ref (rf 6)) (C := RX7) (T := TX7) (N := 16) hx hb hts hi9 hown hK hP 0 rfl rfl 5 (by decide) g28 (fun _ h9 => h9) rfl dX7_snapshot_46 ?_
              refine lv_iload_n hx hb dX7_snapshot_49 rfl (lv_at hl 1 rfl) ?_
              refine lv_aload_n hx hb dX7_snapshot_50 rfl (lv_at hl 0 rfl) ?_
              refine va_get (D := D) (ci := 7) (v := .ref (rf 3)) (C := RX7) (T := TX7) (N := 16) hx hb hts hi9 hown hK hP 0 rfl rfl 2 (by decide) g18 (fun _ h9 => h9) rfl dX7_snapshot_51 ?_
              refine lv_iload_n hx hb dX7_snapshot_54 rfl (lv_at hl 1 rfl) ?_
              obtain ⟨hin, hw⟩ := hw
              refine va_aldq hx hb hK hP 3 2 rfl rfl hin dX7_snapshot_55 ?_
              obtain ⟨hin, hq9, hw⟩ := hw
              refine k_ast hx hb hK hP hD hS 6 2 rfl rfl (fun v h => k_any hK hN hP (hq9 v h)) hin dX7_snapshot_56 (fun H locs hP hD hS => ?_)
              have hP : va_P D vwCl ([((rf 0), o7 rf f_hasSnapshot f_termListSize f_textSize), ((rf 1), ai cI 8 f_tops), ((rf 2), ai cI 8 f_bottoms), ((rf 3), aq cN 5 f_slots), ((rf 4), ai cI 8 f_savedTops), ((rf 5), ai cI 8 f_savedBottoms), ((rf 6), aq cN 5 (va_up f_savedSlots v1.toNatClampNeg (f_slots v1.toNatClampNeg)))] ++ npl L kk tt bb) H := hP
              have hD : va_D A ([((rf 0), o7 rf f_hasSnapshot f_termListSize f_textSize), ((rf 1), ai cI 8 f_tops), ((rf 2), ai cI 8 f_bottoms), ((rf 3), aq cN 5 f_slots), ((rf 4), ai cI 8 f_savedTops), ((rf 5), ai cI 8 f_savedBottoms), ((rf 6), aq cN 5 (va_up f_savedSlots v1.toNatClampNeg (f_slots v1.toNatClampNeg)))] ++ npl L kk tt bb) := hD
              obtain ⟨x57, ex57⟩ : ∃ y : Int32, y = (v1 + (1 : Int32)) := ⟨_, rfl⟩
              have hw := hw x57 ex57
              refine lv_iinc (v := x57) (lv' := [(1, .int x57), (0, .ref (rf 0))]) hx hb dX7_snapshot_57 hl (k := 1) rfl (by rw [ex57]; rfl) (by decide) rfl (fun ls hl => ?_)
              refine lv_goto (tgt := 40) hx hb dX7_snapshot_60 (by decide) ?_
              exact ih40 x57 (va_up f_savedSlots v1.toNatClampNeg (f_slots v1.toNatClampNeg)) _ _ ls hw hP hD hS (lv_sub hl [1, 0] rfl)
        exact LOOP_40 n40 (0 : Int32) f_savedSlots _ _ ls hw hP hD hS (lv_sub hl [1, 0] rfl)
      · have hw := hw.2 k
        refine lv_aload_n hx hb dX7_snapshot_8 rfl (lv_at hl 0 rfl) ?_
        refine va_get (D := D) (ci := 7) (v := .ref (rf 4)) (C := RX7) (T := TX7) (N := 16) hx hb hts hi9 hown hK hP 0 rfl rfl 3 (by decide) g22 (fun _ h9 => h9) rfl dX7_snapshot_9 ?_
        refine lv_iload_n hx hb dX7_snapshot_12 rfl (lv_at hl 1 rfl) ?_
        refine lv_aload_n hx hb dX7_snapshot_13 rfl (lv_at hl 0 rfl) ?_
        refine va_get (D := D) (ci := 7) (v := .ref (rf 1)) (C := RX7) (T := TX7) (N := 16) hx hb hts hi9 hown hK hP 0 rfl rfl 0 (by decide) g9 (fun _ h9 => h9) rfl dX7_snapshot_14 ?_
        refine lv_iload_n hx hb dX7_snapshot_17 rfl (lv_at hl 1 rfl) ?_
        obtain ⟨hin, hw⟩ := hw
        refine va_iald hx hb hK hP 1 0 rfl rfl hin dX7_snapshot_18 ?_
        obtain ⟨hin, hw⟩ := hw
        refine va_iast hx hb hK hP hD hS 4 0 rfl rfl hin dX7_snapshot_19 (fun H locs hP hD hS => ?_)
        have hP : va_P D vwCl ([((rf 0), o7 rf f_hasSnapshot f_termListSize f_textSize), ((rf 1), ai cI 8 f_tops), ((rf 2), ai cI 8 f_bottoms), ((rf 3), aq cN 5 f_slots), ((rf 4), ai cI 8 (upd f_savedTops v1.toNatClampNeg (f_tops v1.toNatClampNeg))), ((rf 5), ai cI 8 f_savedBottoms), ((rf 6), aq cN 5 f_savedSlots)] ++ npl L kk tt bb) H := hP
        have hD : va_D A ([((rf 0), o7 rf f_hasSnapshot f_termListSize f_textSize), ((rf 1), ai cI 8 f_tops), ((rf 2), ai cI 8 f_bottoms), ((rf 3), aq cN 5 f_slots), ((rf 4), ai cI 8 (upd f_savedTops v1.toNatClampNeg (f_tops v1.toNatClampNeg))), ((rf 5), ai cI 8 f_savedBottoms), ((rf 6), aq cN 5 f_savedSlots)] ++ npl L kk tt bb) := hD
        refine lv_aload_n hx hb dX7_snapshot_20 rfl (lv_at hl 0 rfl) ?_
        refine va_get (D := D) (ci := 7) (v := .ref (rf 5)) (C := RX7) (T := TX7) (N := 16) hx hb hts hi9 hown hK hP 0 rfl rfl 4 (by decide) g25 (fun _ h9 => h9) rfl dX7_snapshot_21 ?_
        refine lv_iload_n hx hb dX7_snapshot_24 rfl (lv_at hl 1 rfl) ?_
        refine lv_aload_n hx hb dX7_snapshot_25 rfl (lv_at hl 0 rfl) ?_
        refine va_get (D := D) (ci := 7) (v := .ref (rf 2)) (C := RX7) (T := TX7) (N := 16) hx hb hts hi9 hown hK hP 0 rfl rfl 1 (by decide) g13 (fun _ h9 => h9) rfl dX7_snapshot_26 ?_
        refine lv_iload_n hx hb dX7_snapshot_29 rfl (lv_at hl 1 rfl) ?_
        obtain ⟨hin, hw⟩ := hw
        refine va_iald hx hb hK hP 2 0 rfl rfl hin dX7_snapshot_30 ?_
        obtain ⟨hin, hw⟩ := hw
        refine va_iast hx hb hK hP hD hS 5 0 rfl rfl hin dX7_snapshot_31 (fun H locs hP hD hS => ?_)
        have hP : va_P D vwCl ([((rf 0), o7 rf f_hasSnapshot f_termListSize f_textSize), ((rf 1), ai cI 8 f_tops), ((rf 2), ai cI 8 f_bottoms), ((rf 3), aq cN 5 f_slots), ((rf 4), ai cI 8 (upd f_savedTops v1.toNatClampNeg (f_tops v1.toNatClampNeg))), ((rf 5), ai cI 8 (upd f_savedBottoms v1.toNatClampNeg (f_bottoms v1.toNatClampNeg))), ((rf 6), aq cN 5 f_savedSlots)] ++ npl L kk tt bb) H := hP
        have hD : va_D A ([((rf 0), o7 rf f_hasSnapshot f_termListSize f_textSize), ((rf 1), ai cI 8 f_tops), ((rf 2), ai cI 8 f_bottoms), ((rf 3), aq cN 5 f_slots), ((rf 4), ai cI 8 (upd f_savedTops v1.toNatClampNeg (f_tops v1.toNatClampNeg))), ((rf 5), ai cI 8 (upd f_savedBottoms v1.toNatClampNeg (f_bottoms v1.toNatClampNeg))), ((rf 6), aq cN 5 f_savedSlots)] ++ npl L kk tt bb) := hD
        obtain ⟨x32, ex32⟩ : ∃ y : Int32, y = (v1 + (1 : Int32)) := ⟨_, rfl⟩
        have hw := hw x32 ex32
        refine lv_iinc (v := x32) (lv' := [(1, .int x32), (0, .ref (rf 0))]) hx hb dX7_snapshot_32 hl (k := 1) rfl (by rw [ex32]; rfl) (by decide) rfl (fun ls hl => ?_)
        refine lv_goto (tgt := 2) hx hb dX7_snapshot_35 (by decide) ?_
        exact ih2 x32 (upd f_savedTops v1.toNatClampNeg (f_tops v1.toNatClampNeg)) (upd f_savedBottoms v1.toNatClampNeg (f_bottoms v1.toNatClampNeg)) _ _ ls hw hP hD hS (lv_sub hl [1, 0] rfl)
  exact LOOP_2 n2 (0 : Int32) f_savedTops f_savedBottoms _ _ ls hw hP hD hS (lv_sub hl [1, 0] rfl)
abbrev rm7_restore : Room := { frames := 1, cells := 0, slots := 0, locals := 22 }
theorem nm7_restore : kNm yX7_restore 0 := by decide +kernel
set_option maxHeartbeats 4000000 in
set_option maxRecDepth 100000 in
theorem c7_restore (l : Launch) (D : va_G) (cI cJ cN cR : ClassId) (L : List Nat) (kk tt bb : Nat → Int32) (rf : Nat → Nat) (sz : Nat) (f_hasSnapshot : Int32) (f_termListSize : Int32) (f_textSize : Int32) (f_tops : (Nat → Int32)) (f_bottoms : (Nat → Int32)) (f_slots : (Nat → Option Nat)) (f_savedTops : (Nat → Int32)) (f_savedBottoms : (Nat → Int32)) (f_savedSlots : (Nat → Option Nat))  (post : Int32 → (Nat → Int32) → (Nat → Int32) → (Nat → Option Nat) → Prop) (hw : w7_restore L f_hasSnapshot f_tops f_bottoms f_slots f_savedTops f_savedBottoms f_savedSlots post) : Met l yX7_restore wsX7_restore rm7_restore (kP D (kT cI cJ cN cR) sz [.ref (rf 0)] ([((rf 0), o7 rf f_hasSnapshot f_termListSize f_textSize), ((rf 1), ai cI 8 f_tops), ((rf 2), ai cI 8 f_bottoms), ((rf 3), aq cN 5 f_slots), ((rf 4), ai cI 8 f_savedTops), ((rf 5), ai cI 8 f_savedBottoms), ((rf 6), aq cN 5 f_savedSlots)] ++ npl L kk tt bb)) (kQi D ([((rf 0), o7 rf f_hasSnapshot f_termListSize f_textSize), ((rf 1), ai cI 8 f_tops), ((rf 2), ai cI 8 f_bottoms), ((rf 3), aq cN 5 f_slots), ((rf 4), ai cI 8 f_savedTops), ((rf 5), ai cI 8 f_savedBottoms), ((rf 6), aq cN 5 f_savedSlots)] ++ npl L kk tt bb) sz (fun (r : Int32) (u : (Nat → Int32) × (Nat → Int32) × (Nat → Option Nat)) => post r u.1 u.2.1 u.2.2) (fun (u : (Nat → Int32) × (Nat → Int32) × (Nat → Option Nat)) => ([((rf 0), o7 rf f_hasSnapshot f_termListSize f_textSize), ((rf 1), ai cI 8 u.1), ((rf 2), ai cI 8 u.2.1), ((rf 3), aq cN 5 u.2.2), ((rf 4), ai cI 8 f_savedTops), ((rf 5), ai cI 8 f_savedBottoms), ((rf 6), aq cN 5 f_savedSlots)] ++ npl L kk tt bb))) 0 0 (va_A ([((rf 0), o7 rf f_hasSnapshot f_termListSize f_textSize), ((rf 1), ai cI 8 f_tops), ((rf 2), ai cI 8 f_bottoms), ((rf 3), aq cN 5 f_slots), ((rf 4), ai cI 8 f_savedTops), ((rf 5), ai cI 8 f_savedBottoms), ((rf 6), aq cN 5 f_savedSlots)] ++ npl L kk tt bb) sz) := by
  refine kMetI (cc := cX7_restore) (maxL := 2) (by decide +kernel) rfl (Nat.le_of_ble_eq_true rfl) ?_
  intro p e s m args below meth c H0 ls A Q C0 hK hN hP hD hS hA hl RET
  obtain ⟨hx, hb, hml, hown, hts⟩ := id C0
  have hl : lv_has ls 2 [(0, .ref (rf 0))] := hl
  have g246 := hts (.fieldLink RX7 246 "SternBrocotExplorer" "hasSnapshot" "Z") (by decide +kernel)
  have g9 := hts (.fieldLink RX7 9 "SternBrocotExplorer" "tops" "[I") (by decide +kernel)
  have g22 := hts (.fieldLink RX7 22 "SternBrocotExplorer" "savedTops" "[I") (by decide +kernel)
  have g13 := hts (.fieldLink RX7 13 "SternBrocotExplorer" "bottoms" "[I") (by decide +kernel)
  have g25 := hts (.fieldLink RX7 25 "SternBrocotExplorer" "savedBottoms" "[I") (by decide +kernel)
  have g18 := hts (.fieldLink RX7 18 "SternBrocotExplorer" "slots" "[LSternBrocotExplorer$Node;") (by decide +kernel)
  have g28 := hts (.fieldLink RX7 28 "SternBrocotExplorer" "savedSlots" "[LSternBrocotExplorer$Node;") (by decide +kernel)
  have hi9 : ∀ w ∈ wsX70, w ∈ wsX7_restore := fun w h => List.mem_cons_of_mem _ (List.mem_append_right _ h)
  unfold w7_restore at hw
  have hP : va_P D vwCl ([((rf 0), o7 rf f_hasSnapshot f_termListSize f_textSize), ((rf 1), ai cI 8 f_tops), ((rf 2), ai cI 8 f_bottoms), ((rf 3), aq cN 5 f_slots), ((rf 4), ai cI 8 f_savedTops), ((rf 5), ai cI 8 f_savedBottoms), ((rf 6), aq cN 5 f_savedSlots)] ++ npl L kk tt bb) H0 := hP
  refine lv_aload_n hx hb dX7_restore_0 rfl (lv_at hl 0 rfl) ?_
  refine va_get (D := D) (ci := 7) (v := .int f_hasSnapshot) (C := RX7) (T := TX7) (N := 16) hx hb hts hi9 hown hK hP 0 rfl rfl 6 (by decide) g246 (fun _ h9 => h9) rfl dX7_restore_1 ?_
  refine lv_if_ne (tgt := 10) hx hb dX7_restore_4 (by decide) (fun k => ?_) (fun k => ?_)
  · have hw := hw.1 k
    refine lv_iconst (v := (0 : Int32)) hx hb dX7_restore_10 (by decide) ?_
    refine lv_istore_n (lv' := [(1, .int (0 : Int32)), (0, .ref (rf 0))]) hx hb dX7_restore_11 rfl hl (by decide) rfl (fun ls hl => ?_)
    obtain ⟨n12, hw⟩ := hw
    have LOOP_12 : ∀ (n12 : Nat) (v1 : Int32) (f_tops : (Nat → Int32)) (f_bottoms : (Nat → Int32)) (H : Heap) (locs : List Loc) (ls : Array Slot), w7_restore_L12 L f_slots f_savedTops f_savedBottoms f_savedSlots post n12 v1 f_tops f_bottoms → va_P D vwCl ([((rf 0), o7 rf f_hasSnapshot f_termListSize f_textSize), ((rf 1), ai cI 8 f_tops), ((rf 2), ai cI 8 f_bottoms), ((rf 3), aq cN 5 f_slots), ((rf 4), ai cI 8 f_savedTops), ((rf 5), ai cI 8 f_savedBottoms), ((rf 6), aq cN 5 f_savedSlots)] ++ npl L kk tt bb) H → va_D A ([((rf 0), o7 rf f_hasSnapshot f_termListSize f_textSize), ((rf 1), ai cI 8 f_tops), ((rf 2), ai cI 8 f_bottoms), ((rf 3), aq cN 5 f_slots), ((rf 4), ai cI 8 f_savedTops), ((rf 5), ai cI 8 f_savedBottoms), ((rf 6), aq cN 5 f_savedSlots)] ++ npl L kk tt bb) → va_S A H0 H locs → lv_has ls 2 [(0, .ref (rf 0)), (1, .int v1)] → W p l e rm7_restore s m args below meth c H locs 0 0 Q (F0 m 12 ls []) := by
      clear hw hl hP hD hS
      intro n12
      induction n12 with
      | zero =>
        intro v1 f_tops f_bottoms H locs ls hw hP hD hS hl
        rw [w7_restore_L12] at hw
        exact hw.elim
      | succ n12 ih12 =>
        intro v1 f_tops f_bottoms H locs ls hw hP hD hS hl
        rw [w7_restore_L12] at hw
        refine lv_iload_n hx hb dX7_restore_12 rfl (lv_at hl 1 rfl) ?_
        refine lv_bipush (v := (8 : Int32)) hx hb dX7_restore_13 (by decide) ?_
        refine lv_icmp_ge (tgt := 48) hx hb dX7_restore_15 (by decide) (fun k => ?_) (fun k => ?_)
        · have hw := hw.1 k
          refine lv_iconst (v := (0 : Int32)) hx hb dX7_restore_48 (by decide) ?_
          refine lv_istore_n (lv' := [(1, .int (0 : Int32)), (0, .ref (rf 0))]) hx hb dX7_restore_49 rfl hl (by decide) rfl (fun ls hl => ?_)
          obtain ⟨n50, hw⟩ := hw
          have LOOP_50 : ∀ (n50 : Nat) (v1 : Int32) (f_slots : (Nat → Option Nat)) (H : Heap) (locs : List Loc) (ls : Array Slot), w7_restore_L50 L f_tops f_bottoms f_savedSlots post n50 v1 f_slots → va_P D vwCl ([((rf 0), o7 rf f_hasSnapshot f_termListSize f_textSize), ((rf 1), ai cI 8 f_tops), ((rf 2), ai cI 8 f_bottoms), ((rf 3), aq cN 5 f_slots), ((rf 4), ai cI 8 f_savedTops), ((rf 5), ai cI 8 f_savedBottoms), ((rf 6), aq cN 5 f_savedSlots)] ++ npl L kk tt bb) H → va_D A ([((rf 0), o7 rf f_hasSnapshot f_termListSize f_textSize), ((rf 1), ai cI 8 f_tops), ((rf 2), ai cI 8 f_bottoms), ((rf 3), aq cN 5 f_slots), ((rf 4), ai cI 8 f_savedTops), ((rf 5), ai cI 8 f_savedBottoms), ((rf 6), aq cN 5 f_savedSlots)] ++ npl L kk tt bb) → va_S A H0 H locs → lv_has ls 2 [(0, .ref (rf 0)), (1, .int v1)] → W p l e rm7_restore s m args below meth c H locs 0 0 Q (F0 m 50 ls []) := by
            clear hw hl hP hD hS
            intro n50
            induction n50 with
            | zero =>
              intro v1 f_slots H locs ls hw hP hD hS hl
              rw [w7_restore_L50] at hw
              exact hw.elim
            | succ n50 ih50 =>
              intro v1 f_slots H locs ls hw hP hD hS hl
              rw [w7_restore_L50] at hw
              refine lv_iload_n hx hb dX7_restore_50 rfl (lv_at hl 1 rfl) ?_
              refine lv_iconst (v := (5 : Int32)) hx hb dX7_restore_51 (by decide) ?_
              refine lv_icmp_ge (tgt := 73) hx hb dX7_restore_52 (by decide) (fun k => ?_) (fun k => ?_)
              · have hw := hw.1 k
                refine lv_aload_n hx hb dX7_restore_73 rfl (lv_at hl 0 rfl) ?_
                refine kcRI (wc := [((rf 0), o7 rf f_hasSnapshot f_termListSize f_textSize), ((rf 3), aq cN 5 f_slots)]) hP [0, 3] rfl (fun hPc => oV (As := []) (rest := []) C0 hK hN (c7_nodeCount l D cI cJ cN cR rf f_hasSnapshot f_termListSize f_textSize f_slots  _ hw) 0 gX7_restore_X7_nodeCount rfl ⟨rfl, rfl⟩ nm7_nodeCount ⟨Nat.le_of_ble_eq_true rfl, Nat.le_of_ble_eq_true rfl⟩ (q0 := 0) rfl rfl rfl rfl hl.1 rfl (Nat.le_of_ble_eq_true rfl) dX7_restore_74 ⟨Nat.le_of_ble_eq_true rfl, Nat.le_of_ble_eq_true rfl⟩ hPc) (fun r74 hw => ?_)
                exact RET _ _ _ (f_tops, f_bottoms, f_slots) _ _ hw hP hD hS dX7_restore_77
              · have hw := hw.2 k
                refine lv_aload_n hx hb dX7_restore_55 rfl (lv_at hl 0 rfl) ?_
                refine va_get (D := D) (ci := 7) (v := .ref (rf 3)) (C := RX7) (T := TX7) (N := 16) hx hb hts hi9 hown hK hP 0 rfl rfl 2 (by decide) g18 (fun _ h9 => h9) rfl dX7_restore_56 ?_
                refine lv_iload_n hx hb dX7_restore_59 rfl (lv_at hl 1 rfl) ?_
                refine lv_aload_n hx hb dX7_restore_60 rfl (lv_at hl 0 rfl) ?_
                refine va_get (D := D) (ci := 7) (v := .ref (rf 6)) (C := RX7) (T := TX7) (N := 16) hx hb hts hi9 hown hK hP 0 rfl rfl 5 (by decide) g28 (fun _ h9 => h9) rfl dX7_restore_61 ?_
                refine lv_iload_n hx hb dX7_restore_64 rfl (lv_at hl 1 rfl) ?_
                obtain ⟨hin, hw⟩ := hw
                refine va_aldq hx hb hK hP 6 2 rfl rfl hin dX7_restore_65 ?_
                obtain ⟨hin, hq9, hw⟩ := hw
                refine k_ast hx hb hK hP hD hS 3 2 rfl rfl (fun v h => k_any hK hN hP (hq9 v h)) hin dX7_restore_66 (fun H locs hP hD hS => ?_)
                have hP : va_P D vwCl ([((rf 0), o7 rf f_hasSnapshot f_termListSize f_textSize), ((rf 1), ai cI 8 f_tops), ((rf 2), ai cI 8 f_bottoms), ((rf 3), aq cN 5 (va_up f_slots v1.toNatClampNeg (f_savedSlots v1.toNatClampNeg))), ((rf 4), ai cI 8 f_savedTops), ((rf 5), ai cI 8 f_savedBottoms), ((rf 6), aq cN 5 f_savedSlots)] ++ npl L kk tt bb) H := hP
                have hD : va_D A ([((rf 0), o7 rf f_hasSnapshot f_termListSize f_textSize), ((rf 1), ai cI 8 f_tops), ((rf 2), ai cI 8 f_bottoms), ((rf 3), aq cN 5 (va_up f_slots v1.toNatClampNeg (f_savedSlots v1.toNatClampNeg))), ((rf 4), ai cI 8 f_savedTops), ((rf 5), ai cI 8 f_savedBottoms), ((rf 6), aq cN 5 f_savedSlots)] ++ npl L kk tt bb) := hD
                obtain ⟨x67, ex67⟩ : ∃ y : Int32, y = (v1 + (1 : Int32)) := ⟨_, rfl⟩
                have hw := hw x67 ex67
                refine lv_iinc (v := x67) (lv' := [(1, .int x67), (0, .ref (rf 0))]) hx hb dX7_restore_67 hl (k := 1) rfl (by rw [ex67]; rfl) (by decide) rfl (fun ls hl => ?_)
                refine lv_goto (tgt := 50) hx hb dX7_restore_70 (by decide) ?_
                exact ih50 x67 (va_up f_slots v1.toNatClampNeg (f_savedSlots v1.toNatClampNeg)) _ _ ls hw hP hD hS (lv_sub hl [1, 0] rfl)
          exact LOOP_50 n50 (0 : Int32) f_slots _ _ ls hw hP hD hS (lv_sub hl [1, 0] rfl)
        · have hw := hw.2 k
          refine lv_aload_n hx hb dX7_restore_18 rfl (lv_at hl 0 rfl) ?_
          refine va_get (D := D) (ci := 7) (v := .ref (rf 1)) (C := RX7) (T := TX7) (N := 16) hx hb hts hi9 hown hK hP 0 rfl rfl 0 (by decide) g9 (fun _ h9 => h9) rfl dX7_restore_19 ?_
          refine lv_iload_n hx hb dX7_restore_22 rfl (lv_at hl 1 rfl) ?_
          refine lv_aload_n hx hb dX7_restore_23 rfl (lv_at hl 0 rfl) ?_
          refine va_get (D := D) (ci := 7) (v := .ref (rf 4)) (C := RX7) (T := TX7) (N := 16) hx hb hts hi9 hown hK hP 0 rfl rfl 3 (by decide) g22 (fun _ h9 => h9) rfl dX7_restore_24 ?_
          refine lv_iload_n hx hb dX7_restore_27 rfl (lv_at hl 1 rfl) ?_
          obtain ⟨hin, hw⟩ := hw
          refine va_iald hx hb hK hP 4 0 rfl rfl hin dX7_restore_28 ?_
          obtain ⟨hin, hw⟩ := hw
          refine va_iast hx hb hK hP hD hS 1 0 rfl rfl hin dX7_restore_29 (fun H locs hP hD hS => ?_)
          have hP : va_P D vwCl ([((rf 0), o7 rf f_hasSnapshot f_termListSize f_textSize), ((rf 1), ai cI 8 (upd f_tops v1.toNatClampNeg (f_savedTops v1.toNatClampNeg))), ((rf 2), ai cI 8 f_bottoms), ((rf 3), aq cN 5 f_slots), ((rf 4), ai cI 8 f_savedTops), ((rf 5), ai cI 8 f_savedBottoms), ((rf 6), aq cN 5 f_savedSlots)] ++ npl L kk tt bb) H := hP
          have hD : va_D A ([((rf 0), o7 rf f_hasSnapshot f_termListSize f_textSize), ((rf 1), ai cI 8 (upd f_tops v1.toNatClampNeg (f_savedTops v1.toNatClampNeg))), ((rf 2), ai cI 8 f_bottoms), ((rf 3), aq cN 5 f_slots), ((rf 4), ai cI 8 f_savedTops), ((rf 5), ai cI 8 f_savedBottoms), ((rf 6), aq cN 5 f_savedSlots)] ++ npl L kk tt bb) := hD
          refine lv_aload_n hx hb dX7_restore_30 rfl (lv_at hl 0 rfl) ?_
          refine va_get (D := D) (ci := 7) (v := .ref (rf 2)) (C := RX7) (T := TX7) (N := 16) hx hb hts hi9 hown hK hP 0 rfl rfl 1 (by decide) g13 (fun _ h9 => h9) rfl dX7_restore_31 ?_
          refine lv_iload_n hx hb dX7_restore_34 rfl (lv_at hl 1 rfl) ?_
          refine lv_aload_n hx hb dX7_restore_35 rfl (lv_at hl 0 rfl) ?_
          refine va_get (D := D) (ci := 7) (v := .ref (rf 5)) (C := RX7) (T := TX7) (N := 16) hx hb hts hi9 hown hK hP 0 rfl rfl 4 (by decide) g25 (fun _ h9 => h9) rfl dX7_restore_36 ?_
          refine lv_iload_n hx hb dX7_restore_39 rfl (lv_at hl 1 rfl) ?_
          obtain ⟨hin, hw⟩ := hw
          refine va_iald hx hb hK hP 5 0 rfl rfl hin dX7_restore_40 ?_
          obtain ⟨hin, hw⟩ := hw
          refine va_iast hx hb hK hP hD hS 2 0 rfl rfl hin dX7_restore_41 (fun H locs hP hD hS => ?_)
          have hP : va_P D vwCl ([((rf 0), o7 rf f_hasSnapshot f_termListSize f_textSize), ((rf 1), ai cI 8 (upd f_tops v1.toNatClampNeg (f_savedTops v1.toNatClampNeg))), ((rf 2), ai cI 8 (upd f_bottoms v1.toNatClampNeg (f_savedBottoms v1.toNatClampNeg))), ((rf 3), aq cN 5 f_slots), ((rf 4), ai cI 8 f_savedTops), ((rf 5), ai cI 8 f_savedBottoms), ((rf 6), aq cN 5 f_savedSlots)] ++ npl L kk tt bb) H := hP
          have hD : va_D A ([((rf 0), o7 rf f_hasSnapshot f_termListSize f_textSize), ((rf 1), ai cI 8 (upd f_tops v1.toNatClampNeg (f_savedTops v1.toNatClampNeg))), ((rf 2), ai cI 8 (upd f_bottoms v1.toNatClampNeg (f_savedBottoms v1.toNatClampNeg))), ((rf 3), aq cN 5 f_slots), ((rf 4), ai cI 8 f_savedTops), ((rf 5), ai cI 8 f_savedBottoms), ((rf 6), aq cN 5 f_savedSlots)] ++ npl L kk tt bb) := hD
          obtain ⟨x42, ex42⟩ : ∃ y : Int32, y = (v1 + (1 : Int32)) := ⟨_, rfl⟩
          have hw := hw x42 ex42
          refine lv_iinc (v := x42) (lv' := [(1, .int x42), (0, .ref (rf 0))]) hx hb dX7_restore_42 hl (k := 1) rfl (by rw [ex42]; rfl) (by decide) rfl (fun ls hl => ?_)
          refine lv_goto (tgt := 12) hx hb dX7_restore_45 (by decide) ?_
          exact ih12 x42 (upd f_tops v1.toNatClampNeg (f_savedTops v1.toNatClampNeg)) (upd f_bottoms v1.toNatClampNeg (f_savedBottoms v1.toNatClampNeg)) _ _ ls hw hP hD hS (lv_sub hl [1, 0] rfl)
    exact LOOP_12 n12 (0 : Int32) f_tops f_bottoms _ _ ls hw hP hD hS (lv_sub hl [1, 0] rfl)
  · have hw := hw.2 k
    refine lv_bipush (v := (-2 : Int32)) hx hb dX7_restore_7 (by decide) ?_
    exact RET _ _ _ (f_tops, f_bottoms, f_slots) _ _ hw hP hD hS dX7_restore_9
