/-! the law's loop -/
abbrev LW (cI : ClassId) (rf : Nat → Nat) (tp bo : Nat → Int32) (es os : Int32) (et ot : Nat → Int32) : va_W := [((rf 0), o7 rf 0 0 0), ((rf 1), ai cI 8 tp), ((rf 2), ai cI 8 bo), ((rf 14), o1 (rf 17) es 0 0 0 0), ((rf 15), o1 (rf 18) os 0 0 0 0), ((rf 17), ai cI 64 et), ((rf 18), ai cI 64 ot)]
abbrev LWr (cI : ClassId) (rf : Nat → Nat) (es os : Int32) (et ot : Nat → Int32) : va_W := [((rf 14), o1 (rf 17) es 0 0 0 0), ((rf 15), o1 (rf 18) os 0 0 0 0), ((rf 17), ai cI 64 et), ((rf 18), ai cI 64 ot)]
abbrev LWe (cI : ClassId) (rf : Nat → Nat) (tp bo : Nat → Int32) (es : Int32) (et : Nat → Int32) : va_W := [((rf 0), o7 rf 0 0 0), ((rf 1), ai cI 8 tp), ((rf 2), ai cI 8 bo), ((rf 14), o1 (rf 17) es 0 0 0 0), ((rf 17), ai cI 64 et)]
abbrev LWo (cI : ClassId) (rf : Nat → Nat) (os : Int32) (ot : Nat → Int32) : va_W := [((rf 15), o1 (rf 18) os 0 0 0 0), ((rf 18), ai cI 64 ot)]
def lwAt (p : Program) (l : Launch) (e : Env) (s : State) (m : MethodId) (b : Nat) (below : List Frame) (meth : Method) (c : Code) (D : va_G) (cI : ClassId) (rf : Nat → Nat) (i : Int32) (pc : Nat) : Prop := ∀ (tp bo : Nat → Int32) (es os : Int32) (et ot : Nat → Int32) (H : Heap) (locs : List Loc) (ls : Array Slot), va_P D vwCl (LW cI rf tp bo es os et ot) H → va_D (fun q : Nat => s.heap.size ≤ q) (LW cI rf tp bo es os et ot) → va_S (fun q : Nat => s.heap.size ≤ q) s.heap H locs → lv_has ls 5 [(0, .ref b), (1, .ref (rf 0)), (2, .int i)] → W p l e room_1 s m #[Value.ref b] below meth c H locs 23 2789 (lw_Z below #[Value.ref b] s) (F0 m pc ls [])
set_option maxHeartbeats 8000000 in
set_option maxRecDepth 100000 in
theorem law_tail {p : Program} {e : Env} {s : State} {m : MethodId} {below : List Frame} {meth : Method} {c : Code} {l : Launch} {D : va_G} {cI cJ cN cR : ClassId} {rf : Nat → Nat} {b L : Nat} {xs : Nat → Int32} (C0 : lw_At p s m meth c b L xs) (hK : va_K D vwCl (kT cI cJ cN cR) s) (hN : kN s) (hL : L ≤ 260) {i d lo : Int32} (NEXT : lwAt p l e s m b below meth c D cI rf i 148) {A B N C E M P Q K n : Nat} (hC : CF A B N) (hE : CF C E M) (hQ : CF P Q K) (hd : d.toInt = (n : Int)) (hn : dep P Q K = n) (hn1 : n < dep A B N) (hn2 : n < dep C E M) (tp bo : Nat → Int32) (es os : Int32) (et ot : Nat → Int32) (H : Heap) (locs : List Loc) (ls : Array Slot) (g0 : rg tp bo (0 : Int32).toNatClampNeg A B) (g1 : rg tp bo (1 : Int32).toNatClampNeg C E) (g2 : rg tp bo (2 : Int32).toNatClampNeg P Q) (g3 : rg tp bo (3 : Int32).toNatClampNeg P Q) (hP : va_P D vwCl (LW cI rf tp bo es os et ot) H) (hD : va_D (fun q : Nat => s.heap.size ≤ q) (LW cI rf tp bo es os et ot)) (hS : va_S (fun q : Nat => s.heap.size ≤ q) s.heap H locs) (hl : lv_has ls 5 [(4, .int d), (3, .int lo), (2, .int i), (1, .ref (rf 0)), (0, .ref b)]) : W p l e room_1 s m #[Value.ref b] below meth c H locs 23 2789 (lw_Z below #[Value.ref b] s) (F0 m 102 ls [.int (1 : Int32)]) := by
  obtain ⟨hx, hb, hr, hml, hown, hts0, hX, hbl, hlocks, hgv⟩ := id C0
  have hts : ∀ w ∈ wsL_law, w.before #[Value.ref b] s = true := fun w h => hts0 w (wsL_law_in w h)
  have S : CallFix p m c code 5 s #[.ref b] wsL_law RL := ⟨hx, hb, hml, hown, hts⟩
  have hA : ∀ q : Nat, s.heap.size ≤ q → (fun q : Nat => s.heap.size ≤ q) q := fun _ h => h
  have hbA : ¬ (fun q : Nat => s.heap.size ≤ q) b := Nat.not_le.mpr hbl
  have pq := hQ.pos
  refine lv_iconst (v := (1 : Int32)) hx hb dL_law_102 (by decide) ?_
  refine lv_icmp_ne (tgt := 146) hx hb dL_law_103 (by decide) (fun k103 => ?_) (fun k103 => ?_)
  · exact absurd rfl k103
  · refine lv_aload_n hx hb dL_law_106 rfl (lv_at hl 3 rfl) ?_
    refine lv_iconst (v := (2 : Int32)) hx hb dL_law_107 (by decide) ?_
    refine lv_iconst (v := (3 : Int32)) hx hb dL_law_108 (by decide) ?_
    refine kcRI (wc := LW3 cI rf tp bo) hP [0, 1, 2] rfl (fun hPc => oV (As := [.int (2 : Int32), .int (3 : Int32)]) (rest := []) S hK hN (c7_compare l D cI cJ cN cR rf 0 0 0 tp bo (2 : Int32) (3 : Int32) (fun r => (r = 0 ↔ P * Q < P * Q) ∧ (r = 1 ↔ P * Q = P * Q)) (p_compare (by unfold isR; decide) (by unfold isR; decide) g2 g3 pq.2.1 pq.2.2.2 pq.2.1 pq.2.2.2 (fun r x y => ⟨x, y⟩))) 2 gL_law_X7_compare rfl ⟨rfl, rfl⟩ nm7_compare ⟨Nat.le_of_ble_eq_true rfl, Nat.le_of_ble_eq_true rfl⟩ (q0 := 0) rfl rfl rfl rfl hl.1 rfl (Nat.le_of_ble_eq_true rfl) dL_law_109 ⟨Nat.le_of_ble_eq_true rfl, Nat.le_of_ble_eq_true rfl⟩ hPc) (fun r109 hr109 => ?_)
    refine lv_iconst (v := (1 : Int32)) hx hb dL_law_112 (by decide) ?_
    refine lv_icmp_ne (tgt := 146) hx hb dL_law_113 (by decide) (fun k113 => ?_) (fun k113 => ?_)
    · exact absurd (hr109.2.mpr rfl) k113
    · refine lv_aload_n hx hb dL_law_116 rfl (lv_at hl 3 rfl) ?_
      refine lv_iconst (v := (3 : Int32)) hx hb dL_law_117 (by decide) ?_
      refine kcI (wc := LWe cI rf tp bo es et) (wr := LWo cI rf os ot) hP hD hS hA [0, 1, 2, 3, 5] [4, 6] rfl rfl ⟨rfl, rfl, by decide⟩ (fun hPc hDc => rV (As := [.int (3 : Int32)]) (rest := []) S hK hN (c7_depth l D cI cJ cN cR rf H.size 0 0 0 tp bo es 0 0 0 0 et (3 : Int32) (fun (r es2 : Int32) (et2 : Nat → Int32) => r.toInt = (dep P Q K : Int)) (p_depth (by unfold isR; decide) hQ g3 (fun r _ _ h => h))) 1 gL_law_X7_depth rfl ⟨rfl, rfl⟩ nm7_depth ⟨Nat.le_of_ble_eq_true rfl, Nat.le_of_ble_eq_true rfl⟩ (q0 := 0) rfl rfl rfl rfl hl.1 rfl (Nat.le_of_ble_eq_true rfl) dL_law_118 ⟨Nat.le_of_ble_eq_true rfl, Nat.le_of_ble_eq_true rfl⟩ hPc hDc) (fun r118 u118 H locs hw hP hD hS => ?_)
      have hr118 : r118.toInt = (dep P Q K : Int) := hw
      clear hw
      obtain ⟨hP, hD⟩ := k_sub (ws' := LW cI rf tp bo u118.1 os u118.2 ot) hP hD [2, 3, 4, 5, 0, 6, 1] rfl rfl
      refine lv_iload hx hb dL_law_121 (lv_at hl 0 rfl) ?_
      refine lv_icmp_ne (tgt := 146) hx hb dL_law_123 (by decide) (fun k123 => ?_) (fun k123 => ?_)
      · exact absurd (i_ext (by omega)) k123
      · refine lv_iload hx hb dL_law_126 (lv_at hl 0 rfl) ?_
        refine lv_aload_n hx hb dL_law_128 rfl (lv_at hl 3 rfl) ?_
        refine lv_iconst (v := (0 : Int32)) hx hb dL_law_129 (by decide) ?_
        refine kcI (wc := LWe cI rf tp bo u118.1 u118.2) (wr := LWo cI rf os ot) hP hD hS hA [0, 1, 2, 3, 5] [4, 6] rfl rfl ⟨rfl, rfl, by decide⟩ (fun hPc hDc => rV (As := [.int (0 : Int32)]) (rest := [.int d]) S hK hN (c7_depth l D cI cJ cN cR rf H.size 0 0 0 tp bo u118.1 0 0 0 0 u118.2 (0 : Int32) (fun (r es2 : Int32) (et2 : Nat → Int32) => r.toInt = (dep A B N : Int)) (p_depth (by unfold isR; decide) hC g0 (fun r _ _ h => h))) 1 gL_law_X7_depth rfl ⟨rfl, rfl⟩ nm7_depth ⟨Nat.le_of_ble_eq_true rfl, Nat.le_of_ble_eq_true rfl⟩ (q0 := 0) rfl rfl rfl rfl hl.1 rfl (Nat.le_of_ble_eq_true rfl) dL_law_130 ⟨Nat.le_of_ble_eq_true rfl, Nat.le_of_ble_eq_true rfl⟩ hPc hDc) (fun r130 u130 H locs hw hP hD hS => ?_)
        have hr130 : r130.toInt = (dep A B N : Int) := hw
        clear hw
        obtain ⟨hP, hD⟩ := k_sub (ws' := LW cI rf tp bo u130.1 os u130.2 ot) hP hD [2, 3, 4, 5, 0, 6, 1] rfl rfl
        refine lv_icmp_ge (tgt := 146) hx hb dL_law_133 (by decide) (fun k133 => ?_) (fun k133 => ?_)
        · exact absurd (i_le.mp k133) (by omega)
        · refine lv_iload hx hb dL_law_136 (lv_at hl 0 rfl) ?_
          refine lv_aload_n hx hb dL_law_138 rfl (lv_at hl 3 rfl) ?_
          refine lv_iconst (v := (1 : Int32)) hx hb dL_law_139 (by decide) ?_
          refine kcI (wc := LWe cI rf tp bo u130.1 u130.2) (wr := LWo cI rf os ot) hP hD hS hA [0, 1, 2, 3, 5] [4, 6] rfl rfl ⟨rfl, rfl, by decide⟩ (fun hPc hDc => rV (As := [.int (1 : Int32)]) (rest := [.int d]) S hK hN (c7_depth l D cI cJ cN cR rf H.size 0 0 0 tp bo u130.1 0 0 0 0 u130.2 (1 : Int32) (fun (r es2 : Int32) (et2 : Nat → Int32) => r.toInt = (dep C E M : Int)) (p_depth (by unfold isR; decide) hE g1 (fun r _ _ h => h))) 1 gL_law_X7_depth rfl ⟨rfl, rfl⟩ nm7_depth ⟨Nat.le_of_ble_eq_true rfl, Nat.le_of_ble_eq_true rfl⟩ (q0 := 0) rfl rfl rfl rfl hl.1 rfl (Nat.le_of_ble_eq_true rfl) dL_law_140 ⟨Nat.le_of_ble_eq_true rfl, Nat.le_of_ble_eq_true rfl⟩ hPc hDc) (fun r140 u140 H locs hw hP hD hS => ?_)
          have hr140 : r140.toInt = (dep C E M : Int) := hw
          clear hw
          obtain ⟨hP, hD⟩ := k_sub (ws' := LW cI rf tp bo u140.1 os u140.2 ot) hP hD [2, 3, 4, 5, 0, 6, 1] rfl rfl
          refine lv_icmp_lt (tgt := 148) hx hb dL_law_143 (by decide) (fun k143 => ?_) (fun k143 => ?_)
          · exact NEXT tp bo u140.1 os u140.2 ot H locs ls hP hD hS (lv_sub hl [4, 3, 2] rfl)
          · exact absurd (i_lt.mpr (by omega)) k143
set_option maxHeartbeats 8000000 in
set_option maxRecDepth 100000 in
theorem law_mid {p : Program} {e : Env} {s : State} {m : MethodId} {below : List Frame} {meth : Method} {c : Code} {l : Launch} {D : va_G} {cI cJ cN cR : ClassId} {rf : Nat → Nat} {b L : Nat} {xs : Nat → Int32} (C0 : lw_At p s m meth c b L xs) (hK : va_K D vwCl (kT cI cJ cN cR) s) (hN : kN s) (hL : L ≤ 260) {i lo : Int32} (NEXT : lwAt p l e s m b below meth c D cI rf i 148) {A B N C E M : Nat} (hC : CF A B N) (hE : CF C E M) (hlo : (lo = 0 ∧ A * E < C * B) ∨ (lo = 1 ∧ ¬ A * E < C * B)) (tp bo : Nat → Int32) (es os : Int32) (et ot : Nat → Int32) (H : Heap) (locs : List Loc) (ls : Array Slot) (g0 : rg tp bo (0 : Int32).toNatClampNeg A B) (g1 : rg tp bo (1 : Int32).toNatClampNeg C E) (hP : va_P D vwCl (LW cI rf tp bo es os et ot) H) (hD : va_D (fun q : Nat => s.heap.size ≤ q) (LW cI rf tp bo es os et ot)) (hS : va_S (fun q : Nat => s.heap.size ≤ q) s.heap H locs) (hl : lv_has ls 5 [(2, .int i), (1, .ref (rf 0)), (0, .ref b)]) : W p l e room_1 s m #[Value.ref b] below meth c H locs 23 2789 (lw_Z below #[Value.ref b] s) (F0 m 60 ls [.int lo]) := by
  obtain ⟨hx, hb, hr, hml, hown, hts0, hX, hbl, hlocks, hgv⟩ := id C0
  have hts : ∀ w ∈ wsL_law, w.before #[Value.ref b] s = true := fun w h => hts0 w (wsL_law_in w h)
  have S : CallFix p m c code 5 s #[.ref b] wsL_law RL := ⟨hx, hb, hml, hown, hts⟩
  have hA : ∀ q : Nat, s.heap.size ≤ q → (fun q : Nat => s.heap.size ≤ q) q := fun _ h => h
  have hbA : ¬ (fun q : Nat => s.heap.size ≤ q) b := Nat.not_le.mpr hbl
  have bC := hC.pos
  have bE := hE.pos
  refine lv_istore_n (lv' := [(3, .int lo), (2, .int i), (1, .ref (rf 0)), (0, .ref b)]) hx hb dL_law_60 rfl hl (by decide) rfl (fun ls hl => ?_)
  refine lv_aload_n hx hb dL_law_61 rfl (lv_at hl 2 rfl) ?_
  refine lv_iconst (v := (2 : Int32)) hx hb dL_law_62 (by decide) ?_
  refine lv_iconst (v := (0 : Int32)) hx hb dL_law_63 (by decide) ?_
  refine lv_iconst (v := (1 : Int32)) hx hb dL_law_64 (by decide) ?_
  refine kcI (wc := LW cI rf tp bo es os et ot) (wr := []) hP hD hS hA [0, 1, 2, 3, 4, 5, 6] [] rfl rfl ⟨rfl, rfl, by decide⟩ (fun hPc hDc => rV (As := [.int (2 : Int32), .int (0 : Int32), .int (1 : Int32)]) (rest := []) S hK hN (c7_commonAncestor l D cI cJ cN cR rf H.size 0 0 0 tp bo es 0 0 0 0 os 0 0 0 0 et ot (2 : Int32) (0 : Int32) (1 : Int32) (fun (r : Int32) (t2 b2 : Nat → Int32) (_ _ : Int32) (_ _ : Nat → Int32) => ∃ (n P Q : Nat) (p q : Int32), r.toInt = (n : Int) ∧ p.toInt = (P : Int) ∧ q.toInt = (Q : Int) ∧ P ≤ 1000000 ∧ Q ≤ 1000000 ∧ Nat.gcd P Q = 1 ∧ ancF A B N C E M P Q n ∧ t2 = upd tp (2 : Int32).toNatClampNeg p ∧ b2 = upd bo (2 : Int32).toNatClampNeg q) (p_common (by unfold isR; decide) (by unfold isR; decide) (by unfold isR; decide) hC hE g0 g1 (fun r n P Q p q _ _ _ _ h1 h2 h3 h4 h5 h6 h7 => ⟨n, P, Q, p, q, h1, h2, h3, h4, h5, h6, h7, rfl, rfl⟩))) 3 gL_law_X7_commonAncestor rfl ⟨rfl, rfl⟩ nm7_commonAncestor ⟨Nat.le_of_ble_eq_true rfl, Nat.le_of_ble_eq_true rfl⟩ (q0 := 0) rfl rfl rfl rfl hl.1 rfl (Nat.le_of_ble_eq_true rfl) dL_law_65 ⟨Nat.le_of_ble_eq_true rfl, Nat.le_of_ble_eq_true rfl⟩ hPc hDc) (fun r65 u65 H locs hw hP hD hS => ?_)
  obtain ⟨t2, b2, es2, os2, et2, ot2⟩ := u65
  obtain ⟨n, P, Q, p65, q65, hn, hp, hq, hP6, hQ6, hg, hF, et9, eb9⟩ := hw
  have et9 : t2 = upd tp (2 : Int32).toNatClampNeg p65 := et9
  have eb9 : b2 = upd bo (2 : Int32).toNatClampNeg q65 := eb9
  subst et9
  subst eb9
  have hP : va_P D vwCl (LW cI rf (upd tp (2 : Int32).toNatClampNeg p65) (upd bo (2 : Int32).toNatClampNeg q65) es2 os2 et2 ot2) H := hP
  have hD : va_D (fun q : Nat => s.heap.size ≤ q) (LW cI rf (upd tp (2 : Int32).toNatClampNeg p65) (upd bo (2 : Int32).toNatClampNeg q65) es2 os2 et2 ot2) := hD
  have g0 : rg (upd tp (2 : Int32).toNatClampNeg p65) (upd bo (2 : Int32).toNatClampNeg q65) (0 : Int32).toNatClampNeg A B := rg_ne g0 (by decide)
  have g1 : rg (upd tp (2 : Int32).toNatClampNeg p65) (upd bo (2 : Int32).toNatClampNeg q65) (1 : Int32).toNatClampNeg C E := rg_ne g1 (by decide)
  have g2 : rg (upd tp (2 : Int32).toNatClampNeg p65) (upd bo (2 : Int32).toNatClampNeg q65) (2 : Int32).toNatClampNeg P Q := rg_eq hp hq
  refine lv_istore (lv' := [(4, .int r65), (3, .int lo), (2, .int i), (1, .ref (rf 0)), (0, .ref b)]) hx hb dL_law_68 hl (by decide) rfl (fun ls hl => ?_)
  refine lv_aload_n hx hb dL_law_70 rfl (lv_at hl 3 rfl) ?_
  refine lv_iconst (v := (2 : Int32)) hx hb dL_law_71 (by decide) ?_
  refine lv_iconst (v := (0 : Int32)) hx hb dL_law_72 (by decide) ?_
  refine kcRI (wc := LW3 cI rf (upd tp (2 : Int32).toNatClampNeg p65) (upd bo (2 : Int32).toNatClampNeg q65)) hP [0, 1, 2] rfl (fun hPc => oV (As := [.int (2 : Int32), .int (0 : Int32)]) (rest := []) S hK hN (c7_compare l D cI cJ cN cR rf 0 0 0 (upd tp (2 : Int32).toNatClampNeg p65) (upd bo (2 : Int32).toNatClampNeg q65) (2 : Int32) (0 : Int32) (fun r => (r = 0 ↔ P * B < A * Q) ∧ (r = 1 ↔ P * B = A * Q)) (p_compare (by unfold isR; decide) (by unfold isR; decide) g2 g0 hP6 hQ6 bC.2.1 bC.2.2.2 (fun r x y => ⟨x, y⟩))) 2 gL_law_X7_compare rfl ⟨rfl, rfl⟩ nm7_compare ⟨Nat.le_of_ble_eq_true rfl, Nat.le_of_ble_eq_true rfl⟩ (q0 := 0) rfl rfl rfl rfl hl.1 rfl (Nat.le_of_ble_eq_true rfl) dL_law_73 ⟨Nat.le_of_ble_eq_true rfl, Nat.le_of_ble_eq_true rfl⟩ hPc) (fun r73 hr73 => ?_)
  refine lv_iconst (v := (1 : Int32)) hx hb dL_law_76 (by decide) ?_
  refine lv_icmp_eq (tgt := 148) hx hb dL_law_77 (by decide) (fun k77 => ?_) (fun k77 => ?_)
  · exact NEXT (upd tp (2 : Int32).toNatClampNeg p65) (upd bo (2 : Int32).toNatClampNeg q65) es2 os2 et2 ot2 H locs ls hP hD hS (lv_sub hl [4, 3, 2] rfl)
  · refine lv_aload_n hx hb dL_law_80 rfl (lv_at hl 3 rfl) ?_
    refine lv_iconst (v := (2 : Int32)) hx hb dL_law_81 (by decide) ?_
    refine lv_iconst (v := (1 : Int32)) hx hb dL_law_82 (by decide) ?_
    refine kcRI (wc := LW3 cI rf (upd tp (2 : Int32).toNatClampNeg p65) (upd bo (2 : Int32).toNatClampNeg q65)) hP [0, 1, 2] rfl (fun hPc => oV (As := [.int (2 : Int32), .int (1 : Int32)]) (rest := []) S hK hN (c7_compare l D cI cJ cN cR rf 0 0 0 (upd tp (2 : Int32).toNatClampNeg p65) (upd bo (2 : Int32).toNatClampNeg q65) (2 : Int32) (1 : Int32) (fun r => (r = 0 ↔ P * E < C * Q) ∧ (r = 1 ↔ P * E = C * Q)) (p_compare (by unfold isR; decide) (by unfold isR; decide) g2 g1 hP6 hQ6 bE.2.1 bE.2.2.2 (fun r x y => ⟨x, y⟩))) 2 gL_law_X7_compare rfl ⟨rfl, rfl⟩ nm7_compare ⟨Nat.le_of_ble_eq_true rfl, Nat.le_of_ble_eq_true rfl⟩ (q0 := 0) rfl rfl rfl rfl hl.1 rfl (Nat.le_of_ble_eq_true rfl) dL_law_83 ⟨Nat.le_of_ble_eq_true rfl, Nat.le_of_ble_eq_true rfl⟩ hPc) (fun r83 hr83 => ?_)
    refine lv_iconst (v := (1 : Int32)) hx hb dL_law_86 (by decide) ?_
    refine lv_icmp_ne (tgt := 93) hx hb dL_law_87 (by decide) (fun k87 => ?_) (fun k87 => ?_)
    · rcases hF with h9 | h9 | ⟨K, hQ, hn0, hn1, hn2, hF⟩
      · exact absurd (hr73.2.mpr (by rw [h9, Nat.mul_comm])) k77
      · exact absurd (hr83.2.mpr (by rw [h9, Nat.mul_comm])) k87
      rcases hlo with ⟨rfl, hlt⟩ | ⟨rfl, hlt⟩
      · have hF : SM A B C E P Q := by
          rcases hF with ⟨h8, h9⟩ | ⟨h8, h9⟩
          · exact h9
          · omega
        refine lv_aload_n hx hb dL_law_93 rfl (lv_at hl 3 rfl) ?_
        refine lv_iconst (v := (3 : Int32)) hx hb dL_law_94 (by decide) ?_
        refine lv_iload_n hx hb dL_law_95 rfl (lv_at hl 1 rfl) ?_
        refine lv_iconst (v := (1 : Int32)) hx hb dL_law_96 (by decide) ?_
        refine lv_iload_n hx hb dL_law_97 rfl (lv_at hl 1 rfl) ?_
        refine lv_isub hx hb dL_law_98 ?_
        refine lv_topi (fun x98 ex98 => ?_)
        have q98 : x98 = (1 : Int32) := by rw [ex98]; decide
        subst q98
        refine kcI (wc := LWe cI rf (upd tp (2 : Int32).toNatClampNeg p65) (upd bo (2 : Int32).toNatClampNeg q65) es2 et2) (wr := LWo cI rf os2 ot2) hP hD hS hA [0, 1, 2, 3, 5] [4, 6] rfl rfl ⟨rfl, rfl, by decide⟩ (fun hPc hDc => rV (As := [.int (3 : Int32), .int (0 : Int32), .int (1 : Int32)]) (rest := []) S hK hN (c7_simplestBetween l D cI cJ cN cR rf H.size 0 0 0 (upd tp (2 : Int32).toNatClampNeg p65) (upd bo (2 : Int32).toNatClampNeg q65) es2 0 0 0 0 et2 (3 : Int32) (0 : Int32) (1 : Int32) (fun (r : Int32) (t2 b2 : Nat → Int32) (_ : Int32) (_ : Nat → Int32) => r = 1 ∧ ∃ (p q : Int32), p.toInt = (P : Int) ∧ q.toInt = (Q : Int) ∧ t2 = upd (upd tp (2 : Int32).toNatClampNeg p65) (3 : Int32).toNatClampNeg p ∧ b2 = upd (upd bo (2 : Int32).toNatClampNeg q65) (3 : Int32).toNatClampNeg q) (p_simplest (by unfold isR; decide) (by unfold isR; decide) (by unfold isR; decide) hC hE g0 g1 hlt hF hP6 hQ6 hg (fun p q _ _ h1 h2 => ⟨rfl, p, q, h1, h2, rfl, rfl⟩))) 3 gL_law_X7_simplestBetween rfl ⟨rfl, rfl⟩ nm7_simplestBetween ⟨Nat.le_of_ble_eq_true rfl, Nat.le_of_ble_eq_true rfl⟩ (q0 := 0) rfl rfl rfl rfl hl.1 rfl (Nat.le_of_ble_eq_true rfl) dL_law_99 ⟨Nat.le_of_ble_eq_true rfl, Nat.le_of_ble_eq_true rfl⟩ hPc hDc) (fun r99 u99 H locs hw hP hD hS => ?_)
        obtain ⟨t3, b3, es3, et3⟩ := u99
        obtain ⟨hr99, p99, q99, hp9, hq9, et9, eb9⟩ := hw
        have hr99 : r99 = 1 := hr99
        have et9 : t3 = upd (upd tp (2 : Int32).toNatClampNeg p65) (3 : Int32).toNatClampNeg p99 := et9
        have eb9 : b3 = upd (upd bo (2 : Int32).toNatClampNeg q65) (3 : Int32).toNatClampNeg q99 := eb9
        subst et9
        subst eb9
        subst hr99
        obtain ⟨hP, hD⟩ := k_sub (ws' := LW cI rf (upd (upd tp (2 : Int32).toNatClampNeg p65) (3 : Int32).toNatClampNeg p99) (upd (upd bo (2 : Int32).toNatClampNeg q65) (3 : Int32).toNatClampNeg q99) es3 os2 et3 ot2) hP hD [2, 3, 4, 5, 0, 6, 1] rfl rfl
        exact law_tail C0 hK hN hL NEXT hC hE hQ hn hn0 hn1 hn2 (upd (upd tp (2 : Int32).toNatClampNeg p65) (3 : Int32).toNatClampNeg p99) (upd (upd bo (2 : Int32).toNatClampNeg q65) (3 : Int32).toNatClampNeg q99) es3 os2 et3 ot2 H locs ls (rg_ne g0 (by decide)) (rg_ne g1 (by decide)) (rg_ne g2 (by decide)) (rg_eq hp9 hq9) hP hD hS (lv_sub hl [0, 1, 2, 3, 4] rfl)
      · have hF : C * B < A * E ∧ SM C E A B P Q := by
          rcases hF with ⟨h8, h9⟩ | ⟨h8, h9⟩
          · exact absurd h8 hlt
          · exact ⟨h8, h9⟩
        refine lv_aload_n hx hb dL_law_93 rfl (lv_at hl 3 rfl) ?_
        refine lv_iconst (v := (3 : Int32)) hx hb dL_law_94 (by decide) ?_
        refine lv_iload_n hx hb dL_law_95 rfl (lv_at hl 1 rfl) ?_
        refine lv_iconst (v := (1 : Int32)) hx hb dL_law_96 (by decide) ?_
        refine lv_iload_n hx hb dL_law_97 rfl (lv_at hl 1 rfl) ?_
        refine lv_isub hx hb dL_law_98 ?_
        refine lv_topi (fun x98 ex98 => ?_)
        have q98 : x98 = (0 : Int32) := by rw [ex98]; decide
        subst q98
        refine kcI (wc := LWe cI rf (upd tp (2 : Int32).toNatClampNeg p65) (upd bo (2 : Int32).toNatClampNeg q65) es2 et2) (wr := LWo cI rf os2 ot2) hP hD hS hA [0, 1, 2, 3, 5] [4, 6] rfl rfl ⟨rfl, rfl, by decide⟩ (fun hPc hDc => rV (As := [.int (3 : Int32), .int (1 : Int32), .int (0 : Int32)]) (rest := []) S hK hN (c7_simplestBetween l D cI cJ cN cR rf H.size 0 0 0 (upd tp (2 : Int32).toNatClampNeg p65) (upd bo (2 : Int32).toNatClampNeg q65) es2 0 0 0 0 et2 (3 : Int32) (1 : Int32) (0 : Int32) (fun (r : Int32) (t2 b2 : Nat → Int32) (_ : Int32) (_ : Nat → Int32) => r = 1 ∧ ∃ (p q : Int32), p.toInt = (P : Int) ∧ q.toInt = (Q : Int) ∧ t2 = upd (upd tp (2 : Int32).toNatClampNeg p65) (3 : Int32).toNatClampNeg p ∧ b2 = upd (upd bo (2 : Int32).toNatClampNeg q65) (3 : Int32).toNatClampNeg q) (p_simplest (by unfold isR; decide) (by unfold isR; decide) (by unfold isR; decide) hE hC g1 g0 hF.1 hF.2 hP6 hQ6 hg (fun p q _ _ h1 h2 => ⟨rfl, p, q, h1, h2, rfl, rfl⟩))) 3 gL_law_X7_simplestBetween rfl ⟨rfl, rfl⟩ nm7_simplestBetween ⟨Nat.le_of_ble_eq_true rfl, Nat.le_of_ble_eq_true rfl⟩ (q0 := 0) rfl rfl rfl rfl hl.1 rfl (Nat.le_of_ble_eq_true rfl) dL_law_99 ⟨Nat.le_of_ble_eq_true rfl, Nat.le_of_ble_eq_true rfl⟩ hPc hDc) (fun r99 u99 H locs hw hP hD hS => ?_)
        obtain ⟨t3, b3, es3, et3⟩ := u99
        obtain ⟨hr99, p99, q99, hp9, hq9, et9, eb9⟩ := hw
        have hr99 : r99 = 1 := hr99
        have et9 : t3 = upd (upd tp (2 : Int32).toNatClampNeg p65) (3 : Int32).toNatClampNeg p99 := et9
        have eb9 : b3 = upd (upd bo (2 : Int32).toNatClampNeg q65) (3 : Int32).toNatClampNeg q99 := eb9
        subst et9
        subst eb9
        subst hr99
        obtain ⟨hP, hD⟩ := k_sub (ws' := LW cI rf (upd (upd tp (2 : Int32).toNatClampNeg p65) (3 : Int32).toNatClampNeg p99) (upd (upd bo (2 : Int32).toNatClampNeg q65) (3 : Int32).toNatClampNeg q99) es3 os2 et3 ot2) hP hD [2, 3, 4, 5, 0, 6, 1] rfl rfl
        exact law_tail C0 hK hN hL NEXT hC hE hQ hn hn0 hn1 hn2 (upd (upd tp (2 : Int32).toNatClampNeg p65) (3 : Int32).toNatClampNeg p99) (upd (upd bo (2 : Int32).toNatClampNeg q65) (3 : Int32).toNatClampNeg q99) es3 os2 et3 ot2 H locs ls (rg_ne g0 (by decide)) (rg_ne g1 (by decide)) (rg_ne g2 (by decide)) (rg_eq hp9 hq9) hP hD hS (lv_sub hl [0, 1, 2, 3, 4] rfl)
    · refine lv_goto (tgt := 148) hx hb dL_law_90 (by decide) ?_
      exact NEXT (upd tp (2 : Int32).toNatClampNeg p65) (upd bo (2 : Int32).toNatClampNeg q65) es2 os2 et2 ot2 H locs ls hP hD hS (lv_sub hl [4, 3, 2] rfl)
set_option maxHeartbeats 8000000 in
set_option maxRecDepth 100000 in
theorem law_body {p : Program} {e : Env} {s : State} {m : MethodId} {below : List Frame} {meth : Method} {c : Code} {l : Launch} {D : va_G} {cI cJ cN cR : ClassId} {rf : Nat → Nat} {b L : Nat} {xs : Nat → Int32} (C0 : lw_At p s m meth c b L xs) (hK : va_K D vwCl (kT cI cJ cN cR) s) (hN : kN s) (hL : L ≤ 260) {i : Int32} {k : Nat} (hi : i.toInt = (k : Int)) (hk : k < 14) (NEXT : lwAt p l e s m b below meth c D cI rf i 148) (tp bo : Nat → Int32) (es os : Int32) (et ot : Nat → Int32) (H : Heap) (locs : List Loc) (ls : Array Slot) (hP : va_P D vwCl (LW cI rf tp bo es os et ot) H) (hD : va_D (fun q : Nat => s.heap.size ≤ q) (LW cI rf tp bo es os et ot)) (hS : va_S (fun q : Nat => s.heap.size ≤ q) s.heap H locs) (hl : lv_has ls 5 [(2, .int i), (1, .ref (rf 0)), (0, .ref b)]) : W p l e room_1 s m #[Value.ref b] below meth c H locs 23 2789 (lw_Z below #[Value.ref b] s) (F0 m 16 ls []) := by
  obtain ⟨hx, hb, hr, hml, hown, hts0, hX, hbl, hlocks, hgv⟩ := id C0
  have hts : ∀ w ∈ wsL_law, w.before #[Value.ref b] s = true := fun w h => hts0 w (wsL_law_in w h)
  have S : CallFix p m c code 5 s #[.ref b] wsL_law RL := ⟨hx, hb, hml, hown, hts⟩
  have hA : ∀ q : Nat, s.heap.size ≤ q → (fun q : Nat => s.heap.size ≤ q) q := fun _ h => h
  have hbA : ¬ (fun q : Nat => s.heap.size ≤ q) b := Nat.not_le.mpr hbl
  have l8 : (8 : Int32).toInt = 8 := rfl
  have l4 : (4 : Int32).toInt = 4 := rfl
  refine lv_aload_n hx hb dL_law_16 rfl (lv_at hl 1 rfl) ?_
  refine lv_iconst (v := (0 : Int32)) hx hb dL_law_17 (by decide) ?_
  refine lv_aload_n hx hb dL_law_18 rfl (lv_at hl 2 rfl) ?_
  refine lv_bipush (v := (8 : Int32)) hx hb dL_law_19 (by decide) ?_
  refine lv_iload_n hx hb dL_law_21 rfl (lv_at hl 0 rfl) ?_
  refine lv_imul hx hb dL_law_22 ?_
  refine lv_topi (fun x22 ex22 => ?_)
  have h22 : x22.toInt = 8 * (k : Int) := by rw [ex22, i_mul (by rw [l8]; omega) (by rw [l8]; omega), l8, hi]
  have hXH : va_X b L xs s H := hX.kept (hS.2.1 b hbl hbA)
  have hblH : b < H.size := Nat.lt_of_lt_of_le hbl hS.1
  refine kcI (wc := LW3 cI rf tp bo) (wr := LWr cI rf es os et ot) hP hD hS hA [0, 1, 2] [3, 4, 5, 6] rfl rfl ⟨rfl, rfl, by decide⟩ (fun hPc hDc => rSF (As := [.ref (rf 0), .int (0 : Int32), .ref b, .int x22]) (rest := []) S hK hN hXH hblH (kL_fills l D cI cJ cN cR rf H.size b L xs tp bo (0 : Int32) x22 (by omega) (by unfold isR; decide) (by omega) (by omega)) 4 gL_law_L_fills rfl ⟨rfl, rfl⟩ nmL_fills ⟨Nat.le_of_ble_eq_true rfl, Nat.le_of_ble_eq_true rfl⟩ rfl hl.1 rfl (Nat.le_of_ble_eq_true rfl) dL_law_23 ⟨Nat.le_of_ble_eq_true rfl, Nat.le_of_ble_eq_true rfl⟩ hPc hDc) (fun r23 u23 H locs hw hP hD hS => ?_)
  obtain ⟨_, hr23, A, B, N, p23, q23, hCA, hp23, hq23, rfl⟩ := hw
  obtain ⟨hP, hD⟩ := k_sub (ws' := LW cI rf (upd tp (0 : Int32).toNatClampNeg p23) (upd bo (0 : Int32).toNatClampNeg q23) es os et ot) hP hD [4, 5, 6, 0, 1, 2, 3] rfl rfl
  refine lv_if_eq (tgt := 44) hx hb dL_law_26 (by decide) (fun k26 => ?_) (fun k26 => ?_)
  · exact absurd (hr23.symm.trans k26) (by decide)
  · refine lv_aload_n hx hb dL_law_29 rfl (lv_at hl 1 rfl) ?_
    refine lv_iconst (v := (1 : Int32)) hx hb dL_law_30 (by decide) ?_
    refine lv_aload_n hx hb dL_law_31 rfl (lv_at hl 2 rfl) ?_
    refine lv_bipush (v := (8 : Int32)) hx hb dL_law_32 (by decide) ?_
    refine lv_iload_n hx hb dL_law_34 rfl (lv_at hl 0 rfl) ?_
    refine lv_imul hx hb dL_law_35 ?_
    refine lv_topi (fun x35 ex35 => ?_)
    refine lv_iconst (v := (4 : Int32)) hx hb dL_law_36 (by decide) ?_
    refine lv_iadd hx hb dL_law_37 ?_
    refine lv_topi (fun x37 ex37 => ?_)
    have h35 : x35.toInt = 8 * (k : Int) := by rw [ex35, i_mul (by rw [l8]; omega) (by rw [l8]; omega), l8, hi]
    have h37 : x37.toInt = 8 * (k : Int) + 4 := by rw [ex37, i_add (by omega) (by omega), l4, h35]
    have hXH : va_X b L xs s H := hX.kept (hS.2.1 b hbl hbA)
    have hblH : b < H.size := Nat.lt_of_lt_of_le hbl hS.1
    refine kcI (wc := LW3 cI rf (upd tp (0 : Int32).toNatClampNeg p23) (upd bo (0 : Int32).toNatClampNeg q23)) (wr := LWr cI rf es os et ot) hP hD hS hA [0, 1, 2] [3, 4, 5, 6] rfl rfl ⟨rfl, rfl, by decide⟩ (fun hPc hDc => rSF (As := [.ref (rf 0), .int (1 : Int32), .ref b, .int x37]) (rest := []) S hK hN hXH hblH (kL_fills l D cI cJ cN cR rf H.size b L xs (upd tp (0 : Int32).toNatClampNeg p23) (upd bo (0 : Int32).toNatClampNeg q23) (1 : Int32) x37 (by omega) (by unfold isR; decide) (by omega) (by omega)) 4 gL_law_L_fills rfl ⟨rfl, rfl⟩ nmL_fills ⟨Nat.le_of_ble_eq_true rfl, Nat.le_of_ble_eq_true rfl⟩ rfl hl.1 rfl (Nat.le_of_ble_eq_true rfl) dL_law_38 ⟨Nat.le_of_ble_eq_true rfl, Nat.le_of_ble_eq_true rfl⟩ hPc hDc) (fun r38 u38 H locs hw hP hD hS => ?_)
    obtain ⟨_, hr38, C, E, M, p38, q38, hCC, hp38, hq38, rfl⟩ := hw
    obtain ⟨hP, hD⟩ := k_sub (ws' := LW cI rf (upd (upd tp (0 : Int32).toNatClampNeg p23) (1 : Int32).toNatClampNeg p38) (upd (upd bo (0 : Int32).toNatClampNeg q23) (1 : Int32).toNatClampNeg q38) es os et ot) hP hD [4, 5, 6, 0, 1, 2, 3] rfl rfl
    refine lv_if_ne (tgt := 46) hx hb dL_law_41 (by decide) (fun k41 => ?_) (fun k41 => ?_)
    · have g1 : rg (upd (upd tp (0 : Int32).toNatClampNeg p23) (1 : Int32).toNatClampNeg p38) (upd (upd bo (0 : Int32).toNatClampNeg q23) (1 : Int32).toNatClampNeg q38) (1 : Int32).toNatClampNeg C E := rg_eq hp38 hq38
      have g0 : rg (upd (upd tp (0 : Int32).toNatClampNeg p23) (1 : Int32).toNatClampNeg p38) (upd (upd bo (0 : Int32).toNatClampNeg q23) (1 : Int32).toNatClampNeg q38) (0 : Int32).toNatClampNeg A B := rg_ne (rg_eq hp23 hq23) (by decide)
      have bC := hCA.pos
      have bE := hCC.pos
      refine lv_aload_n hx hb dL_law_46 rfl (lv_at hl 1 rfl) ?_
      refine lv_iconst (v := (0 : Int32)) hx hb dL_law_47 (by decide) ?_
      refine lv_iconst (v := (1 : Int32)) hx hb dL_law_48 (by decide) ?_
      refine kcRI (wc := LW3 cI rf (upd (upd tp (0 : Int32).toNatClampNeg p23) (1 : Int32).toNatClampNeg p38) (upd (upd bo (0 : Int32).toNatClampNeg q23) (1 : Int32).toNatClampNeg q38)) hP [0, 1, 2] rfl (fun hPc => oV (As := [.int (0 : Int32), .int (1 : Int32)]) (rest := []) S hK hN (c7_compare l D cI cJ cN cR rf 0 0 0 (upd (upd tp (0 : Int32).toNatClampNeg p23) (1 : Int32).toNatClampNeg p38) (upd (upd bo (0 : Int32).toNatClampNeg q23) (1 : Int32).toNatClampNeg q38) (0 : Int32) (1 : Int32) (fun r => (r = 0 ↔ A * E < C * B) ∧ (r = 1 ↔ A * E = C * B)) (p_compare (by unfold isR; decide) (by unfold isR; decide) g0 g1 bC.2.1 bC.2.2.2 bE.2.1 bE.2.2.2 (fun r x y => ⟨x, y⟩))) 2 gL_law_X7_compare rfl ⟨rfl, rfl⟩ nm7_compare ⟨Nat.le_of_ble_eq_true rfl, Nat.le_of_ble_eq_true rfl⟩ (q0 := 0) rfl rfl rfl rfl hl.1 rfl (Nat.le_of_ble_eq_true rfl) dL_law_49 ⟨Nat.le_of_ble_eq_true rfl, Nat.le_of_ble_eq_true rfl⟩ hPc) (fun r49 hr49 => ?_)
      refine lv_if_ne (tgt := 59) hx hb dL_law_52 (by decide) (fun k52 => ?_) (fun k52 => ?_)
      · refine lv_iconst (v := (1 : Int32)) hx hb dL_law_59 (by decide) ?_
        exact law_mid C0 hK hN hL NEXT hCA hCC (Or.inr ⟨rfl, fun z => k52 (hr49.1.mpr z)⟩) (upd (upd tp (0 : Int32).toNatClampNeg p23) (1 : Int32).toNatClampNeg p38) (upd (upd bo (0 : Int32).toNatClampNeg q23) (1 : Int32).toNatClampNeg q38) es os et ot H locs ls g0 g1 hP hD hS (lv_sub hl [0, 1, 2] rfl)
      · refine lv_iconst (v := (0 : Int32)) hx hb dL_law_55 (by decide) ?_
        refine lv_goto (tgt := 60) hx hb dL_law_56 (by decide) ?_
        exact law_mid C0 hK hN hL NEXT hCA hCC (Or.inl ⟨rfl, hr49.1.mp k52⟩) (upd (upd tp (0 : Int32).toNatClampNeg p23) (1 : Int32).toNatClampNeg p38) (upd (upd bo (0 : Int32).toNatClampNeg q23) (1 : Int32).toNatClampNeg q38) es os et ot H locs ls g0 g1 hP hD hS (lv_sub hl [0, 1, 2] rfl)
    · exact absurd (hr38.symm.trans k41) (by decide)
set_option maxHeartbeats 8000000 in
set_option maxRecDepth 100000 in
theorem law_loop {p : Program} {e : Env} {s : State} {m : MethodId} {below : List Frame} {meth : Method} {c : Code} {l : Launch} {D : va_G} {cI cJ cN cR : ClassId} {rf : Nat → Nat} {b L : Nat} {xs : Nat → Int32} (C0 : lw_At p s m meth c b L xs) (hK : va_K D vwCl (kT cI cJ cN cR) s) (hN : kN s) (hL : L ≤ 260) : ∀ (n k : Nat) (i : Int32), k + n = 14 → i.toInt = (k : Int) → lwAt p l e s m b below meth c D cI rf i 10 := by
  intro n
  induction n with
  | zero =>
    intro k i hk hi tp bo es os et ot H locs ls hP hD hS hl
    obtain ⟨hx, hb, hr, hml, hown, hts0, hX, hbl, hlocks, hgv⟩ := id C0
    have l14 : (14 : Int32).toInt = 14 := rfl
    refine lv_iload_n hx hb dL_law_10 rfl (lv_at hl 2 rfl) ?_
    refine lv_bipush (v := (14 : Int32)) hx hb dL_law_11 (by decide) ?_
    refine lv_icmp_ge (tgt := 154) hx hb dL_law_13 (by decide) (fun k13 => ?_) (fun k13 => ?_)
    · refine lv_iconst (v := (1 : Int32)) hx hb dL_law_154 (by decide) ?_
      refine va_forget (fun q hq => hS.2.2 q hq) ?_
      refine W.widen (k := 600000) (n := 7302249) (by omega) (by omega) ?_
      exact lw_ret hx hb hr hlocks dL_law_155
    · exact absurd (i_le.mpr (by omega)) k13
  | succ n ih =>
    intro k i hk hi tp bo es os et ot H locs ls hP hD hS hl
    obtain ⟨hx, hb, hr, hml, hown, hts0, hX, hbl, hlocks, hgv⟩ := id C0
    have l14 : (14 : Int32).toInt = 14 := rfl
    refine lv_iload_n hx hb dL_law_10 rfl (lv_at hl 2 rfl) ?_
    refine lv_bipush (v := (14 : Int32)) hx hb dL_law_11 (by decide) ?_
    refine lv_icmp_ge (tgt := 154) hx hb dL_law_13 (by decide) (fun k13 => ?_) (fun k13 => ?_)
    · exact absurd (i_le.mp k13) (by omega)
    · have NEXT : lwAt p l e s m b below meth c D cI rf i 148 := by
        intro tp bo es os et ot H locs ls hP hD hS hl
        have l1 : (1 : Int32).toInt = 1 := rfl
        obtain ⟨x148, ex148⟩ : ∃ z : Int32, z = i + (1 : Int32) := ⟨_, rfl⟩
        refine lv_iinc (v := x148) (lv' := [(2, .int x148), (0, .ref b), (1, .ref (rf 0))]) hx hb dL_law_148 hl (k := 2) rfl (by rw [ex148]; rfl) (by decide) rfl (fun ls hl => ?_)
        refine lv_goto (tgt := 10) hx hb dL_law_151 (by decide) ?_
        exact ih (k + 1) x148 (by omega) (by rw [ex148, i_add (by omega) (by omega), l1, hi]; omega) tp bo es os et ot H locs ls hP hD hS (lv_sub hl [1, 2, 0] rfl)
      exact law_body C0 hK hN hL hi (by omega) NEXT tp bo es os et ot H locs ls hP hD hS (lv_sub hl [2, 1, 0] rfl)
