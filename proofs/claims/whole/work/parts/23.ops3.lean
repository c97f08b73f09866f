theorem s8_grow {ko na : Nat → Int32} {v1 x : Int32} (h1 : isS v1) {k : Int32} (hk : ko v1.toNatClampNeg = k) (k1 : 0 ≤ k.toInt) (k2 : k.toInt ≤ 4) {post : Int32 → Prop} (h : post (nGrow (nCl k) x (na v1.toNatClampNeg))) : w8_grow ko na v1 x post := by
  unfold w8_grow
  refine ⟨h1.vin, fun y ey => ?_⟩
  rw [hk] at ey
  subst ey
  rcases kind5 k1 k2 with rfl | rfl | rfl | rfl | rfl
  · exact ⟨fun _ => ⟨h1.vin, h⟩, fun q => absurd q (by decide), fun q => absurd q (by decide), fun q => absurd q (by decide), fun q => absurd q (by decide)⟩
  · exact ⟨fun q => absurd q (by decide), fun _ => ⟨h1.vin, h⟩, fun q => absurd q (by decide), fun q => absurd q (by decide), fun q => absurd q (by decide)⟩
  · exact ⟨fun q => absurd q (by decide), fun q => absurd q (by decide), fun _ => ⟨h1.vin, h⟩, fun q => absurd q (by decide), fun q => absurd q (by decide)⟩
  · exact ⟨fun q => absurd q (by decide), fun q => absurd q (by decide), fun q => absurd q (by decide), fun _ => ⟨h1.vin, h⟩, fun q => absurd q (by decide)⟩
  · refine ⟨fun q => absurd q (by decide), fun q => absurd q (by decide), fun q => absurd q (by decide), fun q => absurd q (by decide), fun _ => ⟨h1.vin, ?_⟩⟩
    have e : nGrow (nCl 4) x (na v1.toNatClampNeg) = -(x + na v1.toNatClampNeg) := by
      show 0 - (x + na v1.toNatClampNeg) = _
      exact Int32.zero_sub _
    rw [e] at h
    exact h
theorem s8_bend {ko na nb : Nat → Int32} {v1 x : Int32} (h1 : isS v1) {k : Int32} (hk : ko v1.toNatClampNeg = k) (k1 : 0 ≤ k.toInt) (k2 : k.toInt ≤ 4) {post : Int32 → Prop} (h : post (nBend (nCl k) x (na v1.toNatClampNeg) (nb v1.toNatClampNeg))) : w8_bend ko na nb v1 x post := by
  unfold w8_bend w8_bend_J22
  rcases kind5 k1 k2 with rfl | rfl | rfl | rfl | rfl
  · refine ⟨h1.vin, fun _ => s8_grow h1 hk k1 k2 ⟨h1.vin, fun y ey => ⟨h1.vin, fun q => absurd (hk.symm.trans q) (by decide), fun _ => ⟨h1.vin, fun _ => ?_, fun q => absurd (hk.symm.trans q) (by decide)⟩⟩⟩, fun q => absurd (hk.symm.trans q) (by decide)⟩
    rw [ey]; exact h
  · refine ⟨h1.vin, fun _ => s8_grow h1 hk k1 k2 ⟨h1.vin, fun y ey => ⟨h1.vin, fun q => absurd (hk.symm.trans q) (by decide), fun _ => ⟨h1.vin, fun _ => ?_, fun q => absurd (hk.symm.trans q) (by decide)⟩⟩⟩, fun q => absurd (hk.symm.trans q) (by decide)⟩
    rw [ey]; exact h
  · refine ⟨h1.vin, fun _ => s8_grow h1 hk k1 k2 ⟨h1.vin, fun y ey => ⟨h1.vin, fun _ => ⟨h1.vin, ?_⟩, fun q => absurd hk q⟩⟩, fun q => absurd (hk.symm.trans q) (by decide)⟩
    rw [ey]; exact h
  · refine ⟨h1.vin, fun q => absurd hk q, fun _ => s8_grow h1 hk k1 k2 (s8_grow h1 hk k1 k2 ⟨h1.vin, fun y ey => ⟨h1.vin, fun q => absurd (hk.symm.trans q) (by decide), fun _ => ⟨h1.vin, fun q => absurd hk q, fun _ => ⟨h1.vin, ?_⟩⟩⟩⟩)⟩
    rw [ey]; exact h
  · refine ⟨h1.vin, fun _ => s8_grow h1 hk k1 k2 ⟨h1.vin, fun y ey => ⟨h1.vin, fun q => absurd (hk.symm.trans q) (by decide), fun _ => ⟨h1.vin, fun _ => ?_, fun q => absurd (hk.symm.trans q) (by decide)⟩⟩⟩, fun q => absurd (hk.symm.trans q) (by decide)⟩
    rw [ey]; exact h
theorem op_operate : Op_operate := by
  intro x_hasSnapshot x_termListSize x_textSize x_tops x_bottoms x_slots x_savedTops x_savedBottoms x_savedSlots x_termList x_text x_arraySizes x_arrays0 x_arrays1 x_arrays2 m_listed m_fed m_hasSnapshot m_above m_below m_list m_text m_kindOf m_nodeAbove m_nodeBelow m_length m_cell m_savedAbove m_savedBelow m_savedKind m_savedNodeAbove m_savedNodeBelow PL kk tt bb v1 v2 v3 hI
  obtain ⟨hReg, hList, hText, hArr, hNode, hHs, hHs01, hSnap⟩ := id hI
  unfold w7_operate w8_operate
  by_cases h1 : isS v1
  rotate_left
  · simp only [s7n h1, s8n h1, b01, b00, false_implies, true_implies, not_true_eq_false, not_false_eq_true, true_and, and_true]; exact hI
  by_cases h2 : 0 ≤ v2.toInt ∧ v2.toInt ≤ 1
  rotate_left
  · simp only [s7y h1, s8y h1, n7n (lo := 0) (hi := 1) h2, w8n (a := v2.toInt64) (lo := 0) (hi := 1) (by rw [t64]; exact h2), b01, b00, false_implies, true_implies, not_true_eq_false, not_false_eq_true, true_and, and_true]; exact hI
  simp only [s7y h1, s8y h1, n7y (lo := 0) (hi := 1) h2, w8y (a := v2.toInt64) (lo := 0) (hi := 1) (by rw [t64]; exact h2), b01, b00, false_implies, true_implies, not_true_eq_false, not_false_eq_true, true_and, and_true]
  have h0 : (0 : Int32).toInt = 0 := rfl
  rcases hNode _ h1.lt with ⟨n1, n2⟩ | ⟨a, n1, n2, n3, n4, n5, n6, n7⟩
  · refine ⟨h1.vin, fun _ => ⟨h1.vin, fun q => ?_, fun _ => hI⟩, fun a ha => ?_⟩
    · rw [n2] at q; exact absurd q (by decide)
    · rw [n1] at ha; cases ha
  · refine ⟨h1.vin, fun q => ?_, fun a9 ha => ?_⟩
    · rw [n2] at q; cases q
    rw [n2] at ha
    obtain rfl : a = a9 := Option.some.inj ha
    have hge : 0 ≤ m_kindOf v1.toNatClampNeg := by rw [n3]; exact i_le.mpr (by omega)
    refine ⟨n1, fun k => ⟨h1.vin, fun _ => ⟨fun q => absurd k q, fun _ => s8_grow h1 n3 n6 n7 ⟨by rw [n4], hI⟩⟩, fun q => absurd hge q⟩, fun k => ⟨h1.vin, fun _ => ⟨fun _ => s8_bend h1 n3 n6 n7 ⟨by rw [n4, n5], hI⟩, fun q => absurd q k⟩, fun q => absurd hge q⟩⟩
theorem va_up_self' {α : Type} (f : Nat → α) (k : Nat) (v : α) : va_up f k v k = v := va_up_self f k v
theorem op_plant : Op_plant := by
  intro x_hasSnapshot x_termListSize x_textSize x_tops x_bottoms x_slots x_savedTops x_savedBottoms x_savedSlots x_termList x_text x_arraySizes x_arrays0 x_arrays1 x_arrays2 m_listed m_fed m_hasSnapshot m_above m_below m_list m_text m_kindOf m_nodeAbove m_nodeBelow m_length m_cell m_savedAbove m_savedBelow m_savedKind m_savedNodeAbove m_savedNodeBelow PL kk tt bb v1 v2 v3 hI
  obtain ⟨hReg, hList, hText, hArr, hNode, hHs, hHs01, hSnap⟩ := id hI
  unfold w7_plant w8_plant
  by_cases h1 : isS v1
  rotate_left
  · simp only [s7n h1, s8n h1, b01, b00, false_implies, true_implies, not_true_eq_false, not_false_eq_true, true_and, and_true]; exact Or.inl hI
  by_cases h2 : -1 ≤ v2.toInt ∧ v2.toInt ≤ 4
  rotate_left
  · simp only [s7y h1, s8y h1, n7n (lo := -1) (hi := 4) h2, w8n (a := v2.toInt64) (lo := -1) (hi := 4) (by rw [t64]; exact h2), b01, b00, false_implies, true_implies, not_true_eq_false, not_false_eq_true, true_and, and_true]; exact Or.inl hI
  by_cases h3 : isR v3
  rotate_left
  · simp only [s7y h1, s8y h1, n7y (lo := -1) (hi := 4) h2, w8y (a := v2.toInt64) (lo := -1) (hi := 4) (by rw [t64]; exact h2), r7n h3, r8n h3, b01, b00, false_implies, true_implies, not_true_eq_false, not_false_eq_true, true_and, and_true]; exact Or.inl hI
  simp only [s7y h1, s8y h1, n7y (lo := -1) (hi := 4) h2, w8y (a := v2.toInt64) (lo := -1) (hi := 4) (by rw [t64]; exact h2), r7y h3, r8y h3, b01, b00, false_implies, true_implies, not_true_eq_false, not_false_eq_true, true_and, and_true]
  refine ⟨h1.vin, h3.vin, ?_⟩
  have h0 : (0 : Int32).toInt = 0 := rfl
  obtain ⟨g1, g2, -⟩ := hReg _ h3.lt
  -- the slots afterwards
  have hNone : v2 = -1 → INode PL kk tt bb (va_up x_slots v1.toNatClampNeg none) (upd m_kindOf v1.toNatClampNeg v2) (upd m_nodeAbove v1.toNatClampNeg (m_above v3.toNatClampNeg)) (upd m_nodeBelow v1.toNatClampNeg (m_below v3.toNatClampNeg)) := fun hv i hi => by
    by_cases hk : i = v1.toNatClampNeg
    · subst hk
      simp only [upd_eq, va_up_self]
      exact Or.inl ⟨trivial, hv⟩
    · simp only [upd_ne _ _ hk, va_up_ne _ _ hk]
      exact hNode i hi
  have hSome : ∀ q, 0 ≤ v2.toInt → q ∉ PL → INode (PL ++ [q]) (va_up kk q v2) (va_up tt q (x_tops v3.toNatClampNeg)) (va_up bb q (x_bottoms v3.toNatClampNeg)) (va_up x_slots v1.toNatClampNeg (some q)) (upd m_kindOf v1.toNatClampNeg v2) (upd m_nodeAbove v1.toNatClampNeg (m_above v3.toNatClampNeg)) (upd m_nodeBelow v1.toNatClampNeg (m_below v3.toNatClampNeg)) := fun q hv hq i hi => by
    by_cases hk : i = v1.toNatClampNeg
    · subst hk
      simp only [upd_eq, va_up_self]
      exact Or.inr ⟨q, List.mem_append_right _ (List.mem_singleton.mpr rfl), rfl, (va_up_self kk q v2).symm, by rw [va_up_self, g1], by rw [va_up_self, g2], by rw [va_up_self]; exact hv, by rw [va_up_self]; exact h2.2⟩
    · simp only [upd_ne _ _ hk, va_up_ne _ _ hk]
      rcases hNode i hi with h | ⟨a, n1, n2, n3, n4, n5, n6, n7⟩
      · exact Or.inl h
      · have haq : a ≠ q := fun e => hq (e ▸ n1)
        exact Or.inr ⟨a, List.mem_append_left _ n1, n2, by rw [va_up_ne _ _ haq]; exact n3, by rw [va_up_ne _ _ haq]; exact n4, by rw [va_up_ne _ _ haq]; exact n5, by rw [va_up_ne _ _ haq]; exact n6, by rw [va_up_ne _ _ haq]; exact n7⟩
  have hOld : ∀ q, q ∉ PL → ∀ {sl : Nat → Option Nat} {ko na nb : Nat → Int32} {k t b : Int32}, INode PL kk tt bb sl ko na nb → INode (PL ++ [q]) (va_up kk q k) (va_up tt q t) (va_up bb q b) sl ko na nb := fun q hq sl ko na nb k t b h i hi => by
    rcases h i hi with h | ⟨a, n1, n2, n3, n4, n5, n6, n7⟩
    · exact Or.inl h
    · have haq : a ≠ q := fun e => hq (e ▸ n1)
      exact Or.inr ⟨a, List.mem_append_left _ n1, n2, by rw [va_up_ne _ _ haq]; exact n3, by rw [va_up_ne _ _ haq]; exact n4, by rw [va_up_ne _ _ haq]; exact n5, by rw [va_up_ne _ _ haq]; exact n6, by rw [va_up_ne _ _ haq]; exact n7⟩
  have tail : ∀ (hd : Int32) (post : Int32 → (Nat → Int32) → (Nat → Int32) → (Nat → Int32) → Prop), (hd = if x_slots v1.toNatClampNeg = none then 0 else 1) → post hd (upd m_kindOf v1.toNatClampNeg v2) (upd m_nodeAbove v1.toNatClampNeg (m_above v3.toNatClampNeg)) (upd m_nodeBelow v1.toNatClampNeg (m_below v3.toNatClampNeg)) → vp_in v1 5 ∧ ((m_kindOf v1.toNatClampNeg < 0 → w8_plant_J46 m_above m_below m_kindOf m_nodeAbove m_nodeBelow v1 v2 v3 0 post) ∧ (¬ m_kindOf v1.toNatClampNeg < 0 → w8_plant_J46 m_above m_below m_kindOf m_nodeAbove m_nodeBelow v1 v2 v3 1 post)) := fun hd post e hp => by
    unfold w8_plant_J46
    rcases hNode _ h1.lt with ⟨n1, n2⟩ | ⟨a, n1, n2, n3, n4, n5, n6, n7⟩
    · rw [if_pos n1] at e
      subst e
      exact ⟨h1.vin, fun _ => ⟨h1.vin, h3.vin, h1.vin, h3.vin, h1.vin, hp⟩, fun q => absurd (by rw [n2]; decide) q⟩
    · rw [if_neg (by rw [n2]; simp)] at e
      subst e
      refine ⟨h1.vin, fun q => ?_, fun _ => ⟨h1.vin, h3.vin, h1.vin, h3.vin, h1.vin, hp⟩⟩
      have := i_lt.mp q
      rw [n3] at this
      omega
  unfold w7_newNode
  refine ⟨fun ho => ⟨fun hn => ?_, fun a ha => ?_⟩, fun ho q => ⟨fun hn => ?_, fun a ha => ?_⟩⟩
  · refine tail _ _ (by rw [if_pos hn]) ⟨rfl, Or.inl ⟨rfl, hReg, hList, hText, hArr, hNone (i_ext (by show v2.toInt = -1; omega)), hHs, hHs01, hSnap⟩⟩
  · refine tail _ _ (by rw [if_neg (by rw [ha]; simp)]) ⟨rfl, Or.inl ⟨rfl, hReg, hList, hText, hArr, hNone (i_ext (by show v2.toInt = -1; omega)), hHs, hHs01, hSnap⟩⟩
  · refine tail _ _ (by rw [if_pos hn]) ⟨rfl, Or.inr ⟨q, _, _, _, rfl, fun hq => ⟨hReg, hList, hText, hArr, hSome q (by omega) hq, hHs, hHs01, fun z => ⟨(hSnap z).1, hOld q hq (hSnap z).2⟩⟩⟩⟩
  · refine tail _ _ (by rw [if_neg (by rw [ha]; simp)]) ⟨rfl, Or.inr ⟨q, _, _, _, rfl, fun hq => ⟨hReg, hList, hText, hArr, hSome q (by omega) hq, hHs, hHs01, fun z => ⟨(hSnap z).1, hOld q hq (hSnap z).2⟩⟩⟩⟩
