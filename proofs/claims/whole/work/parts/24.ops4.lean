theorem arr_idx {v k : Int32} (h1 : isA v) (h2 : 0 ≤ k.toInt) (h3 : k.toInt < 60) : ((60 : Int32) * v + k).toInt = 60 * v.toInt + k.toInt := by
  have h60 : (60 : Int32).toInt = 60 := rfl
  have a1 := h1.1
  have a2 := h1.2
  have e : ((60 : Int32) * v).toInt = 60 * v.toInt := by rw [i_mul (by rw [h60]; omega) (by rw [h60]; omega), h60]
  rw [i_add (by rw [e]; omega) (by rw [e]; omega), e]
theorem arr_nat {v k : Int32} (h1 : isA v) (h2 : 0 ≤ k.toInt) (h3 : k.toInt < 60) : ((60 : Int32) * v + k).toNatClampNeg = 60 * v.toNatClampNeg + k.toNatClampNeg := by
  have e := arr_idx h1 h2 h3
  have a1 := h1.1
  have c1 := clamp h1.1
  have c2 := clamp h2
  have c3 := clamp (v := (60 : Int32) * v + k) (by omega)
  omega
theorem arr_vin {v k : Int32} (h1 : isA v) (h2 : 0 ≤ k.toInt) (h3 : k.toInt < 60) : vp_in ((60 : Int32) * v + k) 180 := by
  have e := arr_idx h1 h2 h3
  have a1 := h1.1
  have a2 := h1.2
  exact vin (by omega) (by omega)
theorem arr3 {v : Int32} (h : isA v) : v = 0 ∨ v = 1 ∨ v = 2 := by
  have a1 := h.1
  have a2 := h.2
  rcases (show v.toInt = 0 ∨ v.toInt = 1 ∨ v.toInt = 2 by omega) with h | h | h
  · exact Or.inl (i_ext h)
  · exact Or.inr (Or.inl (i_ext h))
  · exact Or.inr (Or.inr (i_ext h))
theorem na7_0 {sz : Nat → Int32} {v2 : Int32} {f1 f2 : Nat → Int32} {post : Int32 → (Nat → Int32) → (Nat → Int32) → (Nat → Int32) → (Nat → Int32) → Prop} (n : Nat) : ∀ (i : Int32) (f0 : Nat → Int32), 0 ≤ i.toInt → i.toInt + n = 60 → (∀ k : Nat, (k : Int) < i.toInt → f0 k = 0) → (∀ g : Nat → Int32, (∀ k : Nat, k < 60 → g k = 0) → post 1 (upd sz (0 : Int32).toNatClampNeg v2) g f1 f2) → w7_newArray_L25 sz 0 v2 post (n + 1) i f0 f1 f2 := by
  have l60 : (60 : Int32).toInt = 60 := rfl
  have l1 : (1 : Int32).toInt = 1 := rfl
  induction n with
  | zero =>
    intro i f0 h1 h2 h3 hp
    rw [w7_newArray_L25]
    exact ⟨fun _ => ⟨by unfold vp_in; decide, hp _ (fun k hk => h3 k (by omega))⟩, fun q => absurd (i_le.mpr (by omega)) q⟩
  | succ n ih =>
    intro i f0 h1 h2 h3 hp
    rw [w7_newArray_L25]
    refine ⟨fun q => absurd (i_le.mp q) (by omega), fun _ => ⟨by unfold vp_in; decide, fun _ => ⟨vin h1 (by omega), fun x ex => ?_⟩, fun q => absurd q (by decide), fun q => absurd q (by decide)⟩⟩
    have hx : x.toInt = i.toInt + 1 := by rw [ex, i_add (by omega) (by omega), l1]
    refine ih x _ (by omega) (by omega) (fun k hk => ?_) hp
    have hc := clamp h1
    by_cases hki : k = i.toNatClampNeg
    · subst hki; exact upd_eq _ _ _
    · rw [upd_ne _ _ hki]; exact h3 k (by omega)
theorem na7_1 {sz : Nat → Int32} {v2 : Int32} {f0 f2 : Nat → Int32} {post : Int32 → (Nat → Int32) → (Nat → Int32) → (Nat → Int32) → (Nat → Int32) → Prop} (n : Nat) : ∀ (i : Int32) (f1 : Nat → Int32), 0 ≤ i.toInt → i.toInt + n = 60 → (∀ k : Nat, (k : Int) < i.toInt → f1 k = 0) → (∀ g : Nat → Int32, (∀ k : Nat, k < 60 → g k = 0) → post 1 (upd sz (1 : Int32).toNatClampNeg v2) f0 g f2) → w7_newArray_L25 sz 1 v2 post (n + 1) i f0 f1 f2 := by
  have l60 : (60 : Int32).toInt = 60 := rfl
  have l1 : (1 : Int32).toInt = 1 := rfl
  induction n with
  | zero =>
    intro i f1 h1 h2 h3 hp
    rw [w7_newArray_L25]
    exact ⟨fun _ => ⟨by unfold vp_in; decide, hp _ (fun k hk => h3 k (by omega))⟩, fun q => absurd (i_le.mpr (by omega)) q⟩
  | succ n ih =>
    intro i f1 h1 h2 h3 hp
    rw [w7_newArray_L25]
    refine ⟨fun q => absurd (i_le.mp q) (by omega), fun _ => ⟨by unfold vp_in; decide, fun q => absurd q (by decide), fun _ => ⟨vin h1 (by omega), fun x ex => ?_⟩, fun q => absurd q (by decide)⟩⟩
    have hx : x.toInt = i.toInt + 1 := by rw [ex, i_add (by omega) (by omega), l1]
    refine ih x _ (by omega) (by omega) (fun k hk => ?_) hp
    have hc := clamp h1
    by_cases hki : k = i.toNatClampNeg
    · subst hki; exact upd_eq _ _ _
    · rw [upd_ne _ _ hki]; exact h3 k (by omega)
theorem na7_2 {sz : Nat → Int32} {v2 : Int32} {f0 f1 : Nat → Int32} {post : Int32 → (Nat → Int32) → (Nat → Int32) → (Nat → Int32) → (Nat → Int32) → Prop} (n : Nat) : ∀ (i : Int32) (f2 : Nat → Int32), 0 ≤ i.toInt → i.toInt + n = 60 → (∀ k : Nat, (k : Int) < i.toInt → f2 k = 0) → (∀ g : Nat → Int32, (∀ k : Nat, k < 60 → g k = 0) → post 1 (upd sz (2 : Int32).toNatClampNeg v2) f0 f1 g) → w7_newArray_L25 sz 2 v2 post (n + 1) i f0 f1 f2 := by
  have l60 : (60 : Int32).toInt = 60 := rfl
  have l1 : (1 : Int32).toInt = 1 := rfl
  induction n with
  | zero =>
    intro i f2 h1 h2 h3 hp
    rw [w7_newArray_L25]
    exact ⟨fun _ => ⟨by unfold vp_in; decide, hp _ (fun k hk => h3 k (by omega))⟩, fun q => absurd (i_le.mpr (by omega)) q⟩
  | succ n ih =>
    intro i f2 h1 h2 h3 hp
    rw [w7_newArray_L25]
    refine ⟨fun q => absurd (i_le.mp q) (by omega), fun _ => ⟨by unfold vp_in; decide, fun q => absurd q (by decide), fun q => absurd q (by decide), fun _ => ⟨vin h1 (by omega), fun x ex => ?_⟩⟩⟩
    have hx : x.toInt = i.toInt + 1 := by rw [ex, i_add (by omega) (by omega), l1]
    refine ih x _ (by omega) (by omega) (fun k hk => ?_) hp
    have hc := clamp h1
    by_cases hki : k = i.toNatClampNeg
    · subst hki; exact upd_eq _ _ _
    · rw [upd_ne _ _ hki]; exact h3 k (by omega)
theorem na8 {len : Nat → Int32} {v : Int32} (hv : isA v) {post : Int32 → (Nat → Int32) → (Nat → Int32) → Prop} (n : Nat) : ∀ (i : Int32) (f : Nat → Int32), 0 ≤ i.toInt → i.toInt + n = 60 → (∀ g : Nat → Int32, (∀ k : Nat, i.toNatClampNeg ≤ k → k < 60 → g (60 * v.toNatClampNeg + k) = 0) → (∀ k : Nat, ¬ (60 * v.toNatClampNeg + i.toNatClampNeg ≤ k ∧ k < 60 * v.toNatClampNeg + 60) → g k = f k) → post 1 len g) → w8_newArray_L33 len v post (n + 1) i f := by
  have l60 : (60 : Int32).toInt = 60 := rfl
  have l1 : (1 : Int32).toInt = 1 := rfl
  induction n with
  | zero =>
    intro i f h1 h2 hp
    rw [w8_newArray_L33]
    have hc := clamp h1
    exact ⟨fun _ => hp _ (fun k h3 h4 => absurd h4 (by omega)) (fun k _ => rfl), fun q => absurd (i_le.mpr (by omega)) q⟩
  | succ n ih =>
    intro i f h1 h2 hp
    rw [w8_newArray_L33]
    refine ⟨fun q => absurd (i_le.mp q) (by omega), fun _ => ⟨arr_vin hv h1 (by omega), fun x ex => ?_⟩⟩
    have hx : x.toInt = i.toInt + 1 := by rw [ex, i_add (by omega) (by omega), l1]
    have hc := clamp h1
    have hcx := clamp (v := x) (by omega)
    rw [arr_nat hv h1 (by omega)]
    refine ih x _ (by omega) (by omega) (fun g g1 g2 => hp g (fun k h3 h4 => ?_) (fun k hk => ?_))
    · by_cases hki : k = i.toNatClampNeg
      · subst hki
        rw [g2 _ (by omega), upd_eq]
      · exact g1 k (by omega) h4
    · rw [g2 k (by omega), upd_ne _ _ (by omega)]
theorem op_newArray : Op_newArray := by
  intro x_hasSnapshot x_termListSize x_textSize x_tops x_bottoms x_slots x_savedTops x_savedBottoms x_savedSlots x_termList x_text x_arraySizes x_arrays0 x_arrays1 x_arrays2 m_listed m_fed m_hasSnapshot m_above m_below m_list m_text m_kindOf m_nodeAbove m_nodeBelow m_length m_cell m_savedAbove m_savedBelow m_savedKind m_savedNodeAbove m_savedNodeBelow PL kk tt bb v1 v2 hI
  obtain ⟨hReg, hList, hText, hArr, hNode, hHs, hHs01, hSnap⟩ := id hI
  unfold w7_newArray w8_newArray
  by_cases h1 : isA v1
  rotate_left
  · simp only [a7n h1, a8n h1, b01, b00, false_implies, true_implies, not_true_eq_false, not_false_eq_true, true_and, and_true]; exact hI
  simp only [a7y h1, a8y h1, b01, b00, false_implies, true_implies, not_true_eq_false, not_false_eq_true, true_and, and_true]
  have l60 : (60 : Int32).toInt = 60 := rfl
  have lm1 : (-1 : Int32).toInt = -1 := rfl
  refine ⟨fun h2 => ⟨fun h3 => ?_, fun h3 => ⟨fun _ => ⟨fun q => absurd q h3, fun _ => hI⟩, fun q => absurd h2 q⟩⟩, fun h2 => ⟨fun q => absurd q h2, fun _ => hI⟩⟩
  have k2 := i_le.mp h2
  have k3 := i_le.mp h3
  obtain ⟨s1, c0, c1, c2⟩ := hArr
  have M : ∀ post : Int32 → (Nat → Int32) → (Nat → Int32) → Prop, (∀ g : Nat → Int32, (∀ k : Nat, k < 60 → g (60 * v1.toNatClampNeg + k) = 0) → (∀ k : Nat, ¬ (60 * v1.toNatClampNeg ≤ k ∧ k < 60 * v1.toNatClampNeg + 60) → g k = m_cell k) → post 1 (upd m_length v1.toNatClampNeg v2) g) → ((v2 ≤ 60 → (-1 ≤ v2 → vp_in v1 3 ∧ ∃ n33, w8_newArray_L33 (upd m_length v1.toNatClampNeg v2) v1 post n33 0 m_cell) ∧ (¬ -1 ≤ v2 → post (-14) m_length m_cell)) ∧ (¬ v2 ≤ 60 → post (-1) m_length m_cell)) := fun post hp =>
    ⟨fun _ => ⟨fun _ => ⟨h1.vin, _, na8 h1 60 0 m_cell (by decide) (by decide) (fun g g1 g2 => hp g (fun k hk => g1 k (Nat.zero_le _) hk) (fun k hk => g2 k (by have : (0 : Int32).toNatClampNeg = 0 := rfl; omega)))⟩, fun q => absurd h3 q⟩, fun q => absurd h2 q⟩
  have hs : ∀ j : Nat, j < 3 → upd x_arraySizes v1.toNatClampNeg v2 j = upd m_length v1.toNatClampNeg v2 j ∧ -1 ≤ (upd m_length v1.toNatClampNeg v2 j).toInt ∧ (upd m_length v1.toNatClampNeg v2 j).toInt ≤ 60 := fun j hj => by
    by_cases hk : j = v1.toNatClampNeg
    · subst hk
      simp only [upd_eq]
      exact ⟨trivial, by omega, by omega⟩
    · simp only [upd_ne _ _ hk]
      exact s1 j hj
  rcases arr3 h1 with rfl | rfl | rfl
  · refine ⟨_, na7_0 60 0 x_arrays0 (by decide) (by decide) (fun k hk => absurd hk (by show ¬ (k : Int) < 0; omega)) (fun g7 hg7 => M _ (fun g g1 g2 => ⟨rfl, hReg, hList, hText, ⟨hs, fun k hk => ?_, fun k hk => ?_, fun k hk => ?_⟩, hNode, hHs, hHs01, hSnap⟩))⟩
    · have hv : (upd m_length (0 : Int32).toNatClampNeg v2 0) = v2 := upd_eq _ _ _
      rw [hv] at hk
      rw [hg7 k (by omega)]
      have := g1 k (by omega)
      rw [show 60 * (0 : Int32).toNatClampNeg + k = k from Nat.zero_add k] at this
      exact this.symm
    · have hv : (upd m_length (0 : Int32).toNatClampNeg v2 1) = m_length 1 := upd_ne _ _ (by decide)
      rw [hv] at hk
      have hb := (s1 1 (by decide)).2.2
      rw [g2 _ (by have e9 : (0 : Int32).toNatClampNeg = 0 := rfl; omega)]
      exact c1 k hk
    · have hv : (upd m_length (0 : Int32).toNatClampNeg v2 2) = m_length 2 := upd_ne _ _ (by decide)
      rw [hv] at hk
      have hb := (s1 2 (by decide)).2.2
      rw [g2 _ (by have e9 : (0 : Int32).toNatClampNeg = 0 := rfl; omega)]
      exact c2 k hk
  · refine ⟨_, na7_1 60 0 x_arrays1 (by decide) (by decide) (fun k hk => absurd hk (by show ¬ (k : Int) < 0; omega)) (fun g7 hg7 => M _ (fun g g1 g2 => ⟨rfl, hReg, hList, hText, ⟨hs, fun k hk => ?_, fun k hk => ?_, fun k hk => ?_⟩, hNode, hHs, hHs01, hSnap⟩))⟩
    · have hv : (upd m_length (1 : Int32).toNatClampNeg v2 0) = m_length 0 := upd_ne _ _ (by decide)
      rw [hv] at hk
      have hb := (s1 0 (by decide)).2.2
      rw [g2 _ (by have e9 : (1 : Int32).toNatClampNeg = 1 := rfl; omega)]
      exact c0 k hk
    · have hv : (upd m_length (1 : Int32).toNatClampNeg v2 1) = v2 := upd_eq _ _ _
      rw [hv] at hk
      rw [hg7 k (by omega)]
      exact (g1 k (by omega)).symm
    · have hv : (upd m_length (1 : Int32).toNatClampNeg v2 2) = m_length 2 := upd_ne _ _ (by decide)
      rw [hv] at hk
      have hb := (s1 2 (by decide)).2.2
      rw [g2 _ (by have e9 : (1 : Int32).toNatClampNeg = 1 := rfl; omega)]
      exact c2 k hk
  · refine ⟨_, na7_2 60 0 x_arrays2 (by decide) (by decide) (fun k hk => absurd hk (by show ¬ (k : Int) < 0; omega)) (fun g7 hg7 => M _ (fun g g1 g2 => ⟨rfl, hReg, hList, hText, ⟨hs, fun k hk => ?_, fun k hk => ?_, fun k hk => ?_⟩, hNode, hHs, hHs01, hSnap⟩))⟩
    · have hv : (upd m_length (2 : Int32).toNatClampNeg v2 0) = m_length 0 := upd_ne _ _ (by decide)
      rw [hv] at hk
      have hb := (s1 0 (by decide)).2.2
      rw [g2 _ (by have e9 : (2 : Int32).toNatClampNeg = 2 := rfl; omega)]
      exact c0 k hk
    · have hv : (upd m_length (2 : Int32).toNatClampNeg v2 1) = m_length 1 := upd_ne _ _ (by decide)
      rw [hv] at hk
      have hb := (s1 1 (by decide)).2.2
      rw [g2 _ (by have e9 : (2 : Int32).toNatClampNeg = 2 := rfl; omega)]
      exact c1 k hk
    · have hv : (upd m_length (2 : Int32).toNatClampNeg v2 2) = v2 := upd_eq _ _ _
      rw [hv] at hk
      rw [hg7 k (by omega)]
      exact (g1 k (by omega)).symm
theorem isIx_y {sz : Nat → Int32} {a i : Int32} (ha : isA a) (h1 : 0 ≤ i.toInt) (h2 : i.toInt < (sz a.toNatClampNeg).toInt) (post : Int32 → Prop) (h : post 1) : w7_isIndex sz a i post := by
  unfold w7_isIndex
  have h0 : (0 : Int32).toInt = 0 := rfl
  exact ⟨fun q => absurd (i_lt.mp q) (by omega), fun _ => ⟨ha.vin, fun q => absurd (i_le.mp q) (by omega), fun _ => h⟩⟩
theorem isIx_n {sz : Nat → Int32} {a i : Int32} (ha : isA a) (h1 : ¬ (0 ≤ i.toInt ∧ i.toInt < (sz a.toNatClampNeg).toInt)) (post : Int32 → Prop) (h : post 0) : w7_isIndex sz a i post := by
  unfold w7_isIndex
  have h0 : (0 : Int32).toInt = 0 := rfl
  exact ⟨fun _ => h, fun q => ⟨ha.vin, fun _ => h, fun q2 => absurd ⟨Int.not_lt.mp (fun z => q (i_lt.mpr z)), Int.not_le.mp (fun z => q2 (i_le.mpr z))⟩ h1⟩⟩
theorem len1 {x : Int32} (h : -1 ≤ x.toInt) : ((x - (1 : Int32)).toInt64).toInt = x.toInt - 1 := by
  have l1 : (1 : Int32).toInt = 1 := rfl
  have := i_range x
  rw [t64, i_sub (by omega) (by omega), l1]
theorem op_element : Op_element := by
  intro x_hasSnapshot x_termListSize x_textSize x_tops x_bottoms x_slots x_savedTops x_savedBottoms x_savedSlots x_termList x_text x_arraySizes x_arrays0 x_arrays1 x_arrays2 m_listed m_fed m_hasSnapshot m_above m_below m_list m_text m_kindOf m_nodeAbove m_nodeBelow m_length m_cell m_savedAbove m_savedBelow m_savedKind m_savedNodeAbove m_savedNodeBelow PL kk tt bb v1 v2 hI
  obtain ⟨hReg, hList, hText, hArr, hNode, hHs, hHs01, hSnap⟩ := id hI
  unfold w7_element w8_element
  by_cases h1 : isA v1
  rotate_left
  · simp only [a7n h1, a8n h1, b01, b00, false_implies, true_implies, not_true_eq_false, not_false_eq_true, true_and, and_true]; exact hI
  simp only [a7y h1, a8y h1, b01, b00, false_implies, true_implies, not_true_eq_false, not_false_eq_true, true_and, and_true]
  obtain ⟨s1, c0, c1, c2⟩ := hArr
  obtain ⟨e1, e2, e3⟩ := s1 _ h1.lt
  have hl := len1 e2
  by_cases h2 : 0 ≤ v2.toInt ∧ v2.toInt < (m_length v1.toNatClampNeg).toInt
  · refine isIx_y h1 h2.1 (by rw [e1]; exact h2.2) _ ?_
    have hw : (0 : Int64).toInt ≤ v2.toInt64.toInt ∧ v2.toInt64.toInt ≤ (m_length v1.toNatClampNeg - 1).toInt64.toInt := by rw [t64, hl]; exact ⟨h2.1, by omega⟩
    simp only [w8y hw, b01, b00, false_implies, true_implies, not_true_eq_false, not_false_eq_true, true_and, and_true]
    have hv := arr_vin h1 h2.1 (by omega : v2.toInt < 60)
    have hcl := clamp h2.1
    have hv2 : vp_in v2 60 := vin h2.1 (by omega)
    have ha := arr_nat h1 h2.1 (by omega : v2.toInt < 60)
    refine ⟨h1.vin, fun q => ⟨hv2, h1.vin, hv, ?_, hI⟩, fun q => ⟨hv2, h1.vin, hv, ?_, hI⟩, fun q => ⟨hv2, h1.vin, hv, ?_, hI⟩⟩
    · subst q
      rw [ha, c0 v2.toNatClampNeg (by have : (0 : Int32).toNatClampNeg = 0 := rfl; rw [this] at h2; omega), show 60 * (0 : Int32).toNatClampNeg + v2.toNatClampNeg = v2.toNatClampNeg from Nat.zero_add _]
    · subst q
      rw [ha, c1 v2.toNatClampNeg (by have : (1 : Int32).toNatClampNeg = 1 := rfl; rw [this] at h2; omega)]; rfl
    · subst q
      rw [ha, c2 v2.toNatClampNeg (by have : (2 : Int32).toNatClampNeg = 2 := rfl; rw [this] at h2; omega)]; rfl
  · refine isIx_n h1 (by rw [e1]; exact h2) _ ?_
    have hw : ¬ ((0 : Int64).toInt ≤ v2.toInt64.toInt ∧ v2.toInt64.toInt ≤ (m_length v1.toNatClampNeg - 1).toInt64.toInt) := by rw [t64, hl]; exact fun q => h2 ⟨q.1, by omega⟩
    simp only [w8n hw, b01, b00, false_implies, true_implies, not_true_eq_false, not_false_eq_true, true_and, and_true]
    exact ⟨h1.vin, hI⟩
theorem op_setElement : Op_setElement := by
  intro x_hasSnapshot x_termListSize x_textSize x_tops x_bottoms x_slots x_savedTops x_savedBottoms x_savedSlots x_termList x_text x_arraySizes x_arrays0 x_arrays1 x_arrays2 m_listed m_fed m_hasSnapshot m_above m_below m_list m_text m_kindOf m_nodeAbove m_nodeBelow m_length m_cell m_savedAbove m_savedBelow m_savedKind m_savedNodeAbove m_savedNodeBelow PL kk tt bb v1 v2 v3 hI
  obtain ⟨hReg, hList, hText, hArr, hNode, hHs, hHs01, hSnap⟩ := id hI
  unfold w7_setElement w8_setElement
  have l0 : (0 : Int32).toInt = 0 := rfl
  have lm1 : (-1 : Int32).toInt = -1 := rfl
  by_cases h1 : isA v1
  rotate_left
  · simp only [a7n h1, a8n h1, b01, b00, false_implies, true_implies, not_true_eq_false, not_false_eq_true, true_and, and_true]; exact hI
  simp only [a7y h1, a8y h1, b01, b00, false_implies, true_implies, not_true_eq_false, not_false_eq_true, true_and, and_true]
  obtain ⟨s1, c0, c1, c2⟩ := id hArr
  obtain ⟨e1, e2, e3⟩ := s1 _ h1.lt
  have hl := len1 e2
  refine ⟨h1.vin, fun h3 => ?_, fun h3 => ⟨h1.vin, fun q => absurd (i_le.mp q) (by rw [← e1, h3]; decide), fun _ => hI⟩⟩
  have h4 : 0 ≤ (m_length v1.toNatClampNeg).toInt := by
    rcases Int.lt_or_le (m_length v1.toNatClampNeg).toInt 0 with z | z
    · exact absurd (by rw [e1]; exact i_ext (by omega)) h3
    · exact z
  have h5 : 0 ≤ m_length v1.toNatClampNeg := i_le.mpr (by omega)
  by_cases h2 : 0 ≤ v2.toInt ∧ v2.toInt < (m_length v1.toNatClampNeg).toInt
  · refine isIx_y h1 h2.1 (by rw [e1]; exact h2.2) _ ?_
    have hw : (0 : Int64).toInt ≤ v2.toInt64.toInt ∧ v2.toInt64.toInt ≤ (m_length v1.toNatClampNeg - 1).toInt64.toInt := by rw [t64, hl]; exact ⟨h2.1, by omega⟩
    simp only [w8y hw, eq_true h5, b01, b00, false_implies, true_implies, not_true_eq_false, not_false_eq_true, true_and, and_true]
    have hv := arr_vin h1 h2.1 (by omega : v2.toInt < 60)
    have hcl := clamp h2.1
    have hv2 : vp_in v2 60 := vin h2.1 (by omega)
    have ha := arr_nat h1 h2.1 (by omega : v2.toInt < 60)
    rw [ha]
    refine ⟨h1.vin, fun q => ⟨hv2, h1.vin, h1.vin, hv, hReg, hList, hText, ⟨s1, fun k hk => ?_, fun k hk => ?_, fun k hk => ?_⟩, hNode, hHs, hHs01, hSnap⟩, fun q => ⟨hv2, h1.vin, h1.vin, hv, hReg, hList, hText, ⟨s1, fun k hk => ?_, fun k hk => ?_, fun k hk => ?_⟩, hNode, hHs, hHs01, hSnap⟩, fun q => ⟨hv2, h1.vin, h1.vin, hv, hReg, hList, hText, ⟨s1, fun k hk => ?_, fun k hk => ?_, fun k hk => ?_⟩, hNode, hHs, hHs01, hSnap⟩⟩
    all_goals have hb0 := (s1 0 (by decide)).2.2
    all_goals have hb1 := (s1 1 (by decide)).2.2
    all_goals have hb2 := (s1 2 (by decide)).2.2
    all_goals have z0 : (0 : Int32).toNatClampNeg = 0 := rfl
    all_goals have z1 : (1 : Int32).toNatClampNeg = 1 := rfl
    all_goals have z2 : (2 : Int32).toNatClampNeg = 2 := rfl
    all_goals subst q
    · by_cases hkk : k = v2.toNatClampNeg
      · rw [hkk, upd_eq, show 60 * (0 : Int32).toNatClampNeg + v2.toNatClampNeg = v2.toNatClampNeg from by omega, upd_eq]
      · rw [upd_ne _ _ hkk, upd_ne _ _ (by omega)]
        exact c0 k hk
    · rw [upd_ne _ _ (by omega)]
      exact c1 k hk
    · rw [upd_ne _ _ (by omega)]
      exact c2 k hk
    · rw [upd_ne _ _ (by omega)]
      exact c0 k hk
    · by_cases hkk : k = v2.toNatClampNeg
      · rw [hkk, upd_eq, show 60 * (1 : Int32).toNatClampNeg + v2.toNatClampNeg = (60 + v2.toNatClampNeg) from by omega, upd_eq]
      · rw [upd_ne _ _ hkk, upd_ne _ _ (by omega)]
        exact c1 k hk
    · rw [upd_ne _ _ (by omega)]
      exact c2 k hk
    · rw [upd_ne _ _ (by omega)]
      exact c0 k hk
    · rw [upd_ne _ _ (by omega)]
      exact c1 k hk
    · by_cases hkk : k = v2.toNatClampNeg
      · rw [hkk, upd_eq, show 60 * (2 : Int32).toNatClampNeg + v2.toNatClampNeg = (120 + v2.toNatClampNeg) from by omega, upd_eq]
      · rw [upd_ne _ _ hkk, upd_ne _ _ (by omega)]
        exact c2 k hk
  · refine isIx_n h1 (by rw [e1]; exact h2) _ ?_
    have hw : ¬ ((0 : Int64).toInt ≤ v2.toInt64.toInt ∧ v2.toInt64.toInt ≤ (m_length v1.toNatClampNeg - 1).toInt64.toInt) := by rw [t64, hl]; exact fun q => h2 ⟨q.1, by omega⟩
    simp only [w8n hw, eq_true h5, b01, b00, false_implies, true_implies, not_true_eq_false, not_false_eq_true, true_and, and_true]
    exact ⟨h1.vin, h1.vin, hI⟩
