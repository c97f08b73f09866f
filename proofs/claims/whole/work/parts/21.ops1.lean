/-! the calls, one by one -/
theorem op_numerator : Op_numerator := by
  intro x_hasSnapshot x_termListSize x_textSize x_tops x_bottoms x_slots x_savedTops x_savedBottoms x_savedSlots x_termList x_text x_arraySizes x_arrays0 x_arrays1 x_arrays2 m_listed m_fed m_hasSnapshot m_above m_below m_list m_text m_kindOf m_nodeAbove m_nodeBelow m_length m_cell m_savedAbove m_savedBelow m_savedKind m_savedNodeAbove m_savedNodeBelow PL kk tt bb v1 hI
  obtain ⟨hReg, hList, hText, hArr, hNode, hHs, hHs01, hSnap⟩ := id hI
  unfold w7_numerator w8_numerator
  by_cases h1 : isR v1
  · simp only [r7y h1, r8y h1, b01, b00, false_implies, true_implies, not_true_eq_false, not_false_eq_true, true_and, and_true]
    exact ⟨h1.vin, h1.vin, (hReg _ h1.lt).1, hI⟩
  · simp only [r7n h1, r8n h1, b01, b00, false_implies, true_implies, not_true_eq_false, not_false_eq_true, true_and, and_true]
    exact hI
theorem op_denominator : Op_denominator := by
  intro x_hasSnapshot x_termListSize x_textSize x_tops x_bottoms x_slots x_savedTops x_savedBottoms x_savedSlots x_termList x_text x_arraySizes x_arrays0 x_arrays1 x_arrays2 m_listed m_fed m_hasSnapshot m_above m_below m_list m_text m_kindOf m_nodeAbove m_nodeBelow m_length m_cell m_savedAbove m_savedBelow m_savedKind m_savedNodeAbove m_savedNodeBelow PL kk tt bb v1 hI
  obtain ⟨hReg, hList, hText, hArr, hNode, hHs, hHs01, hSnap⟩ := id hI
  unfold w7_denominator w8_denominator
  by_cases h1 : isR v1
  · simp only [r7y h1, r8y h1, b01, b00, false_implies, true_implies, not_true_eq_false, not_false_eq_true, true_and, and_true]
    exact ⟨h1.vin, h1.vin, (hReg _ h1.lt).2.1, hI⟩
  · simp only [r7n h1, r8n h1, b01, b00, false_implies, true_implies, not_true_eq_false, not_false_eq_true, true_and, and_true]
    exact hI
theorem IReg.cross {t b a e : Nat → Int32} (h : IReg t b a e) {i j : Nat} (hi : i < 8) (hj : j < 8) : (t i).toInt64 * (b j).toInt64 - (b i).toInt64 * (t j).toInt64 = (a i).toInt64 * (e j).toInt64 - (e i).toInt64 * (a j).toInt64 := by
  rw [(h i hi).1, (h i hi).2.1, (h j hj).1, (h j hj).2.1]
theorem op_determinant : Op_determinant := by
  intro x_hasSnapshot x_termListSize x_textSize x_tops x_bottoms x_slots x_savedTops x_savedBottoms x_savedSlots x_termList x_text x_arraySizes x_arrays0 x_arrays1 x_arrays2 m_listed m_fed m_hasSnapshot m_above m_below m_list m_text m_kindOf m_nodeAbove m_nodeBelow m_length m_cell m_savedAbove m_savedBelow m_savedKind m_savedNodeAbove m_savedNodeBelow PL kk tt bb v1 v2 hI
  obtain ⟨hReg, hList, hText, hArr, hNode, hHs, hHs01, hSnap⟩ := id hI
  unfold w7_determinant w8_determinant
  by_cases h1 : isR v1
  · by_cases h2 : isR v2
    · simp only [r7y h1, r8y h1, r7y h2, r8y h2, b01, b00, false_implies, true_implies, not_true_eq_false, not_false_eq_true, true_and, and_true]
      exact ⟨h1.vin, h2.vin, h1.vin, h2.vin, h1.vin, h2.vin, h1.vin, h2.vin, hReg.cross h1.lt h2.lt, hI⟩
    · simp only [r7y h1, r8y h1, r7n h2, r8n h2, b01, b00, false_implies, true_implies, not_true_eq_false, not_false_eq_true, true_and, and_true]
      exact hI
  · simp only [r7n h1, r8n h1, b01, b00, false_implies, true_implies, not_true_eq_false, not_false_eq_true, true_and, and_true]
    exact hI
theorem op_compare : Op_compare := by
  intro x_hasSnapshot x_termListSize x_textSize x_tops x_bottoms x_slots x_savedTops x_savedBottoms x_savedSlots x_termList x_text x_arraySizes x_arrays0 x_arrays1 x_arrays2 m_listed m_fed m_hasSnapshot m_above m_below m_list m_text m_kindOf m_nodeAbove m_nodeBelow m_length m_cell m_savedAbove m_savedBelow m_savedKind m_savedNodeAbove m_savedNodeBelow PL kk tt bb v1 v2 hI
  obtain ⟨hReg, hList, hText, hArr, hNode, hHs, hHs01, hSnap⟩ := id hI
  unfold w7_compare w8_compare
  by_cases h1 : isR v1
  · by_cases h2 : isR v2
    · simp only [r7y h1, r8y h1, r7y h2, r8y h2, b01, b00, false_implies, true_implies, not_true_eq_false, not_false_eq_true, true_and, and_true]
      refine ⟨h1.vin, h2.vin, h1.vin, h2.vin, ?_⟩
      rw [hReg.cross h1.lt h2.lt]
      refine ⟨fun k => ⟨fun k2 => ⟨h1.vin, h2.vin, h1.vin, h2.vin, ?_⟩, fun k2 => ⟨h1.vin, h2.vin, h1.vin, h2.vin, ?_⟩⟩, fun k => ⟨h1.vin, h2.vin, h1.vin, h2.vin, ?_⟩⟩
      · exact ⟨fun _ => ⟨fun _ => hI, fun q => absurd q k2⟩, fun q => absurd k q⟩
      · exact ⟨fun _ => ⟨fun q => absurd k2 q, fun _ => hI⟩, fun q => absurd k q⟩
      · exact ⟨fun q => absurd q k, fun _ => hI⟩
    · simp only [r7y h1, r8y h1, r7n h2, r8n h2, b01, b00, false_implies, true_implies, not_true_eq_false, not_false_eq_true, true_and, and_true]
      exact hI
  · simp only [r7n h1, r8n h1, b01, b00, false_implies, true_implies, not_true_eq_false, not_false_eq_true, true_and, and_true]
    exact hI
theorem isR.bnd {v : Int32} (h : isR v) : 0 ≤ v.toInt ∧ v.toInt < 8 := h
theorem LInv.reg {x_hasSnapshot x_termListSize x_textSize : Int32} {x_tops x_bottoms : Nat → Int32} {x_slots : Nat → Option Nat} {x_savedTops x_savedBottoms : Nat → Int32} {x_savedSlots : Nat → Option Nat} {x_termList x_text x_arraySizes x_arrays0 x_arrays1 x_arrays2 : Nat → Int32} {m_hasSnapshot : Int32} {m_above m_below m_list : Nat → Int32} {m_listed : Int32} {m_text : Nat → Int32} {m_fed : Int32} {m_kindOf m_nodeAbove m_nodeBelow m_length m_cell m_savedAbove m_savedBelow m_savedKind m_savedNodeAbove m_savedNodeBelow : Nat → Int32} {PL : List Nat} {kk tt bb : Nat → Int32} (h : LInv x_hasSnapshot x_termListSize x_textSize x_tops x_bottoms x_slots x_savedTops x_savedBottoms x_savedSlots x_termList x_text x_arraySizes x_arrays0 x_arrays1 x_arrays2 m_hasSnapshot m_above m_below m_list m_listed m_text m_fed m_kindOf m_nodeAbove m_nodeBelow m_length m_cell m_savedAbove m_savedBelow m_savedKind m_savedNodeAbove m_savedNodeBelow PL kk tt bb) {t b a e : Nat → Int32} (h2 : IReg t b a e) : LInv x_hasSnapshot x_termListSize x_textSize t b x_slots x_savedTops x_savedBottoms x_savedSlots x_termList x_text x_arraySizes x_arrays0 x_arrays1 x_arrays2 m_hasSnapshot a e m_list m_listed m_text m_fed m_kindOf m_nodeAbove m_nodeBelow m_length m_cell m_savedAbove m_savedBelow m_savedKind m_savedNodeAbove m_savedNodeBelow PL kk tt bb := ⟨h2, h.2⟩
theorem t64 (v : Int32) : v.toInt64.toInt = v.toInt := Int32.toInt_toInt64 v
theorem op_set : Op_set := by
  intro x_hasSnapshot x_termListSize x_textSize x_tops x_bottoms x_slots x_savedTops x_savedBottoms x_savedSlots x_termList x_text x_arraySizes x_arrays0 x_arrays1 x_arrays2 m_listed m_fed m_hasSnapshot m_above m_below m_list m_text m_kindOf m_nodeAbove m_nodeBelow m_length m_cell m_savedAbove m_savedBelow m_savedKind m_savedNodeAbove m_savedNodeBelow PL kk tt bb v1 v2 v3 hI
  obtain ⟨hReg, hList, hText, hArr, hNode, hHs, hHs01, hSnap⟩ := id hI
  unfold w7_set w8_set
  have l1 : (1 : Int32).toInt = 1 := rfl
  have l6 : (1000000 : Int32).toInt = 1000000 := rfl
  have k1 : (1 : Int64).toInt = 1 := rfl
  have k6 : (1000000 : Int64).toInt = 1000000 := rfl
  by_cases h1 : isR v1
  · by_cases h2 : 1 ≤ v2.toInt ∧ v2.toInt ≤ 1000000
    · by_cases h3 : 1 ≤ v3.toInt ∧ v3.toInt ≤ 1000000
      · have a2 : (1 : Int32).toInt ≤ v2.toInt ∧ v2.toInt ≤ (1000000 : Int32).toInt := h2
        have a3 : (1 : Int32).toInt ≤ v3.toInt ∧ v3.toInt ≤ (1000000 : Int32).toInt := h3
        have c2 : (1 : Int64).toInt ≤ v2.toInt64.toInt ∧ v2.toInt64.toInt ≤ (1000000 : Int64).toInt := by rw [t64]; exact h2
        have c3 : (1 : Int64).toInt ≤ v3.toInt64.toInt ∧ v3.toInt64.toInt ≤ (1000000 : Int64).toInt := by rw [t64]; exact h3
        simp only [r7y h1, r8y h1, n7y a2, n7y a3, w8y c2, w8y c3, b01, b00, false_implies, true_implies, not_true_eq_false, not_false_eq_true, true_and, and_true]
        have p2 : 0 < v2.toInt64.toInt := by rw [t64]; omega
        have p3 : 0 < v3.toInt64.toInt := by rw [t64]; omega
        exact s7_store h1 p2 p3 (s8_put h1 p2 p3 ⟨rfl, hI.reg (hReg.store p2 p3)⟩)
      · have a2 : (1 : Int32).toInt ≤ v2.toInt ∧ v2.toInt ≤ (1000000 : Int32).toInt := h2
        have a3 : ¬ ((1 : Int32).toInt ≤ v3.toInt ∧ v3.toInt ≤ (1000000 : Int32).toInt) := h3
        have c2 : (1 : Int64).toInt ≤ v2.toInt64.toInt ∧ v2.toInt64.toInt ≤ (1000000 : Int64).toInt := by rw [t64]; exact h2
        have c3 : ¬ ((1 : Int64).toInt ≤ v3.toInt64.toInt ∧ v3.toInt64.toInt ≤ (1000000 : Int64).toInt) := by rw [t64]; exact h3
        simp only [r7y h1, r8y h1, n7y a2, n7n a3, w8y c2, w8n c3, b01, b00, false_implies, true_implies, not_true_eq_false, not_false_eq_true, true_and, and_true]
        exact hI
    · have a2 : ¬ ((1 : Int32).toInt ≤ v2.toInt ∧ v2.toInt ≤ (1000000 : Int32).toInt) := h2
      have c2 : ¬ ((1 : Int64).toInt ≤ v2.toInt64.toInt ∧ v2.toInt64.toInt ≤ (1000000 : Int64).toInt) := by rw [t64]; exact h2
      simp only [r7y h1, r8y h1, n7n a2, w8n c2, b01, b00, false_implies, true_implies, not_true_eq_false, not_false_eq_true, true_and, and_true]
      exact hI
  · simp only [r7n h1, r8n h1, b01, b00, false_implies, true_implies, not_true_eq_false, not_false_eq_true, true_and, and_true]
    exact hI
theorem IReg.pos {t b a e : Nat → Int32} (h : IReg t b a e) {i : Nat} (hi : i < 8) : 1 ≤ (a i).toInt ∧ (a i).toInt ≤ 1000000 ∧ 1 ≤ (e i).toInt ∧ (e i).toInt ≤ 1000000 := ⟨(h i hi).2.2.1, (h i hi).2.2.2.1, (h i hi).2.2.2.2.1, (h i hi).2.2.2.2.2.1⟩
theorem m_pos {a b : Int} (ha : 1 ≤ a) (hA : a ≤ 1000000) (hb : 1 ≤ b) (hB : b ≤ 1000000) : 1 ≤ a * b ∧ a * b ≤ 1000000000000 := by
  have h1 := Int.mul_le_mul hA hB (by omega) (by omega)
  have h2 := Int.mul_le_mul ha hb (by omega) (by omega)
  constructor <;> omega
theorem op_combine : Op_combine := by
  intro x_hasSnapshot x_termListSize x_textSize x_tops x_bottoms x_slots x_savedTops x_savedBottoms x_savedSlots x_termList x_text x_arraySizes x_arrays0 x_arrays1 x_arrays2 m_listed m_fed m_hasSnapshot m_above m_below m_list m_text m_kindOf m_nodeAbove m_nodeBelow m_length m_cell m_savedAbove m_savedBelow m_savedKind m_savedNodeAbove m_savedNodeBelow PL kk tt bb v1 v2 v3 v4 hI
  obtain ⟨hReg, hList, hText, hArr, hNode, hHs, hHs01, hSnap⟩ := id hI
  unfold w7_combine w8_combine
  by_cases h1 : isR v1
  rotate_left
  · simp only [r7n h1, r8n h1, b01, b00, false_implies, true_implies, not_true_eq_false, not_false_eq_true, true_and, and_true]; exact hI
  by_cases h2 : isR v2
  rotate_left
  · simp only [r7y h1, r8y h1, r7n h2, r8n h2, b01, b00, false_implies, true_implies, not_true_eq_false, not_false_eq_true, true_and, and_true]; exact hI
  by_cases h3 : isR v3
  rotate_left
  · simp only [r7y h1, r8y h1, r7y h2, r8y h2, r7n h3, r8n h3, b01, b00, false_implies, true_implies, not_true_eq_false, not_false_eq_true, true_and, and_true]; exact hI
  by_cases h4 : 0 ≤ v4.toInt ∧ v4.toInt ≤ 4
  rotate_left
  · have a4 : ¬ ((0 : Int32).toInt ≤ v4.toInt ∧ v4.toInt ≤ (4 : Int32).toInt) := h4
    have c4 : ¬ ((0 : Int64).toInt ≤ v4.toInt64.toInt ∧ v4.toInt64.toInt ≤ (4 : Int64).toInt) := by rw [t64]; exact h4
    simp only [r7y h1, r8y h1, r7y h2, r8y h2, r7y h3, r8y h3, n7n a4, w8n c4, b01, b00, false_implies, true_implies, not_true_eq_false, not_false_eq_true, true_and, and_true]; exact hI
  have a4 : (0 : Int32).toInt ≤ v4.toInt ∧ v4.toInt ≤ (4 : Int32).toInt := h4
  have c4 : (0 : Int64).toInt ≤ v4.toInt64.toInt ∧ v4.toInt64.toInt ≤ (4 : Int64).toInt := by rw [t64]; exact h4
  simp only [r7y h1, r8y h1, r7y h2, r8y h2, r7y h3, r8y h3, n7y a4, w8y c4, b01, b00, false_implies, true_implies, not_true_eq_false, not_false_eq_true, true_and, and_true]
  obtain ⟨p1, p2, p3, p4⟩ := hReg.pos h2.lt
  obtain ⟨q1, q2, q3, q4⟩ := hReg.pos h3.lt
  rw [(hReg _ h2.lt).1, (hReg _ h2.lt).2.1, (hReg _ h3.lt).1, (hReg _ h3.lt).2.1]
  have m1 := m_pos p1 p2 q1 q2
  have m2 := m_pos p1 p2 q3 q4
  have m3 := m_pos p3 p4 q1 q2
  have m4 := m_pos p3 p4 q3 q4
  have m3' : (m_above v3.toNatClampNeg).toInt * (m_below v2.toNatClampNeg).toInt = (m_below v2.toNatClampNeg).toInt * (m_above v3.toNatClampNeg).toInt := Int.mul_comm _ _
  refine ⟨h2.vin, fun P eP => ⟨h2.vin, fun Q eQ => ⟨h3.vin, fun R eR => ⟨h3.vin, fun S eS => ?_⟩⟩⟩⟩
  have tP : P.toInt = (m_above v2.toNatClampNeg).toInt := by rw [eP, t64]
  have tQ : Q.toInt = (m_below v2.toNatClampNeg).toInt := by rw [eQ, t64]
  have tR : R.toInt = (m_above v3.toNatClampNeg).toInt := by rw [eR, t64]
  have tS : S.toInt = (m_below v3.toNatClampNeg).toInt := by rw [eS, t64]
  have ePS : (P * S).toInt = P.toInt * S.toInt := l_mul (by rw [tP, tS]; omega) (by rw [tP, tS]; omega)
  have eRQ : (R * Q).toInt = R.toInt * Q.toInt := l_mul (by rw [tR, tQ]; omega) (by rw [tR, tQ]; omega)
  have eQS : (Q * S).toInt = Q.toInt * S.toInt := l_mul (by rw [tQ, tS]; omega) (by rw [tQ, tS]; omega)
  have ePR : (P * R).toInt = P.toInt * R.toInt := l_mul (by rw [tP, tR]; omega) (by rw [tP, tR]; omega)
  have eQR : (Q * R).toInt = Q.toInt * R.toInt := l_mul (by rw [tQ, tR]; omega) (by rw [tQ, tR]; omega)
  rw [← tP, ← tS] at m2
  rw [← tQ, ← tR] at m3 m3'
  rw [← tQ, ← tS] at m4
  rw [← tP, ← tR] at m1
  have eA : (P * S + R * Q).toInt = P.toInt * S.toInt + R.toInt * Q.toInt := by rw [l_add (by rw [ePS, eRQ]; omega) (by rw [ePS, eRQ]; omega), ePS, eRQ]
  have eD : (P * S - R * Q).toInt = P.toInt * S.toInt - R.toInt * Q.toInt := by rw [l_sub (by rw [ePS, eRQ]; omega) (by rw [ePS, eRQ]; omega), ePS, eRQ]
  have eP2 : (P + R).toInt = P.toInt + R.toInt := l_add (by omega) (by omega)
  have eQ2 : (Q + S).toInt = Q.toInt + S.toInt := l_add (by omega) (by omega)
  have T : ∀ {X : Int64 → Int64 → Int64 → Int64 → Prop}, X P Q R S → (vp_in v2 8 ∧ (∀ x46 : Int64, x46 = (m_above v2.toNatClampNeg).toInt64 → (vp_in v2 8 ∧ (∀ x55 : Int64, x55 = (m_below v2.toNatClampNeg).toInt64 → (vp_in v3 8 ∧ (∀ x64 : Int64, x64 = (m_above v3.toNatClampNeg).toInt64 → (vp_in v3 8 ∧ (∀ x73 : Int64, x73 = (m_below v3.toNatClampNeg).toInt64 → X x46 x55 x64 x73)))))))) := fun {X} hX => by
    refine ⟨h2.vin, fun P2 hP2 => ⟨h2.vin, fun Q2 hQ2 => ⟨h3.vin, fun R2 hR2 => ⟨h3.vin, fun S2 hS2 => ?_⟩⟩⟩⟩
    rw [hP2.trans eP.symm, hQ2.trans eQ.symm, hR2.trans eR.symm, hS2.trans eS.symm]
    exact hX
  rcases (show v4.toInt = 0 ∨ v4.toInt = 1 ∨ v4.toInt = 2 ∨ v4.toInt = 3 ∨ v4.toInt = 4 by omega) with k | k | k | k | k
  · obtain rfl : v4 = 0 := i_ext k
    refine ⟨fun h => absurd h (by decide), fun _ => ?_, fun h => absurd h (by decide), fun h => absurd h (by decide), fun h => absurd h (by decide)⟩
    have p5 : 0 < (P * S + R * Q).toInt := by rw [eA]; omega
    have p6 : 0 < (Q * S).toInt := by rw [eQS]; omega
    refine s7_store h1 p5 p6 (T ⟨fun h => absurd h (by decide), fun _ => ?_, fun h => absurd h (by decide), fun h => absurd h (by decide), fun h => absurd h (by decide)⟩)
    exact s8_put h1 p5 p6 ⟨rfl, hI.reg (hReg.store p5 p6)⟩
  · obtain rfl : v4 = 1 := i_ext k
    refine ⟨fun h => absurd h (by decide), fun h => absurd h (by decide), fun _ => ?_, fun h => absurd h (by decide), fun h => absurd h (by decide)⟩
    unfold w7_crossDifference
    have eC : (x_tops v2.toNatClampNeg).toInt64 * (x_bottoms v3.toNatClampNeg).toInt64 - (x_bottoms v2.toNatClampNeg).toInt64 * (x_tops v3.toNatClampNeg).toInt64 = P * S - Q * R := by
      rw [(hReg _ h2.lt).1, (hReg _ h2.lt).2.1, (hReg _ h3.lt).1, (hReg _ h3.lt).2.1, ← eP, ← eQ, ← eR, ← eS]
    rw [eC]
    refine ⟨h2.vin, h3.vin, h2.vin, h3.vin, ?_⟩
    have h0 : (0 : Int64).toInt = 0 := rfl
    have eD2 : (P * S - Q * R).toInt = P.toInt * S.toInt - R.toInt * Q.toInt := by rw [l_sub (by rw [ePS, eQR]; omega) (by rw [ePS, eQR]; omega), ePS, eQR]; omega
    have p6 : 0 < (Q * S).toInt := by rw [eQS]; omega
    refine ⟨fun q => ?_, fun q => ?_⟩ <;> rw [l_le, h0, eD2] at q
    · refine T ⟨fun h => absurd h (by decide), fun h => absurd h (by decide), fun _ => ?_, fun h => absurd h (by decide), fun h => absurd h (by decide)⟩
      rw [l_lt, ePS, eRQ]
      exact ⟨fun h => absurd h (by omega), fun _ => hI⟩
    · have p5 : 0 < (P * S - Q * R).toInt := by rw [eD2]; omega
      have p5' : 0 < (P * S - R * Q).toInt := by rw [eD]; omega
      refine s7_store h1 p5 p6 (T ⟨fun h => absurd h (by decide), fun h => absurd h (by decide), fun _ => ?_, fun h => absurd h (by decide), fun h => absurd h (by decide)⟩)
      rw [l_lt, ePS, eRQ]
      refine ⟨fun _ => ?_, fun h => absurd (by omega) h⟩
      refine s8_put h1 p5' p6 ?_
      rw [eD, ← eD2]
      exact ⟨rfl, hI.reg (hReg.store p5 p6)⟩
  · obtain rfl : v4 = 2 := i_ext k
    refine ⟨fun h => absurd h (by decide), fun h => absurd h (by decide), fun h => absurd h (by decide), fun _ => ?_, fun h => absurd h (by decide)⟩
    have p5 : 0 < (P * R).toInt := by rw [ePR]; omega
    have p6 : 0 < (Q * S).toInt := by rw [eQS]; omega
    refine s7_store h1 p5 p6 (T ⟨fun h => absurd h (by decide), fun h => absurd h (by decide), fun h => absurd h (by decide), fun _ => ?_, fun h => absurd h (by decide)⟩)
    exact s8_put h1 p5 p6 ⟨rfl, hI.reg (hReg.store p5 p6)⟩
  · obtain rfl : v4 = 3 := i_ext k
    refine ⟨fun h => absurd h (by decide), fun h => absurd h (by decide), fun h => absurd h (by decide), fun h => absurd h (by decide), fun _ => ?_⟩
    have p5 : 0 < (P * S).toInt := by rw [ePS]; omega
    have p6 : 0 < (Q * R).toInt := by rw [eQR]; omega
    refine s7_store h1 p5 p6 (T ⟨fun h => absurd h (by decide), fun h => absurd h (by decide), fun h => absurd h (by decide), fun h => absurd h (by decide), fun _ => ?_⟩)
    exact s8_put h1 p5 p6 ⟨rfl, hI.reg (hReg.store p5 p6)⟩
  · obtain rfl : v4 = 4 := i_ext k
    refine ⟨fun _ => ?_, fun h => absurd h (by decide), fun h => absurd h (by decide), fun h => absurd h (by decide), fun h => absurd h (by decide)⟩
    have p5 : 0 < (P + R).toInt := by rw [eP2]; omega
    have p6 : 0 < (Q + S).toInt := by rw [eQ2]; omega
    refine s7_store h1 p5 p6 (T ⟨fun _ => ?_, fun h => absurd h (by decide), fun h => absurd h (by decide), fun h => absurd h (by decide), fun h => absurd h (by decide)⟩)
    exact s8_put h1 p5 p6 ⟨rfl, hI.reg (hReg.store p5 p6)⟩
