/-! words -/
def letF (a b : Int32) (i : Int64) : Int32 := if ((i + 1) * a.toInt64) - (((i + 1) * a.toInt64) / (a + b).toInt64) * (a + b).toInt64 ≤ (i * a.toInt64) - ((i * a.toInt64) / (a + b).toInt64) * (a + b).toInt64 then 1 else 0
theorem sum_ab {a b : Int32} (h1 : 1 ≤ a.toInt ∧ a.toInt ≤ 1000000 ∧ 1 ≤ b.toInt ∧ b.toInt ≤ 1000000) : (a + b).toInt = a.toInt + b.toInt ∧ a.toInt64 + b.toInt64 = (a + b).toInt64 := by
  have e : (a + b).toInt = a.toInt + b.toInt := i_add (by omega) (by omega)
  exact ⟨e, l_ext (by rw [l_add (by rw [t64, t64]; omega) (by rw [t64, t64]; omega), t64, t64, t64, e])⟩
theorem s7_letter {a b : Int32} (h : 1 ≤ a.toInt ∧ a.toInt ≤ 1000000 ∧ 1 ≤ b.toInt ∧ b.toInt ≤ 1000000) {i : Int64} {post : Int32 → Prop} (hp : post (letF a b i)) : w7_letterOf a.toInt64 b.toInt64 i post := by
  obtain ⟨e1, e2⟩ := sum_ab h
  unfold w7_letterOf w7_remainder
  intro x hx
  rw [e2] at hx
  subst hx
  have h0 : (0 : Int64).toInt = 0 := rfl
  have hpos : 0 < (a + b).toInt64.toInt := by rw [t64]; omega
  have hle : ¬ (a + b).toInt64 ≤ 0 := fun q => by have := l_le.mp q; omega
  have hne : ¬ (a + b).toInt64 = 0 := fun q => by rw [q] at hpos; omega
  simp only [hle, hne, b01, b00, false_implies, true_implies, not_true_eq_false, not_false_eq_true, true_and, and_true]
  unfold letF at hp
  constructor
  · intro k; rw [if_pos k] at hp; exact hp
  · intro k; rw [if_neg k] at hp; exact hp
theorem s8_letter {a b : Int32} (h : 1 ≤ a.toInt ∧ a.toInt ≤ 1000000 ∧ 1 ≤ b.toInt ∧ b.toInt ≤ 1000000) {i : Int32} {post : Int32 → Prop} (hp : post (letF a b i.toInt64)) : w8_letterOf a b i post := by
  obtain ⟨e1, e2⟩ := sum_ab h
  unfold w8_letterOf
  intro x hx
  subst hx
  have h0 : (0 : Int64).toInt = 0 := rfl
  have hpos : 0 < (a + b).toInt64.toInt := by rw [t64]; omega
  have hne : ¬ (a + b).toInt64 = 0 := fun q => by rw [q] at hpos; omega
  refine ⟨hne, hne, ?_⟩
  unfold letF at hp
  constructor
  · intro k; rw [if_pos k] at hp; exact hp
  · intro k; rw [if_neg k] at hp; exact hp
theorem op_wordLetter : Op_wordLetter := by
  intro x_hasSnapshot x_termListSize x_textSize x_tops x_bottoms x_slots x_savedTops x_savedBottoms x_savedSlots x_termList x_text x_arraySizes x_arrays0 x_arrays1 x_arrays2 m_listed m_fed m_hasSnapshot m_above m_below m_list m_text m_kindOf m_nodeAbove m_nodeBelow m_length m_cell m_savedAbove m_savedBelow m_savedKind m_savedNodeAbove m_savedNodeBelow PL kk tt bb v1 v2 hI
  obtain ⟨hReg, hList, hText, hArr, hNode, hHs, hHs01, hSnap⟩ := id hI
  unfold w7_wordLetter w8_wordLetter w7_wordSize
  by_cases h1 : isR v1
  rotate_left
  · simp only [r7n h1, r8n h1, b01, b00, false_implies, true_implies, not_true_eq_false, not_false_eq_true, true_and, and_true]; exact hI
  simp only [r7y h1, r8y h1, b01, b00, false_implies, true_implies, not_true_eq_false, not_false_eq_true, true_and, and_true]
  have hp := hReg.pos h1.lt
  obtain ⟨g1, g2, -⟩ := hReg _ h1.lt
  rw [g1, g2]
  refine ⟨fun k => ⟨h1.vin, h1.vin, fun q => ⟨fun _ => ⟨h1.vin, h1.vin, fun _ => hI, fun z => absurd q z⟩, fun z => absurd k z⟩, fun q => ⟨h1.vin, h1.vin, ?_⟩⟩, fun k => ⟨fun q => absurd q k, fun _ => hI⟩⟩
  exact s7_letter hp ⟨fun _ => ⟨h1.vin, h1.vin, fun z => absurd z q, fun _ => ⟨h1.vin, h1.vin, s8_letter hp ⟨rfl, hI⟩⟩⟩, fun z => absurd k z⟩
theorem op_calkinWilfNext : Op_calkinWilfNext := by
  intro x_hasSnapshot x_termListSize x_textSize x_tops x_bottoms x_slots x_savedTops x_savedBottoms x_savedSlots x_termList x_text x_arraySizes x_arrays0 x_arrays1 x_arrays2 m_listed m_fed m_hasSnapshot m_above m_below m_list m_text m_kindOf m_nodeAbove m_nodeBelow m_length m_cell m_savedAbove m_savedBelow m_savedKind m_savedNodeAbove m_savedNodeBelow PL kk tt bb v1 v2 hI
  obtain ⟨hReg, hList, hText, hArr, hNode, hHs, hHs01, hSnap⟩ := id hI
  unfold w7_calkinWilfNext w8_calkinWilfNext
  by_cases h1 : isR v1
  rotate_left
  · simp only [r7n h1, r8n h1, b01, b00, false_implies, true_implies, not_true_eq_false, not_false_eq_true, true_and, and_true]; exact hI
  by_cases h2 : isR v2
  rotate_left
  · simp only [r7y h1, r8y h1, r7n h2, r8n h2, b01, b00, false_implies, true_implies, not_true_eq_false, not_false_eq_true, true_and, and_true]; exact hI
  simp only [r7y h1, r8y h1, r7y h2, r8y h2, b01, b00, false_implies, true_implies, not_true_eq_false, not_false_eq_true, true_and, and_true]
  have hp := hReg.pos h2.lt
  obtain ⟨g1, g2, -⟩ := hReg _ h2.lt
  rw [g1, g2]
  refine ⟨h2.vin, fun P eP => ⟨h2.vin, fun Q eQ => ?_⟩⟩
  have tP : P.toInt = (m_above v2.toNatClampNeg).toInt := by rw [eP, t64]
  have tQ : Q.toInt = (m_below v2.toNatClampNeg).toInt := by rw [eQ, t64]
  have h0 : (0 : Int64).toInt = 0 := rfl
  have l2 : (2 : Int64).toInt = 2 := rfl
  have hle : ¬ Q ≤ 0 := fun q => by have := l_le.mp q; omega
  have hne : ¬ Q = 0 := fun q => by have : Q.toInt = 0 := by rw [q]; rfl
                                    omega
  unfold w7_quotient
  simp only [hle, hne, b01, b00, false_implies, true_implies, not_true_eq_false, not_false_eq_true, true_and, and_true]
  have ed := l_div (a := P) (b := Q) (by omega) (by omega)
  have b1 : 0 ≤ P.toInt / Q.toInt := Int.ediv_nonneg (by omega) (by omega)
  have b2 : P.toInt / Q.toInt ≤ P.toInt := div_le_self' (by omega) (by omega)
  have b3 : P.toInt / Q.toInt * Q.toInt ≤ P.toInt := Int.ediv_mul_le _ (by omega)
  have b4 : P.toInt < (P.toInt / Q.toInt + 1) * Q.toInt := Int.lt_ediv_add_one_mul_self _ (by omega)
  rw [Int.add_mul, Int.one_mul] at b4
  have b5 : 0 ≤ P.toInt / Q.toInt * Q.toInt := Int.mul_nonneg b1 (by omega)
  have e1 : (2 * (P / Q)).toInt = 2 * (P.toInt / Q.toInt) := by rw [l_mul (by rw [l2, ed]; omega) (by rw [l2, ed]; omega), l2, ed]
  have a1 : 2 * (P.toInt / Q.toInt) * Q.toInt = 2 * (P.toInt / Q.toInt * Q.toInt) := Int.mul_assoc _ _ _
  have e2 : (2 * (P / Q) * Q).toInt = 2 * (P.toInt / Q.toInt * Q.toInt) := by rw [l_mul (by rw [e1, a1]; omega) (by rw [e1, a1]; omega), e1, a1]
  have e3 : (2 * (P / Q) * Q - P).toInt = 2 * (P.toInt / Q.toInt * Q.toInt) - P.toInt := by rw [l_sub (by rw [e2]; omega) (by rw [e2]; omega), e2]
  have e4 : (2 * (P / Q) * Q - P + Q).toInt = 2 * (P.toInt / Q.toInt * Q.toInt) - P.toInt + Q.toInt := by rw [l_add (by rw [e3]; omega) (by rw [e3]; omega), e3]
  have p5 : 0 < Q.toInt := by omega
  have p6 : 0 < (2 * (P / Q) * Q - P + Q).toInt := by rw [e4]; omega
  refine s7_store h1 p5 p6 ⟨h2.vin, fun P2 hP2 => ⟨h2.vin, fun Q2 hQ2 => ?_⟩⟩
  rw [hP2.trans eP.symm, hQ2.trans eQ.symm]
  exact ⟨hne, s8_put h1 p5 p6 ⟨rfl, hI.reg (hReg.store p5 p6)⟩⟩
