def isA (v : Int32) : Prop := 0 ≤ v.toInt ∧ v.toInt < 3
def isS (v : Int32) : Prop := 0 ≤ v.toInt ∧ v.toInt < 5
theorem isA.vin {v : Int32} (h : isA v) : vp_in v 3 := CSternBrocotExplorerLaw_law_r4187_2579a8.vin h.1 h.2
theorem isA.lt {v : Int32} (h : isA v) : v.toNatClampNeg < 3 := by have := clamp h.1; have := h.2; omega
theorem isS.vin {v : Int32} (h : isS v) : vp_in v 5 := CSternBrocotExplorerLaw_law_r4187_2579a8.vin h.1 h.2
theorem isS.lt {v : Int32} (h : isS v) : v.toNatClampNeg < 5 := by have := clamp h.1; have := h.2; omega
theorem a7y {v : Int32} (h : isA v) (post : Int32 → Prop) : w7_isArray v post = post 1 := by
  have h8 : (3 : Int32).toInt = 3 := rfl
  have h0 : (0 : Int32).toInt = 0 := rfl
  unfold isA at h
  unfold w7_isArray
  rw [i_lt, i_le, h8, h0]
  have a : ¬ v.toInt < 0 := by omega
  have b : ¬ (3 : Int) ≤ v.toInt := by omega
  simp only [a, b, false_implies, true_and, not_false_eq_true, true_implies]
theorem a7n {v : Int32} (h : ¬ isA v) (post : Int32 → Prop) : w7_isArray v post = post 0 := by
  have h8 : (3 : Int32).toInt = 3 := rfl
  have h0 : (0 : Int32).toInt = 0 := rfl
  unfold isA at h
  unfold w7_isArray
  rw [i_lt, i_le, h8, h0]
  by_cases a : v.toInt < 0
  · simp only [a, true_implies, not_true_eq_false, false_implies, and_true]
  · have b : (3 : Int) ≤ v.toInt := by omega
    simp only [a, b, false_implies, true_and, not_false_eq_true, true_implies, not_true_eq_false, and_true]
theorem s7y {v : Int32} (h : isS v) (post : Int32 → Prop) : w7_isSlot v post = post 1 := by
  have h8 : (5 : Int32).toInt = 5 := rfl
  have h0 : (0 : Int32).toInt = 0 := rfl
  unfold isS at h
  unfold w7_isSlot
  rw [i_lt, i_le, h8, h0]
  have a : ¬ v.toInt < 0 := by omega
  have b : ¬ (5 : Int) ≤ v.toInt := by omega
  simp only [a, b, false_implies, true_and, not_false_eq_true, true_implies]
theorem s7n {v : Int32} (h : ¬ isS v) (post : Int32 → Prop) : w7_isSlot v post = post 0 := by
  have h8 : (5 : Int32).toInt = 5 := rfl
  have h0 : (0 : Int32).toInt = 0 := rfl
  unfold isS at h
  unfold w7_isSlot
  rw [i_lt, i_le, h8, h0]
  by_cases a : v.toInt < 0
  · simp only [a, true_implies, not_true_eq_false, false_implies, and_true]
  · have b : (5 : Int) ≤ v.toInt := by omega
    simp only [a, b, false_implies, true_and, not_false_eq_true, true_implies, not_true_eq_false, and_true]
theorem a8y {v : Int32} (h : isA v) (post : Int32 → Prop) : w8_isArray v post = post 1 := by
  unfold w8_isArray
  exact w8y (by rw [t64]; exact ⟨h.1, by have := h.2; show v.toInt ≤ 2; omega⟩) post
theorem a8n {v : Int32} (h : ¬ isA v) (post : Int32 → Prop) : w8_isArray v post = post 0 := by
  unfold w8_isArray
  exact w8n (by rw [t64]; intro q; exact h ⟨q.1, by have h2 : v.toInt ≤ 2 := q.2; omega⟩) post
theorem s8y {v : Int32} (h : isS v) (post : Int32 → Prop) : w8_isSlot v post = post 1 := by
  unfold w8_isSlot
  exact w8y (by rw [t64]; exact ⟨h.1, by have := h.2; show v.toInt ≤ 4; omega⟩) post
theorem s8n {v : Int32} (h : ¬ isS v) (post : Int32 → Prop) : w8_isSlot v post = post 0 := by
  unfold w8_isSlot
  exact w8n (by rw [t64]; intro q; exact h ⟨q.1, by have h2 : v.toInt ≤ 4 := q.2; omega⟩) post
/-- isIn and within on the same bounds -/
theorem nin_y {a lo hi : Int32} {lo' hi' : Int64} (h : lo.toInt ≤ a.toInt ∧ a.toInt ≤ hi.toInt) (e1 : lo'.toInt = lo.toInt) (e2 : hi'.toInt = hi.toInt) (p q : Int32 → Prop) : w7_isIn a lo hi p = p 1 ∧ w8_within a.toInt64 lo' hi' q = q 1 := ⟨n7y h p, w8y (by rw [t64, e1, e2]; exact h) q⟩
theorem nin_n {a lo hi : Int32} {lo' hi' : Int64} (h : ¬ (lo.toInt ≤ a.toInt ∧ a.toInt ≤ hi.toInt)) (e1 : lo'.toInt = lo.toInt) (e2 : hi'.toInt = hi.toInt) (p q : Int32 → Prop) : w7_isIn a lo hi p = p 0 ∧ w8_within a.toInt64 lo' hi' q = q 0 := ⟨n7n h p, w8n (by rw [t64, e1, e2]; exact h) q⟩
theorem op_clearTerms : Op_clearTerms := by
  intro x_hasSnapshot x_termListSize x_textSize x_tops x_bottoms x_slots x_savedTops x_savedBottoms x_savedSlots x_termList x_text x_arraySizes x_arrays0 x_arrays1 x_arrays2 m_listed m_fed m_hasSnapshot m_above m_below m_list m_text m_kindOf m_nodeAbove m_nodeBelow m_length m_cell m_savedAbove m_savedBelow m_savedKind m_savedNodeAbove m_savedNodeBelow PL kk tt bb hI
  obtain ⟨hReg, hList, hText, hArr, hNode, hHs, hHs01, hSnap⟩ := id hI
  unfold w7_clearTerms w8_clearTerms
  exact ⟨hList.1, hReg, ⟨rfl, by decide, by decide, fun i hi => absurd hi (by show ¬ (i : Int) < 0; omega)⟩, hText, hArr, hNode, hHs, hHs01, hSnap⟩
theorem op_discardText : Op_discardText := by
  intro x_hasSnapshot x_termListSize x_textSize x_tops x_bottoms x_slots x_savedTops x_savedBottoms x_savedSlots x_termList x_text x_arraySizes x_arrays0 x_arrays1 x_arrays2 m_listed m_fed m_hasSnapshot m_above m_below m_list m_text m_kindOf m_nodeAbove m_nodeBelow m_length m_cell m_savedAbove m_savedBelow m_savedKind m_savedNodeAbove m_savedNodeBelow PL kk tt bb hI
  obtain ⟨hReg, hList, hText, hArr, hNode, hHs, hHs01, hSnap⟩ := id hI
  unfold w7_discardText w8_discardText
  exact ⟨hText.1, hReg, hList, ⟨rfl, by decide, by decide, fun i hi => absurd hi (by show ¬ (i : Int) < 0; omega)⟩, hArr, hNode, hHs, hHs01, hSnap⟩
theorem op_pushTerm : Op_pushTerm := by
  intro x_hasSnapshot x_termListSize x_textSize x_tops x_bottoms x_slots x_savedTops x_savedBottoms x_savedSlots x_termList x_text x_arraySizes x_arrays0 x_arrays1 x_arrays2 m_listed m_fed m_hasSnapshot m_above m_below m_list m_text m_kindOf m_nodeAbove m_nodeBelow m_length m_cell m_savedAbove m_savedBelow m_savedKind m_savedNodeAbove m_savedNodeBelow PL kk tt bb v1 hI
  obtain ⟨hReg, hList, hText, hArr, hNode, hHs, hHs01, hSnap⟩ := id hI
  unfold w7_pushTerm w8_pushTerm
  have l0 : (0 : Int32).toInt = 0 := rfl
  have l20 : (20 : Int32).toInt = 20 := rfl
  have l1 : (1 : Int32).toInt = 1 := rfl
  by_cases h1 : 0 ≤ v1.toInt ∧ v1.toInt ≤ 1000000
  rotate_left
  · simp only [n7n (lo := 0) (hi := 1000000) h1, w8n (a := v1.toInt64) (lo := 0) (hi := 1000000) (by rw [t64]; exact h1), b01, b00, false_implies, true_implies, not_true_eq_false, not_false_eq_true, true_and, and_true]; exact hI
  simp only [n7y (lo := 0) (hi := 1000000) h1, w8y (a := v1.toInt64) (lo := 0) (hi := 1000000) (by rw [t64]; exact h1), b01, b00, false_implies, true_implies, not_true_eq_false, not_false_eq_true, true_and, and_true]
  obtain ⟨e1, e2, e3, e4⟩ := id hList
  rw [e1]
  by_cases hf : m_listed.toInt < 20
  · have c1 : m_listed < (20 : Int32) := i_lt.mpr hf
    have c2 : ¬ m_listed = (20 : Int32) := fun q => by rw [q] at hf; omega
    simp only [c1, c2, b01, b00, false_implies, true_implies, not_true_eq_false, not_false_eq_true, true_and, and_true]
    refine ⟨vin e2 hf, fun x ex => ⟨vin e2 hf, fun y ey => ?_⟩⟩
    have hx : x.toInt = m_listed.toInt + 1 := by rw [ex, i_add (by omega) (by omega), l1]
    refine ⟨ex.trans ey.symm, hReg, ⟨ex.trans ey.symm, by rw [ey.trans ex.symm]; omega, by rw [ey.trans ex.symm]; omega, fun i hi => ?_⟩, hText, hArr, hNode, hHs, hHs01, hSnap⟩
    rw [ey.trans ex.symm] at hi
    have hc := clamp e2
    by_cases hk : i = m_listed.toNatClampNeg
    · subst hk
      simp only [upd_eq]
      exact ⟨trivial, h1⟩
    · simp only [upd_ne _ _ hk]
      exact e4 i (by omega)
  · have c1 : ¬ m_listed < (20 : Int32) := fun q => hf (i_lt.mp q)
    have c2 : m_listed = (20 : Int32) := i_ext (by omega)
    simp only [eq_false c1, eq_true c2, b01, b00, false_implies, true_implies, not_true_eq_false, not_false_eq_true, true_and, and_true]
    exact ⟨hReg, ⟨rfl, e2, e3, e4⟩, hText, hArr, hNode, hHs, hHs01, hSnap⟩
theorem op_feed : Op_feed := by
  intro x_hasSnapshot x_termListSize x_textSize x_tops x_bottoms x_slots x_savedTops x_savedBottoms x_savedSlots x_termList x_text x_arraySizes x_arrays0 x_arrays1 x_arrays2 m_listed m_fed m_hasSnapshot m_above m_below m_list m_text m_kindOf m_nodeAbove m_nodeBelow m_length m_cell m_savedAbove m_savedBelow m_savedKind m_savedNodeAbove m_savedNodeBelow PL kk tt bb v1 hI
  obtain ⟨hReg, hList, hText, hArr, hNode, hHs, hHs01, hSnap⟩ := id hI
  unfold w7_feed w8_feed
  have l0 : (0 : Int32).toInt = 0 := rfl
  have l20 : (60 : Int32).toInt = 60 := rfl
  have l1 : (1 : Int32).toInt = 1 := rfl
  by_cases h1 : 32 ≤ v1.toInt ∧ v1.toInt ≤ 126
  rotate_left
  · simp only [n7n (lo := 32) (hi := 126) h1, w8n (a := v1.toInt64) (lo := 32) (hi := 126) (by rw [t64]; exact h1), b01, b00, false_implies, true_implies, not_true_eq_false, not_false_eq_true, true_and, and_true]; exact hI
  simp only [n7y (lo := 32) (hi := 126) h1, w8y (a := v1.toInt64) (lo := 32) (hi := 126) (by rw [t64]; exact h1), b01, b00, false_implies, true_implies, not_true_eq_false, not_false_eq_true, true_and, and_true]
  obtain ⟨e1, e2, e3, e4⟩ := id hText
  rw [e1]
  by_cases hf : m_fed.toInt < 60
  · have c1 : m_fed < (60 : Int32) := i_lt.mpr hf
    have c2 : ¬ m_fed = (60 : Int32) := fun q => by rw [q] at hf; omega
    simp only [c1, c2, b01, b00, false_implies, true_implies, not_true_eq_false, not_false_eq_true, true_and, and_true]
    refine ⟨vin e2 hf, fun x ex => ⟨vin e2 hf, fun y ey => ?_⟩⟩
    have hx : x.toInt = m_fed.toInt + 1 := by rw [ex, i_add (by omega) (by omega), l1]
    refine ⟨ex.trans ey.symm, hReg, hList, ⟨ex.trans ey.symm, by rw [ey.trans ex.symm]; omega, by rw [ey.trans ex.symm]; omega, fun i hi => ?_⟩, hArr, hNode, hHs, hHs01, hSnap⟩
    rw [ey.trans ex.symm] at hi
    have hc := clamp e2
    by_cases hk : i = m_fed.toNatClampNeg
    · subst hk
      simp only [upd_eq]
      exact ⟨trivial, h1⟩
    · simp only [upd_ne _ _ hk]
      exact e4 i (by omega)
  · have c1 : ¬ m_fed < (60 : Int32) := fun q => hf (i_lt.mp q)
    have c2 : m_fed = (60 : Int32) := i_ext (by omega)
    simp only [eq_false c1, eq_true c2, b01, b00, false_implies, true_implies, not_true_eq_false, not_false_eq_true, true_and, and_true]
    exact ⟨hReg, hList, ⟨rfl, e2, e3, e4⟩, hArr, hNode, hHs, hHs01, hSnap⟩
theorem nCl_0 : nCl 0 = 3 := rfl
theorem nCl_1 : nCl 1 = 0 := rfl
theorem nCl_2 : nCl 2 = 6 := rfl
theorem nCl_3 : nCl 3 = 2 := rfl
theorem nCl_4 : nCl 4 = 5 := rfl
theorem kind5 {k : Int32} (h1 : 0 ≤ k.toInt) (h2 : k.toInt ≤ 4) : k = 0 ∨ k = 1 ∨ k = 2 ∨ k = 3 ∨ k = 4 := by
  rcases (show k.toInt = 0 ∨ k.toInt = 1 ∨ k.toInt = 2 ∨ k.toInt = 3 ∨ k.toInt = 4 by omega) with h | h | h | h | h
  · exact Or.inl (i_ext h)
  · exact Or.inr (Or.inl (i_ext h))
  · exact Or.inr (Or.inr (Or.inl (i_ext h)))
  · exact Or.inr (Or.inr (Or.inr (Or.inl (i_ext h))))
  · exact Or.inr (Or.inr (Or.inr (Or.inr (i_ext h))))
theorem op_castNode : Op_castNode := by
  intro x_hasSnapshot x_termListSize x_textSize x_tops x_bottoms x_slots x_savedTops x_savedBottoms x_savedSlots x_termList x_text x_arraySizes x_arrays0 x_arrays1 x_arrays2 m_listed m_fed m_hasSnapshot m_above m_below m_list m_text m_kindOf m_nodeAbove m_nodeBelow m_length m_cell m_savedAbove m_savedBelow m_savedKind m_savedNodeAbove m_savedNodeBelow PL kk tt bb v1 v2 hI
  obtain ⟨hReg, hList, hText, hArr, hNode, hHs, hHs01, hSnap⟩ := id hI
  unfold w7_castNode w8_castNode
  by_cases h1 : isS v1
  rotate_left
  · simp only [s7n h1, s8n h1, b01, b00, false_implies, true_implies, not_true_eq_false, not_false_eq_true, true_and, and_true]; exact hI
  by_cases h2 : 0 ≤ v2.toInt ∧ v2.toInt ≤ 4
  rotate_left
  · simp only [s7y h1, s8y h1, n7n (lo := 0) (hi := 4) h2, w8n (a := v2.toInt64) (lo := 0) (hi := 4) (by rw [t64]; exact h2), b01, b00, false_implies, true_implies, not_true_eq_false, not_false_eq_true, true_and, and_true]; exact hI
  simp only [s7y h1, s8y h1, n7y (lo := 0) (hi := 4) h2, w8y (a := v2.toInt64) (lo := 0) (hi := 4) (by rw [t64]; exact h2), b01, b00, false_implies, true_implies, not_true_eq_false, not_false_eq_true, true_and, and_true]
  have h0 : (0 : Int32).toInt = 0 := rfl
  rcases hNode _ h1.lt with ⟨n1, n2⟩ | ⟨a, n1, n2, n3, n4, n5, n6, n7⟩
  · refine ⟨h1.vin, fun _ => ⟨h1.vin, fun x ex => ?_⟩, fun a ha => ?_⟩
    · rw [n2] at ex
      subst ex
      exact ⟨fun h => absurd h (by decide), fun _ => hI⟩
    · rw [n1] at ha; cases ha
  · refine ⟨h1.vin, fun q => ?_, fun a9 ha => ?_⟩
    · rw [n2] at q; cases q
    rw [n2] at ha
    obtain rfl : a = a9 := Option.some.inj ha
    refine ⟨n1, ?_⟩
    have W : ∀ post : Int32 → Prop, (kO (nCl (kk a)) v2 = 0 → post (-12)) → (¬ kO (nCl (kk a)) v2 = 0 → post (kk a)) → (vp_in v1 5 ∧ (∀ x28 : Int32, x28 = (m_kindOf v1.toNatClampNeg) → ((0 ≤ x28 → ((v2 = 0 → post x28) ∧ (¬ v2 = 0 → ((x28 = v2 → post x28) ∧ (¬ x28 = v2 → ((¬ v2 = (1 : Int32) → (w8_castNode_J60 v2 x28 post)) ∧ (v2 = (1 : Int32) → ((x28 = (2 : Int32) → post x28) ∧ (¬ x28 = (2 : Int32) → ((x28 = (3 : Int32) → post x28) ∧ (¬ x28 = (3 : Int32) → (w8_castNode_J60 v2 x28 post)))))))))))) ∧ (¬ 0 ≤ x28 → (post (-11 : Int32)))))) := by
      intro post p1 p2
      refine ⟨h1.vin, fun x ex => ?_⟩
      rw [n3] at ex
      subst ex
      refine ⟨fun _ => ?_, fun h => absurd (i_le.mpr (by omega)) h⟩
      unfold w8_castNode_J60
      rcases kind5 n6 n7 with k | k | k | k | k <;> rcases kind5 h2.1 h2.2 with q | q | q | q | q <;> rw [k] at p1 p2 ⊢ <;> rw [q] at p1 p2 ⊢ <;> simp (decide := true) only [b01, b00, false_implies, true_implies, not_true_eq_false, not_false_eq_true, true_and, and_true, nCl_0, nCl_1, nCl_2, nCl_3, nCl_4] <;> first | exact p1 (by decide) | exact p2 (by decide) | trivial
    refine ⟨fun k => W _ (fun _ => ⟨rfl, hI⟩) (fun q => absurd k q), fun k => W _ (fun q => absurd q k) (fun _ => ⟨rfl, hI⟩)⟩
