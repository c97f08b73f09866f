/-! goDown, and the calls on bounds -/
theorem s7_st {f g : Nat → Int32} {v : Int32} {P Q : Int64} {p q : Int} (hv : isR v) (eP : P.toInt = p) (eQ : Q.toInt = q) (hP : 0 < p) (hQ : 0 < q) {post : Int32 → (Nat → Int32) → (Nat → Int32) → Prop} (h : post (stR p q) (stF f v p q p) (stF g v p q q)) : w7_store f g v P Q post := by
  subst eP; subst eQ; exact s7_store hv hP hQ h
theorem s8_st {f g : Nat → Int32} {v : Int32} {P Q : Int64} {p q : Int} (hv : isR v) (eP : P.toInt = p) (eQ : Q.toInt = q) (hP : 0 < p) (hQ : 0 < q) {post : Int32 → (Nat → Int32) → (Nat → Int32) → Prop} (h : post (stR p q) (stF f v p q p) (stF g v p q q)) : w8_put f g v P Q post := by
  subst eP; subst eQ; exact s8_put hv hP hQ h
theorem s00 (a b : Nat) : sLA a b 0 0 = 0 ∧ sLB a b 0 0 = 1 ∧ sRA a b 0 0 = 1 ∧ sRB a b 0 0 = 0 := ⟨rfl, rfl, rfl, rfl⟩
theorem s10 {a b : Nat} (h : tm a b 0 = 0) : sLA a b 1 0 = 0 ∧ sLB a b 1 0 = 1 ∧ sRA a b 1 0 = 1 ∧ sRB a b 1 0 = 0 := by
  have := s_next a b 0
  rw [h] at this
  obtain ⟨h1, h2, h3, h4⟩ := this
  obtain ⟨g1, g2, g3, g4⟩ := s00 a b
  exact ⟨by rw [← h1, g1], by rw [← h2, g2], by rw [← h3, g3], by rw [← h4, g4]⟩
theorem s8_goDown {a b N : Nat} (h : CF a b N) {run ri : Nat → Int32} (hR : IsR a b N run ri) {v : Int32} {left : Nat} (hv : v.toInt = (left : Int)) (hl : left ≤ dep a b N) {x1 x2 x3 x4 : Int64} {post : Int64 → Int64 → Int64 → Int64 → Prop} (hp : ∀ la lb ra rb : Int64, gdP a b (cutF (rr a b N) N 0 left) la lb ra rb → post la lb ra rb) : w8_goDown (Int32.ofNat (N - zz a b N)) x1 x2 x3 x4 run ri v post := by
  have hN := h.2.2.1
  have hN1 := h.2.1
  have l0 : (0 : Int32).toInt = 0 := rfl
  have ht : (Int32.ofNat (N - zz a b N)).toInt = ((N - zz a b N : Nat) : Int) := n_toInt (by omega)
  obtain ⟨g1, g2, g3, g4⟩ := s00 a b
  unfold w8_goDown w8_toRoot
  rcases zz_cases h with ⟨z, z0⟩ | ⟨z, z0⟩
  · refine ⟨N + 1, gd8_L h hR ht N 0 left v 0 0 1 1 0 (by omega) (by omega) hv (by rw [z]; rfl) (by omega) ?_ (by rw [g1]; rfl) (by rw [g2]; rfl) (by rw [g3]; rfl) (by rw [g4]; rfl) hN1 hp⟩
    simp only [Nat.zero_add]
    exact hl
  · by_cases q : N = 1
    · refine ⟨1, ?_⟩
      rw [w8_goDown_L8]
      have : left = 0 := by
        have e : dep a b N = rr a b N 0 := by
          subst q; unfold dep; exact Nat.zero_add _
        omega
      subst this
      refine ⟨fun _ => hp _ _ _ _ ?_, fun y => absurd (i_le.mpr (by omega)) y⟩
      obtain ⟨n, rfl⟩ : ∃ n, N = n + 1 := ⟨N - 1, by omega⟩
      rw [cutF, if_pos (Nat.zero_le _)]
      exact ⟨by rw [g1]; rfl, by rw [g2]; rfl, by rw [g3]; rfl, by rw [g4]; rfl⟩
    · have ht0 : tm a b 0 = 0 := by
        have : rr a b N 0 = tm a b 0 := if_neg (by omega)
        omega
      obtain ⟨k1, k2, k3, k4⟩ := s10 ht0
      have hs : left ≤ sumN (fun i => rr a b N (1 + i)) (N - 1) := by
        have e := sumN_shift (rr a b N) (N - 1)
        rw [show N - 1 + 1 = N by omega, z0] at e
        have e2 : (fun i => rr a b N (1 + i)) = (fun i => rr a b N (i + 1)) := by
          funext i; rw [Nat.add_comm]
        rw [e2]
        unfold dep at hl; omega
      refine ⟨N - 1 + 1, gd8_L h hR ht (N - 1) 1 left v 0 0 1 1 0 (by omega) (by omega) hv (by rw [z]; rfl) (by omega) hs (by rw [k1]; rfl) (by rw [k2]; rfl) (by rw [k3]; rfl) (by rw [k4]; rfl) (by omega) (fun la lb ra rb hg => hp _ _ _ _ ?_)⟩
      obtain ⟨n, rfl⟩ : ∃ n, N = n + 2 := ⟨N - 2, by omega⟩
      rw [cutF]
      by_cases w : left = 0
      · subst w
        rw [if_pos (Nat.zero_le _)]
        rw [show n + 2 - 1 = n + 1 by omega, cutF, if_pos (Nat.zero_le _)] at hg
        obtain ⟨h1, h2, h3, h4⟩ := hg
        exact ⟨by rw [h1, k1, g1], by rw [h2, k2, g2], by rw [h3, k3, g3], by rw [h4, k4, g4]⟩
      · rw [if_neg (by omega), z0, Nat.sub_zero]
        exact hg
theorem cutF_full {f : Nat → Nat} : ∀ (n k : Nat), (∀ j, k < j → j < k + n + 1 → 1 ≤ f j) → cutF f (n + 1) k (sumN (fun i => f (k + i)) (n + 1)) = some (k + n, f (k + n)) := by
  intro n
  induction n with
  | zero =>
    intro k _
    have e : sumN (fun i => f (k + i)) (0 + 1) = f k := by
      show 0 + f (k + 0) = f k
      rw [Nat.zero_add, Nat.add_zero]
    rw [e, cutF, if_pos (Nat.le_refl _)]; rfl
  | succ n ih =>
    intro k h
    have hsh : sumN (fun i => f (k + i)) (n + 1 + 1) = f k + sumN (fun i => f (k + 1 + i)) (n + 1) := by
      rw [sumN_shift]
      have e : (fun i => f (k + (i + 1))) = (fun i => f (k + 1 + i)) := by
        funext i; rw [show k + (i + 1) = k + 1 + i by omega]
      rw [e]; rfl
    have h1 := ih (k + 1) (fun j h2 h3 => h j (by omega) (by omega))
    have hpos : 1 ≤ sumN (fun i => f (k + 1 + i)) (n + 1) := by
      rw [sumN_shift]
      have := h (k + 1) (by omega) (by omega)
      simp only [Nat.add_zero]; omega
    rw [hsh, cutF, if_neg (by omega), Nat.add_sub_cancel_left, h1, show k + 1 + n = k + (n + 1) by omega]
theorem cut_dep {a b N : Nat} (h : CF a b N) : cutF (rr a b N) N 0 (dep a b N) = some (N - 1, rr a b N (N - 1)) := by
  obtain ⟨n, rfl⟩ : ∃ n, N = n + 1 := ⟨N - 1, by have := h.2.1; omega⟩
  have := cutF_full (f := rr a b (n + 1)) n 0 (fun j h1 h2 => rr_pos h h1 (by omega))
  simp only [Nat.zero_add] at this
  rw [show n + 1 - 1 = n from rfl]
  exact this
/-- the bounds of a / b, the model's way -/
theorem s8_bounds {a b N : Nat} (h : CF a b N) {run ri : Nat → Int32} (hR : IsR a b N run ri) {v : Int32} (hv : v.toInt = (dep a b N : Int)) {x1 x2 x3 x4 : Int64} {post : Int64 → Int64 → Int64 → Int64 → Prop} (hp : ∀ la lb ra rb : Int64, la.toInt = (sLA a b (N - 1) (rr a b N (N - 1)) : Int) → lb.toInt = (sLB a b (N - 1) (rr a b N (N - 1)) : Int) → ra.toInt = (sRA a b (N - 1) (rr a b N (N - 1)) : Int) → rb.toInt = (sRB a b (N - 1) (rr a b N (N - 1)) : Int) → post la lb ra rb) : w8_goDown (Int32.ofNat (N - zz a b N)) x1 x2 x3 x4 run ri v post := by
  refine s8_goDown h hR hv (Nat.le_refl _) (fun la lb ra rb hg => ?_)
  rw [cut_dep h] at hg
  exact hp la lb ra rb hg.1 hg.2.1 hg.2.2.1 hg.2.2.2
/-- the bounds add up to the fraction -/
theorem bounds_sum {a b N : Nat} (h : CF a b N) : sLA a b (N - 1) (rr a b N (N - 1)) + sRA a b (N - 1) (rr a b N (N - 1)) = a ∧ sLB a b (N - 1) (rr a b N (N - 1)) + sRB a b (N - 1) (rr a b N (N - 1)) = b := by
  obtain ⟨h1, h2⟩ := s_sum a b (N - 1) (rr a b N (N - 1))
  obtain ⟨_, h3, h4⟩ := rr_lastN h
  exact ⟨by rw [h1, h3], by rw [h2, h4]⟩
theorem side7 (v : Int32) : (0 ≤ v.toInt ∧ v.toInt ≤ 1) → ∀ post, w7_isIn v 0 1 post = post 1 := fun h post => n7y (lo := 0) (hi := 1) h post
theorem side7n (v : Int32) : ¬ (0 ≤ v.toInt ∧ v.toInt ≤ 1) → ∀ post, w7_isIn v 0 1 post = post 0 := fun h post => n7n (lo := 0) (hi := 1) h post
theorem side8 (v : Int32) : (0 ≤ v.toInt ∧ v.toInt ≤ 1) → ∀ post, w8_isSide v post = post 1 := fun h post => by
  unfold w8_isSide
  exact w8y (lo := 0) (hi := 1) (by rw [t64]; exact h) (fun r => post r)
theorem side8n (v : Int32) : ¬ (0 ≤ v.toInt ∧ v.toInt ≤ 1) → ∀ post, w8_isSide v post = post 0 := fun h post => by
  unfold w8_isSide
  exact w8n (lo := 0) (hi := 1) (by rw [t64]; exact h) (fun r => post r)
theorem boundTop_if (x y : Int64) (v : Int32) (post : Int64 → Prop) : w1_boundTop x y v post ↔ post (if v = 0 then x else y) := by
  unfold w1_boundTop
  by_cases q : v = 0
  · rw [if_pos q]; exact ⟨fun h => h.2 q, fun h => ⟨fun z => absurd q z, fun _ => h⟩⟩
  · rw [if_neg q]; exact ⟨fun h => h.1 q, fun h => ⟨fun _ => h, fun z => absurd z q⟩⟩
theorem boundBottom_if (x y : Int64) (v : Int32) (post : Int64 → Prop) : w1_boundBottom x y v post ↔ post (if v = 0 then x else y) := by
  unfold w1_boundBottom
  by_cases q : v = 0
  · rw [if_pos q]; exact ⟨fun h => h.2 q, fun h => ⟨fun z => absurd q z, fun _ => h⟩⟩
  · rw [if_neg q]; exact ⟨fun h => h.1 q, fun h => ⟨fun _ => h, fun z => absurd z q⟩⟩
theorem ite_t {v : Int32} {x y : Int64} {p q : Nat} (h1 : x.toInt = (p : Int)) (h2 : y.toInt = (q : Int)) : (if v = 0 then x else y).toInt = ((if v = 0 then p else q : Nat) : Int) := by
  split
  · exact h1
  · exact h2
theorem l_zero {x : Int64} {p : Nat} (h : x.toInt = (p : Int)) : x = 0 ↔ p = 0 := by
  have l0 : (0 : Int64).toInt = 0 := rfl
  constructor
  · intro q; rw [q, l0] at h; omega
  · intro q; exact l_ext (by omega)
theorem op_bound : Op_bound := by
  intro x_hasSnapshot x_termListSize x_textSize x_tops x_bottoms x_slots x_savedTops x_savedBottoms x_savedSlots x_termList x_text x_arraySizes x_E_size x_E_leftTop x_E_leftBottom x_E_rightTop x_E_rightBottom x_E_terms x_arrays0 x_arrays1 x_arrays2 m_terms m_runs m_leftAbove m_leftBelow m_rightAbove m_rightBelow m_listed m_fed m_hasSnapshot m_above m_below m_term m_run m_isRight m_list m_text m_kindOf m_nodeAbove m_nodeBelow m_length m_cell m_savedAbove m_savedBelow m_savedKind m_savedNodeAbove m_savedNodeBelow PL kk tt bb v1 v2 v3 hI
  obtain ⟨hReg, hList, hText, hArr, hNode, hHs, hHs01, hSnap⟩ := id hI
  unfold w7_bound w8_bound w7_expand
  by_cases h1 : isR v1
  rotate_left
  · simp only [r7n h1, r8n h1, b01, b00, false_implies, true_implies, not_true_eq_false, not_false_eq_true, true_and, and_true]; exact hI
  by_cases h2 : isR v2
  rotate_left
  · simp only [r7y h1, r8y h1, r7n h2, r8n h2, b01, b00, false_implies, true_implies, not_true_eq_false, not_false_eq_true, true_and, and_true]; exact hI
  by_cases h3 : 0 ≤ v3.toInt ∧ v3.toInt ≤ 1
  rotate_left
  · simp only [r7y h1, r8y h1, r7y h2, r8y h2, side7n v3 h3, side8n v3 h3, b01, b00, false_implies, true_implies, not_true_eq_false, not_false_eq_true, true_and, and_true]; exact hI
  simp only [r7y h1, r8y h1, r7y h2, r8y h2, side7 v3 h3, side8 v3 h3, b01, b00, false_implies, true_implies, not_true_eq_false, not_false_eq_true, true_and, and_true]
  obtain ⟨A, B, N, hC, e1, e2, e3, e4⟩ := hReg.cf h2.lt
  refine ⟨h2.vin, h2.vin, s1_expand hC e1 e2 (fun f hf => s1_findBounds hC hf (fun la lb ra rb hla hlb hra hrb => ?_))⟩
  have T : ∀ post : Int32 → (Nat → Int32) → (Nat → Int32) → Prop, ∀ p q : Nat, p = (if v3 = 0 then sLA A B (N - 1) (rr A B N (N - 1)) else sRA A B (N - 1) (rr A B N (N - 1))) → q = (if v3 = 0 then sLB A B (N - 1) (rr A B N (N - 1)) else sRB A B (N - 1) (rr A B N (N - 1))) → (p = 0 ∨ q = 0 → post (-2) m_above m_below) → (¬ p = 0 → ¬ q = 0 → post (stR p q) (stF m_above v1 p q p) (stF m_below v1 p q q)) → vp_in v2 8 ∧ vp_in v2 8 ∧ w8_depthOf m_terms m_runs m_term m_run m_isRight (m_above v2.toNatClampNeg) (m_below v2.toNatClampNeg) (fun r40 f_terms_40 f_runs_40 f_term_40 f_run_40 f_isRight_40 => (w8_goDown f_runs_40 m_leftAbove m_leftBelow m_rightAbove m_rightBelow f_run_40 f_isRight_40 r40 (fun f_leftAbove_43 f_leftBelow_43 f_rightAbove_43 f_rightBelow_43 => ((¬ v3 = 0 → (w8_bound_J61 f_terms_40 f_runs_40 f_leftAbove_43 f_leftBelow_43 f_rightAbove_43 f_rightBelow_43 m_above m_below f_term_40 f_run_40 f_isRight_40 v1 v3 f_rightAbove_43 (fun r8 _ _ _ _ _ _ a e _ _ _ => post r8 a e))) ∧ (v3 = 0 → (w8_bound_J61 f_terms_40 f_runs_40 f_leftAbove_43 f_leftBelow_43 f_rightAbove_43 f_rightBelow_43 m_above m_below f_term_40 f_run_40 f_isRight_40 v1 v3 f_leftAbove_43 (fun r8 _ _ _ _ _ _ a e _ _ _ => post r8 a e))))))) := by
    intro post p q ep eq c1 c2
    refine ⟨h2.vin, h2.vin, s8_depthOf hC e3 e4 (fun r f2 run ri hr hf2 hR => s8_bounds hC hR hr (fun la lb ra rb hla hlb hra hrb => ?_))⟩
    unfold w8_bound_J61 w8_bound_J78
    by_cases z : v3 = 0
    · rw [if_pos z] at ep eq
      rw [← ep] at hla; rw [← eq] at hlb
      refine ⟨fun y => absurd z y, fun _ => ⟨fun y => absurd z y, fun _ => ⟨fun y => c1 (Or.inl ((l_zero hla).mp y)), fun y => ⟨fun w => ?_, fun w => c1 (Or.inr ((l_zero hlb).mp w))⟩⟩⟩⟩
      have y1 : ¬ p = 0 := fun h => y ((l_zero hla).mpr h)
      have w1 : ¬ q = 0 := fun h => w ((l_zero hlb).mpr h)
      exact s8_st h1 hla hlb (by omega) (by omega) (c2 y1 w1)
    · rw [if_neg z] at ep eq
      rw [← ep] at hra; rw [← eq] at hrb
      refine ⟨fun _ => ⟨fun _ => ⟨fun y => c1 (Or.inl ((l_zero hra).mp y)), fun y => ⟨fun w => ?_, fun w => c1 (Or.inr ((l_zero hrb).mp w))⟩⟩, fun y => absurd y z⟩, fun y => absurd y z⟩
      have y1 : ¬ p = 0 := fun h => y ((l_zero hra).mpr h)
      have w1 : ¬ q = 0 := fun h => w ((l_zero hrb).mpr h)
      exact s8_st h1 hra hrb (by omega) (by omega) (c2 y1 w1)
  simp only [boundTop_if, boundBottom_if]
  have t1 := ite_t (v := v3) hla hra
  have t2 := ite_t (v := v3) hlb hrb
  have T := fun post => T post _ _ rfl rfl
  generalize (if v3 = 0 then la else ra) = P at t1 ⊢
  generalize (if v3 = 0 then lb else rb) = Q at t2 ⊢
  generalize (if v3 = 0 then sLA A B (N - 1) (rr A B N (N - 1)) else sRA A B (N - 1) (rr A B N (N - 1))) = p at t1 T
  generalize (if v3 = 0 then sLB A B (N - 1) (rr A B N (N - 1)) else sRB A B (N - 1) (rr A B N (N - 1))) = q at t2 T
  refine ⟨fun y => ?_, fun y => ⟨fun w => ?_, fun w => ?_⟩⟩
  · have y := (l_zero t1).mp y
    exact T (fun r8 a e => (-2 : Int32) = r8 ∧ (LInv x_hasSnapshot x_termListSize x_textSize x_tops x_bottoms x_slots x_savedTops x_savedBottoms x_savedSlots x_termList x_text x_arraySizes x_arrays0 x_arrays1 x_arrays2 m_hasSnapshot a e m_list m_listed m_text m_fed m_kindOf m_nodeAbove m_nodeBelow m_length m_cell m_savedAbove m_savedBelow m_savedKind m_savedNodeAbove m_savedNodeBelow PL kk tt bb)) (fun _ => ⟨rfl, hI⟩) (fun h => absurd y h)
  · have y1 : ¬ p = 0 := fun h => y ((l_zero t1).mpr h)
    have w1 : ¬ q = 0 := fun h => w ((l_zero t2).mpr h)
    refine s7_st h1 t1 t2 (by omega) (by omega) ?_
    exact T (fun r8 a e => stR p q = r8 ∧ (LInv x_hasSnapshot x_termListSize x_textSize (stF x_tops v1 p q p) (stF x_bottoms v1 p q q) x_slots x_savedTops x_savedBottoms x_savedSlots x_termList x_text x_arraySizes x_arrays0 x_arrays1 x_arrays2 m_hasSnapshot a e m_list m_listed m_text m_fed m_kindOf m_nodeAbove m_nodeBelow m_length m_cell m_savedAbove m_savedBelow m_savedKind m_savedNodeAbove m_savedNodeBelow PL kk tt bb)) (fun h => absurd h (by omega)) (fun _ _ => ⟨rfl, hI.reg (hReg.store (by omega) (by omega))⟩)
  · have w := (l_zero t2).mp w
    exact T (fun r8 a e => (-2 : Int32) = r8 ∧ (LInv x_hasSnapshot x_termListSize x_textSize x_tops x_bottoms x_slots x_savedTops x_savedBottoms x_savedSlots x_termList x_text x_arraySizes x_arrays0 x_arrays1 x_arrays2 m_hasSnapshot a e m_list m_listed m_text m_fed m_kindOf m_nodeAbove m_nodeBelow m_length m_cell m_savedAbove m_savedBelow m_savedKind m_savedNodeAbove m_savedNodeBelow PL kk tt bb)) (fun _ => ⟨rfl, hI⟩) (fun _ h => absurd w h)
theorem op_child : Op_child := by
  intro x_hasSnapshot x_termListSize x_textSize x_tops x_bottoms x_slots x_savedTops x_savedBottoms x_savedSlots x_termList x_text x_arraySizes x_E_size x_E_leftTop x_E_leftBottom x_E_rightTop x_E_rightBottom x_E_terms x_arrays0 x_arrays1 x_arrays2 m_terms m_runs m_leftAbove m_leftBelow m_rightAbove m_rightBelow m_listed m_fed m_hasSnapshot m_above m_below m_term m_run m_isRight m_list m_text m_kindOf m_nodeAbove m_nodeBelow m_length m_cell m_savedAbove m_savedBelow m_savedKind m_savedNodeAbove m_savedNodeBelow PL kk tt bb v1 v2 v3 hI
  obtain ⟨hReg, hList, hText, hArr, hNode, hHs, hHs01, hSnap⟩ := id hI
  unfold w7_child w8_child w7_expand
  by_cases h1 : isR v1
  rotate_left
  · simp only [r7n h1, r8n h1, b01, b00, false_implies, true_implies, not_true_eq_false, not_false_eq_true, true_and, and_true]; exact hI
  by_cases h2 : isR v2
  rotate_left
  · simp only [r7y h1, r8y h1, r7n h2, r8n h2, b01, b00, false_implies, true_implies, not_true_eq_false, not_false_eq_true, true_and, and_true]; exact hI
  by_cases h3 : 0 ≤ v3.toInt ∧ v3.toInt ≤ 1
  rotate_left
  · simp only [r7y h1, r8y h1, r7y h2, r8y h2, side7n v3 h3, side8n v3 h3, b01, b00, false_implies, true_implies, not_true_eq_false, not_false_eq_true, true_and, and_true]; exact hI
  simp only [r7y h1, r8y h1, r7y h2, r8y h2, side7 v3 h3, side8 v3 h3, b01, b00, false_implies, true_implies, not_true_eq_false, not_false_eq_true, true_and, and_true]
  obtain ⟨A, B, N, hC, e1, e2, e3, e4⟩ := hReg.cf h2.lt
  obtain ⟨b1, b2⟩ := bounds_sum hC
  have hN1 := hC.2.2.2.2
  refine ⟨h2.vin, h2.vin, s1_expand hC e1 e2 (fun f hf => s1_findBounds hC hf (fun la lb ra rb hla hlb hra hrb => ?_))⟩
  simp only [boundTop_if, boundBottom_if]
  have t1 := ite_t (v := v3) hla hra
  have t2 := ite_t (v := v3) hlb hrb
  have T : ∀ p q : Nat, p = (if v3 = 0 then sLA A B (N - 1) (rr A B N (N - 1)) else sRA A B (N - 1) (rr A B N (N - 1))) → q = (if v3 = 0 then sLB A B (N - 1) (rr A B N (N - 1)) else sRB A B (N - 1) (rr A B N (N - 1))) → p ≤ A ∧ q ≤ B ∧ ∀ post : Int32 → (Nat → Int32) → (Nat → Int32) → Prop, post (stR ((p + A : Nat) : Int) ((q + B : Nat) : Int)) (stF m_above v1 ((p + A : Nat) : Int) ((q + B : Nat) : Int) ((p + A : Nat) : Int)) (stF m_below v1 ((p + A : Nat) : Int) ((q + B : Nat) : Int) ((q + B : Nat) : Int)) → vp_in v2 8 ∧ vp_in v2 8 ∧ w8_depthOf m_terms m_runs m_term m_run m_isRight (m_above v2.toNatClampNeg) (m_below v2.toNatClampNeg) (fun r40 f_terms_40 f_runs_40 f_term_40 f_run_40 f_isRight_40 => (w8_goDown f_runs_40 m_leftAbove m_leftBelow m_rightAbove m_rightBelow f_run_40 f_isRight_40 r40 (fun f_leftAbove_43 f_leftBelow_43 f_rightAbove_43 f_rightBelow_43 => (vp_in v2 8 ∧ ((¬ v3 = 0 → (w8_child_J70 f_terms_40 f_runs_40 f_leftAbove_43 f_leftBelow_43 f_rightAbove_43 f_rightBelow_43 m_above m_below f_term_40 f_run_40 f_isRight_40 v2 v3 f_rightAbove_43 ((m_above v2.toNatClampNeg).toInt64) v1 (fun r8 _ _ _ _ _ _ a e _ _ _ => post r8 a e))) ∧ (v3 = 0 → (w8_child_J70 f_terms_40 f_runs_40 f_leftAbove_43 f_leftBelow_43 f_rightAbove_43 f_rightBelow_43 m_above m_below f_term_40 f_run_40 f_isRight_40 v2 v3 f_leftAbove_43 ((m_above v2.toNatClampNeg).toInt64) v1 (fun r8 _ _ _ _ _ _ a e _ _ _ => post r8 a e)))))))) := by
    intro p q ep eq
    have hpq : p ≤ A ∧ q ≤ B := by
      by_cases z : v3 = 0
      · rw [if_pos z] at ep eq; omega
      · rw [if_neg z] at ep eq; omega
    refine ⟨hpq.1, hpq.2, fun post c => ?_⟩
    refine ⟨h2.vin, h2.vin, s8_depthOf hC e3 e4 (fun r f2 run ri hr hf2 hR => s8_bounds hC hR hr (fun la lb ra rb hla hlb hra hrb => ⟨h2.vin, ?_⟩))⟩
    unfold w8_child_J70
    by_cases z : v3 = 0
    · rw [if_pos z] at ep eq
      rw [← ep] at hla; rw [← eq] at hlb
      refine ⟨fun y => absurd z y, fun _ => ⟨h2.vin, fun y => absurd z y, fun _ => s8_st h1 ?_ ?_ (by omega) (by omega) c⟩⟩
      · rw [l_add (by rw [t64]; omega) (by rw [t64]; omega), t64]; omega
      · rw [l_add (by rw [t64]; omega) (by rw [t64]; omega), t64]; omega
    · rw [if_neg z] at ep eq
      rw [← ep] at hra; rw [← eq] at hrb
      refine ⟨fun _ => ⟨h2.vin, fun _ => s8_st h1 ?_ ?_ (by omega) (by omega) c, fun y => absurd y z⟩, fun y => absurd y z⟩
      · rw [l_add (by rw [t64]; omega) (by rw [t64]; omega), t64]; omega
      · rw [l_add (by rw [t64]; omega) (by rw [t64]; omega), t64]; omega
  have T := T _ _ rfl rfl
  generalize (if v3 = 0 then la else ra) = P at t1 ⊢
  generalize (if v3 = 0 then lb else rb) = Q at t2 ⊢
  generalize (if v3 = 0 then sLA A B (N - 1) (rr A B N (N - 1)) else sRA A B (N - 1) (rr A B N (N - 1))) = p at t1 T
  generalize (if v3 = 0 then sLB A B (N - 1) (rr A B N (N - 1)) else sRB A B (N - 1) (rr A B N (N - 1))) = q at t2 T
  obtain ⟨T1, T2, T⟩ := T
  refine ⟨h2.vin, h2.vin, s7_st (p := ((p + A : Nat) : Int)) (q := ((q + B : Nat) : Int)) h1 ?_ ?_ (by omega) (by omega) ?_⟩
  · rw [l_add (by rw [t64]; omega) (by rw [t64]; omega), t64]; omega
  · rw [l_add (by rw [t64]; omega) (by rw [t64]; omega), t64]; omega
  · exact T (fun r8 a e => stR ((p + A : Nat) : Int) ((q + B : Nat) : Int) = r8 ∧ (LInv x_hasSnapshot x_termListSize x_textSize (stF x_tops v1 ((p + A : Nat) : Int) ((q + B : Nat) : Int) ((p + A : Nat) : Int)) (stF x_bottoms v1 ((p + A : Nat) : Int) ((q + B : Nat) : Int) ((q + B : Nat) : Int)) x_slots x_savedTops x_savedBottoms x_savedSlots x_termList x_text x_arraySizes x_arrays0 x_arrays1 x_arrays2 m_hasSnapshot a e m_list m_listed m_text m_fed m_kindOf m_nodeAbove m_nodeBelow m_length m_cell m_savedAbove m_savedBelow m_savedKind m_savedNodeAbove m_savedNodeBelow PL kk tt bb)) ⟨rfl, hI.reg (hReg.store (by omega) (by omega))⟩
