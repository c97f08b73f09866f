/-! fromTerms -/
def ftF (l : Nat → Int32) : Nat → Int → Int → Option (Int × Int)
  | 0, p, q => some (p, q)
  | n + 1, p, q => if (l n).toInt * p + q ≤ 1000000 ∧ p ≤ 1000000 then ftF l n ((l n).toInt * p + q) p else none
theorem ftF_pos {l : Nat → Int32} : ∀ (n : Nat) (p q : Int), (∀ i, i < n → 0 ≤ (l i).toInt) → 1 ≤ p → 1 ≤ q → ∀ r, ftF l n p q = some r → 1 ≤ r.1 ∧ 1 ≤ r.2 := by
  intro n
  induction n with
  | zero => intro p q _ hp hq r h; cases h; exact ⟨hp, hq⟩
  | succ n ih =>
    intro p q hl hp hq r h
    rw [ftF] at h
    have h0 := hl n (by omega)
    have h1 : 0 ≤ (l n).toInt * p := Int.mul_nonneg h0 (by omega)
    split at h
    · exact ih _ _ (fun i hi => hl i (by omega)) (by omega) hp r h
    · cases h
theorem ftF_congr {l l' : Nat → Int32} : ∀ (n : Nat) (p q : Int), (∀ i, i < n → l i = l' i) → ftF l n p q = ftF l' n p q := by
  intro n
  induction n with
  | zero => intro p q _; rfl
  | succ n ih =>
    intro p q h
    rw [ftF, ftF, h n (by omega), ih _ _ (fun i hi => h i (by omega))]
theorem ft_step {l : Nat → Int32} {n : Nat} {P Q x : Int64} (h0 : 0 ≤ (l n).toInt) (h1 : (l n).toInt ≤ 1000000) (hp : 1 ≤ P.toInt) (hP : P.toInt ≤ 1000000) (hq : 1 ≤ Q.toInt) (hQ : Q.toInt ≤ 1000000) (ex : x = (l n).toInt64 * P + Q) : x.toInt = (l n).toInt * P.toInt + Q.toInt := by
  have b := b_mul h0 h1 (show 0 ≤ P.toInt by omega) hP
  have e : ((l n).toInt64 * P).toInt = (l n).toInt * P.toInt := by rw [l_mul (by rw [t64]; omega) (by rw [t64]; omega), t64]
  rw [ex, l_add (by rw [e]; omega) (by rw [e]; omega), e]
theorem ft7_L {tp bo l : Nat → Int32} {v : Int32} {post : Int32 → (Nat → Int32) → (Nat → Int32) → Prop} (hv : isR v) : ∀ (n : Nat) (P Q : Int64) (i : Int32), i.toInt = (n : Int) - 1 → n ≤ 20 → (∀ j, j < n → 0 ≤ (l j).toInt ∧ (l j).toInt ≤ 1000000) → 1 ≤ P.toInt → P.toInt ≤ 1000000 → 1 ≤ Q.toInt → Q.toInt ≤ 1000000 → (ftF l n P.toInt Q.toInt = none → post (-3) tp bo) → (∀ p q, ftF l n P.toInt Q.toInt = some (p, q) → post (stR p q) (stF tp v p q p) (stF bo v p q q)) → w7_fromTerms_L43 tp bo l v post (n + 1) P Q i := by
  have l0 : (0 : Int32).toInt = 0 := rfl
  have lm : (-1 : Int32).toInt = -1 := rfl
  have l6 : (1000000 : Int64).toInt = 1000000 := rfl
  intro n
  induction n with
  | zero =>
    intro P Q i hi hn hl hp hP hq hQ h1 h2
    rw [w7_fromTerms_L43]
    exact ⟨fun _ => s7_store hv (by omega) (by omega) (h2 _ _ rfl), fun z => absurd (i_lt.mpr (by omega)) z⟩
  | succ n ih =>
    intro P Q i hi hn hl hp hP hq hQ h1 h2
    rw [w7_fromTerms_L43]
    have hin : i.toInt = (n : Int) := by omega
    obtain ⟨a0, a1⟩ := hl n (by omega)
    rw [natc hin]
    refine ⟨fun z => absurd (i_lt.mp z) (by omega), fun _ => ⟨vin (by omega) (by omega), fun x ex => ?_⟩⟩
    have hx := ft_step a0 a1 hp hP hq hQ ex
    have hx1 : 0 ≤ (l n).toInt * P.toInt := Int.mul_nonneg a0 (by omega)
    rw [ftF, ← hx] at h1 h2
    refine ⟨fun z => ?_, fun z => ⟨fun _ j ej => ?_, fun y => absurd (l_le.mpr (by omega)) y⟩⟩
    · have z := l_lt.mp z
      rw [if_neg (by omega)] at h1
      exact h1 rfl
    · have z : ¬ (1000000 : Int64).toInt < x.toInt := fun w => z (l_lt.mpr w)
      rw [if_pos (by omega)] at h1 h2
      exact ih x P j (by rw [ej, i_add (by omega) (by omega), lm]; omega) (by omega) (fun j hj => hl j (by omega)) (by omega) (by omega) hp hP h1 h2
theorem ft8_L {tp bo l : Nat → Int32} {v : Int32} {post : Int32 → (Nat → Int32) → (Nat → Int32) → Prop} (hv : isR v) : ∀ (n : Nat) (P Q : Int64) (i : Int32), i.toInt = (n : Int) - 1 → n ≤ 20 → (∀ j, j < n → 0 ≤ (l j).toInt ∧ (l j).toInt ≤ 1000000) → 1 ≤ P.toInt → P.toInt ≤ 1000000 → 1 ≤ Q.toInt → Q.toInt ≤ 1000000 → (ftF l n P.toInt Q.toInt = none → post (-3) tp bo) → (∀ p q, ftF l n P.toInt Q.toInt = some (p, q) → post (stR p q) (stF tp v p q p) (stF bo v p q q)) → w8_fromTerms_L89 tp bo l v post (n + 1) P Q i := by
  have l0 : (0 : Int32).toInt = 0 := rfl
  have lm : (-1 : Int32).toInt = -1 := rfl
  have l6 : (1000000 : Int64).toInt = 1000000 := rfl
  intro n
  induction n with
  | zero =>
    intro P Q i hi hn hl hp hP hq hQ h1 h2
    rw [w8_fromTerms_L89]
    exact ⟨fun _ => s8_put hv (by omega) (by omega) (h2 _ _ rfl), fun z => absurd (i_lt.mpr (by omega)) z⟩
  | succ n ih =>
    intro P Q i hi hn hl hp hP hq hQ h1 h2
    rw [w8_fromTerms_L89]
    have hin : i.toInt = (n : Int) := by omega
    obtain ⟨a0, a1⟩ := hl n (by omega)
    rw [natc hin]
    refine ⟨fun z => absurd (i_lt.mp z) (by omega), fun _ => ⟨vin (by omega) (by omega), fun x ex => ?_⟩⟩
    have hx := ft_step a0 a1 hp hP hq hQ ex
    have hx1 : 0 ≤ (l n).toInt * P.toInt := Int.mul_nonneg a0 (by omega)
    rw [ftF, ← hx] at h1 h2
    refine ⟨fun z => ?_, fun z => ⟨fun _ j ej => ?_, fun y => absurd (l_le.mpr (by omega)) y⟩⟩
    · have z := l_lt.mp z
      rw [if_neg (by omega)] at h1
      exact h1 rfl
    · have z : ¬ (1000000 : Int64).toInt < x.toInt := fun w => z (l_lt.mpr w)
      rw [if_pos (by omega)] at h1 h2
      exact ih x P j (by rw [ej, i_add (by omega) (by omega), lm]; omega) (by omega) (fun j hj => hl j (by omega)) (by omega) (by omega) hp hP h1 h2
/-- the terms from index k on are not 0 -/
def nz (l : Nat → Int32) (k n : Nat) : Prop := ∀ i, k ≤ i → i < k + n → ¬ l i = 0
theorem hv7_L {sz : Int32} {l : Nat → Int32} {post : Int32 → Prop} : ∀ (n k : Nat) (i : Int32), i.toInt = (k : Int) → sz.toInt = ((k + n : Nat) : Int) → k + n ≤ 20 → 1 ≤ k + n → (nz l k n → 1 < k + n ∨ 0 < (l 0).toInt → post 1) → (¬ (nz l k n ∧ (1 < k + n ∨ 0 < (l 0).toInt)) → post 0) → w7_hasTermListValue_L11 sz l post (n + 1) i := by
  have l0 : (0 : Int32).toInt = 0 := rfl
  have l1 : (1 : Int32).toInt = 1 := rfl
  intro n
  induction n with
  | zero =>
    intro k i hi hs hk h0 h1 h2
    rw [w7_hasTermListValue_L11]
    have hz : nz l k 0 := fun i h3 h4 => absurd h4 (by omega)
    refine ⟨fun _ => ⟨fun z => h1 hz (Or.inl ?_), fun z => ⟨by unfold vp_in; decide, fun y => h2 ?_, fun y => h1 hz (Or.inr ?_)⟩⟩, fun z => absurd (i_le.mpr (by omega)) z⟩
    · have := i_lt.mp z; omega
    · rintro ⟨_, w | w⟩
      · exact z (i_lt.mpr (by omega))
      · have := i_le.mp y
        have e : (0 : Int32).toNatClampNeg = 0 := rfl
        rw [e] at this; omega
    · have : ¬ (l 0).toInt ≤ 0 := fun w => y (i_le.mpr w)
      omega
  | succ n ih =>
    intro k i hi hs hk h0 h1 h2
    rw [w7_hasTermListValue_L11]
    rw [natc hi]
    refine ⟨fun z => absurd (i_le.mp z) (by omega), fun _ => ⟨vin (by omega) (by omega), fun z j ej => ?_, fun z => h2 (fun w => w.1 k (by omega) (by omega) z)⟩⟩
    refine ih (k + 1) j (nxt hi (by omega) ej) (by rw [hs]; congr 1; omega) (by omega) (by omega) (fun hz hw => h1 (fun i h3 h4 => ?_) ?_) (fun hw => h2 (fun w => hw ⟨fun i h3 h4 => w.1 i (by omega) (by omega), ?_⟩))
    · by_cases e : i = k
      · subst e; exact z
      · exact hz i (by omega) (by omega)
    · rcases hw with w | w
      · exact Or.inl (by omega)
      · exact Or.inr w
    · rcases w.2 with w | w
      · exact Or.inl (by omega)
      · exact Or.inr w
theorem f38_L {sz : Int32} {ab be l : Nat → Int32} {v : Int32} {post : Int32 → (Nat → Int32) → (Nat → Int32) → Prop} : ∀ (n k : Nat) (i : Int32), i.toInt = (k : Int) → sz.toInt = ((k + n : Nat) : Int) → k + n ≤ 20 → 1 ≤ k + n → (nz l k n → vp_in (sz - 1) 20 ∧ ∀ x77 : Int64, x77 = (l (sz - 1).toNatClampNeg).toInt64 → ∀ x87 : Int32, x87 = sz - 2 → ∃ n89, w8_fromTerms_L89 ab be l v post n89 x77 1 x87) → (¬ nz l k n → post (-2) ab be) → w8_fromTerms_L39 sz ab be l v post (n + 1) i := by
  intro n
  induction n with
  | zero =>
    intro k i hi hs hk h0 h1 h2
    rw [w8_fromTerms_L39]
    have hz : nz l k 0 := fun i h3 h4 => absurd h4 (by omega)
    exact ⟨fun _ => h1 hz, fun z => absurd (i_le.mpr (by omega)) z⟩
  | succ n ih =>
    intro k i hi hs hk h0 h1 h2
    rw [w8_fromTerms_L39]
    rw [natc hi]
    refine ⟨fun z => absurd (i_le.mp z) (by omega), fun _ => ⟨vin (by omega) (by omega), fun z j ej => ?_, fun z => h2 (fun w => w k (by omega) (by omega) z)⟩⟩
    refine ih (k + 1) j (nxt hi (by omega) ej) (by rw [hs]; congr 1; omega) (by omega) (by omega) (fun hz => h1 (fun i h3 h4 => ?_)) (fun hw => h2 (fun w => hw (fun i h3 h4 => w i (by omega) (by omega))))
    by_cases e : i = k
    · subst e; exact z
    · exact hz i (by omega) (by omega)
theorem IList.at {tl : Nat → Int32} {sz : Int32} {l : Nat → Int32} {n : Int32} (h : IList tl sz l n) : ∃ N : Nat, N ≤ 20 ∧ sz = n ∧ n.toInt = (N : Int) ∧ (∀ i, i < N → tl i = l i) ∧ ∀ i, i < N → 0 ≤ (l i).toInt ∧ (l i).toInt ≤ 1000000 := by
  obtain ⟨h1, h2, h3, h4⟩ := h
  exact ⟨n.toInt.toNat, by omega, h1, by omega, fun i hi => (h4 i (by omega)).1, fun i hi => (h4 i (by omega)).2⟩
theorem op_fromTerms : Op_fromTerms := by
  intro x_hasSnapshot x_termListSize x_textSize x_tops x_bottoms x_slots x_savedTops x_savedBottoms x_savedSlots x_termList x_text x_arraySizes x_arrays0 x_arrays1 x_arrays2 m_listed m_fed m_hasSnapshot m_above m_below m_list m_text m_kindOf m_nodeAbove m_nodeBelow m_length m_cell m_savedAbove m_savedBelow m_savedKind m_savedNodeAbove m_savedNodeBelow PL kk tt bb v1 hI
  obtain ⟨hReg, hList, hText, hArr, hNode, hHs, hHs01, hSnap⟩ := id hI
  unfold w7_fromTerms w8_fromTerms
  by_cases h1 : isR v1
  rotate_left
  · simp only [r7n h1, r8n h1, b01, b00, false_implies, true_implies, not_true_eq_false, not_false_eq_true, true_and, and_true]; exact hI
  simp only [r7y h1, r8y h1, b01, b00, false_implies, true_implies, not_true_eq_false, not_false_eq_true, true_and, and_true]
  obtain ⟨N, hN, rfl, hn, hq, hb⟩ := hList.at
  have l0 : (0 : Int32).toInt = 0 := rfl
  have l1 : (1 : Int32).toInt = 1 := rfl
  have l2 : (2 : Int32).toInt = 2 := rfl
  have z0 : (0 : Int32).toNatClampNeg = 0 := rfl
  -- what the model asks first
  have M0 : ∀ post : Int32 → (Nat → Int32) → (Nat → Int32) → Prop, (¬ (1 ≤ N ∧ nz m_list 1 (N - 1) ∧ (1 < N ∨ 0 < (m_list 0).toInt)) → post (-2) m_above m_below) → (1 ≤ N → nz m_list 1 (N - 1) → (1 < N ∨ 0 < (m_list 0).toInt) → vp_in (x_termListSize - 1) 20 ∧ ∀ x77 : Int64, x77 = (m_list (x_termListSize - 1).toNatClampNeg).toInt64 → ∀ x87 : Int32, x87 = x_termListSize - 2 → ∃ n89, w8_fromTerms_L89 m_above m_below m_list v1 post n89 x77 1 x87) → ((x_termListSize = 0 → post (-2) m_above m_below) ∧ (¬ x_termListSize = 0 → (¬ x_termListSize = 1 → w8_fromTerms_J37 x_termListSize m_above m_below m_list v1 post) ∧ (x_termListSize = 1 → vp_in 0 20 ∧ (¬ m_list (0 : Int32).toNatClampNeg = 0 → w8_fromTerms_J37 x_termListSize m_above m_below m_list v1 post) ∧ (m_list (0 : Int32).toNatClampNeg = 0 → post (-2) m_above m_below)))) := by
    intro post p1 p2
    have J : 1 ≤ N → (1 < N ∨ 0 < (m_list 0).toInt) → w8_fromTerms_J37 x_termListSize m_above m_below m_list v1 post := fun hN1 hw => by
      unfold w8_fromTerms_J37
      exact ⟨_, f38_L (N - 1) 1 1 rfl (by rw [hn]; congr 1; omega) (by omega) (by omega) (fun hz => p2 hN1 hz hw) (fun hz => p1 (fun q => hz q.2.1))⟩
    refine ⟨fun z => p1 (fun q => ?_), fun z => ⟨fun y => J ?_ (Or.inl ?_), fun y => ⟨by unfold vp_in; decide, fun w => J ?_ (Or.inr ?_), fun w => p1 (fun q => ?_)⟩⟩⟩
    · have := congrArg Int32.toInt z; rw [hn] at this; omega
    · have : ¬ N = 0 := fun q => z (i_ext (by omega))
      omega
    · have h3 : ¬ N = 0 := fun q => z (i_ext (by omega))
      have h4 : ¬ N = 1 := fun q => y (i_ext (by omega))
      omega
    · have := congrArg Int32.toInt y; rw [hn] at this; omega
    · have := congrArg Int32.toInt y
      have h5 := (hb 0 (by omega)).1
      have h6 : ¬ (m_list 0).toInt = 0 := fun q => w (i_ext (by rw [z0]; omega))
      omega
    · have h7 := congrArg Int32.toInt y
      have h8 := congrArg Int32.toInt w
      rw [z0, l0] at h8
      rcases q.2.2 with q | q <;> omega
  have hnz : ∀ i, i < N → (x_termList i = 0 ↔ m_list i = 0) := fun i hi => by rw [hq i hi]
  unfold w7_hasTermListValue
  refine ⟨fun hs => ?_, fun hs => ⟨fun z => absurd rfl z, fun _ => by
    have h := M0 (fun r8 a e => (-2 : Int32) = r8 ∧ (LInv x_hasSnapshot x_termListSize x_textSize x_tops x_bottoms x_slots x_savedTops x_savedBottoms x_savedSlots x_termList x_text x_arraySizes x_arrays0 x_arrays1 x_arrays2 m_hasSnapshot a e m_list x_termListSize m_text m_fed m_kindOf m_nodeAbove m_nodeBelow m_length m_cell m_savedAbove m_savedBelow m_savedKind m_savedNodeAbove m_savedNodeBelow PL kk tt bb)) (fun _ => ⟨rfl, hI⟩) (fun h9 => by have := congrArg Int32.toInt hs; rw [hn] at this; omega)
    simpa only [true_and, eq_self_iff_true] using h⟩⟩
  have hN1 : 1 ≤ N := by
    have : ¬ N = 0 := fun q => hs (i_ext (by omega))
    omega
  refine ⟨_, hv7_L (N - 1) 1 1 rfl (by rw [hn]; congr 1; omega) (by omega) (by omega) (fun hz hw => ⟨fun _ => ?_, fun z => absurd z (by decide)⟩) (fun hw => ⟨fun z => absurd rfl z, fun _ => by
    have h := M0 (fun r8 a e => (-2 : Int32) = r8 ∧ (LInv x_hasSnapshot x_termListSize x_textSize x_tops x_bottoms x_slots x_savedTops x_savedBottoms x_savedSlots x_termList x_text x_arraySizes x_arrays0 x_arrays1 x_arrays2 m_hasSnapshot a e m_list x_termListSize m_text m_fed m_kindOf m_nodeAbove m_nodeBelow m_length m_cell m_savedAbove m_savedBelow m_savedKind m_savedNodeAbove m_savedNodeBelow PL kk tt bb)) (fun _ => ⟨rfl, hI⟩) (fun h9 hz h10 => absurd ⟨fun i h3 h4 => fun q => hz i h3 h4 ((hnz i (by omega)).mp q), by
      rcases h10 with q | q
      · exact Or.inl (by omega)
      · exact Or.inr (by rw [hq 0 (by omega)]; exact q)⟩ hw)
    simpa only [true_and, eq_self_iff_true] using h⟩)⟩
  have hz' : nz m_list 1 (N - 1) := fun i h3 h4 q => hz i h3 h4 ((hnz i (by omega)).mpr q)
  have hw' : 1 < N ∨ 0 < (m_list 0).toInt := by
    rcases hw with q | q
    · exact Or.inl (by omega)
    · exact Or.inr (by rw [← hq 0 (by omega)]; exact q)
  have e1 : (x_termListSize - 1).toInt = ((N - 1 : Nat) : Int) := by rw [i_sub (by omega) (by omega), hn, l1]; omega
  have e2 : (x_termListSize - 2).toInt = ((N - 1 : Nat) : Int) - 1 := by rw [i_sub (by omega) (by omega), hn, l2]; omega
  have hlast : 1 ≤ (m_list (N - 1)).toInt ∧ (m_list (N - 1)).toInt ≤ 1000000 := by
    obtain ⟨c1, c2⟩ := hb (N - 1) (by omega)
    refine ⟨?_, c2⟩
    by_cases q : N = 1
    · subst q
      rcases hw' with y | y
      · omega
      · exact y
    · have := hz' (N - 1) (by omega) (by omega)
      have : ¬ (m_list (N - 1)).toInt = 0 := fun y => this (i_ext y)
      omega
  have o1 : (1 : Int64).toInt = 1 := rfl
  refine ⟨vin (by omega) (by omega), fun X eX j ej => ?_⟩
  rw [natc e1] at eX
  have hX : X.toInt = (m_list (N - 1)).toInt := by rw [eX, t64, hq _ (by omega)]
  have hF : ftF x_termList (N - 1) X.toInt 1 = ftF m_list (N - 1) X.toInt 1 := ftF_congr _ _ _ (fun i hi => hq i (by omega))
  have M : ∀ post : Int32 → (Nat → Int32) → (Nat → Int32) → Prop, (ftF m_list (N - 1) X.toInt 1 = none → post (-3) m_above m_below) → (∀ p q, ftF m_list (N - 1) X.toInt 1 = some (p, q) → post (stR p q) (stF m_above v1 p q p) (stF m_below v1 p q q)) → vp_in (x_termListSize - 1) 20 ∧ ∀ x77 : Int64, x77 = (m_list (x_termListSize - 1).toNatClampNeg).toInt64 → ∀ x87 : Int32, x87 = x_termListSize - 2 → ∃ n89, w8_fromTerms_L89 m_above m_below m_list v1 post n89 x77 1 x87 := fun post p1 p2 => by
    refine ⟨vin (by omega) (by omega), fun Y eY k ek => ?_⟩
    rw [natc e1] at eY
    have hY : Y.toInt = X.toInt := by rw [hX, eY, t64]
    exact ⟨_, ft8_L h1 (N - 1) Y 1 k (by rw [ek, e2]) (by omega) (fun j hj => hb j (by omega)) (by omega) (by omega) (by omega) (by omega) (by rw [hY]; exact p1) (by rw [hY]; exact p2)⟩
  refine ⟨_, ft7_L h1 (N - 1) X 1 j (by rw [ej, e2]) (by omega) (fun j hj => by rw [hq j (by omega)]; exact hb j (by omega)) (by omega) (by omega) (by omega) (by omega) (fun hno => ?_) (fun p q hso => ?_)⟩
  · rw [show (1 : Int64).toInt = 1 from rfl, hF] at hno
    exact M0 (fun r8 a e => (-3 : Int32) = r8 ∧ (LInv x_hasSnapshot x_termListSize x_textSize x_tops x_bottoms x_slots x_savedTops x_savedBottoms x_savedSlots x_termList x_text x_arraySizes x_arrays0 x_arrays1 x_arrays2 m_hasSnapshot a e m_list x_termListSize m_text m_fed m_kindOf m_nodeAbove m_nodeBelow m_length m_cell m_savedAbove m_savedBelow m_savedKind m_savedNodeAbove m_savedNodeBelow PL kk tt bb)) (fun h9 => absurd ⟨hN1, hz', hw'⟩ h9) (fun _ _ _ => M _ (fun _ => ⟨rfl, hI⟩) (fun p q h9 => by rw [hno] at h9; cases h9))
  · rw [show (1 : Int64).toInt = 1 from rfl, hF] at hso
    obtain ⟨c1, c2⟩ := ftF_pos (N - 1) X.toInt 1 (fun i hi => (hb i (by omega)).1) (by omega) (by omega) _ hso
    exact M0 (fun r8 a e => stR p q = r8 ∧ (LInv x_hasSnapshot x_termListSize x_textSize (stF x_tops v1 p q p) (stF x_bottoms v1 p q q) x_slots x_savedTops x_savedBottoms x_savedSlots x_termList x_text x_arraySizes x_arrays0 x_arrays1 x_arrays2 m_hasSnapshot a e m_list x_termListSize m_text m_fed m_kindOf m_nodeAbove m_nodeBelow m_length m_cell m_savedAbove m_savedBelow m_savedKind m_savedNodeAbove m_savedNodeBelow PL kk tt bb)) (fun h9 => absurd ⟨hN1, hz', hw'⟩ h9) (fun _ _ _ => M _ (fun h9 => by rw [hso] at h9; cases h9) (fun p' q' h9 => by
      rw [hso] at h9
      cases h9
      exact ⟨rfl, hI.reg (hReg.store (by simp only at c1; omega) (by simp only at c2; omega))⟩))
