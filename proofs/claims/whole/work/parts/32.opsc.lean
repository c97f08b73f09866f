/-! fillArray -/
theorem stp_some {f : Nat → Nat} : ∀ (n k left : Nat), left < sumN (fun i => f (k + i)) n → ∃ j, stp f n k left = some j := by
  intro n
  induction n with
  | zero => intro k left h; exact absurd h (by show ¬ left < 0; omega)
  | succ n ih =>
    intro k left h
    rw [stp]
    by_cases q : left < f k
    · exact ⟨k, if_pos q⟩
    · rw [if_neg q]
      rw [sumN_shift] at h
      refine ih (k + 1) (left - f k) ?_
      have e : (fun i => f (k + (i + 1))) = (fun i => f (k + 1 + i)) := by
        funext i; rw [show k + (i + 1) = k + 1 + i by omega]
      simp only [Nat.add_zero] at h
      rw [e] at h
      omega
theorem stp_dep {a b N : Nat} (h : CF a b N) {k : Nat} (hk : k < dep a b N) : ∃ j, stp (rr a b N) N 0 k = some j := by
  refine stp_some N 0 k ?_
  have e : (fun i => rr a b N (0 + i)) = rr a b N := by funext i; rw [Nat.zero_add]
  rw [e]; exact hk
/-- what the k-th cell becomes -/
def fV (what : Int32) (A B : Int32) (a b N : Nat) (k : Nat) : Int32 := if what = 0 then Int32.ofNat (tm a b k) else if what = 1 then letF A B (Int32.ofNat k).toInt64 else stpR (stp (rr a b N) N 0 k)
theorem ofN_self {i : Int32} {k : Nat} (h : i.toInt = (k : Int)) : Int32.ofNat k = i := (of_toInt h).symm
theorem s7_value {tp bo f : Nat → Int32} {v2 what i : Int32} {a b N k : Nat} (hv : isR v2) (h : CF a b N) (hf : IsT a b N f) (hw : 0 ≤ what.toInt ∧ what.toInt ≤ 2) (e1 : (tp v2.toNatClampNeg).toInt = (a : Int)) (e2 : (bo v2.toNatClampNeg).toInt = (b : Int)) (hi : i.toInt = (k : Int)) (hk : what = 0 → k < N) {post : Int32 → Prop} (hp : post (fV what (tp v2.toNatClampNeg) (bo v2.toNatClampNeg) a b N k)) : w7_valueOf tp bo (Int32.ofNat N) f v2 what i post := by
  have hN := h.2.2.1
  have l0 : (0 : Int32).toInt = 0 := rfl
  have b1 := h.2.2.2.2
  unfold fV at hp
  unfold w7_valueOf
  refine ⟨fun q => ?_, fun q => ⟨fun y => ⟨hv.vin, hv.vin, s7_letter (by omega) ?_⟩, fun y => ?_⟩⟩
  · rw [if_pos q] at hp
    refine s1_at (by omega) hi (hk q) ?_
    rw [of_toInt (hf k (hk q))]; exact hp
  · rw [if_neg q, if_pos y, ofN_self hi] at hp; exact hp
  · rw [if_neg q, if_neg y] at hp
    exact ⟨_, sa7_L h hf N 0 k i 0 (by omega) hi rfl hp⟩
theorem fa7_0 {tp bo sz f : Nat → Int32} {es v2 what s : Int32} {f1 f2 : Nat → Int32} {V : Nat → Int32} {S : Nat} (hs : s.toInt = (S : Int)) (hS : S ≤ 60) {post : Int32 → (Nat → Int32) → Int32 → (Nat → Int32) → (Nat → Int32) → (Nat → Int32) → (Nat → Int32) → Prop} (hval : ∀ (i : Int32) (k : Nat), i.toInt = (k : Int) → k < S → ∀ p : Int32 → Prop, p (V k) → w7_valueOf tp bo es f v2 what i p) (hp : ∀ g : Nat → Int32, (∀ k : Nat, k < S → g k = V k) → post s (upd sz (0 : Int32).toNatClampNeg s) es f g f1 f2) : ∀ (n k : Nat) (i : Int32) (f0 : Nat → Int32), i.toInt = (k : Int) → k + n = S → (∀ q : Nat, q < k → f0 q = V q) → w7_fillArray_L77 tp bo sz es f 0 v2 what s post (n + 1) i f0 f1 f2 := by
  intro n
  induction n with
  | zero =>
    intro k i f0 h1 h2 h3
    rw [w7_fillArray_L77]
    exact ⟨fun _ => ⟨by unfold vp_in; decide, hp _ (fun q hq => h3 q (by omega))⟩, fun q => absurd (i_le.mpr (by omega)) q⟩
  | succ n ih =>
    intro k i f0 h1 h2 h3
    rw [w7_fillArray_L77]
    refine ⟨fun q => absurd (i_le.mp q) (by omega), fun _ => ⟨by unfold vp_in; decide, fun _ => hval i k h1 (by omega) _ ⟨vin (by omega) (by omega), fun x ex => ?_⟩, fun q => absurd q (by decide), fun q => absurd q (by decide)⟩⟩
    rw [natc h1]
    refine ih (k + 1) x _ (nxt h1 (by omega) ex) (by omega) (fun q hq => ?_)
    by_cases hki : q = k
    · subst hki; exact upd_eq _ _ _
    · rw [upd_ne _ _ hki]; exact h3 q (by omega)
theorem fa7_1 {tp bo sz f : Nat → Int32} {es v2 what s : Int32} {f0 f2 : Nat → Int32} {V : Nat → Int32} {S : Nat} (hs : s.toInt = (S : Int)) (hS : S ≤ 60) {post : Int32 → (Nat → Int32) → Int32 → (Nat → Int32) → (Nat → Int32) → (Nat → Int32) → (Nat → Int32) → Prop} (hval : ∀ (i : Int32) (k : Nat), i.toInt = (k : Int) → k < S → ∀ p : Int32 → Prop, p (V k) → w7_valueOf tp bo es f v2 what i p) (hp : ∀ g : Nat → Int32, (∀ k : Nat, k < S → g k = V k) → post s (upd sz (1 : Int32).toNatClampNeg s) es f f0 g f2) : ∀ (n k : Nat) (i : Int32) (f1 : Nat → Int32), i.toInt = (k : Int) → k + n = S → (∀ q : Nat, q < k → f1 q = V q) → w7_fillArray_L77 tp bo sz es f 1 v2 what s post (n + 1) i f0 f1 f2 := by
  intro n
  induction n with
  | zero =>
    intro k i f1 h1 h2 h3
    rw [w7_fillArray_L77]
    exact ⟨fun _ => ⟨by unfold vp_in; decide, hp _ (fun q hq => h3 q (by omega))⟩, fun q => absurd (i_le.mpr (by omega)) q⟩
  | succ n ih =>
    intro k i f1 h1 h2 h3
    rw [w7_fillArray_L77]
    refine ⟨fun q => absurd (i_le.mp q) (by omega), fun _ => ⟨by unfold vp_in; decide, fun q => absurd q (by decide), fun _ => hval i k h1 (by omega) _ ⟨vin (by omega) (by omega), fun x ex => ?_⟩, fun q => absurd q (by decide)⟩⟩
    rw [natc h1]
    refine ih (k + 1) x _ (nxt h1 (by omega) ex) (by omega) (fun q hq => ?_)
    by_cases hki : q = k
    · subst hki; exact upd_eq _ _ _
    · rw [upd_ne _ _ hki]; exact h3 q (by omega)
theorem fa7_2 {tp bo sz f : Nat → Int32} {es v2 what s : Int32} {f0 f1 : Nat → Int32} {V : Nat → Int32} {S : Nat} (hs : s.toInt = (S : Int)) (hS : S ≤ 60) {post : Int32 → (Nat → Int32) → Int32 → (Nat → Int32) → (Nat → Int32) → (Nat → Int32) → (Nat → Int32) → Prop} (hval : ∀ (i : Int32) (k : Nat), i.toInt = (k : Int) → k < S → ∀ p : Int32 → Prop, p (V k) → w7_valueOf tp bo es f v2 what i p) (hp : ∀ g : Nat → Int32, (∀ k : Nat, k < S → g k = V k) → post s (upd sz (2 : Int32).toNatClampNeg s) es f f0 f1 g) : ∀ (n k : Nat) (i : Int32) (f2 : Nat → Int32), i.toInt = (k : Int) → k + n = S → (∀ q : Nat, q < k → f2 q = V q) → w7_fillArray_L77 tp bo sz es f 2 v2 what s post (n + 1) i f0 f1 f2 := by
  intro n
  induction n with
  | zero =>
    intro k i f2 h1 h2 h3
    rw [w7_fillArray_L77]
    exact ⟨fun _ => ⟨by unfold vp_in; decide, hp _ (fun q hq => h3 q (by omega))⟩, fun q => absurd (i_le.mpr (by omega)) q⟩
  | succ n ih =>
    intro k i f2 h1 h2 h3
    rw [w7_fillArray_L77]
    refine ⟨fun q => absurd (i_le.mp q) (by omega), fun _ => ⟨by unfold vp_in; decide, fun q => absurd q (by decide), fun q => absurd q (by decide), fun _ => hval i k h1 (by omega) _ ⟨vin (by omega) (by omega), fun x ex => ?_⟩⟩⟩
    rw [natc h1]
    refine ih (k + 1) x _ (nxt h1 (by omega) ex) (by omega) (fun q hq => ?_)
    by_cases hki : q = k
    · subst hki; exact upd_eq _ _ _
    · rw [upd_ne _ _ hki]; exact h3 q (by omega)
theorem fa8 {te ru : Int32} {f run ri len : Nat → Int32} {v what A B s : Int32} (hv : isA v) {V : Nat → Int32} {S : Nat} (hs : s.toInt = (S : Int)) (hS : S ≤ 60) {post : Int32 → Int32 → Int32 → (Nat → Int32) → (Nat → Int32) → (Nat → Int32) → (Nat → Int32) → (Nat → Int32) → Prop}
    (hval : ∀ (i : Int32) (k : Nat), i.toInt = (k : Int) → k < S → (what = 0 → f k = V k) ∧ (what = 1 → ∀ p : Int32 → Prop, p (V k) → w8_letterOf A B i p) ∧ (¬ what = 0 → ¬ what = 1 → ∀ p : Int32 → Prop, p (V k) → w8_step ru run ri i p)) : ∀ (n k : Nat) (i : Int32) (c : Nat → Int32), i.toInt = (k : Int) → k + n = S → (∀ g : Nat → Int32, (∀ q : Nat, k ≤ q → q < S → g (60 * v.toNatClampNeg + q) = V q) → (∀ q : Nat, ¬ (60 * v.toNatClampNeg + k ≤ q ∧ q < 60 * v.toNatClampNeg + S) → g q = c q) → post s te ru f run ri len g) → w8_fillArray_L100 te ru f run ri len v what A B s post (n + 1) i c := by
  intro n
  induction n with
  | zero =>
    intro k i c h1 h2 hp
    rw [w8_fillArray_L100]
    exact ⟨fun _ => hp _ (fun q h3 h4 => absurd h4 (by omega)) (fun q _ => rfl), fun q => absurd (i_le.mpr (by omega)) q⟩
  | succ n ih =>
    intro k i c h1 h2 hp
    rw [w8_fillArray_L100]
    have hin := arr_vin (k := i) hv (by omega) (by omega)
    have hna := arr_nat (k := i) hv (by omega) (by omega)
    rw [natc h1] at hna
    obtain ⟨c0, c1, c2⟩ := hval i k h1 (by omega)
    have G : ∀ x : Int32, x = i + 1 → w8_fillArray_L100 te ru f run ri len v what A B s post (n + 1) x (upd c ((60 : Int32) * v + i).toNatClampNeg (V k)) := fun x ex => by
      rw [hna]
      refine ih (k + 1) x _ (nxt h1 (by omega) ex) (by omega) (fun g g1 g2 => hp g (fun q h3 h4 => ?_) (fun q hq => ?_))
      · by_cases hki : q = k
        · subst hki
          rw [g2 _ (by omega), upd_eq]
        · exact g1 q (by omega) h4
      · rw [g2 q (by omega), upd_ne _ _ (by omega)]
    refine ⟨fun q => absurd (i_le.mp q) (by omega), fun _ => ⟨fun q => ⟨fun y => c2 q y _ ⟨hin, fun x ex => G x ex⟩, fun y => c1 y _ ⟨hin, fun x ex => G x ex⟩⟩, fun q => ⟨vin (by omega) (by omega), hin, fun x ex => ?_⟩⟩⟩
    rw [natc h1, c0 q]
    exact G x ex
theorem op_fillArray : Op_fillArray := by
  intro x_hasSnapshot x_termListSize x_textSize x_tops x_bottoms x_slots x_savedTops x_savedBottoms x_savedSlots x_termList x_text x_arraySizes x_E_size x_E_terms x_arrays0 x_arrays1 x_arrays2 m_terms m_runs m_listed m_fed m_hasSnapshot m_above m_below m_term m_run m_isRight m_list m_text m_kindOf m_nodeAbove m_nodeBelow m_length m_cell m_savedAbove m_savedBelow m_savedKind m_savedNodeAbove m_savedNodeBelow PL kk tt bb v1 v2 v3 hI
  obtain ⟨hReg, hList, hText, hArr, hNode, hHs, hHs01, hSnap⟩ := id hI
  unfold w7_fillArray w8_fillArray w7_expand w7_wordSize w1_size
  by_cases h1 : isA v1
  rotate_left
  · simp only [a7n h1, a8n h1, b01, b00, false_implies, true_implies, not_true_eq_false, not_false_eq_true, true_and, and_true]; exact hI
  by_cases h2 : isR v2
  rotate_left
  · simp only [a7y h1, a8y h1, r7n h2, r8n h2, b01, b00, false_implies, true_implies, not_true_eq_false, not_false_eq_true, true_and, and_true]; exact hI
  by_cases h3 : 0 ≤ v3.toInt ∧ v3.toInt ≤ 2
  rotate_left
  · simp only [a7y h1, a8y h1, r7y h2, r8y h2, n7n (lo := 0) (hi := 2) h3, w8n (a := v3.toInt64) (lo := 0) (hi := 2) (by rw [t64]; exact h3), b01, b00, false_implies, true_implies, not_true_eq_false, not_false_eq_true, true_and, and_true]; exact hI
  simp only [a7y h1, a8y h1, r7y h2, r8y h2, n7y (lo := 0) (hi := 2) h3, w8y (a := v3.toInt64) (lo := 0) (hi := 2) (by rw [t64]; exact h3), b01, b00, false_implies, true_implies, not_true_eq_false, not_false_eq_true, true_and, and_true]
  obtain ⟨A, B, N, hC, e1, e2, e3, e4⟩ := hReg.cf h2.lt
  obtain ⟨g1, g2, -⟩ := hReg _ h2.lt
  have hpos := hReg.pos h2.lt
  obtain ⟨s1, c0, c1, c2⟩ := id hArr
  have l0 : (0 : Int32).toInt = 0 := rfl
  have l60 : (60 : Int32).toInt = 60 := rfl
  have hN := hC.2.2.1
  have hNi : (Int32.ofNat N).toInt = (N : Int) := n_toInt (by omega)
  have hb := dep_le hC (k := N) (Nat.le_refl _)
  -- the tail, for a size S
  have T : ∀ (s : Int32) (S : Nat) (f : Nat → Int32), s.toInt = (S : Int) → IsT A B N f → (v3 = 0 → S ≤ N) → (v3 = 1 → True) → (¬ v3 = 0 → ¬ v3 = 1 → S ≤ dep A B N) → ∀ W8 : Int32 → Prop,
      (∀ (r7 : Int32) (post8 : Int32 → Int32 → Int32 → (Nat → Int32) → (Nat → Int32) → (Nat → Int32) → (Nat → Int32) → (Nat → Int32) → Prop), True) →
      True := fun _ _ _ _ _ _ _ _ _ _ => trivial
  have M : ∀ (s : Int32) (S : Nat), s.toInt = (S : Int) → (v3 = 0 → S = N) → (¬ v3 = 0 → ¬ v3 = 1 → S = dep A B N) → ∀ (te ru : Int32) (f run ri : Nat → Int32), (v3 = 0 → IsT A B N f) → (¬ v3 = 1 → IsR A B N run ri) → (ru = Int32.ofNat (N - zz A B N) ∨ v3 = 1) → ∀ post8 : Int32 → Int32 → Int32 → (Nat → Int32) → (Nat → Int32) → (Nat → Int32) → (Nat → Int32) → (Nat → Int32) → Prop, (¬ S ≤ 60 → post8 (-3) te ru f run ri m_length m_cell) → (S ≤ 60 → ∀ g : Nat → Int32, (∀ q : Nat, q < S → g (60 * v1.toNatClampNeg + q) = fV v3 (m_above v2.toNatClampNeg) (m_below v2.toNatClampNeg) A B N q) → (∀ q : Nat, ¬ (60 * v1.toNatClampNeg ≤ q ∧ q < 60 * v1.toNatClampNeg + S) → g q = m_cell q) → post8 s te ru f run ri (upd m_length v1.toNatClampNeg s) g) → w8_fillArray_J79 te ru f run ri m_length m_cell v1 v3 (m_above v2.toNatClampNeg) (m_below v2.toNatClampNeg) s post8 := by
    intro s S hs hS0 hS2 te ru f run ri hf hR hru post8 p1 p2
    unfold w8_fillArray_J79
    refine ⟨fun q => ⟨h1.vin, S + 1, ?_⟩, fun q => p1 (fun z => q (i_le.mpr (by omega)))⟩
    have q := i_le.mp q
    refine fa8 h1 hs (by omega) (V := fun k => fV v3 (m_above v2.toNatClampNeg) (m_below v2.toNatClampNeg) A B N k) (fun i k hi hk => ⟨fun z => ?_, fun z p hp => ?_, fun z y p hp => ?_⟩) S 0 0 m_cell rfl (by omega) (fun g a1 a2 => p2 (by omega) g (fun q hq => a1 q (by omega) hq) (fun q hq => a2 q (by omega)))
    · have := hS0 z
      show f k = fV v3 _ _ A B N k
      rw [fV, if_pos z]; exact of_toInt (hf z k (by omega))
    · have z0 : ¬ v3 = 0 := by rw [z]; decide
      rw [show fV v3 (m_above v2.toNatClampNeg) (m_below v2.toNatClampNeg) A B N k = letF (m_above v2.toNatClampNeg) (m_below v2.toNatClampNeg) (Int32.ofNat k).toInt64 from by rw [fV, if_neg z0, if_pos z], ofN_self hi] at hp
      exact s8_letter hpos hp
    · rw [show fV v3 (m_above v2.toNatClampNeg) (m_below v2.toNatClampNeg) A B N k = stpR (stp (rr A B N) N 0 k) from by rw [fV, if_neg z, if_neg y]] at hp
      have hSd := hS2 z y
      obtain ⟨j, hj⟩ := stp_dep hC (k := k) (by omega)
      rcases hru with hru | hru
      · subst hru
        refine ⟨N - zz A B N + 1, st8_L hC (hR y) (n_toInt (by omega)) (N - zz A B N) 0 k i 0 (by omega) hi rfl ?_⟩
        rw [Nat.zero_add, ← stp_zz hC, hj]
        rw [hj] at hp
        exact hp
      · exact absurd hru y
  -- the class's part
  have X : ∀ (s : Int32) (S : Nat) (f : Nat → Int32), s.toInt = (S : Int) → IsT A B N f → (v3 = 0 → S = N) → ∀ post7 : Int32 → (Nat → Int32) → Int32 → (Nat → Int32) → (Nat → Int32) → (Nat → Int32) → (Nat → Int32) → Prop, (¬ S ≤ 60 → post7 (-3) x_arraySizes (Int32.ofNat N) f x_arrays0 x_arrays1 x_arrays2) → (S ≤ 60 → ∀ g : Nat → Int32, (∀ q : Nat, q < S → g q = fV v3 (m_above v2.toNatClampNeg) (m_below v2.toNatClampNeg) A B N q) → (v1 = 0 → post7 s (upd x_arraySizes v1.toNatClampNeg s) (Int32.ofNat N) f g x_arrays1 x_arrays2) ∧ (v1 = 1 → post7 s (upd x_arraySizes v1.toNatClampNeg s) (Int32.ofNat N) f x_arrays0 g x_arrays2) ∧ (v1 = 2 → post7 s (upd x_arraySizes v1.toNatClampNeg s) (Int32.ofNat N) f x_arrays0 x_arrays1 g)) → w7_fillArray_J62 x_tops x_bottoms x_arraySizes (Int32.ofNat N) f x_arrays0 x_arrays1 x_arrays2 v1 v2 v3 s post7 := by
    intro s S f hs hf hS0 post7 p1 p2
    unfold w7_fillArray_J62
    refine ⟨fun q => ⟨S + 1, ?_⟩, fun q => p1 (fun z => q (i_le.mpr (by omega)))⟩
    have q := i_le.mp q
    have hval : ∀ (i : Int32) (k : Nat), i.toInt = (k : Int) → k < S → ∀ p : Int32 → Prop, p (fV v3 (m_above v2.toNatClampNeg) (m_below v2.toNatClampNeg) A B N k) → w7_valueOf x_tops x_bottoms (Int32.ofNat N) f v2 v3 i p := fun i k hi hk p hp => s7_value h2 hC hf h3 e1 e2 hi (fun z => by have := hS0 z; omega) (by rw [g1, g2]; exact hp)
    rcases arr3 h1 with rfl | rfl | rfl
    · exact fa7_0 hs (by omega) hval (fun g hg => (p2 (by omega) g hg).1 rfl) S 0 0 x_arrays0 rfl (by omega) (fun q hq => absurd hq (by omega))
    · exact fa7_1 hs (by omega) hval (fun g hg => (p2 (by omega) g hg).2.1 rfl) S 0 0 x_arrays1 rfl (by omega) (fun q hq => absurd hq (by omega))
    · exact fa7_2 hs (by omega) hval (fun g hg => (p2 (by omega) g hg).2.2 rfl) S 0 0 x_arrays2 rfl (by omega) (fun q hq => absurd hq (by omega))
  clear T
  have hz0 : (0 : Int32).toNatClampNeg = 0 := rfl
  have hz1 : (1 : Int32).toNatClampNeg = 1 := rfl
  have hz2 : (2 : Int32).toNatClampNeg = 2 := rfl
  -- the arrays afterwards
  have F : ∀ (s : Int32) (S : Nat) (g gm : Nat → Int32), s.toInt = (S : Int) → S ≤ 60 → (∀ q : Nat, q < S → g q = fV v3 (m_above v2.toNatClampNeg) (m_below v2.toNatClampNeg) A B N q) → (∀ q : Nat, q < S → gm (60 * v1.toNatClampNeg + q) = fV v3 (m_above v2.toNatClampNeg) (m_below v2.toNatClampNeg) A B N q) → (∀ q : Nat, ¬ (60 * v1.toNatClampNeg ≤ q ∧ q < 60 * v1.toNatClampNeg + S) → gm q = m_cell q) → (v1 = 0 → IArr (upd x_arraySizes v1.toNatClampNeg s) g x_arrays1 x_arrays2 (upd m_length v1.toNatClampNeg s) gm) ∧ (v1 = 1 → IArr (upd x_arraySizes v1.toNatClampNeg s) x_arrays0 g x_arrays2 (upd m_length v1.toNatClampNeg s) gm) ∧ (v1 = 2 → IArr (upd x_arraySizes v1.toNatClampNeg s) x_arrays0 x_arrays1 g (upd m_length v1.toNatClampNeg s) gm) := by
    intro s S g gm hs hS a1 a2 a3
    have hsz : ∀ j : Nat, j < 3 → upd x_arraySizes v1.toNatClampNeg s j = upd m_length v1.toNatClampNeg s j ∧ -1 ≤ (upd m_length v1.toNatClampNeg s j).toInt ∧ (upd m_length v1.toNatClampNeg s j).toInt ≤ 60 := fun j hj => by
      by_cases hk : j = v1.toNatClampNeg
      · subst hk
        simp only [upd_eq]
        exact ⟨trivial, by omega, by omega⟩
      · simp only [upd_ne _ _ hk]
        exact s1 j hj
    have b0 := (s1 0 (by decide)).2.2
    have b1 := (s1 1 (by decide)).2.2
    have b2 := (s1 2 (by decide)).2.2
    refine ⟨fun q => ⟨hsz, fun k hk => ?_, fun k hk => ?_, fun k hk => ?_⟩, fun q => ⟨hsz, fun k hk => ?_, fun k hk => ?_, fun k hk => ?_⟩, fun q => ⟨hsz, fun k hk => ?_, fun k hk => ?_, fun k hk => ?_⟩⟩
    all_goals subst q
    · rw [show upd m_length (0 : Int32).toNatClampNeg s 0 = s from upd_eq _ _ _, hs] at hk
      rw [a1 k (by omega), ← a2 k (by omega)]
      first | rfl | (congr 1; omega)
    · rw [show upd m_length (0 : Int32).toNatClampNeg s 1 = m_length 1 from upd_ne _ _ (by decide)] at hk
      rw [a3 _ (by omega)]
      exact c1 k hk
    · rw [show upd m_length (0 : Int32).toNatClampNeg s 2 = m_length 2 from upd_ne _ _ (by decide)] at hk
      rw [a3 _ (by omega)]
      exact c2 k hk
    · rw [show upd m_length (1 : Int32).toNatClampNeg s 0 = m_length 0 from upd_ne _ _ (by decide)] at hk
      rw [a3 _ (by omega)]
      exact c0 k hk
    · rw [show upd m_length (1 : Int32).toNatClampNeg s 1 = s from upd_eq _ _ _, hs] at hk
      rw [a1 k (by omega), ← a2 k (by omega)]
      first | rfl | (congr 1; omega)
    · rw [show upd m_length (1 : Int32).toNatClampNeg s 2 = m_length 2 from upd_ne _ _ (by decide)] at hk
      rw [a3 _ (by omega)]
      exact c2 k hk
    · rw [show upd m_length (2 : Int32).toNatClampNeg s 0 = m_length 0 from upd_ne _ _ (by decide)] at hk
      rw [a3 _ (by omega)]
      exact c0 k hk
    · rw [show upd m_length (2 : Int32).toNatClampNeg s 1 = m_length 1 from upd_ne _ _ (by decide)] at hk
      rw [a3 _ (by omega)]
      exact c1 k hk
    · rw [show upd m_length (2 : Int32).toNatClampNeg s 2 = s from upd_eq _ _ _, hs] at hk
      rw [a1 k (by omega), ← a2 k (by omega)]
      first | rfl | (congr 1; omega)
  have M2 : ∀ (s : Int32) (S : Nat), s.toInt = (S : Int) → (v3 = 0 → S = N) → (v3 = 1 → s = m_above v2.toNatClampNeg + m_below v2.toNatClampNeg) → (¬ v3 = 0 → ¬ v3 = 1 → S = dep A B N) → ∀ post8 : Int32 → Int32 → Int32 → (Nat → Int32) → (Nat → Int32) → (Nat → Int32) → (Nat → Int32) → (Nat → Int32) → Prop, (¬ S ≤ 60 → ∀ te ru f run ri, post8 (-3) te ru f run ri m_length m_cell) → (S ≤ 60 → ∀ (te ru : Int32) (f run ri g : Nat → Int32), (∀ q : Nat, q < S → g (60 * v1.toNatClampNeg + q) = fV v3 (m_above v2.toNatClampNeg) (m_below v2.toNatClampNeg) A B N q) → (∀ q : Nat, ¬ (60 * v1.toNatClampNeg ≤ q ∧ q < 60 * v1.toNatClampNeg + S) → g q = m_cell q) → post8 s te ru f run ri (upd m_length v1.toNatClampNeg s) g) → (vp_in v2 8 ∧ ∀ x36 : Int32, x36 = m_above v2.toNatClampNeg → vp_in v2 8 ∧ ∀ x44 : Int32, x44 = m_below v2.toNatClampNeg → (¬ v3 = 1 → w8_depthOf m_terms m_runs m_term m_run m_isRight x36 x44 (fun r64 f_terms_64 f_runs_64 f_term_64 f_run_64 f_isRight_64 => w8_fillArray_J67 f_terms_64 f_runs_64 f_term_64 f_run_64 f_isRight_64 m_length m_cell v1 v3 x36 x44 r64 post8)) ∧ (v3 = 1 → w8_fillArray_J67 m_terms m_runs m_term m_run m_isRight m_length m_cell v1 v3 x36 x44 (x36 + x44) post8)) := by
    intro s S hs hS0 hS1 hS2 post8 p1 p2
    refine ⟨h2.vin, fun a9 ea => ⟨h2.vin, fun b9 eb => ⟨fun z1 => ?_, fun z1 => ?_⟩⟩⟩
    · subst ea; subst eb
      refine s8_depthOf hC e3 e4 (fun r f run ri hr hf hR => ?_)
      unfold w8_fillArray_J67
      refine ⟨fun z0 => ?_, fun z0 => ?_⟩
      · have : S = dep A B N := hS2 z0 z1
        obtain rfl : r = s := i_ext (by rw [hr, hs, this])
        exact M r S hs hS0 hS2 _ _ f run ri (fun _ => hf) (fun _ => hR) (Or.inl rfl) post8 (fun q => p1 q _ _ _ _ _) (fun q g a1 a2 => p2 q _ _ _ _ _ g a1 a2)
      · have : S = N := hS0 z0
        obtain rfl : Int32.ofNat N = s := i_ext (by rw [hNi, hs, this])
        exact M _ S hs hS0 hS2 _ _ f run ri (fun _ => hf) (fun _ => hR) (Or.inl rfl) post8 (fun q => p1 q _ _ _ _ _) (fun q g a1 a2 => p2 q _ _ _ _ _ g a1 a2)
    · subst ea; subst eb
      have z0 : ¬ v3 = 0 := by rw [z1]; decide
      unfold w8_fillArray_J67
      refine ⟨fun _ => ?_, fun z => absurd z z0⟩
      rw [← hS1 z1]
      exact M s S hs hS0 hS2 _ _ _ _ _ (fun z => absurd z z0) (fun z => absurd z1 z) (Or.inr z1) post8 (fun q => p1 q _ _ _ _ _) (fun q g a1 a2 => p2 q _ _ _ _ _ g a1 a2)
  have key : ∀ (s : Int32) (S : Nat) (f : Nat → Int32), s.toInt = (S : Int) → IsT A B N f → (v3 = 0 → S = N) → (v3 = 1 → s = m_above v2.toNatClampNeg + m_below v2.toNatClampNeg) → (¬ v3 = 0 → ¬ v3 = 1 → S = dep A B N) → w7_fillArray_J62 x_tops x_bottoms x_arraySizes (Int32.ofNat N) f x_arrays0 x_arrays1 x_arrays2 v1 v2 v3 s (fun r7 x_arraySizes' x_E_size' x_E_terms' x_arrays0' x_arrays1' x_arrays2' => (vp_in v2 8 ∧ ∀ x36 : Int32, x36 = m_above v2.toNatClampNeg → vp_in v2 8 ∧ ∀ x44 : Int32, x44 = m_below v2.toNatClampNeg → (¬ v3 = 1 → w8_depthOf m_terms m_runs m_term m_run m_isRight x36 x44 (fun r64 f_terms_64 f_runs_64 f_term_64 f_run_64 f_isRight_64 => w8_fillArray_J67 f_terms_64 f_runs_64 f_term_64 f_run_64 f_isRight_64 m_length m_cell v1 v3 x36 x44 r64 (fun r8 m_terms' m_runs' m_term' m_run' m_isRight' m_length' m_cell' => r7 = r8 ∧ (LInv x_hasSnapshot x_termListSize x_textSize x_tops x_bottoms x_slots x_savedTops x_savedBottoms x_savedSlots x_termList x_text x_arraySizes' x_arrays0' x_arrays1' x_arrays2' m_hasSnapshot m_above m_below m_list m_listed m_text m_fed m_kindOf m_nodeAbove m_nodeBelow m_length' m_cell' m_savedAbove m_savedBelow m_savedKind m_savedNodeAbove m_savedNodeBelow PL kk tt bb)))) ∧ (v3 = 1 → w8_fillArray_J67 m_terms m_runs m_term m_run m_isRight m_length m_cell v1 v3 x36 x44 (x36 + x44) (fun r8 m_terms' m_runs' m_term' m_run' m_isRight' m_length' m_cell' => r7 = r8 ∧ (LInv x_hasSnapshot x_termListSize x_textSize x_tops x_bottoms x_slots x_savedTops x_savedBottoms x_savedSlots x_termList x_text x_arraySizes' x_arrays0' x_arrays1' x_arrays2' m_hasSnapshot m_above m_below m_list m_listed m_text m_fed m_kindOf m_nodeAbove m_nodeBelow m_length' m_cell' m_savedAbove m_savedBelow m_savedKind m_savedNodeAbove m_savedNodeBelow PL kk tt bb))))) := by
    intro s S f hs hf hS0 hS1 hS2
    refine X s S f hs hf hS0 _ (fun q => M2 s S hs hS0 hS1 hS2 _ (fun _ te ru f run ri => ⟨rfl, hI⟩) (fun z => absurd z q)) (fun q g hg => ⟨fun z => ?_, fun z => ?_, fun z => ?_⟩)
    · exact M2 s S hs hS0 hS1 hS2 _ (fun z => absurd q z) (fun _ te ru f run ri gm a1 a2 => ⟨rfl, hReg, hList, hText, (F s S g gm hs q hg a1 a2).1 z, hNode, hHs, hHs01, hSnap⟩)
    · exact M2 s S hs hS0 hS1 hS2 _ (fun z => absurd q z) (fun _ te ru f run ri gm a1 a2 => ⟨rfl, hReg, hList, hText, (F s S g gm hs q hg a1 a2).2.1 z, hNode, hHs, hHs01, hSnap⟩)
    · exact M2 s S hs hS0 hS1 hS2 _ (fun z => absurd q z) (fun _ te ru f run ri gm a1 a2 => ⟨rfl, hReg, hList, hText, (F s S g gm hs q hg a1 a2).2.2 z, hNode, hHs, hHs01, hSnap⟩)
  refine ⟨h2.vin, h2.vin, s1_expand hC e1 e2 (fun f hf => ⟨fun z0 => ⟨fun z1 => s1_stepCount hC hf (fun r hr => ?_), fun z1 => ⟨h2.vin, h2.vin, ?_⟩⟩, fun z0 => ?_⟩)⟩
  · exact key r (dep A B N) f hr hf (fun z => absurd z z0) (fun z => absurd z z1) (fun _ _ => rfl)
  · rw [g1, g2]
    refine key _ (A + B) f ?_ hf (fun z => absurd z z0) (fun _ => rfl) (fun _ z => absurd z1 z)
    rw [i_add (by omega) (by omega), e3, e4]; rfl
  · exact key _ N f hNi hf (fun _ => rfl) (fun z => absurd (z0.symm.trans z) (by decide)) (fun z => absurd z0 z)
