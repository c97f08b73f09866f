/-- the run in which step 'left' (counted from run k on) lies -/
def stp (f : Nat → Nat) : Nat → Nat → Nat → Option Nat
  | 0, _, _ => none
  | n + 1, k, left => if left < f k then some k else stp f n (k + 1) (left - f k)
def stpR (o : Option Nat) : Int32 := match o with
  | none => -2
  | some k => par k
theorem zz_cases {a b N : Nat} (h : CF a b N) : (zz a b N = 0 ∧ ¬ rr a b N 0 = 0) ∨ (zz a b N = 1 ∧ rr a b N 0 = 0) := by
  unfold zz
  by_cases q : rr a b N 0 = 0
  · exact Or.inr ⟨if_pos q, q⟩
  · exact Or.inl ⟨if_neg q, q⟩
theorem stp_zz {a b N : Nat} (h : CF a b N) (left : Nat) : stp (rr a b N) N 0 left = stp (rr a b N) (N - zz a b N) (zz a b N) left := by
  rcases zz_cases h with ⟨z, _⟩ | ⟨z, q⟩
  · rw [z]; rfl
  · rw [z]
    obtain ⟨m, hm⟩ : ∃ m, N = m + 1 := ⟨N - 1, by have := h.2.1; omega⟩
    rw [show N - 1 = m by omega]
    have e : stp (rr a b N) (m + 1) 0 left = if left < rr a b N 0 then some 0 else stp (rr a b N) m 1 (left - rr a b N 0) := rfl
    rw [q, if_neg (by omega), Nat.sub_zero] at e
    rw [← e, hm]
theorem sa7_L {a b N : Nat} (h : CF a b N) {f : Nat → Int32} (hf : IsT a b N f) {post : Int32 → Prop} : ∀ (n k left : Nat) (v i : Int32), k + n = N → v.toInt = (left : Int) → i.toInt = (k : Int) → post (stpR (stp (rr a b N) n k left)) → w1_stepAt_L4 (Int32.ofNat N) f post (n + 1) v i := by
  have hN := h.2.2.1
  have l0 : (0 : Int32).toInt = 0 := rfl
  have e : (Int32.ofNat N).toInt = (N : Int) := n_toInt (by omega)
  intro n
  induction n with
  | zero =>
    intro k left v i hk hv hi hp
    rw [w1_stepAt_L4]
    exact ⟨fun _ => hp, fun q => absurd (i_le.mpr (by omega)) q⟩
  | succ n ih =>
    intro k left v i hk hv hi hp
    rw [w1_stepAt_L4]
    have es : stp (rr a b N) (n + 1) k left = if left < rr a b N k then some k else stp (rr a b N) n (k + 1) (left - rr a b N k) := rfl
    rw [es] at hp
    refine ⟨fun q => absurd (i_le.mp q) (by omega), fun _ => s1_runAt h hf hi (by omega) (fun r hr => ⟨fun q => s1_runAt h hf hi (by omega) (fun r2 hr2 x ex j ej => ?_), fun q => ?_⟩)⟩
    · have q := i_le.mp q
      rw [if_neg (by omega)] at hp
      have := i_range v
      exact ih (k + 1) (left - rr a b N k) x j (by omega) (by rw [ex, i_sub (by omega) (by omega), hv, hr2]; omega) (nxt hi (by omega) ej) hp
    · have q : ¬ r.toInt ≤ v.toInt := fun z => q (i_le.mpr z)
      rw [if_pos (by omega)] at hp
      have hpar := par2 hi
      refine ⟨by decide, fun z => ?_, fun z => ?_⟩
      · have : ¬ k % 2 = 0 := fun y => z (i_ext (by rw [hpar, y]; rfl))
        simp only [stpR, par, if_neg this] at hp
        exact hp
      · have : k % 2 = 0 := by
          have e := congrArg Int32.toInt z
          rw [hpar, l0] at e; omega
        simp only [stpR, par, if_pos this] at hp
        exact hp
def stpM (o : Option Nat) : Int32 := match o with
  | none => -1
  | some k => par k
theorem st8_L {a b N : Nat} (h : CF a b N) {run ri : Nat → Int32} (hR : IsR a b N run ri) {t : Int32} (ht : t.toInt = ((N - zz a b N : Nat) : Int)) {post : Int32 → Prop} : ∀ (n k left : Nat) (v i : Int32), k + n = N - zz a b N → v.toInt = (left : Int) → i.toInt = (k : Int) → post (stpM (stp (rr a b N) n (k + zz a b N) left)) → w8_step_L4 t run ri post (n + 1) v i := by
  have hN := h.2.2.1
  intro n
  induction n with
  | zero =>
    intro k left v i hk hv hi hp
    rw [w8_step_L4]
    exact ⟨fun _ => hp, fun q => absurd (i_le.mpr (by omega)) q⟩
  | succ n ih =>
    intro k left v i hk hv hi hp
    rw [w8_step_L4]
    obtain ⟨r1, r2⟩ := hR k (by omega)
    have es : stp (rr a b N) (n + 1) (k + zz a b N) left = if left < rr a b N (k + zz a b N) then some (k + zz a b N) else stp (rr a b N) n (k + zz a b N + 1) (left - rr a b N (k + zz a b N)) := rfl
    rw [es] at hp
    have hvi : vp_in i 64 := vin (by omega) (by omega)
    rw [natc hi]
    refine ⟨fun q => absurd (i_le.mp q) (by omega), fun _ => ⟨hvi, fun q => ⟨hvi, fun x ex j ej => ?_⟩, fun q => ⟨hvi, ?_⟩⟩⟩
    · have q := i_le.mp q
      rw [if_neg (by omega)] at hp
      have := i_range v
      refine ih (k + 1) (left - rr a b N (k + zz a b N)) x j (by omega) (by rw [ex, i_sub (by omega) (by omega), hv, r1]; omega) (nxt hi (by omega) ej) ?_
      rw [show k + 1 + zz a b N = k + zz a b N + 1 by omega]
      exact hp
    · have q : ¬ (run k).toInt ≤ v.toInt := fun z => q (i_le.mpr z)
      rw [if_pos (by omega)] at hp
      rw [r2]
      exact hp
theorem par_ge (k : Nat) : 0 ≤ par k := by
  unfold par
  split
  · decide
  · decide
theorem op_pathStep : Op_pathStep := by
  intro x_hasSnapshot x_termListSize x_textSize x_tops x_bottoms x_slots x_savedTops x_savedBottoms x_savedSlots x_termList x_text x_arraySizes x_E_size x_E_terms x_arrays0 x_arrays1 x_arrays2 m_terms m_runs m_listed m_fed m_hasSnapshot m_above m_below m_term m_run m_isRight m_list m_text m_kindOf m_nodeAbove m_nodeBelow m_length m_cell m_savedAbove m_savedBelow m_savedKind m_savedNodeAbove m_savedNodeBelow PL kk tt bb v1 v2 hI
  obtain ⟨hReg, hList, hText, hArr, hNode, hHs, hHs01, hSnap⟩ := id hI
  unfold w7_pathStep w8_pathStep w7_expand
  by_cases h1 : isR v1
  rotate_left
  · simp only [r7n h1, r8n h1, b01, b00, false_implies, true_implies, not_true_eq_false, not_false_eq_true, true_and, and_true]; exact hI
  simp only [r7y h1, r8y h1, b01, b00, false_implies, true_implies, not_true_eq_false, not_false_eq_true, true_and, and_true]
  obtain ⟨A, B, N, hC, e1, e2, e3, e4⟩ := hReg.cf h1.lt
  have l0 : (0 : Int32).toInt = 0 := rfl
  have hN := hC.2.2.1
  refine ⟨fun k => ⟨h1.vin, h1.vin, s1_expand hC e1 e2 (fun f hf => ?_)⟩, fun k => ⟨fun q => absurd q k, fun _ => hI⟩⟩
  have k0 := i_le.mp k
  have hv : v2.toInt = ((v2.toNatClampNeg : Nat) : Int) := (clamp (by omega)).symm
  refine ⟨_, sa7_L hC hf N 0 v2.toNatClampNeg v2 0 (by omega) hv rfl ⟨fun _ => ⟨h1.vin, h1.vin, s8_layRuns hC e3 e4 (fun f2 run ri hf2 hR => ⟨N - zz A B N + 1, st8_L hC hR (n_toInt (by omega)) (N - zz A B N) 0 v2.toNatClampNeg v2 0 (by omega) hv rfl ?_⟩)⟩, fun z => absurd k z⟩⟩
  rw [stp_zz hC, Nat.zero_add]
  cases stp (rr A B N) (N - zz A B N) (zz A B N) v2.toNatClampNeg with
  | none => exact ⟨fun z => absurd z (by decide), fun _ => ⟨rfl, hI⟩⟩
  | some j => exact ⟨fun _ => ⟨rfl, hI⟩, fun z => absurd (par_ge j) z⟩
theorem zz_le {a b N : Nat} (h : CF a b N) : zz a b N ≤ 1 ∧ zz a b N ≤ N := by
  have := h.2.1
  unfold zz
  split <;> omega
theorem rc7_L {a b N : Nat} (h : CF a b N) {f : Nat → Int32} (hf : IsT a b N f) {post : Int32 → Int32 → (Nat → Int32) → Prop} (hp : post (Int32.ofNat (N - zz a b N)) (Int32.ofNat N) f) : ∀ (n k : Nat) (i : Int32), k + n = N → i.toInt = (k : Int) → w7_runCount_L20 (Int32.ofNat N) f post (n + 1) (Int32.ofNat (k - zz a b N)) i := by
  have hN := h.2.2.1
  have l0 : (0 : Int32).toInt = 0 := rfl
  have e : (Int32.ofNat N).toInt = (N : Int) := n_toInt (by omega)
  intro n
  induction n with
  | zero =>
    intro k i hk hi
    obtain rfl : k = N := by omega
    rw [w7_runCount_L20]
    exact ⟨fun _ => hp, fun q => absurd (i_le.mpr (by omega)) q⟩
  | succ n ih =>
    intro k i hk hi
    rw [w7_runCount_L20]
    unfold w1_size
    refine ⟨fun q => absurd (i_le.mp q) (by omega), fun _ => s1_runAt h hf hi (by omega) (fun r hr => ⟨fun q j ej => ?_, fun q x ex j ej => ?_⟩)⟩
    · have q := i_le.mp q
      have hr0 : rr a b N k = 0 := by omega
      have hk0 : k = 0 := by
        rcases Nat.eq_zero_or_pos k with z | z
        · exact z
        · have := rr_pos h z (by omega); omega
      have := ih (k + 1) j (by omega) (nxt hi (by omega) ej)
      subst hk0
      have hz : zz a b N = 1 := if_pos hr0
      rw [hz] at this ⊢
      exact this
    · have q : ¬ r.toInt ≤ 0 := fun z => q (i_le.mpr z)
      have hz : zz a b N ≤ k := by
        rcases zz_cases h with ⟨z, _⟩ | ⟨z, y⟩
        · omega
        · rcases Nat.eq_zero_or_pos k with w | w
          · subst w; omega
          · omega
      have := ih (k + 1) j (by omega) (nxt hi (by omega) ej)
      rw [ex, ofN_1, show k - zz a b N + 1 = k + 1 - zz a b N by omega]
      exact this
theorem op_runCount : Op_runCount := by
  intro x_hasSnapshot x_termListSize x_textSize x_tops x_bottoms x_slots x_savedTops x_savedBottoms x_savedSlots x_termList x_text x_arraySizes x_E_size x_E_terms x_arrays0 x_arrays1 x_arrays2 m_terms m_runs m_listed m_fed m_hasSnapshot m_above m_below m_term m_run m_isRight m_list m_text m_kindOf m_nodeAbove m_nodeBelow m_length m_cell m_savedAbove m_savedBelow m_savedKind m_savedNodeAbove m_savedNodeBelow PL kk tt bb v1 hI
  obtain ⟨hReg, hList, hText, hArr, hNode, hHs, hHs01, hSnap⟩ := id hI
  unfold w7_runCount w8_runCount w7_expand
  by_cases h1 : isR v1
  rotate_left
  · simp only [r7n h1, r8n h1, b01, b00, false_implies, true_implies, not_true_eq_false, not_false_eq_true, true_and, and_true]; exact hI
  simp only [r7y h1, r8y h1, b01, b00, false_implies, true_implies, not_true_eq_false, not_false_eq_true, true_and, and_true]
  obtain ⟨A, B, N, hC, e1, e2, e3, e4⟩ := hReg.cf h1.lt
  refine ⟨h1.vin, h1.vin, s1_expand hC e1 e2 (fun f hf => ⟨N + 1, ?_⟩)⟩
  have := rc7_L hC hf (post := fun r7 x_E_size' x_E_terms' => vp_in v1 8 ∧ vp_in v1 8 ∧ w8_layRuns m_terms m_runs m_term m_run m_isRight (m_above v1.toNatClampNeg) (m_below v1.toNatClampNeg) (fun f_terms_23 f_runs_23 f_term_23 f_run_23 f_isRight_23 => r7 = f_runs_23 ∧ LInv x_hasSnapshot x_termListSize x_textSize x_tops x_bottoms x_slots x_savedTops x_savedBottoms x_savedSlots x_termList x_text x_arraySizes x_arrays0 x_arrays1 x_arrays2 m_hasSnapshot m_above m_below m_list m_listed m_text m_fed m_kindOf m_nodeAbove m_nodeBelow m_length m_cell m_savedAbove m_savedBelow m_savedKind m_savedNodeAbove m_savedNodeBelow PL kk tt bb)) ⟨h1.vin, h1.vin, s8_layRuns hC e3 e4 (fun f2 run ri hf2 hR => ⟨rfl, hI⟩)⟩ N 0 0 (by omega) rfl
  rw [Nat.zero_sub] at this
  exact this
theorem rn7_L {a b N : Nat} (h : CF a b N) {f : Nat → Int32} (hf : IsT a b N f) {v2 : Int32} {w : Nat} (hw : v2.toInt = (w : Int)) {post : Int32 → Int32 → (Nat → Int32) → Prop} (hp1 : N - zz a b N ≤ w → post (-2) (Int32.ofNat N) f) (hp2 : w < N - zz a b N → ∀ r : Int32, r.toInt = (rr a b N (w + zz a b N) : Int) → post r (Int32.ofNat N) f) : ∀ (n k : Nat) (i : Int32), k + n = N → i.toInt = (k : Int) → k - zz a b N ≤ w → w7_run_L25 (Int32.ofNat N) f v2 post (n + 1) (Int32.ofNat (k - zz a b N)) i := by
  have hN := h.2.2.1
  have l0 : (0 : Int32).toInt = 0 := rfl
  have e : (Int32.ofNat N).toInt = (N : Int) := n_toInt (by omega)
  intro n
  induction n with
  | zero =>
    intro k i hk hi hkw
    obtain rfl : k = N := by omega
    rw [w7_run_L25]
    exact ⟨fun _ => hp1 hkw, fun q => absurd (i_le.mpr (by omega)) q⟩
  | succ n ih =>
    intro k i hk hi hkw
    rw [w7_run_L25]
    unfold w1_size
    have hci : (Int32.ofNat (k - zz a b N)).toInt = ((k - zz a b N : Nat) : Int) := n_toInt (by omega)
    refine ⟨fun q => absurd (i_le.mp q) (by omega), fun _ => s1_runAt h hf hi (by omega) (fun r hr => ⟨fun q j ej => ?_, fun q => ?_⟩)⟩
    · have q := i_le.mp q
      have hr0 : rr a b N k = 0 := by omega
      have hk0 : k = 0 := by
        rcases Nat.eq_zero_or_pos k with z | z
        · exact z
        · have := rr_pos h z (by omega); omega
      subst hk0
      have hz : zz a b N = 1 := if_pos hr0
      have := ih (0 + 1) j (by omega) (nxt hi (by omega) ej) (by omega)
      rw [hz] at this ⊢
      exact this
    · have q : ¬ r.toInt ≤ 0 := fun z => q (i_le.mpr z)
      have hz : zz a b N ≤ k := by
        rcases zz_cases h with ⟨z, _⟩ | ⟨z, y⟩
        · omega
        · rcases Nat.eq_zero_or_pos k with w | w
          · subst w; omega
          · omega
      refine ⟨fun g x ex j ej => ?_, fun g => s1_runAt h hf hi (by omega) (fun r2 hr2 => hp2 ?_ r2 ?_)⟩
      · have hne : ¬ k - zz a b N = w := fun y => g (i_ext (by rw [hci, hw, y]))
        have := ih (k + 1) j (by omega) (nxt hi (by omega) ej) (by omega)
        rw [ex, ofN_1, show k - zz a b N + 1 = k + 1 - zz a b N by omega]
        exact this
      · have y : k - zz a b N = w := by
          have y := congrArg Int32.toInt g
          rw [hci, hw] at y; omega
        omega
      · have y : k - zz a b N = w := by
          have y := congrArg Int32.toInt g
          rw [hci, hw] at y; omega
        rw [hr2, show w + zz a b N = k by omega]
theorem op_run : Op_run := by
  intro x_hasSnapshot x_termListSize x_textSize x_tops x_bottoms x_slots x_savedTops x_savedBottoms x_savedSlots x_termList x_text x_arraySizes x_E_size x_E_terms x_arrays0 x_arrays1 x_arrays2 m_terms m_runs m_listed m_fed m_hasSnapshot m_above m_below m_term m_run m_isRight m_list m_text m_kindOf m_nodeAbove m_nodeBelow m_length m_cell m_savedAbove m_savedBelow m_savedKind m_savedNodeAbove m_savedNodeBelow PL kk tt bb v1 v2 hI
  obtain ⟨hReg, hList, hText, hArr, hNode, hHs, hHs01, hSnap⟩ := id hI
  unfold w7_run w8_run w7_expand
  by_cases h1 : isR v1
  rotate_left
  · simp only [r7n h1, r8n h1, b01, b00, false_implies, true_implies, not_true_eq_false, not_false_eq_true, true_and, and_true]; exact hI
  simp only [r7y h1, r8y h1, b01, b00, false_implies, true_implies, not_true_eq_false, not_false_eq_true, true_and, and_true]
  obtain ⟨A, B, N, hC, e1, e2, e3, e4⟩ := hReg.cf h1.lt
  have l0 : (0 : Int32).toInt = 0 := rfl
  have hN := hC.2.2.1
  have hz := zz_le hC
  refine ⟨fun k => ⟨h1.vin, h1.vin, s1_expand hC e1 e2 (fun f hf => ⟨N + 1, ?_⟩)⟩, fun k => ⟨fun q => absurd q k, fun _ => hI⟩⟩
  have k0 := i_le.mp k
  have hv : v2.toInt = ((v2.toNatClampNeg : Nat) : Int) := (clamp (by omega)).symm
  have hM : (Int32.ofNat (N - zz A B N)).toInt = ((N - zz A B N : Nat) : Int) := n_toInt (by omega)
  have hr := i_range v2
  have key := fun (post : Int32 → Int32 → (Nat → Int32) → Prop) p1 p2 => rn7_L hC hf (v2 := v2) (w := v2.toNatClampNeg) hv (post := post) p1 p2 N 0 0 (by omega) rfl (by omega)
  rw [Nat.zero_sub] at key
  refine key _ (fun hle => ?_) (fun hlt r hr9 => ?_)
  · refine ⟨fun _ => ⟨h1.vin, h1.vin, s8_layRuns hC e3 e4 (fun f2 run ri hf2 hR => ⟨fun _ => ⟨rfl, hI⟩, fun z => absurd (i_le.mpr (by omega)) z⟩)⟩, fun z => absurd k z⟩
  · refine ⟨fun _ => ⟨h1.vin, h1.vin, s8_layRuns hC e3 e4 (fun f2 run ri hf2 hR => ⟨fun z => absurd (i_le.mp z) (by omega), fun _ => ⟨vin (by omega) (by omega), i_ext ?_, hI⟩⟩)⟩, fun z => absurd k z⟩
    rw [hr9, (hR _ hlt).1]
