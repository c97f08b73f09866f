/-! rankedBetween: the rank -/
noncomputable def rK (v : Int32) (σ : RS) (j : Nat) : Nat := Kf v (σ.2.1 j) (σ.2.2 j)
noncomputable def rCu (v : Int32) (σ : RS) (κ n : Nat) : Nat := sumN (fun j => if rK v σ j < κ then 1 else 0) n
noncomputable def rAH (v : Int32) (σ : RS) (k n : Nat) : Nat := sumN (fun j => if rK v σ j < rK v σ k ∨ rK v σ j = rK v σ k ∧ j < k then 1 else 0) n
theorem rCu_succ (v : Int32) (σ : RS) (κ n : Nat) : rCu v σ (κ + 1) n = rCu v σ κ n + rTl v σ κ n := by
  unfold rCu rTl
  rw [← sumN_plus]
  refine sumN_cg (fun j _ => ?_)
  have e : Kf v (σ.2.1 j) (σ.2.2 j) = rK v σ j := rfl
  rw [e]
  repeat' split
  all_goals omega
theorem rCu_0 (v : Int32) (σ : RS) : ∀ n, rCu v σ 0 n = 0
  | 0 => rfl
  | n + 1 => by
    show rCu v σ 0 n + (if rK v σ n < 0 then 1 else 0) = 0
    rw [rCu_0 v σ n, if_neg (Nat.not_lt_zero _)]
theorem rCu_all {v : Int32} {σ : RS} {κ : Nat} : ∀ {n}, (∀ j, j < n → rK v σ j < κ) → rCu v σ κ n = n
  | 0, _ => rfl
  | n + 1, h => by
    show rCu v σ κ n + (if rK v σ n < κ then 1 else 0) = n + 1
    rw [rCu_all (n := n) (fun j hj => h j (by omega)), if_pos (h n (by omega))]
theorem rCu_le (v : Int32) (σ : RS) (κ n : Nat) : rCu v σ κ n ≤ 1 * n := sumN_le (fun i _ => by split <;> omega)
theorem rAH_le (v : Int32) (σ : RS) (k n : Nat) : rAH v σ k n ≤ 1 * n := sumN_le (fun i _ => by split <;> omega)
theorem sumN_cut {A : Nat → Prop} [∀ j, Decidable (A j)] {P : Nat} : ∀ n, P ≤ n → sumN (fun j => if A j ∧ j < P then 1 else 0) n = sumN (fun j => if A j then 1 else 0) P
  | 0, h => by
    obtain rfl : P = 0 := by omega
    rfl
  | n + 1, h => by
    show sumN (fun j => if A j ∧ j < P then 1 else 0) n + (if A n ∧ n < P then 1 else 0) = _
    by_cases q : P = n + 1
    · subst q
      show _ = sumN (fun j => if A j then 1 else 0) n + (if A n then 1 else 0)
      have e1 : sumN (fun j => if A j ∧ j < n + 1 then 1 else 0) n = sumN (fun j => if A j then 1 else 0) n := sumN_cg (fun j hj => by
        by_cases w : A j
        · rw [if_pos ⟨w, by omega⟩, if_pos w]
        · rw [if_neg (fun y => w y.1), if_neg w])
      rw [e1]
      by_cases w : A n
      · rw [if_pos ⟨w, by omega⟩, if_pos w]
      · rw [if_neg (fun y => w y.1), if_neg w]
    · rw [sumN_cut n (by omega), if_neg (fun y => by have := y.2; omega)]; rfl
theorem rAH_eq {v : Int32} {σ : RS} {P n : Nat} (hP : P < n) : rAH v σ P n = rCu v σ (rK v σ P) n + rTl v σ (rK v σ P) P := by
  have e : rTl v σ (rK v σ P) P = sumN (fun j => if rK v σ j = rK v σ P ∧ j < P then 1 else 0) n := (sumN_cut (A := fun j => rK v σ j = rK v σ P) n (by omega)).symm
  rw [e]
  unfold rAH rCu
  rw [← sumN_plus]
  refine sumN_cg (fun j _ => ?_)
  repeat' split
  all_goals omega
theorem rAH_lt {v : Int32} {σ : RS} {k P n : Nat} (hk : k < n) (hb : rK v σ k < rK v σ P ∨ rK v σ k = rK v σ P ∧ k < P) : rAH v σ k n < rAH v σ P n := by
  unfold rAH
  refine sumN_lt hk (fun j _ => ?_) ?_
  · by_cases q : rK v σ j < rK v σ k ∨ rK v σ j = rK v σ k ∧ j < k
    · rw [if_pos q, if_pos (by omega)]; exact Nat.le_refl _
    · rw [if_neg q]; exact Nat.zero_le _
  · rw [if_neg (by omega), if_pos hb]; omega
theorem rAH_ne {v : Int32} {σ : RS} {k P n : Nat} (hk : k < n) (hP : P < n) (hne : ¬ k = P) : ¬ rAH v σ k n = rAH v σ P n := by
  intro e
  rcases (show (rK v σ k < rK v σ P ∨ rK v σ k = rK v σ P ∧ k < P) ∨ (rK v σ P < rK v σ k ∨ rK v σ P = rK v σ k ∧ P < k) by omega) with q | q
  · have := rAH_lt hk q; omega
  · have := rAH_lt hP q; omega
theorem po39_L {v : Int32} {σ : RS} {Rs : Int32} {ks : Nat → Int32} (hc : σ.1 ≤ 719) (hRs : Rs.toInt = (σ.1 : Int)) (hks : ∀ j, j < σ.1 → (ks j).toInt = (rK v σ j : Int)) {key : Int32} {κ L : Nat} (hkey : key.toInt = (κ : Int)) (hL : L < rTl v σ κ σ.1) {post : Int32 → Prop} (hp : ∀ P, P < σ.1 → rK v σ P = κ → rTl v σ κ P = L → post (Int32.ofNat P)) : ∀ (n k : Nat) (left i : Int32), k + n = σ.1 → rTl v σ κ k ≤ L → left.toInt = ((L - rTl v σ κ k : Nat) : Int) → i.toInt = (k : Int) → w4_placeOf_L39 Rs ks key post (n + 1) left i := by
  have l0 : (0 : Int32).toInt = 0 := rfl
  intro n
  induction n with
  | zero =>
    intro k left i hk hle hl hi
    obtain rfl : k = σ.1 := by omega
    omega
  | succ n ih =>
    intro k left i hk hle hl hi
    have es : rTl v σ κ (k + 1) = rTl v σ κ k + (if rK v σ k = κ then 1 else 0) := rfl
    have hkk := hks k (by omega)
    have htl := rTl_le v σ κ σ.1
    rw [w4_placeOf_L39, natc hi]
    refine ⟨fun z => absurd (i_le.mp z) (by omega), fun _ => ⟨vin (by omega) (by omega), fun z j ej => ?_, fun z => ⟨fun y u eu j ej => ?_, fun y => ?_⟩⟩⟩
    · have q : ¬ rK v σ k = κ := fun w => z (i_ext (by rw [hkk, hkey, w]))
      rw [if_neg q] at es
      exact ih (k + 1) left j (by omega) (by omega) (by rw [hl, es]; rfl) (nxt hi (by omega) ej)
    · have q : rK v σ k = κ := by rw [z, hkey] at hkk; omega
      rw [if_pos q] at es
      have y0 : ¬ left.toInt = 0 := fun w => y (i_ext w)
      exact ih (k + 1) u j (by omega) (by omega) (by rw [i_pred hl eu]; omega) (nxt hi (by omega) ej)
    · have q : rK v σ k = κ := by rw [z, hkey] at hkk; omega
      rw [of_toInt hi]
      exact hp k (by omega) q (by rw [y, l0] at hl; omega)
theorem po4_L {v : Int32} {σ : RS} {Rs : Int32} {ks ty : Nat → Int32} (hc : σ.1 ≤ 719) (hRs : Rs.toInt = (σ.1 : Int)) (hks : ∀ j, j < σ.1 → (ks j).toInt = (rK v σ j : Int)) (hty : ∀ κ, κ < 160 → (ty κ).toInt = (rTl v σ κ σ.1 : Int)) (hK : ∀ j, j < σ.1 → rK v σ j < 160) {R : Nat} (hR : R < σ.1) {post : Int32 → Prop} (hp : ∀ P, P < σ.1 → rAH v σ P σ.1 = R → post (Int32.ofNat P)) : ∀ (n κ : Nat) (left key : Int32), κ + n = 159 → rCu v σ κ σ.1 ≤ R → left.toInt = ((R - rCu v σ κ σ.1 : Nat) : Int) → key.toInt = (κ : Int) → w4_placeOf_L4 Rs ks ty post (n + 1) left key := by
  have l159 : (159 : Int32).toInt = 159 := rfl
  have fin : ∀ (κ : Nat) (left key : Int32), rCu v σ κ σ.1 ≤ R → R < rCu v σ (κ + 1) σ.1 → left.toInt = ((R - rCu v σ κ σ.1 : Nat) : Int) → key.toInt = (κ : Int) → w4_placeOf_J36 Rs ks left key post := by
    intro κ left key h1 h2 hl hk
    rw [rCu_succ] at h2
    unfold w4_placeOf_J36
    have e0 : rTl v σ κ 0 = 0 := rfl
    refine ⟨σ.1 + 1, po39_L hc hRs hks hk (L := R - rCu v σ κ σ.1) (by omega) (fun P hP hKP hT => hp P hP ?_) σ.1 0 left 0 (by omega) (by omega) (by rw [e0, hl]; rfl) rfl⟩
    rw [rAH_eq hP, hKP, hT]; omega
  intro n
  induction n with
  | zero =>
    intro κ left key hκ hle hl hk
    obtain rfl : κ = 159 := by omega
    rw [w4_placeOf_L4]
    refine ⟨fun _ => fin 159 left key hle ?_ hl hk, fun z => absurd (i_le.mpr (by omega)) z⟩
    rw [show 159 + 1 = 160 from rfl, rCu_all hK]; exact hR
  | succ n ih =>
    intro κ left key hκ hle hl hk
    have ht := hty κ (by omega)
    have hcs := rCu_succ v σ κ σ.1
    have hlr := i_range left
    have htl := rTl_le v σ κ σ.1
    rw [w4_placeOf_L4, natc hk]
    refine ⟨fun z => absurd (i_le.mp z) (by omega), fun _ => ⟨vin (by omega) (by omega), fun z => fin κ left key hle ?_ hl hk, fun z => ⟨vin (by omega) (by omega), fun u eu j ej => ih (κ + 1) u j (by omega) ?_ ?_ (nxt hk (by omega) ej)⟩⟩⟩
    · have z := i_lt.mp z
      omega
    · have z : ¬ left.toInt < (ty κ).toInt := fun w => z (i_lt.mpr w)
      omega
    · have z : ¬ left.toInt < (ty κ).toInt := fun w => z (i_lt.mpr w)
      rw [eu, i_sub (by omega) (by omega), hl, ht]; omega
/-! the model's -/
theorem key_lt {v : Int32} {σ : RS} (hI : rInv 1 25 σ) {j k : Nat} (hj : j < σ.1) (hk : k < σ.1) {a b : Int64} (ha : a.toInt = 1000000 * (mu v (σ.2.1 j) (σ.2.2 j) + 1000) + 1000 * (σ.2.2 j : Int) + (σ.2.1 j : Int)) (hb : b.toInt = 1000000 * (mu v (σ.2.1 k) (σ.2.2 k) + 1000) + 1000 * (σ.2.2 k : Int) + (σ.2.1 k : Int)) : (¬ b ≤ a) ↔ (rK v σ j < rK v σ k ∨ rK v σ j = rK v σ k ∧ j < k) := by
  obtain ⟨a1, a2, a3, a4, a5, a6⟩ := hI.1 j hj
  obtain ⟨b1, b2, b3, b4, b5, b6⟩ := hI.1 k hk
  obtain ⟨_, _, _, j2, j3, j4⟩ := Kf_bnd a1 a2 a4 a5 v
  obtain ⟨_, _, _, k2, k3, k4⟩ := Kf_bnd b1 b2 b4 b5 v
  have ej : (rK v σ j : Int) = mu v (σ.2.1 j) (σ.2.2 j) + 20 := j2
  have ek : (rK v σ k : Int) = mu v (σ.2.1 k) (σ.2.2 k) + 20 := k2
  rw [l_le, ha, hb]
  generalize mu v (σ.2.1 j) (σ.2.2 j) = m1 at *
  generalize mu v (σ.2.1 k) (σ.2.2 k) = m2 at *
  rcases Nat.lt_trichotomy j k with q | q | q
  · have := hI.2 j k q hk
    omega
  · subst q
    omega
  · have := hI.2 k j q hj
    omega
theorem ah8_L {v : Int32} {σ : RS} (hI : rInv 1 25 σ) (hc : σ.1 ≤ 719) {te ru m : Int32} {ab be f g w fr : Nat → Int32} {ks : Nat → Int64} (hM : RM v σ m fr ks) {v1 v5 v7 : Int32} (h1 : isR v1) {R k : Nat} (hR : v5.toInt = (R : Int)) (hk : k < σ.1) (hv7 : v7.toInt = (k : Int)) {post : Int32 → Int32 → Int32 → (Nat → Int32) → (Nat → Int32) → (Nat → Int32) → (Nat → Int32) → (Nat → Int32) → (Nat → Int32) → (Nat → Int64) → Prop} {kb : Int32 → Prop} (hy : rAH v σ k σ.1 = R → post m te ru (stF ab v1 (σ.2.1 k) (σ.2.2 k) (σ.2.1 k)) (stF be v1 (σ.2.1 k) (σ.2.2 k) (σ.2.2 k)) f g w fr ks) (hn : ¬ rAH v σ k σ.1 = R → ∀ j : Int32, j.toInt = ((k + 1 : Nat) : Int) → kb j) : ∀ (n j : Nat) (acc i : Int32), j + n = σ.1 → acc.toInt = (rAH v σ k j : Int) → i.toInt = (j : Int) → w8_rankedBetween_L234 te ru ab be f g w fr ks v1 v5 m v7 post kb (n + 1) acc i := by
  have l0 : (0 : Int32).toInt = 0 := rfl
  have l1 : (1 : Int32).toInt = 1 := rfl
  have l1k : (1000 : Int32).toInt = ((1000 : Nat) : Int) := rfl
  have n1k : ¬ (1000 : Int32) = 0 := by decide
  obtain ⟨m1, m2⟩ := hM
  intro n
  induction n with
  | zero =>
    intro j acc i hj ha hi
    obtain rfl : j = σ.1 := by omega
    obtain ⟨b1, b2, b3, b4, b5, b6⟩ := hI.1 k hk
    rw [w8_rankedBetween_L234, natc hv7]
    refine ⟨fun _ => ⟨fun z u eu => hn (fun w => z (i_ext (by rw [ha, hR, w]))) u (nxt hv7 (by omega) eu), fun z => ⟨vin (by omega) (by omega), n1k, vin (by omega) (by omega), n1k, ?_⟩⟩, fun z => absurd (i_le.mpr (by omega)) z⟩
    have e1 := (m2 k hk).1
    obtain ⟨d1, d2⟩ := i_divmod e1 l1k (by omega)
    have q1 : (1000 * σ.2.1 k + σ.2.2 k) / 1000 = σ.2.1 k := by omega
    have q2 : (1000 * σ.2.1 k + σ.2.2 k) % 1000 = σ.2.2 k := by omega
    rw [q1] at d1
    rw [q2] at d2
    have hsg : sg (σ.2.1 k : Int) (σ.2.2 k : Int) = 1 := by unfold sg; rw [Int.toNat_natCast, Int.toNat_natCast, b5]; rfl
    have sk : stR (σ.2.1 k : Int) (σ.2.2 k : Int) = 1 := by
      have hk : stOk (σ.2.1 k : Int) (σ.2.2 k : Int) := by
        unfold stOk
        rw [hsg, Int.ediv_one, Int.ediv_one]; omega
      exact if_pos hk
    refine s8_st h1 (p := (σ.2.1 k : Int)) (q := (σ.2.2 k : Int)) (by rw [t64, d1]) (by rw [t64, d2]) (by omega) (by omega) ?_
    rw [sk]
    refine ⟨fun w => absurd rfl w, fun _ => hy ?_⟩
    rw [z, hR] at ha; omega
  | succ n ih =>
    intro j acc i hj ha hi
    have es : rAH v σ k (j + 1) = rAH v σ k j + (if rK v σ j < rK v σ k ∨ rK v σ j = rK v σ k ∧ j < k then 1 else 0) := rfl
    have hle := rAH_le v σ k j
    have key := key_lt (v := v) hI (show j < σ.1 by omega) hk (m2 j (by omega)).2 (m2 k hk).2
    rw [w8_rankedBetween_L234, natc hi, natc hv7]
    refine ⟨fun z => absurd (i_le.mp z) (by omega), fun _ => ⟨vin (by omega) (by omega), vin (by omega) (by omega), fun z u eu x ex => ?_, fun z u eu x ex => ?_⟩⟩
    · rw [if_neg (fun w => key.mpr w z)] at es
      refine ih (j + 1) u x (by omega) ?_ (nxt hi (by omega) ex)
      rw [eu, i_add (by rw [l0]; omega) (by rw [l0]; omega), ha, l0, es]; omega
    · rw [if_pos (key.mp z)] at es
      refine ih (j + 1) u x (by omega) ?_ (nxt hi (by omega) ex)
      rw [eu, i_add (by rw [l1]; omega) (by rw [l1]; omega), ha, l1, es]; omega
theorem fd8_L {v : Int32} {σ : RS} (hI : rInv 1 25 σ) (hc : σ.1 ≤ 719) {te ru m : Int32} {ab be f g w fr : Nat → Int32} {ks : Nat → Int64} (hM : RM v σ m fr ks) {v1 v5 : Int32} (h1 : isR v1) {R P : Nat} (hR : v5.toInt = (R : Int)) (hP : P < σ.1) (hPR : rAH v σ P σ.1 = R) {post : Int32 → Int32 → Int32 → (Nat → Int32) → (Nat → Int32) → (Nat → Int32) → (Nat → Int32) → (Nat → Int32) → (Nat → Int32) → (Nat → Int64) → Prop} (hp : post m te ru (stF ab v1 (σ.2.1 P) (σ.2.2 P) (σ.2.1 P)) (stF be v1 (σ.2.1 P) (σ.2.2 P) (σ.2.2 P)) f g w fr ks) : ∀ (n k : Nat) (i : Int32), k + n = P → i.toInt = (k : Int) → w8_rankedBetween_L221 te ru ab be f g w fr ks v1 v5 m post (n + 1) i := by
  have hm := hM.1
  intro n
  induction n with
  | zero =>
    intro k i hk hi
    obtain rfl : k = P := by omega
    rw [w8_rankedBetween_L221]
    exact ⟨fun z => absurd (i_le.mp z) (by omega), fun _ => ⟨σ.1 + 1, ah8_L hI hc hM h1 hR hP hi (fun _ => hp) (fun z => absurd hPR z) σ.1 0 0 0 (by omega) rfl rfl⟩⟩
  | succ n ih =>
    intro k i hk hi
    rw [w8_rankedBetween_L221]
    refine ⟨fun z => absurd (i_le.mp z) (by omega), fun _ => ⟨σ.1 + 1, ah8_L hI hc hM h1 hR (show k < σ.1 by omega) hi (fun z => ?_) (fun _ j hj => ih (k + 1) j (by omega) hj) σ.1 0 0 0 (by omega) rfl rfl⟩⟩
    exact absurd (z.trans hPR.symm) (rAH_ne (by omega) hP (by omega))
theorem op_rankedBetween : Op_rankedBetween := by
  intro x_hasSnapshot x_termListSize x_textSize x_tops x_bottoms x_slots x_savedTops x_savedBottoms x_savedSlots x_termList x_text x_arraySizes x_E_size x_R_size x_E_terms x_R_rankedTops x_R_rankedBottoms x_R_keys x_R_tally x_arrays0 x_arrays1 x_arrays2 m_terms m_runs m_listed m_fed m_hasSnapshot m_above m_below m_term m_run m_isRight m_list m_fractions m_keys m_text m_kindOf m_nodeAbove m_nodeBelow m_length m_cell m_savedAbove m_savedBelow m_savedKind m_savedNodeAbove m_savedNodeBelow PL kk tt bb v1 v2 v3 v4 v5 hI
  obtain ⟨hReg, hList, hText, hArr, hNode, hHs, hHs01, hSnap⟩ := id hI
  unfold w7_rankedBetween w8_rankedBetween
  by_cases h1 : isR v1
  rotate_left
  · simp only [r7n h1, r8n h1, b01, b00, false_implies, true_implies, not_true_eq_false, not_false_eq_true, true_and, and_true]; exact hI
  by_cases h2 : isR v2
  rotate_left
  · simp only [r7y h1, r8y h1, r7n h2, r8n h2, b01, b00, false_implies, true_implies, not_true_eq_false, not_false_eq_true, true_and, and_true]; exact hI
  by_cases h3 : isR v3
  rotate_left
  · simp only [r7y h1, r8y h1, r7y h2, r8y h2, r7n h3, r8n h3, b01, b00, false_implies, true_implies, not_true_eq_false, not_false_eq_true, true_and, and_true]; exact hI
  by_cases h4 : 0 ≤ v4.toInt ∧ v4.toInt ≤ 4
  rotate_left
  · have a4 : ¬ ((0 : Int32).toInt ≤ v4.toInt ∧ v4.toInt ≤ (4 : Int32).toInt) := h4
    have c4 : ¬ ((0 : Int64).toInt ≤ v4.toInt64.toInt ∧ v4.toInt64.toInt ≤ (4 : Int64).toInt) := by rw [t64]; exact h4
    simp only [r7y h1, r8y h1, r7y h2, r8y h2, r7y h3, r8y h3, n7n a4, w8n c4, b01, b00, false_implies, true_implies, not_true_eq_false, not_false_eq_true, true_and, and_true]; exact hI
  have a4 : (0 : Int32).toInt ≤ v4.toInt ∧ v4.toInt ≤ (4 : Int32).toInt := h4
  have c4 : (0 : Int64).toInt ≤ v4.toInt64.toInt ∧ v4.toInt64.toInt ≤ (4 : Int64).toInt := by rw [t64]; exact h4
  simp only [r7y h1, r8y h1, r7y h2, r8y h2, r7y h3, r8y h3, n7y a4, w8y c4, b01, b00, false_implies, true_implies, not_true_eq_false, not_false_eq_true, true_and, and_true]
  by_cases h5 : (0 : Int32) ≤ v5
  rotate_left
  · exact ⟨fun z => absurd z h5, fun _ => ⟨fun z => absurd z h5, fun _ => hI⟩⟩
  have l0 : (0 : Int32).toInt = 0 := rfl
  have h50 := i_le.mp h5
  have hv5 : v5.toInt = ((v5.toNatClampNeg : Nat) : Int) := (clamp (by omega)).symm
  generalize v5.toNatClampNeg = R at hv5
  obtain ⟨p, q, N, hC, e1, e2, e3, e4⟩ := hReg.cf h2.lt
  obtain ⟨r, s, M, hD, d1, d2, d3, d4⟩ := hReg.cf h3.lt
  have hb := hC.2.2.2.2
  have hd := hD.2.2.2.2
  have inv0 : rInv 1 1 ((0, fun _ => 0, fun _ => 0) : RS) := ⟨fun j hj => absurd hj (Nat.not_lt_zero _), fun i j _ hj => absurd hj (Nat.not_lt_zero _)⟩
  have inv := rCol_inv (p := p) (q := q) (r := r) (s := s) 24 1 _ (by omega) (by omega) inv0
  have hlen := rCol_len (p := p) (q := q) (r := r) (s := s) 24 1 ((0, fun _ => 0, fun _ => 0) : RS)
  have hall := rCn_all
  have z1 : ((0, fun _ => 0, fun _ => 0) : RS).1 = 0 := rfl
  generalize hσ : rCol p q r s 24 1 ((0, fun _ => 0, fun _ => 0) : RS) = σ at inv hlen
  have hc : σ.1 ≤ 719 := by omega
  have hK : ∀ j, j < σ.1 → rK v4 σ j < 160 := fun j hj => by
    obtain ⟨a1, a2, a3, a4, a5, a6⟩ := inv.1 j hj
    obtain ⟨_, _, k, _⟩ := Kf_bnd a1 a2 a4 a5 v4
    exact k
  have T : ∀ {post : Int32 → Int32 → Int32 → (Nat → Int32) → (Nat → Int32) → (Nat → Int32) → (Nat → Int32) → (Nat → Int32) → (Nat → Int32) → (Nat → Int64) → Prop}, (∀ (m te ru : Int32) (f g w fr : Nat → Int32) (ks : Nat → Int64), RM v4 σ m fr ks → ((v5 < m → (∃ n221 : Nat, w8_rankedBetween_L221 te ru m_above m_below f g w fr ks v1 v5 m post n221 (0 : Int32))) ∧ (¬ v5 < m → (post (-2 : Int32) te ru m_above m_below f g w fr ks)))) → ((0 ≤ v5 → (∃ n50 : Nat, w8_rankedBetween_L50 m_above m_below v1 v2 v3 v4 v5 post n50 (0 : Int32) (1 : Int32) m_terms m_runs m_term m_run m_isRight m_fractions m_keys)) ∧ (¬ 0 ≤ v5 → (post (-1 : Int32) m_terms m_runs m_above m_below m_term m_run m_isRight m_fractions m_keys))) := by
    intro post hpost
    exact ⟨fun _ => ⟨24 + 1, mc8_L h2 h3 h4 (by omega) (by omega) (by omega) (by omega) e3 e4 d3 d4 hpost 24 1 0 1 m_terms m_runs m_term m_run m_isRight m_fractions m_keys _ (by omega) (by omega) rfl ⟨rfl, fun j hj => absurd hj (Nat.not_lt_zero _)⟩ (by omega) hσ⟩, fun z => absurd h5 z⟩
  refine ⟨fun _ => ?_, fun z => absurd h5 z⟩
  unfold w7_collectRanked w4_clear w4_size
  refine ⟨160 + 1, clr4_L (fun ty hty => ⟨24 + 1, cc7_L h2 h3 h4 (by omega) (by omega) (by omega) (by omega) e1 e2 d1 d2 (fun Es Rs Et rT rB ks ty hRC => ?_) 24 1 1 x_E_size 0 x_E_terms x_R_rankedTops x_R_rankedBottoms x_R_keys ty _ (by omega) (by omega) rfl ⟨rfl, fun j hj => absurd hj (Nat.not_lt_zero _), fun κ hκ => by rw [hty κ hκ]; rfl⟩ (by omega) hσ⟩) 160 0 0 x_R_tally (by omega) rfl (fun κ hκ => absurd hκ (Nat.not_lt_zero _))⟩
  obtain ⟨g1, g2, g3⟩ := hRC
  refine ⟨fun z => ?_, fun z => ?_⟩
  · have z := i_lt.mp z
    have c0 := rCu_0 v4 σ σ.1
    unfold w4_placeOf
    refine ⟨159 + 1, po4_L hc g1 (fun j hj => (g2 j hj).2.2) g3 hK (R := R) (by omega) (fun P hP hPR => ?_) 159 0 v5 0 (by omega) (by omega) (by rw [c0, hv5]; rfl) rfl⟩
    have hPi : (Int32.ofNat P).toInt = (P : Int) := n_toInt (by omega)
    obtain ⟨b1, b2, b3, b4, b5, b6⟩ := inv.1 P hP
    obtain ⟨f1, f2, f3⟩ := g2 P hP
    unfold w4_topAt w4_bottomAt
    rw [natc hPi]
    refine ⟨fun y => absurd (i_lt.mp y) (by omega), fun _ => ⟨fun y => absurd (i_le.mp y) (by omega), fun _ => ⟨vin (by omega) (by omega), fun y => absurd (i_lt.mp y) (by omega), fun _ => ⟨fun y => absurd (i_le.mp y) (by omega), fun _ => ⟨vin (by omega) (by omega), s7_st h1 (p := (σ.2.1 P : Int)) (q := (σ.2.2 P : Int)) (by rw [t64, f1]) (by rw [t64, f2]) (by omega) (by omega) ?_⟩⟩⟩⟩⟩
    refine T (fun m te ru f g w fr ks hM => ⟨fun _ => ⟨P + 1, fd8_L inv hc hM h1 hv5 hP hPR ?_ P 0 0 (by omega) rfl⟩, fun y => ?_⟩)
    · exact ⟨i_ext (by rw [g1, hM.1]), hI.reg (hReg.store (by omega) (by omega))⟩
    · exact absurd (i_lt.mpr (by rw [hM.1, hv5]; omega)) y
  · have z : ¬ v5.toInt < Rs.toInt := fun y => z (i_lt.mpr y)
    exact T (fun m te ru f g w fr ks hM => ⟨fun y => absurd (i_lt.mp y) (by rw [hM.1]; omega), fun _ => ⟨rfl, hI⟩⟩)
