/-! fareyNext -/
theorem sg_sc (t a b : Nat) : sg ((t * a : Nat) : Int) ((t * b : Nat) : Int) = (t : Int) * sg a b := by
  unfold sg
  rw [Int.toNat_natCast, Int.toNat_natCast, Int.toNat_natCast, Int.toNat_natCast, Nat.gcd_mul_left, Int.natCast_mul]
theorem div_sc {t : Nat} (ht : 0 < t) (x g : Int) : ((t : Int) * x) / ((t : Int) * g) = x / g := Int.mul_ediv_mul_of_pos x g (by omega)
theorem st_scR {t : Nat} (ht : 0 < t) (a b : Nat) : stR ((t * a : Nat) : Int) ((t * b : Nat) : Int) = stR a b := by
  unfold stR stOk
  rw [sg_sc]
  simp only [Int.natCast_mul, div_sc ht]
theorem st_scF {t : Nat} (ht : 0 < t) (a b x : Nat) (f : Nat → Int32) (v : Int32) : stF f v ((t * a : Nat) : Int) ((t * b : Nat) : Int) ((t * x : Nat) : Int) = stF f v a b x := by
  unfold stF stOk
  rw [sg_sc]
  simp only [Int.natCast_mul, div_sc ht]
/-- A / B is the least one above p / q with a denominator up to L -/
def FN (p q L A B : Nat) : Prop := 1 ≤ B ∧ B ≤ L ∧ p * B < A * q ∧ ∀ c d, 1 ≤ d → d ≤ L → p * d < c * q → A * d ≤ c * B
theorem fn_ratio {p q L A B C D : Nat} (h : FN p q L A B) (k : FN p q L C D) (hg : Nat.gcd C D = 1) : ∃ t, 0 < t ∧ A = t * C ∧ B = t * D := by
  obtain ⟨h1, h2, h3, h4⟩ := h
  obtain ⟨k1, k2, k3, k4⟩ := k
  have e1 := h4 C D k1 k2 k3
  have e2 := k4 A B h1 h2 h3
  have e : A * D = C * B := by omega
  have hc : Nat.Coprime D C := by rw [Nat.coprime_iff_gcd_eq_one, Nat.gcd_comm]; exact hg
  obtain ⟨t, ht⟩ : D ∣ B := hc.dvd_of_dvd_mul_left (by rw [← e]; exact Nat.dvd_mul_left D A)
  refine ⟨t, ?_, ?_, by rw [ht, Nat.mul_comm]⟩
  · rcases Nat.eq_zero_or_pos t with z | z
    · rw [z] at ht; omega
    · exact z
  · rw [ht, show C * (D * t) = t * C * D by ac_rfl] at e
    exact Nat.eq_of_mul_eq_mul_right k1 e
theorem FN_nb {p q L la lb ra rb : Nat} (h : NB p q L la lb ra rb) : FN p q L ra rb ∧ Nat.gcd ra rb = 1 := by
  obtain ⟨h1, h2, h3, h4, h5, h6⟩ := h
  exact ⟨⟨by omega, h5, h2, fun c d _ hd2 hc => nb_ge h3 (nb_cross h1 hc) h6 hd2⟩, (cop_det h3).2⟩
theorem FN_next {p q L C D : Nat} (h : C * q = p * D + 1) (h1 : 1 ≤ D) (h2 : D ≤ L) (h3 : L < D + q) : FN p q L C D ∧ Nat.gcd C D = 1 :=
  ⟨⟨h1, h2, by omega, fun c d _ hd2 hc => nb_ge h hc (by omega) hd2⟩, (cop_det h).2⟩
theorem fn8_L {p q : Nat} (hq1 : 1 ≤ q) (hp2 : p ≤ 1000000) (hq2 : q ≤ 1000000) {ab be : Nat → Int32} {v1 v2 v3 : Int32} {L : Nat} (h1 : isR v1) (h2 : isR v2) (e3 : (ab v2.toNatClampNeg).toInt = (p : Int)) (e4 : (be v2.toNatClampNeg).toInt = (q : Int)) (hL : v3.toInt = (L : Int)) (hL1 : 1 ≤ L) (hL2 : L ≤ 1000) {post : Int32 → (Nat → Int32) → (Nat → Int32) → Prop} (hp : ∀ A B : Nat, FN p q L A B → post (stR A B) (stF ab v1 A B A) (stF be v1 A B B)) : ∀ (n d A B : Nat) (X Y : Int64) (i : Int32), d + n = L → 1 ≤ d → i.toInt = ((d + 1 : Nat) : Int) → X.toInt = (A : Int) → Y.toInt = (B : Int) → A ≤ 1000000001 → FN p q d A B → w8_fareyNext_L54 ab be v1 v2 v3 post (n + 1) X Y i := by
  have o1 : (1 : Int64).toInt = ((1 : Nat) : Int) := rfl
  intro n
  induction n with
  | zero =>
    intro d A B X Y i hd hd1 hi hX hY hA hF
    obtain rfl : d = L := by omega
    rw [w8_fareyNext_L54]
    have hA1 : 0 < A := by
      rcases Nat.eq_zero_or_pos A with z | z
      · have := hF.2.2.1; rw [z, Nat.zero_mul] at this; omega
      · exact z
    have hB1 := hF.1
    exact ⟨fun _ => s8_st h1 hX hY (by omega) (by omega) (hp A B hF), fun z => absurd (i_lt.mpr (by omega)) z⟩
  | succ n ih =>
    intro d A B X Y i hd hd1 hi hX hY hA hF
    rw [w8_fareyNext_L54]
    have t4 : (be v2.toNatClampNeg).toInt64.toInt = (q : Int) := by rw [t64, e4]
    have hpd := Nat.mul_le_mul hp2 (show d + 1 ≤ 1000 by omega)
    have hdl := Nat.div_le_self (p * (d + 1)) q
    obtain ⟨f1, f2, f3, f4⟩ := hF
    refine ⟨fun z => absurd (i_lt.mp z) (by omega), fun _ => ⟨h2.vin, h2.vin, fun z => by have := (l_zero t4).mp z; omega, fun Z eZ => ?_⟩⟩
    have tZ : Z.toInt = ((p * (d + 1) / q + 1 : Nat) : Int) := by
      rw [eZ]
      exact nl_add (nl_div (nl_mul (by rw [t64, e3]) (by rw [t64, hi]) (by omega)) t4 hq1) o1 (by omega)
    have least : ∀ c, p * (d + 1) < c * q ↔ p * (d + 1) / q + 1 ≤ c := fun c => (Nat.div_lt_iff_lt_mul hq1).symm
    generalize hn : p * (d + 1) / q + 1 = N at *
    have hN := (least N).mpr (Nat.le_refl _)
    have m1 := Nat.mul_le_mul (show N ≤ 1000000001 by omega) (show B ≤ 1000 by omega)
    have m2 := Nat.mul_le_mul hA (show d + 1 ≤ 1000 by omega)
    have c1 : (Z * Y).toInt = ((N * B : Nat) : Int) := nl_mul tZ hY (by omega)
    have c2 : (X * i.toInt64).toInt = ((A * (d + 1) : Nat) : Int) := nl_mul hX (by rw [t64, hi]) (by omega)
    refine ⟨fun z W eW j ej => ?_, fun z j ej => ?_⟩
    · have z := (nl_lt c1 c2).mp z
      refine ih (d + 1) N (d + 1) Z W j (by omega) (by omega) (nxt hi (by omega) ej) tZ (by rw [eW, t64, hi]) (by omega) ⟨by omega, Nat.le_refl _, hN, fun c e he1 he2 hc => ?_⟩
      by_cases q1 : e = d + 1
      · subst q1
        exact Nat.mul_le_mul_right _ ((least c).mp hc)
      · have w := f4 c e he1 (by omega) hc
        have w1 := Nat.mul_le_mul_right e (Nat.le_of_lt z)
        have w2 := Nat.mul_le_mul_right (d + 1) w
        have n1 : N * B * e = N * e * B := by ac_rfl
        have n2 : A * (d + 1) * e = A * e * (d + 1) := by ac_rfl
        have n3 : c * B * (d + 1) = c * (d + 1) * B := by ac_rfl
        exact Nat.le_of_mul_le_mul_right (by omega) f1
    · have z : A * (d + 1) ≤ N * B := by
        have : ¬ N * B < A * (d + 1) := fun y => z ((nl_lt c1 c2).mpr y)
        omega
      refine ih (d + 1) A B X Y j (by omega) (by omega) (nxt hi (by omega) ej) hX hY hA ⟨f1, by omega, f3, fun c e he1 he2 hc => ?_⟩
      by_cases q1 : e = d + 1
      · subst q1
        have := Nat.mul_le_mul_right B ((least c).mp hc)
        omega
      · exact f4 c e he1 (by omega) hc
theorem s8_fareyNext {p q : Nat} (hq1 : 1 ≤ q) (hp2 : p ≤ 1000000) (hq2 : q ≤ 1000000) {ab be : Nat → Int32} {v1 v2 v3 : Int32} {L : Nat} (h1 : isR v1) (h2 : isR v2) (e3 : (ab v2.toNatClampNeg).toInt = (p : Int)) (e4 : (be v2.toNatClampNeg).toInt = (q : Int)) (hL : v3.toInt = (L : Int)) (hL1 : 1 ≤ L) (hL2 : L ≤ 1000) {C D : Nat} (hF : FN p q L C D ∧ Nat.gcd C D = 1) {post : Int32 → (Nat → Int32) → (Nat → Int32) → Prop} (hp : post (stR C D) (stF ab v1 C D C) (stF be v1 C D D)) : w8_fareyNext ab be v1 v2 v3 post := by
  have c3 : (1 : Int64).toInt ≤ v3.toInt64.toInt ∧ v3.toInt64.toInt ≤ (1000 : Int64).toInt := by rw [t64]; show 1 ≤ v3.toInt ∧ v3.toInt ≤ 1000; omega
  unfold w8_fareyNext
  simp only [r8y h1, r8y h2, w8y c3, b01, b00, false_implies, true_implies, not_true_eq_false, not_false_eq_true, true_and, and_true]
  have l1 : (1 : Int32).toInt = 1 := rfl
  have hdl := Nat.div_le_self p q
  refine ⟨h2.vin, h2.vin, fun z => by rw [z] at e4; have l0 : (0 : Int32).toInt = 0 := rfl; omega, fun X eX => ⟨L - 1 + 1, ?_⟩⟩
  have tX : X.toInt = ((p / q + 1 : Nat) : Int) := by
    have e := (i_divmod e3 e4 hq1).1
    rw [eX, t64]
    generalize p / q = t at *
    rw [i_add (by omega) (by omega), e, l1]; omega
  refine fn8_L hq1 hp2 hq2 h1 h2 e3 e4 hL hL1 hL2 (fun A B hAB => ?_) (L - 1) 1 (p / q + 1) 1 X 1 2 (by omega) (by omega) rfl tX rfl (by omega) ⟨by omega, by omega, ?_, fun c d h1 h2 hc => ?_⟩
  · obtain ⟨t, ht, rfl, rfl⟩ := fn_ratio hAB hF.1 hF.2
    rw [st_scR ht, st_scF ht, st_scF ht]
    exact hp
  · rw [Nat.mul_one]; exact (Nat.div_lt_iff_lt_mul hq1).mp (Nat.lt_succ_self _)
  · obtain rfl : d = 1 := by omega
    rw [Nat.mul_one] at hc ⊢
    rw [Nat.mul_one]
    exact (Nat.div_lt_iff_lt_mul hq1).mpr hc
theorem op_fareyNext : Op_fareyNext := by
  intro x_hasSnapshot x_termListSize x_textSize x_tops x_bottoms x_slots x_savedTops x_savedBottoms x_savedSlots x_termList x_text x_arraySizes x_E_size x_E_leftTop x_E_leftBottom x_E_rightTop x_E_rightBottom x_E_terms x_arrays0 x_arrays1 x_arrays2 m_listed m_fed m_hasSnapshot m_above m_below m_list m_text m_kindOf m_nodeAbove m_nodeBelow m_length m_cell m_savedAbove m_savedBelow m_savedKind m_savedNodeAbove m_savedNodeBelow PL kk tt bb v1 v2 v3 hI
  obtain ⟨hReg, hList, hText, hArr, hNode, hHs, hHs01, hSnap⟩ := id hI
  unfold w7_fareyNext w7_expand
  by_cases h1 : isR v1
  rotate_left
  · unfold w8_fareyNext; simp only [r7n h1, r8n h1, b01, b00, false_implies, true_implies, not_true_eq_false, not_false_eq_true, true_and, and_true]; exact hI
  by_cases h2 : isR v2
  rotate_left
  · unfold w8_fareyNext; simp only [r7y h1, r8y h1, r7n h2, r8n h2, b01, b00, false_implies, true_implies, not_true_eq_false, not_false_eq_true, true_and, and_true]; exact hI
  by_cases h3 : 1 ≤ v3.toInt ∧ v3.toInt ≤ 1000
  rotate_left
  · have a3 : ¬ ((1 : Int32).toInt ≤ v3.toInt ∧ v3.toInt ≤ (1000 : Int32).toInt) := h3
    have c3 : ¬ ((1 : Int64).toInt ≤ v3.toInt64.toInt ∧ v3.toInt64.toInt ≤ (1000 : Int64).toInt) := by rw [t64]; exact h3
    unfold w8_fareyNext; simp only [r7y h1, r8y h1, r7y h2, r8y h2, n7n a3, w8n c3, b01, b00, false_implies, true_implies, not_true_eq_false, not_false_eq_true, true_and, and_true]; exact hI
  have a3 : (1 : Int32).toInt ≤ v3.toInt ∧ v3.toInt ≤ (1000 : Int32).toInt := h3
  simp only [r7y h1, r7y h2, n7y a3, b01, b00, false_implies, true_implies, not_true_eq_false, not_false_eq_true, true_and, and_true]
  obtain ⟨p, q, N, hC, e1, e2, e3, e4⟩ := hReg.cf h2.lt
  have hb := hC.2.2.2.2
  have hL : v3.toInt = ((v3.toNatClampNeg : Nat) : Int) := (clamp (by omega)).symm
  refine ⟨h2.vin, h2.vin, s1_expand hC e1 e2 (fun f hf => ⟨h2.vin, fun z => ?_, fun z => ?_⟩)⟩
  · have z := i_le.mp z
    refine s1_findBounds hC hf (fun la lb ra rb hla hlb hra hrb => ?_)
    simp only [boundTop_if, boundBottom_if, bi1]
    obtain ⟨b1, b2⟩ := bounds_sum hC
    have hdet := s_det p q (N - 1) (rr p q N (N - 1))
    obtain ⟨p1, p2⟩ := s_pos p q (N - 1) (rr p q N (N - 1))
    generalize sLA p q (N - 1) (rr p q N (N - 1)) = a at hla b1 hdet
    generalize sLB p q (N - 1) (rr p q N (N - 1)) = b at hlb b2 hdet p2
    generalize sRA p q (N - 1) (rr p q N (N - 1)) = c at hra b1 hdet p1
    generalize sRB p q (N - 1) (rr p q N (N - 1)) = d at hrb b2 hdet
    have hcq : c * q = p * d + 1 := by
      have e : (c : Int) * q = p * d + 1 := by
        rw [← b1, ← b2]; push_cast; grind
      exact_mod_cast e
    have tq : (x_bottoms v2.toNatClampNeg).toInt64.toInt = (q : Int) := by rw [t64, e2]
    have tp : (x_tops v2.toNatClampNeg).toInt64.toInt = (p : Int) := by rw [t64, e1]
    have tT := nl_div (nl_sub (X := v3.toInt64) (x := v3.toNatClampNeg) (by rw [t64, hL]) hrb (by omega)) tq (by omega)
    have dl := Nat.div_mul_le_self (v3.toNatClampNeg - d) q
    have dle := Nat.div_le_self (v3.toNatClampNeg - d) q
    have dm := Nat.div_add_mod (v3.toNatClampNeg - d) q
    have dlt := Nat.mod_lt (v3.toNatClampNeg - d) (show q > 0 by omega)
    have dc := Nat.mul_comm q ((v3.toNatClampNeg - d) / q)
    generalize (v3.toNatClampNeg - d) / q = t at *
    have mp := Nat.mul_le_mul (show t ≤ 1000 by omega) (show p ≤ 1000000 by omega)
    have hF := FN_next (p := p) (q := q) (L := v3.toNatClampNeg) (C := c + t * p) (D := d + t * q) (by rw [Nat.add_mul, hcq, Nat.mul_add, show p * (t * q) = t * p * q by ac_rfl]; omega) (by omega) (by omega) (by omega)
    refine ⟨h2.vin, q7_y (by omega) ⟨h2.vin, h2.vin, s7_st h1 (p := ((c + t * p : Nat) : Int)) (q := ((d + t * q : Nat) : Int)) (nl_add hra (nl_mul tT tp (by omega)) (by omega)) (nl_add hrb (nl_mul tT tq (by omega)) (by omega)) (by omega) (by omega) ?_⟩⟩
    exact s8_fareyNext (by omega) (by omega) (by omega) h1 h2 e3 e4 hL (by omega) (by omega) hF ⟨rfl, hI.reg (hReg.store (by omega) (by omega))⟩
  · have z : ¬ (x_bottoms v2.toNatClampNeg).toInt ≤ v3.toInt := fun y => z (i_le.mpr y)
    refine s1_findNeighbours hC hf hL (by omega) (by omega) (fun X1 X2 X3 X4 A B C D hnb g1 g2 g3 g4 => ?_)
    simp only [boundTop_if, boundBottom_if, bi1]
    have hF := FN_nb hnb
    have hC1 : 0 < C := by
      rcases Nat.eq_zero_or_pos C with y | y
      · have := hF.1.2.2.1; rw [y, Nat.zero_mul] at this; omega
      · exact y
    have hD1 := hF.1.1
    refine s7_st h1 g3 g4 (by omega) (by omega) ?_
    exact s8_fareyNext (by omega) (by omega) (by omega) h1 h2 e3 e4 hL (by omega) (by omega) hF ⟨rfl, hI.reg (hReg.store (by omega) (by omega))⟩
