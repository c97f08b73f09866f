/-! the factor's length: an inverse modulo the word's length -/
theorem l_trem {a b : Int64} (ha1 : -4000000000000000000 ≤ a.toInt) (ha2 : a.toInt ≤ 4000000000000000000) (hb : 0 < b.toInt) (hb2 : b.toInt ≤ 4000000000000000000) : (a - (a / b) * b).toInt = Int.tmod a.toInt b.toInt ∧ (Int.tmod a.toInt b.toInt).natAbs < b.toInt.natAbs := by
  have e1 := Int.mul_tdiv_add_tmod a.toInt b.toInt
  have h1 : (Int.tmod a.toInt b.toInt).natAbs < b.toInt.natAbs := by
    rw [Int.natAbs_tmod]; exact Nat.mod_lt _ (by omega)
  have hq : (Int.tdiv a.toInt b.toInt).natAbs ≤ a.toInt.natAbs := Int.natAbs_tdiv_le_natAbs _ _
  have ed : (a / b).toInt = Int.tdiv a.toInt b.toInt := by
    rw [Int64.toInt_div]
    exact Int.bmod_eq_of_le (by omega) (by omega)
  have ec : b.toInt * Int.tdiv a.toInt b.toInt = Int.tdiv a.toInt b.toInt * b.toInt := Int.mul_comm _ _
  have hm : ((a / b) * b).toInt = Int.tdiv a.toInt b.toInt * b.toInt := by
    rw [l_mul (by rw [ed]; omega) (by rw [ed]; omega), ed]
  refine ⟨?_, h1⟩
  rw [l_sub (by rw [hm]; omega) (by rw [hm]; omega), hm]; omega
/-- r p = 1 modulo n -/
def invM (p n r : Int) : Prop := ∃ k : Int, r * p = 1 + k * n
theorem invM_uniq {p n r s : Int} (h1 : invM p n r) (h2 : invM p n s) (hr : 0 ≤ r) (hr2 : r < n) (hs : 0 ≤ s) (hs2 : s < n) : r = s := by
  obtain ⟨k, hk⟩ := h1
  obtain ⟨l, hl⟩ := h2
  have e : r = s + n * (s * k - r * l) := by
    have e1 : r * (s * p) = r * (1 + l * n) := by rw [hl]
    have e2 : s * (r * p) = s * (1 + k * n) := by rw [hk]
    grind
  have e3 : r % n = s % n := by
    rw [e, Int.add_mul_emod_self_left]
  rw [Int.emod_eq_of_lt hr hr2, Int.emod_eq_of_lt hs hs2] at e3
  exact e3
theorem fl8_L {p n : Nat} (hn : 1 ≤ n) (hn2 : n ≤ 2000000) {n64 : Int64} (hN : n64.toInt = (n : Int)) {post : Int32 → Prop} (hp : ∀ r : Int32, 0 ≤ r.toInt → r.toInt < n → invM p n r.toInt → post r) : ∀ (f x y u v : Nat) (s k l : Int) (X Y U V : Int64), eN f x y → s = 1 ∨ s = -1 → X.toInt = (x : Int) → Y.toInt = (y : Int) → U.toInt = s * u → V.toInt = -(s * v) → 1 ≤ x → x ≤ n → y ≤ n → Nat.gcd x y = 1 → u * y + v * x = n → u ≤ n → s * u * p = x + k * n → -(s * v) * p = y + l * n → w8_factorLength_L43 n64 post (f + 1) X Y U V := by
  have l0 : (0 : Int64).toInt = 0 := rfl
  have hne : ¬ n64 = 0 := fun q => by rw [q, l0] at hN; omega
  have fin : ∀ (x u : Nat) (s k : Int) (X U : Int64), s = 1 ∨ s = -1 → U.toInt = s * u → Nat.gcd x 0 = 1 → u ≤ n → s * u * p = x + k * n → post ((((U - (U / n64) * n64) + n64) - (((U - (U / n64) * n64) + n64) / n64) * n64).toInt32) := by
    intro x u s k X U hs hU hg hu hk
    have hx : x = 1 := by rw [Nat.gcd_zero_right] at hg; exact hg
    subst hx
    have hub : -(n : Int) ≤ U.toInt ∧ U.toInt ≤ (n : Int) := by
      rw [hU]; rcases hs with q | q <;> subst q <;> constructor <;> omega
    obtain ⟨t1, t2⟩ := l_trem (a := U) (b := n64) (by omega) (by omega) (by omega) (by omega)
    have e1 := Int.mul_tdiv_add_tmod U.toInt n64.toInt
    rw [hN] at t1 t2 e1
    have t3 : ((U - (U / n64) * n64) + n64).toInt = Int.tmod U.toInt n + n := by
      rw [l_add (by omega) (by omega), t1, hN]
    have t4 : (((U - (U / n64) * n64) + n64) - (((U - (U / n64) * n64) + n64) / n64) * n64).toInt = (Int.tmod U.toInt n + n) % n := by
      rw [l_rem (by omega) (by omega), t3, hN]
    have t5 := Int.emod_nonneg (Int.tmod U.toInt n + n) (show (n : Int) ≠ 0 by omega)
    have t6 := Int.emod_lt_of_pos (Int.tmod U.toInt n + n) (show (0 : Int) < n by omega)
    have t7 := Int.mul_ediv_add_emod (Int.tmod U.toInt n + n) n
    refine hp _ ?_ ?_ ?_
    · rw [l_i (by omega) (by omega), t4]; exact t5
    · rw [l_i (by omega) (by omega), t4]; exact t6
    · rw [l_i (by omega) (by omega), t4]
      rw [← hU] at hk
      refine ⟨k + (-(Int.tdiv U.toInt n) + 1 - (Int.tmod U.toInt n + n) / n) * p, ?_⟩
      have : (Int.tmod U.toInt n + n) % n = U.toInt + n * (-(Int.tdiv U.toInt n) + 1 - (Int.tmod U.toInt n + n) / n) := by
        grind
      rw [this]
      generalize (-(Int.tdiv U.toInt n) + 1 - (Int.tmod U.toInt n + n) / n) = w
      grind
  intro f
  induction f with
  | zero =>
    intro x y u v s k l X Y U V he hs hX hY hU hV hx hxn hyn hg hsum hu hk hl
    have he : y = 0 := he
    subst he
    rw [w8_factorLength_L43]
    exact ⟨fun _ => ⟨hne, hne, fin x u s k X U hs hU hg hu hk⟩, fun q => absurd ((l_zero hY).mpr rfl) q⟩
  | succ f ih =>
    intro x y u v s k l X Y U V he hs hX hY hU hV hx hxn hyn hg hsum hu hk hl
    rw [w8_factorLength_L43]
    refine ⟨fun q => ?_, fun q => ⟨q, fun Q eQ R eR S eS => ?_⟩⟩
    · have hy := (l_zero hY).mp q
      subst hy
      exact ⟨hne, hne, fin x u s k X U hs hU hg hu hk⟩
    have hy : ¬ y = 0 := fun z => q ((l_zero hY).mpr z)
    have hvn : v ≤ n := by
      have := Nat.mul_le_mul_left v hx
      omega
    have hqx : x / y ≤ x := Nat.div_le_self _ _
    have hqv : x / y * v ≤ n := by
      have := Nat.mul_le_mul_right v hqx
      rw [Nat.mul_comm x v] at this
      omega
    have dm := Nat.div_add_mod x y
    have tQ : Q.toInt = ((x / y : Nat) : Int) := by rw [eQ, l_div (by omega) (by omega), hX, hY, Int.natCast_ediv]
    have c1 : ((x / y * y : Nat) : Int) = ((x / y : Nat) : Int) * (y : Int) := Int.natCast_mul _ _
    have c2 : ((x / y * v : Nat) : Int) = ((x / y : Nat) : Int) * (v : Int) := Int.natCast_mul _ _
    have hqy : x / y * y ≤ x := Nat.div_mul_le_self x y
    have m1 : (Q * Y).toInt = ((x / y * y : Nat) : Int) := by rw [l_mul (by rw [tQ, hY, ← c1]; omega) (by rw [tQ, hY, ← c1]; omega), tQ, hY, c1]
    have tR : R.toInt = ((x % y : Nat) : Int) := by
      have := Nat.mul_comm y (x / y)
      rw [eR, l_sub (by omega) (by omega), m1, hX]; omega
    have eV2 : ((x / y : Nat) : Int) * V.toInt = -(s * ((x / y * v : Nat) : Int)) := by rw [hV, c2]; grind
    have m2 : (Q * V).toInt = -(s * ((x / y * v : Nat) : Int)) := by
      rw [l_mul (by rw [tQ, eV2]; rcases hs with z | z <;> subst z <;> omega) (by rw [tQ, eV2]; rcases hs with z | z <;> subst z <;> omega), tQ, eV2]
    have tS : S.toInt = s * ((u + x / y * v : Nat) : Int) := by
      rw [eS, l_sub (by rw [hU, m2]; rcases hs with z | z <;> subst z <;> omega) (by rw [hU, m2]; rcases hs with z | z <;> subst z <;> omega), hU, m2]
      push_cast; grind
    have dmI : ((x % y : Nat) : Int) = (x : Int) - ((x / y : Nat) : Int) * (y : Int) := by
      have := Nat.mul_comm y (x / y); omega
    refine ih y (x % y) v (u + x / y * v) (-s) l (k - ((x / y : Nat) : Int) * l) Y R V S ?_ (by omega) hY tR (by rw [hV]; grind) (by rw [tS]; grind) (by omega) hyn ?_ ?_ ?_ hvn (by rw [← hl]; grind) ?_
    · rcases he with z | z
      · exact absurd z hy
      · exact z
    · exact Nat.le_trans (Nat.le_of_lt (Nat.mod_lt _ (by omega))) hyn
    · rw [Nat.gcd_comm, ← Nat.gcd_rec, Nat.gcd_comm]; exact hg
    · rw [← hsum]
      have e : x = x / y * y + x % y := by have := Nat.mul_comm y (x / y); omega
      have e2 : v * x = v * (x / y * y + x % y) := by rw [← e]
      rw [e2]; grind
    · rw [dmI]
      push_cast
      grind
theorem op_factorLength : Op_factorLength := by
  intro x_hasSnapshot x_termListSize x_textSize x_tops x_bottoms x_slots x_savedTops x_savedBottoms x_savedSlots x_termList x_text x_arraySizes x_E_size x_E_leftTop x_E_leftBottom x_E_rightTop x_E_rightBottom x_E_terms x_arrays0 x_arrays1 x_arrays2 m_listed m_fed m_hasSnapshot m_above m_below m_list m_text m_kindOf m_nodeAbove m_nodeBelow m_length m_cell m_savedAbove m_savedBelow m_savedKind m_savedNodeAbove m_savedNodeBelow PL kk tt bb v1 hI
  obtain ⟨hReg, hList, hText, hArr, hNode, hHs, hHs01, hSnap⟩ := id hI
  unfold w7_factorLength w8_factorLength w7_expand
  by_cases h1 : isR v1
  rotate_left
  · simp only [r7n h1, r8n h1, b01, b00, false_implies, true_implies, not_true_eq_false, not_false_eq_true, true_and, and_true]; exact hI
  simp only [r7y h1, r8y h1, b01, b00, false_implies, true_implies, not_true_eq_false, not_false_eq_true, true_and, and_true]
  obtain ⟨A, B, N, hC, e1, e2, e3, e4⟩ := hReg.cf h1.lt
  have hb := hC.2.2.2.2
  have hN1 := hC.2.1
  refine ⟨h1.vin, h1.vin, s1_expand hC e1 e2 (fun f hf => s1_findBounds hC hf (fun la lb ra rb hla hlb hra hrb => ?_))⟩
  simp only [boundTop_if, boundBottom_if, if_pos]
  obtain ⟨b1, b2⟩ := bounds_sum hC
  have hdet := s_det A B (N - 1) (rr A B N (N - 1))
  obtain ⟨p1, p2⟩ := s_pos A B (N - 1) (rr A B N (N - 1))
  generalize sLA A B (N - 1) (rr A B N (N - 1)) = a at hla b1 hdet
  generalize sLB A B (N - 1) (rr A B N (N - 1)) = b at hlb b2 hdet p2
  generalize sRA A B (N - 1) (rr A B N (N - 1)) = c at hra b1 hdet p1
  generalize sRB A B (N - 1) (rr A B N (N - 1)) = d at hrb b2 hdet
  refine ⟨h1.vin, h1.vin, fun n64 en => ⟨h1.vin, fun X eX => ⟨2 * 63 + 1, ?_⟩⟩⟩
  have tn : n64.toInt = ((A + B : Nat) : Int) := by rw [en, t64, i_add (by omega) (by omega), e3, e4]; omega
  have tX : X.toInt = (A : Int) := by rw [eX, t64, e3]
  have hgcd : Nat.gcd A (A + B) = 1 := by
    have h9 := rs_gcd A B N
    rw [hC.2.2.2.1, Nat.gcd_one_left] at h9
    have : Nat.gcd A B = 1 := h9.symm
    rw [Nat.add_comm, Nat.gcd_add_self_right]; exact this
  refine fl8_L (p := A) (n := A + B) (by omega) (by omega) tn (fun r r0 r1 hr => ⟨i_ext ?_, hI⟩) (2 * 63) A (A + B) 1 0 1 0 (-1) X n64 1 0 (eN_log 63 _ _ (by omega)) (Or.inl rfl) tX tn rfl rfl (by omega) (by omega) (Nat.le_refl _) hgcd (by omega) (by omega) (by omega) ?_
  rotate_left
  · have ts : (la + lb).toInt = ((a + b : Nat) : Int) := by rw [l_add (by omega) (by omega), hla, hlb]; omega
    rw [l_i (by omega) (by omega), ts]
    refine invM_uniq (p := A) (n := ((A + B : Nat) : Int)) ?_ hr (by omega) (by omega) r0 r1
    refine ⟨a, ?_⟩
    rw [← b1, ← b2]
    push_cast
    grind
  · push_cast; omega
