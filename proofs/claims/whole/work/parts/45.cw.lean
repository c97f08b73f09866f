/-! fromCalkinWilf -/
theorem and1 (y : Int64) : (y &&& 1 = 0 ∧ y.toBitVec.getLsbD 0 = false) ∨ (y &&& 1 = 1 ∧ y.toBitVec.getLsbD 0 = true) := by
  have e : (y &&& 1).toBitVec = y.toBitVec &&& 1#64 := rfl
  have hb : y.toBitVec.getLsbD 0 = decide (y.toBitVec.toNat % 2 = 1) := by
    show y.toBitVec.toNat.testBit 0 = _
    rw [Nat.testBit_zero]
  have hn : (y.toBitVec &&& 1#64).toNat = y.toBitVec.toNat % 2 := by
    rw [BitVec.toNat_and]; exact Nat.and_one_is_mod _
  rcases Nat.mod_two_eq_zero_or_one y.toBitVec.toNat with z | z
  · exact Or.inl ⟨Int64.toBitVec_inj.mp (by rw [e]; exact BitVec.eq_of_toNat_eq (by rw [hn, z]; rfl)), by rw [hb, z]; rfl⟩
  · exact Or.inr ⟨Int64.toBitVec_inj.mp (by rw [e]; exact BitVec.eq_of_toNat_eq (by rw [hn, z]; rfl)), by rw [hb, z]; rfl⟩
theorem sh_amt : ∀ j, j < 63 → ((((Int32.ofNat j).toInt64 &&& 63).toBitVec.smod 64#64).toNat = j) := by decide +kernel
theorem sh_bit (x : Int64) {j : Nat} (hj : j < 63) : (x >>> ((Int32.ofNat j).toInt64 &&& 63)).toBitVec.getLsbD 0 = x.toBitVec.getLsbD j := by
  have e : (x >>> ((Int32.ofNat j).toInt64 &&& 63)).toBitVec = x.toBitVec.sshiftRight ((((Int32.ofNat j).toInt64 &&& 63).toBitVec.smod 64#64).toNat) := rfl
  rw [e, sh_amt j hj, BitVec.getLsbD_sshiftRight, if_pos (by omega), Nat.add_zero, show (!decide (64 ≤ 0)) = true by decide, Bool.true_and]
/-- bit j, by the test that both make -/
def cwB (x : Int64) (j : Nat) : Prop := ((x >>> ((Int32.ofNat j).toInt64 &&& 63)) &&& (1 : Int64)) = (1 : Int64)
theorem cwB_no {x : Int64} {j : Nat} (h : ¬ cwB x j) : ((x >>> ((Int32.ofNat j).toInt64 &&& 63)) &&& (1 : Int64)) = (0 : Int64) := by
  rcases and1 (x >>> ((Int32.ofNat j).toInt64 &&& 63)) with ⟨z, _⟩ | ⟨z, _⟩
  · exact z
  · exact absurd z h
theorem cwB_some {x : Int64} (hx : 1 ≤ x.toInt) : ∃ j, j < 63 ∧ cwB x j := by
  rcases Classical.em (∃ j, j < 63 ∧ cwB x j) with h | h
  · exact h
  · exfalso
    have z : ∀ j, j < 63 → x.toBitVec.getLsbD j = false := by
      intro j hj
      have hn : ¬ cwB x j := fun y => h ⟨j, hj, y⟩
      rcases and1 (x >>> ((Int32.ofNat j).toInt64 &&& 63)) with ⟨_, w⟩ | ⟨w, _⟩
      · rw [sh_bit x hj] at w; exact w
      · exact absurd w hn
    have hm : x.toBitVec.getLsbD 63 = false := by
      have e1 := BitVec.msb_eq_getLsbD_last x.toBitVec
      have e2 := BitVec.msb_eq_toInt (x := x.toBitVec)
      have e3 : x.toBitVec.toInt = x.toInt := rfl
      rw [e2, e3, show decide (x.toInt < 0) = false from decide_eq_false (by omega)] at e1
      exact e1.symm
    have e : x.toBitVec = 0#64 := by
      refine BitVec.eq_of_getLsbD_eq (fun i hi => ?_)
      have : (0#64).getLsbD i = false := by simp
      rw [this]
      rcases (show i < 63 ∨ i = 63 by omega) with w | w
      · exact z i w
      · rw [w]; exact hm
    have : x = 0 := Int64.toBitVec_inj.mp e
    rw [this] at hx
    exact absurd hx (by decide)
theorem top_of {P : Nat → Prop} : ∀ n, (∃ j, j < n ∧ P j) → ∃ J, J < n ∧ P J ∧ ∀ j, J < j → j < n → ¬ P j := by
  intro n
  induction n with
  | zero => rintro ⟨j, h, _⟩; exact absurd h (by omega)
  | succ n ih =>
    intro h
    rcases Classical.em (P n) with q | q
    · exact ⟨n, by omega, q, fun j h1 h2 => absurd h1 (by omega)⟩
    · obtain ⟨j, hj, pj⟩ := h
      have hne : j ≠ n := fun e => q (e ▸ pj)
      obtain ⟨J, h1, h2, h3⟩ := ih ⟨j, by omega, pj⟩
      refine ⟨J, by omega, h2, fun i h4 h5 => ?_⟩
      by_cases w : i = n
      · rw [w]; exact q
      · exact h3 i h4 (by omega)
noncomputable def cwP (x : Int64) : Nat → Nat → Nat → Nat × Nat
  | 0, p, q => (p, q)
  | j + 1, p, q => @ite _ (cwB x j) (Classical.propDecidable _) (cwP x j (p + q) q) (cwP x j p (q + p))
theorem cwP_y {x : Int64} {j p q : Nat} (h : cwB x j) : cwP x (j + 1) p q = cwP x j (p + q) q := if_pos h
theorem cwP_n {x : Int64} {j p q : Nat} (h : ¬ cwB x j) : cwP x (j + 1) p q = cwP x j p (q + p) := if_neg h
theorem cwP_le (x : Int64) : ∀ j p q, p ≤ (cwP x j p q).1 ∧ q ≤ (cwP x j p q).2 := by
  intro j
  induction j with
  | zero => intro p q; exact ⟨Nat.le_refl _, Nat.le_refl _⟩
  | succ j ih =>
    intro p q
    rcases Classical.em (cwB x j) with h | h
    · rw [cwP_y h]; have := ih (p + q) q; omega
    · rw [cwP_n h]; have := ih p (q + p); omega
theorem cwP_gcd (x : Int64) : ∀ j p q, Nat.gcd p q = 1 → Nat.gcd (cwP x j p q).1 (cwP x j p q).2 = 1 := by
  intro j
  induction j with
  | zero => intro p q h; exact h
  | succ j ih =>
    intro p q hg
    rcases Classical.em (cwB x j) with h | h
    · rw [cwP_y h]; exact ih _ _ (by rw [Nat.gcd_add_self_left]; exact hg)
    · rw [cwP_n h]; exact ih _ _ (by rw [Nat.gcd_add_self_right]; exact hg)
theorem cwP_bnd (x : Int64) : ∀ j p q, j ≤ 62 → p + q ≤ 2 ^ (63 - j) → (cwP x j p q).1 + (cwP x j p q).2 ≤ 2 ^ 63 := by
  intro j
  induction j with
  | zero => intro p q _ h; exact h
  | succ j ih =>
    intro p q hj h
    have e : 2 ^ (63 - j) = 2 ^ (63 - (j + 1)) * 2 := by rw [← Nat.pow_succ]; congr 1; omega
    rcases Classical.em (cwB x j) with w | w
    · rw [cwP_y w]; exact ih _ _ (by omega) (by omega)
    · rw [cwP_n w]; exact ih _ _ (by omega) (by omega)
theorem st_big {P Q : Nat} (hg : Nat.gcd P Q = 1) (h : 1000000 < P ∨ 1000000 < Q) : stR P Q = -3 ∧ ∀ f v x, stF f v P Q x = f := by
  have e : sg P Q = 1 := by unfold sg; rw [Int.toNat_natCast, Int.toNat_natCast, hg]; rfl
  have hn : ¬ stOk P Q := by
    unfold stOk
    rw [e, Int.ediv_one, Int.ediv_one]; omega
  exact ⟨if_neg hn, fun f v x => if_neg hn⟩
theorem i_pred {v x : Int32} {k : Nat} (h : v.toInt = (k : Int)) (e : x = v + (-1 : Int32)) : x.toInt = (k : Int) - 1 := by
  have l : (-1 : Int32).toInt = -1 := rfl
  have := i_range v
  rw [e, i_add (by omega) (by omega), h, l]; omega
theorem cwr8_L {x : Int64} {ab be : Nat → Int32} {v1 : Int32} (h1 : isR v1) {post : Int32 → (Nat → Int32) → (Nat → Int32) → Prop} {R : Int32} {F G : Nat → Int32} (hp : post R F G) : ∀ (j p q : Nat) (X Y : Int64) (v : Int32), j ≤ 62 → X.toInt = (p : Int) → Y.toInt = (q : Int) → v.toInt = (j : Int) - 1 → 1 ≤ p → 1 ≤ q → p ≤ 1000000 → q ≤ 1000000 → Nat.gcd p q = 1 → R = stR ((cwP x j p q).1 : Int) ((cwP x j p q).2 : Int) → F = stF ab v1 ((cwP x j p q).1 : Int) ((cwP x j p q).2 : Int) ((cwP x j p q).1 : Int) → G = stF be v1 ((cwP x j p q).1 : Int) ((cwP x j p q).2 : Int) ((cwP x j p q).2 : Int) → w8_fromCalkinWilf_L49 ab be v1 x post (j + 1) X Y v := by
  have l6 : (1000000 : Int64).toInt = ((1000000 : Nat) : Int) := rfl
  have l0 : (0 : Int32).toInt = 0 := rfl
  intro j
  induction j with
  | zero =>
    intro p q X Y v hj hX hY hv hp1 hq1 hp2 hq2 hg eR eF eG
    rw [w8_fromCalkinWilf_L49]
    refine ⟨fun _ => s8_st h1 hX hY (by omega) (by omega) ?_, fun z => absurd (i_lt.mpr (by omega)) z⟩
    rw [eR, eF, eG] at hp; exact hp
  | succ j ih =>
    intro p q X Y v hj hX hY hv hp1 hq1 hp2 hq2 hg eR eF eG
    have hv' : v.toInt = (j : Int) := by omega
    have ev : v = Int32.ofNat j := of_toInt hv'
    rw [w8_fromCalkinWilf_L49]
    refine ⟨fun z => absurd (i_lt.mp z) (by omega), fun _ => ⟨fun z Z eZ => ?_, fun z Z eZ => ?_⟩⟩
    · have hb : ¬ cwB x j := by unfold cwB; rw [← ev]; exact z
      rw [cwP_n hb] at eR eF eG
      have tZ : Z.toInt = ((q + p : Nat) : Int) := by rw [eZ]; exact nl_add hY hX (by omega)
      have hg2 : Nat.gcd p (q + p) = 1 := by rw [Nat.gcd_add_self_right]; exact hg
      unfold w8_fromCalkinWilf_J82
      refine ⟨fun y => absurd ((nl_lt l6 hX).mp y) (by omega), fun _ => ⟨fun y u eu => ih p (q + p) X Z u (by omega) hX tZ (i_pred hv' eu) hp1 (by omega) hp2 ((nl_le tZ l6).mp y) hg2 eR eF eG, fun y => ?_⟩⟩
      have y : 1000000 < q + p := by
        have : ¬ q + p ≤ 1000000 := fun w => y ((nl_le tZ l6).mpr w)
        omega
      obtain ⟨b1, b2⟩ := st_big (cwP_gcd x j p (q + p) hg2) (by have := cwP_le x j p (q + p); omega)
      rw [b1] at eR; rw [b2] at eF eG
      rw [eR, eF, eG] at hp; exact hp
    · have hb : cwB x j := by unfold cwB; rw [← ev]; exact z
      rw [cwP_y hb] at eR eF eG
      have tZ : Z.toInt = ((p + q : Nat) : Int) := by rw [eZ]; exact nl_add hX hY (by omega)
      have hg2 : Nat.gcd (p + q) q = 1 := by rw [Nat.gcd_add_self_left]; exact hg
      unfold w8_fromCalkinWilf_J82
      refine ⟨fun y => ?_, fun y => ⟨fun _ u eu => ih (p + q) q Z Y u (by omega) tZ hY (i_pred hv' eu) (by omega) hq1 ?_ hq2 hg2 eR eF eG, fun y => absurd ((nl_le hY l6).mpr hq2) y⟩⟩
      · have y := (nl_lt l6 tZ).mp y
        obtain ⟨b1, b2⟩ := st_big (cwP_gcd x j (p + q) q hg2) (by have := cwP_le x j (p + q) q; omega)
        rw [b1] at eR; rw [b2] at eF eG
        rw [eR, eF, eG] at hp; exact hp
      · have : ¬ 1000000 < p + q := fun w => y ((nl_lt l6 tZ).mpr w)
        omega
theorem cwt8_L {x : Int64} {J : Nat} (hJ : J < 63) (hb : cwB x J) (hn : ∀ j, J < j → j < 63 → ¬ cwB x j) {ab be : Nat → Int32} {v1 : Int32} (h1 : isR v1) {post : Int32 → (Nat → Int32) → (Nat → Int32) → Prop} (hp : post (stR ((cwP x J 1 1).1 : Int) ((cwP x J 1 1).2 : Int)) (stF ab v1 ((cwP x J 1 1).1 : Int) ((cwP x J 1 1).2 : Int) ((cwP x J 1 1).1 : Int)) (stF be v1 ((cwP x J 1 1).1 : Int) ((cwP x J 1 1).2 : Int) ((cwP x J 1 1).2 : Int))) : ∀ (n j : Nat) (v : Int32), J + n = j → j < 63 → v.toInt = (j : Int) → w8_fromCalkinWilf_L20 ab be v1 x post (n + 1) v := by
  intro n
  induction n with
  | zero =>
    intro j v hj hj2 hv
    obtain rfl : J = j := by omega
    have ev : v = Int32.ofNat J := of_toInt hv
    have l1 : (1 : Int32).toInt = 1 := rfl
    rw [w8_fromCalkinWilf_L20]
    refine ⟨fun _ u eu => ⟨J + 1, cwr8_L h1 hp J 1 1 1 1 u (by omega) rfl rfl ?_ (by omega) (by omega) (by omega) (by omega) rfl rfl rfl rfl⟩, fun z => ?_⟩
    · rw [eu, i_sub (by omega) (by omega), hv, l1]
    · exfalso
      unfold cwB at hb
      rw [← ev, z] at hb
      exact absurd hb (by decide)
  | succ n ih =>
    intro j v hj hj2 hv
    have ev : v = Int32.ofNat j := of_toInt hv
    rw [w8_fromCalkinWilf_L20]
    have z := cwB_no (hn j (by omega) hj2)
    rw [← ev] at z
    exact ⟨fun y => absurd z y, fun _ u eu => ih (j - 1) u (by omega) (by omega) (by rw [i_pred hv eu]; omega)⟩
theorem cwr7_L {x : Int64} {tp bo : Nat → Int32} {v1 : Int32} (h1 : isR v1) {post : Int32 → (Nat → Int32) → (Nat → Int32) → Prop} {R : Int32} {F G : Nat → Int32} (hp : post R F G) : ∀ (j p q : Nat) (X Y : Int64) (v : Int32), j ≤ 62 → X.toInt = (p : Int) → Y.toInt = (q : Int) → v.toInt = (j : Int) - 1 → 1 ≤ p → 1 ≤ q → p + q ≤ 2 ^ (63 - j) → R = stR ((cwP x j p q).1 : Int) ((cwP x j p q).2 : Int) → F = stF tp v1 ((cwP x j p q).1 : Int) ((cwP x j p q).2 : Int) ((cwP x j p q).1 : Int) → G = stF bo v1 ((cwP x j p q).1 : Int) ((cwP x j p q).2 : Int) ((cwP x j p q).2 : Int) → w7_fromCalkinWilf_L28 tp bo v1 x post (j + 1) X Y 1 v := by
  have l0 : (0 : Int32).toInt = 0 := rfl
  have n1 : ¬ (1 : Int32) = 0 := by decide
  intro j
  induction j with
  | zero =>
    intro p q X Y v hj hX hY hv hp1 hq1 hb eR eF eG
    rw [w7_fromCalkinWilf_L28]
    refine ⟨fun _ => s7_st h1 hX hY (by omega) (by omega) ?_, fun z => absurd (i_lt.mpr (by omega)) z⟩
    rw [eR, eF, eG] at hp; exact hp
  | succ j ih =>
    intro p q X Y v hj hX hY hv hp1 hq1 hb eR eF eG
    have hv' : v.toInt = (j : Int) := by omega
    have ev : v = Int32.ofNat j := of_toInt hv'
    have e : 2 ^ (63 - j) = 2 ^ (63 - (j + 1)) * 2 := by rw [← Nat.pow_succ]; congr 1; omega
    have hpw : 2 ^ (63 - (j + 1)) ≤ 2 ^ 62 := Nat.pow_le_pow_right (by omega) (by omega)
    have h62 : 2 ^ 62 = 4611686018427387904 := by decide
    rw [w7_fromCalkinWilf_L28]
    refine ⟨fun z => absurd (i_lt.mp z) (by omega), fun _ => ⟨fun z => ?_, fun z => ?_⟩⟩
    · have hb2 : ¬ cwB x j := by unfold cwB; rw [← ev]; exact z
      rw [cwP_n hb2] at eR eF eG
      unfold w7_fromCalkinWilf_J49 w7_fromCalkinWilf_J71 w7_fromCalkinWilf_J83
      refine ⟨fun y => absurd y n1, fun _ => ⟨fun _ => ⟨fun y => absurd y n1, fun _ Z eZ => ⟨fun _ u eu => ih p (q + p) X Z u (by omega) hX ?_ (i_pred hv' eu) hp1 (by omega) (by omega) eR eF eG, fun y => absurd y n1⟩⟩, fun y => absurd rfl y⟩⟩
      rw [eZ]; exact nl_add hY hX (by omega)
    · have hb2 : cwB x j := by unfold cwB; rw [← ev]; exact z
      rw [cwP_y hb2] at eR eF eG
      unfold w7_fromCalkinWilf_J49 w7_fromCalkinWilf_J83
      refine ⟨fun y => absurd y n1, fun _ => ⟨fun y => absurd y n1, fun _ Z eZ => ⟨fun _ u eu => ih (p + q) q Z Y u (by omega) ?_ hY (i_pred hv' eu) (by omega) hq1 (by omega) eR eF eG, fun y => absurd y n1⟩⟩⟩
      rw [eZ]; exact nl_add hX hY (by omega)
theorem cwt7_L {x : Int64} {J : Nat} (hJ : J < 63) (hb : cwB x J) (hn : ∀ j, J < j → j < 63 → ¬ cwB x j) {tp bo : Nat → Int32} {v1 : Int32} (h1 : isR v1) {post : Int32 → (Nat → Int32) → (Nat → Int32) → Prop} (hp : post (stR ((cwP x J 1 1).1 : Int) ((cwP x J 1 1).2 : Int)) (stF tp v1 ((cwP x J 1 1).1 : Int) ((cwP x J 1 1).2 : Int) ((cwP x J 1 1).1 : Int)) (stF bo v1 ((cwP x J 1 1).1 : Int) ((cwP x J 1 1).2 : Int) ((cwP x J 1 1).2 : Int))) : ∀ (n j : Nat) (v : Int32), J + n = j → j < 63 → v.toInt = (j : Int) → w7_fromCalkinWilf_L28 tp bo v1 x post (J + 1 + n + 1) 1 1 0 v := by
  have l0 : (0 : Int32).toInt = 0 := rfl
  have n1 : ¬ (1 : Int32) = 0 := by decide
  intro n
  induction n with
  | zero =>
    intro j v hj hj2 hv
    obtain rfl : J = j := by omega
    have ev : v = Int32.ofNat J := of_toInt hv
    rw [w7_fromCalkinWilf_L28]
    refine ⟨fun z => absurd (i_lt.mp z) (by omega), fun _ => ⟨fun z => ?_, fun _ => ?_⟩⟩
    · unfold cwB at hb
      rw [← ev] at hb
      exact absurd hb z
    · unfold w7_fromCalkinWilf_J49 w7_fromCalkinWilf_J71 w7_fromCalkinWilf_J83
      refine ⟨fun _ => ⟨fun _ => ⟨fun y => absurd rfl y, fun _ => ⟨fun y => absurd y n1, fun _ u eu => ?_⟩⟩, fun y => absurd rfl y⟩, fun y => absurd rfl y⟩
      refine cwr7_L h1 hp J 1 1 1 1 u (by omega) rfl rfl (i_pred hv eu) (by omega) (by omega) ?_ rfl rfl rfl
      have h2 : 2 ^ 1 ≤ 2 ^ (63 - J) := Nat.pow_le_pow_right (by omega) (by omega)
      omega
  | succ n ih =>
    intro j v hj hj2 hv
    have ev : v = Int32.ofNat j := of_toInt hv
    have z := hn j (by omega) hj2
    unfold cwB at z
    rw [← ev] at z
    rw [w7_fromCalkinWilf_L28]
    refine ⟨fun y => absurd (i_lt.mp y) (by omega), fun _ => ⟨fun _ => ?_, fun y => absurd y z⟩⟩
    unfold w7_fromCalkinWilf_J49 w7_fromCalkinWilf_J71 w7_fromCalkinWilf_J83
    exact ⟨fun _ => ⟨fun _ => ⟨fun y => absurd rfl y, fun _ => ⟨fun _ u eu => ih (j - 1) u (by omega) (by omega) (by rw [i_pred hv eu]; omega), fun y => absurd rfl y⟩⟩, fun y => absurd rfl y⟩, fun y => absurd rfl y⟩
theorem op_fromCalkinWilf : Op_fromCalkinWilf := by
  intro x_hasSnapshot x_termListSize x_textSize x_tops x_bottoms x_slots x_savedTops x_savedBottoms x_savedSlots x_termList x_text x_arraySizes x_arrays0 x_arrays1 x_arrays2 m_listed m_fed m_hasSnapshot m_above m_below m_list m_text m_kindOf m_nodeAbove m_nodeBelow m_length m_cell m_savedAbove m_savedBelow m_savedKind m_savedNodeAbove m_savedNodeBelow PL kk tt bb v1 v2 hI
  obtain ⟨hReg, hList, hText, hArr, hNode, hHs, hHs01, hSnap⟩ := id hI
  unfold w7_fromCalkinWilf w8_fromCalkinWilf
  by_cases h1 : isR v1
  rotate_left
  · simp only [r7n h1, r8n h1, b01, b00, false_implies, true_implies, not_true_eq_false, not_false_eq_true, true_and, and_true]; exact hI
  simp only [r7y h1, r8y h1, b01, b00, false_implies, true_implies, not_true_eq_false, not_false_eq_true, true_and, and_true]
  by_cases h2 : (1 : Int64) ≤ v2
  rotate_left
  · exact ⟨fun z => absurd z h2, fun _ => ⟨fun z => absurd z h2, fun _ => hI⟩⟩
  have o1 : (1 : Int64).toInt = 1 := rfl
  have hx := l_le.mp h2
  rw [o1] at hx
  obtain ⟨J, hJ, hb, hn⟩ := top_of 63 (cwB_some hx)
  have hle := cwP_le v2 J 1 1
  refine ⟨fun _ => ⟨_, cwt7_L hJ hb hn h1 ⟨fun _ => ⟨_, cwt8_L hJ hb hn h1 ⟨rfl, hI.reg (hReg.store (by omega) (by omega))⟩ (62 - J) 62 62 (by omega) (by omega) rfl⟩, fun z => absurd h2 z⟩ (62 - J) 62 62 (by omega) (by omega) rfl⟩, fun z => absurd h2 z⟩
