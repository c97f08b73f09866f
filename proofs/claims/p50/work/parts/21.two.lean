/-! two fractions, neither on the path of the other: their common ancestor is the simplest one between them -/
theorem com_cut2 {a b N c d M : Nat} (h : CF a b N) (h2 : CF c d M) : ∀ (n k : Nat), k < N → k < M → N ≤ k + n → ∃ j m, cutF (rr a b N) (N - k) k (com (rr a b N) (rr c d M) N M n k) = some (j, m) ∧ k ≤ j ∧ j < N ∧ j < M ∧ (∀ i, k ≤ i → i < j → tm a b i = tm c d i) ∧ com (rr a b N) (rr c d M) N M n k = sumN (fun i => tm a b (k + i)) (j - k) + m ∧ ((rr a b N j = m ∧ rr c d M j = m ∧ (j + 1 = N ∨ j + 1 = M)) ∨ (rr a b N j = m ∧ m < rr c d M j) ∨ (rr c d M j = m ∧ m < rr a b N j)) := by
  intro n
  induction n with
  | zero => intro k k1 k2 k3; exact absurd k3 (by omega)
  | succ n ih =>
    intro k k1 k2 k3
    rw [com, if_pos ⟨k1, k2⟩, show N - k = N - (k + 1) + 1 by omega, cutF]
    by_cases q : rr a b N k = rr c d M k
    · rw [if_pos q]
      by_cases w : com (rr a b N) (rr c d M) N M n (k + 1) = 0
      · rw [w]
        refine ⟨k, rr a b N k + 0, if_pos (by omega), Nat.le_refl _, k1, k2, fun i h1 h2 => absurd h1 (by omega), ?_, Or.inl ⟨by omega, by omega, ?_⟩⟩
        · rw [Nat.sub_self]
          show _ = 0 + _
          omega
        · rcases Nat.lt_or_ge (k + 1) N with x | x
          · rcases Nat.lt_or_ge (k + 1) M with y | y
            · exfalso
              obtain ⟨n', rfl⟩ : ∃ n', n = n' + 1 := ⟨n - 1, by omega⟩
              rw [com, if_pos ⟨x, y⟩] at w
              have p1 := rr_pos h (i := k + 1) (by omega) x
              have p2 := rr_pos h2 (i := k + 1) (by omega) y
              split at w <;> omega
            · right; omega
          · left; omega
      · have hk : k + 1 < N ∧ k + 1 < M := by
          cases n with
          | zero => exact absurd rfl w
          | succ n =>
            rw [com] at w
            by_cases y : k + 1 < N ∧ k + 1 < M
            · exact y
            · rw [if_neg y] at w; exact absurd rfl w
        obtain ⟨j, m, c1, c2, c3, c4, c5, c6, c7⟩ := ih (k + 1) hk.1 hk.2 (by omega)
        have e1 : rr a b N k = tm a b k := if_neg (by omega)
        have e2 : rr c d M k = tm c d k := if_neg (by omega)
        refine ⟨j, m, ?_, by omega, c3, c4, fun i g1 g2 => ?_, ?_, c7⟩
        · rw [if_neg (by omega), Nat.add_sub_cancel_left]; exact c1
        · by_cases y : i = k
          · rw [y, ← e1, ← e2, q]
          · exact c5 i (by omega) g2
        · rw [c6, show j - k = (j - (k + 1)) + 1 by omega, sumN_shift, e1]
          have e : (fun i => tm a b (k + (i + 1))) = (fun i => tm a b (k + 1 + i)) := by
            funext i; rw [show k + (i + 1) = k + 1 + i by omega]
          rw [e]; simp only [Nat.add_zero]; omega
    · rw [if_neg q]
      refine ⟨k, min (rr a b N k) (rr c d M k), if_pos (by omega), Nat.le_refl _, k1, k2, fun i h1 h2 => absurd h1 (by omega), ?_, ?_⟩
      · rw [Nat.sub_self]
        show _ = 0 + _
        omega
      · rcases Nat.lt_or_ge (rr a b N k) (rr c d M k) with x | x
        · exact Or.inr (Or.inl ⟨by omega, by omega⟩)
        · exact Or.inr (Or.inr ⟨by omega, by omega⟩)
theorem kk2_front (t : Nat → Nat) : ∀ n : Nat, (kk2 t 0 1 (n + 2) = t 0 * kk2 (fun i => t (i + 1)) 0 1 (n + 1) + kk2 (fun i => t (i + 1)) 1 0 (n + 1) ∧ kk2 t 1 0 (n + 2) = kk2 (fun i => t (i + 1)) 0 1 (n + 1)) ∧ (kk2 t 0 1 (n + 3) = t 0 * kk2 (fun i => t (i + 1)) 0 1 (n + 2) + kk2 (fun i => t (i + 1)) 1 0 (n + 2) ∧ kk2 t 1 0 (n + 3) = kk2 (fun i => t (i + 1)) 0 1 (n + 2)) := by
  intro n
  induction n with
  | zero =>
    refine ⟨⟨?_, ?_⟩, ?_, ?_⟩
    · show t 0 * 1 + 0 = t 0 * 1 + 0; rfl
    · show t 0 * 0 + 1 = 1; omega
    · show t 1 * (t 0 * 1 + 0) + 1 = t 0 * (t 1 * 1 + 0) + (t 1 * 0 + 1)
      have := Nat.mul_comm (t 0) (t 1)
      simp only [Nat.mul_one, Nat.add_zero, Nat.mul_zero, Nat.zero_add]; omega
    · show t 1 * (t 0 * 0 + 1) + 0 = t 1 * 1 + 0
      rw [Nat.mul_zero, Nat.zero_add]
  | succ n ih =>
    obtain ⟨⟨a1, a2⟩, b1, b2⟩ := ih
    refine ⟨⟨b1, b2⟩, ?_, ?_⟩
    · show t (n + 2) * kk2 t 0 1 (n + 3) + kk2 t 0 1 (n + 2) = t 0 * (t (n + 2) * kk2 (fun i => t (i + 1)) 0 1 (n + 2) + kk2 (fun i => t (i + 1)) 0 1 (n + 1)) + (t (n + 2) * kk2 (fun i => t (i + 1)) 1 0 (n + 2) + kk2 (fun i => t (i + 1)) 1 0 (n + 1))
      rw [a1, b1]
      have e := Nat.mul_left_comm (t (n + 2)) (t 0) (kk2 (fun i => t (i + 1)) 0 1 (n + 2))
      rw [Nat.mul_add, Nat.mul_add, e]; omega
    · show t (n + 2) * kk2 t 1 0 (n + 3) + kk2 t 1 0 (n + 2) = t (n + 2) * kk2 (fun i => t (i + 1)) 0 1 (n + 2) + kk2 (fun i => t (i + 1)) 0 1 (n + 1)
      rw [a2, b2]
/-- the terms are those of the fraction that they make -/
theorem kk2_cf : ∀ (n : Nat) (t : Nat → Nat), (∀ i, 1 ≤ i → i < n + 1 → 1 ≤ t i) → (1 ≤ n → 2 ≤ t n) → 1 ≤ t n → CFx (kk2 t 0 1 (n + 2)) (kk2 t 1 0 (n + 2)) (n + 1) ∧ rs (kk2 t 0 1 (n + 2)) (kk2 t 1 0 (n + 2)) (n + 1) = 1 ∧ (∀ i, i < n + 1 → tm (kk2 t 0 1 (n + 2)) (kk2 t 1 0 (n + 2)) i = t i) := by
  intro n
  induction n with
  | zero =>
    intro t h1 h2 h3
    have e1 : kk2 t 0 1 (0 + 2) = t 0 := by show t 0 * 1 + 0 = t 0; omega
    have e2 : kk2 t 1 0 (0 + 2) = 1 := by show t 0 * 0 + 1 = 1; omega
    rw [e1, e2]
    refine ⟨⟨fun i hi => ?_, ?_⟩, rfl, fun i hi => ?_⟩
    · obtain rfl : i = 0 := by omega
      exact Nat.one_pos
    · show t 0 % 1 = 0
      exact Nat.mod_one _
    · obtain rfl : i = 0 := by omega
      show t 0 / 1 = t 0
      exact Nat.div_one _
  | succ n ih =>
    intro t h1 h2 h3
    obtain ⟨⟨f1, f2⟩, -⟩ := kk2_front t (n + 1)
    obtain ⟨g1, g2, g3⟩ := ih (fun i => t (i + 1)) (fun i _ hi => h1 (i + 1) (by omega) (by omega)) (fun _ => h2 (by omega)) (by have := h2 (by omega); show 1 ≤ t (n + 1); omega)
    rw [show n + 1 + 2 = n + 3 from rfl] at f1 f2 ⊢
    rw [show n + 1 + 1 = n + 2 from rfl] at f1 f2 ⊢
    rw [f1, f2]
    generalize kk2 (fun i => t (i + 1)) 0 1 (n + 2) = p at *
    generalize kk2 (fun i => t (i + 1)) 1 0 (n + 2) = q at *
    have r0 : rs p q 0 = p := rfl
    have r1 : rs p q 1 = q := rfl
    have hqp : q < p := by
      have k0 := g3 0 (by omega)
      have k1 := rs_rec p q 0
      rw [r0, r1, k0] at k1
      have hq : 0 < q := by have := g1.1 0 (by omega); rw [r1] at this; exact this
      rcases Nat.eq_zero_or_pos n with z | z
      · subst z
        have e : q = 1 := g2
        have := h2 (by omega)
        have t1 : t (0 + 1) = t 1 := rfl
        rw [e] at k1
        simp only [Nat.mul_one] at k1
        omega
      · have p2 : 0 < rs p q (0 + 2) := g1.1 1 (by omega)
        have t1 := h1 1 (by omega) (by omega)
        have m1 := Nat.mul_le_mul_right q (show 1 ≤ t (0 + 1) from t1)
        omega
    have hmod : (t 0 * p + q) % p = q := by
      rw [Nat.add_comm, Nat.add_mul_mod_self_right, Nat.mod_eq_of_lt hqp]
    have hdiv : (t 0 * p + q) / p = t 0 := by
      rw [Nat.add_comm, Nat.add_mul_div_right _ _ (by omega), Nat.div_eq_of_lt hqp, Nat.zero_add]
    have hs : ∀ i, rs (t 0 * p + q) p (i + 1) = rs p q i := fun i => by rw [rs_shift, hmod]
    refine ⟨⟨fun i hi => ?_, ?_⟩, ?_, fun i hi => ?_⟩
    · rw [hs]
      cases i with
      | zero => rw [r0]; omega
      | succ i => exact g1.1 i (by omega)
    · rw [hs]; exact g1.2
    · rw [hs]; exact g2
    · cases i with
      | zero => exact hdiv
      | succ i =>
        show rs (t 0 * p + q) p (i + 1) / rs (t 0 * p + q) p (i + 1 + 1) = _
        rw [hs, hs]
        exact g3 i (by omega)
theorem sumN_congr {f g : Nat → Nat} : ∀ {n : Nat}, (∀ i, i < n → f i = g i) → sumN f n = sumN g n := by
  intro n
  induction n with
  | zero => intro _; rfl
  | succ n ih =>
    intro h
    show sumN f n + f n = sumN g n + g n
    rw [ih (fun i hi => h i (by omega)), h n (by omega)]
theorem anc_cf {a b N : Nat} (h : CF a b N) {j m : Nat} (hj : j < N) (hm : 1 ≤ j → 1 ≤ m) (hA : oA a b j (m + 1) ≤ 1000000) (hB : oB a b j (m + 1) ≤ 1000000) : CF (oA a b j (m + 1)) (oB a b j (m + 1)) (j + 1) ∧ dep (oA a b j (m + 1)) (oB a b j (m + 1)) (j + 1) = sumN (tm a b) j + m := by
  obtain ⟨k1, k2⟩ := kk_cut2 (a := a) (b := b) (j := j) (m := m)
  obtain ⟨p1, p2⟩ := oA_pos a b j m
  have cj : cutT a b j m j = m + 1 := if_pos rfl
  have hN := h.2.2.1
  obtain ⟨g1, g2, g3⟩ := kk2_cf j (cutT a b j m) (fun i h1 h2 => by
    unfold cutT
    split
    · omega
    · exact tm_pos h (by omega) (by omega)) (fun z => by rw [cj]; have := hm z; omega) (by rw [cj]; omega)
  rw [k1, k2] at g1 g2 g3
  refine ⟨⟨g1, by omega, by omega, g2, p1, hA, p2, hB⟩, ?_⟩
  show sumN (rr _ _ (j + 1)) j + rr _ _ (j + 1) j = _
  have e1 : rr (oA a b j (m + 1)) (oB a b j (m + 1)) (j + 1) j = m := by
    show (if j = j + 1 - 1 then _ else _) = m
    rw [if_pos (by omega), g3 j (by omega), cj]; omega
  have e2 : sumN (rr (oA a b j (m + 1)) (oB a b j (m + 1)) (j + 1)) j = sumN (tm a b) j := sumN_congr (fun i hi => by
    show (if i = j + 1 - 1 then _ else _) = _
    rw [if_neg (by omega), g3 i (by omega)]
    exact if_neg (by omega))
  rw [e1, e2]
/-- one of the two goes on to this side of the ancestor, the other one to that side -/
theorem side_core {P Q A B w g y z : Nat} (hd : P * B = A * Q + 1) (hg : 0 < g) (hz : 0 < z) : ((w + g) * A + w * P) * (y * (B + Q) + z * Q) < (y * (A + P) + z * P) * ((w + g) * B + w * Q) ∧ SM ((w + g) * A + w * P) ((w + g) * B + w * Q) (y * (A + P) + z * P) (y * (B + Q) + z * Q) (A + P) (B + Q) := by
  have hd' : (P : Int) * B = A * Q + 1 := by exact_mod_cast hd
  have e1 : (A + P) * ((w + g) * B + w * Q) = ((w + g) * A + w * P) * (B + Q) + g := by
    have : ((A : Int) + P) * ((w + g) * B + w * Q) = ((w + g) * A + w * P) * (B + Q) + g := by grind
    exact_mod_cast this
  have e2 : (y * (A + P) + z * P) * (B + Q) = (A + P) * (y * (B + Q) + z * Q) + z := by
    have : ((y : Int) * (A + P) + z * P) * (B + Q) = (A + P) * (y * (B + Q) + z * Q) + z := by grind
    exact_mod_cast this
  have e3 : ((w + g) * A + w * P) * B = A * ((w + g) * B + w * Q) + w := by
    have : (((w : Int) + g) * A + w * P) * B = A * ((w + g) * B + w * Q) + w := by grind
    exact_mod_cast this
  have e4 : P * (y * (B + Q) + z * Q) = (y * (A + P) + z * P) * Q + y := by
    have : (P : Int) * (y * (B + Q) + z * Q) = (y * (A + P) + z * P) * Q + y := by grind
    exact_mod_cast this
  have s1 : ((w + g) * A + w * P) * (B + Q) < (A + P) * ((w + g) * B + w * Q) := by omega
  have s2 : (A + P) * (y * (B + Q) + z * Q) < (y * (A + P) + z * P) * (B + Q) := by omega
  exact ⟨nb_cross s1 s2, s1, s2, fun x y' hx hy' => sb_min (by omega) (by omega) hd hx hy'⟩
theorem side_core2 {P Q A B w g y z : Nat} (hd : A * Q = P * B + 1) (hg : 0 < g) (hz : 0 < z) : (y * (A + P) + z * P) * ((w + g) * B + w * Q) < ((w + g) * A + w * P) * (y * (B + Q) + z * Q) ∧ SM (y * (A + P) + z * P) (y * (B + Q) + z * Q) ((w + g) * A + w * P) ((w + g) * B + w * Q) (A + P) (B + Q) := by
  have hd' : (A : Int) * Q = P * B + 1 := by exact_mod_cast hd
  have e1 : ((w + g) * A + w * P) * (B + Q) = (A + P) * ((w + g) * B + w * Q) + g := by
    have : (((w : Int) + g) * A + w * P) * (B + Q) = (A + P) * ((w + g) * B + w * Q) + g := by grind
    exact_mod_cast this
  have e2 : (A + P) * (y * (B + Q) + z * Q) = (y * (A + P) + z * P) * (B + Q) + z := by
    have : ((A : Int) + P) * (y * (B + Q) + z * Q) = (y * (A + P) + z * P) * (B + Q) + z := by grind
    exact_mod_cast this
  have e3 : A * ((w + g) * B + w * Q) = ((w + g) * A + w * P) * B + w := by
    have : (A : Int) * ((w + g) * B + w * Q) = ((w + g) * A + w * P) * B + w := by grind
    exact_mod_cast this
  have e4 : (y * (A + P) + z * P) * Q = P * (y * (B + Q) + z * Q) + y := by
    have : ((y : Int) * (A + P) + z * P) * Q = P * (y * (B + Q) + z * Q) + y := by grind
    exact_mod_cast this
  have s1 : (A + P) * ((w + g) * B + w * Q) < ((w + g) * A + w * P) * (B + Q) := by omega
  have s2 : (y * (A + P) + z * P) * (B + Q) < (A + P) * (y * (B + Q) + z * Q) := by omega
  refine ⟨nb_cross s2 s1, s2, s1, fun x y' hx hy' => ?_⟩
  have := sb_min (A := P) (B := Q) (C := A) (D := B) (by omega) (by omega) hd hx hy'
  omega
/-- the path of a / b ends its run j at m steps, that of c / d goes on -/
theorem anc_side {a b N c d M j m : Nat} (h : CF a b N) (h2 : CF c d M) (hj : j + 1 < N) (hj2 : j < M) (ht : ∀ i, i < j → tm a b i = tm c d i) (h3 : tm a b j = m) (h4 : m + 1 ≤ tm c d j) (hne : ¬ oA a b j (m + 1) * d = oB a b j (m + 1) * c) : (a * d < c * b ∧ SM a b c d (oA a b j (m + 1)) (oB a b j (m + 1))) ∨ (c * b < a * d ∧ SM c d a b (oA a b j (m + 1)) (oB a b j (m + 1))) := by
  obtain ⟨q1, q2⟩ := cA_congr ht (j + 1) (by omega)
  obtain ⟨q3, q4⟩ := cA_congr ht j (by omega)
  have a1 := cA_rs a b j
  have b1 := cB_rs a b j
  have c1 := cA_rs c d j
  have d1 := cB_rs c d j
  rw [← q1, ← q3] at c1
  rw [← q2, ← q4] at d1
  have u1 := rs_rec a b j
  have u2 := rs_rec c d j
  have u3 := rs_lt h.1 (i := j) (by omega)
  rw [h3] at u1
  obtain ⟨g, hg⟩ : ∃ g, rs a b (j + 1) = rs a b (j + 2) + g := ⟨rs a b (j + 1) - rs a b (j + 2), by omega⟩
  have m1 := Nat.mul_le_mul_right (rs c d (j + 1)) h4
  obtain ⟨z, hz⟩ : ∃ z, rs c d j = (m + 1) * rs c d (j + 1) + z := ⟨rs c d j - (m + 1) * rs c d (j + 1), by omega⟩
  have dt := cdet a b j
  have oa : oA a b j (m + 1) = oA a b j m + cA a b (j + 1) := by unfold oA; rw [Nat.add_mul, Nat.one_mul]; omega
  have ob : oB a b j (m + 1) = oB a b j m + cB a b (j + 1) := by unfold oB; rw [Nat.add_mul, Nat.one_mul]; omega
  have eA : oA a b j m = cA a b j + m * cA a b (j + 1) := rfl
  have eB : oB a b j m = cB a b j + m * cB a b (j + 1) := rfl
  rw [oa, ob] at hne ⊢
  rw [u1, hg] at a1 b1
  rw [hz] at c1 d1
  generalize oA a b j m = A at *
  generalize oB a b j m = B at *
  generalize cA a b (j + 1) = P at *
  generalize cB a b (j + 1) = Q at *
  generalize cA a b j = P1 at *
  generalize cB a b j = Q1 at *
  generalize rs a b (j + 2) = w at *
  generalize rs c d (j + 1) = y at *
  have ea : a = (w + g) * A + w * P := by
    rw [a1, eA]
    have : ((P : Int) * (m * (w + g) + w) + P1 * (w + g)) = (w + g) * (P1 + m * P) + w * P := by grind
    exact_mod_cast this
  have eb : b = (w + g) * B + w * Q := by
    rw [b1, eB]
    have : ((Q : Int) * (m * (w + g) + w) + Q1 * (w + g)) = (w + g) * (Q1 + m * Q) + w * Q := by grind
    exact_mod_cast this
  have ec : c = y * (A + P) + z * P := by
    rw [c1, eA]
    have : ((P : Int) * ((m + 1) * y + z) + P1 * y) = y * (P1 + m * P + P) + z * P := by grind
    exact_mod_cast this
  have ed : d = y * (B + Q) + z * Q := by
    rw [d1, eB]
    have : ((Q : Int) * ((m + 1) * y + z) + Q1 * y) = y * (Q1 + m * Q + Q) + z * Q := by grind
    exact_mod_cast this
  have hz1 : 0 < z := by
    rcases Nat.eq_zero_or_pos z with x | x
    · exfalso
      refine hne ?_
      rw [ec, ed, x, Nat.zero_mul, Nat.zero_mul, Nat.add_zero, Nat.add_zero, Nat.mul_left_comm, Nat.mul_left_comm (B + Q), Nat.mul_comm (A + P)]
    · exact x
  rw [ea, eb, ec, ed]
  rcases Nat.lt_or_ge 0 (j % 2) with x | x
  · rw [if_neg (by omega)] at dt
    refine Or.inr (side_core2 ?_ (by omega) hz1)
    have : (A : Int) * Q = P * B + 1 := by
      rw [eA, eB]; push_cast; grind
    exact_mod_cast this
  · rw [if_pos (by omega)] at dt
    refine Or.inl (side_core ?_ (by omega) hz1)
    have : (P : Int) * B = A * Q + 1 := by
      rw [eA, eB]; push_cast; grind
    exact_mod_cast this
theorem anc_le {a b N j m : Nat} (h : CF a b N) (hj : j < N) (hm : m ≤ rr a b N j) : oA a b j (m + 1) ≤ a ∧ oB a b j (m + 1) ≤ b := by
  rcases Nat.lt_or_ge (j + 1) N with x | x
  · have e : rr a b N j = tm a b j := if_neg (by omega)
    have a1 := cA_rs a b (j + 1)
    have b1 := cB_rs a b (j + 1)
    have r1 := rs_pos h (k := j + 1) (by omega)
    have r2 := rs_pos h (k := j + 2) (by omega)
    have a2 := Nat.mul_le_mul_left (cA a b (j + 2)) r1
    have a3 := Nat.mul_le_mul_left (cA a b (j + 1)) r2
    have b2 := Nat.mul_le_mul_left (cB a b (j + 2)) r1
    have b3 := Nat.mul_le_mul_left (cB a b (j + 1)) r2
    have m1 := Nat.mul_le_mul_right (cA a b (j + 1)) (show m ≤ tm a b j by omega)
    have m2 := Nat.mul_le_mul_right (cB a b (j + 1)) (show m ≤ tm a b j by omega)
    have k1 := cA_rec a b j
    have k2 := cB_rec a b j
    rw [show j + 1 + 1 = j + 2 from rfl] at a1 b1 
    unfold oA oB
    rw [Nat.add_mul, Nat.one_mul, Nat.add_mul, Nat.one_mul]
    constructor <;> omega
  · obtain rfl : j = N - 1 := by omega
    obtain ⟨_, h1, h2⟩ := rr_lastN h
    obtain ⟨h3, h4⟩ := oA_mono (a := a) (b := b) (k := N - 1) (show m + 1 ≤ rr a b N (N - 1) + 1 by omega)
    omega
theorem anc_cop (a b j m : Nat) : Nat.gcd (oA a b j (m + 1)) (oB a b j (m + 1)) = 1 := by
  have dt := s_det a b j m
  obtain ⟨s1, s2⟩ := s_sum a b j m
  rw [← s1, ← s2]
  have dt2 : (sRA a b j m + 0) * sLB a b j m = sLA a b j m * sRB a b j m + 1 := by
    have : (sRA a b j m : Int) * sLB a b j m = (sLA a b j m : Int) * sRB a b j m + 1 := by omega
    rw [Nat.add_zero]; exact_mod_cast this
  rw [Nat.add_zero] at dt2
  exact (cop_det (a := sLA a b j m) (b := sLB a b j m) (by rw [Nat.add_mul, Nat.mul_add]; omega)).2
theorem dep_lt {c d M j m : Nat} (h2 : CF c d M) (hj : j < M) (h : m < rr c d M j) : sumN (rr c d M) j + m < dep c d M := by
  have h1 : sumN (rr c d M) (j + 1) ≤ dep c d M := sumN_mono (by omega)
  have h3 : sumN (rr c d M) (j + 1) = sumN (rr c d M) j + rr c d M j := rfl
  omega
theorem dep_lt2 {a b N j m : Nat} (h : CF a b N) (hj : j + 1 < N) (hm : rr a b N j = m) : sumN (rr a b N) j + m < dep a b N := by
  have h1 : sumN (rr a b N) (j + 2) ≤ dep a b N := sumN_mono (by omega)
  have h3 : sumN (rr a b N) (j + 2) = sumN (rr a b N) j + rr a b N j + rr a b N (j + 1) := rfl
  have h4 := rr_pos h (i := j + 1) (by omega) hj
  omega
theorem sum_rr {a b N j : Nat} (hj : j < N) : sumN (rr a b N) j = sumN (tm a b) j := sumN_congr (fun i hi => if_neg (by omega))
theorem anc_main {a b N c d M : Nat} (h : CF a b N) (h2 : CF c d M) : ∃ j m, cutF (rr a b N) N 0 (com (rr a b N) (rr c d M) N M N 0) = some (j, m) ∧ oA a b j (m + 1) ≤ 1000000 ∧ oB a b j (m + 1) ≤ 1000000 ∧ (oA a b j (m + 1) * b = oB a b j (m + 1) * a ∨ oA a b j (m + 1) * d = oB a b j (m + 1) * c ∨ (∃ K, CF (oA a b j (m + 1)) (oB a b j (m + 1)) K ∧ dep (oA a b j (m + 1)) (oB a b j (m + 1)) K = com (rr a b N) (rr c d M) N M N 0 ∧ com (rr a b N) (rr c d M) N M N 0 < dep a b N ∧ com (rr a b N) (rr c d M) N M N 0 < dep c d M ∧ ((a * d < c * b ∧ SM a b c d (oA a b j (m + 1)) (oB a b j (m + 1))) ∨ (c * b < a * d ∧ SM c d a b (oA a b j (m + 1)) (oB a b j (m + 1)))))) := by
  have hN1 := h.2.1
  have hM1 := h2.2.1
  have ha := h.2.2.2.2
  obtain ⟨j, m, c1, -, c3, c4, c5, c6, c7⟩ := com_cut2 h h2 N 0 (by omega) (by omega) (by omega)
  rw [Nat.sub_zero] at c1 c6
  simp only [Nat.zero_add] at c6
  have c6 : com (rr a b N) (rr c d M) N M N 0 = sumN (tm a b) j + m := c6
  have ht : ∀ i, i < j → tm a b i = tm c d i := fun i hi => c5 i (by omega) hi
  obtain ⟨oe1, oe2⟩ := oA_congr (m := m + 1) ht
  have hmr : m ≤ rr a b N j ∧ m ≤ rr c d M j := by omega
  obtain ⟨l1, l2⟩ := anc_le h c3 hmr.1
  refine ⟨j, m, c1, by omega, by omega, ?_⟩
  -- at the end of one of them
  have endA : rr a b N j = m → j + 1 = N → oA a b j (m + 1) * b = oB a b j (m + 1) * a := fun e1 e2 => by
    obtain ⟨_, g1, g2⟩ := rr_lastN h
    rw [show N - 1 = j by omega, e1] at g1 g2
    rw [g1, g2, Nat.mul_comm]
  have endC : rr c d M j = m → j + 1 = M → oA a b j (m + 1) * d = oB a b j (m + 1) * c := fun e1 e2 => by
    obtain ⟨_, g1, g2⟩ := rr_lastN h2
    rw [show M - 1 = j by omega, e1] at g1 g2
    rw [oe1, oe2, g1, g2, Nat.mul_comm]
  have hsum : sumN (tm a b) j = sumN (tm c d) j := sumN_congr ht
  by_cases n1 : oA a b j (m + 1) * b = oB a b j (m + 1) * a
  · exact Or.inl n1
  by_cases n2 : oA a b j (m + 1) * d = oB a b j (m + 1) * c
  · exact Or.inr (Or.inl n2)
  have hmj : 1 ≤ j → 1 ≤ m := fun z => by
    have p1 := rr_pos h (i := j) (by omega) c3
    have p2 := rr_pos h2 (i := j) (by omega) c4
    omega
  obtain ⟨k1, k2⟩ := anc_cf h c3 hmj (by omega) (by omega)
  refine Or.inr (Or.inr ⟨j + 1, k1, by rw [k2, c6], ?_⟩)
  rcases c7 with ⟨e1, e2, e3⟩ | ⟨e1, e2⟩ | ⟨e1, e2⟩
  · rcases e3 with e3 | e3
    · exact absurd (endA e1 e3) n1
    · exact absurd (endC e2 e3) n2
  · have x : j + 1 < N := by
      have : ¬ j + 1 = N := fun q => n1 (endA e1 q)
      omega
    have f1 : tm a b j = m := by rw [← e1]; exact (if_neg (by omega)).symm
    have f2 : m + 1 ≤ tm c d j := by
      have : rr c d M j ≤ tm c d j := by
        unfold rr; split <;> omega
      omega
    have d1 := dep_lt2 h x e1
    have d2 := dep_lt h2 c4 e2
    rw [sum_rr c3] at d1
    rw [sum_rr c4] at d2
    exact ⟨by omega, by omega, anc_side h h2 x c4 ht f1 f2 n2⟩
  · have x : j + 1 < M := by
      have : ¬ j + 1 = M := fun q => n2 (endC e1 q)
      omega
    have f1 : tm c d j = m := by rw [← e1]; exact (if_neg (by omega)).symm
    have f2 : m + 1 ≤ tm a b j := by
      have : rr a b N j ≤ tm a b j := by
        unfold rr; split <;> omega
      omega
    have d1 := dep_lt2 h2 x e1
    have d2 := dep_lt h c3 e2
    rw [sum_rr c4] at d1
    rw [sum_rr c3] at d2
    have s := anc_side h2 h x c3 (fun i hi => (ht i hi).symm) f1 f2 (by rw [← oe1, ← oe2]; exact n1)
    rw [← oe1, ← oe2] at s
    exact ⟨by omega, by omega, s.symm⟩
