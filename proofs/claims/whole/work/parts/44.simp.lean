/-! the simplest fraction between two ends -/
/-- m / n lies strictly between p / q and r / s, and what else lies there has no smaller parts -/
def SM (p q r s m n : Nat) : Prop := p * n < m * q ∧ m * s < r * n ∧ ∀ x y, p * y < x * q → x * s < r * y → m ≤ x ∧ n ≤ y
theorem sm_uniq {p q r s m n m2 n2 : Nat} (h : SM p q r s m n) (k : SM p q r s m2 n2) : m = m2 ∧ n = n2 := by
  have h1 := h.2.2 m2 n2 k.1 k.2.1
  have h2 := k.2.2 m n h.1 h.2.1
  omega
theorem sm_pos {p q r s m n : Nat} (h : SM p q r s m n) : 1 ≤ m ∧ 1 ≤ n := by
  obtain ⟨h1, h2, _⟩ := h
  constructor
  · rcases Nat.eq_zero_or_pos m with z | z
    · rw [z, Nat.zero_mul] at h1; omega
    · exact z
  · rcases Nat.eq_zero_or_pos n with z | z
    · rw [z, Nat.mul_zero] at h2; omega
    · exact z
theorem sm_le {p q r s m n : Nat} (hc : p * s < r * q) (h : SM p q r s m n) : m ≤ p + r ∧ n ≤ q + s := by
  refine h.2.2 (p + r) (q + s) ?_ ?_
  · rw [Nat.mul_add, Nat.add_mul]; omega
  · rw [Nat.mul_add, Nat.add_mul]; omega
theorem cross_l {p q a b c d : Nat} (h1 : a * q ≤ p * b) (h2 : p * d < c * q) (hb : 0 < b) : a * d < c * b := by
  rcases Nat.lt_or_ge (a * d) (c * b) with h | h
  · exact h
  · exfalso
    have e1 := Nat.mul_le_mul_left q h
    have e2 := Nat.mul_le_mul_right d h1
    have e3 := mul_lt3 h2 hb
    have n1 : q * (c * b) = c * q * b := by ac_rfl
    have n2 : q * (a * d) = a * q * d := by ac_rfl
    have n3 : p * d * b = p * b * d := by ac_rfl
    omega
theorem cross_r {p q a b c d : Nat} (h1 : a * q < p * b) (h2 : p * d ≤ c * q) (hc : 0 < c) : a * d < c * b := by
  have hb : 0 < b := by
    rcases Nat.eq_zero_or_pos b with z | z
    · rw [z, Nat.mul_zero] at h1; omega
    · exact z
  rcases Nat.lt_or_ge (a * d) (c * b) with h | h
  · exact h
  · exfalso
    rcases Nat.eq_zero_or_pos d with z | z
    · have := Nat.mul_le_mul (show 1 ≤ c from hc) (show 1 ≤ b from hb)
      rw [z, Nat.mul_zero] at h; omega
    have e1 := Nat.mul_le_mul_left q h
    have e2 := mul_lt3 h1 z
    have e3 := Nat.mul_le_mul_right b h2
    have n1 : q * (c * b) = c * q * b := by ac_rfl
    have n2 : q * (a * d) = a * q * d := by ac_rfl
    have n3 : p * d * b = p * b * d := by ac_rfl
    omega
theorem sb_min {p q r s A B C D x y : Nat} (h1 : A * q ≤ p * B) (h2 : r * D ≤ C * s) (h3 : C * B = A * D + 1) (hx : p * y < x * q) (hy : x * s < r * y) : A + C ≤ x ∧ B + D ≤ y := by
  have hB : 0 < B := by
    rcases Nat.eq_zero_or_pos B with z | z
    · rw [z, Nat.mul_zero] at h3; omega
    · exact z
  have hC : 0 < C := by
    rcases Nat.eq_zero_or_pos C with z | z
    · rw [z, Nat.zero_mul] at h3; omega
    · exact z
  have k1 := cross_l h1 hx hB
  have k2 := cross_r hy h2 hC
  obtain ⟨u, hu⟩ : ∃ u, C * y = x * D + u := ⟨C * y - x * D, by omega⟩
  obtain ⟨w, hw⟩ : ∃ w, x * B = A * y + w := ⟨x * B - A * y, by omega⟩
  have hu' : (C : Int) * y = x * D + u := by exact_mod_cast hu
  have hw' : (x : Int) * B = A * y + w := by exact_mod_cast hw
  have h3' : (C : Int) * B = A * D + 1 := by exact_mod_cast h3
  have eu : (u : Int) = C * y - x * D := by omega
  have ew : (w : Int) = x * B - A * y := by omega
  have ex : x = A * u + C * w := by
    have : (x : Int) = A * u + C * w := by rw [eu, ew]; grind
    exact_mod_cast this
  have ey : y = B * u + D * w := by
    have : (y : Int) = B * u + D * w := by rw [eu, ew]; grind
    exact_mod_cast this
  have hu1 : 1 ≤ u := by omega
  have hw1 : 1 ≤ w := by omega
  have m1 := Nat.mul_le_mul_left A hu1
  have m2 := Nat.mul_le_mul_left C hw1
  have m3 := Nat.mul_le_mul_left B hu1
  have m4 := Nat.mul_le_mul_left D hw1
  omega
theorem sb8_L {p q r s : Nat} (hp2 : p ≤ 1000000) (hq2 : q ≤ 1000000) (hr2 : r ≤ 1000000) (hs2 : s ≤ 1000000) (hc : p * s < r * q) {P Q R S : Int64} (hP : P.toInt = (p : Int)) (hQ : Q.toInt = (q : Int)) (hR : R.toInt = (r : Int)) (hS : S.toInt = (s : Int)) {ab be : Nat → Int32} {v1 : Int32} (h1 : isR v1) {post : Int32 → Int64 → Int64 → Int64 → Int64 → (Nat → Int32) → (Nat → Int32) → Prop} (hp : ∀ m n : Nat, SM p q r s m n → ∀ z1 z2 z3 z4, post (stR m n) z1 z2 z3 z4 (stF ab v1 m n m) (stF be v1 m n n)) : ∀ (g A B C D : Nat) (X1 X2 X3 X4 : Int64), X1.toInt = (A : Int) → X2.toInt = (B : Int) → X3.toInt = (C : Int) → X4.toInt = (D : Int) → A * q ≤ p * B → r * D ≤ C * s → C * B = A * D + 1 → (p * B - A * q) + (C * s - r * D) ≤ g → w8_simplestBetween_L80 ab be v1 P Q R S post (g + 1) X1 X2 X3 X4 := by
  intro g
  induction g with
  | zero =>
    intro A B C D X1 X2 X3 X4 e1 e2 e3 e4 k1 k2 k3 hm
    have hmed := sb_min (x := p + r) (y := q + s) k1 k2 k3 (by rw [Nat.mul_add, Nat.add_mul]; omega) (by rw [Nat.mul_add, Nat.add_mul]; omega)
    have b1 := Nat.mul_le_mul hp2 (show B + D ≤ 2000000 by omega)
    have b2 := Nat.mul_le_mul (show A + C ≤ 2000000 by omega) hq2
    have b3 := Nat.mul_le_mul hr2 (show B + D ≤ 2000000 by omega)
    have b4 := Nat.mul_le_mul (show A + C ≤ 2000000 by omega) hs2
    have hB : 0 < B := by
      rcases Nat.eq_zero_or_pos B with z | z
      · rw [z, Nat.mul_zero] at k3; omega
      · exact z
    have hC : 0 < C := by
      rcases Nat.eq_zero_or_pos C with z | z
      · rw [z, Nat.zero_mul] at k3; omega
      · exact z
    have w1 := cross_l k1 hc hB
    have w2 := cross_r hc k2 hC
    have x1 : p * (B + D) = p * B + p * D := Nat.mul_add _ _ _
    have x2 : (A + C) * q = A * q + C * q := Nat.add_mul _ _ _
    have x3 : r * (B + D) = r * B + r * D := Nat.mul_add _ _ _
    have x4 : (A + C) * s = A * s + C * s := Nat.add_mul _ _ _
    rw [w8_simplestBetween_L80]
    intro M eM N eN
    have tM : M.toInt = ((A + C : Nat) : Int) := by rw [eM]; exact nl_add e1 e3 (by omega)
    have tN : N.toInt = ((B + D : Nat) : Int) := by rw [eN]; exact nl_add e2 e4 (by omega)
    have tPN := nl_mul hP tN (by omega)
    have tMQ := nl_mul tM hQ (by omega)
    have tMS := nl_mul tM hS (by omega)
    have tRN := nl_mul hR tN (by omega)
    refine ⟨fun _ => ⟨fun _ => s8_st h1 tM tN (by omega) (by omega) (hp _ _ ⟨by omega, by omega, fun x y hx hy => sb_min k1 k2 k3 hx hy⟩ _ _ _ _), fun z => absurd ((nl_lt tMS tRN).mpr (by omega)) z⟩, fun z => absurd ((nl_lt tPN tMQ).mpr (by omega)) z⟩
  | succ g ih =>
    intro A B C D X1 X2 X3 X4 e1 e2 e3 e4 k1 k2 k3 hm
    have hmed := sb_min (x := p + r) (y := q + s) k1 k2 k3 (by rw [Nat.mul_add, Nat.add_mul]; omega) (by rw [Nat.mul_add, Nat.add_mul]; omega)
    have b1 := Nat.mul_le_mul hp2 (show B + D ≤ 2000000 by omega)
    have b2 := Nat.mul_le_mul (show A + C ≤ 2000000 by omega) hq2
    have b3 := Nat.mul_le_mul hr2 (show B + D ≤ 2000000 by omega)
    have b4 := Nat.mul_le_mul (show A + C ≤ 2000000 by omega) hs2
    have hB : 0 < B := by
      rcases Nat.eq_zero_or_pos B with z | z
      · rw [z, Nat.mul_zero] at k3; omega
      · exact z
    have hC : 0 < C := by
      rcases Nat.eq_zero_or_pos C with z | z
      · rw [z, Nat.zero_mul] at k3; omega
      · exact z
    have w1 := cross_l k1 hc hB
    have w2 := cross_r hc k2 hC
    have x1 : p * (B + D) = p * B + p * D := Nat.mul_add _ _ _
    have x2 : (A + C) * q = A * q + C * q := Nat.add_mul _ _ _
    have x3 : r * (B + D) = r * B + r * D := Nat.mul_add _ _ _
    have x4 : (A + C) * s = A * s + C * s := Nat.add_mul _ _ _
    have y1 := Nat.mul_comm q A
    have y2 := Nat.mul_comm q C
    have y3 := Nat.mul_comm s A
    have y4 := Nat.mul_comm s C
    rw [w8_simplestBetween_L80]
    intro M eM N eN
    have tM : M.toInt = ((A + C : Nat) : Int) := by rw [eM]; exact nl_add e1 e3 (by omega)
    have tN : N.toInt = ((B + D : Nat) : Int) := by rw [eN]; exact nl_add e2 e4 (by omega)
    have tPN := nl_mul hP tN (by omega)
    have tMQ := nl_mul tM hQ (by omega)
    have tMS := nl_mul tM hS (by omega)
    have tRN := nl_mul hR tN (by omega)
    refine ⟨fun z1 => ⟨fun z2 => ?_, fun z2 => ?_⟩, fun z1 => ?_⟩
    · have z1 := (nl_lt tPN tMQ).mp z1
      have z2 := (nl_lt tMS tRN).mp z2
      exact s8_st h1 tM tN (by omega) (by omega) (hp _ _ ⟨z1, z2, fun x y hx hy => sb_min k1 k2 k3 hx hy⟩ _ _ _ _)
    · have z2 : ¬ (A + C) * s < r * (B + D) := fun y => z2 ((nl_lt tMS tRN).mpr y)
      obtain ⟨u, hu⟩ : ∃ u, r * B = s * A + u := ⟨r * B - s * A, by omega⟩
      obtain ⟨w, hw⟩ : ∃ w, s * C = r * D + w := ⟨s * C - r * D, by omega⟩
      have tU : (R * X2 - S * X1).toInt = (u : Int) := by rw [nl_sub (nl_mul hR e2 (by omega)) (nl_mul hS e1 (by omega)) (by omega)]; omega
      have tW : (S * X3 - R * X4).toInt = (w : Int) := by rw [nl_sub (nl_mul hS e3 (by omega)) (nl_mul hR e4 (by omega)) (by omega)]; omega
      have tK := nl_div tW tU (by omega)
      have hk1 : 0 < w / u := Nat.div_pos (by omega) (by omega)
      have hk2 := Nat.div_mul_le_self w u
      have hk3 := Nat.div_le_self w u
      generalize w / u = k at *
      have hku := Nat.mul_le_mul (show 1 ≤ k from hk1) (show 1 ≤ u by omega)
      have c1 := Nat.mul_le_mul (show k ≤ 2000000000000 by omega) (show A ≤ 2000000 by omega)
      have c2 := Nat.mul_le_mul (show k ≤ 2000000000000 by omega) (show B ≤ 2000000 by omega)
      have f1 : r * (D + k * B) = r * D + (k * (s * A) + k * u) := by rw [Nat.mul_add, show r * (k * B) = k * (r * B) by ac_rfl, hu, Nat.mul_add]
      have f2 : (C + k * A) * s = s * C + k * (s * A) := by rw [Nat.add_mul, Nat.mul_comm C s, Nat.mul_assoc, Nat.mul_comm A s]
      refine ⟨fun z => by have := (l_zero tU).mp z; omega, ?_⟩
      unfold w8_goLeft
      intro Y eY Z eZ
      refine ih A B (C + k * A) (D + k * B) X1 X2 Y Z e1 e2 (by rw [eY]; exact nl_add e3 (nl_mul tK e1 (by omega)) (by omega)) (by rw [eZ]; exact nl_add e4 (nl_mul tK e2 (by omega)) (by omega)) k1 (by rw [f1, f2]; omega) ?_ (by rw [f1, f2]; omega)
      rw [Nat.add_mul, Nat.mul_add, show k * A * B = A * (k * B) by ac_rfl]; omega
    · have z1 : ¬ p * (B + D) < (A + C) * q := fun y => z1 ((nl_lt tPN tMQ).mpr y)
      obtain ⟨u, hu⟩ : ∃ u, q * C = p * D + u := ⟨q * C - p * D, by omega⟩
      obtain ⟨w, hw⟩ : ∃ w, p * B = q * A + w := ⟨p * B - q * A, by omega⟩
      have tU : (Q * X3 - P * X4).toInt = (u : Int) := by rw [nl_sub (nl_mul hQ e3 (by omega)) (nl_mul hP e4 (by omega)) (by omega)]; omega
      have tW : (P * X2 - Q * X1).toInt = (w : Int) := by rw [nl_sub (nl_mul hP e2 (by omega)) (nl_mul hQ e1 (by omega)) (by omega)]; omega
      have tK := nl_div tW tU (by omega)
      have hk1 : 0 < w / u := Nat.div_pos (by omega) (by omega)
      have hk2 := Nat.div_mul_le_self w u
      have hk3 := Nat.div_le_self w u
      generalize w / u = k at *
      have hku := Nat.mul_le_mul (show 1 ≤ k from hk1) (show 1 ≤ u by omega)
      have c1 := Nat.mul_le_mul (show k ≤ 2000000000000 by omega) (show C ≤ 2000000 by omega)
      have c2 := Nat.mul_le_mul (show k ≤ 2000000000000 by omega) (show D ≤ 2000000 by omega)
      have f1 : p * (B + k * D) = p * B + k * (p * D) := by rw [Nat.mul_add, show p * (k * D) = k * (p * D) by ac_rfl]
      have f2 : (A + k * C) * q = q * A + (k * (p * D) + k * u) := by rw [Nat.add_mul, Nat.mul_comm A q, Nat.mul_assoc, Nat.mul_comm C q, hu, Nat.mul_add]
      refine ⟨fun z => by have := (l_zero tU).mp z; omega, ?_⟩
      unfold w8_goRight
      intro Y eY Z eZ
      refine ih (A + k * C) (B + k * D) C D Y Z X3 X4 (by rw [eY]; exact nl_add e1 (nl_mul tK e3 (by omega)) (by omega)) (by rw [eZ]; exact nl_add e2 (nl_mul tK e4 (by omega)) (by omega)) e3 e4 (by rw [f1, f2]; omega) k2 ?_ (by rw [f1, f2]; omega)
      rw [Nat.add_mul, Nat.mul_add, show k * C * D = C * (k * D) by ac_rfl]; omega
/-- one term -/
theorem sm_step {w b d e g m n : Nat} (hb : 0 < b) (h : SM d g b e m n) : SM (w * b + e) b (w * d + g) d (w * m + n) m := by
  obtain ⟨h1, h2, h3⟩ := h
  have c1 : (w * b + e) * m = w * b * m + e * m := Nat.add_mul _ _ _
  have c2 : (w * m + n) * b = w * m * b + n * b := Nat.add_mul _ _ _
  have c3 : (w * m + n) * d = w * m * d + n * d := Nat.add_mul _ _ _
  have c4 : (w * d + g) * m = w * d * m + g * m := Nat.add_mul _ _ _
  have d1 : w * b * m = w * m * b := by ac_rfl
  have d2 : w * d * m = w * m * d := by ac_rfl
  have d3 := Nat.mul_comm e m
  have d4 := Nat.mul_comm n b
  have d5 := Nat.mul_comm g m
  have d6 := Nat.mul_comm n d
  refine ⟨by omega, by omega, fun x y hx hy => ?_⟩
  have f1 : (w * b + e) * y = w * y * b + e * y := by rw [Nat.add_mul, show w * b * y = w * y * b by ac_rfl]
  have f2 : (w * d + g) * y = w * y * d + g * y := by rw [Nat.add_mul, show w * d * y = w * y * d by ac_rfl]
  have hz : w * y < x := by
    rcases Nat.lt_or_ge (w * y) x with z | z
    · exact z
    · have := Nat.mul_le_mul_right b z; omega
  obtain ⟨z, rfl⟩ : ∃ z, x = w * y + z := ⟨x - w * y, by omega⟩
  have f7 : (w * y + z) * b = w * y * b + z * b := Nat.add_mul _ _ _
  have f8 : (w * y + z) * d = w * y * d + z * d := Nat.add_mul _ _ _
  have f3 := Nat.mul_comm e y
  have f4 := Nat.mul_comm z b
  have f5 := Nat.mul_comm g y
  have f6 := Nat.mul_comm z d
  obtain ⟨g1, g2⟩ := h3 y z (by omega) (by omega)
  exact ⟨Nat.add_le_add (Nat.mul_le_mul_left w g1) g2, g1⟩
theorem sm_last {w a b c d : Nat} (hb : 0 < b) (hw1 : w * b ≤ a) (hw2 : a < (w + 1) * b) (hc : (w + 1) * d < c) : SM a b c d (w + 1) 1 := by
  refine ⟨by omega, by omega, fun x y hx hy => ?_⟩
  have hy1 : 1 ≤ y := by
    rcases Nat.eq_zero_or_pos y with z | z
    · rw [z, Nat.mul_zero] at hy; omega
    · exact z
  refine ⟨?_, hy1⟩
  rcases Nat.lt_or_ge w x with z | z
  · exact z
  · exfalso
    have e1 := Nat.mul_le_mul_right b z
    have e2 := Nat.mul_le_mul_left a hy1
    omega
theorem kk2_mono {t : Nat → Nat} {N x y : Nat} (ht : ∀ i, 1 ≤ i → i < N → 1 ≤ t i) : ∀ n k, 2 ≤ k → k + n = N + 1 → kk2 t x y k ≤ kk2 t x y (N + 1) := by
  intro n
  induction n with
  | zero => intro k h1 h2; rw [show k = N + 1 by omega]; exact Nat.le_refl _
  | succ n ih =>
    intro k h1 h2
    refine Nat.le_trans ?_ (ih (k + 1) (by omega) (by omega))
    obtain ⟨j, rfl⟩ : ∃ j, k = j + 2 := ⟨k - 2, by omega⟩
    show kk2 t x y (j + 2) ≤ t (j + 1) * kk2 t x y (j + 2) + kk2 t x y (j + 1)
    have := Nat.mul_le_mul_right (kk2 t x y (j + 2)) (ht (j + 1) (by omega) (by omega))
    omega
theorem bs1_L {p q r s : Nat} {post : Int32 → (Nat → Int32) → Prop} (hp : ∀ (N : Nat) (f : Nat → Int32) (t : Nat → Nat), 1 ≤ N → N ≤ 60 → (∀ i, i < N → (f i).toInt = (t i : Int)) → (∀ i, 1 ≤ i → i < N → 1 ≤ t i) → (∀ i, i < N → t i ≤ 1000000) → SM p q r s (kk2 t 0 1 (N + 1)) (kk2 t 1 0 (N + 1)) → post (Int32.ofNat N) f) : ∀ (n k i j a b c d : Nat) (t : Nat → Nat) (X1 X2 X3 X4 : Int64) (v : Int32) (f : Nat → Int32), X1.toInt = (a : Int) → X2.toInt = (b : Int) → X3.toInt = (c : Int) → X4.toInt = (d : Int) → v.toInt = (k : Int) → k + n ≤ 50 → i + j ≤ n → b < 2 ^ i → (c ≤ (a / b + 1) * d → c - a / b * d < 2 ^ j) → 1 ≤ a → 1 ≤ b → a * d < c * b → a ≤ 1000000 → b ≤ 1000000 → c ≤ 1000000 → d ≤ 1000000 → (d = 0 → a + 1 ≤ 1000000) → (1 ≤ k → b ≤ a) → (∀ i, i < k → (f i).toInt = (t i : Int)) → (∀ i, 1 ≤ i → i < k → 1 ≤ t i) → (∀ i, i < k → t i ≤ 1000000) → (∀ m n, SM a b c d m n → SM p q r s (kk2 t 0 1 (k + 1) * m + kk2 t 0 1 k * n) (kk2 t 1 0 (k + 1) * m + kk2 t 1 0 k * n)) → w1_becomeSimplestBetween_L25 post (n + 1) X1 X2 X3 X4 v (Int32.ofNat k) f := by
  have o1 : (1 : Int64).toInt = ((1 : Nat) : Int) := rfl
  have l1 : (1 : Int32).toInt = 1 := rfl
  have l64 : (64 : Int32).toInt = 64 := rfl
  intro n
  induction n with
  | zero =>
    intro k i j a b c d t X1 X2 X3 X4 v f _ _ _ _ _ _ hij hb _ _ hb1
    obtain rfl : i = 0 := by omega
    exact absurd hb (by rw [Nat.pow_zero]; omega)
  | succ n ih =>
    intro k i j a b c d t X1 X2 X3 X4 v f e1 e2 e3 e4 hv hkn hij hb hj ha1 hb1 hcr ha hb2 hc hd hd0 hba hf ht1 ht2 hS
    have hi : 1 ≤ i := by
      rcases Nat.eq_zero_or_pos i with z | z
      · rw [z, Nat.pow_zero] at hb; omega
      · exact z
    rw [w1_becomeSimplestBetween_L25]
    refine ⟨fun z => absurd (i_le.mp z) (by omega), fun _ => q7_y (by omega) ?_⟩
    have tw : (X1 / X2).toInt = ((a / b : Nat) : Int) := nl_div e1 e2 hb1
    have dl := Nat.div_le_self a b
    have dm := Nat.div_mul_le_self a b
    have da := Nat.div_add_mod a b
    have dlt := Nat.mod_lt a (show b > 0 from hb1)
    have dc := Nat.mul_comm b (a / b)
    have d1 : (a / b + 1) * b = a / b * b + b := by rw [Nat.add_mul, Nat.one_mul]
    have d2 : (a / b + 1) * d = a / b * d + d := by rw [Nat.add_mul, Nat.one_mul]
    have hw1 : 1 ≤ k → 1 ≤ a / b := fun z => Nat.div_pos (hba z) hb1
    generalize a / b = w at *
    have bw := Nat.mul_le_mul (show w + 1 ≤ 1000001 by omega) hd
    have bw2 := Nat.mul_le_mul (show w ≤ 1000000 by omega) hd
    have t1 : ((X1 / X2 + 1) * X4).toInt = (((w + 1) * d : Nat) : Int) := nl_mul (nl_add tw o1 (by omega)) e4 (by omega)
    have hwi : ((X1 / X2).toInt32).toInt = (w : Int) := by rw [l_i (by omega) (by omega), tw]
    have hsz : (Int32.ofNat k).toInt = (k : Int) := n_toInt (by omega)
    have hcd : w * d < c := by
      rcases Nat.lt_or_ge (w * d) c with z | z
      · exact z
      · exfalso
        have m1 := Nat.mul_le_mul_right b z
        have m2 := Nat.mul_le_mul_right d dm
        have n1 : w * d * b = w * b * d := by ac_rfl
        omega
    refine ⟨fun z => ?_, fun z => ?_⟩
    · have z := (nl_le e3 t1).mp z
      have hd1 : 1 ≤ d := by omega
      obtain ⟨e, he⟩ : ∃ e, a = w * b + e := ⟨a - w * b, by omega⟩
      obtain ⟨g, hg⟩ : ∃ g, c = w * d + g := ⟨c - w * d, by omega⟩
      unfold w1_append
      refine ⟨fun y => absurd (i_le.mp y) (by omega), fun _ => ⟨vin (by omega) (by omega), fun s es Y eY Z eZ u eu => ?_⟩⟩
      rw [ofN_1] at es
      rw [es, natc hsz]
      have tY : Y.toInt = (e : Int) := by rw [eY, nl_sub e1 (nl_mul tw e2 (by omega)) (by omega)]; omega
      have tZ : Z.toInt = (g : Int) := by rw [eZ, nl_sub e3 (nl_mul tw e4 (by omega)) (by omega)]; omega
      have hj := hj z
      have h2 : 2 ^ i = 2 * 2 ^ (i - 1) := by
        obtain ⟨i', rfl⟩ : ∃ i', i = i' + 1 := ⟨i - 1, by omega⟩
        rw [Nat.pow_succ, show i' + 1 - 1 = i' from rfl, Nat.mul_comm]
      have hg1 : 1 ≤ g := by omega
      have hw' : 1 ≤ d / g := Nat.div_pos (by omega) hg1
      refine ih (k + 1) j (i - 1) d g b e (fun x => if x = k then w else t x) X4 Z X2 Y u _ e4 tZ e2 tY (nxt hv (by omega) eu) (by omega) (by omega) (by omega) ?_ hd1 hg1 ?_ hd (by omega) hb2 (by omega) ?_ (fun _ => by omega) ?_ ?_ ?_ ?_
      · intro y
        have m1 := Nat.mul_le_mul_right e hw'
        have y' : (d / g + 1) * e = d / g * e + e := by rw [Nat.add_mul, Nat.one_mul]
        omega
      · rw [he, hg, Nat.add_mul, Nat.add_mul, show w * b * d = w * d * b by ac_rfl] at hcr
        have n1 := Nat.mul_comm d e
        have n2 := Nat.mul_comm b g
        omega
      · intro y
        have hwp : 1 ≤ w := by
          rcases Nat.eq_zero_or_pos w with x | x
          · rw [x, Nat.zero_mul] at he; omega
          · exact x
        have := Nat.mul_le_mul_right d hwp
        omega
      · intro x hx
        by_cases q1 : x = k
        · rw [q1, upd_eq, if_pos rfl]; exact hwi
        · rw [upd_ne _ _ q1, if_neg q1]; exact hf x (by omega)
      · intro x hx1 hx
        by_cases q1 : x = k
        · rw [if_pos q1]; exact hw1 (by omega)
        · rw [if_neg q1]; exact ht1 x hx1 (by omega)
      · intro x hx
        by_cases q1 : x = k
        · rw [if_pos q1]; omega
        · rw [if_neg q1]; exact ht2 x (by omega)
      · intro m n hmn
        have h5 := hS (w * m + n) m (by rw [he, hg]; exact sm_step hb1 hmn)
        have c0 : ∀ x y, kk2 (fun x => if x = k then w else t x) x y (k + 1) = kk2 t x y (k + 1) := fun x y => kk2_congr (k + 1) (fun i hi => if_neg (by omega))
        have c1 : ∀ x y, kk2 (fun x => if x = k then w else t x) x y (k + 1 + 1) = w * kk2 t x y (k + 1) + kk2 t x y k := fun x y => by
          show (if k = k then w else t k) * kk2 (fun x => if x = k then w else t x) x y (k + 1) + kk2 (fun x => if x = k then w else t x) x y k = _
          rw [if_pos rfl, c0, kk2_congr k (fun i hi => if_neg (by omega))]
        rw [c0, c0, c1, c1]
        have q1 : ∀ A B : Nat, (w * A + B) * m + A * n = A * (w * m + n) + B * m := fun A B => by
          rw [Nat.add_mul, Nat.mul_add, show w * A * m = A * (w * m) by ac_rfl]; omega
        rw [q1, q1]
        exact h5
    · have z : (w + 1) * d < c := by
        have : ¬ c ≤ (w + 1) * d := fun y => z ((nl_le e3 t1).mpr y)
        omega
      have hwl : w + 1 ≤ 1000000 := by
        rcases Nat.eq_zero_or_pos d with y | y
        · have := hd0 y; omega
        · have := Nat.mul_le_mul_left (w + 1) (show 1 ≤ d from y)
          omega
      unfold w1_append
      refine ⟨fun y => absurd (i_le.mp y) (by omega), fun _ => ⟨vin (by omega) (by omega), fun s es => ?_⟩⟩
      rw [ofN_1] at es
      rw [es, natc hsz]
      refine hp (k + 1) _ (fun x => if x = k then w + 1 else t x) (by omega) (by omega) ?_ ?_ ?_ ?_
      · intro x hx
        by_cases q1 : x = k
        · rw [q1, upd_eq, if_pos rfl, i_add (by omega) (by omega), hwi, l1]; push_cast; rfl
        · rw [upd_ne _ _ q1, if_neg q1]; exact hf x (by omega)
      · intro x hx1 hx
        by_cases q1 : x = k
        · rw [if_pos q1]; omega
        · rw [if_neg q1]; exact ht1 x hx1 (by omega)
      · intro x hx
        by_cases q1 : x = k
        · rw [if_pos q1]; exact hwl
        · rw [if_neg q1]; exact ht2 x (by omega)
      · have h5 := hS (w + 1) 1 (sm_last hb1 dm (by omega) z)
        have c0 : ∀ x y, kk2 (fun x => if x = k then w + 1 else t x) x y (k + 1) = kk2 t x y (k + 1) := fun x y => kk2_congr (k + 1) (fun i hi => if_neg (by omega))
        have c1 : ∀ x y, kk2 (fun x => if x = k then w + 1 else t x) x y (k + 1 + 1) = kk2 t x y (k + 1) * (w + 1) + kk2 t x y k * 1 := fun x y => by
          show (if k = k then w + 1 else t k) * kk2 (fun x => if x = k then w + 1 else t x) x y (k + 1) + kk2 (fun x => if x = k then w + 1 else t x) x y k = _
          rw [if_pos rfl, c0, kk2_congr k (fun i hi => if_neg (by omega)), Nat.mul_one, Nat.mul_comm]
        rw [c1, c1]
        exact h5
theorem s1_simplest {p q r s : Nat} (hp1 : 1 ≤ p) (hq1 : 1 ≤ q) (hs1 : 1 ≤ s) (hp2 : p ≤ 1000000) (hq2 : q ≤ 1000000) (hr2 : r ≤ 1000000) (hs2 : s ≤ 1000000) (hc : p * s < r * q) {sz : Int32} {f : Nat → Int32} {x1 x2 x3 x4 : Int32} (e1 : x1.toInt = (p : Int)) (e2 : x2.toInt = (q : Int)) (e3 : x3.toInt = (r : Int)) (e4 : x4.toInt = (s : Int)) {post : Int32 → (Nat → Int32) → Prop} (hp : ∀ (N : Nat) (f : Nat → Int32) (t : Nat → Nat), 1 ≤ N → N ≤ 60 → (∀ i, i < N → (f i).toInt = (t i : Int)) → (∀ i, 1 ≤ i → i < N → 1 ≤ t i) → (∀ i, i < N → t i ≤ 1000000) → SM p q r s (kk2 t 0 1 (N + 1)) (kk2 t 1 0 (N + 1)) → post (Int32.ofNat N) f) : w1_becomeSimplestBetween sz f x1 x2 x3 x4 post := by
  unfold w1_becomeSimplestBetween
  intro X1 E1 X2 E2 X3 E3 X4 E4
  refine ⟨40 + 1, bs1_L hp 40 0 20 20 p q r s (fun _ => 0) X1 X2 X3 X4 0 f (by rw [E1, t64, e1]) (by rw [E2, t64, e2]) (by rw [E3, t64, e3]) (by rw [E4, t64, e4]) rfl (by omega) (by omega) (by omega) (fun z => ?_) hp1 hq1 hc hp2 hq2 hr2 hs2 (fun z => by omega) (fun z => by omega) (fun i hi => absurd hi (by omega)) (fun i _ hi => absurd hi (by omega)) (fun i hi => absurd hi (by omega)) (fun m n hmn => ?_)⟩
  · rw [Nat.add_mul, Nat.one_mul] at z
    show r - p / q * s < 1048576
    omega
  · show SM p q r s (1 * m + 0 * n) (0 * m + 1 * n)
    rw [Nat.one_mul, Nat.zero_mul, Nat.zero_mul, Nat.one_mul, Nat.add_zero, Nat.zero_add]
    exact hmn
theorem s7_conv {N : Nat} {f : Nat → Int32} {t : Nat → Nat} (hN1 : 1 ≤ N) (hN : N ≤ 60) (hf : ∀ i, i < N → (f i).toInt = (t i : Int)) (ht1 : ∀ i, 1 ≤ i → i < N → 1 ≤ t i) (ht2 : ∀ i, i < N → t i ≤ 1000000) {m n : Nat} (hm : kk2 t 0 1 (N + 1) = m) (hn : kk2 t 1 0 (N + 1) = n) (hm1 : 1 ≤ m) (hn1 : 1 ≤ n) (hm2 : m ≤ 2000000000000) (hn2 : n ≤ 2000000000000) {tp bo : Nat → Int32} {v : Int32} (hv : isR v) {post : Int32 → (Nat → Int32) → (Nat → Int32) → Prop} (hp : post (stR m n) (stF tp v m n m) (stF bo v m n n)) : w7_storeConvergent tp bo (Int32.ofNat N) f v (Int32.ofNat N - 1) post := by
  have e1 : (Int32.ofNat N - 1).toInt = (N : Int) - 1 := szm1 hN1 (by omega)
  have l0 : (0 : Int64).toInt = ((0 : Nat) : Int) := rfl
  have l1 : (1 : Int64).toInt = ((1 : Nat) : Int) := rfl
  have hb : ∀ x y, x ≤ 1 → y ≤ 1 → kk2 t x y (N + 1) ≤ 2000000000000 → ∀ k, k ≤ N + 1 → kk2 t x y k ≤ 2000000000000 := by
    intro x y hx hy hl k hk
    rcases Nat.lt_or_ge k 2 with z | z
    · rcases (show k = 0 ∨ k = 1 by omega) with w | w
      · rw [w]; show x ≤ _; omega
      · rw [w]; show y ≤ _; omega
    · exact Nat.le_trans (kk2_mono ht1 (N + 1 - k) k z (by omega)) hl
  unfold w7_storeConvergent w1_convergentTop w1_convergentBottom
  refine s1_last hf ht2 e1 (Nat.le_refl _) (by omega) l0 l1 (hb 0 1 (by omega) (by omega) (by omega)) (fun P hP => s1_last hf ht2 e1 (Nat.le_refl _) (by omega) l1 l0 (hb 1 0 (by omega) (by omega) (by omega)) (fun Q hQ => ?_))
  rw [hm] at hP
  rw [hn] at hQ
  exact s7_st hv hP hQ (by omega) (by omega) hp
theorem op_simplestBetween : Op_simplestBetween := by
  intro x_hasSnapshot x_termListSize x_textSize x_tops x_bottoms x_slots x_savedTops x_savedBottoms x_savedSlots x_termList x_text x_arraySizes x_E_size x_E_terms x_arrays0 x_arrays1 x_arrays2 m_leftAbove m_leftBelow m_rightAbove m_rightBelow m_listed m_fed m_hasSnapshot m_above m_below m_list m_text m_kindOf m_nodeAbove m_nodeBelow m_length m_cell m_savedAbove m_savedBelow m_savedKind m_savedNodeAbove m_savedNodeBelow PL kk tt bb v1 v2 v3 hI
  obtain ⟨hReg, hList, hText, hArr, hNode, hHs, hHs01, hSnap⟩ := id hI
  unfold w7_simplestBetween w8_simplestBetween
  by_cases h1 : isR v1
  rotate_left
  · simp only [r7n h1, r8n h1, b01, b00, false_implies, true_implies, not_true_eq_false, not_false_eq_true, true_and, and_true]; exact hI
  by_cases h2 : isR v2
  rotate_left
  · simp only [r7y h1, r8y h1, r7n h2, r8n h2, b01, b00, false_implies, true_implies, not_true_eq_false, not_false_eq_true, true_and, and_true]; exact hI
  by_cases h3 : isR v3
  rotate_left
  · simp only [r7y h1, r8y h1, r7y h2, r8y h2, r7n h3, r8n h3, b01, b00, false_implies, true_implies, not_true_eq_false, not_false_eq_true, true_and, and_true]; exact hI
  simp only [r7y h1, r8y h1, r7y h2, r8y h2, r7y h3, r8y h3, b01, b00, false_implies, true_implies, not_true_eq_false, not_false_eq_true, true_and, and_true]
  unfold w7_crossDifference w8_cross w8_toRoot w1_size
  obtain ⟨p, q, N, hC, e1, e2, e3, e4⟩ := hReg.cf h2.lt
  obtain ⟨r, s, M, hD, d1, d2, d3, d4⟩ := hReg.cf h3.lt
  have hb := hC.2.2.2.2
  have hc := hD.2.2.2.2
  have o0 : (0 : Int64).toInt = 0 := rfl
  have m1 := Nat.mul_le_mul (show p ≤ 1000000 by omega) (show s ≤ 1000000 by omega)
  have m2 := Nat.mul_le_mul (show q ≤ 1000000 by omega) (show r ≤ 1000000 by omega)
  have hx := hReg.cross h2.lt h3.lt
  have tx : ((x_tops v2.toNatClampNeg).toInt64 * (x_bottoms v3.toNatClampNeg).toInt64 - (x_bottoms v2.toNatClampNeg).toInt64 * (x_tops v3.toNatClampNeg).toInt64).toInt = ((p * s : Nat) : Int) - ((q * r : Nat) : Int) := by
    have a1 := nl_mul (X := (x_tops v2.toNatClampNeg).toInt64) (Y := (x_bottoms v3.toNatClampNeg).toInt64) (by rw [t64, e1]) (by rw [t64, d2]) (by omega : p * s ≤ _)
    have a2 := nl_mul (X := (x_bottoms v2.toNatClampNeg).toInt64) (Y := (x_tops v3.toNatClampNeg).toInt64) (by rw [t64, e2]) (by rw [t64, d1]) (by omega : q * r ≤ _)
    rw [l_sub (by omega) (by omega), a1, a2]
  rw [← hx]
  generalize (x_tops v2.toNatClampNeg).toInt64 * (x_bottoms v3.toNatClampNeg).toInt64 - (x_bottoms v2.toNatClampNeg).toInt64 * (x_tops v3.toNatClampNeg).toInt64 = X at *
  refine ⟨h2.vin, h3.vin, h2.vin, h3.vin, fun z => ?_, fun z => ⟨h2.vin, h3.vin, h2.vin, h3.vin, fun y => absurd y z, fun _ => hI⟩⟩
  have zz := l_lt.mp z
  have hcr : p * s < r * q := by
    have := Nat.mul_comm q r
    omega
  refine ⟨h2.vin, h2.vin, h3.vin, h3.vin, s1_simplest (by omega) (by omega) (by omega) (by omega) (by omega) (by omega) (by omega) hcr e1 e2 d1 d2 (fun K f t k1 k2 k3 k4 k5 hS => ?_)⟩
  obtain ⟨g1, g2⟩ := sm_pos hS
  obtain ⟨g3, g4⟩ := sm_le hcr hS
  refine s7_conv k1 k2 k3 k4 k5 rfl rfl g1 g2 (by omega) (by omega) h1 ⟨h2.vin, h3.vin, h2.vin, h3.vin, fun _ => ⟨h2.vin, fun P eP => ⟨h2.vin, fun Q eQ => ⟨h3.vin, fun R eR => ⟨h3.vin, fun S eS => ⟨_, sb8_L (p := p) (q := q) (r := r) (s := s) (by omega) (by omega) (by omega) (by omega) hcr (by rw [eP, t64, e3]) (by rw [eQ, t64, e4]) (by rw [eR, t64, d3]) (by rw [eS, t64, d4]) h1 (fun m n hmn z1 z2 z3 z4 => ?_) (p + s) 0 1 1 0 0 1 1 0 rfl rfl rfl rfl (by omega) (by omega) (by omega) (by omega)⟩⟩⟩⟩⟩, fun y => absurd z y⟩
  obtain ⟨rfl, rfl⟩ := sm_uniq hS hmn
  exact ⟨rfl, hI.reg (hReg.store (by omega) (by omega))⟩
