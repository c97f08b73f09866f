/-! natural numbers in longs -/
theorem nl_add {X Y : Int64} {x y : Nat} (hX : X.toInt = (x : Int)) (hY : Y.toInt = (y : Int)) (h : x + y ≤ 9223372036854775807) : (X + Y).toInt = ((x + y : Nat) : Int) := by
  rw [l_add (by omega) (by omega), hX, hY]; omega
theorem nl_sub {X Y : Int64} {x y : Nat} (hX : X.toInt = (x : Int)) (hY : Y.toInt = (y : Int)) (h : y ≤ x) : (X - Y).toInt = ((x - y : Nat) : Int) := by
  have := l_range X
  rw [l_sub (by omega) (by omega), hX, hY]; omega
theorem nl_mul {X Y : Int64} {x y : Nat} (hX : X.toInt = (x : Int)) (hY : Y.toInt = (y : Int)) (h : x * y ≤ 9223372036854775807) : (X * Y).toInt = ((x * y : Nat) : Int) := by
  have c : ((x * y : Nat) : Int) = (x : Int) * (y : Int) := Int.natCast_mul _ _
  rw [l_mul (by rw [hX, hY, ← c]; omega) (by rw [hX, hY, ← c]; omega), hX, hY, c]
theorem nl_div {X Y : Int64} {x y : Nat} (hX : X.toInt = (x : Int)) (hY : Y.toInt = (y : Int)) (h : 0 < y) : (X / Y).toInt = ((x / y : Nat) : Int) := by
  rw [l_div (by omega) (by omega), hX, hY, Int.natCast_ediv]
theorem nl_lt {X Y : Int64} {x y : Nat} (hX : X.toInt = (x : Int)) (hY : Y.toInt = (y : Int)) : X < Y ↔ x < y := by rw [l_lt, hX, hY]; omega
theorem nl_le {X Y : Int64} {x y : Nat} (hX : X.toInt = (x : Int)) (hY : Y.toInt = (y : Int)) : X ≤ Y ↔ x ≤ y := by rw [l_le, hX, hY]; omega
theorem nl_eq {X Y : Int64} {x y : Nat} (hX : X.toInt = (x : Int)) (hY : Y.toInt = (y : Int)) : X = Y ↔ x = y := by rw [l_eq, hX, hY]; omega
/-! neighbours in a Farey sequence -/
theorem mul_lt3 {a b k : Nat} (h : a < b) (hk : 0 < k) : a * k < b * k := by
  have e : (a + 1) * k ≤ b * k := Nat.mul_le_mul_right k h
  rw [Nat.add_mul, Nat.one_mul] at e; omega
theorem nb_cross {p q a b c d : Nat} (h1 : a * q < p * b) (h2 : p * d < c * q) : a * d < c * b := by
  rcases Nat.lt_or_ge (a * d) (c * b) with h | h
  · exact h
  · exfalso
    have hb : 0 < b := by
      rcases Nat.eq_zero_or_pos b with z | z
      · rw [z, Nat.mul_zero] at h1; omega
      · exact z
    have e1 := Nat.mul_le_mul_left q h
    have e2 := Nat.mul_le_mul_right d (Nat.le_of_lt h1)
    have e3 := mul_lt3 h2 hb
    have n1 : q * (c * b) = c * q * b := by ac_rfl
    have n2 : q * (a * d) = a * q * d := by ac_rfl
    have n3 : p * d * b = p * b * d := by ac_rfl
    omega
theorem nb_le {L la lb ra rb a b : Nat} (hd : ra * lb = la * rb + 1) (hc : a * rb < ra * b) (hL : L < lb + rb) (hb : b ≤ L) : a * lb ≤ la * b := by
  rcases Nat.lt_or_ge (la * b) (a * lb) with h | h
  · exfalso
    have hd' : (ra : Int) * lb = la * rb + 1 := by exact_mod_cast hd
    have i1 : 1 ≤ (ra : Int) * b - (a : Int) * rb := by
      have c1 : ((ra * b : Nat) : Int) = (ra : Int) * b := Int.natCast_mul _ _
      have c2 : ((a * rb : Nat) : Int) = (a : Int) * rb := Int.natCast_mul _ _
      omega
    have i2 : 1 ≤ (a : Int) * lb - (la : Int) * b := by
      have c1 : ((a * lb : Nat) : Int) = (a : Int) * lb := Int.natCast_mul _ _
      have c2 : ((la * b : Nat) : Int) = (la : Int) * b := Int.natCast_mul _ _
      omega
    have id : (b : Int) = (lb : Int) * ((ra : Int) * b - (a : Int) * rb) + (rb : Int) * ((a : Int) * lb - (la : Int) * b) := by grind
    have m1 := Int.mul_le_mul_of_nonneg_left i1 (Int.natCast_nonneg lb)
    have m2 := Int.mul_le_mul_of_nonneg_left i2 (Int.natCast_nonneg rb)
    generalize (lb : Int) * ((ra : Int) * b - (a : Int) * rb) = u at *
    generalize (rb : Int) * ((a : Int) * lb - (la : Int) * b) = w at *
    omega
  · exact h
theorem nb_ge {L la lb ra rb c d : Nat} (hd : ra * lb = la * rb + 1) (hc : la * d < c * lb) (hL : L < lb + rb) (hb : d ≤ L) : ra * d ≤ c * rb := by
  rcases Nat.lt_or_ge (c * rb) (ra * d) with h | h
  · have := nb_le hd h hL hb; omega
  · exact h
theorem cop_det {a b c d : Nat} (h : c * b = a * d + 1) : Nat.gcd a b = 1 ∧ Nat.gcd c d = 1 := by
  constructor
  · have g1 : Nat.gcd a b ∣ c * b := Nat.dvd_trans (Nat.gcd_dvd_right a b) (Nat.dvd_mul_left b c)
    have g2 : Nat.gcd a b ∣ a * d := Nat.dvd_trans (Nat.gcd_dvd_left a b) (Nat.dvd_mul_right a d)
    rw [h] at g1
    exact Nat.dvd_one.mp ((Nat.dvd_add_right g2).mp g1)
  · have g1 : Nat.gcd c d ∣ c * b := Nat.dvd_trans (Nat.gcd_dvd_left c d) (Nat.dvd_mul_right c b)
    have g2 : Nat.gcd c d ∣ a * d := Nat.dvd_trans (Nat.gcd_dvd_right c d) (Nat.dvd_mul_left d a)
    rw [h] at g1
    exact Nat.dvd_one.mp ((Nat.dvd_add_right g2).mp g1)
theorem cop_eq {a b c d : Nat} (h1 : Nat.gcd a b = 1) (h2 : Nat.gcd c d = 1) (h : a * d = c * b) (hb : 0 < b) : a = c ∧ b = d := by
  have k1 : Nat.Coprime b a := by rw [Nat.coprime_iff_gcd_eq_one, Nat.gcd_comm]; exact h1
  have k2 : Nat.Coprime d c := by rw [Nat.coprime_iff_gcd_eq_one, Nat.gcd_comm]; exact h2
  have d1 : b ∣ d := k1.dvd_of_dvd_mul_left (by rw [h]; exact Nat.dvd_mul_left b c)
  have d2 : d ∣ b := k2.dvd_of_dvd_mul_left (by rw [← h]; exact Nat.dvd_mul_left d a)
  have e : b = d := Nat.dvd_antisymm d1 d2
  subst e
  exact ⟨Nat.eq_of_mul_eq_mul_right hb h, rfl⟩
/-- la / lb and ra / rb are the nearest ones to p / q with a denominator up to L -/
def NB (p q L la lb ra rb : Nat) : Prop := la * q < p * lb ∧ p * rb < ra * q ∧ ra * lb = la * rb + 1 ∧ lb ≤ L ∧ rb ≤ L ∧ L < lb + rb
theorem nb_uniq {p q L a b c d a2 b2 c2 d2 : Nat} (h : NB p q L a b c d) (k : NB p q L a2 b2 c2 d2) : a = a2 ∧ b = b2 ∧ c = c2 ∧ d = d2 := by
  obtain ⟨h1, h2, h3, h4, h5, h6⟩ := h
  obtain ⟨k1, k2, k3, k4, k5, k6⟩ := k
  have l1 := nb_le h3 (nb_cross k1 h2) h6 k4
  have l2 := nb_le k3 (nb_cross h1 k2) k6 h4
  have r1 := nb_ge h3 (nb_cross h1 k2) h6 k5
  have r2 := nb_ge k3 (nb_cross k1 h2) k6 h5
  obtain ⟨g1, g2⟩ := cop_det h3
  obtain ⟨g3, g4⟩ := cop_det k3
  obtain ⟨e1, e2⟩ := cop_eq g1 g3 (by omega) (by omega)
  obtain ⟨e3, e4⟩ := cop_eq g2 g4 (by omega) (by omega)
  exact ⟨e1, e2, e3, e4⟩
/-- the distances -/
theorem nb_dist {p q la lb ra rb : Nat} (h1 : la * q < p * lb) (h2 : p * rb < ra * q) (hd : ra * lb = la * rb + 1) : (p * lb - la * q) * rb + (ra * q - p * rb) * lb = q := by
  obtain ⟨u, hu⟩ : ∃ u, p * lb = la * q + u := ⟨p * lb - la * q, by omega⟩
  obtain ⟨w, hw⟩ : ∃ w, ra * q = p * rb + w := ⟨ra * q - p * rb, by omega⟩
  rw [show p * lb - la * q = u by omega, show ra * q - p * rb = w by omega]
  have hu' : (p : Int) * lb = la * q + u := by exact_mod_cast hu
  have hw' : (ra : Int) * q = p * rb + w := by exact_mod_cast hw
  have hd' : (ra : Int) * lb = la * rb + 1 := by exact_mod_cast hd
  have e : (u : Int) * rb + (w : Int) * lb = q := by
    have eu : (u : Int) = p * lb - la * q := by omega
    have ew : (w : Int) = ra * q - p * rb := by omega
    rw [eu, ew]; grind
  exact_mod_cast e
theorem nb_small {p q la lb ra rb : Nat} (h1 : la * q < p * lb) (h2 : p * rb < ra * q) (hd : ra * lb = la * rb + 1) (hq : lb ≤ q) (hr : rb ≤ q) : la < p ∧ ra ≤ p + q := by
  have hlb : 0 < lb := by
    rcases Nat.eq_zero_or_pos lb with z | z
    · rw [z, Nat.mul_zero] at h1; omega
    · exact z
  have hd2 := nb_dist h1 h2 hd
  constructor
  · rcases Nat.lt_or_ge la p with h | h
    · exact h
    · have e1 := Nat.mul_le_mul h hq; omega
  · rcases Nat.lt_or_ge (p + q) ra with h | h
    · exfalso
      have e1 : (p + q + 1) * q ≤ ra * q := Nat.mul_le_mul_right q h
      have e2 := Nat.mul_le_mul_left p hr
      have e3 := Nat.mul_le_mul_left (ra * q - p * rb) hlb
      have e4 := Nat.mul_le_mul_left q (show 1 ≤ q by omega)
      rw [Nat.add_mul, Nat.add_mul] at e1
      omega
    · exact h
theorem nb_cf {a b N : Nat} (h : CF a b N) {K L m : Nat} (hK : 1 ≤ K) (hKN : K < N) (h0 : cB a b K ≤ L) (h1 : cB a b (K + 1) ≤ L) (h2 : L < cB a b (K + 2)) (hm : m = (L - cB a b K) / cB a b (K + 1)) : NB a b L (sLA a b K m) (sLB a b K m) (sRA a b K m) (sRB a b K m) := by
  have hB := (cA_pos h (k := K + 1) (by omega) (by omega)).2
  have eA := cA_rs a b K
  have eB := cB_rs a b K
  have hd := s_det a b K m
  have hc := cdet a b K
  have hR := rs_rec a b K
  have hr1 := rs_pos h (k := K + 1) (by omega)
  have dm := Nat.div_add_mod (L - cB a b K) (cB a b (K + 1))
  have dl := Nat.mod_lt (L - cB a b K) hB
  have mc : cB a b (K + 1) * ((L - cB a b K) / cB a b (K + 1)) = m * cB a b (K + 1) := by rw [← hm, Nat.mul_comm]
  rw [cB_rec] at h2
  have hmt : m < tm a b K := by
    rcases Nat.lt_or_ge m (tm a b K) with z | z
    · exact z
    · have := Nat.mul_le_mul_right (cB a b (K + 1)) z; omega
  have hmr := Nat.mul_le_mul_right (rs a b (K + 1)) (show m + 1 ≤ tm a b K from hmt)
  rw [Nat.add_mul, Nat.one_mul] at hmr
  obtain ⟨w, hw⟩ : ∃ w, rs a b K = m * rs a b (K + 1) + w ∧ 1 ≤ w := ⟨rs a b K - m * rs a b (K + 1), by omega, by omega⟩
  have hd2 : sRA a b K m * sLB a b K m = sLA a b K m * sRB a b K m + 1 := by
    have c1 : ((sRA a b K m * sLB a b K m : Nat) : Int) = (sRA a b K m : Int) * sLB a b K m := Int.natCast_mul _ _
    have c2 : ((sLA a b K m * sRB a b K m : Nat) : Int) = (sLA a b K m : Int) * sRB a b K m := Int.natCast_mul _ _
    omega
  refine ⟨?_, ?_, hd2, ?_, ?_, ?_⟩
  · have key : ((a : Int) * sLB a b K m - (sLA a b K m : Int) * b) = if K % 2 = 0 then (w : Int) else (rs a b (K + 1) : Int) := by
      have eA' : (a : Int) = cA a b (K + 1) * rs a b K + cA a b K * rs a b (K + 1) := by exact_mod_cast eA
      have eB' : (b : Int) = cB a b (K + 1) * rs a b K + cB a b K * rs a b (K + 1) := by exact_mod_cast eB
      have ew : (rs a b K : Int) = m * rs a b (K + 1) + w := by exact_mod_cast hw.1
      unfold sLA sLB oA oB
      by_cases q : K % 2 = 0
      · rw [if_pos q] at hc
        rw [if_pos q, if_pos q, if_pos q]
        push_cast
        generalize (a : Int) = a' at *
        generalize (b : Int) = b' at *
        rw [eA', eB', ew]
        grind
      · rw [if_neg q] at hc
        rw [if_neg q, if_neg q, if_neg q]
        generalize (a : Int) = a' at *
        generalize (b : Int) = b' at *
        rw [eA', eB', ew]
        grind
    have c1 : ((a * sLB a b K m : Nat) : Int) = (a : Int) * sLB a b K m := Int.natCast_mul _ _
    have c2 : ((sLA a b K m * b : Nat) : Int) = (sLA a b K m : Int) * b := Int.natCast_mul _ _
    split at key <;> omega
  · have key : ((sRA a b K m : Int) * b - (a : Int) * sRB a b K m) = if K % 2 = 0 then (rs a b (K + 1) : Int) else (w : Int) := by
      have eA' : (a : Int) = cA a b (K + 1) * rs a b K + cA a b K * rs a b (K + 1) := by exact_mod_cast eA
      have eB' : (b : Int) = cB a b (K + 1) * rs a b K + cB a b K * rs a b (K + 1) := by exact_mod_cast eB
      have ew : (rs a b K : Int) = m * rs a b (K + 1) + w := by exact_mod_cast hw.1
      unfold sRA sRB oA oB
      by_cases q : K % 2 = 0
      · rw [if_pos q] at hc
        rw [if_pos q, if_pos q, if_pos q]
        generalize (a : Int) = a' at *
        generalize (b : Int) = b' at *
        rw [eA', eB', ew]
        grind
      · rw [if_neg q] at hc
        rw [if_neg q, if_neg q, if_neg q]
        push_cast
        generalize (a : Int) = a' at *
        generalize (b : Int) = b' at *
        rw [eA', eB', ew]
        grind
    have c1 : ((a * sRB a b K m : Nat) : Int) = (a : Int) * sRB a b K m := Int.natCast_mul _ _
    have c2 : ((sRA a b K m * b : Nat) : Int) = (sRA a b K m : Int) * b := Int.natCast_mul _ _
    split at key <;> omega
  · unfold sLB oB; split <;> omega
  · unfold sRB oB; split <;> omega
  · unfold sLB sRB oB; split <;> omega
theorem cB_mono {a b N : Nat} (h : CF a b N) {k : Nat} (h1 : 1 ≤ k) (hk : k < N + 1) : cB a b k ≤ cB a b (k + 1) := by
  obtain ⟨j, rfl⟩ : ∃ j, k = j + 1 := ⟨k - 1, by omega⟩
  rw [show j + 1 + 1 = j + 2 from rfl, cB_rec]
  cases j with
  | zero => exact Nat.zero_le _
  | succ j =>
    have := Nat.mul_le_mul_right (cB a b (j + 1 + 1)) (tm_pos h (i := j + 1) (by omega) (by omega))
    omega
theorem q7_y {P Q : Int64} {post : Int64 → Prop} (hQ : 0 < Q.toInt) (hp : post (P / Q)) : w7_quotient P Q post := by
  have l0 : (0 : Int64).toInt = 0 := rfl
  unfold w7_quotient
  exact ⟨fun z => absurd (l_le.mp z) (by omega), fun _ => ⟨fun z => by rw [z, l0] at hQ; omega, hp⟩⟩
theorem fn7_J {a b N : Nat} (h : CF a b N) {f : Nat → Int32} (hf : IsT a b N f) {w v : Int32} {L k : Nat} (hw : w.toInt = (L : Int)) (hL : L ≤ 1000000) (hv : v.toInt = (k : Int)) (hk : k + 1 < N) (h1 : cB a b (k + 2) ≤ L) (h2 : L < cB a b (k + 3)) {x1 x2 x3 x4 : Int64} {post : Int64 → Int64 → Int64 → Int64 → Prop} (hp : ∀ (la lb ra rb : Int64) (A B C D : Nat), NB a b L A B C D → la.toInt = (A : Int) → lb.toInt = (B : Int) → ra.toInt = (C : Int) → rb.toInt = (D : Int) → post la lb ra rb) : w1_findNeighbours_J31 (Int32.ofNat N) x1 x2 x3 x4 f w v post := by
  have hv' : v.toInt = ((k + 1 : Nat) : Int) - 1 := by omega
  have h1 : cB a b (k + 1 + 1) ≤ L := h1
  have hB : 1 ≤ cB a b (k + 1 + 1) := (cA_pos h (k := k + 2) (by omega) (by omega)).2
  have hmo := cB_mono h (k := k + 1) (by omega) (by omega)
  unfold w1_findNeighbours_J31
  refine (s1_pair h hf hv' (by omega)).2 (fun B0 e0 => s1_bottom h hf hv' (by omega) (fun B1 e1 => q7_y (by omega) ?_))
  have t1 : (w.toInt64 - B0).toInt = ((L - cB a b (k + 1) : Nat) : Int) := nl_sub (by rw [t64, hw]) e0 (by omega)
  have t2 := nl_div t1 e1 hB
  have hml : (L - cB a b (k + 1)) / cB a b (k + 1 + 1) ≤ 1000000 := Nat.le_trans (Nat.div_le_self _ _) (by omega)
  obtain ⟨o1, o2⟩ := oA_le h (k := k + 1) (by omega) hml
  exact s1_surround h hf hv' (by omega) t2 (by omega) (by omega) (fun la lb ra rb g1 g2 g3 g4 => hp la lb ra rb _ _ _ _ (nb_cf h (K := k + 1) (by omega) (by omega) (by omega) h1 h2 rfl) g1 g2 g3 g4)
theorem fn7_L {a b N : Nat} (h : CF a b N) {f : Nat → Int32} (hf : IsT a b N f) {w : Int32} {L : Nat} (hw : w.toInt = (L : Int)) (hL : L < b) {x1 x2 x3 x4 : Int64} {post : Int64 → Int64 → Int64 → Int64 → Prop} (hp : ∀ (la lb ra rb : Int64) (A B C D : Nat), NB a b L A B C D → la.toInt = (A : Int) → lb.toInt = (B : Int) → ra.toInt = (C : Int) → rb.toInt = (D : Int) → post la lb ra rb) : ∀ (n k : Nat) (v i : Int32), k + 1 + n = N → v.toInt = (k : Int) → i.toInt = ((k + 1 : Nat) : Int) → cB a b (k + 2) ≤ L → w1_findNeighbours_L4 (Int32.ofNat N) x1 x2 x3 x4 f w post (n + 1) v i := by
  have hN := h.2.2.1
  have hb := h.2.2.2.2.2.2.2
  have hNi : (Int32.ofNat N).toInt = (N : Int) := n_toInt (by omega)
  intro n
  induction n with
  | zero =>
    intro k v i hk hv hi hc
    exfalso
    have e := cB_end h
    rw [show N = k + 1 by omega, show k + 1 + 1 = k + 2 from rfl] at e
    omega
  | succ n ih =>
    intro k v i hk hv hi hc
    rw [w1_findNeighbours_L4]
    refine ⟨fun z => absurd (i_le.mp z) (by omega), fun _ => s1_bottom h hf (k := k + 2) (by omega) (by omega) (fun B1 e1 => ⟨fun z => ?_, fun z j ej => ?_⟩)⟩
    · have z := (nl_lt (by rw [t64, hw]) e1).mp z
      exact fn7_J h hf hw (by omega) hv (by omega) hc z hp
    · have z : ¬ L < cB a b (k + 2 + 1) := fun y => z ((nl_lt (by rw [t64, hw]) e1).mpr y)
      exact ih (k + 1) i j (by omega) hi (nxt hi (by omega) ej) (by rw [show k + 1 + 2 = k + 2 + 1 from rfl]; omega)
theorem s1_findNeighbours {a b N : Nat} (h : CF a b N) {f : Nat → Int32} (hf : IsT a b N f) {w : Int32} {L : Nat} (hw : w.toInt = (L : Int)) (hL1 : 1 ≤ L) (hL : L < b) {x1 x2 x3 x4 : Int64} {post : Int64 → Int64 → Int64 → Int64 → Prop} (hp : ∀ (la lb ra rb : Int64) (A B C D : Nat), NB a b L A B C D → la.toInt = (A : Int) → lb.toInt = (B : Int) → ra.toInt = (C : Int) → rb.toInt = (D : Int) → post la lb ra rb) : w1_findNeighbours (Int32.ofNat N) x1 x2 x3 x4 f w post := by
  have hN1 := h.2.1
  refine ⟨N - 1 + 1, fn7_L h hf hw hL hp (N - 1) 0 0 1 (by omega) rfl rfl ?_⟩
  show tm a b 0 * 0 + 1 ≤ L
  omega
