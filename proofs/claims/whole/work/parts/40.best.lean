/-! best approximations -/
theorem bi0 (x y : Int64) : (if (0 : Int32) = 0 then x else y) = x := if_pos rfl
theorem bi1 (x y : Int64) : (if (1 : Int32) = 0 then x else y) = y := if_neg (by decide)
theorem cl8_L {p q L : Nat} (hp1 : 1 ≤ p) (hp2 : p ≤ 1000000) (hq2 : q ≤ 1000000) (hLq : L < q) (hg : Nat.gcd p q = 1) {P Q W : Int64} (hP : P.toInt = (p : Int)) (hQ : Q.toInt = (q : Int)) (hW : W.toInt = (L : Int)) {post : Int64 → Int64 → Int64 → Int64 → Prop} (hp : ∀ (la lb ra rb : Int64) (A B C D : Nat), NB p q L A B C D → la.toInt = (A : Int) → lb.toInt = (B : Int) → ra.toInt = (C : Int) → rb.toInt = (D : Int) → post la lb ra rb) : ∀ (n A B C D : Nat) (X1 X2 X3 X4 : Int64), X1.toInt = (A : Int) → X2.toInt = (B : Int) → X3.toInt = (C : Int) → X4.toInt = (D : Int) → A * q < p * B → p * D < C * q → C * B = A * D + 1 → B ≤ L → D ≤ L → (p * B - A * q) + (C * q - p * D) ≤ n → w8_close_L4 P Q W post (n + 1) X1 X2 X3 X4 := by
  have o1 : (1 : Int64).toInt = ((1 : Nat) : Int) := rfl
  intro n
  induction n with
  | zero => intro A B C D X1 X2 X3 X4 _ _ _ _ h1 h2 _ _ _ hm; exfalso; omega
  | succ n ih =>
    intro A B C D X1 X2 X3 X4 e1 e2 e3 e4 h1 h2 h3 h4 h5 hm
    obtain ⟨s1, s2⟩ := nb_small h1 h2 h3 (by omega) (by omega)
    have hB : 0 < B := by
      rcases Nat.eq_zero_or_pos B with z | z
      · rw [z, Nat.mul_zero] at h1; omega
      · exact z
    have hd := nb_dist h1 h2 h3
    have b1 := Nat.mul_le_mul hp2 (show B ≤ 1000000 by omega)
    have b2 := Nat.mul_le_mul hq2 (show A ≤ 1000000 by omega)
    have b3 := Nat.mul_le_mul hq2 (show C ≤ 2000000 by omega)
    have b4 := Nat.mul_le_mul hp2 (show D ≤ 1000000 by omega)
    have k1 := Nat.mul_comm q A
    have k2 := Nat.mul_comm q C
    rw [w8_close_L4]
    have t1 : (X2 + X4).toInt = ((B + D : Nat) : Int) := nl_add e2 e4 (by omega)
    refine ⟨fun z => hp _ _ _ _ A B C D ⟨h1, h2, h3, h4, h5, (nl_lt hW t1).mp z⟩ e1 e2 e3 e4, fun z O eO V eV => ?_⟩
    have z : B + D ≤ L := by
      have : ¬ L < B + D := fun y => z ((nl_lt hW t1).mpr y)
      omega
    have tO : O.toInt = ((p * B - q * A : Nat) : Int) := by rw [eO]; exact nl_sub (nl_mul hP e2 (by omega)) (nl_mul hQ e1 (by omega)) (by omega)
    have tV : V.toInt = ((q * C - p * D : Nat) : Int) := by rw [eV]; exact nl_sub (nl_mul hQ e3 (by omega)) (nl_mul hP e4 (by omega)) (by omega)
    obtain ⟨u, hu⟩ : ∃ u, p * B = A * q + u := ⟨p * B - A * q, by omega⟩
    obtain ⟨w, hw⟩ : ∃ w, C * q = p * D + w := ⟨C * q - p * D, by omega⟩
    rw [show p * B - q * A = u by omega] at tO
    rw [show q * C - p * D = w by omega] at tV
    rw [show p * B - A * q = u by omega, show C * q - p * D = w by omega] at hd hm
    have hu1 : 1 ≤ u := by omega
    have hw1 : 1 ≤ w := by omega
    have hwq := Nat.mul_le_mul_left w (show 1 ≤ B from hB)
    refine ⟨fun y => ?_, fun y => ?_⟩
    · have y := (nl_le tO tV).mp y
      have hne : ¬ u = w := by
        intro x
        subst x
        have hdv : q ∣ p * (B + D) := ⟨A + C, by rw [Nat.mul_add, Nat.mul_add]; omega⟩
        have hco : Nat.Coprime q p := by rw [Nat.coprime_iff_gcd_eq_one, Nat.gcd_comm]; exact hg
        have := Nat.le_of_dvd (by omega) (hco.dvd_of_dvd_mul_left hdv)
        omega
      have go : ∀ (K : Int64) (k : Nat), K.toInt = (k : Int) → 1 ≤ k → k * u ≤ w - 1 → k * B ≤ L - D → w8_goLeft X1 X2 X3 X4 K (fun Y Z => w8_close_L4 P Q W post (n + 1) X1 X2 Y Z) := by
        intro K k hK c1 c2 c3
        have hku := Nat.mul_le_mul c1 hu1
        have hk2 := Nat.mul_le_mul_left k hu1
        have hkA := Nat.mul_le_mul (show k ≤ 1000000 by omega) (show A ≤ 1000000 by omega)
        have x1 : p * (D + k * B) = p * D + (k * (A * q) + k * u) := by rw [Nat.mul_add, show p * (k * B) = k * (p * B) by ac_rfl, hu, Nat.mul_add]
        have x2 : (C + k * A) * q = C * q + k * (A * q) := by rw [Nat.add_mul, Nat.mul_assoc]
        unfold w8_goLeft
        intro Y eY Z eZ
        refine ih A B (C + k * A) (D + k * B) X1 X2 Y Z e1 e2 ?_ ?_ h1 ?_ ?_ h4 (by omega) ?_
        · rw [eY]; exact nl_add e3 (nl_mul hK e1 (by omega)) (by omega)
        · rw [eZ]; exact nl_add e4 (nl_mul hK e2 (by omega)) (by omega)
        · rw [x1, x2]; omega
        · rw [Nat.add_mul, Nat.mul_add, show k * A * B = A * (k * B) by ac_rfl]; omega
        · rw [x1, x2]; omega
      have hk0 : 0 < (w - 1) / u := Nat.div_pos (by omega) (by omega)
      have hM : 0 < (L - D) / B := Nat.div_pos (by omega) hB
      have d1 := Nat.div_mul_le_self (w - 1) u
      have d2 := Nat.div_mul_le_self (L - D) B
      refine ⟨fun x => by have := (l_zero tO).mp x; omega, fun K eK => ⟨fun x => by have := (l_zero e2).mp x; omega, ?_⟩⟩
      have tK : K.toInt = (((w - 1) / u : Nat) : Int) := by rw [eK]; exact nl_div (nl_sub tV o1 hw1) tO (by omega)
      have tM : ((W - X4) / X2).toInt = (((L - D) / B : Nat) : Int) := nl_div (nl_sub hW e4 h5) e2 hB
      unfold w8_less
      refine ⟨fun x => go _ _ tM hM ?_ d2, fun x => go _ _ tK hk0 d1 ?_⟩
      · have x := (nl_le tM tK).mp x
        have := Nat.mul_le_mul_right u x
        omega
      · have x : ¬ (L - D) / B ≤ (w - 1) / u := fun r => x ((nl_le tM tK).mpr r)
        have := Nat.mul_le_mul_right B (show (w - 1) / u ≤ (L - D) / B by omega)
        omega
    · have y : ¬ u ≤ w := fun x => y ((nl_le tO tV).mpr x)
      have go : ∀ (K : Int64) (k : Nat), K.toInt = (k : Int) → 1 ≤ k → k * w ≤ u - 1 → k * D ≤ L - B → w8_goRight X1 X2 X3 X4 K (fun Y Z => w8_close_L4 P Q W post (n + 1) Y Z X3 X4) := by
        intro K k hK c1 c2 c3
        have hkw := Nat.mul_le_mul c1 hw1
        have hk2 := Nat.mul_le_mul_left k hw1
        have hkC := Nat.mul_le_mul (show k ≤ 1000000000000 by omega) (show C ≤ 2000000 by omega)
        have x1 : p * (B + k * D) = p * B + k * (p * D) := by rw [Nat.mul_add, show p * (k * D) = k * (p * D) by ac_rfl]
        have x2 : (A + k * C) * q = A * q + (k * (p * D) + k * w) := by rw [Nat.add_mul, Nat.mul_assoc, hw, Nat.mul_add]
        unfold w8_goRight
        intro Y eY Z eZ
        refine ih (A + k * C) (B + k * D) C D Y Z X3 X4 ?_ ?_ e3 e4 ?_ h2 ?_ (by omega) h5 ?_
        · rw [eY]; exact nl_add e1 (nl_mul hK e3 (by omega)) (by omega)
        · rw [eZ]; exact nl_add e2 (nl_mul hK e4 (by omega)) (by omega)
        · rw [x1, x2]; omega
        · rw [Nat.add_mul, Nat.mul_add, show k * C * D = C * (k * D) by ac_rfl]; omega
        · rw [x1, x2]; omega
      have hk0 : 0 < (u - 1) / w := Nat.div_pos (by omega) (by omega)
      have d1 := Nat.div_mul_le_self (u - 1) w
      refine ⟨fun x => by have := (l_zero tV).mp x; omega, fun K eK => ?_⟩
      have tK : K.toInt = (((u - 1) / w : Nat) : Int) := by rw [eK]; exact nl_div (nl_sub tO o1 hu1) tV (by omega)
      refine ⟨fun x => ⟨x, ?_⟩, fun x => go _ _ tK hk0 d1 ?_⟩
      · have hD : 0 < D := by
          have : ¬ D = 0 := fun r => x ((l_zero e4).mpr r)
          omega
        have hM : 0 < (L - B) / D := Nat.div_pos (by omega) hD
        have d2 := Nat.div_mul_le_self (L - B) D
        have tM : ((W - X2) / X4).toInt = (((L - B) / D : Nat) : Int) := nl_div (nl_sub hW e2 h4) e4 hD
        unfold w8_less
        refine ⟨fun x => go _ _ tM hM ?_ d2, fun x => go _ _ tK hk0 d1 ?_⟩
        · have x := (nl_le tM tK).mp x
          have := Nat.mul_le_mul_right w x
          omega
        · have x : ¬ (L - B) / D ≤ (u - 1) / w := fun r => x ((nl_le tM tK).mpr r)
          have := Nat.mul_le_mul_right D (show (u - 1) / w ≤ (L - B) / D by omega)
          omega
      · have := (l_zero e4).mp x
        rw [this, Nat.mul_zero]; exact Nat.zero_le _
theorem s8_close {p q L : Nat} (hp1 : 1 ≤ p) (hp2 : p ≤ 1000000) (hq2 : q ≤ 1000000) (hL1 : 1 ≤ L) (hLq : L < q) (hg : Nat.gcd p q = 1) {P Q W : Int64} (hP : P.toInt = (p : Int)) (hQ : Q.toInt = (q : Int)) (hW : W.toInt = (L : Int)) {x1 x2 x3 x4 : Int64} {post : Int64 → Int64 → Int64 → Int64 → Prop} (hp : ∀ (la lb ra rb : Int64) (A B C D : Nat), NB p q L A B C D → la.toInt = (A : Int) → lb.toInt = (B : Int) → ra.toInt = (C : Int) → rb.toInt = (D : Int) → post la lb ra rb) : w8_close x1 x2 x3 x4 P Q W post := by
  unfold w8_close w8_toRoot
  exact ⟨_, cl8_L hp1 hp2 hq2 hLq hg hP hQ hW hp (p + q) 0 1 1 0 0 1 1 0 rfl rfl rfl rfl (by omega) (by omega) rfl hL1 (Nat.zero_le _) (by omega)⟩
def bsR (x y : Nat) : Int32 := if x = 0 then -2 else stR x y
def bsF (f : Nat → Int32) (v : Int32) (x y z : Nat) : Nat → Int32 := if x = 0 then f else stF f v x y z
theorem IReg.bs {t b a e : Nat → Int32} (h : IReg t b a e) {v : Int32} {x y : Nat} (hy : 1 ≤ y) : IReg (bsF t v x y x) (bsF b v x y y) (bsF a v x y x) (bsF e v x y y) := by
  unfold bsF
  by_cases q : x = 0
  · simp only [if_pos q]; exact h
  · simp only [if_neg q]; exact h.store (by omega) (by omega)
abbrev Lf0 (p q a b c d : Nat) : Prop := (p * b - a * q) * d < (c * q - p * d) * b ∨ (p * b - a * q) * d = (c * q - p * d) * b ∧ b ≤ d
abbrev Lft (v : Int32) (p q a b c d : Nat) : Prop := v = 1 ∨ v = 0 ∧ Lf0 p q a b c d
/-- the two products of distances, in longs -/
theorem nb_prods {p q L A B C D : Nat} (h : NB p q L A B C D) (hLq : L < q) (hp2 : p ≤ 1000000) (hq2 : q ≤ 1000000) {P Q X1 X2 X3 X4 : Int64} (hP : P.toInt = (p : Int)) (hQ : Q.toInt = (q : Int)) (e1 : X1.toInt = (A : Int)) (e2 : X2.toInt = (B : Int)) (e3 : X3.toInt = (C : Int)) (e4 : X4.toInt = (D : Int)) : ((P * X2 - Q * X1) * X4).toInt = (((p * B - A * q) * D : Nat) : Int) ∧ ((Q * X3 - P * X4) * X2).toInt = (((C * q - p * D) * B : Nat) : Int) := by
  obtain ⟨h1, h2, h3, h4, h5, h6⟩ := h
  obtain ⟨s1, s2⟩ := nb_small h1 h2 h3 (by omega) (by omega)
  have hd := nb_dist h1 h2 h3
  have b1 := Nat.mul_le_mul hp2 (show B ≤ 1000000 by omega)
  have b2 := Nat.mul_le_mul hq2 (show A ≤ 1000000 by omega)
  have b3 := Nat.mul_le_mul hq2 (show C ≤ 2000000 by omega)
  have b4 := Nat.mul_le_mul hp2 (show D ≤ 1000000 by omega)
  rw [Nat.mul_comm A q, Nat.mul_comm C q] at *
  refine ⟨nl_mul (nl_sub (nl_mul hP e2 (by omega)) (nl_mul hQ e1 (by omega)) (by omega)) e4 (by omega), nl_mul (nl_sub (nl_mul hQ e3 (by omega)) (nl_mul hP e4 (by omega)) (by omega)) e2 (by omega)⟩
theorem s7_nearer {tp bo : Nat → Int32} {v2 : Int32} (hv : isR v2) {p q L A B C D : Nat} (h : NB p q L A B C D) (hLq : L < q) (hp2 : p ≤ 1000000) (hq2 : q ≤ 1000000) (hp : (tp v2.toNatClampNeg).toInt = (p : Int)) (hq : (bo v2.toNatClampNeg).toInt = (q : Int)) {X1 X2 X3 X4 : Int64} (e1 : X1.toInt = (A : Int)) (e2 : X2.toInt = (B : Int)) (e3 : X3.toInt = (C : Int)) (e4 : X4.toInt = (D : Int)) {post : Int32 → Prop} (hl : Lf0 p q A B C D → post 0) (hr : ¬ Lf0 p q A B C D → post 1) : w7_nearerSide tp bo X1 X2 X3 X4 v2 post := by
  unfold w7_nearerSide
  simp only [boundTop_if, boundBottom_if, if_pos, bi1]
  refine ⟨hv.vin, fun P eP => ⟨hv.vin, fun Q eQ O eO V eV => ?_⟩⟩
  obtain ⟨tO, tV⟩ := nb_prods h hLq hp2 hq2 (P := P) (Q := Q) (by rw [eP, t64, hp]) (by rw [eQ, t64, hq]) e1 e2 e3 e4
  rw [← eO] at tO
  rw [← eV] at tV
  unfold Lf0 at hl hr
  generalize (p * B - A * q) * D = O' at *
  generalize (C * q - p * D) * B = V' at *
  refine ⟨fun z => ⟨fun y => hr ?_, fun y => hl ?_⟩, fun z => ⟨fun y => hr ?_, fun y => hl ?_⟩⟩
  · have z : ¬ O' = V' := fun x => z ((nl_eq tO tV).mpr x)
    have y := (nl_le tV tO).mp y
    omega
  · have y : ¬ V' ≤ O' := fun x => y ((nl_le tV tO).mpr x)
    omega
  · have z := (nl_eq tO tV).mp z
    have y := (nl_lt e4 e2).mp y
    omega
  · have z := (nl_eq tO tV).mp z
    have y : ¬ D < B := fun x => y ((nl_lt e4 e2).mpr x)
    omega
theorem j98 {tp bo : Nat → Int32} {s v1 s0 : Int32} {X1 X2 X3 X4 : Int64} {f : Nat → Int32} (hv : isR v1) {x y : Nat} (hx : (if s0 = 0 then X1 else X3).toInt = (x : Int)) (hy : (if s0 = 0 then X2 else X4).toInt = (y : Int)) (hy1 : 1 ≤ y) {post : Int32 → (Nat → Int32) → (Nat → Int32) → Int32 → Int64 → Int64 → Int64 → Int64 → (Nat → Int32) → Prop} (hp : post (bsR x y) (bsF tp v1 x y x) (bsF bo v1 x y y) s X1 X2 X3 X4 f) : w7_best_J98 tp bo s X1 X2 X3 X4 f v1 s0 post := by
  unfold w7_best_J98
  simp only [boundTop_if, boundBottom_if]
  unfold bsR bsF at hp
  refine ⟨fun z => ?_, fun z => ?_⟩
  · have z1 : ¬ x = 0 := fun w => z ((l_zero hx).mpr w)
    simp only [if_neg z1] at hp
    exact s7_st hv hx hy (by omega) (by omega) hp
  · have z1 := (l_zero hx).mp z
    simp only [if_pos z1] at hp
    exact hp
theorem s8_best {ab be : Nat → Int32} {v1 v2 v3 v4 : Int32} (h1 : isR v1) (h2 : isR v2) {p q L : Nat} (e3 : (ab v2.toNatClampNeg).toInt = (p : Int)) (e4 : (be v2.toNatClampNeg).toInt = (q : Int)) (hp1 : 1 ≤ p) (hp2 : p ≤ 1000000) (hq2 : q ≤ 1000000) (hg : Nat.gcd p q = 1) (hL : v3.toInt = (L : Int)) (hL1 : 1 ≤ L) (hLq : L < q) (h4 : 0 ≤ v4.toInt ∧ v4.toInt ≤ 2) {y1 y2 y3 y4 : Int64} {A B C D : Nat} (hnb : NB p q L A B C D) {post : Int32 → Int64 → Int64 → Int64 → Int64 → (Nat → Int32) → (Nat → Int32) → Prop} (hpl : Lft v4 p q A B C D → ∀ z1 z2 z3 z4, post (bsR A B) z1 z2 z3 z4 (bsF ab v1 A B A) (bsF be v1 A B B)) (hpr : ¬ Lft v4 p q A B C D → ∀ z1 z2 z3 z4, post (bsR C D) z1 z2 z3 z4 (bsF ab v1 C D C) (bsF be v1 C D D)) : w8_best y1 y2 y3 y4 ab be v1 v2 v3 v4 post := by
  have c3 : (1 : Int64).toInt ≤ v3.toInt64.toInt ∧ v3.toInt64.toInt ≤ (1000000 : Int64).toInt := by rw [t64]; show 1 ≤ v3.toInt ∧ v3.toInt ≤ 1000000; omega
  have c4 : (0 : Int64).toInt ≤ v4.toInt64.toInt ∧ v4.toInt64.toInt ≤ (2 : Int64).toInt := by rw [t64]; exact h4
  unfold w8_best
  simp only [r8y h1, r8y h2, w8y c3, w8y c4, b01, b00, false_implies, true_implies, not_true_eq_false, not_false_eq_true, true_and, and_true]
  refine ⟨h2.vin, fun P eP => ⟨h2.vin, fun Q eQ => ⟨fun _ => ?_, fun z => absurd (l_lt.mpr (by rw [t64, hL, eQ, t64, e4]; omega)) z⟩⟩⟩
  have tP : P.toInt = (p : Int) := by rw [eP, t64, e3]
  have tQ : Q.toInt = (q : Int) := by rw [eQ, t64, e4]
  refine s8_close hp1 hp2 hq2 hL1 hLq hg tP tQ (by rw [t64, hL]) (fun Y1 Y2 Y3 Y4 A2 B2 C2 D2 hnb2 g1 g2 g3 g4 O eO V eV => ?_)
  obtain ⟨rfl, rfl, rfl, rfl⟩ := nb_uniq hnb hnb2
  obtain ⟨tO, tV⟩ := nb_prods hnb hLq hp2 hq2 tP tQ g1 g2 g3 g4
  rw [← eO] at tO
  rw [← eV] at tV
  have hB : 1 ≤ B ∧ 1 ≤ D ∧ 1 ≤ C := by
    obtain ⟨a1, a2, a3, a4, a5, a6⟩ := hnb
    refine ⟨by omega, by omega, ?_⟩
    rcases Nat.eq_zero_or_pos C with z | z
    · rw [z, Nat.zero_mul] at a2; omega
    · exact z
  have jl : Lft v4 p q A B C D → w8_best_J172 Y1 Y2 Y3 Y4 ab be v1 post := by
    intro z
    have hpl := hpl z
    unfold bsR bsF at hpl
    unfold w8_best_J172 w8_best_J177
    refine ⟨fun _ => ⟨fun y => ?_, fun y => ?_⟩, fun y => absurd y (by decide)⟩
    · have y1 : ¬ A = 0 := fun w => y ((l_zero g1).mpr w)
      simp only [if_neg y1] at hpl
      exact s8_st h1 g1 g2 (by omega) (by omega) (hpl _ _ _ _)
    · have y1 := (l_zero g1).mp y
      simp only [if_pos y1] at hpl
      exact hpl _ _ _ _
  have jr : ¬ Lft v4 p q A B C D → w8_best_J176 Y1 Y2 Y3 Y4 ab be v1 post := by
    intro z
    have hpr := hpr z
    have y1 : ¬ C = 0 := by omega
    unfold bsR bsF at hpr
    simp only [if_neg y1] at hpr
    unfold w8_best_J176 w8_best_J177
    exact ⟨fun y => absurd rfl y, fun _ => s8_st h1 g3 g4 (by omega) (by omega) (hpr _ _ _ _)⟩
  unfold Lft Lf0 at jl jr
  have n01 : ¬ (0 : Int32) = 1 := by decide
  refine ⟨fun z => jl (Or.inl z), fun z => ⟨fun y => jr ?_, fun y => ?_⟩⟩
  · rintro (w | ⟨w, _⟩)
    · exact z w
    · exact y w
  · subst y
    generalize (p * B - A * q) * D = O' at *
    generalize (C * q - p * D) * B = V' at *
    refine ⟨fun x => jl (Or.inr ⟨rfl, Or.inl ((nl_lt tO tV).mp x)⟩), fun x => ⟨fun w => jr ?_, fun w => ⟨fun r => jr ?_, fun r => jl ?_⟩⟩⟩
    · have x : ¬ O' < V' := fun r => x ((nl_lt tO tV).mpr r)
      have w : ¬ O' = V' := fun r => w ((nl_eq tO tV).mpr r)
      rintro (k | ⟨_, k⟩)
      · exact n01 k
      · omega
    · have x : ¬ O' < V' := fun r => x ((nl_lt tO tV).mpr r)
      have r := (nl_lt g4 g2).mp r
      rintro (k | ⟨_, k⟩)
      · exact n01 k
      · omega
    · have w := (nl_eq tO tV).mp w
      have r : ¬ D < B := fun k => r ((nl_lt g4 g2).mpr k)
      exact Or.inr ⟨rfl, Or.inr ⟨w, by omega⟩⟩
theorem op_best : Op_best := by
  intro x_hasSnapshot x_termListSize x_textSize x_tops x_bottoms x_slots x_savedTops x_savedBottoms x_savedSlots x_termList x_text x_arraySizes x_E_size x_E_leftTop x_E_leftBottom x_E_rightTop x_E_rightBottom x_E_terms x_arrays0 x_arrays1 x_arrays2 m_leftAbove m_leftBelow m_rightAbove m_rightBelow m_listed m_fed m_hasSnapshot m_above m_below m_list m_text m_kindOf m_nodeAbove m_nodeBelow m_length m_cell m_savedAbove m_savedBelow m_savedKind m_savedNodeAbove m_savedNodeBelow PL kk tt bb v1 v2 v3 v4 hI
  obtain ⟨hReg, hList, hText, hArr, hNode, hHs, hHs01, hSnap⟩ := id hI
  unfold w7_best w7_expand
  by_cases h1 : isR v1
  rotate_left
  · unfold w8_best; simp only [r7n h1, r8n h1, b01, b00, false_implies, true_implies, not_true_eq_false, not_false_eq_true, true_and, and_true]; exact hI
  by_cases h2 : isR v2
  rotate_left
  · unfold w8_best; simp only [r7y h1, r8y h1, r7n h2, r8n h2, b01, b00, false_implies, true_implies, not_true_eq_false, not_false_eq_true, true_and, and_true]; exact hI
  by_cases h3 : 1 ≤ v3.toInt ∧ v3.toInt ≤ 1000000
  rotate_left
  · have a3 : ¬ ((1 : Int32).toInt ≤ v3.toInt ∧ v3.toInt ≤ (1000000 : Int32).toInt) := h3
    have c3 : ¬ ((1 : Int64).toInt ≤ v3.toInt64.toInt ∧ v3.toInt64.toInt ≤ (1000000 : Int64).toInt) := by rw [t64]; exact h3
    unfold w8_best; simp only [r7y h1, r8y h1, r7y h2, r8y h2, n7n a3, w8n c3, b01, b00, false_implies, true_implies, not_true_eq_false, not_false_eq_true, true_and, and_true]; exact hI
  have a3 : (1 : Int32).toInt ≤ v3.toInt ∧ v3.toInt ≤ (1000000 : Int32).toInt := h3
  have c3 : (1 : Int64).toInt ≤ v3.toInt64.toInt ∧ v3.toInt64.toInt ≤ (1000000 : Int64).toInt := by rw [t64]; exact h3
  by_cases h4 : 0 ≤ v4.toInt ∧ v4.toInt ≤ 2
  rotate_left
  · have a4 : ¬ ((0 : Int32).toInt ≤ v4.toInt ∧ v4.toInt ≤ (2 : Int32).toInt) := h4
    have c4 : ¬ ((0 : Int64).toInt ≤ v4.toInt64.toInt ∧ v4.toInt64.toInt ≤ (2 : Int64).toInt) := by rw [t64]; exact h4
    unfold w8_best; simp only [r7y h1, r8y h1, r7y h2, r8y h2, n7y a3, w8y c3, n7n a4, w8n c4, b01, b00, false_implies, true_implies, not_true_eq_false, not_false_eq_true, true_and, and_true]; exact hI
  have a4 : (0 : Int32).toInt ≤ v4.toInt ∧ v4.toInt ≤ (2 : Int32).toInt := h4
  have c4 : (0 : Int64).toInt ≤ v4.toInt64.toInt ∧ v4.toInt64.toInt ≤ (2 : Int64).toInt := by rw [t64]; exact h4
  simp only [r7y h1, r7y h2, n7y a3, n7y a4, b01, b00, false_implies, true_implies, not_true_eq_false, not_false_eq_true, true_and, and_true]
  obtain ⟨p, q, N, hC, e1, e2, e3, e4⟩ := hReg.cf h2.lt
  have hb := hC.2.2.2.2
  have hL : v3.toInt = ((v3.toNatClampNeg : Nat) : Int) := (clamp (by omega)).symm
  refine ⟨h2.vin, fun z => ?_, fun z => ?_⟩
  · have z := i_lt.mp z
    have hg : Nat.gcd p q = 1 := by
      have h9 := rs_gcd p q N
      rw [hC.2.2.2.1, Nat.gcd_one_left] at h9
      exact h9.symm
    refine ⟨h2.vin, h2.vin, s1_expand hC e1 e2 (fun f hf => s1_findNeighbours hC hf hL (by omega) (by omega) (fun X1 X2 X3 X4 A B C D hnb g1 g2 g3 g4 => ?_))⟩
    have hB : 1 ≤ B ∧ 1 ≤ D := by
      obtain ⟨k1, k2, k3, k4, k5, k6⟩ := hnb
      omega
    have fl : ∀ s, s = 0 → Lft v4 p q A B C D → w7_best_J98 x_tops x_bottoms (Int32.ofNat N) X1 X2 X3 X4 f v1 s (fun r7 x_tops' x_bottoms' x_E_size' x_E_leftTop' x_E_leftBottom' x_E_rightTop' x_E_rightBottom' x_E_terms' => w8_best m_leftAbove m_leftBelow m_rightAbove m_rightBelow m_above m_below v1 v2 v3 v4 (fun r8 m_leftAbove' m_leftBelow' m_rightAbove' m_rightBelow' m_above' m_below' => r7 = r8 ∧ (LInv x_hasSnapshot x_termListSize x_textSize x_tops' x_bottoms' x_slots x_savedTops x_savedBottoms x_savedSlots x_termList x_text x_arraySizes x_arrays0 x_arrays1 x_arrays2 m_hasSnapshot m_above' m_below' m_list m_listed m_text m_fed m_kindOf m_nodeAbove m_nodeBelow m_length m_cell m_savedAbove m_savedBelow m_savedKind m_savedNodeAbove m_savedNodeBelow PL kk tt bb))) := by
      intro s hs hl
      refine j98 h1 (x := A) (y := B) (by rw [if_pos hs]; exact g1) (by rw [if_pos hs]; exact g2) hB.1 ?_
      exact s8_best h1 h2 e3 e4 (by omega) (by omega) (by omega) hg hL (by omega) (by omega) h4 hnb (fun _ z1 z2 z3 z4 => ⟨rfl, hI.reg (hReg.bs hB.1)⟩) (fun y => absurd hl y)
    have fr : ∀ s, ¬ s = 0 → ¬ Lft v4 p q A B C D → w7_best_J98 x_tops x_bottoms (Int32.ofNat N) X1 X2 X3 X4 f v1 s (fun r7 x_tops' x_bottoms' x_E_size' x_E_leftTop' x_E_leftBottom' x_E_rightTop' x_E_rightBottom' x_E_terms' => w8_best m_leftAbove m_leftBelow m_rightAbove m_rightBelow m_above m_below v1 v2 v3 v4 (fun r8 m_leftAbove' m_leftBelow' m_rightAbove' m_rightBelow' m_above' m_below' => r7 = r8 ∧ (LInv x_hasSnapshot x_termListSize x_textSize x_tops' x_bottoms' x_slots x_savedTops x_savedBottoms x_savedSlots x_termList x_text x_arraySizes x_arrays0 x_arrays1 x_arrays2 m_hasSnapshot m_above' m_below' m_list m_listed m_text m_fed m_kindOf m_nodeAbove m_nodeBelow m_length m_cell m_savedAbove m_savedBelow m_savedKind m_savedNodeAbove m_savedNodeBelow PL kk tt bb))) := by
      intro s hs hl
      refine j98 h1 (x := C) (y := D) (by rw [if_neg hs]; exact g3) (by rw [if_neg hs]; exact g4) hB.2 ?_
      exact s8_best h1 h2 e3 e4 (by omega) (by omega) (by omega) hg hL (by omega) (by omega) h4 hnb (fun y => absurd y hl) (fun _ z1 z2 z3 z4 => ⟨rfl, hI.reg (hReg.bs hB.2)⟩)
    refine ⟨fun y => ?_, fun y => ?_⟩
    · have y0 : ¬ v4.toInt = 0 := fun w => y (i_ext w)
      by_cases w : v4 = 1
      · exact fl _ (by rw [w]; decide) (Or.inl w)
      · have w0 : ¬ v4.toInt = 1 := fun x => w (i_ext x)
        obtain rfl : v4 = 2 := i_ext (show v4.toInt = 2 by omega)
        refine fr _ (by decide) ?_
        rintro (k | ⟨k, _⟩)
        · exact w k
        · exact y k
    · refine s7_nearer h2 hnb (by omega) (by omega) (by omega) e1 e2 g1 g2 g3 g4 (fun w => fl 0 rfl (Or.inr ⟨y, w⟩)) (fun w => fr 1 (by decide) ?_)
      rintro (k | ⟨_, k⟩)
      · rw [y] at k; exact absurd k (by decide)
      · exact w k
  · have z : ¬ v3.toInt < (x_bottoms v2.toNatClampNeg).toInt := fun w => z (i_lt.mpr w)
    refine ⟨h2.vin, h2.vin, s7_st h1 (p := (p : Int)) (q := (q : Int)) (by rw [t64, e1]) (by rw [t64, e2]) (by omega) (by omega) ?_⟩
    unfold w8_best
    simp only [r8y h1, r8y h2, w8y c3, w8y c4, b01, b00, false_implies, true_implies, not_true_eq_false, not_false_eq_true, true_and, and_true]
    refine ⟨h2.vin, fun P eP => ⟨h2.vin, fun Q eQ => ⟨fun w => ?_, fun _ => ?_⟩⟩⟩
    · have w := l_lt.mp w
      rw [t64, eQ, t64] at w; omega
    · exact s8_st h1 (p := (p : Int)) (q := (q : Int)) (by rw [eP, t64, e3]) (by rw [eQ, t64, e4]) (by omega) (by omega) ⟨rfl, hI.reg (hReg.store (by omega) (by omega))⟩
