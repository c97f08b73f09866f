/-! numbers -/
theorem l_add {a b : Int64} (h1 : -9223372036854775808 ≤ a.toInt + b.toInt) (h2 : a.toInt + b.toInt ≤ 9223372036854775807) : (a + b).toInt = a.toInt + b.toInt := by
  rw [Int64.toInt_add]; exact Int.bmod_eq_of_le (by omega) (by omega)
theorem l_sub {a b : Int64} (h1 : -9223372036854775808 ≤ a.toInt - b.toInt) (h2 : a.toInt - b.toInt ≤ 9223372036854775807) : (a - b).toInt = a.toInt - b.toInt := by
  rw [Int64.toInt_sub]; exact Int.bmod_eq_of_le (by omega) (by omega)
theorem l_mul {a b : Int64} (h1 : -9223372036854775808 ≤ a.toInt * b.toInt) (h2 : a.toInt * b.toInt ≤ 9223372036854775807) : (a * b).toInt = a.toInt * b.toInt := by
  rw [Int64.toInt_mul]; exact Int.bmod_eq_of_le (by omega) (by omega)
theorem i_add {a b : Int32} (h1 : -2147483648 ≤ a.toInt + b.toInt) (h2 : a.toInt + b.toInt ≤ 2147483647) : (a + b).toInt = a.toInt + b.toInt := by
  rw [Int32.toInt_add]; exact Int.bmod_eq_of_le (by omega) (by omega)
theorem i_sub {a b : Int32} (h1 : -2147483648 ≤ a.toInt - b.toInt) (h2 : a.toInt - b.toInt ≤ 2147483647) : (a - b).toInt = a.toInt - b.toInt := by
  rw [Int32.toInt_sub]; exact Int.bmod_eq_of_le (by omega) (by omega)
theorem i_mul {a b : Int32} (h1 : -2147483648 ≤ a.toInt * b.toInt) (h2 : a.toInt * b.toInt ≤ 2147483647) : (a * b).toInt = a.toInt * b.toInt := by
  rw [Int32.toInt_mul]; exact Int.bmod_eq_of_le (by omega) (by omega)
theorem l_range (a : Int64) : -9223372036854775808 ≤ a.toInt ∧ a.toInt ≤ 9223372036854775807 := by
  have h1 := Int64.le_toInt a; have h2 := Int64.toInt_lt a
  constructor <;> omega
theorem i_range (a : Int32) : -2147483648 ≤ a.toInt ∧ a.toInt ≤ 2147483647 := by
  have h1 := Int32.le_toInt a; have h2 := Int32.toInt_lt a
  constructor <;> omega
theorem div_le_self' {a b : Int} (ha : 0 ≤ a) (hb : 0 < b) : a / b ≤ a := Int.ediv_le_self b ha
theorem l_div {a b : Int64} (ha : 0 ≤ a.toInt) (hb : 0 < b.toInt) : (a / b).toInt = a.toInt / b.toInt := by
  have hr := l_range a
  have h0 : 0 ≤ a.toInt / b.toInt := Int.ediv_nonneg ha (by omega)
  have h1 : a.toInt / b.toInt ≤ a.toInt := div_le_self' ha hb
  rw [Int64.toInt_div, Int.tdiv_eq_ediv_of_nonneg ha]
  exact Int.bmod_eq_of_le (by omega) (by omega)
theorem l_rem {a b : Int64} (ha : 0 ≤ a.toInt) (hb : 0 < b.toInt) : (a - (a / b) * b).toInt = a.toInt % b.toInt := by
  have hr := l_range a
  have e := l_div ha hb
  have h0 : 0 ≤ a.toInt / b.toInt := Int.ediv_nonneg ha (by omega)
  have hm : a.toInt / b.toInt * b.toInt ≤ a.toInt := Int.ediv_mul_le _ (by omega)
  have hn : 0 ≤ a.toInt / b.toInt * b.toInt := Int.mul_nonneg h0 (by omega)
  have e2 : ((a / b) * b).toInt = a.toInt / b.toInt * b.toInt := by rw [l_mul (by rw [e]; omega) (by rw [e]; omega), e]
  have h3 : a.toInt % b.toInt = a.toInt - a.toInt / b.toInt * b.toInt := by rw [Int.emod_def, Int.mul_comm]
  rw [l_sub (by rw [e2]; omega) (by rw [e2]; omega), e2, h3]
theorem i_div {a b : Int32} (ha : 0 ≤ a.toInt) (hb : 0 < b.toInt) : (a / b).toInt = a.toInt / b.toInt := by
  have hr := i_range a
  have h0 : 0 ≤ a.toInt / b.toInt := Int.ediv_nonneg ha (by omega)
  have h1 : a.toInt / b.toInt ≤ a.toInt := div_le_self' ha hb
  rw [Int32.toInt_div, Int.tdiv_eq_ediv_of_nonneg ha]
  exact Int.bmod_eq_of_le (by omega) (by omega)
theorem i_rem {a b : Int32} (ha : 0 ≤ a.toInt) (hb : 0 < b.toInt) : (a - (a / b) * b).toInt = a.toInt % b.toInt := by
  have hr := i_range a
  have e := i_div ha hb
  have h0 : 0 ≤ a.toInt / b.toInt := Int.ediv_nonneg ha (by omega)
  have hm : a.toInt / b.toInt * b.toInt ≤ a.toInt := Int.ediv_mul_le _ (by omega)
  have hn : 0 ≤ a.toInt / b.toInt * b.toInt := Int.mul_nonneg h0 (by omega)
  have e2 : ((a / b) * b).toInt = a.toInt / b.toInt * b.toInt := by rw [i_mul (by rw [e]; omega) (by rw [e]; omega), e]
  have h3 : a.toInt % b.toInt = a.toInt - a.toInt / b.toInt * b.toInt := by rw [Int.emod_def, Int.mul_comm]
  rw [i_sub (by rw [e2]; omega) (by rw [e2]; omega), e2, h3]
theorem l_i {a : Int64} (h1 : -2147483648 ≤ a.toInt) (h2 : a.toInt ≤ 2147483647) : a.toInt32.toInt = a.toInt := by
  rw [Int64.toInt_toInt32]; exact Int.bmod_eq_of_le (by omega) (by omega)
theorem i_ext {a b : Int32} (h : a.toInt = b.toInt) : a = b := Int32.toInt_inj.mp h
theorem l_ext {a b : Int64} (h : a.toInt = b.toInt) : a = b := Int64.toInt_inj.mp h
theorem i_ne {a b : Int32} : ¬ a = b ↔ ¬ a.toInt = b.toInt := by rw [Int32.toInt_inj]
theorem i_eq {a b : Int32} : a = b ↔ a.toInt = b.toInt := Int32.toInt_inj.symm
theorem l_eq {a b : Int64} : a = b ↔ a.toInt = b.toInt := Int64.toInt_inj.symm
theorem i_lt {a b : Int32} : a < b ↔ a.toInt < b.toInt := Int32.lt_iff_toInt_lt
theorem i_le {a b : Int32} : a ≤ b ↔ a.toInt ≤ b.toInt := Int32.le_iff_toInt_le
theorem l_lt {a b : Int64} : a < b ↔ a.toInt < b.toInt := Int64.lt_iff_toInt_lt
theorem l_le {a b : Int64} : a ≤ b ↔ a.toInt ≤ b.toInt := Int64.le_iff_toInt_le
theorem clamp {v : Int32} (h : 0 ≤ v.toInt) : (v.toNatClampNeg : Int) = v.toInt := by
  show ((v.toInt.toNat : Nat) : Int) = v.toInt
  omega
theorem vin {v : Int32} {n : Nat} (h1 : 0 ≤ v.toInt) (h2 : v.toInt < n) : vp_in v n := by
  unfold vp_in
  rintro (h | h)
  · have := i_lt.mp h
    have h0 : (0 : Int32).toInt = 0 := rfl
    omega
  · have := clamp h1
    omega
theorem b_mul {a b A B : Int} (ha : 0 ≤ a) (hA : a ≤ A) (hb : 0 ≤ b) (hB : b ≤ B) : 0 ≤ a * b ∧ a * b ≤ A * B := ⟨Int.mul_nonneg ha hb, Int.mul_le_mul hA hB hb (by omega)⟩
/-! tests of arguments, as equations -/
def isR (v : Int32) : Prop := 0 ≤ v.toInt ∧ v.toInt < 8
theorem r7y {v : Int32} (h : isR v) (post : Int32 → Prop) : w7_isRegister v post = post 1 := by
  have h8 : (8 : Int32).toInt = 8 := rfl
  have h0 : (0 : Int32).toInt = 0 := rfl
  unfold isR at h
  unfold w7_isRegister
  rw [i_lt, i_le, h8, h0]
  have a : ¬ v.toInt < 0 := by omega
  have b : ¬ (8 : Int) ≤ v.toInt := by omega
  simp only [a, b, false_implies, true_and, not_false_eq_true, true_implies]
theorem r7n {v : Int32} (h : ¬ isR v) (post : Int32 → Prop) : w7_isRegister v post = post 0 := by
  have h8 : (8 : Int32).toInt = 8 := rfl
  have h0 : (0 : Int32).toInt = 0 := rfl
  unfold isR at h
  unfold w7_isRegister
  rw [i_lt, i_le, h8, h0]
  by_cases a : v.toInt < 0
  · simp only [a, true_implies, not_true_eq_false, false_implies, and_true]
  · have b : (8 : Int) ≤ v.toInt := by omega
    simp only [a, b, false_implies, true_and, not_false_eq_true, true_implies, not_true_eq_false, and_true]
theorem w8y {a lo hi : Int64} (h : lo.toInt ≤ a.toInt ∧ a.toInt ≤ hi.toInt) (post : Int32 → Prop) : w8_within a lo hi post = post 1 := by
  unfold w8_within
  rw [l_lt, l_lt]
  have b : ¬ a.toInt < lo.toInt := by omega
  have c : ¬ hi.toInt < a.toInt := by omega
  simp only [b, c, false_implies, true_and, not_false_eq_true, true_implies]
theorem w8n {a lo hi : Int64} (h : ¬ (lo.toInt ≤ a.toInt ∧ a.toInt ≤ hi.toInt)) (post : Int32 → Prop) : w8_within a lo hi post = post 0 := by
  unfold w8_within
  rw [l_lt, l_lt]
  by_cases b : a.toInt < lo.toInt
  · simp only [b, true_implies, not_true_eq_false, false_implies, and_true]
  · have c : hi.toInt < a.toInt := by omega
    simp only [b, c, false_implies, true_and, not_false_eq_true, true_implies, not_true_eq_false, and_true]
theorem r8y {v : Int32} (h : isR v) (post : Int32 → Prop) : w8_isRegister v post = post 1 := by
  unfold w8_isRegister
  exact w8y (by rw [Int32.toInt_toInt64]; exact ⟨h.1, by have := h.2; show v.toInt ≤ 7; omega⟩) post
theorem r8n {v : Int32} (h : ¬ isR v) (post : Int32 → Prop) : w8_isRegister v post = post 0 := by
  unfold w8_isRegister
  exact w8n (by rw [Int32.toInt_toInt64]; intro q; exact h ⟨q.1, by have h2 : v.toInt ≤ 7 := q.2; omega⟩) post
theorem n7y {a lo hi : Int32} (h : lo.toInt ≤ a.toInt ∧ a.toInt ≤ hi.toInt) (post : Int32 → Prop) : w7_isIn a lo hi post = post 1 := by
  unfold w7_isIn
  rw [i_lt, i_lt]
  have b : ¬ a.toInt < lo.toInt := by omega
  have c : ¬ hi.toInt < a.toInt := by omega
  simp only [b, c, false_implies, true_and, not_false_eq_true, true_implies]
theorem n7n {a lo hi : Int32} (h : ¬ (lo.toInt ≤ a.toInt ∧ a.toInt ≤ hi.toInt)) (post : Int32 → Prop) : w7_isIn a lo hi post = post 0 := by
  unfold w7_isIn
  rw [i_lt, i_lt]
  by_cases b : a.toInt < lo.toInt
  · simp only [b, true_implies, not_true_eq_false, false_implies, and_true]
  · have c : hi.toInt < a.toInt := by omega
    simp only [b, c, false_implies, true_and, not_false_eq_true, true_implies, not_true_eq_false, and_true]
theorem b01 : ((1 : Int32) = 0) = False := eq_false (by decide)
theorem b00 : ((0 : Int32) = 0) = True := eq_true rfl
theorem isR.vin {v : Int32} (h : isR v) : vp_in v 8 := CSternBrocotExplorerLaw_law_r4187_2579a8.vin h.1 h.2
theorem isR.lt {v : Int32} (h : isR v) : v.toNatClampNeg < 8 := by have := clamp h.1; have := h.2; omega
/-! Euclid's algorithm -/
/-- so many steps suffice -/
def eN : Nat → Nat → Nat → Prop
  | 0, _, b => b = 0
  | n + 1, a, b => b = 0 ∨ eN n b (a % b)
theorem eN_mono {n : Nat} : ∀ {a b : Nat}, eN n a b → eN (n + 1) a b := by
  induction n with
  | zero => intro a b h; exact Or.inl h
  | succ n ih =>
    intro a b h
    rcases h with h | h
    · exact Or.inl h
    · exact Or.inr (ih h)
theorem eN_log (k : Nat) : ∀ a b : Nat, b < 2 ^ k → eN (2 * k) a b := by
  induction k with
  | zero => intro a b h; exact (by omega : b = 0)
  | succ k ih =>
    intro a b h
    show eN (2 * k + 1 + 1) a b
    by_cases hb : b = 0
    · exact Or.inl hb
    refine Or.inr ?_
    have hr : a % b < b := Nat.mod_lt _ (by omega)
    by_cases hr0 : a % b = 0
    · exact Or.inl hr0
    refine Or.inr (ih _ _ ?_)
    have h2 : b % (a % b) < a % b := Nat.mod_lt _ (by omega)
    rw [Nat.pow_succ] at h
    by_cases h3 : a % b < 2 ^ k
    · omega
    · have h4 : b % (a % b) = b - a % b := by
        rw [Nat.mod_eq_sub_mod (by omega)]
        exact Nat.mod_eq_of_lt (by omega)
      omega
theorem gcd7_L {post : Int64 → Prop} : ∀ (n : Nat) (a b : Int64) (k : Int32), 0 ≤ a.toInt → 0 ≤ b.toInt → eN n a.toInt.toNat b.toInt.toNat → 0 ≤ k.toInt → k.toInt + n < 1000 →
    (∀ r : Int64, r.toInt = (Nat.gcd a.toInt.toNat b.toInt.toNat : Int) → post r) → w7_gcd_L9 post (n + 1) a b k := by
  intro n
  induction n with
  | zero =>
    intro a b k ha hb he hk hn hp
    rw [w7_gcd_L9]
    have h1 : (1000 : Int32).toInt = 1000 := rfl
    have h0 : (0 : Int64).toInt = 0 := rfl
    have he : b.toInt.toNat = 0 := he
    refine ⟨fun h => absurd (i_le.mp h) (by omega), fun _ => ⟨fun _ => hp _ ?_, fun h => absurd (l_le.mpr (by omega)) h⟩⟩
    rw [he, Nat.gcd_zero_right]; omega
  | succ n ih =>
    intro a b k ha hb he hk hn hp
    rw [w7_gcd_L9]
    have h1 : (1000 : Int32).toInt = 1000 := rfl
    have h0 : (0 : Int64).toInt = 0 := rfl
    have g1 : (1 : Int32).toInt = 1 := rfl
    refine ⟨fun h => absurd (i_le.mp h) (by omega), fun _ => ⟨fun h => hp _ ?_, fun h => ⟨fun h2 => h (by rw [h2]; exact l_le.mpr (Int.le_refl _)), fun x hx y hy => ?_⟩⟩⟩
    · have := l_le.mp h
      rw [show b.toInt.toNat = 0 by omega, Nat.gcd_zero_right]; omega
    · have hb0 : 0 < b.toInt := by
        have : ¬ b.toInt ≤ 0 := fun q => h (l_le.mpr (by omega))
        omega
      have hx1 : x.toInt = a.toInt % b.toInt := by rw [hx, l_rem ha hb0]
      have hx2 : x.toInt.toNat = a.toInt.toNat % b.toInt.toNat := by rw [hx1, Int.toNat_emod ha hb]
      have hy1 : y.toInt = k.toInt + 1 := by rw [hy, i_add (by omega) (by omega)]; rfl
      refine ih b x y hb (by rw [hx1]; exact Int.emod_nonneg _ (by omega)) ?_ (by omega) (by omega) (fun r hr => hp r ?_)
      · rcases he with he | he
        · omega
        · rw [hx2]; exact he
      · rw [hr, hx2, Nat.gcd_comm, ← Nat.gcd_rec, Nat.gcd_comm]
theorem gcd7 {a b : Int64} (ha : 0 ≤ a.toInt) (hb : 0 ≤ b.toInt) {post : Int64 → Prop} (hp : ∀ r : Int64, r.toInt = (Nat.gcd a.toInt.toNat b.toInt.toNat : Int) → post r) : w7_gcd a b post := by
  unfold w7_gcd
  have hr := l_range b
  exact ⟨_, gcd7_L (2 * 63) a b 0 ha hb (eN_log 63 _ _ (by omega)) (by decide) (by decide) hp⟩
theorem gcd8_L {post : Int64 → Prop} : ∀ (n : Nat) (a b : Int64), 0 ≤ a.toInt → 0 ≤ b.toInt → eN n a.toInt.toNat b.toInt.toNat →
    (∀ r : Int64, r.toInt = (Nat.gcd a.toInt.toNat b.toInt.toNat : Int) → post r) → w8_divisor_L6 post (n + 1) a b := by
  intro n
  induction n with
  | zero =>
    intro a b ha hb he hp
    rw [w8_divisor_L6]
    have h0 : (0 : Int64).toInt = 0 := rfl
    have he : b.toInt.toNat = 0 := he
    have hbz : b = 0 := l_ext (by omega)
    subst hbz
    simp only [not_true_eq_false, false_implies, true_implies, true_and, and_true]
    exact hp _ (by rw [he, Nat.gcd_zero_right]; omega)
  | succ n ih =>
    intro a b ha hb he hp
    rw [w8_divisor_L6]
    have h0 : (0 : Int64).toInt = 0 := rfl
    by_cases hz : b = 0
    · subst hz
      simp only [not_true_eq_false, false_implies, true_implies, true_and, and_true]
      exact hp _ (by show a.toInt = (Nat.gcd a.toInt.toNat 0 : Int); rw [Nat.gcd_zero_right]; omega)
    · have hb0 : 0 < b.toInt := by
        have : ¬ b.toInt = 0 := fun q => hz (l_ext (by omega))
        omega
      simp only [hz, not_false_eq_true, false_implies, true_implies, true_and, and_true]
      intro x hx
      have hx1 : x.toInt = a.toInt % b.toInt := by rw [hx, l_rem ha hb0]
      have hx2 : x.toInt.toNat = a.toInt.toNat % b.toInt.toNat := by rw [hx1, Int.toNat_emod ha hb]
      refine ih b x hb (by rw [hx1]; exact Int.emod_nonneg _ (by omega)) ?_ (fun r hr => hp r ?_)
      · rcases he with he | he
        · omega
        · rw [hx2]; exact he
      · rw [hr, hx2, Nat.gcd_comm, ← Nat.gcd_rec, Nat.gcd_comm]
theorem gcd8 {a b : Int64} (ha : 0 ≤ a.toInt) (hb : 0 ≤ b.toInt) {post : Int64 → Prop} (hp : ∀ r : Int64, r.toInt = (Nat.gcd a.toInt.toNat b.toInt.toNat : Int) → post r) : w8_divisor a b post := by
  unfold w8_divisor
  have hr := l_range b
  exact ⟨_, gcd8_L (2 * 63) a b ha hb (eN_log 63 _ _ (by omega)) hp⟩
/-! storing a fraction -/
def sg (p q : Int) : Int := (Nat.gcd p.toNat q.toNat : Int)
abbrev stOk (p q : Int) : Prop := p / sg p q ≤ 1000000 ∧ q / sg p q ≤ 1000000
def stR (p q : Int) : Int32 := if stOk p q then 1 else -3
def stF (f : Nat → Int32) (v : Int32) (p q x : Int) : Nat → Int32 := if stOk p q then upd f v.toNatClampNeg (Int32.ofInt (x / sg p q)) else f
theorem sg_pos {p q : Int} (hp : 0 < p) : 0 < sg p q := by
  unfold sg
  have : 0 < Nat.gcd p.toNat q.toNat := Nat.gcd_pos_of_pos_left _ (by omega)
  omega
theorem sg_dvd_left {p q : Int} (hp : 0 < p) : sg p q ∣ p := by
  unfold sg
  have h := Int.natCast_dvd_natCast.mpr (Nat.gcd_dvd_left p.toNat q.toNat)
  rwa [show ((p.toNat : Nat) : Int) = p by omega] at h
theorem sg_dvd_right {p q : Int} (hq : 0 < q) : sg p q ∣ q := by
  unfold sg
  have h := Int.natCast_dvd_natCast.mpr (Nat.gcd_dvd_right p.toNat q.toNat)
  rwa [show ((q.toNat : Nat) : Int) = q by omega] at h
theorem i_ofInt {x : Int} (h1 : -2147483648 ≤ x) (h2 : x ≤ 2147483647) : (Int32.ofInt x).toInt = x := by
  rw [Int32.toInt_ofInt]
  show Int.bmod x 4294967296 = x
  exact Int.bmod_eq_of_le (by omega) (by omega)
theorem l_to_ofInt {a : Int64} (h1 : -2147483648 ≤ a.toInt) (h2 : a.toInt ≤ 2147483647) : a.toInt32 = Int32.ofInt a.toInt := i_ext (by rw [l_i h1 h2, i_ofInt h1 h2])
theorem s7_store {f g : Nat → Int32} {v : Int32} {P Q : Int64} (hv : isR v) (hP : 0 < P.toInt) (hQ : 0 < Q.toInt) {post : Int32 → (Nat → Int32) → (Nat → Int32) → Prop} (h : post (stR P.toInt Q.toInt) (stF f v P.toInt Q.toInt P.toInt) (stF g v P.toInt Q.toInt Q.toInt)) : w7_store f g v P Q post := by
  unfold w7_store
  refine gcd7 (by omega) (by omega) (fun r hr => ?_)
  have hs : r.toInt = sg P.toInt Q.toInt := hr
  have hr0 : 0 < r.toInt := by rw [hs]; exact sg_pos hP
  have h0 : (0 : Int64).toInt = 0 := rfl
  have h6 : (1000000 : Int64).toInt = 1000000 := rfl
  have hle : ¬ r ≤ 0 := fun q => by have := l_le.mp q; omega
  have hne : ¬ r = 0 := fun q => by rw [q] at hr0; omega
  unfold w7_quotient
  simp only [hle, hne, false_implies, not_false_eq_true, true_implies, true_and]
  have e1 := l_div (a := P) (b := r) (by omega) hr0
  have e2 := l_div (a := Q) (b := r) (by omega) hr0
  rw [l_lt, l_le, h6, e1, e2, hs]
  have p1 : 0 ≤ P.toInt / sg P.toInt Q.toInt := Int.ediv_nonneg (by omega) (by omega)
  have p2 : 0 ≤ Q.toInt / sg P.toInt Q.toInt := Int.ediv_nonneg (by omega) (by omega)
  by_cases hk : stOk P.toInt Q.toInt
  · have k1 := hk.1
    have k2 := hk.2
    simp only [stR, stF, if_pos hk] at h
    refine ⟨fun q => absurd q (by omega), fun _ => ⟨fun _ => ⟨hv.vin, hv.vin, ?_⟩, fun q => absurd k2 q⟩⟩
    rw [l_to_ofInt (by rw [e1, hs]; omega) (by rw [e1, hs]; omega), l_to_ofInt (by rw [e2, hs]; omega) (by rw [e2, hs]; omega), e1, e2, hs]
    exact h
  · simp only [stR, stF, if_neg hk] at h
    by_cases k1 : P.toInt / sg P.toInt Q.toInt ≤ 1000000
    · have k2 : ¬ Q.toInt / sg P.toInt Q.toInt ≤ 1000000 := fun q => hk ⟨k1, q⟩
      exact ⟨fun q => absurd q (by omega), fun _ => ⟨fun q => absurd q k2, fun _ => h⟩⟩
    · exact ⟨fun _ => h, fun q => absurd q (by omega)⟩
theorem s8_put {f g : Nat → Int32} {v : Int32} {P Q : Int64} (hv : isR v) (hP : 0 < P.toInt) (hQ : 0 < Q.toInt) {post : Int32 → (Nat → Int32) → (Nat → Int32) → Prop} (h : post (stR P.toInt Q.toInt) (stF f v P.toInt Q.toInt P.toInt) (stF g v P.toInt Q.toInt Q.toInt)) : w8_put f g v P Q post := by
  unfold w8_put
  refine gcd8 (by omega) (by omega) (fun r hr => ?_)
  have hs : r.toInt = sg P.toInt Q.toInt := hr
  have hr0 : 0 < r.toInt := by rw [hs]; exact sg_pos hP
  have h0 : (0 : Int64).toInt = 0 := rfl
  have h6 : (1000000 : Int64).toInt = 1000000 := rfl
  have hne : ¬ r = 0 := fun q => by rw [q] at hr0; omega
  have e1 := l_div (a := P) (b := r) (by omega) hr0
  have e2 := l_div (a := Q) (b := r) (by omega) hr0
  rw [l_lt, l_le, h6, e1, e2, hs]
  have p1 : 0 ≤ P.toInt / sg P.toInt Q.toInt := Int.ediv_nonneg (by omega) (by omega)
  have p2 : 0 ≤ Q.toInt / sg P.toInt Q.toInt := Int.ediv_nonneg (by omega) (by omega)
  refine ⟨hne, ?_⟩
  by_cases hk : stOk P.toInt Q.toInt
  · have k1 := hk.1
    have k2 := hk.2
    simp only [stR, stF, if_pos hk] at h
    refine ⟨fun q => absurd q (by omega), fun _ => ⟨hne, fun _ => ⟨hne, hv.vin, hne, hv.vin, ?_⟩, fun q => absurd k2 q⟩⟩
    rw [l_to_ofInt (by rw [e1, hs]; omega) (by rw [e1, hs]; omega), l_to_ofInt (by rw [e2, hs]; omega) (by rw [e2, hs]; omega), e1, e2, hs]
    exact h
  · simp only [stR, stF, if_neg hk] at h
    by_cases k1 : P.toInt / sg P.toInt Q.toInt ≤ 1000000
    · have k2 : ¬ Q.toInt / sg P.toInt Q.toInt ≤ 1000000 := fun q => hk ⟨k1, q⟩
      exact ⟨fun q => absurd q (by omega), fun _ => ⟨hne, fun q => absurd q k2, fun _ => h⟩⟩
    · exact ⟨fun _ => h, fun q => absurd q (by omega)⟩
theorem upd_eq (f : Nat → Int32) (k : Nat) (x : Int32) : upd f k x k = x := if_pos rfl
theorem upd_ne (f : Nat → Int32) {k j : Nat} (x : Int32) (h : ¬ j = k) : upd f k x j = f j := if_neg h
theorem st_good {p q : Int} (hp : 0 < p) (hq : 0 < q) (hk : stOk p q) : good (Int32.ofInt (p / sg p q)) (Int32.ofInt (q / sg p q)) := by
  have hg := sg_pos (q := q) hp
  have d1 : 1 ≤ p / sg p q := by
    have := Int.ediv_pos_of_pos_of_dvd hp (by omega) (sg_dvd_left (q := q) hp)
    omega
  have d2 : 1 ≤ q / sg p q := by
    have := Int.ediv_pos_of_pos_of_dvd hq (by omega) (sg_dvd_right (p := p) hq)
    omega
  have k1 := hk.1
  have k2 := hk.2
  have e1 := i_ofInt (x := p / sg p q) (by omega) (by omega)
  have e2 := i_ofInt (x := q / sg p q) (by omega) (by omega)
  refine ⟨by omega, by omega, by omega, by omega, ?_⟩
  rw [e1, e2]
  have n1 : p / sg p q = ((p.toNat / Nat.gcd p.toNat q.toNat : Nat) : Int) := by
    unfold sg; rw [Int.natCast_ediv, Int.toNat_of_nonneg (by omega)]
  have n2 : q / sg p q = ((q.toNat / Nat.gcd p.toNat q.toNat : Nat) : Int) := by
    unfold sg; rw [Int.natCast_ediv, Int.toNat_of_nonneg (by omega)]
  rw [n1, n2, Int.toNat_natCast, Int.toNat_natCast]
  exact Nat.gcd_div_gcd_div_gcd_of_pos_left (by omega)
theorem IReg.store {t b a e : Nat → Int32} (h : IReg t b a e) {v : Int32} {p q : Int} (hp : 0 < p) (hq : 0 < q) : IReg (stF t v p q p) (stF b v p q q) (stF a v p q p) (stF e v p q q) := by
  intro i hi
  by_cases hk : stOk p q
  · simp only [stF, if_pos hk]
    by_cases hiv : i = v.toNatClampNeg
    · subst hiv
      simp only [upd_eq]
      exact ⟨trivial, trivial, st_good hp hq hk⟩
    · simp only [upd_ne _ _ hiv]
      exact h i hi
  · simp only [stF, if_neg hk]
    exact h i hi
