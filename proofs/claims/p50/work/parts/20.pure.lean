def good (a b : Int32) : Prop := 1 ≤ a.toInt ∧ a.toInt ≤ 1000000 ∧ 1 ≤ b.toInt ∧ b.toInt ≤ 1000000 ∧ Nat.gcd a.toInt.toNat b.toInt.toNat = 1
theorem n_toInt {k : Nat} (h : k < 2147483648) : (Int32.ofNat k).toInt = (k : Int) := Int32.toInt_ofNat_of_lt h
theorem l_add {a b : Int64} (h1 : -9223372036854775808 ≤ a.toInt + b.toInt) (h2 : a.toInt + b.toInt ≤ 9223372036854775807) : (a + b).toInt = a.toInt + b.toInt := by
  rw [Int64.toInt_add]; exact Int.bmod_eq_of_le (by omega) (by omega)
theorem l_sub {a b : Int64} (h1 : -9223372036854775808 ≤ a.toInt - b.toInt) (h2 : a.toInt - b.toInt ≤ 9223372036854775807) : (a - b).toInt = a.toInt - b.toInt := by
  rw [Int64.toInt_sub]; exact Int.bmod_eq_of_le (by omega) (by omega)
theorem l_mul {a b : Int64} (h1 : -9223372036854775808 ≤ a.toInt * b.toInt) (h2 : a.toInt * b.toInt ≤ 9223372036854775807) : (a * b).toInt = a.toInt * b.toInt := by
  rw [Int64.toInt_mul]; exact Int.bmod_eq_of_le (by omega) (by omega)
theorem i_add {a b : Int32} (h1 : -2147483648 ≤ a.toInt + b.toInt) (h2 : a.toInt + b.toInt ≤ 2147483647) : (a + b).toInt = a.toInt + b.toInt := by
  rw [Int32.toInt_add]; exact Int.bmod_eq_of_le (by omega) (by omega)
theorem i_sub {a b : Int32} (h1 : -2147483648 ≤ a.toInt - b.toInt) (h2 : a.toInt - b.toInt ≤ 2147483647) : (a - b).toInt = a.toInt - b.toInt := by
  rw [Int32.toInt_sub]; exact Int.bmod_eq_of_le (by omega) (by omega)
theorem i_mul {a b : Int32} (h1 : -2147483648 ≤ a.toInt * b.toInt) (h2 : a.toInt * b.toInt ≤ 2147483647) : (a * b).toInt = a.toInt * b.toInt := by
  rw [Int32.toInt_mul]; exact Int.bmod_eq_of_le (by omega) (by omega)
theorem l_range (a : Int64) : -9223372036854775808 ≤ a.toInt ∧ a.toInt ≤ 9223372036854775807 := by
  have h1 := Int64.le_toInt a; have h2 := Int64.toInt_lt a
  constructor <;> omega
theorem i_range (a : Int32) : -2147483648 ≤ a.toInt ∧ a.toInt ≤ 2147483647 := by
  have h1 := Int32.le_toInt a; have h2 := Int32.toInt_lt a
  constructor <;> omega
theorem div_le_self' {a b : Int} (ha : 0 ≤ a) (hb : 0 < b) : a / b ≤ a := Int.ediv_le_self b ha
theorem l_div {a b : Int64} (ha : 0 ≤ a.toInt) (hb : 0 < b.toInt) : (a / b).toInt = a.toInt / b.toInt := by
  have hr := l_range a
  have h0 : 0 ≤ a.toInt / b.toInt := Int.ediv_nonneg ha (by omega)
  have h1 : a.toInt / b.toInt ≤ a.toInt := div_le_self' ha hb
  rw [Int64.toInt_div, Int.tdiv_eq_ediv_of_nonneg ha]
  exact Int.bmod_eq_of_le (by omega) (by omega)
theorem l_rem {a b : Int64} (ha : 0 ≤ a.toInt) (hb : 0 < b.toInt) : (a - (a / b) * b).toInt = a.toInt % b.toInt := by
  have hr := l_range a
  have e := l_div ha hb
  have h0 : 0 ≤ a.toInt / b.toInt := Int.ediv_nonneg ha (by omega)
  have hm : a.toInt / b.toInt * b.toInt ≤ a.toInt := Int.ediv_mul_le _ (by omega)
  have hn : 0 ≤ a.toInt / b.toInt * b.toInt := Int.mul_nonneg h0 (by omega)
  have e2 : ((a / b) * b).toInt = a.toInt / b.toInt * b.toInt := by rw [l_mul (by rw [e]; omega) (by rw [e]; omega), e]
  have h3 : a.toInt % b.toInt = a.toInt - a.toInt / b.toInt * b.toInt := by rw [Int.emod_def, Int.mul_comm]
  rw [l_sub (by rw [e2]; omega) (by rw [e2]; omega), e2, h3]
theorem i_div {a b : Int32} (ha : 0 ≤ a.toInt) (hb : 0 < b.toInt) : (a / b).toInt = a.toInt / b.toInt := by
  have hr := i_range a
  have h0 : 0 ≤ a.toInt / b.toInt := Int.ediv_nonneg ha (by omega)
  have h1 : a.toInt / b.toInt ≤ a.toInt := div_le_self' ha hb
  rw [Int32.toInt_div, Int.tdiv_eq_ediv_of_nonneg ha]
  exact Int.bmod_eq_of_le (by omega) (by omega)
theorem i_rem {a b : Int32} (ha : 0 ≤ a.toInt) (hb : 0 < b.toInt) : (a - (a / b) * b).toInt = a.toInt % b.toInt := by
  have hr := i_range a
  have e := i_div ha hb
  have h0 : 0 ≤ a.toInt / b.toInt := Int.ediv_nonneg ha (by omega)
  have hm : a.toInt / b.toInt * b.toInt ≤ a.toInt := Int.ediv_mul_le _ (by omega)
  have hn : 0 ≤ a.toInt / b.toInt * b.toInt := Int.mul_nonneg h0 (by omega)
  have e2 : ((a / b) * b).toInt = a.toInt / b.toInt * b.toInt := by rw [i_mul (by rw [e]; omega) (by rw [e]; omega), e]
  have h3 : a.toInt % b.toInt = a.toInt - a.toInt / b.toInt * b.toInt := by rw [Int.emod_def, Int.mul_comm]
  rw [i_sub (by rw [e2]; omega) (by rw [e2]; omega), e2, h3]
theorem l_i {a : Int64} (h1 : -2147483648 ≤ a.toInt) (h2 : a.toInt ≤ 2147483647) : a.toInt32.toInt = a.toInt := by
  rw [Int64.toInt_toInt32]; exact Int.bmod_eq_of_le (by omega) (by omega)
theorem i_ext {a b : Int32} (h : a.toInt = b.toInt) : a = b := Int32.toInt_inj.mp h
theorem l_ext {a b : Int64} (h : a.toInt = b.toInt) : a = b := Int64.toInt_inj.mp h
theorem l_eq {a b : Int64} : a = b ↔ a.toInt = b.toInt := Int64.toInt_inj.symm
theorem i_lt {a b : Int32} : a < b ↔ a.toInt < b.toInt := Int32.lt_iff_toInt_lt
theorem i_le {a b : Int32} : a ≤ b ↔ a.toInt ≤ b.toInt := Int32.le_iff_toInt_le
theorem l_lt {a b : Int64} : a < b ↔ a.toInt < b.toInt := Int64.lt_iff_toInt_lt
theorem l_le {a b : Int64} : a ≤ b ↔ a.toInt ≤ b.toInt := Int64.le_iff_toInt_le
theorem clamp {v : Int32} (h : 0 ≤ v.toInt) : (v.toNatClampNeg : Int) = v.toInt := by
  show ((v.toInt.toNat : Nat) : Int) = v.toInt
  omega
theorem vin {v : Int32} {n : Nat} (h1 : 0 ≤ v.toInt) (h2 : v.toInt < n) : vp_in v n := by
  unfold vp_in
  rintro (h | h)
  · have := i_lt.mp h
    have h0 : (0 : Int32).toInt = 0 := rfl
    omega
  · have := clamp h1
    omega
def isR (v : Int32) : Prop := 0 ≤ v.toInt ∧ v.toInt < 8
theorem r7y {v : Int32} (h : isR v) (post : Int32 → Prop) : w7_isRegister v post = post 1 := by
  have h8 : (8 : Int32).toInt = 8 := rfl
  have h0 : (0 : Int32).toInt = 0 := rfl
  unfold isR at h
  unfold w7_isRegister
  rw [i_lt, i_le, h8, h0]
  have a : ¬ v.toInt < 0 := by omega
  have b : ¬ (8 : Int) ≤ v.toInt := by omega
  simp only [a, b, false_implies, true_and, not_false_eq_true, true_implies]
theorem r7n {v : Int32} (h : ¬ isR v) (post : Int32 → Prop) : w7_isRegister v post = post 0 := by
  have h8 : (8 : Int32).toInt = 8 := rfl
  have h0 : (0 : Int32).toInt = 0 := rfl
  unfold isR at h
  unfold w7_isRegister
  rw [i_lt, i_le, h8, h0]
  by_cases a : v.toInt < 0
  · simp only [a, true_implies, not_true_eq_false, false_implies, and_true]
  · have b : (8 : Int) ≤ v.toInt := by omega
    simp only [a, b, false_implies, true_and, not_false_eq_true, true_implies, not_true_eq_false, and_true]
theorem n7y {a lo hi : Int32} (h : lo.toInt ≤ a.toInt ∧ a.toInt ≤ hi.toInt) (post : Int32 → Prop) : w7_isIn a lo hi post = post 1 := by
  unfold w7_isIn
  rw [i_lt, i_lt]
  have b : ¬ a.toInt < lo.toInt := by omega
  have c : ¬ hi.toInt < a.toInt := by omega
  simp only [b, c, false_implies, true_and, not_false_eq_true, true_implies]
theorem n7n {a lo hi : Int32} (h : ¬ (lo.toInt ≤ a.toInt ∧ a.toInt ≤ hi.toInt)) (post : Int32 → Prop) : w7_isIn a lo hi post = post 0 := by
  unfold w7_isIn
  rw [i_lt, i_lt]
  by_cases b : a.toInt < lo.toInt
  · simp only [b, true_implies, not_true_eq_false, false_implies, and_true]
  · have c : hi.toInt < a.toInt := by omega
    simp only [b, c, false_implies, true_and, not_false_eq_true, true_implies, not_true_eq_false, and_true]
theorem b01 : ((1 : Int32) = 0) = False := eq_false (by decide)
theorem b00 : ((0 : Int32) = 0) = True := eq_true rfl
theorem isR.vin {v : Int32} (h : isR v) : vp_in v 8 := CSternBrocotExplorerLaw_law_r5028_2541a0.vin h.1 h.2
theorem isR.lt {v : Int32} (h : isR v) : v.toNatClampNeg < 8 := by have := clamp h.1; have := h.2; omega
/-- so many steps suffice -/
def eN : Nat → Nat → Nat → Prop
  | 0, _, b => b = 0
  | n + 1, a, b => b = 0 ∨ eN n b (a % b)
theorem eN_log (k : Nat) : ∀ a b : Nat, b < 2 ^ k → eN (2 * k) a b := by
  induction k with
  | zero => intro a b h; exact (by omega : b = 0)
  | succ k ih =>
    intro a b h
    show eN (2 * k + 1 + 1) a b
    by_cases hb : b = 0
    · exact Or.inl hb
    refine Or.inr ?_
    have hr : a % b < b := Nat.mod_lt _ (by omega)
    by_cases hr0 : a % b = 0
    · exact Or.inl hr0
    refine Or.inr (ih _ _ ?_)
    have h2 : b % (a % b) < a % b := Nat.mod_lt _ (by omega)
    rw [Nat.pow_succ] at h
    by_cases h3 : a % b < 2 ^ k
    · omega
    · have h4 : b % (a % b) = b - a % b := by
        rw [Nat.mod_eq_sub_mod (by omega)]
        exact Nat.mod_eq_of_lt (by omega)
      omega
theorem gcd7_L {post : Int64 → Prop} : ∀ (n : Nat) (a b : Int64) (k : Int32), 0 ≤ a.toInt → 0 ≤ b.toInt → eN n a.toInt.toNat b.toInt.toNat → 0 ≤ k.toInt → k.toInt + n < 1000 →
    (∀ r : Int64, r.toInt = (Nat.gcd a.toInt.toNat b.toInt.toNat : Int) → post r) → w7_gcd_L9 post (n + 1) a b k := by
  intro n
  induction n with
  | zero =>
    intro a b k ha hb he hk hn hp
    rw [w7_gcd_L9]
    have h1 : (1000 : Int32).toInt = 1000 := rfl
    have h0 : (0 : Int64).toInt = 0 := rfl
    have he : b.toInt.toNat = 0 := he
    refine ⟨fun h => absurd (i_le.mp h) (by omega), fun _ => ⟨fun _ => hp _ ?_, fun h => absurd (l_le.mpr (by omega)) h⟩⟩
    rw [he, Nat.gcd_zero_right]; omega
  | succ n ih =>
    intro a b k ha hb he hk hn hp
    rw [w7_gcd_L9]
    have h1 : (1000 : Int32).toInt = 1000 := rfl
    have h0 : (0 : Int64).toInt = 0 := rfl
    have g1 : (1 : Int32).toInt = 1 := rfl
    refine ⟨fun h => absurd (i_le.mp h) (by omega), fun _ => ⟨fun h => hp _ ?_, fun h => ⟨fun h2 => h (by rw [h2]; exact l_le.mpr (Int.le_refl _)), fun x hx y hy => ?_⟩⟩⟩
    · have := l_le.mp h
      rw [show b.toInt.toNat = 0 by omega, Nat.gcd_zero_right]; omega
    · have hb0 : 0 < b.toInt := by
        have : ¬ b.toInt ≤ 0 := fun q => h (l_le.mpr (by omega))
        omega
      have hx1 : x.toInt = a.toInt % b.toInt := by rw [hx, l_rem ha hb0]
      have hx2 : x.toInt.toNat = a.toInt.toNat % b.toInt.toNat := by rw [hx1, Int.toNat_emod ha hb]
      have hy1 : y.toInt = k.toInt + 1 := by rw [hy, i_add (by omega) (by omega)]; rfl
      refine ih b x y hb (by rw [hx1]; exact Int.emod_nonneg _ (by omega)) ?_ (by omega) (by omega) (fun r hr => hp r ?_)
      · rcases he with he | he
        · omega
        · rw [hx2]; exact he
      · rw [hr, hx2, Nat.gcd_comm, ← Nat.gcd_rec, Nat.gcd_comm]
theorem gcd7 {a b : Int64} (ha : 0 ≤ a.toInt) (hb : 0 ≤ b.toInt) {post : Int64 → Prop} (hp : ∀ r : Int64, r.toInt = (Nat.gcd a.toInt.toNat b.toInt.toNat : Int) → post r) : w7_gcd a b post := by
  unfold w7_gcd
  have hr := l_range b
  exact ⟨_, gcd7_L (2 * 63) a b 0 ha hb (eN_log 63 _ _ (by omega)) (by decide) (by decide) hp⟩
def sg (p q : Int) : Int := (Nat.gcd p.toNat q.toNat : Int)
abbrev stOk (p q : Int) : Prop := p / sg p q ≤ 1000000 ∧ q / sg p q ≤ 1000000
def stR (p q : Int) : Int32 := if stOk p q then 1 else -3
def stF (f : Nat → Int32) (v : Int32) (p q x : Int) : Nat → Int32 := if stOk p q then upd f v.toNatClampNeg (Int32.ofInt (x / sg p q)) else f
theorem sg_pos {p q : Int} (hp : 0 < p) : 0 < sg p q := by
  unfold sg
  have : 0 < Nat.gcd p.toNat q.toNat := Nat.gcd_pos_of_pos_left _ (by omega)
  omega
theorem sg_dvd_left {p q : Int} (hp : 0 < p) : sg p q ∣ p := by
  unfold sg
  have h := Int.natCast_dvd_natCast.mpr (Nat.gcd_dvd_left p.toNat q.toNat)
  rwa [show ((p.toNat : Nat) : Int) = p by omega] at h
theorem sg_dvd_right {p q : Int} (hq : 0 < q) : sg p q ∣ q := by
  unfold sg
  have h := Int.natCast_dvd_natCast.mpr (Nat.gcd_dvd_right p.toNat q.toNat)
  rwa [show ((q.toNat : Nat) : Int) = q by omega] at h
theorem i_ofInt {x : Int} (h1 : -2147483648 ≤ x) (h2 : x ≤ 2147483647) : (Int32.ofInt x).toInt = x := by
  rw [Int32.toInt_ofInt]
  show Int.bmod x 4294967296 = x
  exact Int.bmod_eq_of_le (by omega) (by omega)
theorem l_to_ofInt {a : Int64} (h1 : -2147483648 ≤ a.toInt) (h2 : a.toInt ≤ 2147483647) : a.toInt32 = Int32.ofInt a.toInt := i_ext (by rw [l_i h1 h2, i_ofInt h1 h2])
theorem s7_store {f g : Nat → Int32} {v : Int32} {P Q : Int64} (hv : isR v) (hP : 0 < P.toInt) (hQ : 0 < Q.toInt) {post : Int32 → (Nat → Int32) → (Nat → Int32) → Prop} (h : post (stR P.toInt Q.toInt) (stF f v P.toInt Q.toInt P.toInt) (stF g v P.toInt Q.toInt Q.toInt)) : w7_store f g v P Q post := by
  unfold w7_store
  refine gcd7 (by omega) (by omega) (fun r hr => ?_)
  have hs : r.toInt = sg P.toInt Q.toInt := hr
  have hr0 : 0 < r.toInt := by rw [hs]; exact sg_pos hP
  have h0 : (0 : Int64).toInt = 0 := rfl
  have h6 : (1000000 : Int64).toInt = 1000000 := rfl
  have hle : ¬ r ≤ 0 := fun q => by have := l_le.mp q; omega
  have hne : ¬ r = 0 := fun q => by rw [q] at hr0; omega
  unfold w7_quotient
  simp only [hle, hne, false_implies, not_false_eq_true, true_implies, true_and]
  have e1 := l_div (a := P) (b := r) (by omega) hr0
  have e2 := l_div (a := Q) (b := r) (by omega) hr0
  rw [l_lt, l_le, h6, e1, e2, hs]
  have p1 : 0 ≤ P.toInt / sg P.toInt Q.toInt := Int.ediv_nonneg (by omega) (by omega)
  have p2 : 0 ≤ Q.toInt / sg P.toInt Q.toInt := Int.ediv_nonneg (by omega) (by omega)
  by_cases hk : stOk P.toInt Q.toInt
  · have k1 := hk.1
    have k2 := hk.2
    simp only [stR, stF, if_pos hk] at h
    refine ⟨fun q => absurd q (by omega), fun _ => ⟨fun _ => ⟨hv.vin, hv.vin, ?_⟩, fun q => absurd k2 q⟩⟩
    rw [l_to_ofInt (by rw [e1, hs]; omega) (by rw [e1, hs]; omega), l_to_ofInt (by rw [e2, hs]; omega) (by rw [e2, hs]; omega), e1, e2, hs]
    exact h
  · simp only [stR, stF, if_neg hk] at h
    by_cases k1 : P.toInt / sg P.toInt Q.toInt ≤ 1000000
    · have k2 : ¬ Q.toInt / sg P.toInt Q.toInt ≤ 1000000 := fun q => hk ⟨k1, q⟩
      exact ⟨fun q => absurd q (by omega), fun _ => ⟨fun q => absurd q k2, fun _ => h⟩⟩
    · exact ⟨fun _ => h, fun q => absurd q (by omega)⟩
theorem upd_eq (f : Nat → Int32) (k : Nat) (x : Int32) : upd f k x k = x := if_pos rfl
theorem upd_ne (f : Nat → Int32) {k j : Nat} (x : Int32) (h : ¬ j = k) : upd f k x j = f j := if_neg h
theorem st_good {p q : Int} (hp : 0 < p) (hq : 0 < q) (hk : stOk p q) : good (Int32.ofInt (p / sg p q)) (Int32.ofInt (q / sg p q)) := by
  have hg := sg_pos (q := q) hp
  have d1 : 1 ≤ p / sg p q := by
    have := Int.ediv_pos_of_pos_of_dvd hp (by omega) (sg_dvd_left (q := q) hp)
    omega
  have d2 : 1 ≤ q / sg p q := by
    have := Int.ediv_pos_of_pos_of_dvd hq (by omega) (sg_dvd_right (p := p) hq)
    omega
  have k1 := hk.1
  have k2 := hk.2
  have e1 := i_ofInt (x := p / sg p q) (by omega) (by omega)
  have e2 := i_ofInt (x := q / sg p q) (by omega) (by omega)
  refine ⟨by omega, by omega, by omega, by omega, ?_⟩
  rw [e1, e2]
  have n1 : p / sg p q = ((p.toNat / Nat.gcd p.toNat q.toNat : Nat) : Int) := by
    unfold sg; rw [Int.natCast_ediv, Int.toNat_of_nonneg (by omega)]
  have n2 : q / sg p q = ((q.toNat / Nat.gcd p.toNat q.toNat : Nat) : Int) := by
    unfold sg; rw [Int.natCast_ediv, Int.toNat_of_nonneg (by omega)]
  rw [n1, n2, Int.toNat_natCast, Int.toNat_natCast]
  exact Nat.gcd_div_gcd_div_gcd_of_pos_left (by omega)
theorem t64 (v : Int32) : v.toInt64.toInt = v.toInt := Int32.toInt_toInt64 v
theorem m_pos {a b : Int} (ha : 1 ≤ a) (hA : a ≤ 1000000) (hb : 1 ≤ b) (hB : b ≤ 1000000) : 1 ≤ a * b ∧ a * b ≤ 1000000000000 := by
  have h1 := Int.mul_le_mul hA hB (by omega) (by omega)
  have h2 := Int.mul_le_mul ha hb (by omega) (by omega)
  constructor <;> omega
theorem ofN_1 (n : Nat) : Int32.ofNat n + 1 = Int32.ofNat (n + 1) := (Int32.ofNat_add n 1).symm
theorem nxt {i x : Int32} {k : Nat} (h : i.toInt = (k : Int)) (hk : k < 1000000) (e : x = i + 1) : x.toInt = ((k + 1 : Nat) : Int) := by
  have l1 : (1 : Int32).toInt = 1 := rfl
  rw [e, i_add (by omega) (by omega), l1, h]; rfl
theorem natc {i : Int32} {k : Nat} (h : i.toInt = (k : Int)) : i.toNatClampNeg = k := by
  have := clamp (v := i) (by omega)
  omega
def rs (a b : Nat) : Nat → Nat
  | 0 => a
  | 1 => b
  | n + 2 => rs a b n % rs a b (n + 1)
theorem rs_shift (a b : Nat) : ∀ i, rs a b (i + 1) = rs b (a % b) i
  | 0 => rfl
  | 1 => rfl
  | n + 2 => by
    show rs a b (n + 1) % rs a b (n + 2) = rs b (a % b) n % rs b (a % b) (n + 1)
    rw [rs_shift a b n, rs_shift a b (n + 1)]
/-- the i-th term -/
def tm (a b i : Nat) : Nat := rs a b i / rs a b (i + 1)
/-- a / b has N terms -/
def CFx (a b N : Nat) : Prop := (∀ i, i < N → 0 < rs a b (i + 1)) ∧ rs a b (N + 1) = 0
theorem CFx_of_eN : ∀ (n a b : Nat), eN n a b → ∃ N, N ≤ n ∧ CFx a b N := by
  intro n
  induction n with
  | zero => intro a b h; exact ⟨0, Nat.le_refl _, fun i hi => absurd hi (by omega), h⟩
  | succ n ih =>
    intro a b h
    by_cases hb : b = 0
    · exact ⟨0, Nat.zero_le _, fun i hi => absurd hi (by omega), hb⟩
    · rcases h with h | h
      · exact absurd h hb
      obtain ⟨N, h1, h2, h3⟩ := ih _ _ h
      refine ⟨N + 1, by omega, fun i hi => ?_, ?_⟩
      · cases i with
        | zero => show 0 < b; omega
        | succ i => rw [rs_shift]; exact h2 i (by omega)
      · rw [rs_shift]; exact h3
theorem rs_rec (a b i : Nat) : rs a b i = tm a b i * rs a b (i + 1) + rs a b (i + 2) := by
  have h := Nat.div_add_mod (rs a b i) (rs a b (i + 1))
  rw [Nat.mul_comm] at h
  exact h.symm
theorem rs_lt {a b N : Nat} (h : CFx a b N) {i : Nat} (hi : i < N) : rs a b (i + 2) < rs a b (i + 1) := Nat.mod_lt _ (h.1 i hi)
theorem rs_gcd (a b : Nat) : ∀ i, Nat.gcd (rs a b i) (rs a b (i + 1)) = Nat.gcd a b
  | 0 => rfl
  | n + 1 => by
    rw [← rs_gcd a b n]
    show Nat.gcd (rs a b (n + 1)) (rs a b n % rs a b (n + 1)) = _
    rw [Nat.gcd_comm (rs a b (n + 1)), ← Nat.gcd_rec, Nat.gcd_comm]
/-- a reduced fraction's expansion -/
def CF (a b N : Nat) : Prop := CFx a b N ∧ 1 ≤ N ∧ N ≤ 40 ∧ rs a b N = 1 ∧ 1 ≤ a ∧ a ≤ 1000000 ∧ 1 ≤ b ∧ b ≤ 1000000
theorem CF_of {a b : Nat} (ha : 1 ≤ a) (hA : a ≤ 1000000) (hb : 1 ≤ b) (hB : b ≤ 1000000) (hg : Nat.gcd a b = 1) : ∃ N, CF a b N := by
  obtain ⟨N, h1, h2⟩ := CFx_of_eN _ a b (eN_log 20 a b (by omega))
  refine ⟨N, h2, ?_, by omega, ?_, ha, hA, hb, hB⟩
  · rcases Nat.eq_zero_or_pos N with h | h
    · rw [h] at h2; have : b = 0 := h2.2; omega
    · exact h
  · have := rs_gcd a b N
    rw [h2.2, Nat.gcd_zero_right, hg] at this
    exact this
theorem CF_good {a b : Int32} (h : good a b) : ∃ N, CF a.toInt.toNat b.toInt.toNat N := by
  obtain ⟨h1, h2, h3, h4, h5⟩ := h
  exact CF_of (by omega) (by omega) (by omega) (by omega) h5
theorem rs_le {a b N : Nat} (h : CF a b N) : ∀ i, i ≤ N + 1 → rs a b i ≤ 1000000
  | 0, _ => h.2.2.2.2.2.1
  | 1, _ => h.2.2.2.2.2.2.2
  | i + 2, hi => by
    have := rs_lt h.1 (i := i) (by omega)
    have := rs_le h (i + 1) (by omega)
    omega
theorem tm_le {a b N : Nat} (h : CF a b N) {i : Nat} (hi : i < N) : tm a b i ≤ 1000000 := Nat.le_trans (Nat.div_le_self _ _) (rs_le h i (by omega))
/-- every term but the first is positive -/
theorem tm_pos {a b N : Nat} (h : CF a b N) {i : Nat} (h0 : 0 < i) (hi : i < N) : 1 ≤ tm a b i := by
  obtain ⟨j, rfl⟩ : ∃ j, i = j + 1 := ⟨i - 1, by omega⟩
  have h1 := rs_lt h.1 (i := j) (by omega)
  have h2 := h.1.1 (j + 1) hi
  show 1 ≤ rs a b (j + 1) / rs a b (j + 2)
  exact Nat.div_pos (Nat.le_of_lt h1) h2
/-- the last term is at least 2, but for 1 itself -/
theorem tm_last {a b N : Nat} (h : CF a b N) (hN : 2 ≤ N) : 2 ≤ tm a b (N - 1) := by
  obtain ⟨j, rfl⟩ : ∃ j, N = j + 2 := ⟨N - 2, by omega⟩
  show 2 ≤ rs a b (j + 1) / rs a b (j + 2)
  have h1 : rs a b (j + 2) = 1 := h.2.2.2.1
  have h2 := rs_lt h.1 (i := j) (by omega)
  rw [h1] at h2 ⊢
  omega
theorem tm_last1 {a b N : Nat} (h : CF a b N) : 1 ≤ tm a b (N - 1) := by
  rcases Nat.lt_or_ge N 2 with q | q
  · have hN : N = 1 := by have := h.2.1; omega
    subst hN
    show 1 ≤ rs a b 0 / rs a b 1
    have h1 : rs a b 1 = 1 := h.2.2.2.1
    rw [h1, Nat.div_one]
    exact h.2.2.2.2.1
  · have := tm_last h q; omega
/-- the length of the i-th run, among them perhaps one of no steps: the first -/
def rr (a b N i : Nat) : Nat := if i = N - 1 then tm a b i - 1 else tm a b i
theorem rr_pos {a b N : Nat} (h : CF a b N) {i : Nat} (h0 : 0 < i) (hi : i < N) : 1 ≤ rr a b N i := by
  unfold rr
  by_cases q : i = N - 1
  · rw [if_pos q, q]
    have := tm_last h (by omega)
    omega
  · rw [if_neg q]; exact tm_pos h h0 hi
theorem rr_le {a b N : Nat} (h : CF a b N) {i : Nat} (hi : i < N) : rr a b N i ≤ 1000000 := by
  have := tm_le h hi
  unfold rr
  split <;> omega
/-- arrays that hold the terms -/
def IsT (a b N : Nat) (f : Nat → Int32) : Prop := ∀ i, i < N → (f i).toInt = (tm a b i : Int)
theorem i_pos {v : Int32} {k : Nat} (h : v.toInt = (k : Int)) (hk : 0 < k) : ¬ v ≤ 0 ∧ ¬ v = 0 := by
  have h0 : (0 : Int32).toInt = 0 := rfl
  exact ⟨fun q => by have := i_le.mp q; omega, fun q => by rw [q] at h; omega⟩
theorem i_divmod {x y : Int32} {a b : Nat} (hx : x.toInt = (a : Int)) (hy : y.toInt = (b : Int)) (hb : 0 < b) : (x / y).toInt = ((a / b : Nat) : Int) ∧ (x - (x / y) * y).toInt = ((a % b : Nat) : Int) := by
  constructor
  · rw [i_div (by omega) (by omega), hx, hy, Int.natCast_ediv]
  · rw [i_rem (by omega) (by omega), hx, hy, Int.natCast_emod]
theorem ex7_L {a b N : Nat} (h : CF a b N) {post : Int32 → (Nat → Int32) → Prop} (hp : ∀ f, IsT a b N f → post (Int32.ofNat N) f) : ∀ (n k : Nat) (x y i : Int32) (f : Nat → Int32), k + n = N → x.toInt = (rs a b k : Int) → y.toInt = (rs a b (k + 1) : Int) → i.toInt = (k : Int) → (∀ j, j < k → (f j).toInt = (tm a b j : Int)) → w1_expand_L13 post (n + 1) x y i (Int32.ofNat k) f := by
  have l64 : (64 : Int32).toInt = 64 := rfl
  have l0 : (0 : Int32).toInt = 0 := rfl
  have l1 : (1 : Int32).toInt = 1 := rfl
  have hN := h.2.2.1
  intro n
  induction n with
  | zero =>
    intro k x y i f hk hx hy hi hf
    obtain rfl : k = N := by omega
    rw [w1_expand_L13]
    refine ⟨fun q => absurd (i_le.mp q) (by omega), fun _ => ⟨fun _ => hp f hf, fun q => absurd (i_le.mpr ?_) q⟩⟩
    rw [hy, h.1.2, l0]; exact Int.le_refl _
  | succ n ih =>
    intro k x y i f hk hx hy hi hf
    rw [w1_expand_L13]
    obtain ⟨hle, hne⟩ := i_pos hy (h.1.1 k (by omega))
    obtain ⟨e1, e2⟩ := i_divmod hx hy (h.1.1 k (by omega))
    have hsz : (Int32.ofNat k).toInt = (k : Int) := n_toInt (by omega)
    refine ⟨fun q => absurd (i_le.mp q) (by omega), fun _ => ⟨fun q => absurd q hle, fun _ => ⟨hne, ?_⟩⟩⟩
    unfold w1_append
    refine ⟨fun q => absurd (i_le.mp q) (by omega), fun _ => ⟨vin (by omega) (by omega), fun s es => ⟨hne, fun z ez j ej => ?_⟩⟩⟩
    rw [ofN_1] at es
    rw [es, natc hsz]
    refine ih (k + 1) y z j _ (by omega) hy (by rw [ez, e2]; rfl) (nxt hi (by omega) ej) (fun q hq => ?_)
    by_cases hqk : q = k
    · subst hqk
      rw [upd_eq]; exact e1
    · rw [upd_ne _ _ hqk]; exact hf q (by omega)
theorem s1_expand {a b N : Nat} (h : CF a b N) {x y s : Int32} {f : Nat → Int32} (hx : x.toInt = (a : Int)) (hy : y.toInt = (b : Int)) {post : Int32 → (Nat → Int32) → Prop} (hp : ∀ f, IsT a b N f → post (Int32.ofNat N) f) : w1_expand s f x y post :=
  ⟨_, ex7_L h hp N 0 x y 0 f (by omega) hx hy rfl (fun j hj => absurd hj (by omega))⟩
def sumN (f : Nat → Nat) : Nat → Nat
  | 0 => 0
  | n + 1 => sumN f n + f n
theorem sumN_le {f : Nat → Nat} {C : Nat} : ∀ {n : Nat}, (∀ i, i < n → f i ≤ C) → sumN f n ≤ C * n := by
  intro n
  induction n with
  | zero => intro _; exact Nat.zero_le _
  | succ n ih =>
    intro h
    have h1 := ih (fun i hi => h i (by omega))
    have h2 := h n (by omega)
    show sumN f n + f n ≤ C * (n + 1)
    rw [Nat.mul_succ]; omega
theorem sumN_mono {f : Nat → Nat} {m n : Nat} (h : m ≤ n) : sumN f m ≤ sumN f n := by
  induction n with
  | zero => have : m = 0 := by omega
            subst this; exact Nat.le_refl _
  | succ n ih =>
    by_cases q : m = n + 1
    · subst q; exact Nat.le_refl _
    · have := ih (by omega)
      show sumN f m ≤ sumN f n + f n
      omega
/-- the depth -/
def dep (a b N : Nat) : Nat := sumN (rr a b N) N
theorem dep_le {a b N : Nat} (h : CF a b N) {k : Nat} (hk : k ≤ N) : sumN (rr a b N) k ≤ 40000000 := by
  have h1 := sumN_le (f := rr a b N) (C := 1000000) (n := k) (fun i hi => rr_le h (by omega))
  have h2 := h.2.2.1
  omega
theorem szm1 {N : Nat} (h1 : 1 ≤ N) (h2 : N ≤ 1000) : (Int32.ofNat N - 1).toInt = (N : Int) - 1 := by
  have l1 : (1 : Int32).toInt = 1 := rfl
  have e : (Int32.ofNat N).toInt = (N : Int) := n_toInt (by omega)
  rw [i_sub (by omega) (by omega), e, l1]
theorem s1_at {N : Nat} {f : Nat → Int32} {v : Int32} {k : Nat} (hN : N ≤ 64) (hv : v.toInt = (k : Int)) (hk : k < N) {post : Int32 → Prop} (h : post (f k)) : w1_at (Int32.ofNat N) f v post := by
  have l0 : (0 : Int32).toInt = 0 := rfl
  have e : (Int32.ofNat N).toInt = (N : Int) := n_toInt (by omega)
  unfold w1_at
  refine ⟨fun q => absurd (i_lt.mp q) (by omega), fun _ => ⟨fun q => absurd (i_le.mp q) (by omega), fun _ => ⟨vin (by omega) (by omega), ?_⟩⟩⟩
  rw [natc hv]; exact h
theorem s1_runAt {a b N : Nat} (h : CF a b N) {f : Nat → Int32} (hf : IsT a b N f) {v : Int32} {k : Nat} (hv : v.toInt = (k : Int)) (hk : k < N) {post : Int32 → Prop} (hp : ∀ r : Int32, r.toInt = (rr a b N k : Int) → post r) : w1_runAt (Int32.ofNat N) f v post := by
  have hN := h.2.2.1
  have l1 : (1 : Int32).toInt = 1 := rfl
  have e1 := szm1 (N := N) h.2.1 (by omega)
  have ht := hf k hk
  have htl := tm_le h hk
  unfold w1_runAt
  refine ⟨fun q => s1_at (by omega) hv hk (hp _ ?_), fun q => s1_at (by omega) hv hk (hp _ ?_)⟩
  · have hne : ¬ k = N - 1 := fun z => q (i_ext (by rw [hv, e1]; omega))
    rw [ht, rr, if_neg hne]
  · have he : k = N - 1 := by
      have := congrArg Int32.toInt q
      rw [hv, e1] at this; omega
    have h2 := tm_last1 h
    rw [← he] at h2
    rw [i_sub (by omega) (by omega), ht, l1, rr, if_pos he]; omega
theorem sc7_L {a b N : Nat} (h : CF a b N) {f : Nat → Int32} (hf : IsT a b N f) {post : Int32 → Prop} (hp : ∀ r : Int32, r.toInt = (dep a b N : Int) → post r) : ∀ (n k : Nat) (acc i : Int32), k + n = N → acc.toInt = (sumN (rr a b N) k : Int) → i.toInt = (k : Int) → w1_stepCount_L4 (Int32.ofNat N) f post (n + 1) acc i := by
  have hN := h.2.2.1
  have e : (Int32.ofNat N).toInt = (N : Int) := n_toInt (by omega)
  intro n
  induction n with
  | zero =>
    intro k acc i hk ha hi
    obtain rfl : k = N := by omega
    rw [w1_stepCount_L4]
    exact ⟨fun _ => hp _ ha, fun q => absurd (i_le.mpr (by omega)) q⟩
  | succ n ih =>
    intro k acc i hk ha hi
    rw [w1_stepCount_L4]
    refine ⟨fun q => absurd (i_le.mp q) (by omega), fun _ => s1_runAt h hf hi (by omega) (fun r hr x ex j ej => ?_)⟩
    have b1 := dep_le h (k := k + 1) (by omega)
    have b2 : sumN (rr a b N) (k + 1) = sumN (rr a b N) k + rr a b N k := rfl
    refine ih (k + 1) x j (by omega) ?_ (nxt hi (by omega) ej)
    rw [ex, i_add (by omega) (by omega), ha, hr, b2]; omega
theorem s1_stepCount {a b N : Nat} (h : CF a b N) {f : Nat → Int32} (hf : IsT a b N f) {post : Int32 → Prop} (hp : ∀ r : Int32, r.toInt = (dep a b N : Int) → post r) : w1_stepCount (Int32.ofNat N) f post := ⟨_, sc7_L h hf hp N 0 0 0 (by omega) rfl rfl⟩
theorem sumN_shift (f : Nat → Nat) : ∀ n, sumN f (n + 1) = f 0 + sumN (fun i => f (i + 1)) n
  | 0 => by show 0 + f 0 = f 0 + 0; omega
  | n + 1 => by
    show sumN f (n + 1) + f (n + 1) = f 0 + (sumN (fun i => f (i + 1)) n + f (n + 1))
    rw [sumN_shift f n]; omega
/-- the rule that makes each numerator and denominator out of the two before it -/
def kk2 (t : Nat → Nat) (x y : Nat) : Nat → Nat
  | 0 => x
  | 1 => y
  | n + 2 => t n * kk2 t x y (n + 1) + kk2 t x y n
theorem kk2_congr {t u : Nat → Nat} {x y : Nat} : ∀ n, (∀ i, i + 1 < n → t i = u i) → kk2 t x y n = kk2 u x y n
  | 0, _ => rfl
  | 1, _ => rfl
  | n + 2, h => by
    show t n * kk2 t x y (n + 1) + kk2 t x y n = u n * kk2 u x y (n + 1) + kk2 u x y n
    rw [h n (by omega), kk2_congr (n + 1) (fun i hi => h i (by omega)), kk2_congr n (fun i hi => h i (by omega))]
/-- numerators and denominators, of k terms at place k + 1 -/
def cA (a b k : Nat) : Nat := kk2 (tm a b) 0 1 k
def cB (a b k : Nat) : Nat := kk2 (tm a b) 1 0 k
theorem cA_rec (a b k : Nat) : cA a b (k + 2) = tm a b k * cA a b (k + 1) + cA a b k := rfl
theorem cB_rec (a b k : Nat) : cB a b (k + 2) = tm a b k * cB a b (k + 1) + cB a b k := rfl
theorem cA_rs (a b : Nat) : ∀ k, a = cA a b (k + 1) * rs a b k + cA a b k * rs a b (k + 1)
  | 0 => by show a = 1 * a + 0 * b; omega
  | k + 1 => by
    have h := cA_rs a b k
    show a = cA a b (k + 2) * rs a b (k + 1) + cA a b (k + 1) * rs a b (k + 2)
    rw [cA_rec]
    have e := rs_rec a b k
    have e2 : cA a b (k + 1) * rs a b k = cA a b (k + 1) * (tm a b k * rs a b (k + 1)) + cA a b (k + 1) * rs a b (k + 2) := by
      rw [← Nat.mul_add, ← e]
    have e3 : (tm a b k * cA a b (k + 1) + cA a b k) * rs a b (k + 1) = cA a b (k + 1) * (tm a b k * rs a b (k + 1)) + cA a b k * rs a b (k + 1) := by
      rw [Nat.add_mul, Nat.mul_comm (tm a b k), Nat.mul_assoc]
    rw [e3]
    omega
theorem cB_rs (a b : Nat) : ∀ k, b = cB a b (k + 1) * rs a b k + cB a b k * rs a b (k + 1)
  | 0 => by show b = 0 * a + 1 * b; omega
  | k + 1 => by
    have h := cB_rs a b k
    show b = cB a b (k + 2) * rs a b (k + 1) + cB a b (k + 1) * rs a b (k + 2)
    rw [cB_rec]
    have e := rs_rec a b k
    have e2 : cB a b (k + 1) * rs a b k = cB a b (k + 1) * (tm a b k * rs a b (k + 1)) + cB a b (k + 1) * rs a b (k + 2) := by
      rw [← Nat.mul_add, ← e]
    have e3 : (tm a b k * cB a b (k + 1) + cB a b k) * rs a b (k + 1) = cB a b (k + 1) * (tm a b k * rs a b (k + 1)) + cB a b k * rs a b (k + 1) := by
      rw [Nat.add_mul, Nat.mul_comm (tm a b k), Nat.mul_assoc]
    rw [e3]
    omega
theorem rs_pos {a b N : Nat} (h : CF a b N) : ∀ {k}, k ≤ N → 1 ≤ rs a b k
  | 0, _ => h.2.2.2.2.1
  | k + 1, hk => h.1.1 k (by omega)
theorem cA_le {a b N : Nat} (h : CF a b N) {k : Nat} (hk : k ≤ N + 1) : cA a b k ≤ a := by
  cases k with
  | zero => exact Nat.zero_le _
  | succ k =>
    have e := cA_rs a b k
    have hp := rs_pos h (k := k) (by omega)
    have : cA a b (k + 1) * 1 ≤ cA a b (k + 1) * rs a b k := Nat.mul_le_mul_left _ hp
    omega
theorem cB_le {a b N : Nat} (h : CF a b N) {k : Nat} (hk : k ≤ N + 1) : cB a b k ≤ b := by
  cases k with
  | zero => exact h.2.2.2.2.2.2.1
  | succ k =>
    have e := cB_rs a b k
    have hp := rs_pos h (k := k) (by omega)
    have : cB a b (k + 1) * 1 ≤ cB a b (k + 1) * rs a b k := Nat.mul_le_mul_left _ hp
    omega
theorem cA_end {a b N : Nat} (h : CF a b N) : cA a b (N + 1) = a := by
  have e := cA_rs a b N
  rw [h.1.2, h.2.2.2.1] at e; omega
theorem cB_end {a b N : Nat} (h : CF a b N) : cB a b (N + 1) = b := by
  have e := cB_rs a b N
  rw [h.1.2, h.2.2.2.1] at e; omega
/-- the determinant of neighbours -/
theorem cdet (a b : Nat) : ∀ k, (cA a b (k + 1) : Int) * cB a b k - (cA a b k : Int) * cB a b (k + 1) = if k % 2 = 0 then 1 else -1
  | 0 => rfl
  | k + 1 => by
    have h := cdet a b k
    rw [cA_rec, cB_rec]
    have e : ((tm a b k * cA a b (k + 1) + cA a b k : Nat) : Int) * (cB a b (k + 1) : Int) - (cA a b (k + 1) : Int) * ((tm a b k * cB a b (k + 1) + cB a b k : Nat) : Int) = -((cA a b (k + 1) : Int) * cB a b k - (cA a b k : Int) * cB a b (k + 1)) := by
      push_cast
      grind
    rw [e, h]
    by_cases q : k % 2 = 0
    · rw [if_pos q, if_neg (by omega)]
    · rw [if_neg q, if_pos (by omega)]; rfl
theorem cA_pos {a b N : Nat} (h : CF a b N) : ∀ {k}, 2 ≤ k → k ≤ N + 1 → (1 ≤ cA a b (k + 1 - 1) ∨ k = 2) ∧ 1 ≤ cB a b k
  | 0, h1, _ => absurd h1 (by omega)
  | 1, h1, _ => absurd h1 (by omega)
  | 2, _, _ => ⟨Or.inr rfl, by show 1 ≤ tm a b 0 * 0 + 1; omega⟩
  | 3, _, hk => by
    refine ⟨Or.inl ?_, ?_⟩
    · show 1 ≤ tm a b 1 * cA a b 2 + 1; omega
    · have := tm_pos h (i := 1) (by omega) (by omega)
      have h2 : cB a b 2 = 1 := by show tm a b 0 * 0 + 1 = 1; omega
      show 1 ≤ tm a b 1 * cB a b 2 + 0
      rw [h2]; omega
  | k + 4, _, hk => by
    obtain ⟨h1, h2⟩ := cA_pos h (k := k + 3) (by omega) (by omega)
    have ht := tm_pos h (i := k + 2) (by omega) (by omega)
    rcases h1 with h1 | h1
    · refine ⟨Or.inl ?_, ?_⟩
      · show 1 ≤ tm a b (k + 2) * cA a b (k + 3) + cA a b (k + 2)
        have h1' : 1 ≤ cA a b (k + 3) := h1
        have := Nat.mul_le_mul ht h1'
        omega
      · show 1 ≤ tm a b (k + 2) * cB a b (k + 3) + cB a b (k + 2)
        have := Nat.mul_le_mul ht h2
        omega
    · omega
theorem lbr_L {N : Nat} {f : Nat → Int32} {t : Nat → Nat} (hf : ∀ i, i < N → (f i).toInt = (t i : Int)) (ht : ∀ i, i < N → t i ≤ 1000000) {v : Int32} {last : Nat} (hv : v.toInt = (last : Int) - 1) (hl : last ≤ N) (hN : N ≤ 64) {x y : Nat} (hb : ∀ k, k ≤ last + 1 → kk2 t x y k ≤ 2000000000000) {post : Int64 → Prop} (hp : ∀ r : Int64, r.toInt = (kk2 t x y (last + 1) : Int) → post r) : ∀ (n k : Nat) (X Y : Int64) (i : Int32), k + n = last → X.toInt = (kk2 t x y k : Int) → Y.toInt = (kk2 t x y (k + 1) : Int) → i.toInt = (k : Int) → w1_lastByRule_L17 (Int32.ofNat N) f v post (n + 1) X Y i := by
  have hNi : (Int32.ofNat N).toInt = (N : Int) := n_toInt (by omega)
  intro n
  induction n with
  | zero =>
    intro k X Y i hk hX hY hi
    obtain rfl : k = last := by omega
    rw [w1_lastByRule_L17]
    exact ⟨fun _ => hp Y hY, fun z => absurd (i_lt.mpr (by omega)) z⟩
  | succ n ih =>
    intro k X Y i hk hX hY hi
    rw [w1_lastByRule_L17]
    refine ⟨fun z => absurd (i_lt.mp z) (by omega), fun _ => ⟨fun z => absurd (i_le.mp z) (by omega), fun _ => ⟨vin (by omega) (by omega), fun Z eZ j ej => ih (k + 1) Y Z j (by omega) hY ?_ (nxt hi (by omega) ej)⟩⟩⟩
    rw [natc hi] at eZ
    have h1 := hb (k + 1) (by omega)
    have h2 := hb (k + 2) (by omega)
    have h3 := hb k (by omega)
    have hrec : kk2 t x y (k + 2) = t k * kk2 t x y (k + 1) + kk2 t x y k := rfl
    have hft := hf k (by omega)
    have hc : ((t k * kk2 t x y (k + 1) : Nat) : Int) = (t k : Int) * (kk2 t x y (k + 1) : Int) := Int.natCast_mul _ _
    have e1 : ((f k).toInt64 * Y).toInt = ((t k * kk2 t x y (k + 1) : Nat) : Int) := by rw [l_mul (by rw [t64, hft, hY, ← hc]; omega) (by rw [t64, hft, hY, ← hc]; omega), t64, hft, hY, hc]
    rw [eZ, l_add (by rw [e1, hX]; omega) (by rw [e1, hX]; omega), e1, hX, hrec]; omega
theorem s1_last {N : Nat} {f : Nat → Int32} {t : Nat → Nat} (hf : ∀ i, i < N → (f i).toInt = (t i : Int)) (ht : ∀ i, i < N → t i ≤ 1000000) {v : Int32} {last : Nat} (hv : v.toInt = (last : Int) - 1) (hl : last ≤ N) (hN : N ≤ 64) {x y : Nat} {X Y : Int64} (hX : X.toInt = (x : Int)) (hY : Y.toInt = (y : Int)) (hb : ∀ k, k ≤ last + 1 → kk2 t x y k ≤ 2000000000000) {post : Int64 → Prop} (hp : ∀ r : Int64, r.toInt = (kk2 t x y (last + 1) : Int) → post r) : w1_lastByRule (Int32.ofNat N) f v X Y post := by
  unfold w1_lastByRule
  have lm : (-1 : Int32).toInt = -1 := rfl
  exact ⟨fun _ => ⟨_, lbr_L hf ht hv hl hN hb hp last 0 X Y 0 (by omega) hX hY rfl⟩, fun z => absurd (i_le.mpr (by omega)) z⟩
def oA (a b k m : Nat) : Nat := cA a b k + m * cA a b (k + 1)
def oB (a b k m : Nat) : Nat := cB a b k + m * cB a b (k + 1)
def sLA (a b k m : Nat) : Nat := if k % 2 = 0 then oA a b k m else cA a b (k + 1)
def sLB (a b k m : Nat) : Nat := if k % 2 = 0 then oB a b k m else cB a b (k + 1)
def sRA (a b k m : Nat) : Nat := if k % 2 = 0 then cA a b (k + 1) else oA a b k m
def sRB (a b k m : Nat) : Nat := if k % 2 = 0 then cB a b (k + 1) else oB a b k m
theorem s_sum (a b k m : Nat) : sLA a b k m + sRA a b k m = oA a b k (m + 1) ∧ sLB a b k m + sRB a b k m = oB a b k (m + 1) := by
  unfold sLA sRA sLB sRB oA oB
  rw [Nat.add_mul, Nat.add_mul, Nat.one_mul, Nat.one_mul]
  split <;> constructor <;> omega
theorem s_det (a b k m : Nat) : (sRA a b k m : Int) * sLB a b k m - (sLA a b k m : Int) * sRB a b k m = 1 := by
  have h := cdet a b k
  unfold sLA sRA sLB sRB oA oB
  split
  · rename_i q
    rw [if_pos q] at h
    push_cast
    grind
  · rename_i q
    rw [if_neg q] at h
    push_cast
    grind
theorem rr_lastN {a b N : Nat} (h : CF a b N) : rr a b N (N - 1) = tm a b (N - 1) - 1 ∧ oA a b (N - 1) (rr a b N (N - 1) + 1) = a ∧ oB a b (N - 1) (rr a b N (N - 1) + 1) = b := by
  have e : rr a b N (N - 1) = tm a b (N - 1) - 1 := if_pos rfl
  have h1 := tm_last1 h
  obtain ⟨j, rfl⟩ : ∃ j, N = j + 1 := ⟨N - 1, by have := h.2.1; omega⟩
  rw [show j + 1 - 1 = j from rfl] at e h1 ⊢
  refine ⟨e, ?_, ?_⟩
  · have := cA_end h
    rw [show j + 1 + 1 = j + 2 from rfl, cA_rec] at this
    unfold oA
    rw [e, show tm a b j - 1 + 1 = tm a b j by omega]; omega
  · have := cB_end h
    rw [show j + 1 + 1 = j + 2 from rfl, cB_rec] at this
    unfold oB
    rw [e, show tm a b j - 1 + 1 = tm a b j by omega]; omega
theorem oA_mono {a b k m n : Nat} (h : m ≤ n) : oA a b k m ≤ oA a b k n ∧ oB a b k m ≤ oB a b k n := by
  unfold oA oB
  have h1 := Nat.mul_le_mul_right (cA a b (k + 1)) h
  have h2 := Nat.mul_le_mul_right (cB a b (k + 1)) h
  constructor <;> omega
/-- where the depth lies: the run, and the steps in it -/
def cutF (f : Nat → Nat) : Nat → Nat → Nat → Option (Nat × Nat)
  | 0, _, _ => none
  | n + 1, k, left => if left ≤ f k then some (k, left) else cutF f n (k + 1) (left - f k)
theorem cutF_some {f : Nat → Nat} : ∀ (n k left : Nat), 1 ≤ n → left ≤ sumN (fun i => f (k + i)) n → ∃ j m, cutF f n k left = some (j, m) ∧ k ≤ j ∧ j < k + n ∧ m ≤ f j := by
  intro n
  induction n with
  | zero => intro k left h; exact absurd h (by omega)
  | succ n ih =>
    intro k left _ h
    rw [cutF]
    by_cases q : left ≤ f k
    · exact ⟨k, left, if_pos q, by omega, by omega, q⟩
    · rw [if_neg q]
      rw [sumN_shift] at h
      have e : (fun i => f (k + (i + 1))) = (fun i => f (k + 1 + i)) := by
        funext i; rw [show k + (i + 1) = k + 1 + i by omega]
      simp only [Nat.add_zero] at h
      rw [e] at h
      have hn : 1 ≤ n := by
        cases n with
        | zero => exact absurd (show left ≤ f k by have : sumN (fun i => f (k + 1 + i)) 0 = 0 := rfl; omega) q
        | succ n => omega
      obtain ⟨j, m, h1, h2, h3, h4⟩ := ih (k + 1) (left - f k) hn (by omega)
      exact ⟨j, m, h1, by omega, by omega, h4⟩
theorem s7_st {f g : Nat → Int32} {v : Int32} {P Q : Int64} {p q : Int} (hv : isR v) (eP : P.toInt = p) (eQ : Q.toInt = q) (hP : 0 < p) (hQ : 0 < q) {post : Int32 → (Nat → Int32) → (Nat → Int32) → Prop} (h : post (stR p q) (stF f v p q p) (stF g v p q q)) : w7_store f g v P Q post := by
  subst eP; subst eQ; exact s7_store hv hP hQ h
theorem cutF_full {f : Nat → Nat} : ∀ (n k : Nat), (∀ j, k < j → j < k + n + 1 → 1 ≤ f j) → cutF f (n + 1) k (sumN (fun i => f (k + i)) (n + 1)) = some (k + n, f (k + n)) := by
  intro n
  induction n with
  | zero =>
    intro k _
    have e : sumN (fun i => f (k + i)) (0 + 1) = f k := by
      show 0 + f (k + 0) = f k
      rw [Nat.zero_add, Nat.add_zero]
    rw [e, cutF, if_pos (Nat.le_refl _)]; rfl
  | succ n ih =>
    intro k h
    have hsh : sumN (fun i => f (k + i)) (n + 1 + 1) = f k + sumN (fun i => f (k + 1 + i)) (n + 1) := by
      rw [sumN_shift]
      have e : (fun i => f (k + (i + 1))) = (fun i => f (k + 1 + i)) := by
        funext i; rw [show k + (i + 1) = k + 1 + i by omega]
      rw [e]; rfl
    have h1 := ih (k + 1) (fun j h2 h3 => h j (by omega) (by omega))
    have hpos : 1 ≤ sumN (fun i => f (k + 1 + i)) (n + 1) := by
      rw [sumN_shift]
      have := h (k + 1) (by omega) (by omega)
      simp only [Nat.add_zero]; omega
    rw [hsh, cutF, if_neg (by omega), Nat.add_sub_cancel_left, h1, show k + 1 + n = k + (n + 1) by omega]
theorem cut_dep {a b N : Nat} (h : CF a b N) : cutF (rr a b N) N 0 (dep a b N) = some (N - 1, rr a b N (N - 1)) := by
  obtain ⟨n, rfl⟩ : ∃ n, N = n + 1 := ⟨N - 1, by have := h.2.1; omega⟩
  have := cutF_full (f := rr a b (n + 1)) n 0 (fun j h1 h2 => rr_pos h h1 (by omega))
  simp only [Nat.zero_add] at this
  rw [show n + 1 - 1 = n from rfl]
  exact this
theorem l_zero {x : Int64} {p : Nat} (h : x.toInt = (p : Int)) : x = 0 ↔ p = 0 := by
  have l0 : (0 : Int64).toInt = 0 := rfl
  constructor
  · intro q; rw [q, l0] at h; omega
  · intro q; exact l_ext (by omega)
theorem tm_half {a b N : Nat} (h : CF a b N) {j : Nat} (hj : j + 1 < N) : tm a b j ≤ 500000 := by
  have h1 := rs_rec a b j
  have h2 := rs_le h j (by omega)
  have h3 := rs_lt h.1 (i := j) (by omega)
  have h4 := rs_pos h (k := j + 2) (by omega)
  have h5 := Nat.mul_le_mul_left (tm a b j) (show 2 ≤ rs a b (j + 1) by omega)
  omega
theorem rr_succ {a b N : Nat} (h : CF a b N) {j m : Nat} (hj : j < N) (hm : m ≤ rr a b N j) : m + 1 ≤ 1000000 := by
  by_cases q : j = N - 1
  · have e : rr a b N j = tm a b j - 1 := if_pos q
    have h1 := tm_last1 h
    have h2 := tm_le h hj
    rw [← q] at h1
    omega
  · have e : rr a b N j = tm a b j := if_neg q
    have := tm_half h (j := j) (by omega)
    omega
theorem oA_le {a b N : Nat} (h : CF a b N) {k m : Nat} (hk : k ≤ N) (hm : m ≤ 1000000) : oA a b k m ≤ 1000001000000 ∧ oB a b k m ≤ 1000001000000 := by
  have hA1 := cA_le h (k := k + 1) (by omega)
  have hB1 := cB_le h (k := k + 1) (by omega)
  have hA0 := cA_le h (k := k) (by omega)
  have hB0 := cB_le h (k := k) (by omega)
  have ha := h.2.2.2.2
  have pA := Nat.mul_le_mul hm (show cA a b (k + 1) ≤ 1000000 by omega)
  have pB := Nat.mul_le_mul hm (show cB a b (k + 1) ≤ 1000000 by omega)
  unfold oA oB
  constructor <;> omega
theorem s_pos (a b k m : Nat) : 1 ≤ sRA a b k m ∧ 1 ≤ sLB a b k m := by
  have h := s_det a b k m
  have c1 : ((sLA a b k m * sRB a b k m : Nat) : Int) = (sLA a b k m : Int) * (sRB a b k m : Int) := Int.natCast_mul _ _
  constructor
  · rcases Nat.eq_zero_or_pos (sRA a b k m) with z | z
    · rw [z] at h; simp only [Int.natCast_zero, Int.zero_mul] at h; omega
    · exact z
  · rcases Nat.eq_zero_or_pos (sLB a b k m) with z | z
    · rw [z] at h; simp only [Int.natCast_zero, Int.mul_zero] at h; omega
    · exact z
theorem oA_pos (a b k m : Nat) : 1 ≤ oA a b k (m + 1) ∧ 1 ≤ oB a b k (m + 1) := by
  obtain ⟨h1, h2⟩ := s_sum a b k m
  obtain ⟨h3, h4⟩ := s_pos a b k m
  omega
def cutT (a b j m i : Nat) : Nat := if i = j then m + 1 else tm a b i
theorem kk_cut {a b j m x y : Nat} {k : Nat} (hk : k ≤ j + 1) : kk2 (cutT a b j m) x y k = kk2 (tm a b) x y k := kk2_congr k (fun i hi => if_neg (by omega))
theorem kk_cut2 {a b j m : Nat} : kk2 (cutT a b j m) 0 1 (j + 2) = oA a b j (m + 1) ∧ kk2 (cutT a b j m) 1 0 (j + 2) = oB a b j (m + 1) := by
  have e : cutT a b j m j = m + 1 := if_pos rfl
  constructor
  · show cutT a b j m j * kk2 (cutT a b j m) 0 1 (j + 1) + kk2 (cutT a b j m) 0 1 j = _
    rw [kk_cut (Nat.le_refl _), kk_cut (by omega), e]
    unfold oA cA; omega
  · show cutT a b j m j * kk2 (cutT a b j m) 1 0 (j + 1) + kk2 (cutT a b j m) 1 0 j = _
    rw [kk_cut (Nat.le_refl _), kk_cut (by omega), e]
    unfold oB cB; omega
theorem s1_cutConv {a b N : Nat} (h : CF a b N) {f : Nat → Int32} (hf : IsT a b N f) {j m : Nat} (hj : j < N) (hm : m ≤ rr a b N j) {x : Int32} (hx : x.toInt = ((m + 1 : Nat) : Int)) {v : Int32} (hv : v.toInt = (j : Int)) : (∀ post : Int64 → Prop, (∀ r : Int64, r.toInt = (oA a b j (m + 1) : Int) → post r) → w1_convergentTop (Int32.ofNat (j + 1)) (upd f j x) v post) ∧ (∀ post : Int64 → Prop, (∀ r : Int64, r.toInt = (oB a b j (m + 1) : Int) → post r) → w1_convergentBottom (Int32.ofNat (j + 1)) (upd f j x) v post) := by
  have hN := h.2.2.1
  have hm1 := rr_succ h hj hm
  have ha := h.2.2.2.2
  have e1 : ∀ i, i < j + 1 → (upd f j x i).toInt = (cutT a b j m i : Int) := by
    intro i hi
    unfold cutT
    by_cases q : i = j
    · rw [if_pos q, q, upd_eq, hx]
    · rw [if_neg q, upd_ne f x q, hf i (by omega)]
  have e2 : ∀ i, i < j + 1 → cutT a b j m i ≤ 1000000 := by
    intro i hi
    unfold cutT
    split
    · exact hm1
    · exact tm_le h (by omega)
  obtain ⟨o1, o2⟩ := oA_le h (k := j) (by omega) hm1
  obtain ⟨k1, k2⟩ := kk_cut2 (a := a) (b := b) (j := j) (m := m)
  have l0 : (0 : Int64).toInt = ((0 : Nat) : Int) := rfl
  have l1 : (1 : Int64).toInt = ((1 : Nat) : Int) := rfl
  constructor
  · intro post hp
    unfold w1_convergentTop
    refine s1_last e1 e2 (last := j + 1) (by rw [hv]; omega) (Nat.le_refl _) (by omega) l0 l1 (fun k hk => ?_) (fun r hr => hp r (by rw [hr, k1]))
    by_cases q : k = j + 2
    · rw [q, k1]; omega
    · rw [kk_cut (by omega)]
      have := cA_le h (k := k) (by omega)
      unfold cA at this; omega
  · intro post hp
    unfold w1_convergentBottom
    refine s1_last e1 e2 (last := j + 1) (by rw [hv]; omega) (Nat.le_refl _) (by omega) l1 l0 (fun k hk => ?_) (fun r hr => hp r (by rw [hr, k2]))
    by_cases q : k = j + 2
    · rw [q, k2]; omega
    · rw [kk_cut (by omega)]
      have := cB_le h (k := k) (by omega)
      unfold cB at this; omega
theorem ct7_L {a b N : Nat} (h : CF a b N) {f : Nat → Int32} (hf : IsT a b N f) {post : Int32 → (Nat → Int32) → Prop} : ∀ (n k left : Nat) (v i : Int32), k + n = N → v.toInt = (left : Int) → i.toInt = (k : Int) → 1 ≤ n → left ≤ sumN (fun i => rr a b N (k + i)) n → (∀ j m x, cutF (rr a b N) n k left = some (j, m) → j < N → m ≤ rr a b N j → x.toInt = ((m + 1 : Nat) : Int) → post (Int32.ofNat (j + 1)) (upd f j x)) → w1_cutToDepth_L4 (Int32.ofNat N) f post (n + 1) v i := by
  have hN := h.2.2.1
  have l1 : (1 : Int32).toInt = 1 := rfl
  have hNi : (Int32.ofNat N).toInt = (N : Int) := n_toInt (by omega)
  intro n
  induction n with
  | zero => intro k left v i _ _ _ h1; exact absurd h1 (by omega)
  | succ n ih =>
    intro k left v i hk hv hi _ hsum hp
    have hsh : sumN (fun i => rr a b N (k + i)) (n + 1) = rr a b N k + sumN (fun i => rr a b N (k + 1 + i)) n := by
      rw [sumN_shift]
      have e : (fun i => rr a b N (k + (i + 1))) = (fun i => rr a b N (k + 1 + i)) := by
        funext i; rw [show k + (i + 1) = k + 1 + i by omega]
      rw [e]; rfl
    rw [hsh] at hsum
    have hvr := i_range v
    rw [w1_cutToDepth_L4]
    refine ⟨fun q => absurd (i_le.mp q) (by omega), fun _ => s1_runAt h hf hi (by omega) (fun r hr => ⟨fun q x ex j ej => ?_, fun q => ⟨vin (by omega) (by omega), fun s es => ?_⟩⟩)⟩
    · have q := i_lt.mp q
      have hn : 1 ≤ n := by
        cases n with
        | zero => exact absurd hsum (by have : sumN (fun i => rr a b N (k + 1 + i)) 0 = 0 := rfl; omega)
        | succ n => omega
      refine ih (k + 1) (left - rr a b N k) x j (by omega) (by rw [ex, i_sub (by omega) (by omega), hv, hr]; omega) (nxt hi (by omega) ej) hn (by omega) (fun j m x hc => hp j m x ?_)
      rw [cutF, if_neg (by omega)]; exact hc
    · have q : ¬ r.toInt < v.toInt := fun w => q (i_lt.mpr w)
      have e : s = Int32.ofNat (k + 1) := i_ext (by rw [nxt hi (by omega) es, n_toInt (by omega)])
      have hmk := rr_succ h (j := k) (m := left) (by omega) (by omega)
      rw [e, natc hi]
      refine hp k left _ ?_ (by omega) (by omega) ?_
      · rw [cutF, if_pos (by omega)]
      · rw [i_add (by omega) (by omega), hv, l1]; omega
theorem s1_cut {a b N : Nat} (h : CF a b N) {f : Nat → Int32} (hf : IsT a b N f) {v : Int32} {left : Nat} (hv : v.toInt = (left : Int)) (hl : left ≤ dep a b N) {post : Int32 → (Nat → Int32) → Prop} (hp : ∀ j m x, cutF (rr a b N) N 0 left = some (j, m) → j < N → m ≤ rr a b N j → x.toInt = ((m + 1 : Nat) : Int) → post (Int32.ofNat (j + 1)) (upd f j x)) : w1_cutToDepth (Int32.ofNat N) f v post := by
  have hN1 := h.2.1
  refine ⟨N + 1, ct7_L h hf N 0 left v 0 (by omega) hv rfl hN1 ?_ hp⟩
  simp only [Nat.zero_add]
  exact hl
theorem sz_of {j : Nat} (h : j < 64) : (Int32.ofNat (j + 1) - 1).toInt = (j : Int) := by
  rw [szm1 (by omega) (by omega)]; omega
/-- cut there, and store -/
theorem s7_cutStore {a b N : Nat} (h : CF a b N) {f : Nat → Int32} (hf : IsT a b N f) {j m : Nat} (hj : j < N) (hm : m ≤ rr a b N j) {x : Int32} (hx : x.toInt = ((m + 1 : Nat) : Int)) {t u : Nat → Int32} {v : Int32} (hv : isR v) {post : Int32 → (Nat → Int32) → (Nat → Int32) → Prop} (hp : post (stR (oA a b j (m + 1)) (oB a b j (m + 1))) (stF t v (oA a b j (m + 1)) (oB a b j (m + 1)) (oA a b j (m + 1))) (stF u v (oA a b j (m + 1)) (oB a b j (m + 1)) (oB a b j (m + 1)))) : w1_size (Int32.ofNat (j + 1)) (fun r51 => w7_storeConvergent t u (Int32.ofNat (j + 1)) (upd f j x) v (r51 - 1) post) := by
  have hN := h.2.2.1
  obtain ⟨c1, c2⟩ := s1_cutConv h hf hj hm hx (v := Int32.ofNat (j + 1) - 1) (sz_of (by omega))
  obtain ⟨p1, p2⟩ := oA_pos a b j m
  unfold w1_size w7_storeConvergent
  exact c1 _ (fun P hP => c2 _ (fun Q hQ => s7_st hv hP hQ (by omega) (by omega) hp))
/-- how deep two paths go together, from term k on -/
def com (f g : Nat → Nat) (n1 n2 : Nat) : Nat → Nat → Nat
  | 0, _ => 0
  | n + 1, k => if k < n1 ∧ k < n2 then (if f k = g k then f k + com f g n1 n2 n (k + 1) else min (f k) (g k)) else 0
theorem com_le {f g : Nat → Nat} {n1 n2 : Nat} : ∀ (n k : Nat), com f g n1 n2 n k ≤ sumN (fun i => f (k + i)) (n1 - k) ∧ com f g n1 n2 n k ≤ sumN (fun i => g (k + i)) (n2 - k) := by
  intro n
  induction n with
  | zero => intro k; exact ⟨Nat.zero_le _, Nat.zero_le _⟩
  | succ n ih =>
    intro k
    rw [com]
    by_cases q : k < n1 ∧ k < n2
    · rw [if_pos q]
      have e1 : ∀ f : Nat → Nat, ∀ n1, k < n1 → sumN (fun i => f (k + i)) (n1 - k) = f k + sumN (fun i => f (k + 1 + i)) (n1 - (k + 1)) := by
        intro f n1 hk
        rw [show n1 - k = (n1 - (k + 1)) + 1 by omega, sumN_shift]
        have e : (fun i => f (k + (i + 1))) = (fun i => f (k + 1 + i)) := by
          funext i; rw [show k + (i + 1) = k + 1 + i by omega]
        rw [e]; rfl
      rw [e1 f n1 q.1, e1 g n2 q.2]
      obtain ⟨i1, i2⟩ := ih (k + 1)
      split
      · constructor <;> omega
      · constructor <;> omega
    · rw [if_neg q]; exact ⟨Nat.zero_le _, Nat.zero_le _⟩
theorem com_cut {a b N c d M : Nat} (h : CF a b N) (h2 : CF c d M) : ∀ (n k : Nat), k < N → k < M → ∃ j m, cutF (rr a b N) (N - k) k (com (rr a b N) (rr c d M) N M n k) = some (j, m) ∧ cutF (rr c d M) (M - k) k (com (rr a b N) (rr c d M) N M n k) = some (j, m) ∧ j < N ∧ j < M ∧ m ≤ rr a b N j ∧ m ≤ rr c d M j ∧ ∀ i, k ≤ i → i < j → tm a b i = tm c d i := by
  intro n
  induction n with
  | zero =>
    intro k k1 k2
    refine ⟨k, 0, ?_, ?_, k1, k2, Nat.zero_le _, Nat.zero_le _, fun i h1 h2 => absurd h1 (by omega)⟩
    · rw [show N - k = N - k - 1 + 1 by omega, cutF]; exact if_pos (Nat.zero_le _)
    · rw [show M - k = M - k - 1 + 1 by omega, cutF]; exact if_pos (Nat.zero_le _)
  | succ n ih =>
    intro k k1 k2
    rw [com, if_pos ⟨k1, k2⟩, show N - k = N - (k + 1) + 1 by omega, cutF, show M - k = M - (k + 1) + 1 by omega, cutF]
    by_cases q : rr a b N k = rr c d M k
    · rw [if_pos q]
      by_cases w : com (rr a b N) (rr c d M) N M n (k + 1) = 0
      · rw [w]
        exact ⟨k, rr a b N k + 0, if_pos (by omega), if_pos (by omega), k1, k2, by omega, by omega, fun i h1 h2 => absurd h1 (by omega)⟩
      · have hk : k + 1 < N ∧ k + 1 < M := by
          cases n with
          | zero => exact absurd rfl w
          | succ n =>
            rw [com] at w
            by_cases y : k + 1 < N ∧ k + 1 < M
            · exact y
            · rw [if_neg y] at w; exact absurd rfl w
        obtain ⟨j, m, c1, c2, c3, c4, c5, c6, c7⟩ := ih (k + 1) hk.1 hk.2
        refine ⟨j, m, ?_, ?_, c3, c4, c5, c6, fun i g1 g2 => ?_⟩
        · rw [if_neg (by omega), Nat.add_sub_cancel_left]; exact c1
        · rw [if_neg (by omega), q, Nat.add_sub_cancel_left]; exact c2
        · by_cases y : i = k
          · have e1 : rr a b N k = tm a b k := if_neg (by omega)
            have e2 : rr c d M k = tm c d k := if_neg (by omega)
            rw [y, ← e1, ← e2, q]
          · exact c7 i (by omega) g2
    · rw [if_neg q]
      exact ⟨k, min (rr a b N k) (rr c d M k), if_pos (by omega), if_pos (by omega), k1, k2, by omega, by omega, fun i h1 h2 => absurd h1 (by omega)⟩
theorem cA_congr {a b c d j : Nat} (h : ∀ i, i < j → tm a b i = tm c d i) : ∀ k, k ≤ j + 1 → cA a b k = cA c d k ∧ cB a b k = cB c d k := fun k hk => ⟨kk2_congr k (fun i hi => h i (by omega)), kk2_congr k (fun i hi => h i (by omega))⟩
theorem oA_congr {a b c d j m : Nat} (h : ∀ i, i < j → tm a b i = tm c d i) : oA a b j m = oA c d j m ∧ oB a b j m = oB c d j m := by
  obtain ⟨h1, h2⟩ := cA_congr h j (by omega)
  obtain ⟨h3, h4⟩ := cA_congr h (j + 1) (by omega)
  unfold oA oB
  rw [h1, h2, h3, h4]; exact ⟨rfl, rfl⟩
theorem com_small {f g : Nat → Nat} {n1 n2 C : Nat} (h : ∀ i, i < n1 → f i ≤ C) (n k : Nat) (hk : k = 0) : com f g n1 n2 n k ≤ C * n1 := by
  have := (com_le (f := f) (g := g) (n1 := n1) (n2 := n2) n k).1
  subst hk
  simp only [Nat.zero_add, Nat.sub_zero] at this
  exact Nat.le_trans this (sumN_le h)
theorem cs7_L {a b N c d M : Nat} (h : CF a b N) (h2 : CF c d M) {f g : Nat → Int32} (hf : IsT a b N f) (hg : IsT c d M g) {post : Int32 → Prop} : ∀ (n k acc : Nat) (v i : Int32), k + n = N → v.toInt = (acc : Int) → i.toInt = (k : Int) → acc + com (rr a b N) (rr c d M) N M n k ≤ 1000000000 → (∀ r : Int32, r.toInt = ((acc + com (rr a b N) (rr c d M) N M n k : Nat) : Int) → post r) → w1_commonSteps_L4 (Int32.ofNat N) f (Int32.ofNat M) g post (n + 1) v i := by
  have hN := h.2.2.1
  have hM := h2.2.2.1
  have hNi : (Int32.ofNat N).toInt = (N : Int) := n_toInt (by omega)
  have hMi : (Int32.ofNat M).toInt = (M : Int) := n_toInt (by omega)
  intro n
  induction n with
  | zero =>
    intro k acc v i hk hv hi hb hp
    rw [w1_commonSteps_L4]
    exact ⟨fun _ => hp v (by rw [hv]; rfl), fun q => absurd (i_le.mpr (by omega)) q⟩
  | succ n ih =>
    intro k acc v i hk hv hi hb hp
    rw [w1_commonSteps_L4]
    rw [com] at hb hp
    refine ⟨fun q => absurd (i_le.mp q) (by omega), fun _ => ⟨fun q => hp v ?_, fun q => ?_⟩⟩
    · have q := i_le.mp q
      rw [if_neg (by omega), hv]; rfl
    have q : ¬ (Int32.ofNat M).toInt ≤ i.toInt := fun w => q (i_le.mpr w)
    rw [if_pos (by omega)] at hb hp
    refine s1_runAt h hf hi (by omega) (fun r hr => s1_runAt h2 hg hi (by omega) (fun s hs => ⟨fun w x ex => ⟨fun y j ej => ?_, fun y => ?_⟩, fun w x ex => ⟨fun y j ej => ?_, fun y => ?_⟩⟩))
    · have e : rr a b N k = rr c d M k := by have := congrArg Int32.toInt y; omega
      rw [if_pos e] at hb hp
      refine ih (k + 1) (acc + rr a b N k) x j (by omega) ?_ (nxt hi (by omega) ej) (by omega) (fun r hr => hp r (by rw [hr]; congr 1; omega))
      rw [ex, i_add (by omega) (by omega), hv, hs]; omega
    · have w := i_le.mp w
      have e : ¬ rr a b N k = rr c d M k := fun z => y (i_ext (by omega))
      rw [if_neg e] at hb hp
      refine hp x ?_
      rw [ex, i_add (by omega) (by omega), hv, hs]; omega
    · have w : ¬ s.toInt ≤ r.toInt := fun z => w (i_le.mpr z)
      have := congrArg Int32.toInt y
      omega
    · have w : ¬ s.toInt ≤ r.toInt := fun z => w (i_le.mpr z)
      have e : ¬ rr a b N k = rr c d M k := by omega
      rw [if_neg e] at hb hp
      refine hp x ?_
      rw [ex, i_add (by omega) (by omega), hv, hr]; omega

theorem nl_add {X Y : Int64} {x y : Nat} (hX : X.toInt = (x : Int)) (hY : Y.toInt = (y : Int)) (h : x + y ≤ 9223372036854775807) : (X + Y).toInt = ((x + y : Nat) : Int) := by
  rw [l_add (by omega) (by omega), hX, hY]; omega
theorem nl_sub {X Y : Int64} {x y : Nat} (hX : X.toInt = (x : Int)) (hY : Y.toInt = (y : Int)) (h : y ≤ x) : (X - Y).toInt = ((x - y : Nat) : Int) := by
  have := l_range X
  rw [l_sub (by omega) (by omega), hX, hY]; omega
theorem nl_mul {X Y : Int64} {x y : Nat} (hX : X.toInt = (x : Int)) (hY : Y.toInt = (y : Int)) (h : x * y ≤ 9223372036854775807) : (X * Y).toInt = ((x * y : Nat) : Int) := by
  have c : ((x * y : Nat) : Int) = (x : Int) * (y : Int) := Int.natCast_mul _ _
  rw [l_mul (by rw [hX, hY, ← c]; omega) (by rw [hX, hY, ← c]; omega), hX, hY, c]
theorem nl_div {X Y : Int64} {x y : Nat} (hX : X.toInt = (x : Int)) (hY : Y.toInt = (y : Int)) (h : 0 < y) : (X / Y).toInt = ((x / y : Nat) : Int) := by
  rw [l_div (by omega) (by omega), hX, hY, Int.natCast_ediv]
theorem nl_lt {X Y : Int64} {x y : Nat} (hX : X.toInt = (x : Int)) (hY : Y.toInt = (y : Int)) : X < Y ↔ x < y := by rw [l_lt, hX, hY]; omega
theorem nl_le {X Y : Int64} {x y : Nat} (hX : X.toInt = (x : Int)) (hY : Y.toInt = (y : Int)) : X ≤ Y ↔ x ≤ y := by rw [l_le, hX, hY]; omega
theorem nl_eq {X Y : Int64} {x y : Nat} (hX : X.toInt = (x : Int)) (hY : Y.toInt = (y : Int)) : X = Y ↔ x = y := by rw [l_eq, hX, hY]; omega
theorem mul_lt3 {a b k : Nat} (h : a < b) (hk : 0 < k) : a * k < b * k := by
  have e : (a + 1) * k ≤ b * k := Nat.mul_le_mul_right k h
  rw [Nat.add_mul, Nat.one_mul] at e; omega
theorem nb_cross {p q a b c d : Nat} (h1 : a * q < p * b) (h2 : p * d < c * q) : a * d < c * b := by
  rcases Nat.lt_or_ge (a * d) (c * b) with h | h
  · exact h
  · exfalso
    have hb : 0 < b := by
      rcases Nat.eq_zero_or_pos b with z | z
      · rw [z, Nat.mul_zero] at h1; omega
      · exact z
    have e1 := Nat.mul_le_mul_left q h
    have e2 := Nat.mul_le_mul_right d (Nat.le_of_lt h1)
    have e3 := mul_lt3 h2 hb
    have n1 : q * (c * b) = c * q * b := by ac_rfl
    have n2 : q * (a * d) = a * q * d := by ac_rfl
    have n3 : p * d * b = p * b * d := by ac_rfl
    omega
theorem cop_det {a b c d : Nat} (h : c * b = a * d + 1) : Nat.gcd a b = 1 ∧ Nat.gcd c d = 1 := by
  constructor
  · have g1 : Nat.gcd a b ∣ c * b := Nat.dvd_trans (Nat.gcd_dvd_right a b) (Nat.dvd_mul_left b c)
    have g2 : Nat.gcd a b ∣ a * d := Nat.dvd_trans (Nat.gcd_dvd_left a b) (Nat.dvd_mul_right a d)
    rw [h] at g1
    exact Nat.dvd_one.mp ((Nat.dvd_add_right g2).mp g1)
  · have g1 : Nat.gcd c d ∣ c * b := Nat.dvd_trans (Nat.gcd_dvd_left c d) (Nat.dvd_mul_right c b)
    have g2 : Nat.gcd c d ∣ a * d := Nat.dvd_trans (Nat.gcd_dvd_right c d) (Nat.dvd_mul_left d a)
    rw [h] at g1
    exact Nat.dvd_one.mp ((Nat.dvd_add_right g2).mp g1)
theorem cop_eq {a b c d : Nat} (h1 : Nat.gcd a b = 1) (h2 : Nat.gcd c d = 1) (h : a * d = c * b) (hb : 0 < b) : a = c ∧ b = d := by
  have k1 : Nat.Coprime b a := by rw [Nat.coprime_iff_gcd_eq_one, Nat.gcd_comm]; exact h1
  have k2 : Nat.Coprime d c := by rw [Nat.coprime_iff_gcd_eq_one, Nat.gcd_comm]; exact h2
  have d1 : b ∣ d := k1.dvd_of_dvd_mul_left (by rw [h]; exact Nat.dvd_mul_left b c)
  have d2 : d ∣ b := k2.dvd_of_dvd_mul_left (by rw [← h]; exact Nat.dvd_mul_left d a)
  have e : b = d := Nat.dvd_antisymm d1 d2
  subst e
  exact ⟨Nat.eq_of_mul_eq_mul_right hb h, rfl⟩
theorem q7_y {P Q : Int64} {post : Int64 → Prop} (hQ : 0 < Q.toInt) (hp : post (P / Q)) : w7_quotient P Q post := by
  have l0 : (0 : Int64).toInt = 0 := rfl
  unfold w7_quotient
  exact ⟨fun z => absurd (l_le.mp z) (by omega), fun _ => ⟨fun z => by rw [z, l0] at hQ; omega, hp⟩⟩
/-- m / n lies strictly between p / q and r / s, and what else lies there has no smaller parts -/
def SM (p q r s m n : Nat) : Prop := p * n < m * q ∧ m * s < r * n ∧ ∀ x y, p * y < x * q → x * s < r * y → m ≤ x ∧ n ≤ y
theorem sm_uniq {p q r s m n m2 n2 : Nat} (h : SM p q r s m n) (k : SM p q r s m2 n2) : m = m2 ∧ n = n2 := by
  have h1 := h.2.2 m2 n2 k.1 k.2.1
  have h2 := k.2.2 m n h.1 h.2.1
  omega
theorem sm_pos {p q r s m n : Nat} (h : SM p q r s m n) : 1 ≤ m ∧ 1 ≤ n := by
  obtain ⟨h1, h2, _⟩ := h
  constructor
  · rcases Nat.eq_zero_or_pos m with z | z
    · rw [z, Nat.zero_mul] at h1; omega
    · exact z
  · rcases Nat.eq_zero_or_pos n with z | z
    · rw [z, Nat.mul_zero] at h2; omega
    · exact z
theorem sm_le {p q r s m n : Nat} (hc : p * s < r * q) (h : SM p q r s m n) : m ≤ p + r ∧ n ≤ q + s := by
  refine h.2.2 (p + r) (q + s) ?_ ?_
  · rw [Nat.mul_add, Nat.add_mul]; omega
  · rw [Nat.mul_add, Nat.add_mul]; omega
theorem cross_l {p q a b c d : Nat} (h1 : a * q ≤ p * b) (h2 : p * d < c * q) (hb : 0 < b) : a * d < c * b := by
  rcases Nat.lt_or_ge (a * d) (c * b) with h | h
  · exact h
  · exfalso
    have e1 := Nat.mul_le_mul_left q h
    have e2 := Nat.mul_le_mul_right d h1
    have e3 := mul_lt3 h2 hb
    have n1 : q * (c * b) = c * q * b := by ac_rfl
    have n2 : q * (a * d) = a * q * d := by ac_rfl
    have n3 : p * d * b = p * b * d := by ac_rfl
    omega
theorem cross_r {p q a b c d : Nat} (h1 : a * q < p * b) (h2 : p * d ≤ c * q) (hc : 0 < c) : a * d < c * b := by
  have hb : 0 < b := by
    rcases Nat.eq_zero_or_pos b with z | z
    · rw [z, Nat.mul_zero] at h1; omega
    · exact z
  rcases Nat.lt_or_ge (a * d) (c * b) with h | h
  · exact h
  · exfalso
    rcases Nat.eq_zero_or_pos d with z | z
    · have := Nat.mul_le_mul (show 1 ≤ c from hc) (show 1 ≤ b from hb)
      rw [z, Nat.mul_zero] at h; omega
    have e1 := Nat.mul_le_mul_left q h
    have e2 := mul_lt3 h1 z
    have e3 := Nat.mul_le_mul_right b h2
    have n1 : q * (c * b) = c * q * b := by ac_rfl
    have n2 : q * (a * d) = a * q * d := by ac_rfl
    have n3 : p * d * b = p * b * d := by ac_rfl
    omega
theorem sb_min {p q r s A B C D x y : Nat} (h1 : A * q ≤ p * B) (h2 : r * D ≤ C * s) (h3 : C * B = A * D + 1) (hx : p * y < x * q) (hy : x * s < r * y) : A + C ≤ x ∧ B + D ≤ y := by
  have hB : 0 < B := by
    rcases Nat.eq_zero_or_pos B with z | z
    · rw [z, Nat.mul_zero] at h3; omega
    · exact z
  have hC : 0 < C := by
    rcases Nat.eq_zero_or_pos C with z | z
    · rw [z, Nat.zero_mul] at h3; omega
    · exact z
  have k1 := cross_l h1 hx hB
  have k2 := cross_r hy h2 hC
  obtain ⟨u, hu⟩ : ∃ u, C * y = x * D + u := ⟨C * y - x * D, by omega⟩
  obtain ⟨w, hw⟩ : ∃ w, x * B = A * y + w := ⟨x * B - A * y, by omega⟩
  have hu' : (C : Int) * y = x * D + u := by exact_mod_cast hu
  have hw' : (x : Int) * B = A * y + w := by exact_mod_cast hw
  have h3' : (C : Int) * B = A * D + 1 := by exact_mod_cast h3
  have eu : (u : Int) = C * y - x * D := by omega
  have ew : (w : Int) = x * B - A * y := by omega
  have ex : x = A * u + C * w := by
    have : (x : Int) = A * u + C * w := by rw [eu, ew]; grind
    exact_mod_cast this
  have ey : y = B * u + D * w := by
    have : (y : Int) = B * u + D * w := by rw [eu, ew]; grind
    exact_mod_cast this
  have hu1 : 1 ≤ u := by omega
  have hw1 : 1 ≤ w := by omega
  have m1 := Nat.mul_le_mul_left A hu1
  have m2 := Nat.mul_le_mul_left C hw1
  have m3 := Nat.mul_le_mul_left B hu1
  have m4 := Nat.mul_le_mul_left D hw1
  omega
/-- one term -/
theorem sm_step {w b d e g m n : Nat} (hb : 0 < b) (h : SM d g b e m n) : SM (w * b + e) b (w * d + g) d (w * m + n) m := by
  obtain ⟨h1, h2, h3⟩ := h
  have c1 : (w * b + e) * m = w * b * m + e * m := Nat.add_mul _ _ _
  have c2 : (w * m + n) * b = w * m * b + n * b := Nat.add_mul _ _ _
  have c3 : (w * m + n) * d = w * m * d + n * d := Nat.add_mul _ _ _
  have c4 : (w * d + g) * m = w * d * m + g * m := Nat.add_mul _ _ _
  have d1 : w * b * m = w * m * b := by ac_rfl
  have d2 : w * d * m = w * m * d := by ac_rfl
  have d3 := Nat.mul_comm e m
  have d4 := Nat.mul_comm n b
  have d5 := Nat.mul_comm g m
  have d6 := Nat.mul_comm n d
  refine ⟨by omega, by omega, fun x y hx hy => ?_⟩
  have f1 : (w * b + e) * y = w * y * b + e * y := by rw [Nat.add_mul, show w * b * y = w * y * b by ac_rfl]
  have f2 : (w * d + g) * y = w * y * d + g * y := by rw [Nat.add_mul, show w * d * y = w * y * d by ac_rfl]
  have hz : w * y < x := by
    rcases Nat.lt_or_ge (w * y) x with z | z
    · exact z
    · have := Nat.mul_le_mul_right b z; omega
  obtain ⟨z, rfl⟩ : ∃ z, x = w * y + z := ⟨x - w * y, by omega⟩
  have f7 : (w * y + z) * b = w * y * b + z * b := Nat.add_mul _ _ _
  have f8 : (w * y + z) * d = w * y * d + z * d := Nat.add_mul _ _ _
  have f3 := Nat.mul_comm e y
  have f4 := Nat.mul_comm z b
  have f5 := Nat.mul_comm g y
  have f6 := Nat.mul_comm z d
  obtain ⟨g1, g2⟩ := h3 y z (by omega) (by omega)
  exact ⟨Nat.add_le_add (Nat.mul_le_mul_left w g1) g2, g1⟩
theorem sm_last {w a b c d : Nat} (hb : 0 < b) (hw1 : w * b ≤ a) (hw2 : a < (w + 1) * b) (hc : (w + 1) * d < c) : SM a b c d (w + 1) 1 := by
  refine ⟨by omega, by omega, fun x y hx hy => ?_⟩
  have hy1 : 1 ≤ y := by
    rcases Nat.eq_zero_or_pos y with z | z
    · rw [z, Nat.mul_zero] at hy; omega
    · exact z
  refine ⟨?_, hy1⟩
  rcases Nat.lt_or_ge w x with z | z
  · exact z
  · exfalso
    have e1 := Nat.mul_le_mul_right b z
    have e2 := Nat.mul_le_mul_left a hy1
    omega
theorem kk2_mono {t : Nat → Nat} {N x y : Nat} (ht : ∀ i, 1 ≤ i → i < N → 1 ≤ t i) : ∀ n k, 2 ≤ k → k + n = N + 1 → kk2 t x y k ≤ kk2 t x y (N + 1) := by
  intro n
  induction n with
  | zero => intro k h1 h2; rw [show k = N + 1 by omega]; exact Nat.le_refl _
  | succ n ih =>
    intro k h1 h2
    refine Nat.le_trans ?_ (ih (k + 1) (by omega) (by omega))
    obtain ⟨j, rfl⟩ : ∃ j, k = j + 2 := ⟨k - 2, by omega⟩
    show kk2 t x y (j + 2) ≤ t (j + 1) * kk2 t x y (j + 2) + kk2 t x y (j + 1)
    have := Nat.mul_le_mul_right (kk2 t x y (j + 2)) (ht (j + 1) (by omega) (by omega))
    omega
theorem bs1_L {p q r s : Nat} {post : Int32 → (Nat → Int32) → Prop} (hp : ∀ (N : Nat) (f : Nat → Int32) (t : Nat → Nat), 1 ≤ N → N ≤ 60 → (∀ i, i < N → (f i).toInt = (t i : Int)) → (∀ i, 1 ≤ i → i < N → 1 ≤ t i) → (∀ i, i < N → t i ≤ 1000000) → SM p q r s (kk2 t 0 1 (N + 1)) (kk2 t 1 0 (N + 1)) → post (Int32.ofNat N) f) : ∀ (n k i j a b c d : Nat) (t : Nat → Nat) (X1 X2 X3 X4 : Int64) (v : Int32) (f : Nat → Int32), X1.toInt = (a : Int) → X2.toInt = (b : Int) → X3.toInt = (c : Int) → X4.toInt = (d : Int) → v.toInt = (k : Int) → k + n ≤ 50 → i + j ≤ n → b < 2 ^ i → (c ≤ (a / b + 1) * d → c - a / b * d < 2 ^ j) → 1 ≤ a → 1 ≤ b → a * d < c * b → a ≤ 1000000 → b ≤ 1000000 → c ≤ 1000000 → d ≤ 1000000 → (d = 0 → a + 1 ≤ 1000000) → (1 ≤ k → b ≤ a) → (∀ i, i < k → (f i).toInt = (t i : Int)) → (∀ i, 1 ≤ i → i < k → 1 ≤ t i) → (∀ i, i < k → t i ≤ 1000000) → (∀ m n, SM a b c d m n → SM p q r s (kk2 t 0 1 (k + 1) * m + kk2 t 0 1 k * n) (kk2 t 1 0 (k + 1) * m + kk2 t 1 0 k * n)) → w1_becomeSimplestBetween_L25 post (n + 1) X1 X2 X3 X4 v (Int32.ofNat k) f := by
  have o1 : (1 : Int64).toInt = ((1 : Nat) : Int) := rfl
  have l1 : (1 : Int32).toInt = 1 := rfl
  have l64 : (64 : Int32).toInt = 64 := rfl
  intro n
  induction n with
  | zero =>
    intro k i j a b c d t X1 X2 X3 X4 v f _ _ _ _ _ _ hij hb _ _ hb1
    obtain rfl : i = 0 := by omega
    exact absurd hb (by rw [Nat.pow_zero]; omega)
  | succ n ih =>
    intro k i j a b c d t X1 X2 X3 X4 v f e1 e2 e3 e4 hv hkn hij hb hj ha1 hb1 hcr ha hb2 hc hd hd0 hba hf ht1 ht2 hS
    have hi : 1 ≤ i := by
      rcases Nat.eq_zero_or_pos i with z | z
      · rw [z, Nat.pow_zero] at hb; omega
      · exact z
    rw [w1_becomeSimplestBetween_L25]
    refine ⟨fun z => absurd (i_le.mp z) (by omega), fun _ => q7_y (by omega) ?_⟩
    have tw : (X1 / X2).toInt = ((a / b : Nat) : Int) := nl_div e1 e2 hb1
    have dl := Nat.div_le_self a b
    have dm := Nat.div_mul_le_self a b
    have da := Nat.div_add_mod a b
    have dlt := Nat.mod_lt a (show b > 0 from hb1)
    have dc := Nat.mul_comm b (a / b)
    have d1 : (a / b + 1) * b = a / b * b + b := by rw [Nat.add_mul, Nat.one_mul]
    have d2 : (a / b + 1) * d = a / b * d + d := by rw [Nat.add_mul, Nat.one_mul]
    have hw1 : 1 ≤ k → 1 ≤ a / b := fun z => Nat.div_pos (hba z) hb1
    generalize a / b = w at *
    have bw := Nat.mul_le_mul (show w + 1 ≤ 1000001 by omega) hd
    have bw2 := Nat.mul_le_mul (show w ≤ 1000000 by omega) hd
    have t1 : ((X1 / X2 + 1) * X4).toInt = (((w + 1) * d : Nat) : Int) := nl_mul (nl_add tw o1 (by omega)) e4 (by omega)
    have hwi : ((X1 / X2).toInt32).toInt = (w : Int) := by rw [l_i (by omega) (by omega), tw]
    have hsz : (Int32.ofNat k).toInt = (k : Int) := n_toInt (by omega)
    have hcd : w * d < c := by
      rcases Nat.lt_or_ge (w * d) c with z | z
      · exact z
      · exfalso
        have m1 := Nat.mul_le_mul_right b z
        have m2 := Nat.mul_le_mul_right d dm
        have n1 : w * d * b = w * b * d := by ac_rfl
        omega
    refine ⟨fun z => ?_, fun z => ?_⟩
    · have z := (nl_le e3 t1).mp z
      have hd1 : 1 ≤ d := by omega
      obtain ⟨e, he⟩ : ∃ e, a = w * b + e := ⟨a - w * b, by omega⟩
      obtain ⟨g, hg⟩ : ∃ g, c = w * d + g := ⟨c - w * d, by omega⟩
      unfold w1_append
      refine ⟨fun y => absurd (i_le.mp y) (by omega), fun _ => ⟨vin (by omega) (by omega), fun s es Y eY Z eZ u eu => ?_⟩⟩
      rw [ofN_1] at es
      rw [es, natc hsz]
      have tY : Y.toInt = (e : Int) := by rw [eY, nl_sub e1 (nl_mul tw e2 (by omega)) (by omega)]; omega
      have tZ : Z.toInt = (g : Int) := by rw [eZ, nl_sub e3 (nl_mul tw e4 (by omega)) (by omega)]; omega
      have hj := hj z
      have h2 : 2 ^ i = 2 * 2 ^ (i - 1) := by
        obtain ⟨i', rfl⟩ : ∃ i', i = i' + 1 := ⟨i - 1, by omega⟩
        rw [Nat.pow_succ, show i' + 1 - 1 = i' from rfl, Nat.mul_comm]
      have hg1 : 1 ≤ g := by omega
      have hw' : 1 ≤ d / g := Nat.div_pos (by omega) hg1
      refine ih (k + 1) j (i - 1) d g b e (fun x => if x = k then w else t x) X4 Z X2 Y u _ e4 tZ e2 tY (nxt hv (by omega) eu) (by omega) (by omega) (by omega) ?_ hd1 hg1 ?_ hd (by omega) hb2 (by omega) ?_ (fun _ => by omega) ?_ ?_ ?_ ?_
      · intro y
        have m1 := Nat.mul_le_mul_right e hw'
        have y' : (d / g + 1) * e = d / g * e + e := by rw [Nat.add_mul, Nat.one_mul]
        omega
      · rw [he, hg, Nat.add_mul, Nat.add_mul, show w * b * d = w * d * b by ac_rfl] at hcr
        have n1 := Nat.mul_comm d e
        have n2 := Nat.mul_comm b g
        omega
      · intro y
        have hwp : 1 ≤ w := by
          rcases Nat.eq_zero_or_pos w with x | x
          · rw [x, Nat.zero_mul] at he; omega
          · exact x
        have := Nat.mul_le_mul_right d hwp
        omega
      · intro x hx
        by_cases q1 : x = k
        · rw [q1, upd_eq, if_pos rfl]; exact hwi
        · rw [upd_ne _ _ q1, if_neg q1]; exact hf x (by omega)
      · intro x hx1 hx
        by_cases q1 : x = k
        · rw [if_pos q1]; exact hw1 (by omega)
        · rw [if_neg q1]; exact ht1 x hx1 (by omega)
      · intro x hx
        by_cases q1 : x = k
        · rw [if_pos q1]; omega
        · rw [if_neg q1]; exact ht2 x (by omega)
      · intro m n hmn
        have h5 := hS (w * m + n) m (by rw [he, hg]; exact sm_step hb1 hmn)
        have c0 : ∀ x y, kk2 (fun x => if x = k then w else t x) x y (k + 1) = kk2 t x y (k + 1) := fun x y => kk2_congr (k + 1) (fun i hi => if_neg (by omega))
        have c1 : ∀ x y, kk2 (fun x => if x = k then w else t x) x y (k + 1 + 1) = w * kk2 t x y (k + 1) + kk2 t x y k := fun x y => by
          show (if k = k then w else t k) * kk2 (fun x => if x = k then w else t x) x y (k + 1) + kk2 (fun x => if x = k then w else t x) x y k = _
          rw [if_pos rfl, c0, kk2_congr k (fun i hi => if_neg (by omega))]
        rw [c0, c0, c1, c1]
        have q1 : ∀ A B : Nat, (w * A + B) * m + A * n = A * (w * m + n) + B * m := fun A B => by
          rw [Nat.add_mul, Nat.mul_add, show w * A * m = A * (w * m) by ac_rfl]; omega
        rw [q1, q1]
        exact h5
    · have z : (w + 1) * d < c := by
        have : ¬ c ≤ (w + 1) * d := fun y => z ((nl_le e3 t1).mpr y)
        omega
      have hwl : w + 1 ≤ 1000000 := by
        rcases Nat.eq_zero_or_pos d with y | y
        · have := hd0 y; omega
        · have := Nat.mul_le_mul_left (w + 1) (show 1 ≤ d from y)
          omega
      unfold w1_append
      refine ⟨fun y => absurd (i_le.mp y) (by omega), fun _ => ⟨vin (by omega) (by omega), fun s es => ?_⟩⟩
      rw [ofN_1] at es
      rw [es, natc hsz]
      refine hp (k + 1) _ (fun x => if x = k then w + 1 else t x) (by omega) (by omega) ?_ ?_ ?_ ?_
      · intro x hx
        by_cases q1 : x = k
        · rw [q1, upd_eq, if_pos rfl, i_add (by omega) (by omega), hwi, l1]; push_cast; rfl
        · rw [upd_ne _ _ q1, if_neg q1]; exact hf x (by omega)
      · intro x hx1 hx
        by_cases q1 : x = k
        · rw [if_pos q1]; omega
        · rw [if_neg q1]; exact ht1 x hx1 (by omega)
      · intro x hx
        by_cases q1 : x = k
        · rw [if_pos q1]; exact hwl
        · rw [if_neg q1]; exact ht2 x (by omega)
      · have h5 := hS (w + 1) 1 (sm_last hb1 dm (by omega) z)
        have c0 : ∀ x y, kk2 (fun x => if x = k then w + 1 else t x) x y (k + 1) = kk2 t x y (k + 1) := fun x y => kk2_congr (k + 1) (fun i hi => if_neg (by omega))
        have c1 : ∀ x y, kk2 (fun x => if x = k then w + 1 else t x) x y (k + 1 + 1) = kk2 t x y (k + 1) * (w + 1) + kk2 t x y k * 1 := fun x y => by
          show (if k = k then w + 1 else t k) * kk2 (fun x => if x = k then w + 1 else t x) x y (k + 1) + kk2 (fun x => if x = k then w + 1 else t x) x y k = _
          rw [if_pos rfl, c0, kk2_congr k (fun i hi => if_neg (by omega)), Nat.mul_one, Nat.mul_comm]
        rw [c1, c1]
        exact h5
theorem s1_simplest {p q r s : Nat} (hp1 : 1 ≤ p) (hq1 : 1 ≤ q) (hs1 : 1 ≤ s) (hp2 : p ≤ 1000000) (hq2 : q ≤ 1000000) (hr2 : r ≤ 1000000) (hs2 : s ≤ 1000000) (hc : p * s < r * q) {sz : Int32} {f : Nat → Int32} {x1 x2 x3 x4 : Int32} (e1 : x1.toInt = (p : Int)) (e2 : x2.toInt = (q : Int)) (e3 : x3.toInt = (r : Int)) (e4 : x4.toInt = (s : Int)) {post : Int32 → (Nat → Int32) → Prop} (hp : ∀ (N : Nat) (f : Nat → Int32) (t : Nat → Nat), 1 ≤ N → N ≤ 60 → (∀ i, i < N → (f i).toInt = (t i : Int)) → (∀ i, 1 ≤ i → i < N → 1 ≤ t i) → (∀ i, i < N → t i ≤ 1000000) → SM p q r s (kk2 t 0 1 (N + 1)) (kk2 t 1 0 (N + 1)) → post (Int32.ofNat N) f) : w1_becomeSimplestBetween sz f x1 x2 x3 x4 post := by
  unfold w1_becomeSimplestBetween
  intro X1 E1 X2 E2 X3 E3 X4 E4
  refine ⟨40 + 1, bs1_L hp 40 0 20 20 p q r s (fun _ => 0) X1 X2 X3 X4 0 f (by rw [E1, t64, e1]) (by rw [E2, t64, e2]) (by rw [E3, t64, e3]) (by rw [E4, t64, e4]) rfl (by omega) (by omega) (by omega) (fun z => ?_) hp1 hq1 hc hp2 hq2 hr2 hs2 (fun z => by omega) (fun z => by omega) (fun i hi => absurd hi (by omega)) (fun i _ hi => absurd hi (by omega)) (fun i hi => absurd hi (by omega)) (fun m n hmn => ?_)⟩
  · rw [Nat.add_mul, Nat.one_mul] at z
    show r - p / q * s < 1048576
    omega
  · show SM p q r s (1 * m + 0 * n) (0 * m + 1 * n)
    rw [Nat.one_mul, Nat.zero_mul, Nat.zero_mul, Nat.one_mul, Nat.add_zero, Nat.zero_add]
    exact hmn
theorem s7_conv {N : Nat} {f : Nat → Int32} {t : Nat → Nat} (hN1 : 1 ≤ N) (hN : N ≤ 60) (hf : ∀ i, i < N → (f i).toInt = (t i : Int)) (ht1 : ∀ i, 1 ≤ i → i < N → 1 ≤ t i) (ht2 : ∀ i, i < N → t i ≤ 1000000) {m n : Nat} (hm : kk2 t 0 1 (N + 1) = m) (hn : kk2 t 1 0 (N + 1) = n) (hm1 : 1 ≤ m) (hn1 : 1 ≤ n) (hm2 : m ≤ 2000000000000) (hn2 : n ≤ 2000000000000) {tp bo : Nat → Int32} {v : Int32} (hv : isR v) {post : Int32 → (Nat → Int32) → (Nat → Int32) → Prop} (hp : post (stR m n) (stF tp v m n m) (stF bo v m n n)) : w7_storeConvergent tp bo (Int32.ofNat N) f v (Int32.ofNat N - 1) post := by
  have e1 : (Int32.ofNat N - 1).toInt = (N : Int) - 1 := szm1 hN1 (by omega)
  have l0 : (0 : Int64).toInt = ((0 : Nat) : Int) := rfl
  have l1 : (1 : Int64).toInt = ((1 : Nat) : Int) := rfl
  have hb : ∀ x y, x ≤ 1 → y ≤ 1 → kk2 t x y (N + 1) ≤ 2000000000000 → ∀ k, k ≤ N + 1 → kk2 t x y k ≤ 2000000000000 := by
    intro x y hx hy hl k hk
    rcases Nat.lt_or_ge k 2 with z | z
    · rcases (show k = 0 ∨ k = 1 by omega) with w | w
      · rw [w]; show x ≤ _; omega
      · rw [w]; show y ≤ _; omega
    · exact Nat.le_trans (kk2_mono ht1 (N + 1 - k) k z (by omega)) hl
  unfold w7_storeConvergent w1_convergentTop w1_convergentBottom
  refine s1_last hf ht2 e1 (Nat.le_refl _) (by omega) l0 l1 (hb 0 1 (by omega) (by omega) (by omega)) (fun P hP => s1_last hf ht2 e1 (Nat.le_refl _) (by omega) l1 l0 (hb 1 0 (by omega) (by omega) (by omega)) (fun Q hQ => ?_))
  rw [hm] at hP
  rw [hn] at hQ
  exact s7_st hv hP hQ (by omega) (by omega) hp
