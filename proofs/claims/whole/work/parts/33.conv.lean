/-! convergents -/
/-- the rule that makes each numerator and denominator out of the two before it -/
def kk2 (t : Nat → Nat) (x y : Nat) : Nat → Nat
  | 0 => x
  | 1 => y
  | n + 2 => t n * kk2 t x y (n + 1) + kk2 t x y n
theorem kk2_congr {t u : Nat → Nat} {x y : Nat} : ∀ n, (∀ i, i + 1 < n → t i = u i) → kk2 t x y n = kk2 u x y n
  | 0, _ => rfl
  | 1, _ => rfl
  | n + 2, h => by
    show t n * kk2 t x y (n + 1) + kk2 t x y n = u n * kk2 u x y (n + 1) + kk2 u x y n
    rw [h n (by omega), kk2_congr (n + 1) (fun i hi => h i (by omega)), kk2_congr n (fun i hi => h i (by omega))]
/-- numerators and denominators, of k terms at place k + 1 -/
def cA (a b k : Nat) : Nat := kk2 (tm a b) 0 1 k
def cB (a b k : Nat) : Nat := kk2 (tm a b) 1 0 k
theorem cA_rec (a b k : Nat) : cA a b (k + 2) = tm a b k * cA a b (k + 1) + cA a b k := rfl
theorem cB_rec (a b k : Nat) : cB a b (k + 2) = tm a b k * cB a b (k + 1) + cB a b k := rfl
theorem cA_rs (a b : Nat) : ∀ k, a = cA a b (k + 1) * rs a b k + cA a b k * rs a b (k + 1)
  | 0 => by show a = 1 * a + 0 * b; omega
  | k + 1 => by
    have h := cA_rs a b k
    show a = cA a b (k + 2) * rs a b (k + 1) + cA a b (k + 1) * rs a b (k + 2)
    rw [cA_rec]
    have e := rs_rec a b k
    have e2 : cA a b (k + 1) * rs a b k = cA a b (k + 1) * (tm a b k * rs a b (k + 1)) + cA a b (k + 1) * rs a b (k + 2) := by
      rw [← Nat.mul_add, ← e]
    have e3 : (tm a b k * cA a b (k + 1) + cA a b k) * rs a b (k + 1) = cA a b (k + 1) * (tm a b k * rs a b (k + 1)) + cA a b k * rs a b (k + 1) := by
      rw [Nat.add_mul, Nat.mul_comm (tm a b k), Nat.mul_assoc]
    rw [e3]
    omega
theorem cB_rs (a b : Nat) : ∀ k, b = cB a b (k + 1) * rs a b k + cB a b k * rs a b (k + 1)
  | 0 => by show b = 0 * a + 1 * b; omega
  | k + 1 => by
    have h := cB_rs a b k
    show b = cB a b (k + 2) * rs a b (k + 1) + cB a b (k + 1) * rs a b (k + 2)
    rw [cB_rec]
    have e := rs_rec a b k
    have e2 : cB a b (k + 1) * rs a b k = cB a b (k + 1) * (tm a b k * rs a b (k + 1)) + cB a b (k + 1) * rs a b (k + 2) := by
      rw [← Nat.mul_add, ← e]
    have e3 : (tm a b k * cB a b (k + 1) + cB a b k) * rs a b (k + 1) = cB a b (k + 1) * (tm a b k * rs a b (k + 1)) + cB a b k * rs a b (k + 1) := by
      rw [Nat.add_mul, Nat.mul_comm (tm a b k), Nat.mul_assoc]
    rw [e3]
    omega
theorem rs_pos {a b N : Nat} (h : CF a b N) : ∀ {k}, k ≤ N → 1 ≤ rs a b k
  | 0, _ => h.2.2.2.2.1
  | k + 1, hk => h.1.1 k (by omega)
theorem cA_le {a b N : Nat} (h : CF a b N) {k : Nat} (hk : k ≤ N + 1) : cA a b k ≤ a := by
  cases k with
  | zero => exact Nat.zero_le _
  | succ k =>
    have e := cA_rs a b k
    have hp := rs_pos h (k := k) (by omega)
    have : cA a b (k + 1) * 1 ≤ cA a b (k + 1) * rs a b k := Nat.mul_le_mul_left _ hp
    omega
theorem cB_le {a b N : Nat} (h : CF a b N) {k : Nat} (hk : k ≤ N + 1) : cB a b k ≤ b := by
  cases k with
  | zero => exact h.2.2.2.2.2.2.1
  | succ k =>
    have e := cB_rs a b k
    have hp := rs_pos h (k := k) (by omega)
    have : cB a b (k + 1) * 1 ≤ cB a b (k + 1) * rs a b k := Nat.mul_le_mul_left _ hp
    omega
theorem cA_end {a b N : Nat} (h : CF a b N) : cA a b (N + 1) = a := by
  have e := cA_rs a b N
  rw [h.1.2, h.2.2.2.1] at e; omega
theorem cB_end {a b N : Nat} (h : CF a b N) : cB a b (N + 1) = b := by
  have e := cB_rs a b N
  rw [h.1.2, h.2.2.2.1] at e; omega
/-- the determinant of neighbours -/
theorem cdet (a b : Nat) : ∀ k, (cA a b (k + 1) : Int) * cB a b k - (cA a b k : Int) * cB a b (k + 1) = if k % 2 = 0 then 1 else -1
  | 0 => rfl
  | k + 1 => by
    have h := cdet a b k
    rw [cA_rec, cB_rec]
    have e : ((tm a b k * cA a b (k + 1) + cA a b k : Nat) : Int) * (cB a b (k + 1) : Int) - (cA a b (k + 1) : Int) * ((tm a b k * cB a b (k + 1) + cB a b k : Nat) : Int) = -((cA a b (k + 1) : Int) * cB a b k - (cA a b k : Int) * cB a b (k + 1)) := by
      push_cast
      grind
    rw [e, h]
    by_cases q : k % 2 = 0
    · rw [if_pos q, if_neg (by omega)]
    · rw [if_neg q, if_pos (by omega)]; rfl
theorem cA_pos {a b N : Nat} (h : CF a b N) : ∀ {k}, 2 ≤ k → k ≤ N + 1 → (1 ≤ cA a b (k + 1 - 1) ∨ k = 2) ∧ 1 ≤ cB a b k
  | 0, h1, _ => absurd h1 (by omega)
  | 1, h1, _ => absurd h1 (by omega)
  | 2, _, _ => ⟨Or.inr rfl, by show 1 ≤ tm a b 0 * 0 + 1; omega⟩
  | 3, _, hk => by
    refine ⟨Or.inl ?_, ?_⟩
    · show 1 ≤ tm a b 1 * cA a b 2 + 1; omega
    · have := tm_pos h (i := 1) (by omega) (by omega)
      have h2 : cB a b 2 = 1 := by show tm a b 0 * 0 + 1 = 1; omega
      show 1 ≤ tm a b 1 * cB a b 2 + 0
      rw [h2]; omega
  | k + 4, _, hk => by
    obtain ⟨h1, h2⟩ := cA_pos h (k := k + 3) (by omega) (by omega)
    have ht := tm_pos h (i := k + 2) (by omega) (by omega)
    rcases h1 with h1 | h1
    · refine ⟨Or.inl ?_, ?_⟩
      · show 1 ≤ tm a b (k + 2) * cA a b (k + 3) + cA a b (k + 2)
        have h1' : 1 ≤ cA a b (k + 3) := h1
        have := Nat.mul_le_mul ht h1'
        omega
      · show 1 ≤ tm a b (k + 2) * cB a b (k + 3) + cB a b (k + 2)
        have := Nat.mul_le_mul ht h2
        omega
    · omega
theorem lbr_L {N : Nat} {f : Nat → Int32} {t : Nat → Nat} (hf : ∀ i, i < N → (f i).toInt = (t i : Int)) (ht : ∀ i, i < N → t i ≤ 1000000) {v : Int32} {last : Nat} (hv : v.toInt = (last : Int) - 1) (hl : last ≤ N) (hN : N ≤ 64) {x y : Nat} (hb : ∀ k, k ≤ last + 1 → kk2 t x y k ≤ 2000000000000) {post : Int64 → Prop} (hp : ∀ r : Int64, r.toInt = (kk2 t x y (last + 1) : Int) → post r) : ∀ (n k : Nat) (X Y : Int64) (i : Int32), k + n = last → X.toInt = (kk2 t x y k : Int) → Y.toInt = (kk2 t x y (k + 1) : Int) → i.toInt = (k : Int) → w1_lastByRule_L17 (Int32.ofNat N) f v post (n + 1) X Y i := by
  have hNi : (Int32.ofNat N).toInt = (N : Int) := n_toInt (by omega)
  intro n
  induction n with
  | zero =>
    intro k X Y i hk hX hY hi
    obtain rfl : k = last := by omega
    rw [w1_lastByRule_L17]
    exact ⟨fun _ => hp Y hY, fun z => absurd (i_lt.mpr (by omega)) z⟩
  | succ n ih =>
    intro k X Y i hk hX hY hi
    rw [w1_lastByRule_L17]
    refine ⟨fun z => absurd (i_lt.mp z) (by omega), fun _ => ⟨fun z => absurd (i_le.mp z) (by omega), fun _ => ⟨vin (by omega) (by omega), fun Z eZ j ej => ih (k + 1) Y Z j (by omega) hY ?_ (nxt hi (by omega) ej)⟩⟩⟩
    rw [natc hi] at eZ
    have h1 := hb (k + 1) (by omega)
    have h2 := hb (k + 2) (by omega)
    have h3 := hb k (by omega)
    have hrec : kk2 t x y (k + 2) = t k * kk2 t x y (k + 1) + kk2 t x y k := rfl
    have hft := hf k (by omega)
    have hc : ((t k * kk2 t x y (k + 1) : Nat) : Int) = (t k : Int) * (kk2 t x y (k + 1) : Int) := Int.natCast_mul _ _
    have e1 : ((f k).toInt64 * Y).toInt = ((t k * kk2 t x y (k + 1) : Nat) : Int) := by rw [l_mul (by rw [t64, hft, hY, ← hc]; omega) (by rw [t64, hft, hY, ← hc]; omega), t64, hft, hY, hc]
    rw [eZ, l_add (by rw [e1, hX]; omega) (by rw [e1, hX]; omega), e1, hX, hrec]; omega
theorem s1_last {N : Nat} {f : Nat → Int32} {t : Nat → Nat} (hf : ∀ i, i < N → (f i).toInt = (t i : Int)) (ht : ∀ i, i < N → t i ≤ 1000000) {v : Int32} {last : Nat} (hv : v.toInt = (last : Int) - 1) (hl : last ≤ N) (hN : N ≤ 64) {x y : Nat} {X Y : Int64} (hX : X.toInt = (x : Int)) (hY : Y.toInt = (y : Int)) (hb : ∀ k, k ≤ last + 1 → kk2 t x y k ≤ 2000000000000) {post : Int64 → Prop} (hp : ∀ r : Int64, r.toInt = (kk2 t x y (last + 1) : Int) → post r) : w1_lastByRule (Int32.ofNat N) f v X Y post := by
  unfold w1_lastByRule
  have lm : (-1 : Int32).toInt = -1 := rfl
  exact ⟨fun _ => ⟨_, lbr_L hf ht hv hl hN hb hp last 0 X Y 0 (by omega) hX hY rfl⟩, fun z => absurd (i_le.mpr (by omega)) z⟩
/-- a convergent, with place v = k - 1 -/
theorem s1_top {a b N : Nat} (h : CF a b N) {f : Nat → Int32} (hf : IsT a b N f) {v : Int32} {k : Nat} (hv : v.toInt = (k : Int) - 1) (hk : k ≤ N) {post : Int64 → Prop} (hp : ∀ r : Int64, r.toInt = (cA a b (k + 1) : Int) → post r) : w1_convergentTop (Int32.ofNat N) f v post := by
  have hN := h.2.2.1
  unfold w1_convergentTop
  exact s1_last hf (fun i hi => tm_le h hi) hv hk (by omega) (x := 0) (y := 1) rfl rfl (fun q hq => by have h1 := cA_le h (k := q) (by omega); have h2 := h.2.2.2.2.2.1; show cA a b q ≤ 2000000000000; omega) hp
theorem s1_bottom {a b N : Nat} (h : CF a b N) {f : Nat → Int32} (hf : IsT a b N f) {v : Int32} {k : Nat} (hv : v.toInt = (k : Int) - 1) (hk : k ≤ N) {post : Int64 → Prop} (hp : ∀ r : Int64, r.toInt = (cB a b (k + 1) : Int) → post r) : w1_convergentBottom (Int32.ofNat N) f v post := by
  have hN := h.2.2.1
  unfold w1_convergentBottom
  exact s1_last hf (fun i hi => tm_le h hi) hv hk (by omega) (x := 1) (y := 0) rfl rfl (fun q hq => by have h1 := cB_le h (k := q) (by omega); have h2 := h.2.2.2.2.2.2.2; show cB a b q ≤ 2000000000000; omega) hp
/-- for -2 the rule answers its first number -/
theorem s1_top2 {N : Nat} {f : Nat → Int32} {v : Int32} (hv : v.toInt = -2) {post : Int64 → Prop} (hp : ∀ r : Int64, r.toInt = 0 → post r) : w1_convergentTop (Int32.ofNat N) f v post := by
  unfold w1_convergentTop w1_lastByRule
  have lm : (-1 : Int32).toInt = -1 := rfl
  exact ⟨fun z => absurd (i_le.mp z) (by omega), fun _ => hp 0 rfl⟩
theorem s1_bottom2 {N : Nat} {f : Nat → Int32} {v : Int32} (hv : v.toInt = -2) {post : Int64 → Prop} (hp : ∀ r : Int64, r.toInt = 1 → post r) : w1_convergentBottom (Int32.ofNat N) f v post := by
  unfold w1_convergentBottom w1_lastByRule
  have lm : (-1 : Int32).toInt = -1 := rfl
  exact ⟨fun z => absurd (i_le.mp z) (by omega), fun _ => hp 1 rfl⟩
