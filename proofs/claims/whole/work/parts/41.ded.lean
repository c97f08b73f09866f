/-! sums of integers -/
def sI (f : Nat → Int) : Nat → Int
  | 0 => 0
  | n + 1 => sI f n + f n
theorem sI_congr {f g : Nat → Int} : ∀ {n : Nat}, (∀ i, i < n → f i = g i) → sI f n = sI g n
  | 0, _ => rfl
  | n + 1, h => by
    show sI f n + f n = sI g n + g n
    rw [sI_congr (fun i hi => h i (by omega)), h n (by omega)]
theorem sI_add (f g : Nat → Int) : ∀ n, sI (fun i => f i + g i) n = sI f n + sI g n
  | 0 => rfl
  | n + 1 => by
    show sI (fun i => f i + g i) n + (f n + g n) = (sI f n + f n) + (sI g n + g n)
    rw [sI_add f g n]; omega
theorem sI_mul (c : Int) (f : Nat → Int) : ∀ n, sI (fun i => c * f i) n = c * sI f n
  | 0 => (Int.mul_zero c).symm
  | n + 1 => by
    show sI (fun i => c * f i) n + c * f n = c * (sI f n + f n)
    rw [sI_mul c f n, Int.mul_add]
theorem sI_zero : ∀ n, sI (fun _ => 0) n = 0
  | 0 => rfl
  | n + 1 => by show sI (fun _ => 0) n + 0 = 0; rw [sI_zero n]; rfl
theorem sI_const (c : Int) : ∀ n : Nat, sI (fun _ => c) n = c * n
  | 0 => (Int.mul_zero c).symm
  | n + 1 => by show sI (fun _ => c) n + c = c * ((n + 1 : Nat) : Int); rw [sI_const c n]; push_cast; grind
theorem sI_shift (f : Nat → Int) : ∀ n, sI f (n + 1) = f 0 + sI (fun i => f (i + 1)) n
  | 0 => by show 0 + f 0 = f 0 + 0; omega
  | n + 1 => by
    show sI f (n + 1) + f (n + 1) = f 0 + (sI (fun i => f (i + 1)) n + f (n + 1))
    rw [sI_shift f n]; omega
theorem sI_swap (f : Nat → Nat → Int) (n : Nat) : ∀ m, sI (fun i => sI (fun j => f i j) n) m = sI (fun j => sI (fun i => f i j) m) n
  | 0 => by show (0 : Int) = sI (fun _ => 0) n; rw [sI_zero]
  | m + 1 => by
    show sI (fun i => sI (fun j => f i j) n) m + sI (fun j => f m j) n = sI (fun j => sI (fun i => f i j) m + f m j) n
    rw [sI_swap f n m, sI_add]
theorem sI_pick (f : Nat → Int) (m : Nat) : ∀ n, sI (fun j => if m = j then f j else 0) n = if m < n then f m else 0
  | 0 => by rw [if_neg (Nat.not_lt_zero m)]; rfl
  | n + 1 => by
    show sI (fun j => if m = j then f j else 0) n + (if m = n then f n else 0) = _
    rw [sI_pick f m n]
    by_cases q : m = n
    · subst q; rw [if_neg (Nat.lt_irrefl m), if_pos rfl, if_pos (by omega)]; omega
    · rw [if_neg q]
      by_cases w : m < n
      · rw [if_pos w, if_pos (by omega)]; omega
      · rw [if_neg w, if_neg (by omega)]; omega
theorem inv_mod {h u k v i : Nat} (e : h * u = 1 + k * v) (hi : i < k) : (i * h % k) * u % k = i := by
  rw [Nat.mul_mod, Nat.mod_mod, ← Nat.mul_mod, Nat.mul_assoc, e, Nat.mul_add, Nat.mul_one, show i * (k * v) = k * (i * v) by ac_rfl, Nat.add_mul_mod_self_left, Nat.mod_eq_of_lt hi]
theorem sI_perm {h u k v : Nat} (hk : 0 < k) (e : h * u = 1 + k * v) (f : Nat → Int) : sI (fun i => f (i * h % k)) k = sI f k := by
  have e2 : u * h = 1 + k * v := by rw [Nat.mul_comm]; exact e
  have s1 : sI (fun i => f (i * h % k)) k = sI (fun i => sI (fun j => if i * h % k = j then f j else 0) k) k :=
    sI_congr (fun i hi => by rw [sI_pick, if_pos (Nat.mod_lt _ hk)])
  rw [s1, sI_swap]
  refine sI_congr (fun j hj => ?_)
  have s2 : sI (fun i => if i * h % k = j then f j else 0) k = sI (fun i => if j * u % k = i then (fun _ => f j) i else 0) k := by
    refine sI_congr (fun i hi => ?_)
    by_cases q : i * h % k = j
    · have : j * u % k = i := by rw [← q]; exact inv_mod e hi
      rw [if_pos q, if_pos this]
    · have : ¬ j * u % k = i := fun w => q (by rw [← w]; exact inv_mod e2 hj)
      rw [if_neg q, if_neg this]
  rw [s2, sI_pick, if_pos (Nat.mod_lt _ hk)]
theorem sI_1 : ∀ k : Nat, 2 * sI (fun i => (i : Int)) k = k * (k - 1)
  | 0 => rfl
  | k + 1 => by
    show 2 * (sI (fun i => (i : Int)) k + k) = _
    have := sI_1 k
    push_cast; grind
theorem sI_2 : ∀ k : Nat, 6 * sI (fun i => (i : Int) * i) k = (k - 1) * k * (2 * k - 1)
  | 0 => rfl
  | k + 1 => by
    show 6 * (sI (fun i => (i : Int) * i) k + (k : Int) * k) = _
    have := sI_2 k
    push_cast; grind
/-- how many are greater than c -/
theorem sI_gt (c : Nat) : ∀ k : Nat, c < k → sI (fun i => if c < i then 1 else 0) k = (k : Int) - 1 - c
  | 0, h => absurd h (by omega)
  | k + 1, h => by
    show sI (fun i => if c < i then 1 else 0) k + (if c < k then 1 else 0) = _
    by_cases q : c < k
    · rw [sI_gt c k q, if_pos q]; push_cast; omega
    · have e : c = k := by omega
      subst e
      rw [if_neg q]
      have z : sI (fun i => if c < i then (1 : Int) else 0) c = sI (fun _ => 0) c := sI_congr (fun i hi => if_neg (by omega))
      rw [z, sI_zero]; push_cast; omega
theorem sI_upto (q : Nat) : ∀ n : Nat, q < n → 2 * sI (fun j => if j ≤ q then (j : Int) else 0) n = (q : Int) * (q + 1)
  | 0, h => absurd h (by omega)
  | n + 1, h => by
    show 2 * (sI (fun j => if j ≤ q then (j : Int) else 0) n + (if n ≤ q then (n : Int) else 0)) = _
    by_cases w : q < n
    · rw [if_neg (by omega)]
      have := sI_upto q n w
      omega
    · have e : q = n := by omega
      subst e
      rw [if_pos (Nat.le_refl _)]
      have z : sI (fun j => if j ≤ q then (j : Int) else 0) q = sI (fun i => (i : Int)) q := sI_congr (fun i hi => if_pos (by omega))
      have := sI_1 q
      rw [z]; grind
/-! Dedekind sums -/
/-- sum of i * floor(i h / k) -/
def dM (h k : Nat) : Int := sI (fun i => (i : Int) * ((i * h / k : Nat) : Int)) k
def dF (h k i : Nat) : Int := (2 * (i : Int) - k) * (2 * ((i * h % k : Nat) : Int) - k)
/-- the sum that the model forms, and so 4 / 3 of its answer -/
def dT (h k : Nat) : Int := sI (fun i => dF h k (i + 1)) (k - 1)
theorem dT_mod (h k : Nat) : dT (h % k) k = dT h k := by
  unfold dT dF
  refine sI_congr (fun i _ => ?_)
  rw [show (i + 1) * (h % k) % k = (i + 1) * h % k by rw [Nat.mul_mod, Nat.mod_mod, ← Nat.mul_mod]]
theorem dT_eq {h u k v : Nat} (hk : 0 < k) (e : h * u = 1 + k * v) : dT h k = 4 * (h * sI (fun i => (i : Int) * i) k - k * dM h k) - 4 * k * sI (fun i => (i : Int)) k + k * k * k - k * k := by
  have s0 : sI (dF h k) k = dF h k 0 + dT h k := by
    unfold dT
    obtain ⟨m, rfl⟩ : ∃ m, k = m + 1 := ⟨k - 1, by omega⟩
    rw [sI_shift]; rfl
  have s1 : dF h k 0 = k * k := by
    unfold dF
    rw [Nat.zero_mul, Nat.zero_mod]
    push_cast; grind
  have s2 : sI (dF h k) k = sI (fun i => 4 * (h : Int) * ((i : Int) * i) + (-(4 * (k : Int)) * ((i : Int) * ((i * h / k : Nat) : Int)) + (-(2 * (k : Int)) * (i : Int) + (-(2 * (k : Int)) * ((i * h % k : Nat) : Int) + (k : Int) * k)))) k := by
    refine sI_congr (fun i _ => ?_)
    have d := Nat.div_add_mod (i * h) k
    have d' : (k : Int) * ((i * h / k : Nat) : Int) + ((i * h % k : Nat) : Int) = (i : Int) * h := by exact_mod_cast d
    unfold dF
    generalize ((i * h / k : Nat) : Int) = Q at *
    generalize ((i * h % k : Nat) : Int) = R at *
    grind
  rw [sI_add, sI_add, sI_add, sI_add, sI_mul, sI_mul, sI_mul, sI_mul, sI_const] at s2
  have s3 : sI (fun i => ((i * h % k : Nat) : Int)) k = sI (fun i => (i : Int)) k := sI_perm hk e (fun i => (i : Int))
  rw [s3] at s2
  have s4 : sI (fun i => (i : Int) * ((i * h / k : Nat) : Int)) k = dM h k := rfl
  rw [s4] at s2
  grind
theorem dQ {h u k v : Nat} (hk : 0 < k) (e : h * u = 1 + k * v) : (k : Int) * sI (fun i => ((i * h / k : Nat) : Int)) k = (h - 1) * sI (fun i => (i : Int)) k ∧ (k : Int) * k * sI (fun i => ((i * h / k : Nat) : Int) * ((i * h / k : Nat) : Int)) k = (1 - h * h) * sI (fun i => (i : Int) * i) k + 2 * h * k * dM h k := by
  have dv : ∀ i : Nat, (k : Int) * ((i * h / k : Nat) : Int) + ((i * h % k : Nat) : Int) = (i : Int) * h := fun i => by
    have d := Nat.div_add_mod (i * h) k
    exact_mod_cast d
  have s3 : sI (fun i => ((i * h % k : Nat) : Int)) k = sI (fun i => (i : Int)) k := sI_perm hk e (fun i => (i : Int))
  have s4 : sI (fun i => ((i * h % k : Nat) : Int) * ((i * h % k : Nat) : Int)) k = sI (fun i => (i : Int) * i) k := sI_perm hk e (fun i => (i : Int) * i)
  constructor
  · have s5 : sI (fun i => ((i * h % k : Nat) : Int)) k = sI (fun i => (h : Int) * (i : Int) + -(k : Int) * ((i * h / k : Nat) : Int)) k := sI_congr (fun i _ => by have := dv i; grind)
    rw [sI_add, sI_mul, sI_mul, s3] at s5
    grind
  · have s5 : sI (fun i => ((i * h % k : Nat) : Int) * ((i * h % k : Nat) : Int)) k = sI (fun i => (h : Int) * h * ((i : Int) * i) + (-(2 * (h : Int) * k) * ((i : Int) * ((i * h / k : Nat) : Int)) + (k : Int) * k * (((i * h / k : Nat) : Int) * ((i * h / k : Nat) : Int)))) k := sI_congr (fun i _ => by
      have := dv i
      generalize ((i * h / k : Nat) : Int) = Q at *
      generalize ((i * h % k : Nat) : Int) = R at *
      have eR : R = (i : Int) * h - k * Q := by omega
      rw [eR]; grind)
    rw [sI_add, sI_add, sI_mul, sI_mul, sI_mul, s4] at s5
    have s6 : sI (fun i => (i : Int) * ((i * h / k : Nat) : Int)) k = dM h k := rfl
    rw [s6] at s5
    grind
/-- points of the lattice below the diagonal -/
theorem dL {h k : Nat} (hk : 0 < k) (hh : 0 < h) (hg : Nat.gcd h k = 1) : sI (fun i => ((i * h / k : Nat) : Int) * ((i * h / k : Nat) : Int)) k + sI (fun i => ((i * h / k : Nat) : Int)) k = 2 * ((k - 1) * sI (fun j => (j : Int)) h - dM k h) := by
  have s1 : sI (fun i => ((i * h / k : Nat) : Int) * ((i * h / k : Nat) : Int)) k + sI (fun i => ((i * h / k : Nat) : Int)) k = sI (fun i => 2 * sI (fun j => if j ≤ i * h / k then (j : Int) else 0) h) k := by
    rw [← sI_add]
    refine sI_congr (fun i hi => ?_)
    have hlt : i * h / k < h := by
      rw [Nat.div_lt_iff_lt_mul hk, Nat.mul_comm h k]
      exact Nat.mul_lt_mul_of_pos_right hi hh
    rw [sI_upto _ _ hlt]; grind
  rw [s1, sI_mul, sI_swap]
  congr 1
  have s2 : sI (fun j => sI (fun i => if j ≤ i * h / k then (j : Int) else 0) k) h = sI (fun j => ((k : Int) - 1) * (j : Int) + -1 * ((j : Int) * ((j * k / h : Nat) : Int))) h := by
    refine sI_congr (fun j hj => ?_)
    rcases Nat.eq_zero_or_pos j with z | z
    · subst z
      have : sI (fun i => if 0 ≤ i * h / k then ((0 : Nat) : Int) else 0) k = sI (fun _ => 0) k := sI_congr (fun i _ => by split <;> rfl)
      rw [this, sI_zero]; push_cast; grind
    · have hc : j * k / h < k := by
        rw [Nat.div_lt_iff_lt_mul hh, Nat.mul_comm k h]
        exact Nat.mul_lt_mul_of_pos_right hj hk
      have : sI (fun i => if j ≤ i * h / k then (j : Int) else 0) k = sI (fun i => (j : Int) * (if j * k / h < i then 1 else 0)) k := by
        refine sI_congr (fun i hi => ?_)
        have key : (j ≤ i * h / k) ↔ (j * k / h < i) := by
          rw [Nat.le_div_iff_mul_le hk, Nat.div_lt_iff_lt_mul hh]
          constructor
          · intro w
            rcases Nat.lt_or_ge (j * k) (i * h) with y | y
            · exact y
            · exfalso
              have ee : j * k = i * h := by omega
              have hd : h ∣ j * k := ⟨i, by rw [ee, Nat.mul_comm]⟩
              have hcop : Nat.Coprime h k := hg
              have := Nat.le_of_dvd z (hcop.dvd_of_dvd_mul_right hd)
              omega
          · intro w; omega
        by_cases w : j ≤ i * h / k
        · rw [if_pos w, if_pos (key.mp w), Int.mul_one]
        · rw [if_neg w, if_neg (fun y => w (key.mpr y)), Int.mul_zero]
      rw [this, sI_mul, sI_gt _ _ hc]; grind
  rw [s2, sI_add, sI_mul, sI_mul]
  have s3 : sI (fun j => (j : Int) * ((j * k / h : Nat) : Int)) h = dM k h := rfl
  rw [s3]
  show ((k : Int) - 1) * sI (fun j => (j : Int)) h + -1 * dM k h = ((k : Int) - 1) * sI (fun j => (j : Int)) h - dM k h
  omega
/-- inverses, out of the convergents -/
theorem cf_gcd {a b N : Nat} (h : CF a b N) : Nat.gcd a b = 1 := by
  have h9 := rs_gcd a b N
  rw [h.2.2.2.1, Nat.gcd_one_left] at h9
  exact h9.symm
theorem cf_inv {a b N : Nat} (h : CF a b N) : ∃ u v, a * u = 1 + b * v := by
  have d := cdet a b N
  rw [cA_end h, cB_end h] at d
  have ha := h.2.2.2.2
  by_cases q : N % 2 = 0
  · rw [if_pos q] at d
    refine ⟨cB a b N, cA a b N, ?_⟩
    have e : (a : Int) * cB a b N = 1 + (b : Int) * cA a b N := by grind
    exact_mod_cast e
  · rw [if_neg q] at d
    by_cases b1 : b = 1
    · exact ⟨1, a - 1, by rw [b1]; omega⟩
    · have e : (a : Int) * cB a b N + 1 = (b : Int) * cA a b N := by grind
      have eN : a * cB a b N + 1 = b * cA a b N := by exact_mod_cast e
      generalize cB a b N = y at *
      generalize cA a b N = x at *
      have x1 : 1 ≤ x := by
        rcases Nat.eq_zero_or_pos x with z | z
        · rw [z] at eN; omega
        · exact z
      obtain ⟨c, hc⟩ : ∃ c, b = c + 2 := ⟨b - 2, by omega⟩
      obtain ⟨x', hx⟩ : ∃ x', x = x' + 1 := ⟨x - 1, by omega⟩
      rw [hc, hx] at eN
      refine ⟨(c + 1) * y, (c + 1) * x' + c, ?_⟩
      have e3 : a * y = (c + 2) * x' + (c + 1) := by
        rw [Nat.mul_add, Nat.mul_one] at eN; omega
      rw [hc, show a * ((c + 1) * y) = (c + 1) * (a * y) by ac_rfl, e3]
      grind
theorem dR {h u k v u2 v2 : Nat} (hk : 0 < k) (hh : 0 < h) (hg : Nat.gcd h k = 1) (e1 : h * u = 1 + k * v) (e2 : k * u2 = 1 + h * v2) : 3 * (h : Int) * h * dT h k + 3 * (k : Int) * k * dT k h = (h : Int) * k * ((h : Int) * h + (k : Int) * k + 1 - 3 * (h : Int) * k) := by
  have t1 := dT_eq hk e1
  have t2 := dT_eq hh e2
  obtain ⟨g1, g2⟩ := dQ hk e1
  have g3 := dL hk hh hg
  have f1 := sI_1 k
  have f2 := sI_2 k
  have f3 := sI_1 h
  have f4 := sI_2 h
  rw [t1, t2]
  generalize sI (fun i => (i : Int)) k = a at *
  generalize sI (fun i => (i : Int) * i) k = b at *
  generalize sI (fun i => (i : Int)) h = c at *
  generalize sI (fun i => (i : Int) * i) h = d at *
  generalize sI (fun i => ((i * h / k : Nat) : Int)) k = Q1 at *
  generalize sI (fun i => ((i * h / k : Nat) : Int) * ((i * h / k : Nat) : Int)) k = Q2 at *
  generalize dM h k = M at *
  generalize dM k h = M' at *
  generalize (k : Int) = K at *
  generalize (h : Int) = H at *
  have m : 2 * H * K * M = 2 * K * K * (K - 1) * c - 2 * K * K * M' - K * (H - 1) * a - (1 - H * H) * b := by
    have e : Q2 = 2 * ((K - 1) * c - M') - Q1 := by omega
    rw [e] at g2
    have e3 : K * (K * Q1) = K * ((H - 1) * a) := by rw [g1]
    grind
  have key : 3 * H * H * (4 * (H * b - K * M) - 4 * K * a + K * K * K - K * K) + 3 * K * K * (4 * (K * d - H * M') - 4 * H * c + H * H * H - H * H) = (H * H * H + H) * (6 * b) + (6 * H * K * (H - 1) - 12 * H * H * K) * a - 6 * H * K * K * K * (2 * c) + 2 * K * K * K * (6 * d) + 3 * H * H * (K * K * K - K * K) + 3 * K * K * (H * H * H - H * H) := by
    have m2 : 6 * H * (2 * H * K * M) = 6 * H * (2 * K * K * (K - 1) * c - 2 * K * K * M' - K * (H - 1) * a - (1 - H * H) * b) := by rw [m]
    grind
  rw [key, f2, f3, f4]
  have f5 : (6 * H * K * (H - 1) - 12 * H * H * K) * a = (3 * H * K * (H - 1) - 6 * H * H * K) * (2 * a) := by grind
  rw [f5, f1]
  grind
/-! the sum out of the terms -/
theorem CF_tail {a b N : Nat} (h : CF a b (N + 1)) (hN : 1 ≤ N) : CF b (a % b) N := by
  have h2 := h.1.1 1 (by omega)
  have h3 := rs_le h 2 (by omega)
  refine ⟨⟨fun i hi => ?_, ?_⟩, hN, by have := h.2.2.1; omega, ?_, h.2.2.2.2.2.2.1, h.2.2.2.2.2.2.2, h2, h3⟩
  · rw [← rs_shift]; exact h.1.1 (i + 1) (by omega)
  · rw [← rs_shift]; exact h.1.2
  · rw [← rs_shift]; exact h.2.2.2.1
theorem tm_shift (a b i : Nat) : tm a b (i + 1) = tm b (a % b) i := by
  unfold tm
  rw [rs_shift a b i, rs_shift a b (i + 1)]
theorem cB_shift (a b : Nat) : ∀ k, cB a b (k + 1) = cA b (a % b) k
  | 0 => rfl
  | 1 => by show tm a b 0 * 0 + 1 = 1; omega
  | k + 2 => by
    show tm a b (k + 1) * cB a b (k + 1 + 1) + cB a b (k + 1) = tm b (a % b) k * cA b (a % b) (k + 1) + cA b (a % b) k
    rw [tm_shift, cB_shift a b (k + 1), cB_shift a b k]
def altS (t : Nat → Nat) (n : Nat) : Int := sI (fun i => if i % 2 = 0 then (t (i + 1) : Int) else -(t (i + 1) : Int)) n
theorem altS_shift (a b n : Nat) : altS (tm a b) (n + 1) = tm b (a % b) 0 - altS (tm b (a % b)) n := by
  unfold altS
  rw [sI_shift]
  have e : sI (fun i => if (i + 1) % 2 = 0 then (tm a b (i + 1 + 1) : Int) else -(tm a b (i + 1 + 1) : Int)) n = sI (fun i => -1 * (if i % 2 = 0 then (tm b (a % b) (i + 1) : Int) else -(tm b (a % b) (i + 1) : Int))) n := by
    refine sI_congr (fun i _ => ?_)
    rw [tm_shift a b (i + 1)]
    by_cases q : i % 2 = 0
    · rw [if_neg (by omega), if_pos q]; omega
    · rw [if_pos (by omega), if_neg q]; omega
  rw [e, sI_mul, if_pos (by decide), tm_shift]
  show (tm b (a % b) 0 : Int) + _ = _
  omega
/-- the answer -/
def dE (a b N : Nat) : Int := b * (altS (tm a b) (N - 1) - (if N % 2 = 0 then 3 else 0)) + rs a b 2 + (if N % 2 = 0 then (cB a b N : Int) else -(cB a b N : Int))
theorem dE_alg0 {r B S t w x y T1 T2 : Int} (R : 3 * r * r * T1 + 3 * B * B * T2 = r * B * (r * r + B * B + 1 - 3 * r * B)) (hI : 3 * T2 = r * (r * (S - 3) + w + y)) (s3 : B = t * r + w) (hcd : B * y - x * r = 1) : r * r * (3 * T1) = r * r * (B * (B * (t - S) + r + -x)) := by
  have s1 : r * r * (3 * T1) = r * B * (r * r + B * B + 1 - 3 * r * B) - B * B * (3 * T2) := by grind
  have e : B * B * r * y = B * r * (1 + x * r) := by rw [← hcd]; grind
  have s4 : w = B - t * r := by omega
  rw [s1, hI, s4]
  grind
theorem dE_alg1 {r B S t w x y T1 T2 : Int} (R : 3 * r * r * T1 + 3 * B * B * T2 = r * B * (r * r + B * B + 1 - 3 * r * B)) (hI : 3 * T2 = r * (r * S + w + -y)) (s3 : B = t * r + w) (hcd : B * y - x * r = -1) : r * r * (3 * T1) = r * r * (B * (B * (t - S - 3) + r + x)) := by
  have s1 : r * r * (3 * T1) = r * B * (r * r + B * B + 1 - 3 * r * B) - B * B * (3 * T2) := by grind
  have e0 : B * y = x * r - 1 := by omega
  have e : B * B * r * y = B * r * (x * r - 1) := by rw [← e0]; grind
  have s4 : w = B - t * r := by omega
  rw [s1, hI, s4]
  grind
theorem dE_T : ∀ (N a b : Nat), CF a b N → 3 * dT a b = b * dE a b N := by
  intro N
  induction N with
  | zero => intro a b h; exact absurd h.2.1 (by omega)
  | succ N ih =>
    intro a b h
    rcases Nat.eq_zero_or_pos N with z | z
    · subst z
      have hb : b = 1 := h.2.2.2.1
      subst hb
      have e1 : dT a 1 = 0 := rfl
      have e2 : rs a 1 2 = 0 := Nat.mod_one a
      unfold dE
      rw [e1, e2]
      show 3 * 0 = ((1 : Nat) : Int) * (((1 : Nat) : Int) * (0 - 0) + ((0 : Nat) : Int) + -((0 : Nat) : Int))
      rfl
    · have ht := CF_tail h z
      have hI := ih b (a % b) ht
      obtain ⟨u, v, e1⟩ := cf_inv h
      obtain ⟨u2, v2, e2⟩ := cf_inv ht
      have hb := h.2.2.2.2.2.2
      have hr : 0 < a % b := ht.2.2.2.2.2.2.1
      have e3 : ∃ u3 v3, (a % b) * u3 = 1 + b * v3 := by
        refine ⟨u, (a % b) * u / b, ?_⟩
        have dm := Nat.div_add_mod ((a % b) * u) b
        have hlt := Nat.mod_lt a (show b > 0 by omega)
        have em : (a % b) * u % b = 1 := by
          rw [Nat.mul_mod, Nat.mod_mod, ← Nat.mul_mod, e1, Nat.add_mul_mod_self_left, Nat.mod_eq_of_lt (by omega)]
        omega
      obtain ⟨u3, v3, e3⟩ := e3
      have hg : Nat.gcd (a % b) b = 1 := by rw [Nat.gcd_comm]; exact cf_gcd ht
      have R := dR (h := a % b) (k := b) (by omega) hr hg e3 e2
      rw [dT_mod] at R
      have hsh := altS_shift a b (N - 1)
      rw [show N - 1 + 1 = N by omega] at hsh
      have hrec := rs_rec b (a % b) 0
      have hrec' : (b : Int) = (tm b (a % b) 0 : Int) * ((a % b : Nat) : Int) + (rs b (a % b) 2 : Int) := by exact_mod_cast hrec
      have hcd := cdet b (a % b) N
      rw [cA_end ht, cB_end ht] at hcd
      have hrs : rs a b 2 = a % b := rfl
      unfold dE at hI ⊢
      rw [cB_shift, show N + 1 - 1 = N from rfl, hsh, hrs]
      have hr' : ((a % b : Nat) : Int) ≠ 0 := by omega
      generalize ((a % b : Nat) : Int) = r at *
      generalize (b : Int) = B at *
      generalize altS (tm b (a % b)) (N - 1) = S at *
      generalize (tm b (a % b) 0 : Int) = t at *
      generalize (rs b (a % b) 2 : Int) = w at *
      generalize (cA b (a % b) N : Int) = x at *
      generalize (cB b (a % b) N : Int) = y at *
      generalize dT a b = T1 at *
      generalize dT b (a % b) = T2 at *
      have fin : r * r * (3 * T1) = r * r * (B * (B * (t - S - (if (N + 1) % 2 = 0 then 3 else 0)) + r + (if (N + 1) % 2 = 0 then x else -x))) := by
        by_cases q : N % 2 = 0
        · have q2 : ¬ (N + 1) % 2 = 0 := by omega
          rw [if_pos q, if_pos q] at hI
          rw [if_pos q] at hcd
          rw [if_neg q2, if_neg q2, Int.sub_zero]
          exact dE_alg0 R hI hrec' hcd
        · have q2 : (N + 1) % 2 = 0 := by omega
          rw [if_neg q, if_neg q, Int.sub_zero] at hI
          rw [if_neg q] at hcd
          rw [if_pos q2, if_pos q2]
          exact dE_alg1 R hI hrec' hcd
      exact Int.eq_of_mul_eq_mul_left (Int.mul_ne_zero hr' hr') fin
