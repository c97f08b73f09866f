/-! rankedBetween: the measure -/
theorem CF_uniq {a b N M : Nat} (h : CF a b N) (k : CF a b M) : N = M := by
  rcases Nat.lt_trichotomy N M with q | q | q
  · have := k.1.1 N q
    rw [h.1.2] at this; omega
  · exact q
  · have := h.1.1 M q
    rw [k.1.2] at this; omega
noncomputable def muN (x y : Nat) : Nat := @dite _ (∃ N, CF x y N) (Classical.propDecidable _) (fun h => Classical.choose h) (fun _ => 0)
theorem muN_of {x y N : Nat} (h : CF x y N) : muN x y = N := by
  unfold muN
  have e : ∃ N, CF x y N := ⟨N, h⟩
  rw [dif_pos e]
  exact CF_uniq (Classical.choose_spec e) h
def gT (t : Nat → Nat) : Nat → Nat
  | 0 => 0
  | n + 1 => if t n ≤ gT t n then gT t n else t n
theorem gT_le (t : Nat → Nat) : ∀ n, gT t n ≤ sumN t n
  | 0 => Nat.le_refl _
  | n + 1 => by
    have := gT_le t n
    show (if t n ≤ gT t n then gT t n else t n) ≤ sumN t n + t n
    split <;> omega
theorem sumN_le2 {f g : Nat → Nat} : ∀ {n}, (∀ i, i < n → f i ≤ g i) → sumN f n ≤ sumN g n
  | 0, _ => Nat.le_refl _
  | n + 1, h => by
    have h1 := sumN_le2 (n := n) (fun i hi => h i (by omega))
    have h2 := h n (by omega)
    show sumN f n + f n ≤ sumN g n + g n
    omega
theorem sumN_cg {f g : Nat → Nat} : ∀ {n}, (∀ i, i < n → f i = g i) → sumN f n = sumN g n
  | 0, _ => rfl
  | n + 1, h => by
    show sumN f n + f n = sumN g n + g n
    rw [sumN_cg (n := n) (fun i hi => h i (by omega)), h n (by omega)]
theorem sumN_plus (f g : Nat → Nat) : ∀ n, sumN (fun i => f i + g i) n = sumN f n + sumN g n
  | 0 => rfl
  | n + 1 => by
    show sumN (fun i => f i + g i) n + (f n + g n) = (sumN f n + f n) + (sumN g n + g n)
    rw [sumN_plus f g n]; omega
theorem sumN_lt {f g : Nat → Nat} {n k : Nat} (hk : k < n) (h : ∀ i, i < n → f i ≤ g i) (h2 : f k < g k) : sumN f n < sumN g n := by
  induction n with
  | zero => omega
  | succ n ih =>
    show sumN f n + f n < sumN g n + g n
    have h3 := h n (by omega)
    by_cases q : k = n
    · subst q
      have := sumN_le2 (f := f) (g := g) (n := k) (fun i hi => h i (by omega))
      omega
    · have := ih (by omega) (fun i hi => h i (by omega))
      omega
theorem tm_sum : ∀ (N a b : Nat), (∀ i, i < N → 0 < rs a b (i + 1)) → sumN (tm a b) N ≤ a + b := by
  intro N
  induction N with
  | zero => intro a b _; exact Nat.zero_le _
  | succ N ih =>
    intro a b h
    have hb : 0 < b := h 0 (by omega)
    have e : sumN (fun i => tm a b (i + 1)) N = sumN (tm b (a % b)) N := sumN_cg (fun i _ => tm_shift a b i)
    have h2 := ih b (a % b) (fun i hi => by rw [← rs_shift]; exact h (i + 1) (by omega))
    have dm := Nat.div_add_mod a b
    have hm : tm a b 0 = a / b := rfl
    have h3 := Nat.mul_le_mul_right (a / b) (show 1 ≤ b from hb)
    rw [sumN_shift, e, hm]
    omega
noncomputable def mu (v : Int32) (x y : Nat) : Int := if v = 0 then (y : Int) else if v = 1 then (x : Int) + y else if v = 2 then (dep x y (muN x y) : Int) else if v = 3 then (gT (tm x y) (muN x y) : Int) else -(muN x y : Int)
theorem mu_bnd {x y N : Nat} (h : CF x y N) (hx : x ≤ 95) (hy : y ≤ 24) (v : Int32) : -20 ≤ mu v x y ∧ mu v x y ≤ 139 := by
  have hs := tm_sum N x y h.1.1
  have hd : dep x y N ≤ sumN (tm x y) N := sumN_le2 (fun i _ => by unfold rr; split <;> omega)
  have hg := gT_le (tm x y) N
  obtain ⟨M, hM, hM2⟩ := CFx_of_eN _ x y (eN_log 5 x y (by omega))
  have hNM : N = M := by
    rcases Nat.lt_trichotomy N M with q | q | q
    · have := hM2.1 N q
      rw [h.1.2] at this; omega
    · exact q
    · have := h.1.1 M q
      rw [hM2.2] at this; omega
  unfold mu
  rw [muN_of h]
  (repeat' split) <;> omega
theorem gr7_L {a b N : Nat} (h : CF a b N) {f : Nat → Int32} (hf : IsT a b N f) {post : Int32 → Prop} (hp : ∀ r : Int32, r.toInt = (gT (tm a b) N : Int) → post r) : ∀ (n k : Nat) (acc i : Int32), k + n = N → acc.toInt = (gT (tm a b) k : Int) → i.toInt = (k : Int) → w1_greatest_L4 (Int32.ofNat N) f post (n + 1) acc i := by
  have hN := h.2.2.1
  have hNi : (Int32.ofNat N).toInt = (N : Int) := n_toInt (by omega)
  intro n
  induction n with
  | zero =>
    intro k acc i hk ha hi
    obtain rfl : k = N := by omega
    rw [w1_greatest_L4]
    exact ⟨fun _ => hp _ ha, fun z => absurd (i_le.mpr (by omega)) z⟩
  | succ n ih =>
    intro k acc i hk ha hi
    have ht := hf k (by omega)
    have es : gT (tm a b) (k + 1) = if tm a b k ≤ gT (tm a b) k then gT (tm a b) k else tm a b k := rfl
    rw [w1_greatest_L4, natc hi]
    refine ⟨fun z => absurd (i_le.mp z) (by omega), fun _ => ⟨vin (by omega) (by omega), fun z j ej => ih (k + 1) acc j (by omega) ?_ (nxt hi (by omega) ej), fun z => ⟨vin (by omega) (by omega), fun y ey j ej => ih (k + 1) y j (by omega) ?_ (nxt hi (by omega) ej)⟩⟩⟩
    · have z := i_le.mp z
      rw [es, if_pos (by omega)]; exact ha
    · have z : ¬ (f k).toInt ≤ acc.toInt := fun w => z (i_le.mpr w)
      rw [es, if_neg (by omega), ey]; exact ht
theorem gr8_L {a b N : Nat} (h : CF a b N) {f run ri : Nat → Int32} {ru : Int32} (hf : IsT a b N f) {post : Int32 → Int32 → Int32 → (Nat → Int32) → (Nat → Int32) → (Nat → Int32) → Prop} (hp : ∀ r : Int32, r.toInt = (gT (tm a b) N : Int) → post r (Int32.ofNat N) ru f run ri) : ∀ (n k : Nat) (acc i : Int32), k + n = N → acc.toInt = (gT (tm a b) k : Int) → i.toInt = (k : Int) → w8_measureOf_L57 (Int32.ofNat N) ru f run ri post (n + 1) acc i := by
  have hN := h.2.2.1
  have hNi : (Int32.ofNat N).toInt = (N : Int) := n_toInt (by omega)
  intro n
  induction n with
  | zero =>
    intro k acc i hk ha hi
    obtain rfl : k = N := by omega
    rw [w8_measureOf_L57]
    exact ⟨fun _ => hp _ ha, fun z => absurd (i_le.mpr (by omega)) z⟩
  | succ n ih =>
    intro k acc i hk ha hi
    have ht := hf k (by omega)
    have es : gT (tm a b) (k + 1) = if tm a b k ≤ gT (tm a b) k then gT (tm a b) k else tm a b k := rfl
    rw [w8_measureOf_L57, natc hi]
    refine ⟨fun z => absurd (i_le.mp z) (by omega), fun _ => ⟨vin (by omega) (by omega), fun z j ej => ih (k + 1) acc j (by omega) ?_ (nxt hi (by omega) ej), fun z => ⟨vin (by omega) (by omega), fun y ey j ej => ih (k + 1) y j (by omega) ?_ (nxt hi (by omega) ej)⟩⟩⟩
    · have z := i_le.mp z
      rw [es, if_pos (by omega)]; exact ha
    · have z : ¬ (f k).toInt ≤ acc.toInt := fun w => z (i_le.mpr w)
      rw [es, if_neg (by omega), ey]; exact ht
theorem s7_measure {v : Int32} (hv : 0 ≤ v.toInt ∧ v.toInt ≤ 4) {x y N : Nat} (h : CF x y N) (hxy : x + y ≤ 1000000) {a b : Int32} (ha : a.toInt = (x : Int)) (hb : b.toInt = (y : Int)) {sz : Int32} {f : Nat → Int32} {post : Int32 → Int32 → (Nat → Int32) → Prop} (hp : ∀ r s f, r.toInt = mu v x y → post r s f) : w7_measureOf sz f v a b post := by
  have l0 : (0 : Int32).toInt = 0 := rfl
  have l1 : (1 : Int32).toInt = 1 := rfl
  have l2 : (2 : Int32).toInt = 2 := rfl
  have l3 : (3 : Int32).toInt = 3 := rfl
  have hN := h.2.2.1
  have hNi : (Int32.ofNat N).toInt = (N : Int) := n_toInt (by omega)
  unfold mu at hp
  rw [muN_of h] at hp
  unfold w7_measureOf
  refine s1_expand h ha hb (fun f hf => ⟨fun z => hp _ _ _ ?_, fun z => hp _ _ _ ?_, fun z => hp _ _ _ ?_, fun z => s1_stepCount h hf (fun r hr => hp _ _ _ ?_), fun z => ⟨_, gr7_L h hf (fun r hr => hp _ _ _ ?_) N 0 0 0 (by omega) rfl rfl⟩⟩)
  · have e0 : ¬ v = 0 := fun q => by rw [q, l0] at z; omega
    have e1 : ¬ v = 1 := fun q => by rw [q, l1] at z; omega
    have e2 : ¬ v = 2 := fun q => by rw [q, l2] at z; omega
    have e3 : ¬ v = 3 := fun q => by rw [q, l3] at z; omega
    rw [if_neg e0, if_neg e1, if_neg e2, if_neg e3, l_neg (by omega), hNi]
  · rw [if_pos z]; exact hb
  · rw [z, if_neg (by decide), if_pos rfl, i_add (by omega) (by omega), ha, hb]
  · rw [z, if_neg (by decide), if_neg (by decide), if_pos rfl]; exact hr
  · rw [z, if_neg (by decide), if_neg (by decide), if_neg (by decide), if_pos rfl]; exact hr
theorem s8_measure {v : Int32} (hv : 0 ≤ v.toInt ∧ v.toInt ≤ 4) {x y N : Nat} (h : CF x y N) (hxy : x + y ≤ 1000000) {a b : Int32} (ha : a.toInt = (x : Int)) (hb : b.toInt = (y : Int)) {te ru : Int32} {f g w : Nat → Int32} {post : Int32 → Int32 → Int32 → (Nat → Int32) → (Nat → Int32) → (Nat → Int32) → Prop} (hp : ∀ r te ru f g w, r.toInt = mu v x y → post r te ru f g w) : w8_measureOf te ru f g w a b v post := by
  have l0 : (0 : Int32).toInt = 0 := rfl
  have l1 : (1 : Int32).toInt = 1 := rfl
  have l2 : (2 : Int32).toInt = 2 := rfl
  have l3 : (3 : Int32).toInt = 3 := rfl
  have hN := h.2.2.1
  have hNi : (Int32.ofNat N).toInt = (N : Int) := n_toInt (by omega)
  unfold mu at hp
  rw [muN_of h] at hp
  unfold w8_measureOf
  refine ⟨fun z => s8_layTerms h ha hb (fun f hf => hp _ _ _ _ _ _ ?_), fun z => hp _ _ _ _ _ _ ?_, fun z => hp _ _ _ _ _ _ ?_, fun z => s8_depthOf h ha hb (fun r f run ri hr _ _ => hp _ _ _ _ _ _ ?_), fun z => s8_layTerms h ha hb (fun f hf => ⟨_, gr8_L h hf (fun r hr => hp _ _ _ _ _ _ ?_) N 0 0 0 (by omega) rfl rfl⟩)⟩
  · have e0 : ¬ v = 0 := fun q => by rw [q, l0] at z; omega
    have e1 : ¬ v = 1 := fun q => by rw [q, l1] at z; omega
    have e2 : ¬ v = 2 := fun q => by rw [q, l2] at z; omega
    have e3 : ¬ v = 3 := fun q => by rw [q, l3] at z; omega
    rw [if_neg e0, if_neg e1, if_neg e2, if_neg e3, l_neg (by omega), hNi]
  · rw [if_pos z]; exact hb
  · rw [z, if_neg (by decide), if_pos rfl, i_add (by omega) (by omega), ha, hb]
  · rw [z, if_neg (by decide), if_neg (by decide), if_pos rfl]; exact hr
  · rw [z, if_neg (by decide), if_neg (by decide), if_neg (by decide), if_pos rfl]; exact hr
/-! the fractions, in the order in which both find them: how many, and their parts -/
abbrev RS : Type := Nat × (Nat → Nat) × (Nat → Nat)
def rAdd (σ : RS) (x y : Nat) : RS := (σ.1 + 1, fun j => if j = σ.1 then x else σ.2.1 j, fun j => if j = σ.1 then y else σ.2.2 j)
def rSel (p q r s x y : Nat) : Prop := Nat.gcd x y = 1 ∧ p * y < x * q ∧ x * s < r * y
noncomputable def rRow (p q r s y : Nat) : Nat → Nat → RS → RS
  | 0, _, σ => σ
  | n + 1, x, σ => rRow p q r s y n (x + 1) (@ite _ (rSel p q r s x y) (Classical.propDecidable _) (rAdd σ x y) σ)
noncomputable def rCol (p q r s : Nat) : Nat → Nat → RS → RS
  | 0, _, σ => σ
  | n + 1, y, σ => rCol p q r s n (y + 1) (rRow p q r s y (4 * y - 1) 1 σ)
theorem rRow_y {p q r s x y n : Nat} {σ : RS} (h : rSel p q r s x y) : rRow p q r s y (n + 1) x σ = rRow p q r s y n (x + 1) (rAdd σ x y) := by
  show rRow p q r s y n (x + 1) (@ite _ (rSel p q r s x y) (Classical.propDecidable _) (rAdd σ x y) σ) = _
  rw [if_pos h]
theorem rRow_n {p q r s x y n : Nat} {σ : RS} (h : ¬ rSel p q r s x y) : rRow p q r s y (n + 1) x σ = rRow p q r s y n (x + 1) σ := by
  show rRow p q r s y n (x + 1) (@ite _ (rSel p q r s x y) (Classical.propDecidable _) (rAdd σ x y) σ) = _
  rw [if_neg h]
/-- how many can still come -/
def rCnt (y : Nat) : Nat → Nat → Nat
  | 0, _ => 0
  | n + 1, x => (if Nat.gcd x y = 1 then 1 else 0) + rCnt y n (x + 1)
def rCn2 : Nat → Nat → Nat
  | 0, _ => 0
  | n + 1, y => rCnt y (4 * y - 1) 1 + rCn2 n (y + 1)
theorem rCn_all : rCn2 24 1 = 719 := by decide +kernel
theorem rRow_len {p q r s y : Nat} : ∀ (n x : Nat) (σ : RS), (rRow p q r s y n x σ).1 ≤ σ.1 + rCnt y n x := by
  intro n
  induction n with
  | zero => intro x σ; exact Nat.le_refl _
  | succ n ih =>
    intro x σ
    have e : rCnt y (n + 1) x = (if Nat.gcd x y = 1 then 1 else 0) + rCnt y n (x + 1) := rfl
    rcases Classical.em (rSel p q r s x y) with h | h
    · rw [rRow_y h, e, if_pos h.1]
      have := ih (x + 1) (rAdd σ x y)
      have e1 : (rAdd σ x y).1 = σ.1 + 1 := rfl
      omega
    · rw [rRow_n h, e]
      have := ih (x + 1) σ
      omega
/-- what holds of them, before x / y -/
def rInv (x y : Nat) (σ : RS) : Prop := (∀ j, j < σ.1 → 1 ≤ σ.2.1 j ∧ σ.2.1 j < 4 * σ.2.2 j ∧ 1 ≤ σ.2.2 j ∧ σ.2.2 j ≤ 24 ∧ Nat.gcd (σ.2.1 j) (σ.2.2 j) = 1 ∧ 1000 * σ.2.2 j + σ.2.1 j < 1000 * y + x) ∧ ∀ i j, i < j → j < σ.1 → 1000 * σ.2.2 i + σ.2.1 i < 1000 * σ.2.2 j + σ.2.1 j
theorem rInv.mono {x y x2 y2 : Nat} {σ : RS} (h : rInv x y σ) (hle : 1000 * y + x ≤ 1000 * y2 + x2) : rInv x2 y2 σ := ⟨fun j hj => by
  obtain ⟨h1, h2, h3, h4, h5, h6⟩ := h.1 j hj
  exact ⟨h1, h2, h3, h4, h5, by omega⟩, h.2⟩
theorem rInv.add {x y : Nat} {σ : RS} (h : rInv x y σ) (hx : 1 ≤ x) (hx2 : x < 4 * y) (hy : y ≤ 24) (hg : Nat.gcd x y = 1) : rInv (x + 1) y (rAdd σ x y) := by
  constructor
  · intro j hj
    show 1 ≤ (if j = σ.1 then x else σ.2.1 j) ∧ (if j = σ.1 then x else σ.2.1 j) < 4 * (if j = σ.1 then y else σ.2.2 j) ∧ 1 ≤ (if j = σ.1 then y else σ.2.2 j) ∧ (if j = σ.1 then y else σ.2.2 j) ≤ 24 ∧ Nat.gcd (if j = σ.1 then x else σ.2.1 j) (if j = σ.1 then y else σ.2.2 j) = 1 ∧ 1000 * (if j = σ.1 then y else σ.2.2 j) + (if j = σ.1 then x else σ.2.1 j) < 1000 * y + (x + 1)
    by_cases q : j = σ.1
    · rw [if_pos q, if_pos q]
      exact ⟨hx, hx2, by omega, hy, hg, by omega⟩
    · rw [if_neg q, if_neg q]
      have hj : j < σ.1 + 1 := hj
      obtain ⟨h1, h2, h3, h4, h5, h6⟩ := h.1 j (by omega)
      exact ⟨h1, h2, h3, h4, h5, by omega⟩
  · intro i j hij hj
    have hj : j < σ.1 + 1 := hj
    show 1000 * (if i = σ.1 then y else σ.2.2 i) + (if i = σ.1 then x else σ.2.1 i) < 1000 * (if j = σ.1 then y else σ.2.2 j) + (if j = σ.1 then x else σ.2.1 j)
    rw [if_neg (show ¬ i = σ.1 by omega), if_neg (show ¬ i = σ.1 by omega)]
    by_cases q : j = σ.1
    · rw [if_pos q, if_pos q]
      exact (h.1 i (by omega)).2.2.2.2.2
    · rw [if_neg q, if_neg q]
      exact h.2 i j hij (by omega)
theorem rRow_inv {p q r s y : Nat} (hy : y ≤ 24) : ∀ (n x : Nat) (σ : RS), x + n = 4 * y → 1 ≤ x → rInv x y σ → rInv (4 * y) y (rRow p q r s y n x σ) := by
  intro n
  induction n with
  | zero => intro x σ hx h1 h; exact h.mono (by omega)
  | succ n ih =>
    intro x σ hx h1 h
    rcases Classical.em (rSel p q r s x y) with w | w
    · rw [rRow_y w]; exact ih (x + 1) _ (by omega) (by omega) (h.add h1 (by omega) hy w.1)
    · rw [rRow_n w]; exact ih (x + 1) _ (by omega) (by omega) (h.mono (by omega))
theorem rCol_inv {p q r s : Nat} : ∀ (n y : Nat) (σ : RS), y + n = 25 → 1 ≤ y → rInv 1 y σ → rInv 1 25 (rCol p q r s n y σ) := by
  intro n
  induction n with
  | zero => intro y σ hy h1 h; exact h.mono (by omega)
  | succ n ih =>
    intro y σ hy h1 h
    exact ih (y + 1) _ (by omega) (by omega) ((rRow_inv (by omega) (4 * y - 1) 1 σ (by omega) (by omega) h).mono (by omega))
theorem rCol_len {p q r s : Nat} : ∀ (n y : Nat) (σ : RS), (rCol p q r s n y σ).1 ≤ σ.1 + rCn2 n y := by
  intro n
  induction n with
  | zero => intro y σ; exact Nat.le_refl _
  | succ n ih =>
    intro y σ
    have h1 := ih (y + 1) (rRow p q r s y (4 * y - 1) 1 σ)
    have h2 := rRow_len (p := p) (q := q) (r := r) (s := s) (y := y) (4 * y - 1) 1 σ
    show (rCol p q r s n (y + 1) (rRow p q r s y (4 * y - 1) 1 σ)).1 ≤ σ.1 + (rCnt y (4 * y - 1) 1 + rCn2 n (y + 1))
    omega
