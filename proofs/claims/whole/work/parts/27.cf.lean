/-! continued fractions: the remainders of Euclid's algorithm, the terms, the runs of the path -/
def rs (a b : Nat) : Nat → Nat
  | 0 => a
  | 1 => b
  | n + 2 => rs a b n % rs a b (n + 1)
theorem rs_shift (a b : Nat) : ∀ i, rs a b (i + 1) = rs b (a % b) i
  | 0 => rfl
  | 1 => rfl
  | n + 2 => by
    show rs a b (n + 1) % rs a b (n + 2) = rs b (a % b) n % rs b (a % b) (n + 1)
    rw [rs_shift a b n, rs_shift a b (n + 1)]
/-- the i-th term -/
def tm (a b i : Nat) : Nat := rs a b i / rs a b (i + 1)
/-- a / b has N terms -/
def CFx (a b N : Nat) : Prop := (∀ i, i < N → 0 < rs a b (i + 1)) ∧ rs a b (N + 1) = 0
theorem CFx_of_eN : ∀ (n a b : Nat), eN n a b → ∃ N, N ≤ n ∧ CFx a b N := by
  intro n
  induction n with
  | zero => intro a b h; exact ⟨0, Nat.le_refl _, fun i hi => absurd hi (by omega), h⟩
  | succ n ih =>
    intro a b h
    by_cases hb : b = 0
    · exact ⟨0, Nat.zero_le _, fun i hi => absurd hi (by omega), hb⟩
    · rcases h with h | h
      · exact absurd h hb
      obtain ⟨N, h1, h2, h3⟩ := ih _ _ h
      refine ⟨N + 1, by omega, fun i hi => ?_, ?_⟩
      · cases i with
        | zero => show 0 < b; omega
        | succ i => rw [rs_shift]; exact h2 i (by omega)
      · rw [rs_shift]; exact h3
theorem rs_rec (a b i : Nat) : rs a b i = tm a b i * rs a b (i + 1) + rs a b (i + 2) := by
  have h := Nat.div_add_mod (rs a b i) (rs a b (i + 1))
  rw [Nat.mul_comm] at h
  exact h.symm
theorem rs_lt {a b N : Nat} (h : CFx a b N) {i : Nat} (hi : i < N) : rs a b (i + 2) < rs a b (i + 1) := Nat.mod_lt _ (h.1 i hi)
theorem rs_gcd (a b : Nat) : ∀ i, Nat.gcd (rs a b i) (rs a b (i + 1)) = Nat.gcd a b
  | 0 => rfl
  | n + 1 => by
    rw [← rs_gcd a b n]
    show Nat.gcd (rs a b (n + 1)) (rs a b n % rs a b (n + 1)) = _
    rw [Nat.gcd_comm (rs a b (n + 1)), ← Nat.gcd_rec, Nat.gcd_comm]
/-- a reduced fraction's expansion -/
def CF (a b N : Nat) : Prop := CFx a b N ∧ 1 ≤ N ∧ N ≤ 40 ∧ rs a b N = 1 ∧ 1 ≤ a ∧ a ≤ 1000000 ∧ 1 ≤ b ∧ b ≤ 1000000
theorem CF_of {a b : Nat} (ha : 1 ≤ a) (hA : a ≤ 1000000) (hb : 1 ≤ b) (hB : b ≤ 1000000) (hg : Nat.gcd a b = 1) : ∃ N, CF a b N := by
  obtain ⟨N, h1, h2⟩ := CFx_of_eN _ a b (eN_log 20 a b (by omega))
  refine ⟨N, h2, ?_, by omega, ?_, ha, hA, hb, hB⟩
  · rcases Nat.eq_zero_or_pos N with h | h
    · rw [h] at h2; have : b = 0 := h2.2; omega
    · exact h
  · have := rs_gcd a b N
    rw [h2.2, Nat.gcd_zero_right, hg] at this
    exact this
theorem CF_good {a b : Int32} (h : good a b) : ∃ N, CF a.toInt.toNat b.toInt.toNat N := by
  obtain ⟨h1, h2, h3, h4, h5⟩ := h
  exact CF_of (by omega) (by omega) (by omega) (by omega) h5
theorem rs_le {a b N : Nat} (h : CF a b N) : ∀ i, i ≤ N + 1 → rs a b i ≤ 1000000
  | 0, _ => h.2.2.2.2.2.1
  | 1, _ => h.2.2.2.2.2.2.2
  | i + 2, hi => by
    have := rs_lt h.1 (i := i) (by omega)
    have := rs_le h (i + 1) (by omega)
    omega
theorem tm_le {a b N : Nat} (h : CF a b N) {i : Nat} (hi : i < N) : tm a b i ≤ 1000000 := Nat.le_trans (Nat.div_le_self _ _) (rs_le h i (by omega))
/-- every term but the first is positive -/
theorem tm_pos {a b N : Nat} (h : CF a b N) {i : Nat} (h0 : 0 < i) (hi : i < N) : 1 ≤ tm a b i := by
  obtain ⟨j, rfl⟩ : ∃ j, i = j + 1 := ⟨i - 1, by omega⟩
  have h1 := rs_lt h.1 (i := j) (by omega)
  have h2 := h.1.1 (j + 1) hi
  show 1 ≤ rs a b (j + 1) / rs a b (j + 2)
  exact Nat.div_pos (Nat.le_of_lt h1) h2
/-- the last term is at least 2, but for 1 itself -/
theorem tm_last {a b N : Nat} (h : CF a b N) (hN : 2 ≤ N) : 2 ≤ tm a b (N - 1) := by
  obtain ⟨j, rfl⟩ : ∃ j, N = j + 2 := ⟨N - 2, by omega⟩
  show 2 ≤ rs a b (j + 1) / rs a b (j + 2)
  have h1 : rs a b (j + 2) = 1 := h.2.2.2.1
  have h2 := rs_lt h.1 (i := j) (by omega)
  rw [h1] at h2 ⊢
  omega
theorem tm_last1 {a b N : Nat} (h : CF a b N) : 1 ≤ tm a b (N - 1) := by
  rcases Nat.lt_or_ge N 2 with q | q
  · have hN : N = 1 := by have := h.2.1; omega
    subst hN
    show 1 ≤ rs a b 0 / rs a b 1
    have h1 : rs a b 1 = 1 := h.2.2.2.1
    rw [h1, Nat.div_one]
    exact h.2.2.2.2.1
  · have := tm_last h q; omega
/-- the length of the i-th run, among them perhaps one of no steps: the first -/
def rr (a b N i : Nat) : Nat := if i = N - 1 then tm a b i - 1 else tm a b i
theorem rr_pos {a b N : Nat} (h : CF a b N) {i : Nat} (h0 : 0 < i) (hi : i < N) : 1 ≤ rr a b N i := by
  unfold rr
  by_cases q : i = N - 1
  · rw [if_pos q, q]
    have := tm_last h (by omega)
    omega
  · rw [if_neg q]; exact tm_pos h h0 hi
theorem rr_le {a b N : Nat} (h : CF a b N) {i : Nat} (hi : i < N) : rr a b N i ≤ 1000000 := by
  have := tm_le h hi
  unfold rr
  split <;> omega
/-- arrays that hold the terms -/
def IsT (a b N : Nat) (f : Nat → Int32) : Prop := ∀ i, i < N → (f i).toInt = (tm a b i : Int)
theorem i_pos {v : Int32} {k : Nat} (h : v.toInt = (k : Int)) (hk : 0 < k) : ¬ v ≤ 0 ∧ ¬ v = 0 := by
  have h0 : (0 : Int32).toInt = 0 := rfl
  exact ⟨fun q => by have := i_le.mp q; omega, fun q => by rw [q] at h; omega⟩
theorem i_divmod {x y : Int32} {a b : Nat} (hx : x.toInt = (a : Int)) (hy : y.toInt = (b : Int)) (hb : 0 < b) : (x / y).toInt = ((a / b : Nat) : Int) ∧ (x - (x / y) * y).toInt = ((a % b : Nat) : Int) := by
  constructor
  · rw [i_div (by omega) (by omega), hx, hy, Int.natCast_ediv]
  · rw [i_rem (by omega) (by omega), hx, hy, Int.natCast_emod]
theorem ex7_L {a b N : Nat} (h : CF a b N) {post : Int32 → (Nat → Int32) → Prop} (hp : ∀ f, IsT a b N f → post (Int32.ofNat N) f) : ∀ (n k : Nat) (x y i : Int32) (f : Nat → Int32), k + n = N → x.toInt = (rs a b k : Int) → y.toInt = (rs a b (k + 1) : Int) → i.toInt = (k : Int) → (∀ j, j < k → (f j).toInt = (tm a b j : Int)) → w1_expand_L13 post (n + 1) x y i (Int32.ofNat k) f := by
  have l64 : (64 : Int32).toInt = 64 := rfl
  have l0 : (0 : Int32).toInt = 0 := rfl
  have l1 : (1 : Int32).toInt = 1 := rfl
  have hN := h.2.2.1
  intro n
  induction n with
  | zero =>
    intro k x y i f hk hx hy hi hf
    obtain rfl : k = N := by omega
    rw [w1_expand_L13]
    refine ⟨fun q => absurd (i_le.mp q) (by omega), fun _ => ⟨fun _ => hp f hf, fun q => absurd (i_le.mpr ?_) q⟩⟩
    rw [hy, h.1.2, l0]; exact Int.le_refl _
  | succ n ih =>
    intro k x y i f hk hx hy hi hf
    rw [w1_expand_L13]
    obtain ⟨hle, hne⟩ := i_pos hy (h.1.1 k (by omega))
    obtain ⟨e1, e2⟩ := i_divmod hx hy (h.1.1 k (by omega))
    have hsz : (Int32.ofNat k).toInt = (k : Int) := n_toInt (by omega)
    refine ⟨fun q => absurd (i_le.mp q) (by omega), fun _ => ⟨fun q => absurd q hle, fun _ => ⟨hne, ?_⟩⟩⟩
    unfold w1_append
    refine ⟨fun q => absurd (i_le.mp q) (by omega), fun _ => ⟨vin (by omega) (by omega), fun s es => ⟨hne, fun z ez j ej => ?_⟩⟩⟩
    rw [ofN_1] at es
    rw [es, natc hsz]
    refine ih (k + 1) y z j _ (by omega) hy (by rw [ez, e2]; rfl) (nxt hi (by omega) ej) (fun q hq => ?_)
    by_cases hqk : q = k
    · subst hqk
      rw [upd_eq]; exact e1
    · rw [upd_ne _ _ hqk]; exact hf q (by omega)
theorem s1_expand {a b N : Nat} (h : CF a b N) {x y s : Int32} {f : Nat → Int32} (hx : x.toInt = (a : Int)) (hy : y.toInt = (b : Int)) {post : Int32 → (Nat → Int32) → Prop} (hp : ∀ f, IsT a b N f → post (Int32.ofNat N) f) : w1_expand s f x y post :=
  ⟨_, ex7_L h hp N 0 x y 0 f (by omega) hx hy rfl (fun j hj => absurd hj (by omega))⟩
theorem lt8_L {a b N : Nat} (h : CF a b N) {post : Int32 → (Nat → Int32) → Prop} (hp : ∀ f, IsT a b N f → post (Int32.ofNat N) f) : ∀ (n k : Nat) (x y : Int32) (f : Nat → Int32), k + n = N → x.toInt = (rs a b k : Int) → y.toInt = (rs a b (k + 1) : Int) → (∀ j, j < k → (f j).toInt = (tm a b j : Int)) → w8_layTerms_L10 post (n + 1) x y (Int32.ofNat k) f := by
  have l0 : (0 : Int32).toInt = 0 := rfl
  have hN := h.2.2.1
  intro n
  induction n with
  | zero =>
    intro k x y f hk hx hy hf
    obtain rfl : k = N := by omega
    rw [w8_layTerms_L10]
    exact ⟨fun _ => hp f hf, fun q => absurd (i_ext (by rw [hy, h.1.2]; rfl)) q⟩
  | succ n ih =>
    intro k x y f hk hx hy hf
    rw [w8_layTerms_L10]
    obtain ⟨hle, hne⟩ := i_pos hy (h.1.1 k (by omega))
    obtain ⟨e1, e2⟩ := i_divmod hx hy (h.1.1 k (by omega))
    have hsz : (Int32.ofNat k).toInt = (k : Int) := n_toInt (by omega)
    refine ⟨fun q => absurd q hne, fun _ => ⟨hne, vin (by omega) (by omega), fun s es => ⟨hne, fun z ez => ?_⟩⟩⟩
    rw [ofN_1] at es
    rw [es, natc hsz]
    refine ih (k + 1) y z _ (by omega) hy (by rw [ez, e2]; rfl) (fun q hq => ?_)
    by_cases hqk : q = k
    · subst hqk
      rw [upd_eq]; exact e1
    · rw [upd_ne _ _ hqk]; exact hf q (by omega)
theorem s8_layTerms {a b N : Nat} (h : CF a b N) {x y s : Int32} {f : Nat → Int32} (hx : x.toInt = (a : Int)) (hy : y.toInt = (b : Int)) {post : Int32 → (Nat → Int32) → Prop} (hp : ∀ f, IsT a b N f → post (Int32.ofNat N) f) : w8_layTerms s f x y post :=
  ⟨_, lt8_L h hp N 0 x y f (by omega) hx hy (fun j hj => absurd hj (by omega))⟩
/-- the expansion of a register -/
theorem IReg.cf {t b a e : Nat → Int32} (h : IReg t b a e) {i : Nat} (hi : i < 8) : ∃ A B N : Nat, CF A B N ∧ (t i).toInt = (A : Int) ∧ (b i).toInt = (B : Int) ∧ (a i).toInt = (A : Int) ∧ (e i).toInt = (B : Int) := by
  obtain ⟨h1, h2, h3⟩ := h i hi
  obtain ⟨N, hN⟩ := CF_good h3
  have a1 := h3.1
  have a2 := h3.2.2.1
  refine ⟨_, _, N, hN, ?_, ?_, ?_, ?_⟩
  · rw [h1]; omega
  · rw [h2]; omega
  · omega
  · omega
theorem op_termCount : Op_termCount := by
  intro x_hasSnapshot x_termListSize x_textSize x_tops x_bottoms x_slots x_savedTops x_savedBottoms x_savedSlots x_termList x_text x_arraySizes x_E_size x_E_terms x_arrays0 x_arrays1 x_arrays2 m_terms m_listed m_fed m_hasSnapshot m_above m_below m_term m_list m_text m_kindOf m_nodeAbove m_nodeBelow m_length m_cell m_savedAbove m_savedBelow m_savedKind m_savedNodeAbove m_savedNodeBelow PL kk tt bb v1 hI
  obtain ⟨hReg, hList, hText, hArr, hNode, hHs, hHs01, hSnap⟩ := id hI
  unfold w7_termCount w8_termCount w7_expand w1_size
  by_cases h1 : isR v1
  rotate_left
  · simp only [r7n h1, r8n h1, b01, b00, false_implies, true_implies, not_true_eq_false, not_false_eq_true, true_and, and_true]; exact hI
  simp only [r7y h1, r8y h1, b01, b00, false_implies, true_implies, not_true_eq_false, not_false_eq_true, true_and, and_true]
  obtain ⟨A, B, N, hC, e1, e2, e3, e4⟩ := hReg.cf h1.lt
  exact ⟨h1.vin, h1.vin, s1_expand hC e1 e2 (fun f hf => ⟨h1.vin, h1.vin, s8_layTerms hC e3 e4 (fun g hg => ⟨rfl, hI⟩)⟩)⟩
theorem op_term : Op_term := by
  intro x_hasSnapshot x_termListSize x_textSize x_tops x_bottoms x_slots x_savedTops x_savedBottoms x_savedSlots x_termList x_text x_arraySizes x_E_size x_E_terms x_arrays0 x_arrays1 x_arrays2 m_terms m_listed m_fed m_hasSnapshot m_above m_below m_term m_list m_text m_kindOf m_nodeAbove m_nodeBelow m_length m_cell m_savedAbove m_savedBelow m_savedKind m_savedNodeAbove m_savedNodeBelow PL kk tt bb v1 v2 hI
  obtain ⟨hReg, hList, hText, hArr, hNode, hHs, hHs01, hSnap⟩ := id hI
  unfold w7_term w8_term w7_expand w1_size w1_at
  by_cases h1 : isR v1
  rotate_left
  · simp only [r7n h1, r8n h1, b01, b00, false_implies, true_implies, not_true_eq_false, not_false_eq_true, true_and, and_true]; exact hI
  simp only [r7y h1, r8y h1, b01, b00, false_implies, true_implies, not_true_eq_false, not_false_eq_true, true_and, and_true]
  obtain ⟨A, B, N, hC, e1, e2, e3, e4⟩ := hReg.cf h1.lt
  have l0 : (0 : Int32).toInt = 0 := rfl
  have hN := hC.2.2.1
  have hNi : (Int32.ofNat N).toInt = (N : Int) := n_toInt (by omega)
  refine ⟨fun k => ⟨h1.vin, h1.vin, s1_expand hC e1 e2 (fun f hf => ⟨fun q => ⟨fun _ => ⟨h1.vin, h1.vin, s8_layTerms hC e3 e4 (fun g hg => ⟨fun _ => hI, fun z => absurd q z⟩)⟩, fun z => absurd k z⟩, fun q => ⟨fun z => ?_, fun _ => ⟨fun z => absurd z q, fun _ => ?_⟩⟩⟩)⟩, fun k => ⟨fun q => absurd q k, fun _ => hI⟩⟩
  · have := i_lt.mp z
    have := i_le.mp k
    omega
  · have k0 := i_le.mp k
    have k1 : v2.toInt < N := by
      have : ¬ (Int32.ofNat N).toInt ≤ v2.toInt := fun z => q (i_le.mpr z)
      omega
    have hv : vp_in v2 64 := vin (by omega) (by omega)
    have hc := clamp (v := v2) (by omega)
    refine ⟨hv, fun _ => ⟨h1.vin, h1.vin, s8_layTerms hC e3 e4 (fun g hg => ⟨fun z => absurd z q, fun _ => ⟨hv, i_ext ?_, hI⟩⟩)⟩, fun z => absurd k z⟩
    rw [hf _ (by omega), hg _ (by omega)]
