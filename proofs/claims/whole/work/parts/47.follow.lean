/-! followPath -/
def pLt (c : Nat → Nat) (k : Nat) : Prop := c k = 76 ∨ c k = 82
def pOk (d c : Nat) : Prop := 48 ≤ c ∧ c ≤ 57 ∧ d < 6 ∧ (0 < d ∨ ¬ c = 48)
noncomputable def pIf {α : Sort _} (c : Nat → Nat) (k : Nat) (x y : α) : α := @ite α (pLt c k) (Classical.propDecidable _) x y
theorem pIf_y {α : Sort _} {c : Nat → Nat} {k : Nat} (h : pLt c k) (x y : α) : pIf c k x y = x := if_pos h
theorem pIf_n {α : Sort _} {c : Nat → Nat} {k : Nat} (h : ¬ pLt c k) (x y : α) : pIf c k x y = y := if_neg h
/-- steps begun, digits of the last one, counts, directions: of the first k characters -/
noncomputable def pR (c : Nat → Nat) : Nat → Nat
  | 0 => 0
  | k + 1 => pIf c k (pR c k + 1) (pR c k)
noncomputable def pD (c : Nat → Nat) : Nat → Nat
  | 0 => 6
  | k + 1 => pIf c k 0 (pD c k + 1)
noncomputable def pS (c : Nat → Nat) : Nat → Nat → Nat
  | 0, _ => 0
  | k + 1, j => pIf c k (if j = pR c k then 1 else pS c k j) (if j = pR c k - 1 then (if pD c k = 0 then 0 else 10 * pS c k j) + (c k - 48) else pS c k j)
noncomputable def pT (c : Nat → Nat) : Nat → Nat → Int32
  | 0, _ => 0
  | k + 1, j => pIf c k (if j = pR c k then (if c k = 82 then 1 else 0) else pT c k j) (pT c k j)
def pVd (c : Nat → Nat) (k : Nat) : Prop := ∀ i, i < k → pLt c i ∨ pOk (pD c i) (c i)
def pBad (c : Nat → Nat) (k : Nat) : Prop := ¬ pLt c k ∧ ¬ pOk (pD c k) (c k)
theorem pVd.le {c : Nat → Nat} {k j : Nat} (h : pVd c k) (hj : j ≤ k) : pVd c j := fun i hi => h i (by omega)
theorem pD_le {c : Nat → Nat} : ∀ {k}, pVd c k → pD c k ≤ 6
  | 0, _ => Nat.le_refl _
  | k + 1, h => by
    show pIf c k 0 (pD c k + 1) ≤ 6
    rcases Classical.em (pLt c k) with q | q
    · rw [pIf_y q]; omega
    · rw [pIf_n q]
      rcases h k (by omega) with w | w
      · exact absurd w q
      · have := w.2.2.1; omega
theorem pR_pos {c : Nat → Nat} : ∀ {k}, pVd c k → 1 ≤ k → 1 ≤ pR c k
  | 0, _, h => absurd h (by omega)
  | k + 1, h, _ => by
    show 1 ≤ pIf c k (pR c k + 1) (pR c k)
    rcases Classical.em (pLt c k) with q | q
    · rw [pIf_y q]; omega
    · rw [pIf_n q]
      rcases h k (by omega) with w | w
      · exact absurd w q
      · rcases Nat.eq_zero_or_pos k with z | z
        · subst z; exact absurd w.2.2.1 (by show ¬ 6 < 6; omega)
        · exact pR_pos (h.le (by omega)) z
theorem pR_le (c : Nat → Nat) : ∀ k, pR c k ≤ k
  | 0 => Nat.le_refl _
  | k + 1 => by
    have := pR_le c k
    show pIf c k (pR c k + 1) (pR c k) ≤ k + 1
    rcases Classical.em (pLt c k) with q | q
    · rw [pIf_y q]; omega
    · rw [pIf_n q]; omega
theorem pS_bnd {c : Nat → Nat} : ∀ {k}, pVd c k → (∀ j, pS c k j ≤ 999999) ∧ (1 ≤ k → (pD c k = 0 → pS c k (pR c k - 1) = 1) ∧ (1 ≤ pD c k → pS c k (pR c k - 1) < 10 ^ pD c k))
  | 0, _ => ⟨fun j => Nat.zero_le _, fun h => absurd h (by omega)⟩
  | k + 1, h => by
    obtain ⟨h1, h2⟩ := pS_bnd (h.le (show k ≤ k + 1 by omega))
    have eD : pD c (k + 1) = pIf c k 0 (pD c k + 1) := rfl
    have eR : pR c (k + 1) = pIf c k (pR c k + 1) (pR c k) := rfl
    have eS : ∀ j, pS c (k + 1) j = pIf c k (if j = pR c k then 1 else pS c k j) (if j = pR c k - 1 then (if pD c k = 0 then 0 else 10 * pS c k j) + (c k - 48) else pS c k j) := fun j => rfl
    rcases Classical.em (pLt c k) with q | q
    · rw [pIf_y q] at eD eR
      refine ⟨fun j => ?_, fun _ => ⟨fun _ => ?_, fun z => by omega⟩⟩
      · rw [eS, pIf_y q]
        split
        · omega
        · exact h1 j
      · rw [eS, pIf_y q, eR, if_pos (by omega)]
    · rw [pIf_n q] at eD eR
      rcases h k (by omega) with w | w
      · exact absurd w q
      · have hk : 1 ≤ k := by
          rcases Nat.eq_zero_or_pos k with z | z
          · subst z; exact absurd w.2.2.1 (by show ¬ 6 < 6; omega)
          · exact z
        obtain ⟨h3, h4⟩ := h2 hk
        obtain ⟨w1, w2, w3, w4⟩ := w
        have key : (if pD c k = 0 then 0 else 10 * pS c k (pR c k - 1)) + (c k - 48) < 10 ^ (pD c k + 1) := by
          by_cases z : pD c k = 0
          · rw [if_pos z, z]; omega
          · rw [if_neg z, Nat.pow_succ]
            have := h4 (by omega)
            omega
        have hp : 10 ^ (pD c k + 1) ≤ 10 ^ 6 := Nat.pow_le_pow_right (by omega) (by omega)
        have e6 : (10 : Nat) ^ 6 = 1000000 := rfl
        refine ⟨fun j => ?_, fun _ => ⟨fun z => by omega, fun _ => ?_⟩⟩
        · rw [eS, pIf_n q]
          by_cases z : j = pR c k - 1
          · rw [if_pos z, z]; omega
          · rw [if_neg z]; exact h1 j
        · rw [eS, pIf_n q, eR, if_pos rfl, eD]; exact key
/-- the steps, from the last one to the first -/
def pA (st : Nat → Nat) (tw : Nat → Int32) : Nat → Nat → Nat → Option (Nat × Nat)
  | 0, p, q => some (p, q)
  | j + 1, p, q => if tw j = 1 then (if 1000000 < p + st j * q then none else pA st tw j (p + st j * q) q) else (if 1000000 < q + st j * p then none else pA st tw j p (q + st j * p))
theorem pA_congr {st su : Nat → Nat} {tw tu : Nat → Int32} : ∀ {R p q}, (∀ j, j < R → st j = su j ∧ tw j = tu j) → pA st tw R p q = pA su tu R p q
  | 0, _, _, _ => rfl
  | j + 1, p, q, h => by
    obtain ⟨e1, e2⟩ := h j (by omega)
    have ih1 := fun p q => pA_congr (R := j) (p := p) (q := q) (fun i hi => h i (by omega))
    show (if tw j = 1 then _ else _) = (if tu j = 1 then _ else _)
    rw [e1, e2, ih1, ih1]
theorem fw7_L {f : Nat → Int32} {c : Nat → Nat} {n : Nat} (hn : n ≤ 60) (hf : ∀ i, i < n → (f i).toInt = (c i : Int)) {sz : Int32} (hsz : sz.toInt = (n : Int)) {post : Int32 → Prop} (hp0 : pVd c n → post (-1)) (hp1 : ∀ k, k < n → pVd c k → pBad c k → post (Int32.ofNat k)) : ∀ (m k : Nat) (d i : Int32), k + m = n → pVd c k → d.toInt = (pD c k : Int) → i.toInt = (k : Int) → w7_firstWrongCharacter_L5 sz f post (m + 1) d i := by
  have l0 : (0 : Int32).toInt = 0 := rfl
  have l6 : (6 : Int32).toInt = 6 := rfl
  have l48 : (48 : Int32).toInt = 48 := rfl
  have l57 : (57 : Int32).toInt = 57 := rfl
  have l76 : (76 : Int32).toInt = 76 := rfl
  have l82 : (82 : Int32).toInt = 82 := rfl
  intro m
  induction m with
  | zero =>
    intro k d i hk hv hd hi
    obtain rfl : k = n := by omega
    rw [w7_firstWrongCharacter_L5]
    exact ⟨fun _ => hp0 hv, fun z => absurd (i_le.mpr (by omega)) z⟩
  | succ m ih =>
    intro k d i hk hv hd hi
    have hc := hf k (by omega)
    have hdl := pD_le hv
    have eD : pD c (k + 1) = pIf c k 0 (pD c k + 1) := rfl
    have nextL : pLt c k → pVd c (k + 1) ∧ pD c (k + 1) = 0 := fun q => ⟨fun j hj => by
      rcases (show j < k ∨ j = k by omega) with w | w
      · exact hv j w
      · rw [w]; exact Or.inl q, by rw [eD, pIf_y q]⟩
    have nextD : ¬ pLt c k → pOk (pD c k) (c k) → pVd c (k + 1) ∧ pD c (k + 1) = pD c k + 1 := fun q w => ⟨fun j hj => by
      rcases (show j < k ∨ j = k by omega) with y | y
      · exact hv j y
      · rw [y]; exact Or.inr w, by rw [eD, pIf_n q]⟩
    have bad : ¬ pLt c k → ¬ pOk (pD c k) (c k) → post i := fun q w => by
      rw [of_toInt hi]; exact hp1 k (by omega) hv ⟨q, w⟩
    rw [w7_firstWrongCharacter_L5]
    refine ⟨fun z => absurd (i_le.mp z) (by omega), fun _ => ⟨vin (by omega) (by omega), fun x ex => ?_⟩⟩
    rw [natc hi] at ex
    have hx : x.toInt = (c k : Int) := by rw [ex, hc]
    refine ⟨fun z j ej => ?_, fun z1 => ⟨fun z2 => ?_, fun z j ej => ?_⟩⟩
    · obtain ⟨v1, v2⟩ := nextL (Or.inl (by rw [z, l76] at hx; omega))
      exact ih (k + 1) 0 j (by omega) v1 (by rw [v2]; rfl) (nxt hi (by omega) ej)
    · have q : ¬ pLt c k := by
        rintro (w | w)
        · exact z1 (i_ext (by omega))
        · exact z2 (i_ext (by omega))
      unfold w7_isDigit
      refine ⟨fun y => ⟨fun _ => bad q (fun w => ?_), fun w => absurd rfl w⟩, fun yd => ⟨fun w => ⟨fun _ => bad q (fun o => ?_), fun o => absurd rfl o⟩, fun w => ⟨fun o => absurd o (by decide), fun _ => ⟨fun o => bad q (fun r => ?_), fun o => ⟨fun u y eu j ej => ?_, fun u => ⟨fun y => bad q (fun r => ?_), fun y e ee j ej => ?_⟩⟩⟩⟩⟩⟩
      · have := i_lt.mp y
        have := w.1; omega
      · have := i_lt.mp w
        have := o.2.1; omega
      · have := i_le.mp o
        have := r.2.2.1; omega
      · have y1 : ¬ x.toInt < (48 : Int32).toInt := fun r => yd (i_lt.mpr r)
        have w1 : ¬ (57 : Int32).toInt < x.toInt := fun r => w (i_lt.mpr r)
        have o1 : ¬ (6 : Int32).toInt ≤ d.toInt := fun r => o (i_le.mpr r)
        have u1 := i_lt.mp u
        obtain ⟨v1, v2⟩ := nextD q ⟨by omega, by omega, by omega, Or.inl (by omega)⟩
        exact ih (k + 1) y j (by omega) v1 (by rw [v2]; exact nxt hd (by omega) eu) (nxt hi (by omega) ej)
      · have u1 : ¬ (0 : Int32).toInt < d.toInt := fun r => u (i_lt.mpr r)
        rw [y, l48] at hx
        obtain ⟨_, _, _, r4⟩ := r
        omega
      · have y1 : ¬ x.toInt < (48 : Int32).toInt := fun r => yd (i_lt.mpr r)
        have w1 : ¬ (57 : Int32).toInt < x.toInt := fun r => w (i_lt.mpr r)
        have o1 : ¬ (6 : Int32).toInt ≤ d.toInt := fun r => o (i_le.mpr r)
        have y2 : ¬ c k = 48 := fun r => y (i_ext (by rw [hx, l48, r]; rfl))
        obtain ⟨v1, v2⟩ := nextD q ⟨by omega, by omega, by omega, Or.inr y2⟩
        exact ih (k + 1) e j (by omega) v1 (by rw [v2]; exact nxt hd (by omega) ee) (nxt hi (by omega) ej)
    · obtain ⟨v1, v2⟩ := nextL (Or.inr (by rw [z, l82] at hx; omega))
      exact ih (k + 1) 0 j (by omega) v1 (by rw [v2]; rfl) (nxt hi (by omega) ej)
