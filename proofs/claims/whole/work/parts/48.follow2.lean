/-! followPath: the model's reading, and both applications -/
theorem d7y {v : Int32} {c : Nat} (hv : v.toInt = (c : Int)) (h1 : 48 ≤ c) (h2 : c ≤ 57) {post : Int32 → Prop} (hp : post 1) : w7_isDigit v post := by
  have l48 : (48 : Int32).toInt = 48 := rfl
  have l57 : (57 : Int32).toInt = 57 := rfl
  exact ⟨fun z => absurd (i_lt.mp z) (by omega), fun _ => ⟨fun z => absurd (i_lt.mp z) (by omega), fun _ => hp⟩⟩
theorem d7n {v : Int32} {c : Nat} (hv : v.toInt = (c : Int)) (h2 : 57 < c) {post : Int32 → Prop} (hp : post 0) : w7_isDigit v post := by
  have l57 : (57 : Int32).toInt = 57 := rfl
  exact ⟨fun _ => hp, fun _ => ⟨fun _ => hp, fun z => absurd (i_lt.mpr (by omega)) z⟩⟩
theorem pS_L {c : Nat → Nat} {k : Nat} (q : pLt c k) : pD c (k + 1) = 0 ∧ pR c (k + 1) = pR c k + 1 ∧ (∀ j, pS c (k + 1) j = if j = pR c k then 1 else pS c k j) ∧ ∀ j, pT c (k + 1) j = if j = pR c k then (if c k = 82 then 1 else 0) else pT c k j :=
  ⟨pIf_y q _ _, pIf_y q _ _, fun _ => pIf_y q _ _, fun _ => pIf_y q _ _⟩
theorem pS_D {c : Nat → Nat} {k : Nat} (q : ¬ pLt c k) : pD c (k + 1) = pD c k + 1 ∧ pR c (k + 1) = pR c k ∧ (∀ j, pS c (k + 1) j = if j = pR c k - 1 then (if pD c k = 0 then 0 else 10 * pS c k j) + (c k - 48) else pS c k j) ∧ ∀ j, pT c (k + 1) j = pT c k j :=
  ⟨pIf_n q _ _, pIf_n q _ _, fun _ => pIf_n q _ _, fun _ => pIf_n q _ _⟩
theorem pVd_L {c : Nat → Nat} {k : Nat} (hv : pVd c k) (q : pLt c k) : pVd c (k + 1) := fun j hj => by
  rcases (show j < k ∨ j = k by omega) with w | w
  · exact hv j w
  · rw [w]; exact Or.inl q
theorem pVd_D {c : Nat → Nat} {k : Nat} (hv : pVd c k) (q : pOk (pD c k) (c k)) : pVd c (k + 1) := fun j hj => by
  rcases (show j < k ∨ j = k by omega) with w | w
  · exact hv j w
  · rw [w]; exact Or.inr q
theorem rt8_L {f : Nat → Int32} {c : Nat → Nat} {n : Nat} (hn : n ≤ 60) (hf : ∀ i, i < n → (f i).toInt = (c i : Int)) {sz : Int32} (hsz : sz.toInt = (n : Int)) {post : Int32 → Int32 → (Nat → Int32) → (Nat → Int32) → Prop} (hp0 : pVd c n → ∀ (r : Int32) (s t : Nat → Int32), r.toInt = (pR c n : Int) → (∀ j, j < pR c n → (s j).toInt = (pS c n j : Int) ∧ t j = pT c n j) → post (-1) r s t) (hp1 : ∀ k, k < n → pVd c k → pBad c k → ∀ (r : Int32) (s t : Nat → Int32), post (Int32.ofNat k) r s t) : ∀ (m k : Nat) (d i r : Int32) (s t : Nat → Int32), k + m = n → pVd c k → d.toInt = (pD c k : Int) → i.toInt = (k : Int) → r.toInt = (pR c k : Int) → (∀ j, j < pR c k → (s j).toInt = (pS c k j : Int) ∧ t j = pT c k j) → w8_readText_L10 f sz post (m + 1) d i r s t := by
  have l0 : (0 : Int32).toInt = 0 := rfl
  have l1 : (1 : Int32).toInt = 1 := rfl
  have l6 : (6 : Int32).toInt = 6 := rfl
  have l10 : (10 : Int32).toInt = 10 := rfl
  have l48 : (48 : Int32).toInt = 48 := rfl
  have l76 : (76 : Int32).toInt = 76 := rfl
  have l82 : (82 : Int32).toInt = 82 := rfl
  have g48 : (48 : Int64).toInt = 48 := rfl
  have g49 : (49 : Int64).toInt = 49 := rfl
  have g57 : (57 : Int64).toInt = 57 := rfl
  intro m
  induction m with
  | zero =>
    intro k d i r s t hk hv hd hi hr hst
    obtain rfl : k = n := by omega
    rw [w8_readText_L10]
    exact ⟨fun _ => hp0 hv r s t hr hst, fun z => absurd (i_le.mpr (by omega)) z⟩
  | succ m ih =>
    intro k d i r s t hk hv hd hi hr hst
    have hc := hf k (by omega)
    have hdl := pD_le hv
    have hRl := pR_le c k
    rw [w8_readText_L10]
    refine ⟨fun z => absurd (i_le.mp z) (by omega), fun _ => ⟨vin (by omega) (by omega), fun x ex => ?_⟩⟩
    rw [natc hi] at ex
    have hx : x.toInt = (c k : Int) := by rw [ex, hc]
    have bad : ¬ pLt c k → ¬ pOk (pD c k) (c k) → post i r s t := fun q w => by
      rw [of_toInt hi]; exact hp1 k (by omega) hv ⟨q, w⟩ r s t
    have letter : pLt c k → w8_readText_J37 r f s t sz i x post (fun z0 z1 z2 z3 z4 => w8_readText_L10 f sz post (m + 1) z0 z1 z2 z3 z4) := by
      intro q
      obtain ⟨a1, a2, a3, a4⟩ := pS_L q
      unfold w8_readText_J37 w8_readText_J67
      rw [natc hr]
      have fin : ∀ (d0 : Int32), d0 = (if c k = 82 then 1 else 0) → ∀ u, u = r + 1 → ∀ j, j = i + 1 → w8_readText_L10 f sz post (m + 1) 0 j u (upd s (pR c k) 1) (upd t (pR c k) d0) := by
        intro d0 hd0 u eu j ej
        refine ih (k + 1) 0 j u _ _ (by omega) (pVd_L hv q) (by rw [a1]; rfl) (nxt hi (by omega) ej) (by rw [a2]; exact nxt hr (by omega) eu) (fun y hy => ?_)
        rw [a3, a4]
        by_cases w : y = pR c k
        · rw [if_pos w, if_pos w, w, upd_eq, upd_eq]; exact ⟨rfl, hd0⟩
        · rw [if_neg w, if_neg w, upd_ne _ _ w, upd_ne _ _ w]; exact hst y (by omega)
      refine ⟨vin (by omega) (by omega), fun z => ⟨vin (by omega) (by omega), fin 0 ?_⟩, fun z => ⟨vin (by omega) (by omega), fin 1 ?_⟩⟩
      · rw [if_neg (fun w => z (i_ext (by rw [hx, w]; rfl)))]
      · rw [if_pos (by rw [z, l82] at hx; omega)]
    refine ⟨fun z => letter (Or.inl (by rw [z, l76] at hx; omega)), fun z1 => ⟨fun z2 => ?_, fun z => letter (Or.inr (by rw [z, l82] at hx; omega))⟩⟩
    have q : ¬ pLt c k := by
      rintro (w | w)
      · exact z1 (i_ext (by omega))
      · exact z2 (i_ext (by omega))
    refine ⟨fun y => bad q (fun w => ?_), fun y => ?_⟩
    · have := w.2.2.1
      rw [y, l6] at hd; omega
    have y6 : ¬ pD c k = 6 := fun w => y (i_ext (by rw [hd, w]; rfl))
    have hx64 : x.toInt64.toInt = (c k : Int) := by rw [t64, hx]
    have good : ∀ w : Int32, w.toInt = ((if pD c k = 0 then 0 else 10 * pS c k (pR c k - 1) : Nat) : Int) + (c k : Int) - 48 → pOk (pD c k) (c k) → 1 ≤ pR c k → ∀ u, u = d + 1 → ∀ j, j = i + 1 → w8_readText_L10 f sz post (m + 1) u j r (upd s (pR c k - 1) w) t := by
      intro w hw ho hR u eu j ej
      obtain ⟨a1, a2, a3, a4⟩ := pS_D q
      refine ih (k + 1) u j r _ t (by omega) (pVd_D hv ho) (by rw [a1]; exact nxt hd (by omega) eu) (nxt hi (by omega) ej) (by rw [a2]; exact hr) (fun y hy => ?_)
      rw [a2] at hy
      rw [a3, a4]
      have h48 := ho.1
      by_cases e : y = pR c k - 1
      · rw [if_pos e, e, upd_eq]
        refine ⟨by rw [hw]; omega, (hst _ (by omega)).2⟩
      · rw [if_neg e, upd_ne _ _ e]; exact hst y hy
    have hk1 : pOk (pD c k) (c k) → 1 ≤ k := fun ho => by
      rcases Nat.eq_zero_or_pos k with z | z
      · subst z; exact absurd ho.2.2.1 (by show ¬ 6 < 6; omega)
      · exact z
    refine ⟨fun w => ?_, fun w => ?_⟩
    · have w0 : ¬ pD c k = 0 := fun o => w (i_ext (by rw [hd, o]; rfl))
      unfold w8_readText_J105
      by_cases o : 48 ≤ c k ∧ c k ≤ 57
      · have ho : pOk (pD c k) (c k) := ⟨o.1, o.2, by omega, Or.inl (by omega)⟩
        have hR := pR_pos hv (hk1 ho)
        rw [w8y (lo := 48) (hi := 57) (by rw [hx64, g48, g57]; omega)]
        have er : (r - 1).toInt = ((pR c k - 1 : Nat) : Int) := by rw [i_sub (by omega) (by omega), hr, l1]; omega
        have hs := (hst (pR c k - 1) (by omega)).1
        have hb := (pS_bnd hv).1 (pR c k - 1)
        rw [natc er]
        refine ⟨fun _ => ⟨fun _ => ⟨vin (by omega) (by omega), vin (by omega) (by omega), good _ ?_ ho hR⟩, fun e => absurd e w⟩, fun e => absurd e (by decide)⟩
        have m1 : ((10 : Int32) * s (pR c k - 1)).toInt = 10 * (pS c k (pR c k - 1) : Int) := by rw [i_mul (by rw [l10]; omega) (by rw [l10]; omega), l10, hs]
        have m2 : ((10 : Int32) * s (pR c k - 1) + x).toInt = 10 * (pS c k (pR c k - 1) : Int) + (c k : Int) := by rw [i_add (by omega) (by omega), m1, hx]
        rw [i_sub (by omega) (by omega), m2, l48, if_neg w0]; push_cast; omega
      · rw [w8n (lo := 48) (hi := 57) (by rw [hx64, g48, g57]; omega)]
        exact ⟨fun e => absurd rfl e, fun _ => bad q (fun r => o ⟨r.1, r.2.1⟩)⟩
    · have w0 : pD c k = 0 := by rw [w, l0] at hd; omega
      unfold w8_readText_J105
      by_cases o : 49 ≤ c k ∧ c k ≤ 57
      · have ho : pOk (pD c k) (c k) := ⟨by omega, o.2, by omega, Or.inr (by omega)⟩
        have hR := pR_pos hv (hk1 ho)
        rw [w8y (lo := 49) (hi := 57) (by rw [hx64, g49, g57]; omega)]
        have er : (r - 1).toInt = ((pR c k - 1 : Nat) : Int) := by rw [i_sub (by omega) (by omega), hr, l1]; omega
        rw [natc er]
        refine ⟨fun _ => ⟨fun e => absurd w e, fun _ => ⟨vin (by omega) (by omega), good _ ?_ ho hR⟩⟩, fun e => absurd e (by decide)⟩
        have m2 : ((0 : Int32) + x).toInt = (c k : Int) := by rw [i_add (by omega) (by omega), l0, hx]; omega
        rw [i_sub (by omega) (by omega), m2, l48, if_pos w0]; push_cast; omega
      · rw [w8n (lo := 49) (hi := 57) (by rw [hx64, g49, g57]; omega)]
        refine ⟨fun e => absurd rfl e, fun _ => bad q (fun r => ?_)⟩
        obtain ⟨r1, r2, r3, r4⟩ := r
        omega
theorem fp8_L {rd : Int32} {ab be s t : Nat → Int32} {v1 : Int32} (h1 : isR v1) {st : Nat → Nat} {tw : Nat → Int32} {R : Nat} (hR : R ≤ 60) (hst : ∀ j, j < R → (s j).toInt = (st j : Int) ∧ t j = tw j) (hsb : ∀ j, st j ≤ 999999) {post : Int32 → Int32 → Int32 → (Nat → Int32) → (Nat → Int32) → (Nat → Int32) → (Nat → Int32) → Prop} : ∀ (j p q : Nat) (X Y : Int64) (v : Int32), j ≤ R → v.toInt = (j : Int) - 1 → X.toInt = (p : Int) → Y.toInt = (q : Int) → 1 ≤ p → 1 ≤ q → p ≤ 1000000 → q ≤ 1000000 → (pA st tw j p q = none → post (-3) 0 rd ab be s t) → (∀ P Q, pA st tw j p q = some (P, Q) → 1 ≤ P → 1 ≤ Q → post (stR P Q) 0 rd (stF ab v1 P Q P) (stF be v1 P Q Q) s t) → w8_followPath_L67 0 rd ab be s t v1 post (j + 1) X Y v := by
  have l0 : (0 : Int32).toInt = 0 := rfl
  have l6 : (1000000 : Int64).toInt = ((1000000 : Nat) : Int) := rfl
  intro j
  induction j with
  | zero =>
    intro p q X Y v hj hv hX hY hp1 hq1 hp2 hq2 hN hS
    rw [w8_followPath_L67]
    exact ⟨fun _ => s8_st h1 hX hY (by omega) (by omega) (hS p q rfl hp1 hq1), fun z => absurd (i_lt.mpr (by omega)) z⟩
  | succ j ih =>
    intro p q X Y v hj hv hX hY hp1 hq1 hp2 hq2 hN hS
    have hv' : v.toInt = (j : Int) := by omega
    obtain ⟨g1, g2⟩ := hst j (by omega)
    have gb := hsb j
    have b1 := Nat.mul_le_mul gb hp2
    have b2 := Nat.mul_le_mul gb hq2
    have eA : pA st tw (j + 1) p q = if tw j = 1 then (if 1000000 < p + st j * q then none else pA st tw j (p + st j * q) q) else (if 1000000 < q + st j * p then none else pA st tw j p (q + st j * p)) := rfl
    rw [w8_followPath_L67, natc hv', g2]
    refine ⟨fun z => absurd (i_lt.mp z) (by omega), fun _ => ⟨vin (by omega) (by omega), fun z => ⟨vin (by omega) (by omega), fun Z eZ => ?_⟩, fun z => ⟨vin (by omega) (by omega), fun Z eZ => ?_⟩⟩⟩
    · rw [if_neg z] at eA
      have tZ : Z.toInt = ((q + st j * p : Nat) : Int) := by rw [eZ]; exact nl_add hY (nl_mul (by rw [t64, g1]) hX (by omega)) (by omega)
      unfold w8_followPath_J118
      refine ⟨fun y => absurd ((nl_lt l6 hX).mp y) (by omega), fun _ => ⟨fun y u eu => ?_, fun y => hN ?_⟩⟩
      · have y := (nl_le tZ l6).mp y
        rw [if_neg (by omega)] at eA
        rw [eA] at hN hS
        exact ih p (q + st j * p) X Z u (by omega) (i_pred hv' eu) hX tZ hp1 (by omega) hp2 y hN hS
      · have y : ¬ q + st j * p ≤ 1000000 := fun w => y ((nl_le tZ l6).mpr w)
        rw [eA, if_pos (by omega)]
    · rw [if_pos z] at eA
      have tZ : Z.toInt = ((p + st j * q : Nat) : Int) := by rw [eZ]; exact nl_add hX (nl_mul (by rw [t64, g1]) hY (by omega)) (by omega)
      unfold w8_followPath_J118
      refine ⟨fun y => hN ?_, fun y => ⟨fun _ u eu => ?_, fun w => absurd ((nl_le hY l6).mpr hq2) w⟩⟩
      · have y := (nl_lt l6 tZ).mp y
        rw [eA, if_pos y]
      · have y : ¬ 1000000 < p + st j * q := fun w => y ((nl_lt l6 tZ).mpr w)
        rw [if_neg y] at eA
        rw [eA] at hN hS
        exact ih (p + st j * q) q Z Y u (by omega) (i_pred hv' eu) tZ hY (by omega) hq1 (by omega) hq2 hN hS
/-- the counts, where the last one has e digits more, of the value S -/
noncomputable def pC (c : Nat → Nat) (k S e j : Nat) : Nat := if j = pR c k - 1 then (if pD c k + e = 0 then 1 else (if pD c k = 0 then 0 else pS c k j) * 10 ^ e + S) else pS c k j
theorem pC_0 {c : Nat → Nat} {k : Nat} (hv : pVd c k) {j : Nat} (hj : j < pR c k) : pC c k 0 0 j = pS c k j := by
  have hk : 1 ≤ k := by
    rcases Nat.eq_zero_or_pos k with z | z
    · subst z; exact absurd hj (Nat.not_lt_zero _)
    · exact z
  unfold pC
  by_cases q : j = pR c k - 1
  · rw [if_pos q]
    by_cases w : pD c k = 0
    · rw [if_pos (by omega), q, ((pS_bnd hv).2 hk).1 w]
    · rw [if_neg (by omega), if_neg w, Nat.pow_zero, Nat.mul_one, Nat.add_zero]
  · rw [if_neg q]
theorem ap7_L {tp bo f : Nat → Int32} {v1 : Int32} (h1 : isR v1) {c : Nat → Nat} {n : Nat} (hn : n ≤ 60) (hf : ∀ i, i < n → (f i).toInt = (c i : Int)) {post : Int32 → (Nat → Int32) → (Nat → Int32) → Prop} : ∀ (k p q S e : Nat) (X Y Z W : Int64) (v : Int32), k ≤ n → pVd c k → v.toInt = (k : Int) - 1 → X.toInt = (p : Int) → Y.toInt = (q : Int) → Z.toInt = (S : Int) → W.toInt = ((10 ^ e : Nat) : Int) → S < 10 ^ e → (1 ≤ k → pD c k + e ≤ 6) → 1 ≤ p → 1 ≤ q → p ≤ 1000000 → q ≤ 1000000 → (pA (pC c k S e) (pT c k) (pR c k) p q = none → post (-3) tp bo) → (∀ P Q, pA (pC c k S e) (pT c k) (pR c k) p q = some (P, Q) → 1 ≤ P → 1 ≤ Q → post (stR P Q) (stF tp v1 P Q P) (stF bo v1 P Q Q)) → w7_applyText_L31 tp bo f v1 post (k + 1) X Y Z W v := by
  have l0 : (0 : Int32).toInt = 0 := rfl
  have o0 : (0 : Int64).toInt = ((0 : Nat) : Int) := rfl
  have o1 : (1 : Int64).toInt = ((1 : Nat) : Int) := rfl
  have o10 : (10 : Int64).toInt = ((10 : Nat) : Int) := rfl
  have l48 : (48 : Int32).toInt = 48 := rfl
  have l82 : (82 : Int32).toInt = 82 := rfl
  have l6 : (1000000 : Int64).toInt = ((1000000 : Nat) : Int) := rfl
  intro k
  induction k with
  | zero =>
    intro p q S e X Y Z W v hk hv hvi hX hY hZ hW hS0 he hp1 hq1 hp2 hq2 hN hS
    rw [w7_applyText_L31]
    exact ⟨fun _ => s7_st h1 hX hY (by omega) (by omega) (hS p q rfl hp1 hq1), fun z => absurd (i_lt.mpr (by omega)) z⟩
  | succ k ih =>
    intro p q S e X Y Z W v hk hv hvi hX hY hZ hW hS0 he hp1 hq1 hp2 hq2 hN hS
    have hv' : v.toInt = (k : Int) := by omega
    have hc := hf k (by omega)
    have he := he (by omega)
    have hvk := hv.le (show k ≤ k + 1 by omega)
    have hpe : 10 ^ e ≤ 10 ^ 6 := Nat.pow_le_pow_right (by omega) (by omega)
    have e6 : (10 : Nat) ^ 6 = 1000000 := rfl
    have hpp : 1 ≤ 10 ^ e := Nat.pow_pos (by omega)
    rw [w7_applyText_L31, natc hv']
    refine ⟨fun z => absurd (i_lt.mp z) (by omega), fun _ => ⟨vin (by omega) (by omega), ?_⟩⟩
    rcases Classical.em (pLt c k) with hl | hl
    · obtain ⟨a1, a2, a3, a4⟩ := pS_L hl
      have hgt : 57 < c k := by rcases hl with w | w <;> omega
      refine d7n hc hgt ⟨fun _ => ?_, fun y => absurd rfl y⟩
      have go : ∀ (T : Int64) (τ : Nat), T.toInt = (τ : Int) → τ = pC c (k + 1) S e (pR c k) → τ ≤ 1000000 → w7_applyText_J92 tp bo f v1 X Y v T post (fun z0 z1 z2 z3 z4 => w7_applyText_L31 tp bo f v1 post (k + 1) z0 z1 z2 z3 z4) := by
        intro T τ hT hτ hτb
        have b1 := Nat.mul_le_mul hτb hp2
        have b2 := Nat.mul_le_mul hτb hq2
        have eA : pA (pC c (k + 1) S e) (pT c (k + 1)) (pR c (k + 1)) p q = if pT c (k + 1) (pR c k) = 1 then (if 1000000 < p + pC c (k + 1) S e (pR c k) * q then none else pA (pC c (k + 1) S e) (pT c (k + 1)) (pR c k) (p + pC c (k + 1) S e (pR c k) * q) q) else (if 1000000 < q + pC c (k + 1) S e (pR c k) * p then none else pA (pC c (k + 1) S e) (pT c (k + 1)) (pR c k) p (q + pC c (k + 1) S e (pR c k) * p)) := by rw [a2]; rfl
        have cg : ∀ p q, pA (pC c (k + 1) S e) (pT c (k + 1)) (pR c k) p q = pA (pC c k 0 0) (pT c k) (pR c k) p q := fun p q => pA_congr (fun j hj => by
          rw [pC_0 hvk hj, a4, if_neg (by omega)]
          refine ⟨?_, rfl⟩
          unfold pC
          rw [a2, if_neg (by omega), a3, if_neg (by omega)])
        rw [cg, cg, ← hτ, a4, if_pos rfl] at eA
        unfold w7_applyText_J92 w7_applyText_J126
        rw [natc hv']
        refine ⟨vin (by omega) (by omega), fun z U eU => ?_, fun z U eU => ?_⟩
        · have c82 : ¬ c k = 82 := fun w => z (i_ext (by rw [hc, w]; rfl))
          rw [if_neg c82, if_neg (by decide)] at eA
          have tU : U.toInt = ((q + τ * p : Nat) : Int) := by rw [eU]; exact nl_add hY (nl_mul hT hX (by omega)) (by omega)
          refine ⟨fun y => absurd ((nl_lt l6 hX).mp y) (by omega), fun _ => ⟨fun y u eu => ?_, fun y => hN ?_⟩⟩
          · have y := (nl_le tU l6).mp y
            rw [if_neg (by omega)] at eA
            rw [eA] at hN hS
            exact ih p (q + τ * p) 0 0 X U 0 1 u (by omega) hvk (i_pred hv' eu) hX tU rfl rfl (by omega) (fun _ => by have := pD_le hvk; omega) hp1 (by omega) hp2 y hN hS
          · have y : ¬ q + τ * p ≤ 1000000 := fun w => y ((nl_le tU l6).mpr w)
            rw [eA, if_pos (by omega)]
        · have c82 : c k = 82 := by rw [z, l82] at hc; omega
          rw [if_pos c82, if_pos rfl] at eA
          have tU : U.toInt = ((p + τ * q : Nat) : Int) := by rw [eU]; exact nl_add hX (nl_mul hT hY (by omega)) (by omega)
          refine ⟨fun y => hN ?_, fun y => ⟨fun _ u eu => ?_, fun w => absurd ((nl_le hY l6).mpr hq2) w⟩⟩
          · have y := (nl_lt l6 tU).mp y
            rw [eA, if_pos y]
          · have y : ¬ 1000000 < p + τ * q := fun w => y ((nl_lt l6 tU).mpr w)
            rw [if_neg y] at eA
            rw [eA] at hN hS
            exact ih (p + τ * q) q 0 0 U Y 0 1 u (by omega) hvk (i_pred hv' eu) tU hY rfl rfl (by omega) (fun _ => by have := pD_le hvk; omega) (by omega) hq1 (by omega) hq2 hN hS
      have eC : pC c (k + 1) S e (pR c k) = if e = 0 then 1 else S := by
        unfold pC
        rw [a2, if_pos (by omega), a1]
        by_cases w : e = 0
        · rw [if_pos (by omega), if_pos w]
        · rw [if_neg (by omega), if_neg w, if_pos rfl]; omega
      refine ⟨fun y => go Z S hZ ?_ (by omega), fun y => go 1 1 o1 ?_ (by omega)⟩
      · rw [eC, if_neg]
        intro w
        subst w
        exact y ((nl_eq hW o1).mpr rfl)
      · rw [eC, if_pos]
        have y := (nl_eq hW o1).mp y
        rcases Nat.eq_zero_or_pos e with w | w
        · exact w
        · have : 10 ^ 1 ≤ 10 ^ e := Nat.pow_le_pow_right (by omega) w
          omega
    · obtain ⟨a1, a2, a3, a4⟩ := pS_D hl
      have ho : pOk (pD c k) (c k) := by
        rcases hv k (by omega) with w | w
        · exact absurd w hl
        · exact w
      obtain ⟨w1, w2, w3, w4⟩ := ho
      refine d7y hc w1 w2 ⟨fun y => absurd y (by decide), fun _ => ⟨vin (by omega) (by omega), fun U eU V eV u eu => ?_⟩⟩
      have b1 := Nat.mul_le_mul (show c k - 48 ≤ 9 by omega) hpe
      have b0 := Nat.mul_le_mul_right (10 ^ e) (show c k - 48 ≤ 9 by omega)
      have es : 10 ^ (e + 1) = 10 ^ e * 10 := Nat.pow_succ _ _
      have td : (f k - 48).toInt64.toInt = ((c k - 48 : Nat) : Int) := by rw [t64, i_sub (by omega) (by omega), hc, l48]; omega
      have tU : U.toInt = ((S + (c k - 48) * 10 ^ e : Nat) : Int) := by rw [eU]; exact nl_add hZ (nl_mul td hW (by omega)) (by omega)
      have tV : V.toInt = ((10 ^ (e + 1) : Nat) : Int) := by rw [eV, es]; exact nl_mul hW o10 (by omega)
      have cg : pA (pC c (k + 1) S e) (pT c (k + 1)) (pR c (k + 1)) p q = pA (pC c k (S + (c k - 48) * 10 ^ e) (e + 1)) (pT c k) (pR c k) p q := by
        rw [a2]
        refine pA_congr (fun j hj => ⟨?_, a4 j⟩)
        unfold pC
        rw [a2, a1]
        by_cases z : j = pR c k - 1
        · rw [if_pos z, if_pos z, if_neg (by omega), if_neg (by omega), if_neg (by omega), a3, if_pos z, es]
          by_cases y : pD c k = 0
          · rw [if_pos y, if_pos y, Nat.zero_add, Nat.zero_mul]; omega
          · rw [if_neg y, if_neg y, Nat.add_mul, show 10 * pS c k j * 10 ^ e = pS c k j * (10 ^ e * 10) by ac_rfl]; omega
        · rw [if_neg z, if_neg z, a3, if_neg z]
      rw [cg] at hN hS
      exact ih p q (S + (c k - 48) * 10 ^ e) (e + 1) X Y U V u (by omega) hvk (i_pred hv' eu) hX hY tU tV (by omega) (fun _ => by omega) hp1 hq1 hp2 hq2 hN hS
theorem op_followPath : Op_followPath := by
  intro x_hasSnapshot x_termListSize x_textSize x_tops x_bottoms x_slots x_savedTops x_savedBottoms x_savedSlots x_termList x_text x_arraySizes x_arrays0 x_arrays1 x_arrays2 m_listed m_fed m_read m_hasSnapshot m_above m_below m_list m_text m_steps m_towards m_kindOf m_nodeAbove m_nodeBelow m_length m_cell m_savedAbove m_savedBelow m_savedKind m_savedNodeAbove m_savedNodeBelow PL kk tt bb v1 v2 hI
  obtain ⟨hReg, hList, hText, hArr, hNode, hHs, hHs01, hSnap⟩ := id hI
  unfold w7_followPath w8_followPath
  by_cases h1 : isR v1
  rotate_left
  · simp only [r7n h1, r8n h1, b01, b00, false_implies, true_implies, not_true_eq_false, not_false_eq_true, true_and, and_true]; exact hI
  by_cases h2 : isR v2
  rotate_left
  · simp only [r7y h1, r8y h1, r7n h2, r8n h2, b01, b00, false_implies, true_implies, not_true_eq_false, not_false_eq_true, true_and, and_true]; exact hI
  simp only [r7y h1, r8y h1, r7y h2, r8y h2, b01, b00, false_implies, true_implies, not_true_eq_false, not_false_eq_true, true_and, and_true]
  obtain ⟨p, q, N, hC, e1, e2, e3, e4⟩ := hReg.cf h2.lt
  have hb := hC.2.2.2.2
  obtain ⟨t1, t2, t3, t4⟩ := hText
  have l0 : (0 : Int32).toInt = 0 := rfl
  have lm : (-1 : Int32).toInt = -1 := rfl
  have l1 : (1 : Int32).toInt = 1 := rfl
  have hn : m_fed.toInt = ((m_fed.toNatClampNeg : Nat) : Int) := (clamp (by omega)).symm
  generalize m_fed.toNatClampNeg = n at hn
  have hf8 : ∀ i, i < n → (m_text i).toInt = (((m_text i).toInt.toNat : Nat) : Int) := fun i hi => by
    have := t4 i (by omega); omega
  have hf7 : ∀ i, i < n → (x_text i).toInt = (((m_text i).toInt.toNat : Nat) : Int) := fun i hi => by
    rw [(t4 i (by omega)).1]; exact hf8 i hi
  generalize hcd : (fun i => (m_text i).toInt.toNat) = c
  have hf8 : ∀ i, i < n → (m_text i).toInt = (c i : Int) := fun i hi => by rw [← hcd]; exact hf8 i hi
  have hf7 : ∀ i, i < n → (x_text i).toInt = (c i : Int) := fun i hi => by rw [← hcd]; exact hf7 i hi
  have hsz : x_textSize.toInt = (n : Int) := by rw [t1]; exact hn
  have v0 : pVd c 0 := fun i hi => absurd hi (by omega)
  have hT0 : ∀ t u : Nat → Int32, IText t 0 u 0 := fun t u => ⟨rfl, by decide, by decide, fun i hi => absurd hi (by rw [l0]; omega)⟩
  have M : ∀ {post : Int32 → Int32 → Int32 → (Nat → Int32) → (Nat → Int32) → (Nat → Int32) → (Nat → Int32) → Prop}, (pVd c n → ∀ (r : Int32) (s t : Nat → Int32), r.toInt = (pR c n : Int) → (∀ j, j < pR c n → (s j).toInt = (pS c n j : Int) ∧ t j = pT c n j) → (pA (pS c n) (pT c n) (pR c n) p q = none → post (-3) 0 r m_above m_below s t) ∧ (∀ P Q, pA (pS c n) (pT c n) (pR c n) p q = some (P, Q) → 1 ≤ P → 1 ≤ Q → post (stR P Q) 0 r (stF m_above v1 P Q P) (stF m_below v1 P Q Q) s t)) → (∀ k, k < n → pVd c k → pBad c k → ∀ (r : Int32) (s t : Nat → Int32), post ((-100 : Int32) - Int32.ofNat k) 0 r m_above m_below s t) → w8_readText m_read m_text m_steps m_towards m_fed (fun r23 f_read_23 f_steps_23 f_towards_23 => ((r23 < 0 → (vp_in v2 8 ∧ (∀ x48 : Int64, x48 = (m_above v2.toNatClampNeg).toInt64 → (vp_in v2 8 ∧ (∀ x57 : Int64, x57 = (m_below v2.toNatClampNeg).toInt64 → (∀ x65 : Int32, x65 = (f_read_23 - (1 : Int32)) → (∃ n67 : Nat, w8_followPath_L67 (0 : Int32) f_read_23 m_above m_below f_steps_23 f_towards_23 v1 post n67 x48 x57 x65))))))) ∧ (¬ r23 < 0 → (post ((-100 : Int32) - r23) (0 : Int32) f_read_23 m_above m_below f_steps_23 f_towards_23)))) := by
    intro post g0 g1
    refine ⟨n + 1, rt8_L (by omega) hf8 hn (fun hv r s t hr hst => ⟨fun _ => ⟨h2.vin, fun X eX => ⟨h2.vin, fun Y eY u eu => ?_⟩⟩, fun z => absurd (by decide) z⟩) (fun k hk hv hbad r s t => ⟨fun z => ?_, fun _ => g1 k hk hv hbad r s t⟩) n 0 6 0 0 m_steps m_towards (by omega) v0 rfl rfl rfl (fun j hj => absurd hj (Nat.not_lt_zero _))⟩
    · have hRl := pR_le c n
      obtain ⟨g2, g3⟩ := g0 hv r s t hr hst
      refine ⟨pR c n + 1, fp8_L h1 (R := pR c n) (by omega) hst (pS_bnd hv).1 (pR c n) p q X Y u (Nat.le_refl _) ?_ (by rw [eX, t64, e3]) (by rw [eY, t64, e4]) (by omega) (by omega) (by omega) (by omega) g2 g3⟩
      rw [eu, i_sub (by omega) (by omega), hr, l1]
    · have z := i_lt.mp z
      rw [n_toInt (by omega), l0] at z; omega
  refine ⟨n + 1, fw7_L (by omega) hf7 hsz (fun hv => ⟨fun _ => ?_, fun z => absurd (by decide) z⟩) (fun k hk hv hbad => ⟨fun z => ?_, fun _ x ex => ?_⟩) n 0 6 0 (by omega) v0 rfl rfl⟩
  · have cg : pA (pC c n 0 0) (pT c n) (pR c n) p q = pA (pS c n) (pT c n) (pR c n) p q := pA_congr (fun j hj => ⟨pC_0 hv hj, rfl⟩)
    have hnb : ∀ k, k < n → pVd c k → ¬ pBad c k := fun k hk _ hb => by
      rcases hv k hk with w | w
      · exact hb.1 w
      · exact hb.2 w
    unfold w7_applyText
    refine ⟨h2.vin, fun X eX => ⟨h2.vin, fun Y eY u eu => ⟨n + 1, ap7_L h1 (c := c) (n := n) (by omega) hf7 n p q 0 0 X Y 0 1 u (Nat.le_refl _) hv ?_ (by rw [eX, t64, e1]) (by rw [eY, t64, e2]) rfl rfl (by decide) (fun _ => by have := pD_le hv; omega) (by omega) (by omega) (by omega) (by omega) (fun hN => ?_) (fun P Q hPQ hP hQ => ?_)⟩⟩⟩
    · rw [eu, i_sub (by omega) (by omega), hsz, l1]
    · rw [cg] at hN
      refine M (fun _ r s t _ _ => ⟨fun _ => ⟨rfl, hReg, hList, hT0 _ _, hArr, hNode, hHs, hHs01, hSnap⟩, fun P Q h => ?_⟩) (fun k hk hv hb => absurd hb (hnb k hk hv))
      rw [hN] at h; cases h
    · rw [cg] at hPQ
      refine M (fun _ r s t _ _ => ⟨fun h => ?_, fun P2 Q2 h _ _ => ?_⟩) (fun k hk hv hb => absurd hb (hnb k hk hv))
      · rw [hPQ] at h; cases h
      · rw [hPQ] at h
        cases h
        exact ⟨rfl, hReg.store (by omega) (by omega), hList, hT0 _ _, hArr, hNode, hHs, hHs01, hSnap⟩
  · have z := i_lt.mp z
    rw [n_toInt (by omega), l0] at z; omega
  · refine M (fun hv2 r s t _ _ => ?_) (fun k2 hk2 hv2 hb2 r s t => ?_)
    · exfalso
      rcases hv2 k hk with w | w
      · exact hbad.1 w
      · exact hbad.2 w
    · have e : k = k2 := by
        rcases Nat.lt_trichotomy k k2 with w | w | w
        · exfalso
          rcases hv2 k w with y | y
          · exact hbad.1 y
          · exact hbad.2 y
        · exact w
        · exfalso
          rcases hv k2 w with y | y
          · exact hb2.1 y
          · exact hb2.2 y
      subst e
      exact ⟨ex, hReg, hList, hT0 _ _, hArr, hNode, hHs, hHs01, hSnap⟩
