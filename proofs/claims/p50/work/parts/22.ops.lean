/-! the five calls of the law, in numbers -/
def rg (t b : Nat → Int32) (i A B : Nat) : Prop := (t i).toInt = (A : Int) ∧ (b i).toInt = (B : Int)
theorem rg_ne {t b : Nat → Int32} {i A B k : Nat} {p q : Int32} (h : rg t b i A B) (hk : ¬ i = k) : rg (upd t k p) (upd b k q) i A B := by
  unfold rg
  rw [upd_ne _ _ hk, upd_ne _ _ hk]; exact h
theorem rg_eq {t b : Nat → Int32} {k A B : Nat} {p q : Int32} (h1 : p.toInt = (A : Int)) (h2 : q.toInt = (B : Int)) : rg (upd t k p) (upd b k q) k A B := by
  unfold rg
  rw [upd_eq, upd_eq]; exact ⟨h1, h2⟩
theorem sg_one {p q : Nat} (hg : Nat.gcd p q = 1) : sg (p : Int) (q : Int) = 1 := by
  unfold sg; rw [Int.toNat_natCast, Int.toNat_natCast, hg]; rfl
theorem st_cop {p q : Nat} (hp : p ≤ 1000000) (hq : q ≤ 1000000) (hg : Nat.gcd p q = 1) : stR (p : Int) (q : Int) = 1 ∧ ∀ (f : Nat → Int32) (v : Int32) (x : Int), stF f v p q x = upd f v.toNatClampNeg (Int32.ofInt x) := by
  have e := sg_one hg
  have hk : stOk (p : Int) (q : Int) := by
    unfold stOk
    rw [e, Int.ediv_one, Int.ediv_one]; omega
  refine ⟨if_pos hk, fun f v x => ?_⟩
  unfold stF
  rw [if_pos hk, e, Int.ediv_one]
theorem p_set {t b : Nat → Int32} {v x y : Int32} (hv : isR v) (hx : 1 ≤ x.toInt ∧ x.toInt ≤ 1000000) (hy : 1 ≤ y.toInt ∧ y.toInt ≤ 1000000) {post : Int32 → (Nat → Int32) → (Nat → Int32) → Prop} (hp : ∀ (A B N : Nat) (p q : Int32), CF A B N → p.toInt = (A : Int) → q.toInt = (B : Int) → post 1 (upd t v.toNatClampNeg p) (upd b v.toNatClampNeg q)) : w7_set t b v x y post := by
  unfold w7_set
  have a2 : (1 : Int32).toInt ≤ x.toInt ∧ x.toInt ≤ (1000000 : Int32).toInt := hx
  have a3 : (1 : Int32).toInt ≤ y.toInt ∧ y.toInt ≤ (1000000 : Int32).toInt := hy
  simp only [r7y hv, n7y a2, n7y a3, b01, b00, false_implies, true_implies, not_true_eq_false, not_false_eq_true, true_and, and_true]
  have p2 : 0 < x.toInt64.toInt := by rw [t64]; omega
  have p3 : 0 < y.toInt64.toInt := by rw [t64]; omega
  refine s7_store hv p2 p3 ?_
  have hg := sg_pos (q := y.toInt64.toInt) p2
  have hk : stOk x.toInt64.toInt y.toInt64.toInt := by
    have d1 := div_le_self' (a := x.toInt64.toInt) (by omega) hg
    have d2 := div_le_self' (a := y.toInt64.toInt) (by omega) hg
    rw [t64] at d1 d2
    unfold stOk
    rw [t64, t64] at *
    omega
  have gd := st_good p2 p3 hk
  obtain ⟨N, hC⟩ := CF_good gd
  unfold stR stF
  rw [if_pos hk, if_pos hk, if_pos hk]
  refine hp _ _ N _ _ hC ?_ ?_
  · have := gd.1; omega
  · have := gd.2.2.1; omega
theorem CF.pos {a b N : Nat} (h : CF a b N) : 1 ≤ a ∧ a ≤ 1000000 ∧ 1 ≤ b ∧ b ≤ 1000000 := h.2.2.2.2
theorem p_cross {t b : Nat → Int32} {v w : Int32} {A B C D : Nat} (h1 : rg t b v.toNatClampNeg A B) (h2 : rg t b w.toNatClampNeg C D) (hA : A ≤ 1000000) (hB : B ≤ 1000000) (hC : C ≤ 1000000) (hD : D ≤ 1000000) : ((t v.toNatClampNeg).toInt64 * (b w.toNatClampNeg).toInt64 - (b v.toNatClampNeg).toInt64 * (t w.toNatClampNeg).toInt64).toInt = ((A * D : Nat) : Int) - ((C * B : Nat) : Int) := by
  have m1 := Nat.mul_le_mul hA hD
  have m2 := Nat.mul_le_mul hB hC
  have a1 := nl_mul (X := (t v.toNatClampNeg).toInt64) (Y := (b w.toNatClampNeg).toInt64) (by rw [t64, h1.1]) (by rw [t64, h2.2]) (by omega : A * D ≤ _)
  have a2 := nl_mul (X := (b v.toNatClampNeg).toInt64) (Y := (t w.toNatClampNeg).toInt64) (by rw [t64, h1.2]) (by rw [t64, h2.1]) (by omega : B * C ≤ _)
  rw [l_sub (by omega) (by omega), a1, a2, Nat.mul_comm B C]
theorem p_compare {t b : Nat → Int32} {v w : Int32} (hv : isR v) (hw : isR w) {A B C D : Nat} (h1 : rg t b v.toNatClampNeg A B) (h2 : rg t b w.toNatClampNeg C D) (hA : A ≤ 1000000) (hB : B ≤ 1000000) (hC : C ≤ 1000000) (hD : D ≤ 1000000) {post : Int32 → Prop} (hp : ∀ r : Int32, (r = 0 ↔ A * D < C * B) → (r = 1 ↔ A * D = C * B) → post r) : w7_compare t b v w post := by
  unfold w7_compare w7_crossDifference
  simp only [r7y hv, r7y hw, b01, b00, false_implies, true_implies, not_true_eq_false, not_false_eq_true, true_and, and_true]
  have tx := p_cross h1 h2 hA hB hC hD
  have l0 : (0 : Int64).toInt = 0 := rfl
  generalize (t v.toNatClampNeg).toInt64 * (b w.toNatClampNeg).toInt64 - (b v.toNatClampNeg).toInt64 * (t w.toNatClampNeg).toInt64 = X at *
  refine ⟨hv.vin, hw.vin, hv.vin, hw.vin, fun z => ⟨fun y => hp 2 ?_ ?_, fun y => hp 1 ?_ ?_⟩, fun z => hp 0 ?_ ?_⟩
  · have z := l_le.mp z
    exact ⟨fun q => absurd q (by decide), fun q => by omega⟩
  · have y : ¬ X.toInt = 0 := fun q => y (l_eq.mpr (by omega))
    exact ⟨fun q => absurd q (by decide), fun q => by omega⟩
  · have y := congrArg Int64.toInt y
    exact ⟨fun q => absurd q (by decide), fun q => by omega⟩
  · have y := congrArg Int64.toInt y
    exact ⟨fun _ => by omega, fun _ => rfl⟩
  · have z : ¬ (0 : Int64).toInt ≤ X.toInt := fun q => z (l_le.mpr q)
    exact ⟨fun _ => by omega, fun _ => rfl⟩
  · have z : ¬ (0 : Int64).toInt ≤ X.toInt := fun q => z (l_le.mpr q)
    exact ⟨fun q => absurd q (by decide), fun q => by omega⟩
theorem p_depth {t b : Nat → Int32} {es : Int32} {et : Nat → Int32} {v : Int32} (hv : isR v) {A B N : Nat} (hC : CF A B N) (h : rg t b v.toNatClampNeg A B) {post : Int32 → Int32 → (Nat → Int32) → Prop} (hp : ∀ (r es2 : Int32) (et2 : Nat → Int32), r.toInt = (dep A B N : Int) → post r es2 et2) : w7_depth t b es et v post := by
  unfold w7_depth w7_expand
  simp only [r7y hv, b01, b00, false_implies, true_implies, not_true_eq_false, not_false_eq_true, true_and, and_true]
  exact ⟨hv.vin, hv.vin, s1_expand hC h.1 h.2 (fun f hf => s1_stepCount hC hf (fun r hr => hp r _ _ hr))⟩
def ancF (A B N C D M P Q r : Nat) : Prop := P * B = Q * A ∨ P * D = Q * C ∨ (∃ K, CF P Q K ∧ dep P Q K = r ∧ r < dep A B N ∧ r < dep C D M ∧ ((A * D < C * B ∧ SM A B C D P Q) ∨ (C * B < A * D ∧ SM C D A B P Q)))
theorem p_common {t b : Nat → Int32} {es os : Int32} {et ot : Nat → Int32} {u v w : Int32} (hu : isR u) (hv : isR v) (hw : isR w) {A B N C D M : Nat} (hC : CF A B N) (hD : CF C D M) (h1 : rg t b v.toNatClampNeg A B) (h2 : rg t b w.toNatClampNeg C D) {post : Int32 → (Nat → Int32) → (Nat → Int32) → Int32 → Int32 → (Nat → Int32) → (Nat → Int32) → Prop} (hp : ∀ (r : Int32) (n P Q : Nat) (p q es2 os2 : Int32) (et2 ot2 : Nat → Int32), r.toInt = (n : Int) → p.toInt = (P : Int) → q.toInt = (Q : Int) → P ≤ 1000000 → Q ≤ 1000000 → Nat.gcd P Q = 1 → ancF A B N C D M P Q n → post r (upd t u.toNatClampNeg p) (upd b u.toNatClampNeg q) es2 os2 et2 ot2) : w7_commonAncestor t b es os et ot u v w post := by
  unfold w7_commonAncestor w7_expand
  simp only [r7y hu, r7y hv, r7y hw, b01, b00, false_implies, true_implies, not_true_eq_false, not_false_eq_true, true_and, and_true]
  have hN := hC.2.2.1
  obtain ⟨j, m, c1, a1, a2, hF⟩ := anc_main hC hD
  have hle := com_le (f := rr A B N) (g := rr C D M) (n1 := N) (n2 := M) N 0
  simp only [Nat.zero_add, Nat.sub_zero] at hle
  have hle1 : com (rr A B N) (rr C D M) N M N 0 ≤ dep A B N := hle.1
  have hd1 : dep A B N ≤ 40000000 := dep_le hC (Nat.le_refl _)
  refine ⟨hv.vin, hv.vin, s1_expand hC h1.1 h1.2 (fun f hf => ⟨hw.vin, hw.vin, s1_expand hD h2.1 h2.2 (fun g hg => ⟨N + 1, ?_⟩)⟩)⟩
  refine cs7_L hC hD hf hg N 0 0 0 0 (by omega) rfl rfl (by omega) (fun r hr => ?_)
  rw [Nat.zero_add] at hr
  refine s1_cut hC hf hr hle1 (fun j' m' x hc hj hm hx => ?_)
  rw [c1] at hc
  cases hc
  obtain ⟨s1, s2⟩ := st_cop a1 a2 (anc_cop A B j m)
  refine s7_cutStore hC hf hj hm hx hu ?_
  rw [s2, s2]
  exact hp r _ _ _ _ _ _ _ _ _ hr (i_ofInt (by omega) (by omega)) (i_ofInt (by omega) (by omega)) a1 a2 (anc_cop A B j m) hF
theorem p_simplest {t b : Nat → Int32} {es : Int32} {et : Nat → Int32} {u v w : Int32} (hu : isR u) (hv : isR v) (hw : isR w) {p q r s N M : Nat} (hC : CF p q N) (hD : CF r s M) (h1 : rg t b v.toNatClampNeg p q) (h2 : rg t b w.toNatClampNeg r s) (hcr : p * s < r * q) {m n : Nat} (hS : SM p q r s m n) (hm : m ≤ 1000000) (hn : n ≤ 1000000) (hg : Nat.gcd m n = 1) {post : Int32 → (Nat → Int32) → (Nat → Int32) → Int32 → (Nat → Int32) → Prop} (hp : ∀ (x y es2 : Int32) (et2 : Nat → Int32), x.toInt = (m : Int) → y.toInt = (n : Int) → post 1 (upd t u.toNatClampNeg x) (upd b u.toNatClampNeg y) es2 et2) : w7_simplestBetween t b es et u v w post := by
  unfold w7_simplestBetween w7_crossDifference w1_size
  simp only [r7y hu, r7y hv, r7y hw, b01, b00, false_implies, true_implies, not_true_eq_false, not_false_eq_true, true_and, and_true]
  have hb := hC.pos
  have hd := hD.pos
  have o0 : (0 : Int64).toInt = 0 := rfl
  have tx := p_cross h1 h2 hb.2.1 hb.2.2.2 hd.2.1 hd.2.2.2
  generalize (t v.toNatClampNeg).toInt64 * (b w.toNatClampNeg).toInt64 - (b v.toNatClampNeg).toInt64 * (t w.toNatClampNeg).toInt64 = X at *
  refine ⟨hv.vin, hw.vin, hv.vin, hw.vin, fun _ => ?_, fun z => absurd (l_lt.mpr (by omega)) z⟩
  refine ⟨hv.vin, hv.vin, hw.vin, hw.vin, s1_simplest (by omega) (by omega) (by omega) (by omega) (by omega) (by omega) (by omega) hcr h1.1 h1.2 h2.1 h2.2 (fun K f t2 k1 k2 k3 k4 k5 hS2 => ?_)⟩
  obtain ⟨e1, e2⟩ := sm_uniq hS2 hS
  obtain ⟨g1, g2⟩ := sm_pos hS
  obtain ⟨s1, s2⟩ := st_cop hm hn hg
  refine s7_conv k1 k2 k3 k4 k5 e1 e2 g1 g2 (by omega) (by omega) hu ?_
  rw [s1, s2, s2]
  exact hp _ _ _ _ (i_ofInt (by omega) (by omega)) (i_ofInt (by omega) (by omega))
