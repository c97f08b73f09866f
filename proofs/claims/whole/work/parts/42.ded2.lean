/-! dedekind -/
theorem prod_bnd {x y : Int} {X Y : Nat} (hx : x.natAbs ≤ X) (hy : y.natAbs ≤ Y) : (x * y).natAbs ≤ X * Y := by
  rw [Int.natAbs_mul]; exact Nat.mul_le_mul hx hy
theorem l_mulB {a b : Int64} {x y : Int} (ha : a.toInt = x) (hb : b.toInt = y) (h : (x * y).natAbs ≤ 9000000000000000000) : (a * b).toInt = x * y := by
  rw [l_mul (by rw [ha, hb]; omega) (by rw [ha, hb]; omega), ha, hb]
theorem sI_bnd {f : Nat → Int} {C : Nat} : ∀ {n : Nat}, (∀ i, i < n → (f i).natAbs ≤ C) → (sI f n).natAbs ≤ C * n
  | 0, _ => by show (0 : Int).natAbs ≤ C * 0; omega
  | n + 1, h => by
    have h1 := sI_bnd (n := n) (fun i hi => h i (by omega))
    have h2 := h n (by omega)
    show (sI f n + f n).natAbs ≤ C * (n + 1)
    rw [Nat.mul_add, Nat.mul_one]; omega
theorem dF_bnd {h k i : Nat} (hi : i < k) : (dF h k i).natAbs ≤ k * k := by
  have hr := Nat.mod_lt (i * h) (show k > 0 by omega)
  unfold dF
  exact prod_bnd (by omega) (by omega)
theorem altS_bnd {a b N : Nat} (h : CF a b N) {n : Nat} (hn : n ≤ N - 1) : (altS (tm a b) n).natAbs ≤ 1000000 * n := by
  unfold altS
  refine sI_bnd (fun i hi => ?_)
  have := tm_le h (i := i + 1) (by omega)
  split <;> omega
theorem l_neg {a : Int32} (h : -2147483648 < a.toInt) : (-a).toInt = -a.toInt := by
  have := i_range a
  rw [Int32.toInt_neg]; exact Int.bmod_eq_of_le (by omega) (by omega)
theorem dk8_L {p q : Nat} (hq1 : 1 ≤ q) (hq : q ≤ 20000) (hp1 : p ≤ 1000000) {P Q : Int64} (hP : P.toInt = (p : Int)) (hQ : Q.toInt = (q : Int)) {E : Int} (hE : 3 * dT p q = q * E) {post : Int32 → Prop} (hp : ∀ r : Int64, r.toInt = E → post r.toInt32) : ∀ (n k : Nat) (X I : Int64), k + n = q - 1 → X.toInt = sI (fun i => dF p q (i + 1)) k → I.toInt = ((k + 1 : Nat) : Int) → w8_dedekind_L46 P Q post (n + 1) X I := by
  have o1 : (1 : Int64).toInt = ((1 : Nat) : Int) := rfl
  have o2 : (2 : Int64).toInt = ((2 : Nat) : Int) := rfl
  have o3 : (3 : Int64).toInt = 3 := rfl
  have hq0 : ¬ Q = 0 := fun z => by have := (l_zero hQ).mp z; omega
  have hqq := Nat.mul_le_mul hq hq
  have hb : ∀ k, k ≤ q - 1 → (sI (fun i => dF p q (i + 1)) k).natAbs ≤ 8000000000000 := by
    intro k hk
    have h1 := sI_bnd (f := fun i => dF p q (i + 1)) (C := q * q) (n := k) (fun i hi => dF_bnd (by omega))
    have h2 := Nat.mul_le_mul hqq (show k ≤ 20000 by omega)
    omega
  intro n
  induction n with
  | zero =>
    intro k X I hk hX hI
    obtain rfl : k = q - 1 := by omega
    rw [w8_dedekind_L46]
    refine ⟨fun _ => ⟨hq0, hp _ ?_⟩, fun z => absurd ((nl_le hQ hI).mpr (by omega)) z⟩
    have hb1 := hb (q - 1) (by omega)
    rw [← hX] at hb1
    have hT : X.toInt = dT p q := hX
    have e1 : ((3 : Int64) * X).toInt = 3 * X.toInt := by rw [l_mul (by rw [o3]; omega) (by rw [o3]; omega), o3]
    have e2 : (3 * X.toInt).tdiv Q.toInt = E := by
      rw [hT, hE, hQ]; exact Int.mul_tdiv_cancel_left E (by omega)
    have e3 : E.natAbs ≤ ((q : Int) * E).natAbs := by
      rw [Int.natAbs_mul]
      exact Nat.le_mul_of_pos_left _ (by omega)
    rw [← hE, ← hT] at e3
    rw [Int64.toInt_div, e1, e2]
    exact Int.bmod_eq_of_le (by omega) (by omega)
  | succ n ih =>
    intro k X I hk hX hI
    rw [w8_dedekind_L46]
    refine ⟨fun z => absurd ((nl_le hQ hI).mp z) (by omega), fun _ => ⟨hq0, fun Y eY J eJ => ih (k + 1) Y J (by omega) ?_ (by rw [eJ]; exact nl_add hI o1 (by omega))⟩⟩
    have hb1 := hb k (by omega)
    have hb2 := hb (k + 1) (by omega)
    have es : sI (fun i => dF p q (i + 1)) (k + 1) = sI (fun i => dF p q (i + 1)) k + dF p q (k + 1) := rfl
    have hr := Nat.mod_lt ((k + 1) * p) (show q > 0 by omega)
    have m1 := Nat.mul_le_mul (show k + 1 ≤ 20000 by omega) hp1
    have t1 : (I * P).toInt = (((k + 1) * p : Nat) : Int) := nl_mul hI hP (by omega)
    have t2 : ((I * P) - ((I * P) / Q) * Q).toInt = (((k + 1) * p % q : Nat) : Int) := by
      rw [l_rem (by omega) (by omega), t1, hQ, Int.natCast_emod]
    have t3 : ((2 : Int64) * ((I * P) - ((I * P) / Q) * Q)).toInt = ((2 * ((k + 1) * p % q) : Nat) : Int) := nl_mul o2 t2 (by omega)
    have t4 : ((2 : Int64) * ((I * P) - ((I * P) / Q) * Q) - Q).toInt = 2 * (((k + 1) * p % q : Nat) : Int) - q := by
      rw [l_sub (by omega) (by omega), t3, hQ]; push_cast; omega
    have t5 : ((2 : Int64) * I).toInt = ((2 * (k + 1) : Nat) : Int) := nl_mul o2 hI (by omega)
    have t6 : ((2 : Int64) * I - Q).toInt = 2 * ((k + 1 : Nat) : Int) - q := by
      rw [l_sub (by omega) (by omega), t5, hQ]; push_cast; omega
    have hd := dF_bnd (h := p) (k := q) (i := k + 1) (by omega)
    have t7 : (((2 : Int64) * I - Q) * ((2 : Int64) * ((I * P) - ((I * P) / Q) * Q) - Q)).toInt = dF p q (k + 1) := by
      unfold dF at hd ⊢
      exact l_mulB t6 t4 (by omega)
    rw [eY, es, l_add (by rw [hX, t7]; omega) (by rw [hX, t7]; omega), hX, t7]
theorem dk7_L {a b N : Nat} (h : CF a b N) (hb2 : b ≤ 20000) {f tp : Nat → Int32} (hf : IsT a b N f) {v1 v3 v4 : Int32} (h1 : isR v1) (e1 : (tp v1.toNatClampNeg).toInt = (a : Int)) (e3 : v3.toInt = ((N - 1 : Nat) : Int)) (e4 : v4.toInt = (b : Int)) {post : Int32 → Int32 → (Nat → Int32) → Prop} (hp : ∀ r : Int64, r.toInt = dE a b N → post r.toInt32 (Int32.ofNat N) f) : ∀ (n k : Nat) (X : Int64) (i : Int32), k + n = N - 1 → X.toInt = altS (tm a b) k → i.toInt = ((k + 1 : Nat) : Int) → w7_dedekind_L49 tp (Int32.ofNat N) f v1 v3 v4 post (n + 1) X i := by
  have hN := h.2.2.1
  have hN1 := h.2.1
  have hab := h.2.2.2.2
  have o1 : (1 : Int32).toInt = ((1 : Nat) : Int) := rfl
  have o3 : (3 : Int64).toInt = 3 := rfl
  have l0 : (0 : Int32).toInt = ((0 : Nat) : Int) := rfl
  intro n
  induction n with
  | zero =>
    intro k X i hk hX hi
    obtain rfl : k = N - 1 := by omega
    rw [w7_dedekind_L49]
    refine ⟨fun _ => ⟨h1.vin, s1_at (by omega) l0 (by omega) (fun R eR => ⟨by decide, ?_⟩)⟩, fun z => absurd (i_lt.mpr (by omega)) z⟩
    have hS := altS_bnd h (n := N - 1) (Nat.le_refl _)
    rw [← hX] at hS
    have ht := hf 0 (by omega)
    have hrec : a = tm a b 0 * b + rs a b 2 := rs_rec a b 0
    have tR : R.toInt = (rs a b 2 : Int) := by
      rw [eR]
      have m1 : ((f 0).toInt64 * v4.toInt64).toInt = ((tm a b 0 * b : Nat) : Int) := nl_mul (by rw [t64, ht]) (by rw [t64, e4]) (by omega)
      rw [nl_sub (by rw [t64, e1]) m1 (by omega)]; omega
    have hc := cB_le h (k := N) (by omega)
    have hpar := par2 e3
    have hv3 : v3.toInt = ((N : Nat) : Int) - 1 := by omega
    refine ⟨fun z => (s1_pair h hf hv3 (Nat.le_refl _)).2 (fun C hC => hp _ ?_), fun z => (s1_pair h hf hv3 (Nat.le_refl _)).2 (fun C hC => hp _ ?_)⟩
    · have q : ¬ N % 2 = 0 := by
        intro w
        refine z (i_ext ?_)
        rw [hpar, o1]; omega
      have hm := prod_bnd (x := (b : Int)) (y := X.toInt) (X := 20000) (Y := 1000000 * (N - 1)) (by omega) hS
      have t1 : (v4.toInt64 * X).toInt = (b : Int) * X.toInt := l_mulB (by rw [t64, e4]) rfl (by omega)
      have t2 : (v4.toInt64 * X + R).toInt = (b : Int) * X.toInt + (rs a b 2 : Int) := by rw [l_add (by omega) (by omega), t1, tR]
      unfold dE
      rw [if_neg q, if_neg q, l_sub (by omega) (by omega), t2, hC, hX, Int.sub_zero]; omega
    · have q : N % 2 = 0 := by
        have e := congrArg Int32.toInt z
        rw [hpar, o1] at e; omega
      have hm := prod_bnd (x := (b : Int)) (y := X.toInt - 3) (X := 20000) (Y := 1000000 * (N - 1) + 3) (by omega) (by omega)
      have t0 : (X - 3).toInt = X.toInt - 3 := by rw [l_sub (by rw [o3]; omega) (by rw [o3]; omega), o3]
      have t1 : (v4.toInt64 * (X - 3)).toInt = (b : Int) * (X.toInt - 3) := l_mulB (by rw [t64, e4]) t0 (by omega)
      have t2 : (v4.toInt64 * (X - 3) + R).toInt = (b : Int) * (X.toInt - 3) + (rs a b 2 : Int) := by rw [l_add (by omega) (by omega), t1, tR]
      unfold dE
      rw [if_pos q, if_pos q, l_add (by omega) (by omega), t2, hC, hX]
  | succ n ih =>
    intro k X i hk hX hi
    rw [w7_dedekind_L49]
    have hS := altS_bnd h (n := k) (by omega)
    rw [← hX] at hS
    have ht := hf (k + 1) (by omega)
    have htl := tm_le h (i := k + 1) (by omega)
    have hpar := par2 hi
    have es : altS (tm a b) (k + 1) = altS (tm a b) k + (if k % 2 = 0 then (tm a b (k + 1) : Int) else -(tm a b (k + 1) : Int)) := rfl
    refine ⟨fun z => absurd (i_lt.mp z) (by omega), fun _ => ⟨by decide, fun z => s1_at (by omega) hi (by omega) (fun Y eY j ej => ih (k + 1) Y j (by omega) ?_ (nxt hi (by omega) ej)), fun z => s1_at (by omega) hi (by omega) (fun Y eY j ej => ih (k + 1) Y j (by omega) ?_ (nxt hi (by omega) ej))⟩⟩
    · have q : ¬ k % 2 = 0 := by
        intro w
        refine z (i_ext ?_)
        rw [hpar, o1]; omega
      have t1 : (-(f (k + 1))).toInt64.toInt = -(tm a b (k + 1) : Int) := by rw [t64, l_neg (by omega), ht]
      rw [es, if_neg q, eY, l_add (by omega) (by omega), hX, t1]
    · have q : k % 2 = 0 := by
        have e := congrArg Int32.toInt z
        rw [hpar, o1] at e; omega
      have t1 : (f (k + 1)).toInt64.toInt = (tm a b (k + 1) : Int) := by rw [t64, ht]
      rw [es, if_pos q, eY, l_add (by omega) (by omega), hX, t1]
theorem op_dedekind : Op_dedekind := by
  intro x_hasSnapshot x_termListSize x_textSize x_tops x_bottoms x_slots x_savedTops x_savedBottoms x_savedSlots x_termList x_text x_arraySizes x_E_size x_E_terms x_arrays0 x_arrays1 x_arrays2 m_listed m_fed m_hasSnapshot m_above m_below m_list m_text m_kindOf m_nodeAbove m_nodeBelow m_length m_cell m_savedAbove m_savedBelow m_savedKind m_savedNodeAbove m_savedNodeBelow PL kk tt bb v1 hI
  obtain ⟨hReg, hList, hText, hArr, hNode, hHs, hHs01, hSnap⟩ := id hI
  unfold w7_dedekind w8_dedekind w7_expand w1_size
  by_cases h1 : isR v1
  rotate_left
  · simp only [r7n h1, r8n h1, b01, b00, false_implies, true_implies, not_true_eq_false, not_false_eq_true, true_and, and_true]; exact hI
  simp only [r7y h1, r8y h1, b01, b00, false_implies, true_implies, not_true_eq_false, not_false_eq_true, true_and, and_true]
  obtain ⟨A, B, N, hC, e1, e2, e3, e4⟩ := hReg.cf h1.lt
  obtain ⟨g1, g2, -⟩ := hReg _ h1.lt
  have hb := hC.2.2.2.2
  have hN := hC.2.2.1
  have hN1 := hC.2.1
  have l2 : (20000 : Int32).toInt = 20000 := rfl
  refine ⟨h1.vin, fun z => ?_, fun z => ⟨h1.vin, fun y => absurd (by rw [g2]; exact y) z, fun _ => ?_⟩⟩
  · have z1 := i_le.mp z
    have hB : B ≤ 20000 := by omega
    refine ⟨h1.vin, h1.vin, s1_expand hC e1 e2 (fun f hf x34 e34 => ⟨h1.vin, fun x41 e41 => ⟨_, dk7_L hC hB hf h1 e1 ?_ (by rw [e41]; exact e2) (fun r hr => ⟨h1.vin, fun _ => ⟨h1.vin, fun P eP => ⟨h1.vin, fun Q eQ => ⟨_, dk8_L (p := A) (q := B) (by omega) hB (by omega) (by rw [eP, t64, e3]) (by rw [eQ, t64, e4]) (dE_T N A B hC) (fun r2 hr2 => ⟨by rw [l_ext (hr.trans hr2.symm)], hI⟩) (B - 1) 0 0 1 (by omega) rfl rfl⟩⟩⟩, fun y => absurd (by rw [← g2]; exact z) y⟩) (N - 1) 0 0 1 (by omega) rfl rfl⟩⟩)⟩
    have := szm1 hN1 (by omega)
    rw [e34, this]; omega
  · first | exact ⟨rfl, hI⟩ | exact hI
