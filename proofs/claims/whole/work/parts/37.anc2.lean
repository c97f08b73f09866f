/-! the convergents from their last term, and the common ancestor -/
theorem cv8_L {a b N : Nat} (h : CF a b N) {s : Int32} {t u f : Nat → Int32} (hf : IsT a b N f) {w : Int32} (hw : isR w) {post : Int32 → Int32 → (Nat → Int32) → (Nat → Int32) → (Nat → Int32) → Prop} {K : Nat} (hK : K ≤ N) (hK1 : 1 ≤ K) (p0 : cA a b (K + 1) = 0 → post (-2) s t u f) (p1 : ¬ cA a b (K + 1) = 0 → post (stR (cA a b (K + 1)) (cB a b (K + 1))) s (stF t w (cA a b (K + 1)) (cB a b (K + 1)) (cA a b (K + 1))) (stF u w (cA a b (K + 1)) (cB a b (K + 1)) (cB a b (K + 1))) f) : ∀ (n : Nat) (X Y : Int64) (i : Int32) (x y : Nat), n < K → i.toInt = (n : Int) - 1 → X.toInt = (x : Int) → Y.toInt = (y : Int) → y ≤ 1000000 → x ≤ 2000000000000 → (cA a b (K + 1) = x * cA a b (n + 1) + y * cA a b n) → (cB a b (K + 1) = x * cB a b (n + 1) + y * cB a b n) → w8_convergent_L66 s t u f w post (n + 1) X Y i := by
  have hN := h.2.2.1
  have l0 : (0 : Int32).toInt = 0 := rfl
  have lm : (-1 : Int32).toInt = -1 := rfl
  have hb := h.2.2.2.2
  have hcp := (cA_pos h (k := K + 1) (by omega) (by omega)).2
  intro n
  induction n with
  | zero =>
    intro X Y i x y _ hi hX hY _ _ eA eB
    rw [w8_convergent_L66]
    have eA' : cA a b (K + 1) = x := by
      have z1 : cA a b (0 + 1) = 1 := rfl
      have z2 : cA a b 0 = 0 := rfl
      rw [eA, z1, z2]; omega
    have eB' : cB a b (K + 1) = y := by
      have z1 : cB a b (0 + 1) = 0 := rfl
      have z2 : cB a b 0 = 1 := rfl
      rw [eB, z1, z2]; omega
    refine ⟨fun _ => ⟨fun q => ?_, fun q => p0 (by rw [eA']; exact (l_zero hX).mp q)⟩, fun q => absurd (i_lt.mpr (by omega)) q⟩
    have q1 : ¬ cA a b (K + 1) = 0 := fun z => q ((l_zero hX).mpr (by omega))
    exact s8_st hw (p := (cA a b (K + 1) : Int)) (q := (cB a b (K + 1) : Int)) (by omega) (by omega) (by omega) (by omega) (p1 q1)
  | succ n ih =>
    intro X Y i x y hn hi hX hY hy hx eA eB
    rw [w8_convergent_L66]
    have ht := hf n (by omega)
    have htl := tm_le h (i := n) (by omega)
    have hi' : i.toInt = (n : Int) := by omega
    have hcn := (cA_pos h (k := n + 2) (by omega) (by omega)).2
    have hxb : x ≤ 1000000 := by
      have h1 := Nat.mul_le_mul_left x hcn
      have h2 := cB_le h (k := K + 1) (by omega)
      rw [show n + 1 + 1 = n + 2 from rfl] at eB
      omega
    have c1 : ((tm a b n * x : Nat) : Int) = (tm a b n : Int) * (x : Int) := Int.natCast_mul _ _
    have pB := Nat.mul_le_mul htl hxb
    have m1 : ((f n).toInt64 * X).toInt = ((tm a b n * x : Nat) : Int) := by
      rw [l_mul (by rw [t64, ht, hX, ← c1]; omega) (by rw [t64, ht, hX, ← c1]; omega), t64, ht, hX, c1]
    refine ⟨fun q => absurd (i_lt.mp q) (by omega), fun _ => ⟨vin (by omega) (by omega), fun z ez j ej => ?_⟩⟩
    rw [natc hi'] at ez
    refine ih z X j (tm a b n * x + y) x (by omega) (by rw [ej, i_add (by omega) (by omega), lm]; omega) ?_ hX hxb (by omega) ?_ ?_
    · rw [ez, l_add (by omega) (by omega), m1, hY]; omega
    · rw [eA, show n + 1 + 1 = n + 2 from rfl, cA_rec]
      grind
    · rw [eB, show n + 1 + 1 = n + 2 from rfl, cB_rec]
      grind
theorem op_convergent : Op_convergent := by
  intro x_hasSnapshot x_termListSize x_textSize x_tops x_bottoms x_slots x_savedTops x_savedBottoms x_savedSlots x_termList x_text x_arraySizes x_E_size x_E_terms x_arrays0 x_arrays1 x_arrays2 m_terms m_listed m_fed m_hasSnapshot m_above m_below m_term m_list m_text m_kindOf m_nodeAbove m_nodeBelow m_length m_cell m_savedAbove m_savedBelow m_savedKind m_savedNodeAbove m_savedNodeBelow PL kk tt bb v1 v2 v3 hI
  obtain ⟨hReg, hList, hText, hArr, hNode, hHs, hHs01, hSnap⟩ := id hI
  unfold w7_convergent w8_convergent w7_expand w1_size
  by_cases h1 : isR v1
  rotate_left
  · simp only [r7n h1, r8n h1, b01, b00, false_implies, true_implies, not_true_eq_false, not_false_eq_true, true_and, and_true]; exact hI
  by_cases h2 : isR v2
  rotate_left
  · simp only [r7y h1, r8y h1, r7n h2, r8n h2, b01, b00, false_implies, true_implies, not_true_eq_false, not_false_eq_true, true_and, and_true]; exact hI
  simp only [r7y h1, r8y h1, r7y h2, r8y h2, b01, b00, false_implies, true_implies, not_true_eq_false, not_false_eq_true, true_and, and_true]
  by_cases h3 : 0 ≤ v3
  rotate_left
  · refine ⟨fun q => absurd q h3, fun _ => ⟨fun q => absurd q h3, fun _ => hI⟩⟩
  have l0 : (0 : Int32).toInt = 0 := rfl
  have l1 : (1 : Int32).toInt = 1 := rfl
  have h30 := i_le.mp h3
  have hv : v3.toInt = ((v3.toNatClampNeg : Nat) : Int) := (clamp (by omega)).symm
  have hvr := i_range v3
  generalize hk : v3.toNatClampNeg = k at hv
  obtain ⟨A, B, N, hC, e1, e2, e3, e4⟩ := hReg.cf h2.lt
  have hN := hC.2.2.1
  have hb := hC.2.2.2.2
  have hNi : (Int32.ofNat N).toInt = (N : Int) := n_toInt (by omega)
  refine ⟨fun _ => ⟨h2.vin, h2.vin, s1_expand hC e1 e2 (fun f hf => ?_)⟩, fun q => absurd h3 q⟩
  refine ⟨fun q => ?_, fun q => ?_⟩
  · refine ⟨fun _ => ⟨h2.vin, h2.vin, s8_layTerms hC e3 e4 (fun f2 hf2 => ⟨fun w => absurd (i_lt.mp w) (by have := i_le.mp q; omega), fun _ => hI⟩)⟩, fun q => absurd h3 q⟩
  have q : ¬ (Int32.ofNat N).toInt ≤ v3.toInt := fun w => q (i_le.mpr w)
  have M : ∀ post : Int32 → (Nat → Int32) → (Nat → Int32) → Prop, (cA A B (k + 2) = 0 → post (-2) m_above m_below) → (¬ cA A B (k + 2) = 0 → post (stR (cA A B (k + 2)) (cB A B (k + 2))) (stF m_above v1 (cA A B (k + 2)) (cB A B (k + 2)) (cA A B (k + 2))) (stF m_below v1 (cA A B (k + 2)) (cB A B (k + 2)) (cB A B (k + 2)))) → vp_in v2 8 ∧ vp_in v2 8 ∧ w8_layTerms m_terms m_term (m_above v2.toNatClampNeg) (m_below v2.toNatClampNeg) (fun f_terms_35 f_term_35 => ((v3 < f_terms_35 → (vp_in v3 64 ∧ (∀ x56 : Int64, x56 = (f_term_35 k).toInt64 → (∀ x64 : Int32, x64 = (v3 - (1 : Int32)) → (∃ n66 : Nat, w8_convergent_L66 f_terms_35 m_above m_below f_term_35 v1 (fun r _ a e _ => post r a e) n66 x56 (1 : Int64) x64))))) ∧ (¬ v3 < f_terms_35 → (post (-2 : Int32) m_above m_below)))) := by
    intro post p0 p1
    refine ⟨h2.vin, h2.vin, s8_layTerms hC e3 e4 (fun f2 hf2 => ⟨fun _ => ⟨vin (by omega) (by omega), fun X eX j ej => ?_⟩, fun w => absurd (i_lt.mpr (by omega)) w⟩)⟩
    have ht := hf2 k (by omega)
    have htl := tm_le hC (i := k) (by omega)
    refine ⟨k + 1, cv8_L hC hf2 h1 (K := k + 1) (by omega) (by omega) p0 p1 k X 1 j (tm A B k) 1 (by omega) (by rw [ej, i_sub (by omega) (by omega), hv, l1]) (by rw [eX, t64, ht]) rfl (by omega) (by omega) ?_ ?_⟩
    · rw [show k + 1 + 1 = k + 2 from rfl, cA_rec]; omega
    · rw [show k + 1 + 1 = k + 2 from rfl, cB_rec]; omega
  refine s1_top hC hf (k := k + 1) (by rw [hv]; omega) (by omega) (fun P hP => ?_)
  have hcp : 1 ≤ cB A B (k + 2) := (cA_pos hC (k := k + 1 + 1) (by omega) (by omega)).2
  refine ⟨fun w => ?_, fun w => ⟨fun _ => ?_, fun q => absurd h3 q⟩⟩
  · have w1 : ¬ cA A B (k + 2) = 0 := fun z => w ((l_zero hP).mpr z)
    unfold w7_storeConvergent
    refine s1_top hC hf (k := k + 1) (by rw [hv]; omega) (by omega) (fun P hP => s1_bottom hC hf (k := k + 1) (by rw [hv]; omega) (by omega) (fun Q hQ => s7_st (p := (cA A B (k + 2) : Int)) (q := (cB A B (k + 2) : Int)) h1 hP hQ (by omega) (by omega) ⟨fun _ => ?_, fun q => absurd h3 q⟩))
    exact M (fun r8 a e => stR (cA A B (k + 2)) (cB A B (k + 2)) = r8 ∧ (LInv x_hasSnapshot x_termListSize x_textSize (stF x_tops v1 (cA A B (k + 2)) (cB A B (k + 2)) (cA A B (k + 2))) (stF x_bottoms v1 (cA A B (k + 2)) (cB A B (k + 2)) (cB A B (k + 2))) x_slots x_savedTops x_savedBottoms x_savedSlots x_termList x_text x_arraySizes x_arrays0 x_arrays1 x_arrays2 m_hasSnapshot a e m_list m_listed m_text m_fed m_kindOf m_nodeAbove m_nodeBelow m_length m_cell m_savedAbove m_savedBelow m_savedKind m_savedNodeAbove m_savedNodeBelow PL kk tt bb)) (fun z => absurd z w1) (fun _ => ⟨rfl, hI.reg (hReg.store (by omega) (by omega))⟩)
  · have w1 := (l_zero hP).mp w
    have := M (fun r8 a e => (-2 : Int32) = r8 ∧ (LInv x_hasSnapshot x_termListSize x_textSize x_tops x_bottoms x_slots x_savedTops x_savedBottoms x_savedSlots x_termList x_text x_arraySizes x_arrays0 x_arrays1 x_arrays2 m_hasSnapshot a e m_list m_listed m_text m_fed m_kindOf m_nodeAbove m_nodeBelow m_length m_cell m_savedAbove m_savedBelow m_savedKind m_savedNodeAbove m_savedNodeBelow PL kk tt bb)) (fun _ => ⟨rfl, hI⟩) (fun z => absurd w1 z)
    simpa only [true_and, eq_self_iff_true] using this
/-- how deep two paths go together, from term k on -/
def com (f g : Nat → Nat) (n1 n2 : Nat) : Nat → Nat → Nat
  | 0, _ => 0
  | n + 1, k => if k < n1 ∧ k < n2 then (if f k = g k then f k + com f g n1 n2 n (k + 1) else min (f k) (g k)) else 0
theorem com_le {f g : Nat → Nat} {n1 n2 : Nat} : ∀ (n k : Nat), com f g n1 n2 n k ≤ sumN (fun i => f (k + i)) (n1 - k) ∧ com f g n1 n2 n k ≤ sumN (fun i => g (k + i)) (n2 - k) := by
  intro n
  induction n with
  | zero => intro k; exact ⟨Nat.zero_le _, Nat.zero_le _⟩
  | succ n ih =>
    intro k
    rw [com]
    by_cases q : k < n1 ∧ k < n2
    · rw [if_pos q]
      have e1 : ∀ f : Nat → Nat, ∀ n1, k < n1 → sumN (fun i => f (k + i)) (n1 - k) = f k + sumN (fun i => f (k + 1 + i)) (n1 - (k + 1)) := by
        intro f n1 hk
        rw [show n1 - k = (n1 - (k + 1)) + 1 by omega, sumN_shift]
        have e : (fun i => f (k + (i + 1))) = (fun i => f (k + 1 + i)) := by
          funext i; rw [show k + (i + 1) = k + 1 + i by omega]
        rw [e]; rfl
      rw [e1 f n1 q.1, e1 g n2 q.2]
      obtain ⟨i1, i2⟩ := ih (k + 1)
      split
      · constructor <;> omega
      · constructor <;> omega
    · rw [if_neg q]; exact ⟨Nat.zero_le _, Nat.zero_le _⟩
theorem com_cut {a b N c d M : Nat} (h : CF a b N) (h2 : CF c d M) : ∀ (n k : Nat), k < N → k < M → ∃ j m, cutF (rr a b N) (N - k) k (com (rr a b N) (rr c d M) N M n k) = some (j, m) ∧ cutF (rr c d M) (M - k) k (com (rr a b N) (rr c d M) N M n k) = some (j, m) ∧ j < N ∧ j < M ∧ m ≤ rr a b N j ∧ m ≤ rr c d M j ∧ ∀ i, k ≤ i → i < j → tm a b i = tm c d i := by
  intro n
  induction n with
  | zero =>
    intro k k1 k2
    refine ⟨k, 0, ?_, ?_, k1, k2, Nat.zero_le _, Nat.zero_le _, fun i h1 h2 => absurd h1 (by omega)⟩
    · rw [show N - k = N - k - 1 + 1 by omega, cutF]; exact if_pos (Nat.zero_le _)
    · rw [show M - k = M - k - 1 + 1 by omega, cutF]; exact if_pos (Nat.zero_le _)
  | succ n ih =>
    intro k k1 k2
    rw [com, if_pos ⟨k1, k2⟩, show N - k = N - (k + 1) + 1 by omega, cutF, show M - k = M - (k + 1) + 1 by omega, cutF]
    by_cases q : rr a b N k = rr c d M k
    · rw [if_pos q]
      by_cases w : com (rr a b N) (rr c d M) N M n (k + 1) = 0
      · rw [w]
        exact ⟨k, rr a b N k + 0, if_pos (by omega), if_pos (by omega), k1, k2, by omega, by omega, fun i h1 h2 => absurd h1 (by omega)⟩
      · have hk : k + 1 < N ∧ k + 1 < M := by
          cases n with
          | zero => exact absurd rfl w
          | succ n =>
            rw [com] at w
            by_cases y : k + 1 < N ∧ k + 1 < M
            · exact y
            · rw [if_neg y] at w; exact absurd rfl w
        obtain ⟨j, m, c1, c2, c3, c4, c5, c6, c7⟩ := ih (k + 1) hk.1 hk.2
        refine ⟨j, m, ?_, ?_, c3, c4, c5, c6, fun i g1 g2 => ?_⟩
        · rw [if_neg (by omega), Nat.add_sub_cancel_left]; exact c1
        · rw [if_neg (by omega), q, Nat.add_sub_cancel_left]; exact c2
        · by_cases y : i = k
          · have e1 : rr a b N k = tm a b k := if_neg (by omega)
            have e2 : rr c d M k = tm c d k := if_neg (by omega)
            rw [y, ← e1, ← e2, q]
          · exact c7 i (by omega) g2
    · rw [if_neg q]
      exact ⟨k, min (rr a b N k) (rr c d M k), if_pos (by omega), if_pos (by omega), k1, k2, by omega, by omega, fun i h1 h2 => absurd h1 (by omega)⟩
theorem cA_congr {a b c d j : Nat} (h : ∀ i, i < j → tm a b i = tm c d i) : ∀ k, k ≤ j + 1 → cA a b k = cA c d k ∧ cB a b k = cB c d k := fun k hk => ⟨kk2_congr k (fun i hi => h i (by omega)), kk2_congr k (fun i hi => h i (by omega))⟩
theorem oA_congr {a b c d j m : Nat} (h : ∀ i, i < j → tm a b i = tm c d i) : oA a b j m = oA c d j m ∧ oB a b j m = oB c d j m := by
  obtain ⟨h1, h2⟩ := cA_congr h j (by omega)
  obtain ⟨h3, h4⟩ := cA_congr h (j + 1) (by omega)
  unfold oA oB
  rw [h1, h2, h3, h4]; exact ⟨rfl, rfl⟩
theorem com_small {f g : Nat → Nat} {n1 n2 C : Nat} (h : ∀ i, i < n1 → f i ≤ C) (n k : Nat) (hk : k = 0) : com f g n1 n2 n k ≤ C * n1 := by
  have := (com_le (f := f) (g := g) (n1 := n1) (n2 := n2) n k).1
  subst hk
  simp only [Nat.zero_add, Nat.sub_zero] at this
  exact Nat.le_trans this (sumN_le h)
theorem cs7_L {a b N c d M : Nat} (h : CF a b N) (h2 : CF c d M) {f g : Nat → Int32} (hf : IsT a b N f) (hg : IsT c d M g) {post : Int32 → Prop} : ∀ (n k acc : Nat) (v i : Int32), k + n = N → v.toInt = (acc : Int) → i.toInt = (k : Int) → acc + com (rr a b N) (rr c d M) N M n k ≤ 1000000000 → (∀ r : Int32, r.toInt = ((acc + com (rr a b N) (rr c d M) N M n k : Nat) : Int) → post r) → w1_commonSteps_L4 (Int32.ofNat N) f (Int32.ofNat M) g post (n + 1) v i := by
  have hN := h.2.2.1
  have hM := h2.2.2.1
  have hNi : (Int32.ofNat N).toInt = (N : Int) := n_toInt (by omega)
  have hMi : (Int32.ofNat M).toInt = (M : Int) := n_toInt (by omega)
  intro n
  induction n with
  | zero =>
    intro k acc v i hk hv hi hb hp
    rw [w1_commonSteps_L4]
    exact ⟨fun _ => hp v (by rw [hv]; rfl), fun q => absurd (i_le.mpr (by omega)) q⟩
  | succ n ih =>
    intro k acc v i hk hv hi hb hp
    rw [w1_commonSteps_L4]
    rw [com] at hb hp
    refine ⟨fun q => absurd (i_le.mp q) (by omega), fun _ => ⟨fun q => hp v ?_, fun q => ?_⟩⟩
    · have q := i_le.mp q
      rw [if_neg (by omega), hv]; rfl
    have q : ¬ (Int32.ofNat M).toInt ≤ i.toInt := fun w => q (i_le.mpr w)
    rw [if_pos (by omega)] at hb hp
    refine s1_runAt h hf hi (by omega) (fun r hr => s1_runAt h2 hg hi (by omega) (fun s hs => ⟨fun w x ex => ⟨fun y j ej => ?_, fun y => ?_⟩, fun w x ex => ⟨fun y j ej => ?_, fun y => ?_⟩⟩))
    · have e : rr a b N k = rr c d M k := by have := congrArg Int32.toInt y; omega
      rw [if_pos e] at hb hp
      refine ih (k + 1) (acc + rr a b N k) x j (by omega) ?_ (nxt hi (by omega) ej) (by omega) (fun r hr => hp r (by rw [hr]; congr 1; omega))
      rw [ex, i_add (by omega) (by omega), hv, hs]; omega
    · have w := i_le.mp w
      have e : ¬ rr a b N k = rr c d M k := fun z => y (i_ext (by omega))
      rw [if_neg e] at hb hp
      refine hp x ?_
      rw [ex, i_add (by omega) (by omega), hv, hs]; omega
    · have w : ¬ s.toInt ≤ r.toInt := fun z => w (i_le.mpr z)
      have := congrArg Int32.toInt y
      omega
    · have w : ¬ s.toInt ≤ r.toInt := fun z => w (i_le.mpr z)
      have e : ¬ rr a b N k = rr c d M k := by omega
      rw [if_neg e] at hb hp
      refine hp x ?_
      rw [ex, i_add (by omega) (by omega), hv, hr]; omega

/-- the model's way, over the runs that are not empty -/
theorem ca8_L {a b N c d M : Nat} (h : CF a b N) (h2 : CF c d M) {run ri orun ori : Nat → Int32} (hR : IsR c d M run ri) (hO : IsR a b N orun ori) {z : Nat} (hz : z = zz a b N) (hz2 : z = zz c d M) {s t : Int32} {term up low : Nat → Int32} {v4 w : Int32} {la lb ra rb : Int64} (ht : t.toInt = ((M - z : Nat) : Int)) (hv4 : v4.toInt = ((N - z : Nat) : Int)) {post : Int32 → Int32 → Int32 → Int64 → Int64 → Int64 → Int64 → (Nat → Int32) → (Nat → Int32) → (Nat → Int32) → (Nat → Int32) → (Nat → Int32) → (Nat → Int32) → (Nat → Int32) → Prop} : ∀ (n k acc : Nat) (v i : Int32), k + n = N → z ≤ k → v.toInt = (acc : Int) → i.toInt = ((k - z : Nat) : Int) → acc + com (rr a b N) (rr c d M) N M n k ≤ 1000000000 → (∀ r : Int32, r.toInt = ((acc + com (rr a b N) (rr c d M) N M n k : Nat) : Int) → w8_commonAncestor_J218 s t la lb ra rb up low term run ri orun ori w r post) → w8_commonAncestor_L116 s t la lb ra rb up low term run ri orun ori w v4 post (n + 1) v i := by
  have hN := h.2.2.1
  have hM := h2.2.2.1
  have zl := zz_le h
  intro n
  induction n with
  | zero =>
    intro k acc v i hk hzk hv hi hb hp
    rw [w8_commonAncestor_L116]
    refine ⟨fun _ => hp v (by rw [hv]; rfl), fun _ => ⟨fun _ => hp v (by rw [hv]; rfl), fun q => absurd (i_le.mpr (by omega)) q⟩⟩
  | succ n ih =>
    intro k acc v i hk hzk hv hi hb hp
    rw [w8_commonAncestor_L116]
    rw [com] at hb hp
    refine ⟨fun q => hp v ?_, fun q => ⟨fun q => absurd (i_le.mp q) (by omega), fun _ => ?_⟩⟩
    · have q := i_le.mp q
      rw [if_neg (by omega), hv]; rfl
    have q : ¬ t.toInt ≤ i.toInt := fun w => q (i_le.mpr w)
    rw [if_pos (by omega)] at hb hp
    have hvi : vp_in i 64 := vin (by omega) (by omega)
    obtain ⟨r1, r2⟩ := hR (k - z) (by omega)
    obtain ⟨o1, o2⟩ := hO (k - z) (by omega)
    rw [← hz2, show k - z + z = k by omega] at r1 r2
    rw [← hz, show k - z + z = k by omega] at o1 o2
    refine ⟨hvi, hvi, ?_⟩
    rw [natc hi]
    refine ⟨fun y => absurd (by rw [r2, o2]) y, fun _ => ⟨hvi, hvi, fun w => ⟨hvi, ?_⟩, fun w => ⟨hvi, ?_⟩⟩⟩
    · have w := i_le.mp w
      unfold w8_commonAncestor_J183
      rw [natc hi]
      refine fun x ex => ⟨hvi, hvi, fun y j ej => ?_, fun y => ?_⟩
      · have e : rr a b N k = rr c d M k := by have := congrArg Int32.toInt y; omega
        rw [if_pos e] at hb hp
        refine ih (k + 1) (acc + rr a b N k) x j (by omega) (by omega) ?_ (by rw [nxt hi (by omega) ej]; congr 1; omega) (by omega) (fun r hr => hp r (by rw [hr]; congr 1; omega))
        rw [ex, i_add (by omega) (by omega), hv, o1]; omega
      · have e : ¬ rr a b N k = rr c d M k := fun z => y (i_ext (by omega))
        rw [if_neg e] at hb hp
        refine hp x ?_
        rw [ex, i_add (by omega) (by omega), hv, o1]; omega
    · have w : ¬ (orun (k - z)).toInt ≤ (run (k - z)).toInt := fun z => w (i_le.mpr z)
      have e : ¬ rr a b N k = rr c d M k := by omega
      unfold w8_commonAncestor_J183
      rw [natc hi]
      refine fun x ex => ⟨hvi, hvi, fun y j ej => absurd (congrArg Int32.toInt y) (by omega), fun y => ?_⟩
      rw [if_neg e] at hb hp
      refine hp x ?_
      rw [ex, i_add (by omega) (by omega), hv, r1]; omega
theorem cp8_L {s t : Int32} {term run ri up low : Nat → Int32} {v1 v3 v4 : Int32} {la lb ra rb : Int64} {T : Nat} (ht : t.toInt = (T : Int)) (hT : T ≤ 64) {post : Int32 → Int32 → Int32 → Int64 → Int64 → Int64 → Int64 → (Nat → Int32) → (Nat → Int32) → (Nat → Int32) → (Nat → Int32) → (Nat → Int32) → (Nat → Int32) → (Nat → Int32) → Prop} (h3 : isR v3) (hp : ∀ orun ori : Nat → Int32, (∀ j, j < T → orun j = run j ∧ ori j = ri j) → w8_layRuns s t term run ri (up v3.toNatClampNeg) (low v3.toNatClampNeg) (fun s t term run ri => ∃ n116 : Nat, w8_commonAncestor_L116 s t la lb ra rb up low term run ri orun ori v1 v4 post n116 0 0)) : ∀ (n k : Nat) (i : Int32) (orun ori : Nat → Int32), k + n = T → i.toInt = (k : Int) → (∀ j, j < k → orun j = run j ∧ ori j = ri j) → w8_commonAncestor_L51 s t la lb ra rb up low term run ri v1 v3 v4 post (n + 1) i orun ori := by
  intro n
  induction n with
  | zero =>
    intro k i orun ori hk hi ho
    rw [w8_commonAncestor_L51]
    obtain rfl : k = T := by omega
    exact ⟨fun _ => ⟨h3.vin, h3.vin, hp orun ori ho⟩, fun q => absurd (i_le.mpr (by omega)) q⟩
  | succ n ih =>
    intro k i orun ori hk hi ho
    rw [w8_commonAncestor_L51]
    have hvi : vp_in i 64 := vin (by omega) (by omega)
    refine ⟨fun q => absurd (i_le.mp q) (by omega), fun _ => ⟨hvi, hvi, hvi, hvi, fun x ex => ?_⟩⟩
    rw [natc hi]
    refine ih (k + 1) x _ _ (by omega) (nxt hi (by omega) ex) (fun j hj => ?_)
    by_cases q : j = k
    · rw [q, upd_eq, upd_eq]; exact ⟨rfl, rfl⟩
    · rw [upd_ne _ _ q, upd_ne _ _ q]; exact ho j (by omega)
theorem com_zz {a b N c d M : Nat} (h : CF a b N) (h2 : CF c d M) : com (rr a b N) (rr c d M) N M N 0 = if zz a b N = zz c d M then com (rr a b N) (rr c d M) N M (N - zz a b N) (zz a b N) else 0 := by
  have hN := h.2.1
  have hM := h2.2.1
  rcases zz_cases h with ⟨z, z0⟩ | ⟨z, z0⟩
  · rcases zz_cases h2 with ⟨y, y0⟩ | ⟨y, y0⟩
    · rw [z, y, if_pos rfl]; rfl
    · obtain ⟨n, rfl⟩ : ∃ n, N = n + 1 := ⟨N - 1, by omega⟩
      rw [z, y, if_neg (by omega), com, if_pos ⟨by omega, by omega⟩, if_neg (by omega), y0, Nat.min_zero]
  · rcases zz_cases h2 with ⟨y, y0⟩ | ⟨y, y0⟩
    · obtain ⟨n, rfl⟩ : ∃ n, N = n + 1 := ⟨N - 1, by omega⟩
      rw [z, y, if_neg (by omega), com, if_pos ⟨by omega, by omega⟩, if_neg (by omega), z0, Nat.zero_min]
    · obtain ⟨n, rfl⟩ : ∃ n, N = n + 1 := ⟨N - 1, by omega⟩
      rw [z, y, if_pos rfl, com, if_pos ⟨by omega, by omega⟩, if_pos (by omega), z0, Nat.zero_add]; rfl
theorem op_commonAncestor : Op_commonAncestor := by
  intro x_hasSnapshot x_termListSize x_textSize x_tops x_bottoms x_slots x_savedTops x_savedBottoms x_savedSlots x_termList x_text x_arraySizes x_E_size x_O_size x_E_terms x_O_terms x_arrays0 x_arrays1 x_arrays2 m_terms m_runs m_leftAbove m_leftBelow m_rightAbove m_rightBelow m_listed m_fed m_hasSnapshot m_above m_below m_term m_run m_isRight m_otherRun m_otherRight m_list m_text m_kindOf m_nodeAbove m_nodeBelow m_length m_cell m_savedAbove m_savedBelow m_savedKind m_savedNodeAbove m_savedNodeBelow PL kk tt bb v1 v2 v3 hI
  obtain ⟨hReg, hList, hText, hArr, hNode, hHs, hHs01, hSnap⟩ := id hI
  unfold w7_commonAncestor w8_commonAncestor w7_expand
  by_cases h1 : isR v1
  rotate_left
  · simp only [r7n h1, r8n h1, b01, b00, false_implies, true_implies, not_true_eq_false, not_false_eq_true, true_and, and_true]; exact hI
  by_cases h2 : isR v2
  rotate_left
  · simp only [r7y h1, r8y h1, r7n h2, r8n h2, b01, b00, false_implies, true_implies, not_true_eq_false, not_false_eq_true, true_and, and_true]; exact hI
  by_cases h3 : isR v3
  rotate_left
  · simp only [r7y h1, r8y h1, r7y h2, r8y h2, r7n h3, r8n h3, b01, b00, false_implies, true_implies, not_true_eq_false, not_false_eq_true, true_and, and_true]; exact hI
  simp only [r7y h1, r8y h1, r7y h2, r8y h2, r7y h3, r8y h3, b01, b00, false_implies, true_implies, not_true_eq_false, not_false_eq_true, true_and, and_true]
  obtain ⟨A, B, N, hC, e1, e2, e3, e4⟩ := hReg.cf h2.lt
  obtain ⟨C, D, M, hD, d1, d2, d3, d4⟩ := hReg.cf h3.lt
  have hN := hC.2.2.1
  have hN1 := hC.2.1
  have hM := hD.2.2.1
  have hM1 := hD.2.1
  have zN := zz_le hC
  have zM := zz_le hD
  have l0 : (0 : Int32).toInt = 0 := rfl
  obtain ⟨j, m, c1, c2, j1, j2, m1, m2, ht⟩ := com_cut hC hD N 0 (by omega) (by omega)
  have hle := com_le (f := rr A B N) (g := rr C D M) (n1 := N) (n2 := M) N 0
  simp only [Nat.zero_add, Nat.sub_zero] at hle c1 c2
  have hle1 : com (rr A B N) (rr C D M) N M N 0 ≤ dep A B N := hle.1
  have hle2 : com (rr A B N) (rr C D M) N M N 0 ≤ dep C D M := hle.2
  have hd1 : dep A B N ≤ 40000000 := dep_le hC (Nat.le_refl _)
  have hcz := com_zz hC hD
  obtain ⟨oe1, oe2⟩ := oA_congr (m := m + 1) (fun i hi => ht i (Nat.zero_le _) hi)
  obtain ⟨p1, p2⟩ := oA_pos C D j m
  refine ⟨h2.vin, h2.vin, s1_expand hC e1 e2 (fun f hf => ⟨h3.vin, h3.vin, s1_expand hD d1 d2 (fun g hg => ⟨N + 1, ?_⟩)⟩)⟩
  refine cs7_L hC hD hf hg N 0 0 0 0 (by omega) rfl rfl (by omega) (fun r hr => ?_)
  rw [Nat.zero_add] at hr
  refine s1_cut hC hf hr hle1 (fun j' m' x hc hj hm hx => ?_)
  rw [c1] at hc
  cases hc
  refine s7_cutStore hC hf hj hm hx h1 ?_
  rw [oe1, oe2]
  refine ⟨h2.vin, h2.vin, s8_layRuns hC e3 e4 (fun f2 orun0 ori0 hf2 hR0 => ⟨N - zz A B N + 1, cp8_L (n_toInt (by omega)) (by omega) h3 (fun orun ori ho => ?_) (N - zz A B N) 0 0 _ _ (by omega) rfl (fun j hj => absurd hj (by omega))⟩)⟩
  have hO : IsR A B N orun ori := fun j hj => by
    obtain ⟨q1, q2⟩ := ho j hj
    rw [q1, q2]; exact hR0 j hj
  refine s8_layRuns hD d3 d4 (fun f3 run ri hf3 hR => ?_)
  have fin : ∀ s : Int32, s.toInt = (com (rr A B N) (rr C D M) N M N 0 : Int) → w8_commonAncestor_J218 (Int32.ofNat M) (Int32.ofNat (M - zz C D M)) m_leftAbove m_leftBelow m_rightAbove m_rightBelow m_above m_below f3 run ri orun ori v1 s (fun r8 _ _ _ _ _ _ a e _ _ _ _ _ => r = r8 ∧ (LInv x_hasSnapshot x_termListSize x_textSize (stF x_tops v1 (oA C D j (m + 1)) (oB C D j (m + 1)) (oA C D j (m + 1))) (stF x_bottoms v1 (oA C D j (m + 1)) (oB C D j (m + 1)) (oB C D j (m + 1))) x_slots x_savedTops x_savedBottoms x_savedSlots x_termList x_text x_arraySizes x_arrays0 x_arrays1 x_arrays2 m_hasSnapshot a e m_list m_listed m_text m_fed m_kindOf m_nodeAbove m_nodeBelow m_length m_cell m_savedAbove m_savedBelow m_savedKind m_savedNodeAbove m_savedNodeBelow PL kk tt bb)) := by
    intro s hs
    unfold w8_commonAncestor_J218
    refine gd_put hD hR hs hle2 c2 j2 m2 h1 (fun la lb ra rb => ⟨i_ext (by rw [hr, hs]), hI.reg (hReg.store (by omega) (by omega))⟩)
  have hNz : (Int32.ofNat (N - zz A B N)).toInt = ((N - zz A B N : Nat) : Int) := n_toInt (by omega)
  have hMz : (Int32.ofNat (M - zz C D M)).toInt = ((M - zz C D M : Nat) : Int) := n_toInt (by omega)
  by_cases q : zz A B N = zz C D M
  · rw [if_pos q] at hcz
    refine ⟨N - zz A B N + 1, ca8_L hC hD hR hO rfl q (by rw [hMz, q]) hNz (N - zz A B N) (zz A B N) 0 0 0 (by omega) (Nat.le_refl _) rfl (by rw [Nat.sub_self]; rfl) (by omega) (fun s hs => fin s ?_)⟩
    rw [hs, hcz, Nat.zero_add]
  · rw [if_neg q] at hcz
    refine ⟨1, ?_⟩
    rw [w8_commonAncestor_L116]
    have f0 := fin 0 (by rw [hcz]; rfl)
    refine ⟨fun _ => f0, fun y => ⟨fun _ => f0, fun w => ⟨vin (by decide) (by decide), vin (by decide) (by decide), fun _ => f0, fun u => ?_⟩⟩⟩
    have y : ¬ (Int32.ofNat (M - zz C D M)).toInt ≤ (0 : Int32).toInt := fun z => y (i_le.mpr z)
    have w : ¬ (Int32.ofNat (N - zz A B N)).toInt ≤ (0 : Int32).toInt := fun z => w (i_le.mpr z)
    obtain ⟨r1, r2⟩ := hR 0 (by omega)
    obtain ⟨o1, o2⟩ := hO 0 (by omega)
    have u : ri 0 = ori 0 := u
    rw [r2, o2] at u
    exfalso
    rcases zz_cases hC with ⟨z, _⟩ | ⟨z, _⟩ <;> rcases zz_cases hD with ⟨y, _⟩ | ⟨y, _⟩ <;> rw [z, y] at u q <;> revert u q <;> decide
