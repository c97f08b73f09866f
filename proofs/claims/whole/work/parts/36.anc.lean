/-! ancestors, convergents, the common ancestor -/
theorem tm_half {a b N : Nat} (h : CF a b N) {j : Nat} (hj : j + 1 < N) : tm a b j ≤ 500000 := by
  have h1 := rs_rec a b j
  have h2 := rs_le h j (by omega)
  have h3 := rs_lt h.1 (i := j) (by omega)
  have h4 := rs_pos h (k := j + 2) (by omega)
  have h5 := Nat.mul_le_mul_left (tm a b j) (show 2 ≤ rs a b (j + 1) by omega)
  omega
theorem rr_succ {a b N : Nat} (h : CF a b N) {j m : Nat} (hj : j < N) (hm : m ≤ rr a b N j) : m + 1 ≤ 1000000 := by
  by_cases q : j = N - 1
  · have e : rr a b N j = tm a b j - 1 := if_pos q
    have h1 := tm_last1 h
    have h2 := tm_le h hj
    rw [← q] at h1
    omega
  · have e : rr a b N j = tm a b j := if_neg q
    have := tm_half h (j := j) (by omega)
    omega
theorem oA_le {a b N : Nat} (h : CF a b N) {k m : Nat} (hk : k ≤ N) (hm : m ≤ 1000000) : oA a b k m ≤ 1000001000000 ∧ oB a b k m ≤ 1000001000000 := by
  have hA1 := cA_le h (k := k + 1) (by omega)
  have hB1 := cB_le h (k := k + 1) (by omega)
  have hA0 := cA_le h (k := k) (by omega)
  have hB0 := cB_le h (k := k) (by omega)
  have ha := h.2.2.2.2
  have pA := Nat.mul_le_mul hm (show cA a b (k + 1) ≤ 1000000 by omega)
  have pB := Nat.mul_le_mul hm (show cB a b (k + 1) ≤ 1000000 by omega)
  unfold oA oB
  constructor <;> omega
theorem s_le {a b N : Nat} (h : CF a b N) {k m : Nat} (hk : k ≤ N) (hm : m ≤ 1000000) : sLA a b k m ≤ 1000001000000 ∧ sLB a b k m ≤ 1000001000000 ∧ sRA a b k m ≤ 1000001000000 ∧ sRB a b k m ≤ 1000001000000 := by
  have hA1 := cA_le h (k := k + 1) (by omega)
  have hB1 := cB_le h (k := k + 1) (by omega)
  have ha := h.2.2.2.2
  obtain ⟨h1, h2⟩ := oA_le h hk hm
  unfold sLA sLB sRA sRB
  split <;> refine ⟨?_, ?_, ?_, ?_⟩ <;> omega
theorem s_pos (a b k m : Nat) : 1 ≤ sRA a b k m ∧ 1 ≤ sLB a b k m := by
  have h := s_det a b k m
  have c1 : ((sLA a b k m * sRB a b k m : Nat) : Int) = (sLA a b k m : Int) * (sRB a b k m : Int) := Int.natCast_mul _ _
  constructor
  · rcases Nat.eq_zero_or_pos (sRA a b k m) with z | z
    · rw [z] at h; simp only [Int.natCast_zero, Int.zero_mul] at h; omega
    · exact z
  · rcases Nat.eq_zero_or_pos (sLB a b k m) with z | z
    · rw [z] at h; simp only [Int.natCast_zero, Int.mul_zero] at h; omega
    · exact z
theorem oA_pos (a b k m : Nat) : 1 ≤ oA a b k (m + 1) ∧ 1 ≤ oB a b k (m + 1) := by
  obtain ⟨h1, h2⟩ := s_sum a b k m
  obtain ⟨h3, h4⟩ := s_pos a b k m
  omega
def cutT (a b j m i : Nat) : Nat := if i = j then m + 1 else tm a b i
theorem kk_cut {a b j m x y : Nat} {k : Nat} (hk : k ≤ j + 1) : kk2 (cutT a b j m) x y k = kk2 (tm a b) x y k := kk2_congr k (fun i hi => if_neg (by omega))
theorem kk_cut2 {a b j m : Nat} : kk2 (cutT a b j m) 0 1 (j + 2) = oA a b j (m + 1) ∧ kk2 (cutT a b j m) 1 0 (j + 2) = oB a b j (m + 1) := by
  have e : cutT a b j m j = m + 1 := if_pos rfl
  constructor
  · show cutT a b j m j * kk2 (cutT a b j m) 0 1 (j + 1) + kk2 (cutT a b j m) 0 1 j = _
    rw [kk_cut (Nat.le_refl _), kk_cut (by omega), e]
    unfold oA cA; omega
  · show cutT a b j m j * kk2 (cutT a b j m) 1 0 (j + 1) + kk2 (cutT a b j m) 1 0 j = _
    rw [kk_cut (Nat.le_refl _), kk_cut (by omega), e]
    unfold oB cB; omega
theorem s1_cutConv {a b N : Nat} (h : CF a b N) {f : Nat → Int32} (hf : IsT a b N f) {j m : Nat} (hj : j < N) (hm : m ≤ rr a b N j) {x : Int32} (hx : x.toInt = ((m + 1 : Nat) : Int)) {v : Int32} (hv : v.toInt = (j : Int)) : (∀ post : Int64 → Prop, (∀ r : Int64, r.toInt = (oA a b j (m + 1) : Int) → post r) → w1_convergentTop (Int32.ofNat (j + 1)) (upd f j x) v post) ∧ (∀ post : Int64 → Prop, (∀ r : Int64, r.toInt = (oB a b j (m + 1) : Int) → post r) → w1_convergentBottom (Int32.ofNat (j + 1)) (upd f j x) v post) := by
  have hN := h.2.2.1
  have hm1 := rr_succ h hj hm
  have ha := h.2.2.2.2
  have e1 : ∀ i, i < j + 1 → (upd f j x i).toInt = (cutT a b j m i : Int) := by
    intro i hi
    unfold cutT
    by_cases q : i = j
    · rw [if_pos q, q, upd_eq, hx]
    · rw [if_neg q, upd_ne f x q, hf i (by omega)]
  have e2 : ∀ i, i < j + 1 → cutT a b j m i ≤ 1000000 := by
    intro i hi
    unfold cutT
    split
    · exact hm1
    · exact tm_le h (by omega)
  obtain ⟨o1, o2⟩ := oA_le h (k := j) (by omega) hm1
  obtain ⟨k1, k2⟩ := kk_cut2 (a := a) (b := b) (j := j) (m := m)
  have l0 : (0 : Int64).toInt = ((0 : Nat) : Int) := rfl
  have l1 : (1 : Int64).toInt = ((1 : Nat) : Int) := rfl
  constructor
  · intro post hp
    unfold w1_convergentTop
    refine s1_last e1 e2 (last := j + 1) (by rw [hv]; omega) (Nat.le_refl _) (by omega) l0 l1 (fun k hk => ?_) (fun r hr => hp r (by rw [hr, k1]))
    by_cases q : k = j + 2
    · rw [q, k1]; omega
    · rw [kk_cut (by omega)]
      have := cA_le h (k := k) (by omega)
      unfold cA at this; omega
  · intro post hp
    unfold w1_convergentBottom
    refine s1_last e1 e2 (last := j + 1) (by rw [hv]; omega) (Nat.le_refl _) (by omega) l1 l0 (fun k hk => ?_) (fun r hr => hp r (by rw [hr, k2]))
    by_cases q : k = j + 2
    · rw [q, k2]; omega
    · rw [kk_cut (by omega)]
      have := cB_le h (k := k) (by omega)
      unfold cB at this; omega
theorem ct7_L {a b N : Nat} (h : CF a b N) {f : Nat → Int32} (hf : IsT a b N f) {post : Int32 → (Nat → Int32) → Prop} : ∀ (n k left : Nat) (v i : Int32), k + n = N → v.toInt = (left : Int) → i.toInt = (k : Int) → 1 ≤ n → left ≤ sumN (fun i => rr a b N (k + i)) n → (∀ j m x, cutF (rr a b N) n k left = some (j, m) → j < N → m ≤ rr a b N j → x.toInt = ((m + 1 : Nat) : Int) → post (Int32.ofNat (j + 1)) (upd f j x)) → w1_cutToDepth_L4 (Int32.ofNat N) f post (n + 1) v i := by
  have hN := h.2.2.1
  have l1 : (1 : Int32).toInt = 1 := rfl
  have hNi : (Int32.ofNat N).toInt = (N : Int) := n_toInt (by omega)
  intro n
  induction n with
  | zero => intro k left v i _ _ _ h1; exact absurd h1 (by omega)
  | succ n ih =>
    intro k left v i hk hv hi _ hsum hp
    have hsh : sumN (fun i => rr a b N (k + i)) (n + 1) = rr a b N k + sumN (fun i => rr a b N (k + 1 + i)) n := by
      rw [sumN_shift]
      have e : (fun i => rr a b N (k + (i + 1))) = (fun i => rr a b N (k + 1 + i)) := by
        funext i; rw [show k + (i + 1) = k + 1 + i by omega]
      rw [e]; rfl
    rw [hsh] at hsum
    have hvr := i_range v
    rw [w1_cutToDepth_L4]
    refine ⟨fun q => absurd (i_le.mp q) (by omega), fun _ => s1_runAt h hf hi (by omega) (fun r hr => ⟨fun q x ex j ej => ?_, fun q => ⟨vin (by omega) (by omega), fun s es => ?_⟩⟩)⟩
    · have q := i_lt.mp q
      have hn : 1 ≤ n := by
        cases n with
        | zero => exact absurd hsum (by have : sumN (fun i => rr a b N (k + 1 + i)) 0 = 0 := rfl; omega)
        | succ n => omega
      refine ih (k + 1) (left - rr a b N k) x j (by omega) (by rw [ex, i_sub (by omega) (by omega), hv, hr]; omega) (nxt hi (by omega) ej) hn (by omega) (fun j m x hc => hp j m x ?_)
      rw [cutF, if_neg (by omega)]; exact hc
    · have q : ¬ r.toInt < v.toInt := fun w => q (i_lt.mpr w)
      have e : s = Int32.ofNat (k + 1) := i_ext (by rw [nxt hi (by omega) es, n_toInt (by omega)])
      have hmk := rr_succ h (j := k) (m := left) (by omega) (by omega)
      rw [e, natc hi]
      refine hp k left _ ?_ (by omega) (by omega) ?_
      · rw [cutF, if_pos (by omega)]
      · rw [i_add (by omega) (by omega), hv, l1]; omega
theorem s1_cut {a b N : Nat} (h : CF a b N) {f : Nat → Int32} (hf : IsT a b N f) {v : Int32} {left : Nat} (hv : v.toInt = (left : Int)) (hl : left ≤ dep a b N) {post : Int32 → (Nat → Int32) → Prop} (hp : ∀ j m x, cutF (rr a b N) N 0 left = some (j, m) → j < N → m ≤ rr a b N j → x.toInt = ((m + 1 : Nat) : Int) → post (Int32.ofNat (j + 1)) (upd f j x)) : w1_cutToDepth (Int32.ofNat N) f v post := by
  have hN1 := h.2.1
  refine ⟨N + 1, ct7_L h hf N 0 left v 0 (by omega) hv rfl hN1 ?_ hp⟩
  simp only [Nat.zero_add]
  exact hl
theorem sz_of {j : Nat} (h : j < 64) : (Int32.ofNat (j + 1) - 1).toInt = (j : Int) := by
  rw [szm1 (by omega) (by omega)]; omega
/-- cut there, and store -/
theorem s7_cutStore {a b N : Nat} (h : CF a b N) {f : Nat → Int32} (hf : IsT a b N f) {j m : Nat} (hj : j < N) (hm : m ≤ rr a b N j) {x : Int32} (hx : x.toInt = ((m + 1 : Nat) : Int)) {t u : Nat → Int32} {v : Int32} (hv : isR v) {post : Int32 → (Nat → Int32) → (Nat → Int32) → Prop} (hp : post (stR (oA a b j (m + 1)) (oB a b j (m + 1))) (stF t v (oA a b j (m + 1)) (oB a b j (m + 1)) (oA a b j (m + 1))) (stF u v (oA a b j (m + 1)) (oB a b j (m + 1)) (oB a b j (m + 1)))) : w1_size (Int32.ofNat (j + 1)) (fun r51 => w7_storeConvergent t u (Int32.ofNat (j + 1)) (upd f j x) v (r51 - 1) post) := by
  have hN := h.2.2.1
  obtain ⟨c1, c2⟩ := s1_cutConv h hf hj hm hx (v := Int32.ofNat (j + 1) - 1) (sz_of (by omega))
  obtain ⟨p1, p2⟩ := oA_pos a b j m
  unfold w1_size w7_storeConvergent
  exact c1 _ (fun P hP => c2 _ (fun Q hQ => s7_st hv hP hQ (by omega) (by omega) hp))
theorem gd_put {a b N : Nat} (h : CF a b N) {run ri : Nat → Int32} (hR : IsR a b N run ri) {v : Int32} {left : Nat} (hv : v.toInt = (left : Int)) (hl : left ≤ dep a b N) {j m : Nat} (hc : cutF (rr a b N) N 0 left = some (j, m)) (hj : j < N) (hm : m ≤ rr a b N j) {x1 x2 x3 x4 : Int64} {t u : Nat → Int32} {w : Int32} (hw : isR w) {post : Int64 → Int64 → Int64 → Int64 → Int32 → (Nat → Int32) → (Nat → Int32) → Prop} (hp : ∀ la lb ra rb, post la lb ra rb (stR (oA a b j (m + 1)) (oB a b j (m + 1))) (stF t w (oA a b j (m + 1)) (oB a b j (m + 1)) (oA a b j (m + 1))) (stF u w (oA a b j (m + 1)) (oB a b j (m + 1)) (oB a b j (m + 1)))) : w8_goDown (Int32.ofNat (N - zz a b N)) x1 x2 x3 x4 run ri v (fun la lb ra rb => w8_put t u w (la + ra) (lb + rb) (post la lb ra rb)) := by
  refine s8_goDown h hR hv hl (fun la lb ra rb hg => ?_)
  rw [hc] at hg
  obtain ⟨g1, g2, g3, g4⟩ := hg
  have hm1 := rr_succ h hj hm
  obtain ⟨b1, b2, b3, b4⟩ := s_le h (k := j) (m := m) (by omega) (by omega)
  obtain ⟨p1, p2⟩ := oA_pos a b j m
  obtain ⟨q1, q2⟩ := s_sum a b j m
  refine s8_st hw (p := (oA a b j (m + 1) : Int)) (q := (oB a b j (m + 1) : Int)) ?_ ?_ (by omega) (by omega) (hp la lb ra rb)
  · rw [l_add (by omega) (by omega)]; omega
  · rw [l_add (by omega) (by omega)]; omega
theorem op_ancestor : Op_ancestor := by
  intro x_hasSnapshot x_termListSize x_textSize x_tops x_bottoms x_slots x_savedTops x_savedBottoms x_savedSlots x_termList x_text x_arraySizes x_E_size x_E_terms x_arrays0 x_arrays1 x_arrays2 m_terms m_runs m_leftAbove m_leftBelow m_rightAbove m_rightBelow m_listed m_fed m_hasSnapshot m_above m_below m_term m_run m_isRight m_list m_text m_kindOf m_nodeAbove m_nodeBelow m_length m_cell m_savedAbove m_savedBelow m_savedKind m_savedNodeAbove m_savedNodeBelow PL kk tt bb v1 v2 v3 hI
  obtain ⟨hReg, hList, hText, hArr, hNode, hHs, hHs01, hSnap⟩ := id hI
  unfold w7_ancestor w8_ancestor w7_expand
  by_cases h1 : isR v1
  rotate_left
  · simp only [r7n h1, r8n h1, b01, b00, false_implies, true_implies, not_true_eq_false, not_false_eq_true, true_and, and_true]; exact hI
  by_cases h2 : isR v2
  rotate_left
  · simp only [r7y h1, r8y h1, r7n h2, r8n h2, b01, b00, false_implies, true_implies, not_true_eq_false, not_false_eq_true, true_and, and_true]; exact hI
  simp only [r7y h1, r8y h1, r7y h2, r8y h2, b01, b00, false_implies, true_implies, not_true_eq_false, not_false_eq_true, true_and, and_true]
  by_cases h3 : 0 ≤ v3
  rotate_left
  · refine ⟨fun q => absurd q h3, fun _ => ⟨fun q => absurd q h3, fun _ => hI⟩⟩
  have l0 : (0 : Int32).toInt = 0 := rfl
  have h30 := i_le.mp h3
  have hv : v3.toInt = ((v3.toNatClampNeg : Nat) : Int) := (clamp (by omega)).symm
  obtain ⟨A, B, N, hC, e1, e2, e3, e4⟩ := hReg.cf h2.lt
  refine ⟨fun _ => ⟨h2.vin, h2.vin, s1_expand hC e1 e2 (fun f hf => s1_stepCount hC hf (fun r hr => ?_))⟩, fun q => absurd h3 q⟩
  refine ⟨fun k => ?_, fun k => ⟨fun _ => ⟨h2.vin, h2.vin, s8_depthOf hC e3 e4 (fun r2 f2 run ri hr2 hf2 hR => ⟨fun q => absurd (i_le.mp q) (fun q => k (i_le.mpr (by omega))), fun _ => hI⟩)⟩, fun q => absurd h3 q⟩⟩
  have k := i_le.mp k
  refine s1_cut hC hf hv (by omega) (fun j m x hc hj hm hx => s7_cutStore hC hf hj hm hx h1 ⟨fun _ => ⟨h2.vin, h2.vin, s8_depthOf hC e3 e4 (fun r2 f2 run ri hr2 hf2 hR => ⟨fun _ => ?_, fun q => absurd (i_le.mpr (by omega)) q⟩)⟩, fun q => absurd h3 q⟩)
  obtain ⟨p1, p2⟩ := oA_pos A B j m
  exact gd_put hC hR hv (by omega) hc hj hm h1 (fun la lb ra rb => ⟨rfl, hI.reg (hReg.store (by omega) (by omega))⟩)
