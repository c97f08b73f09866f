/-! bounds: so many full terms, and then so many steps of the next run -/
def oA (a b k m : Nat) : Nat := cA a b k + m * cA a b (k + 1)
def oB (a b k m : Nat) : Nat := cB a b k + m * cB a b (k + 1)
def sLA (a b k m : Nat) : Nat := if k % 2 = 0 then oA a b k m else cA a b (k + 1)
def sLB (a b k m : Nat) : Nat := if k % 2 = 0 then oB a b k m else cB a b (k + 1)
def sRA (a b k m : Nat) : Nat := if k % 2 = 0 then cA a b (k + 1) else oA a b k m
def sRB (a b k m : Nat) : Nat := if k % 2 = 0 then cB a b (k + 1) else oB a b k m
theorem s_sum (a b k m : Nat) : sLA a b k m + sRA a b k m = oA a b k (m + 1) ∧ sLB a b k m + sRB a b k m = oB a b k (m + 1) := by
  unfold sLA sRA sLB sRB oA oB
  rw [Nat.add_mul, Nat.add_mul, Nat.one_mul, Nat.one_mul]
  split <;> constructor <;> omega
theorem s_det (a b k m : Nat) : (sRA a b k m : Int) * sLB a b k m - (sLA a b k m : Int) * sRB a b k m = 1 := by
  have h := cdet a b k
  unfold sLA sRA sLB sRB oA oB
  split
  · rename_i q
    rw [if_pos q] at h
    push_cast
    grind
  · rename_i q
    rw [if_neg q] at h
    push_cast
    grind
theorem s1_pair {a b N : Nat} (h : CF a b N) {f : Nat → Int32} (hf : IsT a b N f) {v : Int32} {k : Nat} (hv : v.toInt = (k : Int) - 1) (hk : k ≤ N) {post : Int64 → Prop} : ((∀ r : Int64, r.toInt = (cA a b k : Int) → post r) → w1_convergentTop (Int32.ofNat N) f (v - 1) post) ∧ ((∀ r : Int64, r.toInt = (cB a b k : Int) → post r) → w1_convergentBottom (Int32.ofNat N) f (v - 1) post) := by
  have hN := h.2.2.1
  have l1 : (1 : Int32).toInt = 1 := rfl
  have e : (v - 1).toInt = (k : Int) - 2 := by rw [i_sub (by omega) (by omega), hv, l1]; omega
  cases k with
  | zero => exact ⟨fun hp => s1_top2 (by rw [e]; rfl) (fun r hr => hp r hr), fun hp => s1_bottom2 (by rw [e]; rfl) (fun r hr => hp r hr)⟩
  | succ k => exact ⟨fun hp => s1_top h hf (by rw [e]; push_cast; omega) (by omega) hp, fun hp => s1_bottom h hf (by rw [e]; push_cast; omega) (by omega) hp⟩
theorem par_i {v : Int32} {k : Nat} (hv : v.toInt = (k : Int) - 1) (hk : k ≤ 100) : ((v - (v / 2) * 2) = 0 ↔ ¬ k % 2 = 0) := by
  have l0 : (0 : Int32).toInt = 0 := rfl
  cases k with
  | zero =>
    obtain rfl : v = -1 := i_ext (by rw [hv]; rfl)
    exact ⟨fun h => absurd h (by decide), fun h => absurd rfl h⟩
  | succ k =>
    have e := par2 (v := v) (k := k) (by rw [hv]; push_cast; omega)
    constructor
    · intro h
      rw [h, l0] at e; omega
    · intro h
      exact i_ext (by rw [e, l0]; omega)
theorem s1_surround {a b N : Nat} (h : CF a b N) {f : Nat → Int32} (hf : IsT a b N f) {v : Int32} {k m : Nat} (hv : v.toInt = (k : Int) - 1) (hk : k ≤ N) {M : Int64} (hM : M.toInt = (m : Int)) (hbA : oA a b k m ≤ 4000000000000) (hbB : oB a b k m ≤ 4000000000000) {x1 x2 x3 x4 : Int64} {post : Int64 → Int64 → Int64 → Int64 → Prop} (hp : ∀ la lb ra rb : Int64, la.toInt = (sLA a b k m : Int) → lb.toInt = (sLB a b k m : Int) → ra.toInt = (sRA a b k m : Int) → rb.toInt = (sRB a b k m : Int) → post la lb ra rb) : w1_surround (Int32.ofNat N) x1 x2 x3 x4 f v M post := by
  have hN := h.2.2.1
  have hA1 := cA_le h (k := k + 1) (by omega)
  have hB1 := cB_le h (k := k + 1) (by omega)
  have hA0 := cA_le h (k := k) (by omega)
  have hB0 := cB_le h (k := k) (by omega)
  have ha := h.2.2.2.2
  unfold w1_surround
  refine s1_top h hf hv hk (fun T hT => s1_bottom h hf hv hk (fun B hB => (s1_pair h hf hv hk).1 (fun T2 hT2 x26 e26 => (s1_pair h hf hv hk).2 (fun B2 hB2 x40 e40 => ⟨by decide, ?_⟩))))
  have c1 : ((m * cA a b (k + 1) : Nat) : Int) = (m : Int) * (cA a b (k + 1) : Int) := Int.natCast_mul _ _
  have c2 : ((m * cB a b (k + 1) : Nat) : Int) = (m : Int) * (cB a b (k + 1) : Int) := Int.natCast_mul _ _
  unfold oA at hbA
  unfold oB at hbB
  have m1 : (M * T).toInt = ((m * cA a b (k + 1) : Nat) : Int) := by rw [l_mul (by rw [hM, hT, ← c1]; omega) (by rw [hM, hT, ← c1]; omega), hM, hT, c1]
  have m2 : (M * B).toInt = ((m * cB a b (k + 1) : Nat) : Int) := by rw [l_mul (by rw [hM, hB, ← c2]; omega) (by rw [hM, hB, ← c2]; omega), hM, hB, c2]
  have g1 : x26.toInt = (oA a b k m : Int) := by
    unfold oA
    rw [e26, l_add (by rw [hT2, m1]; omega) (by rw [hT2, m1]; omega), hT2, m1]; omega
  have g2 : x40.toInt = (oB a b k m : Int) := by
    unfold oB
    rw [e40, l_add (by rw [hB2, m2]; omega) (by rw [hB2, m2]; omega), hB2, m2]; omega
  have hpar := par_i hv (by omega)
  unfold sLA sLB sRA sRB at hp
  refine ⟨fun z => ?_, fun z => ?_⟩
  · have q : k % 2 = 0 := by
      by_cases q : k % 2 = 0
      · exact q
      · exact absurd (hpar.mpr q) z
    simp only [if_pos q] at hp
    unfold w1_surround_J53 w1_surround_J68 w1_surround_J84
    simp only [b01, b00, false_implies, true_implies, not_true_eq_false, not_false_eq_true, true_and, and_true]
    exact hp _ _ _ _ g1 g2 hT hB
  · have q : ¬ k % 2 = 0 := hpar.mp z
    simp only [if_neg q] at hp
    unfold w1_surround_J53 w1_surround_J68 w1_surround_J84
    simp only [b01, b00, false_implies, true_implies, not_true_eq_false, not_false_eq_true, true_and, and_true]
    exact hp _ _ _ _ hT hB g1 g2
theorem rr_lastN {a b N : Nat} (h : CF a b N) : rr a b N (N - 1) = tm a b (N - 1) - 1 ∧ oA a b (N - 1) (rr a b N (N - 1) + 1) = a ∧ oB a b (N - 1) (rr a b N (N - 1) + 1) = b := by
  have e : rr a b N (N - 1) = tm a b (N - 1) - 1 := if_pos rfl
  have h1 := tm_last1 h
  obtain ⟨j, rfl⟩ : ∃ j, N = j + 1 := ⟨N - 1, by have := h.2.1; omega⟩
  rw [show j + 1 - 1 = j from rfl] at e h1 ⊢
  refine ⟨e, ?_, ?_⟩
  · have := cA_end h
    rw [show j + 1 + 1 = j + 2 from rfl, cA_rec] at this
    unfold oA
    rw [e, show tm a b j - 1 + 1 = tm a b j by omega]; omega
  · have := cB_end h
    rw [show j + 1 + 1 = j + 2 from rfl, cB_rec] at this
    unfold oB
    rw [e, show tm a b j - 1 + 1 = tm a b j by omega]; omega
theorem oA_mono {a b k m n : Nat} (h : m ≤ n) : oA a b k m ≤ oA a b k n ∧ oB a b k m ≤ oB a b k n := by
  unfold oA oB
  have h1 := Nat.mul_le_mul_right (cA a b (k + 1)) h
  have h2 := Nat.mul_le_mul_right (cB a b (k + 1)) h
  constructor <;> omega
/-- the bounds of a / b -/
theorem s1_findBounds {a b N : Nat} (h : CF a b N) {f : Nat → Int32} (hf : IsT a b N f) {x1 x2 x3 x4 : Int64} {post : Int64 → Int64 → Int64 → Int64 → Prop} (hp : ∀ la lb ra rb : Int64, la.toInt = (sLA a b (N - 1) (rr a b N (N - 1)) : Int) → lb.toInt = (sLB a b (N - 1) (rr a b N (N - 1)) : Int) → ra.toInt = (sRA a b (N - 1) (rr a b N (N - 1)) : Int) → rb.toInt = (sRB a b (N - 1) (rr a b N (N - 1)) : Int) → post la lb ra rb) : w1_findBounds (Int32.ofNat N) x1 x2 x3 x4 f post := by
  have hN := h.2.2.1
  have hN1 := h.2.1
  have l1 : (1 : Int32).toInt = 1 := rfl
  have l2 : (2 : Int32).toInt = 2 := rfl
  have hNi : (Int32.ofNat N).toInt = (N : Int) := n_toInt (by omega)
  have e1 : (Int32.ofNat N - 1).toInt = ((N - 1 : Nat) : Int) := by rw [szm1 hN1 (by omega)]; omega
  have e2 : (Int32.ofNat N - 2).toInt = ((N - 1 : Nat) : Int) - 1 := by rw [i_sub (by omega) (by omega), hNi, l2]; omega
  obtain ⟨r1, r2, r3⟩ := rr_lastN h
  have ht := hf (N - 1) (by omega)
  have htl := tm_le h (i := N - 1) (by omega)
  have ht1 := tm_last1 h
  have hmo := oA_mono (a := a) (b := b) (k := N - 1) (m := rr a b N (N - 1)) (n := rr a b N (N - 1) + 1) (by omega)
  have ha := h.2.2.2.2
  unfold w1_findBounds
  refine s1_at (by omega) e1 (by omega) (s1_surround h hf e2 (by omega) (m := rr a b N (N - 1)) ?_ (by omega) (by omega) hp)
  rw [t64, i_sub (by omega) (by omega), ht, l1, r1]; omega
/-- where the depth lies: the run, and the steps in it -/
def cutF (f : Nat → Nat) : Nat → Nat → Nat → Option (Nat × Nat)
  | 0, _, _ => none
  | n + 1, k, left => if left ≤ f k then some (k, left) else cutF f n (k + 1) (left - f k)
theorem cutF_some {f : Nat → Nat} : ∀ (n k left : Nat), 1 ≤ n → left ≤ sumN (fun i => f (k + i)) n → ∃ j m, cutF f n k left = some (j, m) ∧ k ≤ j ∧ j < k + n ∧ m ≤ f j := by
  intro n
  induction n with
  | zero => intro k left h; exact absurd h (by omega)
  | succ n ih =>
    intro k left _ h
    rw [cutF]
    by_cases q : left ≤ f k
    · exact ⟨k, left, if_pos q, by omega, by omega, q⟩
    · rw [if_neg q]
      rw [sumN_shift] at h
      have e : (fun i => f (k + (i + 1))) = (fun i => f (k + 1 + i)) := by
        funext i; rw [show k + (i + 1) = k + 1 + i by omega]
      simp only [Nat.add_zero] at h
      rw [e] at h
      have hn : 1 ≤ n := by
        cases n with
        | zero => exact absurd (show left ≤ f k by have : sumN (fun i => f (k + 1 + i)) 0 = 0 := rfl; omega) q
        | succ n => omega
      obtain ⟨j, m, h1, h2, h3, h4⟩ := ih (k + 1) (left - f k) hn (by omega)
      exact ⟨j, m, h1, by omega, by omega, h4⟩
def gdP (a b : Nat) (o : Option (Nat × Nat)) (la lb ra rb : Int64) : Prop := match o with
  | none => False
  | some (k, m) => la.toInt = (sLA a b k m : Int) ∧ lb.toInt = (sLB a b k m : Int) ∧ ra.toInt = (sRA a b k m : Int) ∧ rb.toInt = (sRB a b k m : Int)
/-- so many full terms are one step of the next run's start -/
theorem s_next (a b k : Nat) : sLA a b k (tm a b k) = sLA a b (k + 1) 0 ∧ sLB a b k (tm a b k) = sLB a b (k + 1) 0 ∧ sRA a b k (tm a b k) = sRA a b (k + 1) 0 ∧ sRB a b k (tm a b k) = sRB a b (k + 1) 0 := by
  have e1 : oA a b k (tm a b k) = cA a b (k + 2) := by unfold oA; rw [cA_rec]; omega
  have e2 : oB a b k (tm a b k) = cB a b (k + 2) := by unfold oB; rw [cB_rec]; omega
  have e3 : oA a b (k + 1) 0 = cA a b (k + 1) := by unfold oA; omega
  have e4 : oB a b (k + 1) 0 = cB a b (k + 1) := by unfold oB; omega
  unfold sLA sLB sRA sRB
  rw [e1, e2, e3, e4]
  by_cases q : k % 2 = 0
  · have q2 : ¬ (k + 1) % 2 = 0 := by omega
    rw [if_pos q, if_pos q, if_pos q, if_pos q, if_neg q2, if_neg q2, if_neg q2, if_neg q2]; exact ⟨rfl, rfl, rfl, rfl⟩
  · have q2 : (k + 1) % 2 = 0 := by omega
    rw [if_neg q, if_neg q, if_neg q, if_neg q, if_pos q2, if_pos q2, if_pos q2, if_pos q2]; exact ⟨rfl, rfl, rfl, rfl⟩
theorem gd_stop {t : Int32} {run ri : Nat → Int32} {post : Int64 → Int64 → Int64 → Int64 → Prop} {n : Nat} {i : Int32} {la lb ra rb : Int64} (hp : post la lb ra rb) {v : Int32} (hv : v.toInt = 0) : w8_goDown_L8 t run ri post (n + 1) v i la lb ra rb := by
  rw [w8_goDown_L8]
  exact ⟨fun _ => hp, fun _ => ⟨fun _ => hp, fun z => absurd (i_le.mpr (by rw [hv]; decide)) z⟩⟩
theorem par_1 (k : Nat) : (par k = 1 ↔ k % 2 = 0) := by
  unfold par
  by_cases q : k % 2 = 0
  · rw [if_pos q]; exact ⟨fun _ => q, fun _ => rfl⟩
  · rw [if_neg q]; exact ⟨fun h => absurd h (by decide), fun h => absurd h q⟩
/-- n steps of run k from its start -/
theorem gd_step {a b N : Nat} (h : CF a b N) {run ri : Nat → Int32} {t v i s0 : Int32} {post : Int64 → Int64 → Int64 → Int64 → Prop} {kb : Int32 → Int32 → Int64 → Int64 → Int64 → Int64 → Prop} {k n left j : Nat} (hk : k < N) (hn : n ≤ rr a b N k) (hs0 : s0.toInt = (n : Int)) (hv : v.toInt = (left : Int)) (hnl : n ≤ left) (hi : i.toInt = (j : Int)) (hj : j < 64) (hri : ri j = par k) {la lb ra rb : Int64} (hla : la.toInt = (sLA a b k 0 : Int)) (hlb : lb.toInt = (sLB a b k 0 : Int)) (hra : ra.toInt = (sRA a b k 0 : Int)) (hrb : rb.toInt = (sRB a b k 0 : Int))
    (hp : ∀ (v2 i2 : Int32) (la lb ra rb : Int64), v2.toInt = ((left - n : Nat) : Int) → i2.toInt = ((j + 1 : Nat) : Int) → la.toInt = (sLA a b k n : Int) → lb.toInt = (sLB a b k n : Int) → ra.toInt = (sRA a b k n : Int) → rb.toInt = (sRB a b k n : Int) → kb v2 i2 la lb ra rb) : w8_goDown_J40 t la lb ra rb run ri v i s0 post kb := by
  have hN := h.2.2.1
  have hv2 := i_range v
  have l1 : (1 : Int32).toInt = 1 := rfl
  have hA1 := cA_le h (k := k + 1) (by omega)
  have hB1 := cB_le h (k := k + 1) (by omega)
  have hA0 := cA_le h (k := k) (by omega)
  have hB0 := cB_le h (k := k) (by omega)
  have ha := h.2.2.2.2
  have hrl := rr_le h hk
  have pA := Nat.mul_le_mul (show n ≤ 1000000 by omega) (show cA a b (k + 1) ≤ 1000000 by omega)
  have pB := Nat.mul_le_mul (show n ≤ 1000000 by omega) (show cB a b (k + 1) ≤ 1000000 by omega)
  have c1 : ((n * cA a b (k + 1) : Nat) : Int) = (n : Int) * (cA a b (k + 1) : Int) := Int.natCast_mul _ _
  have c2 : ((n * cB a b (k + 1) : Nat) : Int) = (n : Int) * (cB a b (k + 1) : Int) := Int.natCast_mul _ _
  have z1 : oA a b k 0 = cA a b k := by unfold oA; omega
  have z2 : oB a b k 0 = cB a b k := by unfold oB; omega
  unfold w8_goDown_J40 w8_goLeft w8_goRight
  rw [natc hi, hri]
  refine ⟨vin (by omega) (by omega), fun z x ex y ey v2 ev i2 ei => ?_, fun z x ex y ey v2 ev i2 ei => ?_⟩
  · have q : ¬ k % 2 = 0 := fun w => z ((par_1 k).mpr w)
    simp only [sLA, sLB, sRA, sRB, if_neg q] at hla hlb hra hrb hp
    rw [z1] at hra
    rw [z2] at hrb
    have m1 : (s0.toInt64 * la).toInt = ((n * cA a b (k + 1) : Nat) : Int) := by rw [l_mul (by rw [t64, hs0, hla, ← c1]; omega) (by rw [t64, hs0, hla, ← c1]; omega), t64, hs0, hla, c1]
    have m2 : (s0.toInt64 * lb).toInt = ((n * cB a b (k + 1) : Nat) : Int) := by rw [l_mul (by rw [t64, hs0, hlb, ← c2]; omega) (by rw [t64, hs0, hlb, ← c2]; omega), t64, hs0, hlb, c2]
    refine hp v2 i2 la lb x y (by rw [ev, i_sub (by omega) (by omega), hv, hs0]; omega) (nxt hi (by omega) ei) hla hlb ?_ ?_
    · unfold oA; rw [ex, l_add (by rw [hra, m1]; omega) (by rw [hra, m1]; omega), hra, m1]; omega
    · unfold oB; rw [ey, l_add (by rw [hrb, m2]; omega) (by rw [hrb, m2]; omega), hrb, m2]; omega
  · have q : k % 2 = 0 := (par_1 k).mp z
    simp only [sLA, sLB, sRA, sRB, if_pos q] at hla hlb hra hrb hp
    rw [z1] at hla
    rw [z2] at hlb
    have m1 : (s0.toInt64 * ra).toInt = ((n * cA a b (k + 1) : Nat) : Int) := by rw [l_mul (by rw [t64, hs0, hra, ← c1]; omega) (by rw [t64, hs0, hra, ← c1]; omega), t64, hs0, hra, c1]
    have m2 : (s0.toInt64 * rb).toInt = ((n * cB a b (k + 1) : Nat) : Int) := by rw [l_mul (by rw [t64, hs0, hrb, ← c2]; omega) (by rw [t64, hs0, hrb, ← c2]; omega), t64, hs0, hrb, c2]
    refine hp v2 i2 x y ra rb (by rw [ev, i_sub (by omega) (by omega), hv, hs0]; omega) (nxt hi (by omega) ei) ?_ ?_ hra hrb
    · unfold oA; rw [ex, l_add (by rw [hla, m1]; omega) (by rw [hla, m1]; omega), hla, m1]; omega
    · unfold oB; rw [ey, l_add (by rw [hlb, m2]; omega) (by rw [hlb, m2]; omega), hlb, m2]; omega
theorem gd8_L {a b N : Nat} (h : CF a b N) {run ri : Nat → Int32} (hR : IsR a b N run ri) {t : Int32} (ht : t.toInt = ((N - zz a b N : Nat) : Int)) {post : Int64 → Int64 → Int64 → Int64 → Prop} : ∀ (n k left : Nat) (v i : Int32) (la lb ra rb : Int64), k + n = N → zz a b N ≤ k → v.toInt = (left : Int) → i.toInt = ((k - zz a b N : Nat) : Int) → (n = 0 → left = 0) → left ≤ sumN (fun i => rr a b N (k + i)) n → la.toInt = (sLA a b k 0 : Int) → lb.toInt = (sLB a b k 0 : Int) → ra.toInt = (sRA a b k 0 : Int) → rb.toInt = (sRB a b k 0 : Int) → 1 ≤ n → (∀ la lb ra rb : Int64, gdP a b (cutF (rr a b N) n k left) la lb ra rb → post la lb ra rb) → w8_goDown_L8 t run ri post (n + 1) v i la lb ra rb := by
  have hN := h.2.2.1
  intro n
  induction n with
  | zero => intro k left v i la lb ra rb _ _ _ _ _ _ _ _ _ _ h1; exact absurd h1 (by omega)
  | succ n ih =>
    intro k left v i la lb ra rb hk hz hv hi _ hsum hla hlb hra hrb _ hp
    have l0 : (0 : Int32).toInt = 0 := rfl
    by_cases hleft : left = 0
    · subst hleft
      refine gd_stop (hp la lb ra rb ?_) hv
      rw [cutF, if_pos (Nat.zero_le _)]
      exact ⟨hla, hlb, hra, hrb⟩
    rw [w8_goDown_L8]
    obtain ⟨r1, r2⟩ := hR (k - zz a b N) (by omega)
    rw [show k - zz a b N + zz a b N = k by omega] at r1 r2
    have hvi : vp_in i 64 := vin (by omega) (by omega)
    have hsh : sumN (fun i => rr a b N (k + i)) (n + 1) = rr a b N k + sumN (fun i => rr a b N (k + 1 + i)) n := by
      rw [sumN_shift]
      have e : (fun i => rr a b N (k + (i + 1))) = (fun i => rr a b N (k + 1 + i)) := by
        funext i; rw [show k + (i + 1) = k + 1 + i by omega]
      rw [e]; rfl
    rw [hsh] at hsum
    refine ⟨fun z => absurd (i_le.mp z) (by omega), fun _ => ⟨fun z => absurd (i_le.mp z) (by omega), fun _ => ⟨hvi, fun z => ⟨hvi, ?_⟩, fun z => ?_⟩⟩⟩
    · rw [natc hi] at z ⊢
      have z := i_le.mp z
      refine gd_step h (k := k) (n := rr a b N k) (left := left) (j := k - zz a b N) (by omega) (Nat.le_refl _) r1 hv (by omega) hi (by omega) r2 hla hlb hra hrb (fun v2 i2 la lb ra rb hv2 hi2 h1 h2 h3 h4 => ?_)
      by_cases he : left = rr a b N k
      · refine gd_stop (hp la lb ra rb ?_) (by rw [hv2, he]; omega)
        rw [cutF, if_pos (by omega), he]
        exact ⟨h1, h2, h3, h4⟩
      · have hn : 1 ≤ n := by
          cases n with
          | zero => exact absurd hsum (by have : sumN (fun i => rr a b N (k + 1 + i)) 0 = 0 := rfl; omega)
          | succ n => omega
        have hrt : rr a b N k = tm a b k := if_neg (by omega)
        obtain ⟨s1, s2, s3, s4⟩ := s_next a b k
        rw [hrt] at h1 h2 h3 h4
        refine ih (k + 1) (left - rr a b N k) v2 i2 la lb ra rb (by omega) (by omega) hv2 (by rw [hi2]; congr 1; omega) (fun q => by omega) (by omega) (by rw [h1, s1]) (by rw [h2, s2]) (by rw [h3, s3]) (by rw [h4, s4]) hn (fun la lb ra rb hg => hp la lb ra rb ?_)
        rw [cutF, if_neg (by omega)]
        exact hg
    · rw [natc hi] at z
      have z : ¬ (run (k - zz a b N)).toInt ≤ v.toInt := fun w => z (i_le.mpr w)
      refine gd_step h (k := k) (n := left) (left := left) (j := k - zz a b N) (by omega) (by omega) hv hv (Nat.le_refl _) hi (by omega) r2 hla hlb hra hrb (fun v2 i2 la lb ra rb hv2 hi2 h1 h2 h3 h4 => ?_)
      refine gd_stop (hp la lb ra rb ?_) (by rw [hv2]; omega)
      rw [cutF, if_pos (by omega)]
      exact ⟨h1, h2, h3, h4⟩
