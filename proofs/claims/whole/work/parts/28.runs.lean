/-! runs -/
def sumN (f : Nat → Nat) : Nat → Nat
  | 0 => 0
  | n + 1 => sumN f n + f n
theorem sumN_le {f : Nat → Nat} {C : Nat} : ∀ {n : Nat}, (∀ i, i < n → f i ≤ C) → sumN f n ≤ C * n := by
  intro n
  induction n with
  | zero => intro _; exact Nat.zero_le _
  | succ n ih =>
    intro h
    have h1 := ih (fun i hi => h i (by omega))
    have h2 := h n (by omega)
    show sumN f n + f n ≤ C * (n + 1)
    rw [Nat.mul_succ]; omega
theorem sumN_mono {f : Nat → Nat} {m n : Nat} (h : m ≤ n) : sumN f m ≤ sumN f n := by
  induction n with
  | zero => have : m = 0 := by omega
            subst this; exact Nat.le_refl _
  | succ n ih =>
    by_cases q : m = n + 1
    · subst q; exact Nat.le_refl _
    · have := ih (by omega)
      show sumN f m ≤ sumN f n + f n
      omega
/-- the depth -/
def dep (a b N : Nat) : Nat := sumN (rr a b N) N
theorem dep_le {a b N : Nat} (h : CF a b N) {k : Nat} (hk : k ≤ N) : sumN (rr a b N) k ≤ 40000000 := by
  have h1 := sumN_le (f := rr a b N) (C := 1000000) (n := k) (fun i hi => rr_le h (by omega))
  have h2 := h.2.2.1
  omega
theorem szm1 {N : Nat} (h1 : 1 ≤ N) (h2 : N ≤ 1000) : (Int32.ofNat N - 1).toInt = (N : Int) - 1 := by
  have l1 : (1 : Int32).toInt = 1 := rfl
  have e : (Int32.ofNat N).toInt = (N : Int) := n_toInt (by omega)
  rw [i_sub (by omega) (by omega), e, l1]
theorem s1_at {N : Nat} {f : Nat → Int32} {v : Int32} {k : Nat} (hN : N ≤ 64) (hv : v.toInt = (k : Int)) (hk : k < N) {post : Int32 → Prop} (h : post (f k)) : w1_at (Int32.ofNat N) f v post := by
  have l0 : (0 : Int32).toInt = 0 := rfl
  have e : (Int32.ofNat N).toInt = (N : Int) := n_toInt (by omega)
  unfold w1_at
  refine ⟨fun q => absurd (i_lt.mp q) (by omega), fun _ => ⟨fun q => absurd (i_le.mp q) (by omega), fun _ => ⟨vin (by omega) (by omega), ?_⟩⟩⟩
  rw [natc hv]; exact h
theorem s1_runAt {a b N : Nat} (h : CF a b N) {f : Nat → Int32} (hf : IsT a b N f) {v : Int32} {k : Nat} (hv : v.toInt = (k : Int)) (hk : k < N) {post : Int32 → Prop} (hp : ∀ r : Int32, r.toInt = (rr a b N k : Int) → post r) : w1_runAt (Int32.ofNat N) f v post := by
  have hN := h.2.2.1
  have l1 : (1 : Int32).toInt = 1 := rfl
  have e1 := szm1 (N := N) h.2.1 (by omega)
  have ht := hf k hk
  have htl := tm_le h hk
  unfold w1_runAt
  refine ⟨fun q => s1_at (by omega) hv hk (hp _ ?_), fun q => s1_at (by omega) hv hk (hp _ ?_)⟩
  · have hne : ¬ k = N - 1 := fun z => q (i_ext (by rw [hv, e1]; omega))
    rw [ht, rr, if_neg hne]
  · have he : k = N - 1 := by
      have := congrArg Int32.toInt q
      rw [hv, e1] at this; omega
    have h2 := tm_last1 h
    rw [← he] at h2
    rw [i_sub (by omega) (by omega), ht, l1, rr, if_pos he]; omega
theorem sc7_L {a b N : Nat} (h : CF a b N) {f : Nat → Int32} (hf : IsT a b N f) {post : Int32 → Prop} (hp : ∀ r : Int32, r.toInt = (dep a b N : Int) → post r) : ∀ (n k : Nat) (acc i : Int32), k + n = N → acc.toInt = (sumN (rr a b N) k : Int) → i.toInt = (k : Int) → w1_stepCount_L4 (Int32.ofNat N) f post (n + 1) acc i := by
  have hN := h.2.2.1
  have e : (Int32.ofNat N).toInt = (N : Int) := n_toInt (by omega)
  intro n
  induction n with
  | zero =>
    intro k acc i hk ha hi
    obtain rfl : k = N := by omega
    rw [w1_stepCount_L4]
    exact ⟨fun _ => hp _ ha, fun q => absurd (i_le.mpr (by omega)) q⟩
  | succ n ih =>
    intro k acc i hk ha hi
    rw [w1_stepCount_L4]
    refine ⟨fun q => absurd (i_le.mp q) (by omega), fun _ => s1_runAt h hf hi (by omega) (fun r hr x ex j ej => ?_)⟩
    have b1 := dep_le h (k := k + 1) (by omega)
    have b2 : sumN (rr a b N) (k + 1) = sumN (rr a b N) k + rr a b N k := rfl
    refine ih (k + 1) x j (by omega) ?_ (nxt hi (by omega) ej)
    rw [ex, i_add (by omega) (by omega), ha, hr, b2]; omega
theorem s1_stepCount {a b N : Nat} (h : CF a b N) {f : Nat → Int32} (hf : IsT a b N f) {post : Int32 → Prop} (hp : ∀ r : Int32, r.toInt = (dep a b N : Int) → post r) : w1_stepCount (Int32.ofNat N) f post := ⟨_, sc7_L h hf hp N 0 0 0 (by omega) rfl rfl⟩
/-- 1 if the first run has no steps -/
def zz (a b N : Nat) : Nat := if rr a b N 0 = 0 then 1 else 0
def par (j : Nat) : Int32 := if j % 2 = 0 then 1 else 0
def IsR (a b N : Nat) (run ri : Nat → Int32) : Prop := ∀ j, j < N - zz a b N → (run j).toInt = (rr a b N (j + zz a b N) : Int) ∧ ri j = par (j + zz a b N)
theorem par2 {v : Int32} {k : Nat} (hv : v.toInt = (k : Int)) : (v - (v / 2) * 2).toInt = ((k % 2 : Nat) : Int) := (i_divmod (b := 2) hv rfl (by omega)).2
theorem lr8_J {a b N : Nat} (h : CF a b N) {f : Nat → Int32} {post : Int32 → Int32 → (Nat → Int32) → (Nat → Int32) → (Nat → Int32) → Prop} {kb : Int32 → Int32 → (Nat → Int32) → (Nat → Int32) → Prop} {k : Nat} (hk : k < N) {v s0 : Int32} (hv : v.toInt = (k : Int)) (hs : s0.toInt = (rr a b N k : Int)) {run ri : Nat → Int32}
    (hR : ∀ j, j < k - zz a b N → (run j).toInt = (rr a b N (j + zz a b N) : Int) ∧ ri j = par (j + zz a b N))
    (hp : ∀ (j : Int32) (run ri : Nat → Int32), j.toInt = ((k + 1 : Nat) : Int) → (∀ j, j < k + 1 - zz a b N → (run j).toInt = (rr a b N (j + zz a b N) : Int) ∧ ri j = par (j + zz a b N)) → kb j (Int32.ofNat (k + 1 - zz a b N)) run ri) : w8_layRuns_J48 (Int32.ofNat N) (Int32.ofNat (k - zz a b N)) f run ri v s0 post kb := by
  have hN := h.2.2.1
  have l0 : (0 : Int32).toInt = 0 := rfl
  have hzk : (rr a b N k = 0 → k = 0 ∧ zz a b N = 1) ∧ (¬ rr a b N k = 0 → zz a b N ≤ k) := by
    constructor
    · intro q
      have : k = 0 := by
        rcases Nat.eq_zero_or_pos k with z | z
        · exact z
        · have := rr_pos h z hk; omega
      subst this
      exact ⟨rfl, if_pos q⟩
    · intro q
      unfold zz
      by_cases z : rr a b N 0 = 0
      · rw [if_pos z]
        rcases Nat.eq_zero_or_pos k with y | y
        · subst y; exact absurd z q
        · exact y
      · rw [if_neg z]; exact Nat.zero_le _
  have hci : (Int32.ofNat (k - zz a b N)).toInt = ((k - zz a b N : Nat) : Int) := n_toInt (by omega)
  have hvin : vp_in (Int32.ofNat (k - zz a b N)) 64 := vin (by omega) (by omega)
  have hne2 : ¬ (2 : Int32) = 0 := by decide
  have hpar := par2 hv
  have step : ∀ (p : Int32), p = par k → ¬ rr a b N k = 0 → ∀ (x j : Int32), x = Int32.ofNat (k - zz a b N) + 1 → j = v + 1 → kb j x (upd run (Int32.ofNat (k - zz a b N)).toNatClampNeg s0) (upd ri (Int32.ofNat (k - zz a b N)).toNatClampNeg p) := fun p hpp hr0 x j ex ej => by
    have hzle := hzk.2 hr0
    rw [ofN_1, show k - zz a b N + 1 = k + 1 - zz a b N by omega] at ex
    rw [ex, natc hci]
    refine hp j _ _ (nxt hv (by omega) ej) (fun q hq => ?_)
    by_cases hqk : q = k - zz a b N
    · subst hqk
      rw [upd_eq, upd_eq, show k - zz a b N + zz a b N = k by omega]
      exact ⟨hs, hpp⟩
    · rw [upd_ne _ _ hqk, upd_ne _ _ hqk]
      exact hR q (by omega)
  unfold w8_layRuns_J48
  refine ⟨fun hs0 => ?_, fun hs0 j ej => ?_⟩
  · have hr0 : ¬ rr a b N k = 0 := fun q => hs0 (i_ext (by rw [hs, q]; rfl))
    refine ⟨hvin, hne2, fun hq => ⟨hvin, fun x ex j ej => step 0 ?_ hr0 x j ex ej⟩, fun hq => ⟨hvin, fun x ex j ej => step 1 ?_ hr0 x j ex ej⟩⟩
    · have : ¬ k % 2 = 0 := fun z => hq (i_ext (by rw [hpar, z]; rfl))
      rw [par, if_neg this]
    · have : k % 2 = 0 := by
        have e := congrArg Int32.toInt hq
        rw [hpar, l0] at e; omega
      rw [par, if_pos this]
  · have hr0 : rr a b N k = 0 := by
      rw [hs0, l0] at hs; omega
    obtain ⟨hk0, hz1⟩ := hzk.1 hr0
    subst hk0
    have := hp j run ri (nxt hv (by omega) ej) (fun q hq => absurd hq (by omega))
    rw [hz1] at this ⊢
    exact this
theorem lr8_L {a b N : Nat} (h : CF a b N) {f : Nat → Int32} (hf : IsT a b N f) {post : Int32 → Int32 → (Nat → Int32) → (Nat → Int32) → (Nat → Int32) → Prop} (hp : ∀ run ri, IsR a b N run ri → post (Int32.ofNat N) (Int32.ofNat (N - zz a b N)) f run ri) : ∀ (n k : Nat) (i : Int32) (run ri : Nat → Int32), k + n = N → i.toInt = (k : Int) → (∀ j, j < k - zz a b N → (run j).toInt = (rr a b N (j + zz a b N) : Int) ∧ ri j = par (j + zz a b N)) → w8_layRuns_L13 (Int32.ofNat N) f post (n + 1) i (Int32.ofNat (k - zz a b N)) run ri := by
  have hN := h.2.2.1
  have l1 : (1 : Int32).toInt = 1 := rfl
  have e : (Int32.ofNat N).toInt = (N : Int) := n_toInt (by omega)
  have e1 := szm1 (N := N) h.2.1 (by omega)
  intro n
  induction n with
  | zero =>
    intro k i run ri hk hi hR
    obtain rfl : k = N := by omega
    rw [w8_layRuns_L13]
    exact ⟨fun _ => hp _ _ hR, fun q => absurd (i_le.mpr (by omega)) q⟩
  | succ n ih =>
    intro k i run ri hk hi hR
    rw [w8_layRuns_L13]
    have hkN : k < N := by omega
    have hv : vp_in i 64 := vin (by omega) (by omega)
    have ht := hf k hkN
    have htl := tm_le h hkN
    refine ⟨fun q => absurd (i_le.mp q) (by omega), fun _ => ⟨fun q => ⟨hv, ?_⟩, fun q => ⟨hv, ?_⟩⟩⟩
    · have hne : ¬ k = N - 1 := fun z => q (i_ext (by rw [hi, e1]; omega))
      rw [natc hi]
      exact lr8_J h hkN hi (by rw [ht, rr, if_neg hne]) hR (fun j run ri hj hR2 => ih (k + 1) j run ri (by omega) hj hR2)
    · have he : k = N - 1 := by
        have := congrArg Int32.toInt q
        rw [hi, e1] at this; omega
      have h2 := tm_last1 h
      rw [← he] at h2
      rw [natc hi]
      exact lr8_J h hkN hi (by rw [i_sub (by omega) (by omega), ht, l1, rr, if_pos he]; omega) hR (fun j run ri hj hR2 => ih (k + 1) j run ri (by omega) hj hR2)
theorem s8_layRuns {a b N : Nat} (h : CF a b N) {x y s t : Int32} {f g u : Nat → Int32} (hx : x.toInt = (a : Int)) (hy : y.toInt = (b : Int)) {post : Int32 → Int32 → (Nat → Int32) → (Nat → Int32) → (Nat → Int32) → Prop} (hp : ∀ f run ri, IsT a b N f → IsR a b N run ri → post (Int32.ofNat N) (Int32.ofNat (N - zz a b N)) f run ri) : w8_layRuns s t f g u x y post := by
  unfold w8_layRuns
  refine s8_layTerms h hx hy (fun f hf => ⟨N + 1, ?_⟩)
  have := lr8_L h hf (fun run ri hR => hp f run ri hf hR) N 0 0 g u (by omega) rfl (fun j hj => absurd hj (by omega))
  rw [Nat.zero_sub] at this
  exact this
theorem sumN_shift (f : Nat → Nat) : ∀ n, sumN f (n + 1) = f 0 + sumN (fun i => f (i + 1)) n
  | 0 => by show 0 + f 0 = f 0 + 0; omega
  | n + 1 => by
    show sumN f (n + 1) + f (n + 1) = f 0 + (sumN (fun i => f (i + 1)) n + f (n + 1))
    rw [sumN_shift f n]; omega
theorem sumN_zz {a b N : Nat} (h : CF a b N) {k : Nat} (hk : zz a b N ≤ k) : sumN (fun i => rr a b N (i + zz a b N)) (k - zz a b N) = sumN (rr a b N) k := by
  unfold zz at *
  by_cases q : rr a b N 0 = 0
  · rw [if_pos q] at hk ⊢
    obtain ⟨m, rfl⟩ : ∃ m, k = m + 1 := ⟨k - 1, by omega⟩
    rw [sumN_shift, q, Nat.zero_add]; rfl
  · rw [if_neg q]; rfl
theorem dp8_L {a b N : Nat} (h : CF a b N) {f run ri : Nat → Int32} (hR : IsR a b N run ri) {s t : Int32} {post : Int32 → Int32 → Int32 → (Nat → Int32) → (Nat → Int32) → (Nat → Int32) → Prop} (ht : t.toInt = ((N - zz a b N : Nat) : Int)) (hp : ∀ r : Int32, r.toInt = (dep a b N : Int) → post r s t f run ri) : ∀ (n k : Nat) (acc i : Int32), k + n = N - zz a b N → acc.toInt = (sumN (fun i => rr a b N (i + zz a b N)) k : Int) → i.toInt = (k : Int) → w8_depthOf_L11 s t f run ri post (n + 1) acc i := by
  have hN := h.2.2.1
  have hz : zz a b N ≤ N := by have := h.2.1; unfold zz; split <;> omega
  have tot : sumN (fun i => rr a b N (i + zz a b N)) (N - zz a b N) = dep a b N := sumN_zz h hz
  have bnd := dep_le h (k := N) (Nat.le_refl _)
  intro n
  induction n with
  | zero =>
    intro k acc i hk ha hi
    rw [w8_depthOf_L11]
    refine ⟨fun _ => hp _ ?_, fun q => absurd (i_le.mpr (by omega)) q⟩
    rw [ha, show k = N - zz a b N by omega, tot]
  | succ n ih =>
    intro k acc i hk ha hi
    rw [w8_depthOf_L11]
    have hr := (hR k (by omega)).1
    refine ⟨fun q => absurd (i_le.mp q) (by omega), fun _ => ⟨vin (by omega) (by omega), fun x ex j ej => ?_⟩⟩
    rw [natc hi] at ex
    have b2 : sumN (fun i => rr a b N (i + zz a b N)) (k + 1) = sumN (fun i => rr a b N (i + zz a b N)) k + rr a b N (k + zz a b N) := rfl
    have b3 : sumN (fun i => rr a b N (i + zz a b N)) (k + 1) ≤ sumN (fun i => rr a b N (i + zz a b N)) (N - zz a b N) := sumN_mono (by omega)
    rw [tot] at b3
    have b4 : dep a b N ≤ 40000000 := bnd
    refine ih (k + 1) x j (by omega) ?_ (nxt hi (by omega) ej)
    rw [ex, i_add (by omega) (by omega), ha, hr, b2]; omega
theorem s8_depthOf {a b N : Nat} (h : CF a b N) {x y s t : Int32} {f g u : Nat → Int32} (hx : x.toInt = (a : Int)) (hy : y.toInt = (b : Int)) {post : Int32 → Int32 → Int32 → (Nat → Int32) → (Nat → Int32) → (Nat → Int32) → Prop} (hp : ∀ (r : Int32) f run ri, r.toInt = (dep a b N : Int) → IsT a b N f → IsR a b N run ri → post r (Int32.ofNat N) (Int32.ofNat (N - zz a b N)) f run ri) : w8_depthOf s t f g u x y post := by
  have hN := h.2.2.1
  unfold w8_depthOf
  exact s8_layRuns h hx hy (fun f run ri hf hR => ⟨_, dp8_L h hR (n_toInt (by omega)) (fun r hr => hp r f run ri hr hf hR) (N - zz a b N) 0 0 0 (by omega) rfl rfl⟩)
theorem op_depth : Op_depth := by
  intro x_hasSnapshot x_termListSize x_textSize x_tops x_bottoms x_slots x_savedTops x_savedBottoms x_savedSlots x_termList x_text x_arraySizes x_E_size x_E_terms x_arrays0 x_arrays1 x_arrays2 m_terms m_runs m_listed m_fed m_hasSnapshot m_above m_below m_term m_run m_isRight m_list m_text m_kindOf m_nodeAbove m_nodeBelow m_length m_cell m_savedAbove m_savedBelow m_savedKind m_savedNodeAbove m_savedNodeBelow PL kk tt bb v1 hI
  obtain ⟨hReg, hList, hText, hArr, hNode, hHs, hHs01, hSnap⟩ := id hI
  unfold w7_depth w8_depth w7_expand
  by_cases h1 : isR v1
  rotate_left
  · simp only [r7n h1, r8n h1, b01, b00, false_implies, true_implies, not_true_eq_false, not_false_eq_true, true_and, and_true]; exact hI
  simp only [r7y h1, r8y h1, b01, b00, false_implies, true_implies, not_true_eq_false, not_false_eq_true, true_and, and_true]
  obtain ⟨A, B, N, hC, e1, e2, e3, e4⟩ := hReg.cf h1.lt
  exact ⟨h1.vin, h1.vin, s1_expand hC e1 e2 (fun f hf => s1_stepCount hC hf (fun r hr => ⟨h1.vin, h1.vin, s8_depthOf hC e3 e4 (fun r2 f2 run ri hr2 _ _ => ⟨i_ext (by rw [hr, hr2]), hI⟩)⟩))⟩
