/-! recognizeWord -/
def wSel (v : Int32) (f0 f1 f2 g : Nat → Int32) (n : Nat) : Prop := (v = 0 → ∀ k, k < n → f0 k = g k) ∧ (v = 1 → ∀ k, k < n → f1 k = g k) ∧ (v = 2 → ∀ k, k < n → f2 k = g k)
def wVal (g : Nat → Int32) (k : Nat) : Prop := ∀ i, i < k → g i = 0 ∨ g i = 1
def wCn (g : Nat → Int32) (k : Nat) : Nat := sumN (fun i => if g i = 1 then 1 else 0) k
theorem wCn_le (g : Nat → Int32) (k : Nat) : wCn g k ≤ 1 * k := sumN_le (fun i _ => by split <;> omega)
theorem wCn_succ (g : Nat → Int32) (k : Nat) : wCn g (k + 1) = wCn g k + (if g k = 1 then 1 else 0) := rfl
def wLt (A B : Int32) (j : Nat) : Int32 := letF A B (Int32.ofNat j).toInt64
def wAm (n i m : Nat) : Nat := if i + m < n then i + m else i + m - n
theorem wAm_mod {n i m : Nat} (hi : i < n) (hm : m < n) : (i + m) % n = wAm n i m := by
  unfold wAm
  split
  · rename_i h; exact Nat.mod_eq_of_lt h
  · rename_i h
    rw [Nat.mod_eq_sub_mod (by omega)]; exact Nat.mod_eq_of_lt (by omega)
theorem wAm_lt {n i m : Nat} (hi : i < n) (hm : m < n) : wAm n i m < n := by unfold wAm; split <;> omega
def wP (A B : Int32) (g : Nat → Int32) (n m : Nat) : Prop := ∀ i, i < n → g i = wLt A B (wAm n i m)
def wQ (A B : Int32) (g : Nat → Int32) (n t : Nat) : Prop := ∀ k, k < n → g (wAm n k t) = wLt A B k
def wRv (A B : Int32) (g : Nat → Int32) (n : Nat) : Prop := ∀ i, i < n → g i = wLt A B (n - 1 - i)
theorem wQ0 {A B : Int32} {g : Nat → Int32} {n : Nat} : wQ A B g n 0 ↔ wP A B g n 0 := by
  have e : ∀ i, i < n → wAm n i 0 = i := fun i hi => by unfold wAm; rw [if_pos (by omega)]; rfl
  constructor
  · intro h i hi
    have := h i hi
    rw [e i hi] at this ⊢; exact this
  · intro h i hi
    have := h i hi
    rw [e i hi] at this ⊢; exact this
theorem wQP {A B : Int32} {g : Nat → Int32} {n t : Nat} (h0 : 1 ≤ t) (ht : t < n) (h : wQ A B g n t) : wP A B g n (n - t) := by
  intro i hi
  have hk : wAm n i (n - t) < n := wAm_lt hi (by omega)
  have := h _ hk
  have e : wAm n (wAm n i (n - t)) t = i := by
    unfold wAm
    by_cases q : i + (n - t) < n
    · rw [if_pos q, if_neg (by omega)]; omega
    · rw [if_neg q, if_pos (by omega)]; omega
  rw [e] at this
  exact this
theorem wPQ {A B : Int32} {g : Nat → Int32} {n m : Nat} (h0 : 1 ≤ m) (hm : m < n) (h : wP A B g n m) : wQ A B g n (n - m) := by
  intro k hk
  have hi : wAm n k (n - m) < n := wAm_lt hk (by omega)
  have := h _ hi
  have e : wAm n (wAm n k (n - m)) m = k := by
    unfold wAm
    by_cases q : k + (n - m) < n
    · rw [if_pos q, if_neg (by omega)]; omega
    · rw [if_neg q, if_pos (by omega)]; omega
  rw [e] at this
  exact this
/-- the class of the word -/
def wC (A B : Int32) (g : Nat → Int32) (n : Nat) (c : Int32) : Prop := (c = 1 ∧ wQ A B g n 0) ∨ (c = 2 ∧ ¬ wQ A B g n 0 ∧ wRv A B g n) ∨ (c = 3 ∧ ¬ wQ A B g n 0 ∧ ¬ wRv A B g n ∧ ∃ t, t < n ∧ wQ A B g n t) ∨ (c = 0 ∧ ¬ wQ A B g n 0 ∧ ¬ wRv A B g n ∧ ¬ ∃ t, t < n ∧ wQ A B g n t)
theorem wC_uniq {A B : Int32} {g : Nat → Int32} {n : Nat} {c d : Int32} (h : wC A B g n c) (k : wC A B g n d) : c = d := by
  rcases h with ⟨h1, h2⟩ | ⟨h1, h2, h3⟩ | ⟨h1, h2, h3, h4⟩ | ⟨h1, h2, h3, h4⟩ <;> rcases k with ⟨k1, k2⟩ | ⟨k1, k2, k3⟩ | ⟨k1, k2, k3, k4⟩ | ⟨k1, k2, k3, k4⟩ <;> first | exact h1.trans k1.symm | exact absurd h2 k2 | exact absurd k2 h2 | exact absurd h3 k3 | exact absurd k3 h3 | exact absurd h4 k4 | exact absurd k4 h4
theorem ow7_L {sz f0 f1 f2 g : Nat → Int32} {v : Int32} (hv : isA v) {n : Nat} (hn : n ≤ 60) (hsz : (sz v.toNatClampNeg).toInt = (n : Int)) (hs : wSel v f0 f1 f2 g n) {post : Int32 → Prop} (hp0 : ¬ wVal g n → post 0) (hp1 : wVal g n → post (Int32.ofNat (wCn g n))) : ∀ (m k : Nat) (acc i : Int32), k + m = n → wVal g k → acc.toInt = (wCn g k : Int) → i.toInt = (k : Int) → w7_onesOfWord_L4 sz f0 f1 f2 v post (m + 1) acc i := by
  have l1 : (1 : Int32).toInt = 1 := rfl
  have l0 : (0 : Int32).toInt = 0 := rfl
  intro m
  induction m with
  | zero =>
    intro k acc i hk hw ha hi
    obtain rfl : k = n := by omega
    rw [w7_onesOfWord_L4]
    refine ⟨hv.vin, fun _ => ?_, fun z => absurd (i_le.mpr (by omega)) z⟩
    rw [of_toInt ha]; exact hp1 hw
  | succ m ih =>
    intro k acc i hk hw ha hi
    have hcl := wCn_le g k
    rw [w7_onesOfWord_L4]
    have step : ∀ x : Int32, x = g k → ((x = 0 → (∀ x41 : Int32, x41 = (acc + x) → (∀ x42 : Int32, x42 = (i + (1 : Int32)) → (w7_onesOfWord_L4 sz f0 f1 f2 v post (m + 1) x41 x42)))) ∧ (¬ x = 0 → ((x = (1 : Int32) → (∀ x41 : Int32, x41 = (acc + x) → (∀ x42 : Int32, x42 = (i + (1 : Int32)) → (w7_onesOfWord_L4 sz f0 f1 f2 v post (m + 1) x41 x42)))) ∧ (¬ x = (1 : Int32) → (post (0 : Int32)))))) := by
      intro x hx
      have nx : g k = 0 ∨ g k = 1 → wVal g (k + 1) := fun q j hj => by
        rcases (show j < k ∨ j = k by omega) with w | w
        · exact hw j w
        · rw [w]; exact q
      refine ⟨fun z y ey j ej => ?_, fun z => ⟨fun w y ey j ej => ?_, fun w => hp0 (fun h => ?_)⟩⟩
      · have hg : g k = 0 := by rw [← hx]; exact z
        refine ih (k + 1) y j (by omega) (nx (Or.inl hg)) ?_ (nxt hi (by omega) ej)
        rw [ey, z, i_add (by rw [l0]; omega) (by rw [l0]; omega), ha, l0, wCn_succ, if_neg (by rw [hg]; decide)]; omega
      · have hg : g k = 1 := by rw [← hx]; exact w
        refine ih (k + 1) y j (by omega) (nx (Or.inr hg)) ?_ (nxt hi (by omega) ej)
        rw [ey, w, i_add (by rw [l1]; omega) (by rw [l1]; omega), ha, l1, wCn_succ, if_pos hg]; omega
      · rcases h k (by omega) with y | y
        · exact z (by rw [hx]; exact y)
        · exact w (by rw [hx]; exact y)
    refine ⟨hv.vin, fun z => absurd (i_le.mp z) (by omega), fun _ => ⟨hv.vin, fun y => ⟨vin (by omega) (by omega), fun x ex => step x ?_⟩, fun y => ⟨vin (by omega) (by omega), fun x ex => step x ?_⟩, fun y => ⟨vin (by omega) (by omega), fun x ex => step x ?_⟩⟩⟩
    · rw [ex, natc hi]; exact hs.1 y k (by omega)
    · rw [ex, natc hi]; exact hs.2.1 y k (by omega)
    · rw [ex, natc hi]; exact hs.2.2 y k (by omega)
theorem ro7_L {sz f0 f1 f2 g : Nat → Int32} {v A B M S : Int32} (hv : isA v) {n mv : Nat} (hn : n ≤ 60) (hmv : mv < n) (hAB : 1 ≤ A.toInt ∧ A.toInt ≤ 1000000 ∧ 1 ≤ B.toInt ∧ B.toInt ≤ 1000000) (hsz : (sz v.toNatClampNeg).toInt = (n : Int)) (hM : M.toInt = (mv : Int)) (hS : S.toInt = (n : Int)) (hs : wSel v f0 f1 f2 g n) {post : Int32 → Prop} (hp0 : ¬ wP A B g n mv → post 0) (hp1 : wP A B g n mv → post 1) : ∀ (m k : Nat) (i : Int32), k + m = n → (∀ i, i < k → g i = wLt A B (wAm n i mv)) → i.toInt = (k : Int) → w7_isRotatedWord_L8 sz f0 f1 f2 v A B M S post (m + 1) i := by
  intro m
  induction m with
  | zero =>
    intro k i hk hw hi
    obtain rfl : k = n := by omega
    rw [w7_isRotatedWord_L8]
    exact ⟨hv.vin, fun _ => hp1 hw, fun z => absurd (i_le.mpr (by omega)) z⟩
  | succ m ih =>
    intro k i hk hw hi
    rw [w7_isRotatedWord_L8]
    have step : ∀ h : Int32, h = g k → w7_remainder ((i + M).toInt64) S.toInt64 (fun r41 => (w7_letterOf A.toInt64 B.toInt64 r41 (fun r44 => ((h = r44 → (∀ x52 : Int32, x52 = (i + (1 : Int32)) → (w7_isRotatedWord_L8 sz f0 f1 f2 v A B M S post (m + 1) x52))) ∧ (¬ h = r44 → (post (0 : Int32))))))) := by
      intro h hh
      have t1 : (i + M).toInt64.toInt = ((k + mv : Nat) : Int) := by rw [t64, i_add (by omega) (by omega), hi, hM]; omega
      have t2 : S.toInt64.toInt = (n : Int) := by rw [t64, hS]
      have o0 : (0 : Int64).toInt = 0 := rfl
      have t3 : (((i + M).toInt64) - (((i + M).toInt64) / S.toInt64) * S.toInt64) = (Int32.ofNat (wAm n k mv)).toInt64 := by
        refine l_ext ?_
        have := wAm_lt (n := n) (i := k) (m := mv) (by omega) hmv
        rw [l_rem (by omega) (by omega), t1, t2, t64, n_toInt (by omega), ← wAm_mod (by omega) hmv, Int.natCast_emod]
      unfold w7_remainder
      refine ⟨fun z => absurd (l_le.mp z) (by omega), fun _ => ⟨fun z => by rw [z, o0] at t2; omega, ?_⟩⟩
      rw [t3]
      refine s7_letter hAB ⟨fun z j ej => ih (k + 1) j (by omega) (fun x hx => ?_) (nxt hi (by omega) ej), fun z => hp0 (fun y => ?_)⟩
      · rcases (show x < k ∨ x = k by omega) with w | w
        · exact hw x w
        · rw [w, ← hh]; exact z
      · exact z (by rw [hh]; exact y k (by omega))
    refine ⟨hv.vin, fun z => absurd (i_le.mp z) (by omega), fun _ => ⟨hv.vin, fun y => ⟨vin (by omega) (by omega), step _ ?_⟩, fun y => ⟨vin (by omega) (by omega), step _ ?_⟩, fun y => ⟨vin (by omega) (by omega), step _ ?_⟩⟩⟩
    · rw [natc hi]; exact hs.1 y k (by omega)
    · rw [natc hi]; exact hs.2.1 y k (by omega)
    · rw [natc hi]; exact hs.2.2 y k (by omega)
theorem s7_rot {sz f0 f1 f2 g : Nat → Int32} {v A B M : Int32} (hv : isA v) {n mv : Nat} (hn : n ≤ 60) (hmv : mv < n) (hAB : 1 ≤ A.toInt ∧ A.toInt ≤ 1000000 ∧ 1 ≤ B.toInt ∧ B.toInt ≤ 1000000) (hab : A.toInt + B.toInt = n) (hsz : (sz v.toNatClampNeg).toInt = (n : Int)) (hM : M.toInt = (mv : Int)) (hs : wSel v f0 f1 f2 g n) {post : Int32 → Prop} (hp0 : ¬ wP A B g n mv → post 0) (hp1 : wP A B g n mv → post 1) : w7_isRotatedWord sz f0 f1 f2 v A B M post := by
  unfold w7_isRotatedWord
  intro S eS
  exact ⟨_, ro7_L hv hn hmv hAB hsz hM (by rw [eS, i_add (by omega) (by omega), hab]) hs hp0 hp1 n 0 0 (by omega) (fun i hi => absurd hi (by omega)) rfl⟩
theorem rv7_L {sz f0 f1 f2 g : Nat → Int32} {v A B L : Int32} (hv : isA v) {n : Nat} (hn : n ≤ 60) (hAB : 1 ≤ A.toInt ∧ A.toInt ≤ 1000000 ∧ 1 ≤ B.toInt ∧ B.toInt ≤ 1000000) (hsz : (sz v.toNatClampNeg).toInt = (n : Int)) (hL : L.toInt = (n : Int) - 1) (hs : wSel v f0 f1 f2 g n) {post : Int32 → Prop} (hp0 : ¬ wRv A B g n → post 0) (hp1 : wRv A B g n → post 1) : ∀ (m k : Nat) (i : Int32), k + m = n → (∀ i, i < k → g i = wLt A B (n - 1 - i)) → i.toInt = (k : Int) → w7_isReversedWord_L10 sz f0 f1 f2 v A B L post (m + 1) i := by
  intro m
  induction m with
  | zero =>
    intro k i hk hw hi
    obtain rfl : k = n := by omega
    rw [w7_isReversedWord_L10]
    exact ⟨hv.vin, fun _ => hp1 hw, fun z => absurd (i_le.mpr (by omega)) z⟩
  | succ m ih =>
    intro k i hk hw hi
    rw [w7_isReversedWord_L10]
    have step : ∀ h : Int32, h = g k → w7_letterOf A.toInt64 B.toInt64 ((L - i).toInt64) (fun r40 => ((h = r40 → (∀ x48 : Int32, x48 = (i + (1 : Int32)) → (w7_isReversedWord_L10 sz f0 f1 f2 v A B L post (m + 1) x48))) ∧ (¬ h = r40 → (post (0 : Int32))))) := by
      intro h hh
      have t1 : L - i = Int32.ofNat (n - 1 - k) := of_toInt (by rw [i_sub (by omega) (by omega), hi, hL]; omega)
      rw [t1]
      refine s7_letter hAB ⟨fun z j ej => ih (k + 1) j (by omega) (fun x hx => ?_) (nxt hi (by omega) ej), fun z => hp0 (fun y => ?_)⟩
      · rcases (show x < k ∨ x = k by omega) with w | w
        · exact hw x w
        · rw [w, ← hh]; exact z
      · exact z (by rw [hh]; exact y k (by omega))
    refine ⟨hv.vin, fun z => absurd (i_le.mp z) (by omega), fun _ => ⟨hv.vin, fun y => ⟨vin (by omega) (by omega), step _ ?_⟩, fun y => ⟨vin (by omega) (by omega), step _ ?_⟩, fun y => ⟨vin (by omega) (by omega), step _ ?_⟩⟩⟩
    · rw [natc hi]; exact hs.1 y k (by omega)
    · rw [natc hi]; exact hs.2.1 y k (by omega)
    · rw [natc hi]; exact hs.2.2 y k (by omega)
theorem s7_rev {sz f0 f1 f2 g : Nat → Int32} {v A B : Int32} (hv : isA v) {n : Nat} (hn : n ≤ 60) (hAB : 1 ≤ A.toInt ∧ A.toInt ≤ 1000000 ∧ 1 ≤ B.toInt ∧ B.toInt ≤ 1000000) (hab : A.toInt + B.toInt = n) (hsz : (sz v.toNatClampNeg).toInt = (n : Int)) (hs : wSel v f0 f1 f2 g n) {post : Int32 → Prop} (hp0 : ¬ wRv A B g n → post 0) (hp1 : wRv A B g n → post 1) : w7_isReversedWord sz f0 f1 f2 v A B post := by
  have l1 : (1 : Int32).toInt = 1 := rfl
  unfold w7_isReversedWord
  intro S eS
  have e : (A + B).toInt = (n : Int) := by rw [i_add (by omega) (by omega), hab]
  exact ⟨_, rv7_L hv hn hAB hsz (by rw [eS, i_sub (by omega) (by omega), e, l1]) hs hp0 hp1 n 0 0 (by omega) (fun i hi => absurd hi (by omega)) rfl⟩
theorem cl7_L {sz f0 f1 f2 g : Nat → Int32} {v A B : Int32} (hv : isA v) {n : Nat} (hn : n ≤ 60) (hAB : 1 ≤ A.toInt ∧ A.toInt ≤ 1000000 ∧ 1 ≤ B.toInt ∧ B.toInt ≤ 1000000) (hab : A.toInt + B.toInt = n) (hsz : (sz v.toNatClampNeg).toInt = (n : Int)) (hs : wSel v f0 f1 f2 g n) {post : Int32 → Prop} (hp3 : (∃ t, 1 ≤ t ∧ t < n ∧ wP A B g n t) → post 3) (hp0 : (¬ ∃ t, 1 ≤ t ∧ t < n ∧ wP A B g n t) → post 0) : ∀ (m k : Nat) (i : Int32), k + m = n → 1 ≤ k → (∀ t, 1 ≤ t → t < k → ¬ wP A B g n t) → i.toInt = (k : Int) → w7_classOfWord_L28 sz f0 f1 f2 v A B post (m + 1) i := by
  intro m
  induction m with
  | zero =>
    intro k i hk h1 hw hi
    obtain rfl : k = n := by omega
    rw [w7_classOfWord_L28]
    refine ⟨hv.vin, fun _ => hp0 ?_, fun z => absurd (i_le.mpr (by omega)) z⟩
    rintro ⟨t, t1, t2, t3⟩
    exact hw t t1 t2 t3
  | succ m ih =>
    intro k i hk h1 hw hi
    rw [w7_classOfWord_L28]
    refine ⟨hv.vin, fun z => absurd (i_le.mp z) (by omega), fun _ => s7_rot hv hn (mv := k) (by omega) hAB hab hsz hi hs (fun q => ⟨fun _ j ej => ih (k + 1) j (by omega) (by omega) (fun t t1 t2 => ?_) (nxt hi (by omega) ej), fun z => absurd rfl z⟩) (fun q => ⟨fun z => absurd z (by decide), fun _ => hp3 ⟨k, h1, by omega, q⟩⟩)⟩
    rcases (show t < k ∨ t = k by omega) with w | w
    · exact hw t t1 w
    · rw [w]; exact q
theorem s7_classOf {sz f0 f1 f2 g : Nat → Int32} {v A B : Int32} (hv : isA v) {n : Nat} (hn : n ≤ 60) (hAB : 1 ≤ A.toInt ∧ A.toInt ≤ 1000000 ∧ 1 ≤ B.toInt ∧ B.toInt ≤ 1000000) (hab : A.toInt + B.toInt = n) (hsz : (sz v.toNatClampNeg).toInt = (n : Int)) (hs : wSel v f0 f1 f2 g n) {post : Int32 → Prop} (hp : ∀ c, wC A B g n c → post c) : w7_classOfWord sz f0 f1 f2 v A B post := by
  unfold w7_classOfWord
  refine s7_rot hv hn (mv := 0) (by omega) hAB hab hsz rfl hs (fun q => ⟨fun _ => ?_, fun z => absurd rfl z⟩) (fun q => ⟨fun z => absurd z (by decide), fun _ => hp 1 (Or.inl ⟨rfl, wQ0.mpr q⟩)⟩)
  have q0 : ¬ wQ A B g n 0 := fun w => q (wQ0.mp w)
  refine s7_rev hv hn hAB hab hsz hs (fun r => ⟨fun _ => ⟨n - 1 + 1, ?_⟩, fun z => absurd rfl z⟩) (fun r => ⟨fun z => absurd z (by decide), fun _ => hp 2 (Or.inr (Or.inl ⟨rfl, q0, r⟩))⟩)
  refine cl7_L hv hn hAB hab hsz hs (fun h => hp 3 (Or.inr (Or.inr (Or.inl ⟨rfl, q0, r, ?_⟩)))) (fun h => hp 0 (Or.inr (Or.inr (Or.inr ⟨rfl, q0, r, ?_⟩)))) (n - 1) 1 1 (by omega) (by omega) (fun t t1 t2 => by omega) rfl
  · obtain ⟨t, t1, t2, t3⟩ := h
    exact ⟨n - t, by omega, wPQ t1 t2 t3⟩
  · rintro ⟨t, t1, t2⟩
    rcases Nat.eq_zero_or_pos t with z | z
    · rw [z] at t2; exact q0 t2
    · exact h ⟨n - t, by omega, by omega, wQP z t1 t2⟩
/-! the model's -/
theorem iw8_L {cell : Nat → Int32} {v A x T V : Int32} (hv : isA v) {n t : Nat} (hn : n ≤ 60) (ht : t < n) (hAB : 1 ≤ A.toInt ∧ A.toInt ≤ 1000000 ∧ 1 ≤ (x - A).toInt ∧ (x - A).toInt ≤ 1000000) (hx : x.toInt = (n : Int)) (hT : T.toInt = (t : Int)) (hV : V = 0) {post : Int32 → Prop} (hp0 : ¬ wQ A (x - A) (fun j => cell (60 * v.toNatClampNeg + j)) n t → post 0) (hp1 : wQ A (x - A) (fun j => cell (60 * v.toNatClampNeg + j)) n t → post 1) : ∀ (m k : Nat) (i : Int32), k + m = n → (∀ i, i < k → cell (60 * v.toNatClampNeg + wAm n i t) = wLt A (x - A) i) → i.toInt = (k : Int) → w8_isWord_L3 cell v A x T V post (m + 1) i := by
  have l0 : (0 : Int32).toInt = 0 := rfl
  intro m
  induction m with
  | zero =>
    intro k i hk hw hi
    obtain rfl : k = n := by omega
    rw [w8_isWord_L3]
    exact ⟨fun _ => hp1 hw, fun z => absurd (i_le.mpr (by omega)) z⟩
  | succ m ih =>
    intro k i hk hw hi
    rw [w8_isWord_L3]
    refine ⟨fun z => absurd (i_le.mp z) (by omega), fun _ => ⟨fun _ => ⟨fun z => by rw [z, l0] at hx; omega, ?_⟩, fun z => absurd hV z⟩⟩
    unfold w8_isWord_J38
    have t1 : (i + T).toInt = ((k + t : Nat) : Int) := by rw [i_add (by omega) (by omega), hi, hT]; omega
    have t2 := (i_divmod t1 hx (by omega)).2
    rw [wAm_mod (by omega) ht] at t2
    have hlt := wAm_lt (n := n) (i := k) (m := t) (by omega) ht
    rw [arr_nat hv (by omega) (by omega), natc t2]
    refine ⟨arr_vin hv (by omega) (by omega), s8_letter hAB ⟨fun z j ej => ih (k + 1) j (by omega) (fun y hy => ?_) (nxt hi (by omega) ej), fun z => hp0 (fun y => z ?_)⟩⟩
    · rcases (show y < k ∨ y = k by omega) with w | w
      · exact hw y w
      · rw [w, z, of_toInt hi]; rfl
    · have := y k (by omega)
      rw [of_toInt hi]; exact this
theorem ir8_L {cell : Nat → Int32} {v A x T V : Int32} (hv : isA v) {n : Nat} (hn : n ≤ 60) (hAB : 1 ≤ A.toInt ∧ A.toInt ≤ 1000000 ∧ 1 ≤ (x - A).toInt ∧ (x - A).toInt ≤ 1000000) (hx : x.toInt = (n : Int)) (hV : ¬ V = 0) {post : Int32 → Prop} (hp0 : ¬ wRv A (x - A) (fun j => cell (60 * v.toNatClampNeg + j)) n → post 0) (hp1 : wRv A (x - A) (fun j => cell (60 * v.toNatClampNeg + j)) n → post 1) : ∀ (m k : Nat) (i : Int32), k + m = n → (∀ i, i < k → cell (60 * v.toNatClampNeg + (n - 1 - i)) = wLt A (x - A) i) → i.toInt = (k : Int) → w8_isWord_L3 cell v A x T V post (m + 1) i := by
  have l0 : (0 : Int32).toInt = 0 := rfl
  have l1 : (1 : Int32).toInt = 1 := rfl
  intro m
  induction m with
  | zero =>
    intro k i hk hw hi
    obtain rfl : k = n := by omega
    rw [w8_isWord_L3]
    refine ⟨fun _ => hp1 (fun j hj => ?_), fun z => absurd (i_le.mpr (by omega)) z⟩
    have := hw (k - 1 - j) (by omega)
    rw [show k - 1 - (k - 1 - j) = j by omega] at this
    exact this
  | succ m ih =>
    intro k i hk hw hi
    rw [w8_isWord_L3]
    refine ⟨fun z => absurd (i_le.mp z) (by omega), fun _ => ⟨fun z => absurd z hV, fun _ => ?_⟩⟩
    unfold w8_isWord_J38
    have t0 : (x - 1).toInt = (n : Int) - 1 := by rw [i_sub (by omega) (by omega), hx, l1]
    have t2 : (x - 1 - i).toInt = ((n - 1 - k : Nat) : Int) := by rw [i_sub (by omega) (by omega), t0, hi]; omega
    rw [arr_nat hv (by omega) (by omega), natc t2]
    refine ⟨arr_vin hv (by omega) (by omega), s8_letter hAB ⟨fun z j ej => ih (k + 1) j (by omega) (fun y hy => ?_) (nxt hi (by omega) ej), fun z => hp0 (fun y => z ?_)⟩⟩
    · rcases (show y < k ∨ y = k by omega) with w | w
      · exact hw y w
      · rw [w, z, of_toInt hi]; rfl
    · have := y (n - 1 - k) (by omega)
      rw [show n - 1 - (n - 1 - k) = k by omega] at this
      rw [of_toInt hi]; exact this
theorem rw8_L {ab be cell : Nat → Int32} {v1 v A x : Int32} (hv : isA v) {n : Nat} (hn : n ≤ 60) (hn1 : 1 ≤ n) (hAB : 1 ≤ A.toInt ∧ A.toInt ≤ 1000000 ∧ 1 ≤ (x - A).toInt ∧ (x - A).toInt ≤ 1000000) (hx : x.toInt = (n : Int)) {post : Int32 → (Nat → Int32) → (Nat → Int32) → Prop} (hp : ∀ c, wC A (x - A) (fun j => cell (60 * v.toNatClampNeg + j)) n c → w8_recognizeWord_J188 ab be v1 x A c post) : ∀ (m : Nat) (c i : Int32), m ≤ n → i.toInt = (m : Int) - 1 → ((c = 3 ∧ ∃ t, t < n ∧ wQ A (x - A) (fun j => cell (60 * v.toNatClampNeg + j)) n t) ∨ (c = 0 ∧ ∀ t, m ≤ t → t < n → ¬ wQ A (x - A) (fun j => cell (60 * v.toNatClampNeg + j)) n t)) → w8_recognizeWord_L128 ab be cell v1 v x A post (m + 1) c i := by
  have l0 : (0 : Int32).toInt = 0 := rfl
  intro m
  induction m with
  | zero =>
    intro c i hm hi hc
    rw [w8_recognizeWord_L128]
    refine ⟨fun _ => ?_, fun z => absurd (i_lt.mpr (by omega)) z⟩
    have j0 : ∀ d : Int32, (¬ wQ A (x - A) (fun j => cell (60 * v.toNatClampNeg + j)) n 0 → wC A (x - A) (fun j => cell (60 * v.toNatClampNeg + j)) n d) → w8_recognizeWord_J172 ab be cell v1 v x A d post := by
      intro d hd
      unfold w8_recognizeWord_J172 w8_isWord
      exact ⟨_, iw8_L hv hn (t := 0) (by omega) hAB hx rfl rfl (fun q => ⟨fun _ => hp d (hd q), fun z => absurd rfl z⟩) (fun q => ⟨fun z => absurd z (by decide), fun _ => hp 1 (Or.inl ⟨rfl, q⟩)⟩) n 0 0 (by omega) (fun i hi => absurd hi (by omega)) rfl⟩
    unfold w8_isWord
    refine ⟨_, ir8_L hv hn hAB hx (by decide) (fun r => ⟨fun _ => j0 c (fun q => ?_), fun z => absurd rfl z⟩) (fun r => ⟨fun z => absurd z (by decide), fun _ => j0 2 (fun q => Or.inr (Or.inl ⟨rfl, q, r⟩))⟩) n 0 0 (by omega) (fun i hi => absurd hi (by omega)) rfl⟩
    rcases hc with ⟨h1, h2⟩ | ⟨h1, h2⟩
    · exact Or.inr (Or.inr (Or.inl ⟨h1, q, r, h2⟩))
    · refine Or.inr (Or.inr (Or.inr ⟨h1, q, r, ?_⟩))
      rintro ⟨t, t1, t2⟩
      exact h2 t (Nat.zero_le _) t1 t2
  | succ m ih =>
    intro c i hm hi hc
    have hi' : i.toInt = (m : Int) := by omega
    rw [w8_recognizeWord_L128]
    refine ⟨fun z => absurd (i_lt.mp z) (by omega), fun _ => ?_⟩
    unfold w8_isWord
    refine ⟨_, iw8_L hv hn (t := m) (by omega) hAB hx hi' rfl (fun q => ⟨fun _ j ej => ih c j (by omega) (i_pred hi' ej) ?_, fun z => absurd rfl z⟩) (fun q => ⟨fun z => absurd z (by decide), fun _ j ej => ih 3 j (by omega) (i_pred hi' ej) (Or.inl ⟨rfl, m, by omega, q⟩)⟩) n 0 0 (by omega) (fun i hi => absurd hi (by omega)) rfl⟩
    rcases hc with ⟨h1, h2⟩ | ⟨h1, h2⟩
    · exact Or.inl ⟨h1, h2⟩
    · refine Or.inr ⟨h1, fun t t1 t2 => ?_⟩
      rcases (show t = m ∨ m + 1 ≤ t by omega) with w | w
      · rw [w]; exact q
      · exact h2 t w t2
theorem rn8_L {ab be cell : Nat → Int32} {v1 v x : Int32} (hv : isA v) {n : Nat} (hn : n ≤ 60) (hx : x.toInt = (n : Int)) {g : Nat → Int32} (hg : g = fun j => cell (60 * v.toNatClampNeg + j)) {post : Int32 → (Nat → Int32) → (Nat → Int32) → Prop} (hp0 : ¬ wVal g n → post 0 ab be) (hp1 : wVal g n → ((wCn g n = 0 ∨ wCn g n = n ∨ ¬ Nat.gcd (wCn g n) (n - wCn g n) = 1) → post 0 ab be) ∧ (¬ wCn g n = 0 → ¬ wCn g n = n → Nat.gcd (wCn g n) (n - wCn g n) = 1 → ∀ c, wC (Int32.ofNat (wCn g n)) (x - Int32.ofNat (wCn g n)) g n c → w8_recognizeWord_J188 ab be v1 x (Int32.ofNat (wCn g n)) c post)) : ∀ (m k : Nat) (acc i : Int32), k + m = n → wVal g k → acc.toInt = (wCn g k : Int) → i.toInt = (k : Int) → w8_recognizeWord_L38 ab be cell v1 v x post (m + 1) acc i := by
  have l1 : (1 : Int32).toInt = 1 := rfl
  have l0 : (0 : Int32).toInt = 0 := rfl
  have o1 : (1 : Int64).toInt = 1 := rfl
  intro m
  induction m with
  | zero =>
    intro k acc i hk hw ha hi
    obtain rfl : k = n := by omega
    obtain ⟨g1, g2⟩ := hp1 hw
    have hcl := wCn_le g k
    rw [w8_recognizeWord_L38]
    have ea := of_toInt ha
    refine ⟨fun _ => ⟨fun z => g1 (Or.inl (by rw [z, l0] at ha; omega)), fun z0 => ⟨fun z => g1 (Or.inr (Or.inl (by rw [z] at ha; omega))), fun z1 => ?_⟩⟩, fun z => absurd (i_le.mpr (by omega)) z⟩
    have n0 : ¬ wCn g k = 0 := fun w => z0 (i_ext (by rw [ha, w]; rfl))
    have n1 : ¬ wCn g k = k := fun w => z1 (i_ext (by rw [ha, w, hx]))
    have tz : (x - acc).toInt = ((k - wCn g k : Nat) : Int) := by rw [i_sub (by omega) (by omega), hx, ha]; omega
    refine gcd8 (by rw [t64]; omega) (by rw [t64]; omega) (fun r hr => ?_)
    rw [t64, t64, ha, tz, Int.toNat_natCast, Int.toNat_natCast] at hr
    refine ⟨fun z u eu => ⟨k + 1, ?_⟩, fun z => g1 (Or.inr (Or.inr (fun w => z (l_ext (by rw [hr, w]; rfl)))))⟩
    have hgc : Nat.gcd (wCn g k) (k - wCn g k) = 1 := by rw [z, o1] at hr; omega
    refine rw8_L hv hn (by omega) (by omega) hx (fun c hc => ?_) k 0 u (Nat.le_refl _) (by rw [eu, i_sub (by omega) (by omega), hx, l1]) (Or.inr ⟨rfl, fun t t1 t2 => by omega⟩)
    rw [ea] at hc ⊢
    rw [← hg] at hc
    exact g2 n0 n1 hgc c hc
  | succ m ih =>
    intro k acc i hk hw ha hi
    have hcl := wCn_le g k
    rw [w8_recognizeWord_L38]
    have o0 : (0 : Int64).toInt = 0 := rfl
    have hcell : cell (((60 : Int32) * v) + i).toNatClampNeg = g k := by rw [hg, arr_nat hv (by omega) (by omega), natc hi]
    rw [hcell]
    refine ⟨fun z => absurd (i_le.mp z) (by omega), fun _ => ⟨arr_vin hv (by omega) (by omega), ?_⟩⟩
    have nx : g k = 0 ∨ g k = 1 → wVal g (k + 1) := fun q j hj => by
      rcases (show j < k ∨ j = k by omega) with w | w
      · exact hw j w
      · rw [w]; exact q
    by_cases q : g k = 0 ∨ g k = 1
    · rw [w8y (lo := 0) (hi := 1) (by rw [t64, o0, o1]; rcases q with q | q <;> rw [q] <;> decide)]
      refine ⟨fun _ => ⟨arr_vin hv (by omega) (by omega), fun y ey j ej => ih (k + 1) y j (by omega) (nx q) ?_ (nxt hi (by omega) ej)⟩, fun z => absurd z (by decide)⟩
      rw [wCn_succ]
      rcases q with q | q
      · rw [ey, q, i_add (by rw [l0]; omega) (by rw [l0]; omega), ha, l0, if_neg (by decide)]; omega
      · rw [ey, q, i_add (by rw [l1]; omega) (by rw [l1]; omega), ha, l1, if_pos rfl]; omega
    · have hnw : ¬ ((0 : Int64).toInt ≤ (g k).toInt64.toInt ∧ (g k).toInt64.toInt ≤ (1 : Int64).toInt) := by
        rw [t64, o0, o1]
        rintro ⟨y1, y2⟩
        rcases (show (g k).toInt = 0 ∨ (g k).toInt = 1 by omega) with y | y
        · exact q (Or.inl (i_ext y))
        · exact q (Or.inr (i_ext y))
      rw [w8n (lo := 0) (hi := 1) hnw]
      exact ⟨fun z => absurd rfl z, fun _ => hp0 (fun h => q (h k (by omega)))⟩
theorem op_recognizeWord : Op_recognizeWord := by
  intro x_hasSnapshot x_termListSize x_textSize x_tops x_bottoms x_slots x_savedTops x_savedBottoms x_savedSlots x_termList x_text x_arraySizes x_arrays0 x_arrays1 x_arrays2 m_listed m_fed m_hasSnapshot m_above m_below m_list m_text m_kindOf m_nodeAbove m_nodeBelow m_length m_cell m_savedAbove m_savedBelow m_savedKind m_savedNodeAbove m_savedNodeBelow PL kk tt bb v1 v2 hI
  obtain ⟨hReg, hList, hText, hArr, hNode, hHs, hHs01, hSnap⟩ := id hI
  unfold w7_recognizeWord w8_recognizeWord
  by_cases h1 : isR v1
  rotate_left
  · simp only [r7n h1, r8n h1, b01, b00, false_implies, true_implies, not_true_eq_false, not_false_eq_true, true_and, and_true]; exact hI
  by_cases h2 : isA v2
  rotate_left
  · simp only [r7y h1, r8y h1, a7n h2, a8n h2, b01, b00, false_implies, true_implies, not_true_eq_false, not_false_eq_true, true_and, and_true]; exact hI
  simp only [r7y h1, r8y h1, a7y h2, a8y h2, b01, b00, false_implies, true_implies, not_true_eq_false, not_false_eq_true, true_and, and_true]
  obtain ⟨s1, c0, c1, c2⟩ := id hArr
  obtain ⟨q1, q2, q3⟩ := s1 _ h2.lt
  have l0 : (0 : Int32).toInt = 0 := rfl
  have l1 : (1 : Int32).toInt = 1 := rfl
  have lm : (-1 : Int32).toInt = -1 := rfl
  have o1 : (1 : Int64).toInt = 1 := rfl
  refine ⟨h2.vin, fun z => ?_, fun z => ?_⟩
  rotate_left
  · rw [q1] at z
    refine ⟨h2.vin, fun x ex => ⟨fun y => absurd (i_le.mp y) (by rw [ex, z]; decide), fun _ => hI⟩⟩
  rw [q1] at z
  have z0 : ¬ (m_length v2.toNatClampNeg).toInt = -1 := fun w => z (i_ext w)
  have hx : (m_length v2.toNatClampNeg).toInt = (((m_length v2.toNatClampNeg).toNatClampNeg : Nat) : Int) := (clamp (by omega)).symm
  generalize hnn : (m_length v2.toNatClampNeg).toNatClampNeg = n at hx
  have hsz : (x_arraySizes v2.toNatClampNeg).toInt = (n : Int) := by rw [q1]; exact hx
  generalize hgd : (fun j => m_cell (60 * v2.toNatClampNeg + j)) = g
  have hs : wSel v2 x_arrays0 x_arrays1 x_arrays2 g n := by
    rw [← hgd]
    refine ⟨fun y k hk => ?_, fun y k hk => ?_, fun y k hk => ?_⟩
    · subst y
      have e : (m_length 0).toInt = (n : Int) := hx
      show x_arrays0 k = m_cell (60 * 0 + k)
      rw [c0 k (by omega), show 60 * 0 + k = k by omega]
    · subst y
      have e : (m_length 1).toInt = (n : Int) := hx
      exact c1 k (by omega)
    · subst y
      have e : (m_length 2).toInt = (n : Int) := hx
      exact c2 k (by omega)
  have hcl := wCn_le g n
  have vl0 : wVal g 0 := fun i hi => absurd hi (by omega)
  refine ⟨n + 1, ow7_L h2 (by omega) hsz hs (fun hw => ?_) (fun hw => ?_) n 0 0 0 (by omega) vl0 rfl rfl⟩
  · refine ⟨h2.vin, fun x43 _ => ⟨fun _ => ⟨h2.vin, fun x ex => ⟨fun _ => ⟨n + 1, rn8_L h2 (by omega) (by rw [ex]; exact hx) hgd.symm (fun _ => ⟨rfl, hI⟩) (fun h => absurd h hw) n 0 0 0 (by omega) vl0 rfl rfl⟩, fun y => absurd (i_le.mpr (by rw [ex]; omega)) y⟩⟩, fun y => absurd (by decide) y⟩⟩
  have hA : (Int32.ofNat (wCn g n)).toInt = (wCn g n : Int) := n_toInt (by omega)
  have zero : (wCn g n = 0 ∨ wCn g n = n ∨ ¬ Nat.gcd (wCn g n) (n - wCn g n) = 1) → (vp_in v2 3 ∧ (∀ x24 : Int32, x24 = (m_length v2.toNatClampNeg) → ((0 ≤ x24 → (∃ n38 : Nat, w8_recognizeWord_L38 m_above m_below m_cell v1 v2 x24 (fun r8 m_above' m_below' => (0 : Int32) = r8 ∧ (LInv x_hasSnapshot x_termListSize x_textSize x_tops x_bottoms x_slots x_savedTops x_savedBottoms x_savedSlots x_termList x_text x_arraySizes x_arrays0 x_arrays1 x_arrays2 m_hasSnapshot m_above' m_below' m_list m_listed m_text m_fed m_kindOf m_nodeAbove m_nodeBelow m_length m_cell m_savedAbove m_savedBelow m_savedKind m_savedNodeAbove m_savedNodeBelow PL kk tt bb)) n38 (0 : Int32) (0 : Int32))) ∧ (¬ 0 ≤ x24 → ((0 : Int32) = (-11 : Int32) ∧ (LInv x_hasSnapshot x_termListSize x_textSize x_tops x_bottoms x_slots x_savedTops x_savedBottoms x_savedSlots x_termList x_text x_arraySizes x_arrays0 x_arrays1 x_arrays2 m_hasSnapshot m_above m_below m_list m_listed m_text m_fed m_kindOf m_nodeAbove m_nodeBelow m_length m_cell m_savedAbove m_savedBelow m_savedKind m_savedNodeAbove m_savedNodeBelow PL kk tt bb)))))) := by
    intro h0
    refine ⟨h2.vin, fun x ex => ⟨fun _ => ⟨n + 1, rn8_L h2 (by omega) (by rw [ex]; exact hx) hgd.symm (fun h => absurd hw h) (fun _ => ⟨fun _ => ⟨rfl, hI⟩, fun n0 n1 n2 => ?_⟩) n 0 0 0 (by omega) vl0 rfl rfl⟩, fun y => absurd (i_le.mpr (by rw [ex]; omega)) y⟩⟩
    rcases h0 with w | w | w
    · exact absurd w n0
    · exact absurd w n1
    · exact absurd n2 w
  refine ⟨h2.vin, fun B eB => ?_⟩
  have hB : B.toInt = ((n - wCn g n : Nat) : Int) := by rw [eB, i_sub (by omega) (by omega), hsz, hA]; omega
  refine ⟨fun y => zero (Or.inl (by have := i_le.mp y; omega)), fun y => ⟨fun w => zero (Or.inr (Or.inl (by have := i_le.mp w; omega))), fun w => ?_⟩⟩
  have y : ¬ (Int32.ofNat (wCn g n)).toInt ≤ (0 : Int32).toInt := fun r => y (i_le.mpr r)
  have w : ¬ B.toInt ≤ (0 : Int32).toInt := fun r => w (i_le.mpr r)
  refine gcd7 (by rw [t64]; omega) (by rw [t64]; omega) (fun r hr => ?_)
  rw [t64, t64, hA, hB, Int.toNat_natCast, Int.toNat_natCast] at hr
  refine ⟨fun u => ?_, fun u => zero (Or.inr (Or.inr (fun e => u (l_ext (by rw [hr, e]; rfl)))))⟩
  have hg1 : Nat.gcd (wCn g n) (n - wCn g n) = 1 := by rw [u, o1] at hr; omega
  have sk : stR (wCn g n : Int) ((n - wCn g n : Nat) : Int) = 1 := by
    have e : sg (wCn g n : Int) ((n - wCn g n : Nat) : Int) = 1 := by unfold sg; rw [Int.toNat_natCast, Int.toNat_natCast, hg1]; rfl
    have hk : stOk (wCn g n : Int) ((n - wCn g n : Nat) : Int) := by
      unfold stOk
      rw [e, Int.ediv_one, Int.ediv_one]; omega
    exact if_pos hk
  have hBx : B = m_length v2.toNatClampNeg - Int32.ofNat (wCn g n) := by rw [eB, q1]
  refine s7_classOf h2 (by omega) (by omega) (by omega) hsz hs (fun c hc => ?_)
  rw [hBx] at hc
  have cs : c = 1 ∨ c = 2 ∨ c = 3 ∨ c = 0 := by
    rcases hc with ⟨h, _⟩ | ⟨h, _⟩ | ⟨h, _⟩ | ⟨h, _⟩
    · exact Or.inl h
    · exact Or.inr (Or.inl h)
    · exact Or.inr (Or.inr (Or.inl h))
    · exact Or.inr (Or.inr (Or.inr h))
  have M : ∀ {post : Int32 → (Nat → Int32) → (Nat → Int32) → Prop}, (c = 0 → post c m_above m_below) → (¬ c = 0 → post c (stF m_above v1 (wCn g n : Int) ((n - wCn g n : Nat) : Int) (wCn g n : Int)) (stF m_below v1 (wCn g n : Int) ((n - wCn g n : Nat) : Int) ((n - wCn g n : Nat) : Int))) → (vp_in v2 3 ∧ (∀ x24 : Int32, x24 = (m_length v2.toNatClampNeg) → ((0 ≤ x24 → (∃ n38 : Nat, w8_recognizeWord_L38 m_above m_below m_cell v1 v2 x24 post n38 (0 : Int32) (0 : Int32))) ∧ (¬ 0 ≤ x24 → (post (-11 : Int32) m_above m_below))))) := by
    intro post p0 p1
    refine ⟨h2.vin, fun x ex => ⟨fun _ => ⟨n + 1, rn8_L h2 (by omega) (by rw [ex]; exact hx) hgd.symm (fun h => absurd hw h) (fun _ => ⟨fun h0 => ?_, fun n0 n1 n2 d hd => ?_⟩) n 0 0 0 (by omega) vl0 rfl rfl⟩, fun y => absurd (i_le.mpr (by rw [ex]; omega)) y⟩⟩
    · exfalso
      rcases h0 with k | k | k
      · omega
      · omega
      · exact k hg1
    · rw [ex] at hd ⊢
      obtain rfl := wC_uniq hc hd
      unfold w8_recognizeWord_J188
      refine ⟨p0, fun e => s8_st h1 (p := (wCn g n : Int)) (q := ((n - wCn g n : Nat) : Int)) (by rw [t64, hA]) (by rw [t64, ← hBx, hB]) (by omega) (by omega) ?_⟩
      rw [sk]
      exact ⟨fun e => absurd rfl e, fun _ => p1 e⟩
  refine ⟨fun k => ?_, fun k => ?_⟩
  · have c0 : c = 0 := by
      rcases cs with e | e | e | e
      · rw [e] at k; exact absurd k (by decide)
      · rw [e] at k; exact absurd k (by decide)
      · rw [e] at k; exact absurd k (by decide)
      · exact e
    exact M (fun _ => ⟨rfl, hI⟩) (fun e => absurd c0 e)
  · have c0 : ¬ c = 0 := fun e => k (by rw [e]; decide)
    refine s7_st h1 (p := (wCn g n : Int)) (q := ((n - wCn g n : Nat) : Int)) (by rw [t64, hA]) (by rw [t64, hB]) (by omega) (by omega) ?_
    exact M (fun e => absurd e c0) (fun _ => ⟨rfl, hI.reg (hReg.store (by omega) (by omega))⟩)
