/-! the text form of a path -/
def dgs (r : Nat) : Nat := if r < 10 then 1 else if r < 100 then 2 else if r < 1000 then 3 else if r < 10000 then 4 else if r < 100000 then 5 else if r < 1000000 then 6 else 7
def dgP (r d : Nat) : Prop := 10 ^ (d - 1) ≤ r ∧ r < 10 ^ d ∧ 1 ≤ d ∧ d ≤ 7
theorem dgs_of {r d : Nat} (h : dgP r d) : dgs r = d := by
  obtain ⟨h1, h2, h3, h4⟩ := h
  unfold dgs
  rcases (show d = 1 ∨ d = 2 ∨ d = 3 ∨ d = 4 ∨ d = 5 ∨ d = 6 ∨ d = 7 by omega) with e | e | e | e | e | e | e <;> subst e <;> simp only [Nat.reduceSub, Nat.reducePow] at h1 h2 <;> (repeat' split) <;> omega
def tsz (r : Nat) : Nat := if r = 0 then 0 else if r = 1 then 1 else 1 + dgs r
def tch (k r p : Nat) : Int32 := if p = 0 then (if k % 2 = 0 then 82 else 76) else Int32.ofNat (48 + r / 10 ^ (dgs r - p) % 10)
theorem dgs_le (r : Nat) : 1 ≤ dgs r ∧ dgs r ≤ 7 := by
  unfold dgs
  repeat' split
  all_goals omega
theorem tsz_le (r : Nat) : tsz r ≤ 8 := by
  have := dgs_le r
  unfold tsz
  repeat' split
  all_goals omega
theorem pow10 {d : Nat} (h : d ≤ 7) : 1 ≤ 10 ^ d ∧ 10 ^ d ≤ 10000000 := ⟨Nat.pow_pos (by omega), Nat.pow_le_pow_right (n := 10) (by omega) h⟩
theorem dc7_L {r : Nat} (hr : r ≤ 1000000) {v : Int32} (hv : v.toInt = (r : Int)) {post : Int32 → Prop} (hp : ∀ x : Int32, x.toInt = (dgs r : Int) → post x) : ∀ (n k : Nat) (X P : Int32), k + n = 7 → 1 ≤ k → X.toInt = (k : Int) → P.toInt = ((10 ^ k : Nat) : Int) → 10 ^ (k - 1) ≤ r → w7_digitCount_L5 v post (n + 1) X P := by
  have l6 : (1000000 : Int32).toInt = 1000000 := rfl
  have l10 : (10 : Int32).toInt = 10 := rfl
  intro n
  induction n with
  | zero =>
    intro k X P hk hk1 hX hP hr1
    obtain rfl : k = 7 := by omega
    rw [w7_digitCount_L5]
    have e7 : (10 : Nat) ^ 7 = 10000000 := rfl
    refine ⟨fun _ => hp X ?_, fun z => absurd (i_lt.mpr (by omega)) z⟩
    rw [hX, dgs_of ⟨hr1, by omega, by omega, by omega⟩]
  | succ n ih =>
    intro k X P hk hk1 hX hP hr1
    have hpw := pow10 (d := k) (by omega)
    have hpl : 10 ^ k ≤ 10 ^ 6 := Nat.pow_le_pow_right (by omega) (by omega)
    have e6 : (10 : Nat) ^ 6 = 1000000 := rfl
    rw [w7_digitCount_L5]
    refine ⟨fun z => absurd (i_lt.mp z) (by omega), fun _ => ⟨fun z => hp X ?_, fun z Y eY Q eQ => ?_⟩⟩
    · have z := i_lt.mp z
      rw [hX, dgs_of ⟨hr1, by omega, by omega, by omega⟩]
    · have z : ¬ v.toInt < P.toInt := fun y => z (i_lt.mpr y)
      have es : 10 ^ (k + 1) = 10 ^ k * 10 := Nat.pow_succ _ _
      refine ih (k + 1) Y Q (by omega) (by omega) (nxt hX (by omega) eY) ?_ (by rw [show k + 1 - 1 = k from rfl]; omega)
      rw [eQ, i_mul (by rw [hP, l10]; omega) (by rw [hP, l10]; omega), hP, l10, es]; omega
theorem s7_digitCount {r : Nat} (hr1 : 1 ≤ r) (hr : r ≤ 1000000) {v : Int32} (hv : v.toInt = (r : Int)) {post : Int32 → Prop} (hp : ∀ x : Int32, x.toInt = (dgs r : Int) → post x) : w7_digitCount v post := ⟨_, dc7_L hr hv hp 6 1 1 10 (by omega) (by omega) rfl rfl (by simpa using hr1)⟩
theorem s7_runTextSize {r : Nat} (hr : r ≤ 1000000) {v : Int32} (hv : v.toInt = (r : Int)) {post : Int32 → Prop} (hp : ∀ x : Int32, x.toInt = (tsz r : Int) → post x) : w7_runTextSize v post := by
  have l0 : (0 : Int32).toInt = 0 := rfl
  have l1 : (1 : Int32).toInt = 1 := rfl
  have hd := dgs_le r
  unfold w7_runTextSize
  refine ⟨fun z => ⟨fun y => s7_digitCount (by have := i_lt.mp z; omega) hr hv (fun x hx => hp _ ?_), fun y => hp _ ?_⟩, fun z => hp _ ?_⟩
  · have z := i_lt.mp z
    have y : ¬ v.toInt = 1 := fun w => y (i_ext w)
    unfold tsz
    rw [if_neg (by omega), if_neg (by omega), i_add (by omega) (by omega), hx, l1]; omega
  · rw [y, l1] at hv
    obtain rfl : r = 1 := by omega
    rfl
  · have z : ¬ (0 : Int32).toInt < v.toInt := fun w => z (i_lt.mpr w)
    obtain rfl : r = 0 := by omega
    rfl
theorem rch7_L {post : Int32 → Prop} : ∀ (m x : Nat) (X v : Int32), x ≤ 1000000 → X.toInt = (x : Int) → v.toInt = (m : Int) → (∀ y : Int32, y.toInt = ((48 + x / 10 ^ m % 10 : Nat) : Int) → post y) → w7_runCharacter_L28 post (m + 1) X v := by
  have l48 : (48 : Int32).toInt = 48 := rfl
  have l0 : (0 : Int32).toInt = 0 := rfl
  have n10 : ¬ (10 : Int32) = 0 := by decide
  intro m
  induction m with
  | zero =>
    intro x X v hx hX hv hp
    rw [w7_runCharacter_L28]
    refine ⟨fun _ => ⟨n10, hp _ ?_⟩, fun z => absurd (i_le.mpr (by omega)) z⟩
    have e := (i_divmod (b := 10) hX (show (10 : Int32).toInt = ((10 : Nat) : Int) from rfl) (by omega)).2
    rw [i_add (by omega) (by omega), e, l48, Nat.pow_zero, Nat.div_one]; omega
  | succ m ih =>
    intro x X v hx hX hv hp
    rw [w7_runCharacter_L28]
    refine ⟨fun z => absurd (i_le.mp z) (by omega), fun _ => ⟨n10, fun Y eY u eu => ?_⟩⟩
    have e := (i_divmod (b := 10) hX (show (10 : Int32).toInt = ((10 : Nat) : Int) from rfl) (by omega)).1
    have hd := Nat.div_le_self x 10
    refine ih (x / 10) Y u (by omega) (by rw [eY, e]) (by rw [i_pred hv eu]; omega) (fun y hy => hp y ?_)
    rw [hy, Nat.div_div_eq_div_mul, Nat.pow_succ, Nat.mul_comm 10]
theorem s7_runCharacter {k r p : Nat} (hr : r ≤ 1000000) (hp2 : p < tsz r) {j v w : Int32} (hj : j.toInt = (k : Int)) (hv : v.toInt = (r : Int)) (hw : w.toInt = (p : Int)) {post : Int32 → Prop} (hp : post (tch k r p)) : w7_runCharacter j v w post := by
  have l0 : (0 : Int32).toInt = 0 := rfl
  have hd := dgs_le r
  have hr1 : 1 ≤ r := by
    rcases Nat.eq_zero_or_pos r with z | z
    · subst z; exact absurd hp2 (Nat.not_lt_zero _)
    · exact z
  unfold w7_runCharacter
  refine ⟨fun z => s7_digitCount hr1 hr hv (fun x hx u eu => ⟨_, rch7_L (dgs r - p) r v u hr hv ?_ (fun y hy => ?_)⟩), fun z => ⟨by decide, fun y => ?_, fun y => ?_⟩⟩
  · have hpd : p ≤ dgs r := by
      unfold tsz at hp2
      repeat' split at hp2
      all_goals omega
    rw [eu, i_sub (by omega) (by omega), hx, hw]; omega
  · have hp0 : ¬ p = 0 := fun y => z (i_ext (by omega))
    unfold tch at hp
    rw [if_neg hp0, ← of_toInt hy] at hp
    exact hp
  · have hp0 : p = 0 := by rw [z, l0] at hw; omega
    have q : ¬ k % 2 = 0 := fun x => y (i_ext (by rw [par2 hj, x]; rfl))
    unfold tch at hp
    rw [if_pos hp0, if_neg q] at hp; exact hp
  · have hp0 : p = 0 := by rw [z, l0] at hw; omega
    have q : k % 2 = 0 := by
      have e := congrArg Int32.toInt y
      rw [par2 hj, l0] at e; omega
    unfold tch at hp
    rw [if_pos hp0, if_pos q] at hp; exact hp
/-- where the text of run k begins -/
def tO (a b N k : Nat) : Nat := sumN (fun i => tsz (rr a b N i)) k
theorem tO_le (a b N : Nat) (k : Nat) : tO a b N k ≤ 8 * k := sumN_le (fun i _ => tsz_le _)
theorem tO_succ (a b N k : Nat) : tO a b N (k + 1) = tO a b N k + tsz (rr a b N k) := rfl
theorem pl7_L {a b N : Nat} (h : CF a b N) {f : Nat → Int32} (hf : IsT a b N f) {post : Int32 → Int32 → (Nat → Int32) → Prop} (hp : ∀ r : Int32, r.toInt = (tO a b N N : Int) → post r (Int32.ofNat N) f) : ∀ (n k : Nat) (acc i : Int32), k + n = N → acc.toInt = (tO a b N k : Int) → i.toInt = (k : Int) → w7_pathTextLength_L20 (Int32.ofNat N) f post (n + 1) acc i := by
  have hN := h.2.2.1
  have hNi : (Int32.ofNat N).toInt = (N : Int) := n_toInt (by omega)
  intro n
  induction n with
  | zero =>
    intro k acc i hk ha hi
    obtain rfl : k = N := by omega
    rw [w7_pathTextLength_L20]
    unfold w1_size
    exact ⟨fun _ => hp _ ha, fun z => absurd (i_le.mpr (by omega)) z⟩
  | succ n ih =>
    intro k acc i hk ha hi
    rw [w7_pathTextLength_L20]
    unfold w1_size
    have ho := tO_le a b N k
    have ht := tsz_le (rr a b N k)
    refine ⟨fun z => absurd (i_le.mp z) (by omega), fun _ => s1_runAt h hf hi (by omega) (fun r hr => s7_runTextSize (rr_le h (by omega)) hr (fun x hx Y eY j ej => ih (k + 1) Y j (by omega) ?_ (nxt hi (by omega) ej)))⟩
    rw [eY, i_add (by omega) (by omega), ha, hx, tO_succ]; omega
theorem pt7_L {a b N : Nat} (h : CF a b N) {f : Nat → Int32} (hf : IsT a b N f) {post : Int32 → Int32 → (Nat → Int32) → Prop} {I : Nat} (hp0 : tO a b N N ≤ I → post (-2) (Int32.ofNat N) f) (hp1 : ∀ k p, k < N → p < tsz (rr a b N k) → I = tO a b N k + p → post (tch k (rr a b N k) p) (Int32.ofNat N) f) : ∀ (n k : Nat) (v i : Int32), k + n = N → tO a b N k ≤ I → v.toInt = ((I - tO a b N k : Nat) : Int) → i.toInt = (k : Int) → w7_pathText_L25 (Int32.ofNat N) f post (n + 1) v i := by
  have hN := h.2.2.1
  have hNi : (Int32.ofNat N).toInt = (N : Int) := n_toInt (by omega)
  intro n
  induction n with
  | zero =>
    intro k v i hk hle hv hi
    obtain rfl : k = N := by omega
    rw [w7_pathText_L25]
    unfold w1_size
    exact ⟨fun _ => hp0 hle, fun z => absurd (i_le.mpr (by omega)) z⟩
  | succ n ih =>
    intro k v i hk hle hv hi
    rw [w7_pathText_L25]
    unfold w1_size
    have hrl := rr_le h (i := k) (by omega)
    have ht := tsz_le (rr a b N k)
    have hvr := i_range v
    refine ⟨fun z => absurd (i_le.mp z) (by omega), fun _ => s1_runAt h hf hi (by omega) (fun r hr => s7_runTextSize hrl hr (fun x hx => ⟨fun z Y eY j ej => ?_, fun z => s1_runAt h hf hi (by omega) (fun r2 hr2 => ?_)⟩))⟩
    · have z := i_le.mp z
      refine ih (k + 1) Y j (by omega) (by rw [tO_succ]; omega) ?_ (nxt hi (by omega) ej)
      rw [eY, i_sub (by omega) (by omega), hv, hx, tO_succ]; omega
    · have z : ¬ x.toInt ≤ v.toInt := fun w => z (i_le.mpr w)
      exact s7_runCharacter hrl (by omega) hi hr2 hv (hp1 k (I - tO a b N k) (by omega) (by omega) (by omega))
/-! the model's text -/
theorem lf84 {te ru : Int32} {term run ri : Nat → Int32} {v : Int32} {post : Int32 → Int32 → Int32 → (Nat → Int32) → (Nat → Int32) → (Nat → Int32) → (Nat → Int32) → Prop} {kb : Int32 → Int32 → (Nat → Int32) → Prop} {k r O x : Nat} {form0 : Nat → Int32} (hx : v.toInt = (x : Int)) (hx2 : x < 64) (hr2 : 2 ≤ r) (hr : r ≤ 1000000) (hrun : (run x).toInt = (r : Int)) (hO : O ≤ 400) (hp : ∀ (j F : Int32) (form : Nat → Int32), j.toInt = ((x + 1 : Nat) : Int) → F.toInt = ((O + tsz r : Nat) : Int) → (∀ q, q < O → form q = form0 q) → (∀ p, p < tsz r → form (O + p) = tch k r p) → kb j F form) : ∀ (m : Nat) (F u : Int32) (form : Nat → Int32), m ≤ dgs r → (m = 0 → u.toInt = 0) → (1 ≤ m → u.toInt = ((10 ^ (m - 1) : Nat) : Int)) → F.toInt = ((O + 1 + (dgs r - m) : Nat) : Int) → (∀ q, q < O → form q = form0 q) → (∀ p, p < 1 + (dgs r - m) → form (O + p) = tch k r p) → w8_layForm_L84 te ru term run ri v post kb (m + 1) u F form := by
  have l0 : (0 : Int32).toInt = 0 := rfl
  have l1 : (1 : Int32).toInt = 1 := rfl
  have l10 : (10 : Int32).toInt = ((10 : Nat) : Int) := rfl
  have l48 : (48 : Int32).toInt = 48 := rfl
  have n10 : ¬ (10 : Int32) = 0 := by decide
  have hd := dgs_le r
  have et : tsz r = 1 + dgs r := by unfold tsz; rw [if_neg (by omega), if_neg (by omega)]
  intro m
  induction m with
  | zero =>
    intro F u form _ hu _ hF h1 h2
    rw [w8_layForm_L84]
    refine ⟨fun _ j ej => hp j F form (nxt hx (by omega) ej) (by rw [hF, et]; omega) h1 (fun p hp => h2 p (by omega)), fun z => absurd (i_le.mpr (by have := hu rfl; omega)) z⟩
  | succ m ih =>
    intro F u form hm _ hu hF h1 h2
    have hu := hu (by omega)
    rw [show m + 1 - 1 = m from rfl] at hu
    have hpw := pow10 (d := m) (by omega)
    have hn : natc hx = natc hx := rfl
    rw [w8_layForm_L84]
    rw [natc hx]
    have q1 := i_divmod hrun hu (by omega)
    have q2 := i_divmod q1.1 l10 (by omega)
    have hde := Nat.div_le_self r (10 ^ m)
    refine ⟨fun z => absurd (i_le.mp z) (by omega), fun _ => ⟨vin (by omega) (by omega), fun z => absurd (i_le.mp z) (by omega), fun _ => ⟨vin (by omega) (by omega), fun z => by rw [z, l0] at hu; omega, n10, vin (by omega) (by omega), fun G eG => ⟨n10, fun w ew => ?_⟩⟩⟩⟩
    rw [natc hF]
    have hG : G.toInt = ((O + 1 + (dgs r - m) : Nat) : Int) := by
      rw [nxt hF (by omega) eG]; omega
    refine ih G w _ (by omega) (fun z => ?_) (fun z => ?_) hG (fun q hq => ?_) (fun p hp => ?_)
    · subst z
      rw [ew, (i_divmod hu l10 (by omega)).1]; rfl
    · obtain ⟨m', rfl⟩ : ∃ m', m = m' + 1 := ⟨m - 1, by omega⟩
      rw [ew, (i_divmod hu l10 (by omega)).1, Nat.pow_succ, Nat.mul_div_cancel _ (by omega)]; rfl
    · rw [upd_ne _ _ (by omega)]; exact h1 q hq
    · by_cases q : p = 1 + (dgs r - (m + 1))
      · rw [show O + 1 + (dgs r - (m + 1)) = O + p by omega, upd_eq]
        unfold tch
        rw [if_neg (by omega), show dgs r - p = m by omega]
        refine of_toInt ?_
        rw [i_add (by omega) (by omega), q2.2, l48]; omega
      · rw [upd_ne _ _ (by omega)]; exact h2 p (by omega)
theorem lf60 {te ru F : Int32} {term run ri form : Nat → Int32} {v : Int32} {post : Int32 → Int32 → Int32 → (Nat → Int32) → (Nat → Int32) → (Nat → Int32) → (Nat → Int32) → Prop} {kb : Int32 → Int32 → (Nat → Int32) → Prop} {r x : Nat} (hx : v.toInt = (x : Int)) (hx2 : x < 64) (hr1 : 1 ≤ r) (hr : r ≤ 1000000) (hrun : (run x).toInt = (r : Int)) (hp : ∀ u : Int32, u.toInt = ((10 ^ (dgs r - 1) : Nat) : Int) → ∃ n, w8_layForm_L84 te ru term run ri v post kb n u F form) : ∀ (n e : Nat) (u : Int32), e + n = 6 → u.toInt = ((10 ^ e : Nat) : Int) → 10 ^ e ≤ r → w8_layForm_L60 te ru F term run ri form v post kb (n + 1) u := by
  have l0 : (0 : Int32).toInt = 0 := rfl
  have l10 : (10 : Int32).toInt = 10 := rfl
  intro n
  induction n with
  | zero =>
    intro e u he hu hle
    obtain rfl : e = 6 := by omega
    have e6 : (10 : Nat) ^ 6 = 1000000 := rfl
    rw [w8_layForm_L60, natc hx]
    have q1 := (i_divmod hrun hu (by omega)).1
    have hd : r / 10 ^ 6 = 1 := by rw [e6]; omega
    refine ⟨vin (by omega) (by omega), fun z => by rw [z, l0] at hu; omega, fun _ => hp u ?_, fun z => absurd (i_lt.mpr (by rw [q1, hd]; decide)) z⟩
    rw [hu, dgs_of (r := r) (d := 7) ⟨hle, by have : (10 : Nat) ^ 7 = 10000000 := rfl; omega, by omega, by omega⟩]
  | succ n ih =>
    intro e u he hu hle
    have hpw := pow10 (d := e) (by omega)
    have hpl : 10 ^ e ≤ 10 ^ 5 := Nat.pow_le_pow_right (by omega) (by omega)
    have e5 : (10 : Nat) ^ 5 = 100000 := rfl
    have es : 10 ^ (e + 1) = 10 ^ e * 10 := Nat.pow_succ _ _
    rw [w8_layForm_L60, natc hx]
    have q1 := (i_divmod hrun hu (by omega)).1
    have key := Nat.div_lt_iff_lt_mul (x := r) (y := 10) (k := 10 ^ e) (by omega)
    refine ⟨vin (by omega) (by omega), fun z => by rw [z, l0] at hu; omega, fun z => hp u ?_, fun z w ew => ih (e + 1) w (by omega) ?_ ?_⟩
    · have z := i_lt.mp z
      rw [q1, l10] at z
      have := key.mp (by omega)
      rw [hu, dgs_of (r := r) (d := e + 1) ⟨hle, by omega, by omega, by omega⟩]; rfl
    · rw [ew, i_mul (by rw [hu, l10]; omega) (by rw [hu, l10]; omega), hu, l10, es]; omega
    · have z : ¬ r / 10 ^ e < 10 := fun y => z (i_lt.mpr (by rw [q1, l10]; omega))
      have : ¬ r < 10 * 10 ^ e := fun y => z (key.mpr y)
      omega
theorem lf46 {te ru F s0 : Int32} {term run ri form : Nat → Int32} {v : Int32} {post : Int32 → Int32 → Int32 → (Nat → Int32) → (Nat → Int32) → (Nat → Int32) → (Nat → Int32) → Prop} {kb : Int32 → Int32 → (Nat → Int32) → Prop} {k r O x : Nat} (hx : v.toInt = (x : Int)) (hx2 : x < 64) (hr1 : 1 ≤ r) (hr : r ≤ 1000000) (hrun : (run x).toInt = (r : Int)) (hO : O ≤ 400) (hF : F.toInt = (O : Int)) (hs0 : s0 = tch k r 0) (hp : ∀ (j F : Int32) (form' : Nat → Int32), j.toInt = ((x + 1 : Nat) : Int) → F.toInt = ((O + tsz r : Nat) : Int) → (∀ q, q < O → form' q = form q) → (∀ p, p < tsz r → form' (O + p) = tch k r p) → kb j F form') : w8_layForm_J46 te ru F term run ri form v s0 F post kb := by
  have hd := dgs_le r
  unfold w8_layForm_J46
  refine ⟨vin (by omega) (by omega), fun G eG => ⟨6 + 1, ?_⟩⟩
  rw [natc hF]
  have hG := nxt hF (by omega) eG
  have f1 : ∀ q, q < O → upd form O s0 q = form q := fun q hq => upd_ne _ _ (by omega)
  have f2 : ∀ p, p < 1 → upd form O s0 (O + p) = tch k r p := fun p hp => by
    obtain rfl : p = 0 := by omega
    rw [Nat.add_zero, upd_eq, hs0]
  refine lf60 hx hx2 hr1 hr hrun (fun u hu => ?_) 6 0 1 (by omega) rfl (by rw [Nat.pow_zero]; exact hr1)
  by_cases q : r = 1
  · subst q
    have l0 : (0 : Int32).toInt = 0 := rfl
    have l1 : (1 : Int32).toInt = 1 := rfl
    refine ⟨1, ?_⟩
    rw [w8_layForm_L84, natc hx]
    have hu1 : u.toInt = 1 := hu
    exact ⟨fun z => absurd (i_le.mp z) (by omega), fun _ => ⟨vin (by omega) (by omega), fun _ j ej => hp j G _ (nxt hx (by omega) ej) hG f1 f2, fun z => absurd (i_le.mpr (by omega)) z⟩⟩
  · exact ⟨dgs r + 1, lf84 hx hx2 (by omega) hr hrun hO hp (dgs r) G u _ (Nat.le_refl _) (fun z => by omega) (fun _ => hu) (by rw [hG]; omega) f1 (fun p hp => f2 p (by omega))⟩
theorem lf13 {a b N : Nat} (h : CF a b N) {term run ri : Nat → Int32} (hR : IsR a b N run ri) {te ru : Int32} (hru : ru.toInt = ((N - zz a b N : Nat) : Int)) {post : Int32 → Int32 → Int32 → (Nat → Int32) → (Nat → Int32) → (Nat → Int32) → (Nat → Int32) → Prop} (hp : ∀ (F : Int32) (form : Nat → Int32), F.toInt = (tO a b N N : Int) → (∀ j p, j < N → p < tsz (rr a b N j) → form (tO a b N j + p) = tch j (rr a b N j) p) → post te ru F term run ri form) : ∀ (n k : Nat) (i F : Int32) (form : Nat → Int32), k + n = N → zz a b N ≤ k → i.toInt = ((k - zz a b N : Nat) : Int) → F.toInt = (tO a b N k : Int) → (∀ j p, j < k → p < tsz (rr a b N j) → form (tO a b N j + p) = tch j (rr a b N j) p) → w8_layForm_L13 te ru term run ri post (n + 1) i F form := by
  have hN := h.2.2.1
  intro n
  induction n with
  | zero =>
    intro k i F form hk hz hi hF hform
    obtain rfl : k = N := by omega
    rw [w8_layForm_L13]
    exact ⟨fun _ => hp F form hF hform, fun z => absurd (i_le.mpr (by omega)) z⟩
  | succ n ih =>
    intro k i F form hk hz hi hF hform
    have hr1 : 1 ≤ rr a b N k := by
      rcases Nat.eq_zero_or_pos k with w | w
      · rcases zz_cases h with ⟨z, y⟩ | ⟨z, y⟩
        · rw [w]; omega
        · omega
      · exact rr_pos h w (by omega)
    have hrl := rr_le h (i := k) (by omega)
    obtain ⟨r1, r2⟩ := hR (k - zz a b N) (by omega)
    rw [show k - zz a b N + zz a b N = k by omega] at r1 r2
    have hO := tO_le a b N k
    rw [w8_layForm_L13, natc hi, r2]
    have step : ∀ s0, s0 = tch k (rr a b N k) 0 → w8_layForm_J46 te ru F term run ri form i s0 F post (fun z0 z1 z2 => w8_layForm_L13 te ru term run ri post (n + 1) z0 z1 z2) := by
      intro s0 hs0
      refine lf46 hi (by omega) hr1 hrl r1 (by omega) hF hs0 (fun j G form' hj hG g1 g2 => ih (k + 1) j G form' (by omega) (by omega) (by rw [hj]; omega) (by rw [hG, tO_succ]) (fun j p hj hp => ?_))
      by_cases q : j = k
      · rw [q] at hp ⊢; exact g2 p hp
      · have hm : tO a b N (j + 1) ≤ tO a b N k := sumN_mono (by omega)
        rw [tO_succ] at hm
        rw [g1 _ (by omega)]
        exact hform j p (by omega) hp
    refine ⟨fun z => absurd (i_le.mp z) (by omega), fun _ => ⟨vin (by omega) (by omega), fun z => step _ ?_, fun z => step _ ?_⟩⟩
    · have q : ¬ k % 2 = 0 := fun w => z ((par_1 k).mpr w)
      unfold tch
      rw [if_pos rfl, if_neg q]
    · have q := (par_1 k).mp z
      unfold tch
      rw [if_pos rfl, if_pos q]
theorem s8_layForm {a b N : Nat} (h : CF a b N) {x y s t u : Int32} {f g w form : Nat → Int32} (hx : x.toInt = (a : Int)) (hy : y.toInt = (b : Int)) {post : Int32 → Int32 → Int32 → (Nat → Int32) → (Nat → Int32) → (Nat → Int32) → (Nat → Int32) → Prop} (hp : ∀ (te ru F : Int32) (term run ri form : Nat → Int32), F.toInt = (tO a b N N : Int) → (∀ j p, j < N → p < tsz (rr a b N j) → form (tO a b N j + p) = tch j (rr a b N j) p) → post te ru F term run ri form) : w8_layForm s t u f g w form x y post := by
  have hN := h.2.2.1
  unfold w8_layForm
  refine s8_layRuns h hx hy (fun f run ri hf hR => ⟨N - zz a b N + 1, ?_⟩)
  have hz : zz a b N ≤ N := by have := h.2.1; unfold zz; split <;> omega
  have z0 : tO a b N (zz a b N) = 0 := by
    rcases zz_cases h with ⟨z, _⟩ | ⟨z, y⟩
    · rw [z]; rfl
    · rw [z, tO_succ, y]; rfl
  refine lf13 h hR (n_toInt (by omega)) (fun F form hF hform => hp _ _ F _ _ _ form hF hform) (N - zz a b N) (zz a b N) 0 0 form (by omega) (Nat.le_refl _) (by rw [Nat.sub_self]; rfl) (by rw [z0]; rfl) (fun j p hj hp => ?_)
  exfalso
  rcases zz_cases h with ⟨z, _⟩ | ⟨z, y⟩
  · omega
  · obtain rfl : j = 0 := by omega
    rw [y] at hp
    exact absurd hp (Nat.not_lt_zero _)
theorem op_pathTextLength : Op_pathTextLength := by
  intro x_hasSnapshot x_termListSize x_textSize x_tops x_bottoms x_slots x_savedTops x_savedBottoms x_savedSlots x_termList x_text x_arraySizes x_E_size x_E_terms x_arrays0 x_arrays1 x_arrays2 m_terms m_runs m_listed m_fed m_formed m_hasSnapshot m_above m_below m_term m_run m_isRight m_list m_text m_form m_kindOf m_nodeAbove m_nodeBelow m_length m_cell m_savedAbove m_savedBelow m_savedKind m_savedNodeAbove m_savedNodeBelow PL kk tt bb v1 hI
  obtain ⟨hReg, hList, hText, hArr, hNode, hHs, hHs01, hSnap⟩ := id hI
  unfold w7_pathTextLength w8_pathTextLength w7_expand
  by_cases h1 : isR v1
  rotate_left
  · simp only [r7n h1, r8n h1, b01, b00, false_implies, true_implies, not_true_eq_false, not_false_eq_true, true_and, and_true]; exact hI
  simp only [r7y h1, r8y h1, b01, b00, false_implies, true_implies, not_true_eq_false, not_false_eq_true, true_and, and_true]
  obtain ⟨A, B, N, hC, e1, e2, e3, e4⟩ := hReg.cf h1.lt
  exact ⟨h1.vin, h1.vin, s1_expand hC e1 e2 (fun f hf => ⟨_, pl7_L hC hf (fun r hr => ⟨h1.vin, h1.vin, s8_layForm hC e3 e4 (fun te ru F term run ri form hF _ => ⟨i_ext (by rw [hr, hF]), hI⟩)⟩) N 0 0 0 (by omega) rfl rfl⟩)⟩
theorem op_pathText : Op_pathText := by
  intro x_hasSnapshot x_termListSize x_textSize x_tops x_bottoms x_slots x_savedTops x_savedBottoms x_savedSlots x_termList x_text x_arraySizes x_E_size x_E_terms x_arrays0 x_arrays1 x_arrays2 m_terms m_runs m_listed m_fed m_formed m_hasSnapshot m_above m_below m_term m_run m_isRight m_list m_text m_form m_kindOf m_nodeAbove m_nodeBelow m_length m_cell m_savedAbove m_savedBelow m_savedKind m_savedNodeAbove m_savedNodeBelow PL kk tt bb v1 v2 hI
  obtain ⟨hReg, hList, hText, hArr, hNode, hHs, hHs01, hSnap⟩ := id hI
  unfold w7_pathText w8_pathText w7_expand
  by_cases h1 : isR v1
  rotate_left
  · simp only [r7n h1, r8n h1, b01, b00, false_implies, true_implies, not_true_eq_false, not_false_eq_true, true_and, and_true]; exact hI
  simp only [r7y h1, r8y h1, b01, b00, false_implies, true_implies, not_true_eq_false, not_false_eq_true, true_and, and_true]
  by_cases h2 : (0 : Int32) ≤ v2
  rotate_left
  · exact ⟨fun z => absurd z h2, fun _ => ⟨fun z => absurd z h2, fun _ => hI⟩⟩
  obtain ⟨A, B, N, hC, e1, e2, e3, e4⟩ := hReg.cf h1.lt
  have l0 : (0 : Int32).toInt = 0 := rfl
  have h20 := i_le.mp h2
  have hN := hC.2.2.1
  have hv : v2.toInt = ((v2.toNatClampNeg : Nat) : Int) := (clamp (by omega)).symm
  have hO := tO_le A B N N
  refine ⟨fun _ => ⟨h1.vin, h1.vin, s1_expand hC e1 e2 (fun f hf => ⟨_, pt7_L (I := v2.toNatClampNeg) hC hf (fun z => ⟨fun _ => ⟨h1.vin, h1.vin, s8_layForm hC e3 e4 (fun te ru F term run ri form hF _ => ⟨fun _ => ⟨rfl, hI⟩, fun y => absurd (i_le.mpr (by omega)) y⟩)⟩, fun y => absurd h2 y⟩) (fun k p hk hp hip => ⟨fun _ => ⟨h1.vin, h1.vin, s8_layForm hC e3 e4 (fun te ru F term run ri form hF hform => ?_)⟩, fun y => absurd h2 y⟩) N 0 v2 0 (by omega) (Nat.zero_le _) (by rw [hv]; rfl) rfl⟩)⟩, fun y => absurd h2 y⟩
  have hm : tO A B N (k + 1) ≤ tO A B N N := sumN_mono (by omega)
  rw [tO_succ] at hm
  refine ⟨fun z => absurd (i_le.mp z) (by omega), fun _ => ⟨vin (by omega) (by omega), ?_, hI⟩⟩
  rw [hip]; exact (hform k p hk hp).symm
