/-! calkinWilfIndex -/
def cwF : Nat → Int32 → Int32 → Int64 → Int32 → Int64
  | 0, _, _, x, _ => x
  | n + 1, p, q, x, k => if p ≤ q then cwF n p (q - p) x (k + 1) else cwF n (p - q) q (x ||| ((1 : Int64) <<< (k.toInt64 &&& 63))) (k + 1)
theorem cw7_L {sz : Int32} {f : Nat → Int32} {v : Int32} {post : Int64 → Int32 → (Nat → Int32) → Prop} : ∀ (n : Nat) (p q : Int32) (x : Int64) (k : Int32), k.toInt + n = v.toInt → 0 ≤ k.toInt → v.toInt ≤ 60 → post (cwF n p q x k) sz f → w7_calkinWilfIndex_L53 sz f v post (n + 1) p q x k := by
  have l1 : (1 : Int32).toInt = 1 := rfl
  intro n
  induction n with
  | zero =>
    intro p q x k h1 h2 h3 hp
    rw [w7_calkinWilfIndex_L53]
    exact ⟨fun _ => hp, fun z => absurd (i_le.mpr (by omega)) z⟩
  | succ n ih =>
    intro p q x k h1 h2 h3 hp
    rw [w7_calkinWilfIndex_L53]
    refine ⟨fun z => absurd (i_le.mp z) (by omega), fun _ => ⟨fun z y ey j ej => ?_, fun z y ey p2 ep j ej => ?_⟩⟩
    · have hj : j.toInt = k.toInt + 1 := by rw [ej, i_add (by omega) (by omega), l1]
      refine ih p y x j (by omega) (by omega) h3 ?_
      rw [cwF, if_pos z] at hp
      rw [ey, ej]; exact hp
    · have hj : j.toInt = k.toInt + 1 := by rw [ej, i_add (by omega) (by omega), l1]
      refine ih p2 q y j (by omega) (by omega) h3 ?_
      rw [cwF, if_neg z] at hp
      rw [ey, ep, ej]; exact hp
theorem cw8_L {s t : Int32} {f g u : Nat → Int32} {v : Int32} {post : Int64 → Int32 → Int32 → (Nat → Int32) → (Nat → Int32) → (Nat → Int32) → Prop} : ∀ (n : Nat) (p q : Int32) (x : Int64) (k : Int32), k.toInt + n = v.toInt → 0 ≤ k.toInt → v.toInt ≤ 60 → post (cwF n p q x k) s t f g u → w8_calkinWilfIndex_L62 s t f g u v post (n + 1) p q x k := by
  have l1 : (1 : Int32).toInt = 1 := rfl
  intro n
  induction n with
  | zero =>
    intro p q x k h1 h2 h3 hp
    rw [w8_calkinWilfIndex_L62]
    exact ⟨fun _ => hp, fun z => absurd (i_le.mpr (by omega)) z⟩
  | succ n ih =>
    intro p q x k h1 h2 h3 hp
    rw [w8_calkinWilfIndex_L62]
    refine ⟨fun z => absurd (i_le.mp z) (by omega), fun _ => ⟨fun z y ey j ej => ?_, fun z y ey p2 ep j ej => ?_⟩⟩
    · have hj : j.toInt = k.toInt + 1 := by rw [ej, i_add (by omega) (by omega), l1]
      refine ih p y x j (by omega) (by omega) h3 ?_
      rw [cwF, if_pos z] at hp
      rw [ey, ej]; exact hp
    · have hj : j.toInt = k.toInt + 1 := by rw [ej, i_add (by omega) (by omega), l1]
      refine ih p2 q y j (by omega) (by omega) h3 ?_
      rw [cwF, if_neg z] at hp
      rw [ey, ep, ej]; exact hp
theorem op_calkinWilfIndex : Op_calkinWilfIndex := by
  intro x_hasSnapshot x_termListSize x_textSize x_tops x_bottoms x_slots x_savedTops x_savedBottoms x_savedSlots x_termList x_text x_arraySizes x_E_size x_E_terms x_arrays0 x_arrays1 x_arrays2 m_terms m_runs m_listed m_fed m_hasSnapshot m_above m_below m_term m_run m_isRight m_list m_text m_kindOf m_nodeAbove m_nodeBelow m_length m_cell m_savedAbove m_savedBelow m_savedKind m_savedNodeAbove m_savedNodeBelow PL kk tt bb v1 hI
  obtain ⟨hReg, hList, hText, hArr, hNode, hHs, hHs01, hSnap⟩ := id hI
  unfold w7_calkinWilfIndex w8_calkinWilfIndex w7_expand
  by_cases h1 : isR v1
  rotate_left
  · simp only [r7n h1, r8n h1, b01, b00, false_implies, true_implies, not_true_eq_false, not_false_eq_true, true_and, and_true]; exact hI
  simp only [r7y h1, r8y h1, b01, b00, false_implies, true_implies, not_true_eq_false, not_false_eq_true, true_and, and_true]
  obtain ⟨A, B, N, hC, e1, e2, e3, e4⟩ := hReg.cf h1.lt
  obtain ⟨g1, g2, -⟩ := hReg _ h1.lt
  have l60 : (60 : Int32).toInt = 60 := rfl
  have l0 : (0 : Int32).toInt = 0 := rfl
  have hb := dep_le hC (k := N) (Nat.le_refl _)
  refine ⟨h1.vin, h1.vin, s1_expand hC e1 e2 (fun f hf => s1_stepCount hC hf (fun r hr => ⟨fun q => ⟨h1.vin, fun P eP => ⟨h1.vin, fun Q eQ x ex => ⟨_, cw7_L (dep A B N) P Q x 0 (by omega) (by decide) (by have := i_le.mp q; omega) ⟨h1.vin, h1.vin, s8_depthOf hC e3 e4 (fun r2 f2 run ri hr2 _ _ => ?_)⟩⟩⟩⟩, fun q => ⟨h1.vin, h1.vin, s8_depthOf hC e3 e4 (fun r2 f2 run ri hr2 _ _ => ?_)⟩⟩))⟩
  · obtain rfl : r2 = r := i_ext (by rw [hr, hr2])
    refine ⟨fun _ => ⟨h1.vin, fun P2 eP2 => ⟨h1.vin, fun Q2 eQ2 x2 ex2 => ⟨_, cw8_L (dep A B N) P2 Q2 x2 0 (by omega) (by decide) (by have := i_le.mp q; omega) ⟨?_, hI⟩⟩⟩⟩, fun z => absurd q z⟩
    rw [eP, eQ, eP2, eQ2, ex, ex2, g1, g2]
  · obtain rfl : r2 = r := i_ext (by rw [hr, hr2])
    exact ⟨fun z => absurd z q, fun _ => hI⟩
/-! fareyCount -/
def wf : Nat → Nat → Nat → Nat
  | 0, _, x => x
  | n + 1, p, x => if x % p = 0 then wf n p (x / p) else x
theorem wf_spec : ∀ (n p x : Nat), 2 ≤ p → 1 ≤ x → x < 2 ^ n → wf n p x ∣ x ∧ 1 ≤ wf n p x ∧ wf n p x ≤ x := by
  intro n
  induction n with
  | zero => intro p x _ h1 h2; exact absurd h2 (by omega)
  | succ n ih =>
    intro p x hp hx h
    rw [wf]
    by_cases q : x % p = 0
    · rw [if_pos q]
      have hd : p ∣ x := Nat.dvd_of_mod_eq_zero q
      have h1 : 1 ≤ x / p := Nat.div_pos (Nat.le_of_dvd (by omega) hd) (by omega)
      have h2 : x / p < 2 ^ n := by
        rw [Nat.div_lt_iff_lt_mul (by omega)]
        have : 2 ^ n * 2 ≤ 2 ^ n * p := Nat.mul_le_mul_left _ hp
        rw [Nat.pow_succ] at h; omega
      obtain ⟨a1, a2, a3⟩ := ih p (x / p) hp h1 h2
      have h4 : x / p ∣ x := Nat.div_dvd_of_dvd hd
      exact ⟨Nat.dvd_trans a1 h4, a2, Nat.le_trans a3 (Nat.div_le_self _ _)⟩
    · rw [if_neg q]; exact ⟨Nat.dvd_refl _, hx, Nat.le_refl _⟩
theorem wf_div {n p x : Nat} (hp : 2 ≤ p) (hx : 1 ≤ x) (h : x < 2 ^ (n + 1)) (q : x % p = 0) : wf (n + 1) p x ∣ x / p := by
  rw [wf, if_pos q]
  have hd : p ∣ x := Nat.dvd_of_mod_eq_zero q
  have h1 : 1 ≤ x / p := Nat.div_pos (Nat.le_of_dvd (by omega) hd) (by omega)
  have h2 : x / p < 2 ^ n := by
    rw [Nat.div_lt_iff_lt_mul (by omega)]
    have : 2 ^ n * 2 ≤ 2 ^ n * p := Nat.mul_le_mul_left _ hp
    rw [Nat.pow_succ] at h; omega
  exact (wf_spec n p (x / p) hp h1 h2).1
theorem wf7_L {y : Int32} {p : Nat} (hy : y.toInt = (p : Int)) (hp2 : 2 ≤ p) {post : Int32 → Prop} : ∀ (n x : Nat) (v k : Int32), v.toInt = (x : Int) → 1 ≤ x → x < 2 ^ n → 0 ≤ k.toInt → k.toInt + n < 1000 → (∀ r : Int32, r.toInt = (wf n p x : Int) → post r) → w7_withoutFactor_L4 y post (n + 1) v k := by
  have l1 : (1 : Int32).toInt = 1 := rfl
  have l0 : (0 : Int32).toInt = 0 := rfl
  have l1000 : (1000 : Int32).toInt = 1000 := rfl
  obtain ⟨hle, hne⟩ := i_pos hy (by omega)
  intro n
  induction n with
  | zero => intro x v k _ h1 h2; exact absurd h2 (by omega)
  | succ n ih =>
    intro x v k hv hx h hk hk2 hp
    rw [w7_withoutFactor_L4]
    obtain ⟨e1, e2⟩ := i_divmod hv hy (by omega)
    refine ⟨fun z => absurd (i_le.mp z) (by omega), fun _ => ⟨fun z => absurd (i_le.mp z) (by omega), fun _ => ⟨hne, fun z => hp _ ?_, fun z => ⟨hne, fun w ew j ej => ?_⟩⟩⟩⟩
    · have : ¬ x % p = 0 := fun q => z (i_ext (by rw [e2, q]; rfl))
      rw [hv, wf, if_neg this]
    · have hq : x % p = 0 := by
        have e := congrArg Int32.toInt z
        rw [e2, l0] at e; omega
      have hd : p ∣ x := Nat.dvd_of_mod_eq_zero hq
      have h1 : 1 ≤ x / p := Nat.div_pos (Nat.le_of_dvd (by omega) hd) (by omega)
      have h2 : x / p < 2 ^ n := by
        rw [Nat.div_lt_iff_lt_mul (by omega)]
        have : 2 ^ n * 2 ≤ 2 ^ n * p := Nat.mul_le_mul_left _ hp2
        rw [Nat.pow_succ] at h; omega
      have hj : j.toInt = k.toInt + 1 := by rw [ej, i_add (by omega) (by omega), l1]
      exact ih (x / p) w j (by rw [ew, e1]) h1 h2 (by omega) (by omega) (fun r hr => hp r (by rw [hr, wf, if_pos hq]))
theorem wf8_L {v2 y : Int32} {p : Nat} (hy : y.toInt = (p : Int)) (hp2 : 2 ≤ p) (hpM : p ≤ 1000) {post : Int32 → Prop} {kb : Int32 → Int32 → Int32 → Prop} : ∀ (n x : Nat) (v : Int32), v.toInt = (x : Int) → 1 ≤ x → x < 2 ^ n → (∀ r j : Int32, r.toInt = (wf n p x : Int) → j.toInt = ((p + 1 : Nat) : Int) → kb v2 r j) → w8_coprimes_L36 v2 y post kb (n + 1) v := by
  have l1 : (1 : Int32).toInt = 1 := rfl
  have l0 : (0 : Int32).toInt = 0 := rfl
  obtain ⟨hle, hne⟩ := i_pos hy (by omega)
  intro n
  induction n with
  | zero => intro x v _ h1 h2; exact absurd h2 (by omega)
  | succ n ih =>
    intro x v hv hx h hp
    rw [w8_coprimes_L36]
    obtain ⟨e1, e2⟩ := i_divmod hv hy (by omega)
    refine ⟨hne, fun z j ej => hp _ _ ?_ (nxt hy (by omega) ej), fun z => ⟨hne, fun w ew => ?_⟩⟩
    · have : ¬ x % p = 0 := fun q => z (i_ext (by rw [e2, q]; rfl))
      rw [hv, wf, if_neg this]
    · have hq : x % p = 0 := by
        have e := congrArg Int32.toInt z
        rw [e2, l0] at e; omega
      have hd : p ∣ x := Nat.dvd_of_mod_eq_zero hq
      have h1 : 1 ≤ x / p := Nat.div_pos (Nat.le_of_dvd (by omega) hd) (by omega)
      have h2 : x / p < 2 ^ n := by
        rw [Nat.div_lt_iff_lt_mul (by omega)]
        have : 2 ^ n * 2 ≤ 2 ^ n * p := Nat.mul_le_mul_left _ hp2
        rw [Nat.pow_succ] at h; omega
      exact ih (x / p) w (by rw [ew, e1]) h1 h2 (fun r j hr hj => hp r j (by rw [hr, wf, if_pos hq]) hj)
def tot : Nat → Nat → Nat → Nat → Nat
  | 0, n, _, _ => n
  | f + 1, n, left, p => if left < p * p then (if left ≤ 1 then n else n / left * (left - 1)) else if left % p = 0 then tot f (n / p * (p - 1)) (wf 10 p left) (p + 1) else tot f n left (p + 1)
theorem part_of {n l : Nat} (h : l ∣ n) (h1 : 1 ≤ l) : n - n / l = n / l * (l - 1) ∧ n / l * (l - 1) ≤ n := by
  obtain ⟨c, rfl⟩ := h
  rw [Nat.mul_div_cancel_left _ (by omega), Nat.mul_sub, Nat.mul_one, Nat.mul_comm]
  exact ⟨rfl, Nat.sub_le _ _⟩
theorem tot_dvd {n left p : Nat} (h : left ∣ n) (h1 : 1 ≤ left) (h2 : left ≤ 1000) (hp : 2 ≤ p) (hq : left % p = 0) : wf 10 p left ∣ n / p * (p - 1) ∧ p ∣ n := by
  have hw := wf_div (n := 9) (p := p) (x := left) hp h1 (by omega) hq
  have hd : p ∣ left := Nat.dvd_of_mod_eq_zero hq
  obtain ⟨c, rfl⟩ := h
  obtain ⟨d, rfl⟩ := hd
  rw [Nat.mul_div_cancel_left _ (by omega)] at hw
  rw [Nat.mul_assoc, Nat.mul_div_cancel_left _ (by omega)]
  exact ⟨Nat.dvd_trans hw (Nat.dvd_trans (Nat.dvd_mul_right d c) (Nat.dvd_mul_right _ _)), Nat.dvd_mul_right _ _⟩
theorem sq_le {p q : Nat} (h : p ≤ q) : p * p ≤ q * q := Nat.mul_le_mul h h
theorem tt7_L {post : Int32 → Prop} : ∀ (f n left p : Nat) (vn vl vp : Int32), vn.toInt = (n : Int) → vl.toInt = (left : Int) → vp.toInt = (p : Int) → left ∣ n → 1 ≤ left → left ≤ 1000 → n ≤ 1000 → 2 ≤ p → p ≤ 33 → p + f = 33 → (∀ r : Int32, r.toInt = (tot (f + 1) n left p : Int) → post r) → w7_totient_L6 post (f + 1) vn vl vp := by
  have l1 : (1 : Int32).toInt = 1 := rfl
  have l0 : (0 : Int32).toInt = 0 := rfl
  have l1000 : (1000 : Int32).toInt = 1000 := rfl
  intro f
  have fin : ∀ (n left p : Nat) (vn vl vp : Int32), vn.toInt = (n : Int) → vl.toInt = (left : Int) → left ∣ n → 1 ≤ left → left ≤ 1000 → n ≤ 1000 → (∀ r : Int32, r.toInt = ((if left ≤ 1 then n else n / left * (left - 1) : Nat) : Int) → post r) → w7_totient_J44 vn vl post := by
    intro n left p vn vl vp hn hl hd h1 h2 h3 hp
    unfold w7_totient_J44
    obtain ⟨hle, hne⟩ := i_pos hl (by omega)
    obtain ⟨e1, e2⟩ := i_divmod hn hl (by omega)
    obtain ⟨a1, a2⟩ := part_of hd h1
    have hdl : n / left ≤ n := Nat.div_le_self _ _
    refine ⟨fun z => hp _ ?_, fun z => ⟨hne, hp _ ?_⟩⟩
    · have := i_le.mp z
      rw [if_pos (by omega)]; exact hn
    · have z : ¬ vl.toInt ≤ 1 := fun y => z (i_le.mpr y)
      rw [if_neg (by omega), i_sub (by omega) (by omega), hn, e1, ← a1]; omega
  induction f with
  | zero =>
    intro n left p vn vl vp hn hl hp hd h1 h2 h3 h4 h5 h6 hpost
    obtain rfl : p = 33 := by omega
    rw [w7_totient_L6]
    have hpp : (vp * vp).toInt = 1089 := by rw [i_mul (by rw [hp]; decide) (by rw [hp]; decide), hp]; rfl
    rw [tot, if_pos (by omega)] at hpost
    exact ⟨fun z => absurd (i_lt.mp z) (by omega), fun _ => ⟨fun _ => fin n left 33 vn vl vp hn hl hd h1 h2 h3 hpost, fun z => absurd (i_lt.mpr (by omega)) z⟩⟩
  | succ f ih =>
    intro n left p vn vl vp hn hl hp hd h1 h2 h3 h4 h5 h6 hpost
    rw [w7_totient_L6]
    have hsq : p * p ≤ 33 * 33 := sq_le h5
    have hc : ((p * p : Nat) : Int) = (p : Int) * (p : Int) := Int.natCast_mul _ _
    have hpp : (vp * vp).toInt = ((p * p : Nat) : Int) := by rw [i_mul (by rw [hp, ← hc]; omega) (by rw [hp, ← hc]; omega), hp, hc]
    obtain ⟨hle, hne⟩ := i_pos hp (by omega)
    obtain ⟨e1, e2⟩ := i_divmod hl hp (by omega)
    obtain ⟨e3, e4⟩ := i_divmod hn hp (by omega)
    rw [tot] at hpost
    refine ⟨fun z => absurd (i_lt.mp z) (by omega), fun _ => ⟨fun z => ?_, fun z => ⟨hne, fun y j ej => ?_, fun y => ⟨hne, fun x ex => ?_⟩⟩⟩⟩
    · have z := i_lt.mp z
      rw [if_pos (by omega)] at hpost
      exact fin n left p vn vl vp hn hl hd h1 h2 h3 hpost
    · have z : ¬ vl.toInt < (vp * vp).toInt := fun w => z (i_lt.mpr w)
      have hq : ¬ left % p = 0 := fun q => y (i_ext (by rw [e2, q]; rfl))
      rw [if_neg (by omega), if_neg hq] at hpost
      exact ih n left (p + 1) vn vl j hn hl (nxt hp (by omega) ej) hd h1 h2 h3 (by omega) (by omega) (by omega) hpost
    · have z : ¬ vl.toInt < (vp * vp).toInt := fun w => z (i_lt.mpr w)
      have hq : left % p = 0 := by
        have e := congrArg Int32.toInt y
        rw [e2, l0] at e; omega
      rw [if_neg (by omega), if_pos hq] at hpost
      obtain ⟨t1, t2⟩ := tot_dvd hd h1 h2 h4 hq
      obtain ⟨a1, a2⟩ := part_of t2 (by omega)
      have hdl : n / p ≤ n := Nat.div_le_self _ _
      have hx : x.toInt = ((n / p * (p - 1) : Nat) : Int) := by rw [ex, i_sub (by omega) (by omega), hn, e3, ← a1]; omega
      obtain ⟨w1, w2, w3⟩ := wf_spec 10 p left h4 h1 (by omega)
      exact ⟨_, wf7_L hp h4 10 left vl 0 hl h1 (by omega) (by decide) (by decide) (fun r hr j ej => ih _ _ (p + 1) x r j hx hr (nxt hp (by omega) ej) t1 w2 (by omega) (by omega) (by omega) (by omega) (by omega) hpost)⟩
theorem s7_totient {d : Nat} {v : Int32} (hv : v.toInt = (d : Int)) (h1 : 1 ≤ d) (h2 : d ≤ 1000) {post : Int32 → Prop} (hp : ∀ r : Int32, r.toInt = (tot 32 d d 2 : Int) → post r) : w7_totient v post := ⟨_, tt7_L 31 d d 2 v v 2 hv hv rfl (Nat.dvd_refl _) h1 h2 h2 (by omega) (by omega) (by omega) hp⟩
theorem tt8_L {post : Int32 → Prop} : ∀ (f n left p : Nat) (vn vl vp : Int32), vn.toInt = (n : Int) → vl.toInt = (left : Int) → vp.toInt = (p : Int) → left ∣ n → 1 ≤ left → left ≤ 1000 → n ≤ 1000 → 2 ≤ p → p ≤ 33 → p + f = 33 → (∀ r : Int32, r.toInt = (tot (f + 1) n left p : Int) → post r) → w8_coprimes_L7 post (f + 1) vn vl vp := by
  have l1 : (1 : Int32).toInt = 1 := rfl
  have l0 : (0 : Int32).toInt = 0 := rfl
  intro f
  have fin : ∀ (n left : Nat) (vn vl : Int32), vn.toInt = (n : Int) → vl.toInt = (left : Int) → left ∣ n → 1 ≤ left → left ≤ 1000 → n ≤ 1000 → (∀ r : Int32, r.toInt = ((if left ≤ 1 then n else n / left * (left - 1) : Nat) : Int) → post r) → ((vl ≤ 1 → post vn) ∧ (¬ vl ≤ 1 → (¬ vl = 0 ∧ post ((vn / vl) * (vl - 1))))) := by
    intro n left vn vl hn hl hd h1 h2 h3 hp
    obtain ⟨hle, hne⟩ := i_pos hl (by omega)
    obtain ⟨e1, e2⟩ := i_divmod hn hl (by omega)
    obtain ⟨a1, a2⟩ := part_of hd h1
    refine ⟨fun z => hp _ ?_, fun z => ⟨hne, hp _ ?_⟩⟩
    · have := i_le.mp z
      rw [if_pos (by omega)]; exact hn
    · have z : ¬ vl.toInt ≤ 1 := fun y => z (i_le.mpr y)
      have e5 : (vl - 1).toInt = ((left - 1 : Nat) : Int) := by rw [i_sub (by omega) (by omega), hl, l1]; omega
      have hc : ((n / left * (left - 1) : Nat) : Int) = ((n / left : Nat) : Int) * ((left - 1 : Nat) : Int) := Int.natCast_mul _ _
      rw [if_neg (by omega), i_mul (by rw [e1, e5, ← hc]; omega) (by rw [e1, e5, ← hc]; omega), e1, e5, hc]
  induction f with
  | zero =>
    intro n left p vn vl vp hn hl hp hd h1 h2 h3 h4 h5 h6 hpost
    obtain rfl : p = 33 := by omega
    rw [w8_coprimes_L7]
    have hpp : (vp * vp).toInt = 1089 := by rw [i_mul (by rw [hp]; decide) (by rw [hp]; decide), hp]; rfl
    rw [tot, if_pos (by omega)] at hpost
    exact ⟨fun _ => fin n left vn vl hn hl hd h1 h2 h3 hpost, fun z => absurd (i_lt.mpr (by omega)) z⟩
  | succ f ih =>
    intro n left p vn vl vp hn hl hp hd h1 h2 h3 h4 h5 h6 hpost
    rw [w8_coprimes_L7]
    have hsq : p * p ≤ 33 * 33 := sq_le h5
    have hc : ((p * p : Nat) : Int) = (p : Int) * (p : Int) := Int.natCast_mul _ _
    have hpp : (vp * vp).toInt = ((p * p : Nat) : Int) := by rw [i_mul (by rw [hp, ← hc]; omega) (by rw [hp, ← hc]; omega), hp, hc]
    obtain ⟨hle, hne⟩ := i_pos hp (by omega)
    obtain ⟨e1, e2⟩ := i_divmod hl hp (by omega)
    obtain ⟨e3, e4⟩ := i_divmod hn hp (by omega)
    rw [tot] at hpost
    refine ⟨fun z => ?_, fun z => ⟨hne, fun y => ⟨hne, fun x ex => ?_⟩, fun y j ej => ?_⟩⟩
    · have z := i_lt.mp z
      rw [if_pos (by omega)] at hpost
      exact fin n left vn vl hn hl hd h1 h2 h3 hpost
    · have z : ¬ vl.toInt < (vp * vp).toInt := fun w => z (i_lt.mpr w)
      have hq : left % p = 0 := by
        have e := congrArg Int32.toInt y
        rw [e2, l0] at e; omega
      rw [if_neg (by omega), if_pos hq] at hpost
      obtain ⟨t1, t2⟩ := tot_dvd hd h1 h2 h4 hq
      obtain ⟨a1, a2⟩ := part_of t2 (by omega)
      have e5 : (vp - 1).toInt = ((p - 1 : Nat) : Int) := by rw [i_sub (by omega) (by omega), hp, l1]; omega
      have hc2 : ((n / p * (p - 1) : Nat) : Int) = ((n / p : Nat) : Int) * ((p - 1 : Nat) : Int) := Int.natCast_mul _ _
      have hx : x.toInt = ((n / p * (p - 1) : Nat) : Int) := by rw [ex, i_mul (by rw [e3, e5, ← hc2]; omega) (by rw [e3, e5, ← hc2]; omega), e3, e5, hc2]
      obtain ⟨w1, w2, w3⟩ := wf_spec 10 p left h4 h1 (by omega)
      exact ⟨_, wf8_L hp h4 (by omega) 10 left vl hl h1 (by omega) (fun r j hr hj => ih _ _ (p + 1) x r j hx hr hj t1 w2 (by omega) (by omega) (by omega) (by omega) (by omega) hpost)⟩
    · have z : ¬ vl.toInt < (vp * vp).toInt := fun w => z (i_lt.mpr w)
      have hq : ¬ left % p = 0 := fun q => y (i_ext (by rw [e2, q]; rfl))
      rw [if_neg (by omega), if_neg hq] at hpost
      exact ih n left (p + 1) vn vl j hn hl (nxt hp (by omega) ej) hd h1 h2 h3 (by omega) (by omega) (by omega) hpost
theorem s8_coprimes {d : Nat} {v : Int32} (hv : v.toInt = (d : Int)) (h1 : 1 ≤ d) (h2 : d ≤ 1000) {post : Int32 → Prop} (hp : ∀ r : Int32, r.toInt = (tot 32 d d 2 : Int) → post r) : w8_coprimes v post := ⟨_, tt8_L 31 d d 2 v v 2 hv hv rfl (Nat.dvd_refl _) h1 h2 h2 (by omega) (by omega) (by omega) hp⟩
theorem of_toInt {r : Int32} {n : Nat} (h : r.toInt = (n : Int)) : r = Int32.ofNat n := by
  have := i_range r
  exact i_ext (by rw [h, n_toInt (by omega)])
def fcF : Nat → Nat → Int32 → Int32
  | 0, _, acc => acc
  | n + 1, d, acc => fcF n (d + 1) (acc + Int32.ofNat (tot 32 d d 2))
theorem fc7_L {v : Int32} {post : Int32 → Prop} (hv : v.toInt ≤ 1000) : ∀ (n d : Nat) (acc i : Int32), i.toInt = (d : Int) → 1 ≤ d → (d : Int) + n = v.toInt + 1 → post (fcF n d acc) → w7_fareyCount_L17 v post (n + 1) acc i := by
  intro n
  induction n with
  | zero =>
    intro d acc i hi h1 h2 hp
    rw [w7_fareyCount_L17]
    exact ⟨fun _ => hp, fun z => absurd (i_lt.mpr (by omega)) z⟩
  | succ n ih =>
    intro d acc i hi h1 h2 hp
    rw [w7_fareyCount_L17]
    refine ⟨fun z => absurd (i_lt.mp z) (by omega), fun _ => s7_totient hi h1 (by omega) (fun r hr x ex j ej => ?_)⟩
    rw [of_toInt hr] at ex
    rw [ex]
    exact ih (d + 1) _ j (nxt hi (by omega) ej) (by omega) (by omega) hp
theorem fc8_L {v : Int32} {post : Int32 → Prop} (hv : v.toInt ≤ 1000) : ∀ (n d : Nat) (acc i : Int32), i.toInt = (d : Int) → 1 ≤ d → (d : Int) + n = v.toInt + 1 → post (fcF n d acc) → w8_fareyCount_L18 v post (n + 1) acc i := by
  intro n
  induction n with
  | zero =>
    intro d acc i hi h1 h2 hp
    rw [w8_fareyCount_L18]
    exact ⟨fun _ => hp, fun z => absurd (i_lt.mpr (by omega)) z⟩
  | succ n ih =>
    intro d acc i hi h1 h2 hp
    rw [w8_fareyCount_L18]
    refine ⟨fun z => absurd (i_lt.mp z) (by omega), fun _ => s8_coprimes hi h1 (by omega) (fun r hr x ex j ej => ?_)⟩
    rw [of_toInt hr] at ex
    rw [ex]
    exact ih (d + 1) _ j (nxt hi (by omega) ej) (by omega) (by omega) hp
theorem op_fareyCount : Op_fareyCount := by
  intro x_hasSnapshot x_termListSize x_textSize x_tops x_bottoms x_slots x_savedTops x_savedBottoms x_savedSlots x_termList x_text x_arraySizes x_arrays0 x_arrays1 x_arrays2 m_listed m_fed m_hasSnapshot m_above m_below m_list m_text m_kindOf m_nodeAbove m_nodeBelow m_length m_cell m_savedAbove m_savedBelow m_savedKind m_savedNodeAbove m_savedNodeBelow PL kk tt bb v1 hI
  obtain ⟨hReg, hList, hText, hArr, hNode, hHs, hHs01, hSnap⟩ := id hI
  unfold w7_fareyCount w8_fareyCount
  by_cases h1 : 1 ≤ v1.toInt ∧ v1.toInt ≤ 1000
  rotate_left
  · simp only [n7n (lo := 1) (hi := 1000) h1, w8n (a := v1.toInt64) (lo := 1) (hi := 1000) (by rw [t64]; exact h1), b01, b00, false_implies, true_implies, not_true_eq_false, not_false_eq_true, true_and, and_true]; exact hI
  simp only [n7y (lo := 1) (hi := 1000) h1, w8y (a := v1.toInt64) (lo := 1) (hi := 1000) (by rw [t64]; exact h1), b01, b00, false_implies, true_implies, not_true_eq_false, not_false_eq_true, true_and, and_true]
  exact ⟨_, fc7_L h1.2 v1.toInt.toNat 1 0 1 rfl (by omega) (by omega) ⟨_, fc8_L h1.2 v1.toInt.toNat 1 0 1 rfl (by omega) (by omega) ⟨rfl, hI⟩⟩⟩
