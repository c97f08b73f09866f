/-! rankedBetween: both collect the same fractions -/
noncomputable def Kf (v : Int32) (x y : Nat) : Nat := (mu v x y + 20).toNat
/-- entries with key c among the first n -/
noncomputable def rTl (v : Int32) (σ : RS) (κ n : Nat) : Nat := sumN (fun j => if Kf v (σ.2.1 j) (σ.2.2 j) = κ then 1 else 0) n
theorem rTl_le (v : Int32) (σ : RS) (κ n : Nat) : rTl v σ κ n ≤ 1 * n := sumN_le (fun i _ => by split <;> omega)
def RC (v : Int32) (σ : RS) (Rs : Int32) (rT rB ks ty : Nat → Int32) : Prop := Rs.toInt = (σ.1 : Int) ∧ (∀ j, j < σ.1 → (rT j).toInt = (σ.2.1 j : Int) ∧ (rB j).toInt = (σ.2.2 j : Int) ∧ (ks j).toInt = (Kf v (σ.2.1 j) (σ.2.2 j) : Int)) ∧ ∀ κ, κ < 160 → (ty κ).toInt = (rTl v σ κ σ.1 : Int)
def RM (v : Int32) (σ : RS) (m : Int32) (fr : Nat → Int32) (ks : Nat → Int64) : Prop := m.toInt = (σ.1 : Int) ∧ ∀ j, j < σ.1 → (fr j).toInt = ((1000 * σ.2.1 j + σ.2.2 j : Nat) : Int) ∧ (ks j).toInt = 1000000 * (mu v (σ.2.1 j) (σ.2.2 j) + 1000) + 1000 * (σ.2.2 j : Int) + (σ.2.1 j : Int)
theorem RC.add {v : Int32} {σ : RS} {Rs : Int32} {rT rB ks ty : Nat → Int32} (h : RC v σ Rs rT rB ks ty) (hc : σ.1 < 719) {x y : Nat} {a b c d : Int32} (ha : a.toInt = (x : Int)) (hb : b.toInt = (y : Int)) (hk : c.toInt = (Kf v x y : Int)) (hK : Kf v x y < 160) (hd : d = Rs + 1) : RC v (rAdd σ x y) d (upd rT Rs.toNatClampNeg a) (upd rB Rs.toNatClampNeg b) (upd ks Rs.toNatClampNeg c) (upd ty c.toNatClampNeg (ty c.toNatClampNeg + 1)) := by
  obtain ⟨h1, h2, h3⟩ := h
  rw [natc h1, natc hk]
  have l1 : (1 : Int32).toInt = 1 := rfl
  refine ⟨nxt h1 (by omega) hd, fun j hj => ?_, fun κ hκ => ?_⟩
  · have hj : j < σ.1 + 1 := hj
    show (upd rT σ.1 a j).toInt = ((if j = σ.1 then x else σ.2.1 j : Nat) : Int) ∧ (upd rB σ.1 b j).toInt = ((if j = σ.1 then y else σ.2.2 j : Nat) : Int) ∧ (upd ks σ.1 c j).toInt = (Kf v (if j = σ.1 then x else σ.2.1 j) (if j = σ.1 then y else σ.2.2 j) : Int)
    by_cases q : j = σ.1
    · rw [if_pos q, if_pos q, q, upd_eq, upd_eq, upd_eq]; exact ⟨ha, hb, hk⟩
    · rw [if_neg q, if_neg q, upd_ne _ _ q, upd_ne _ _ q, upd_ne _ _ q]; exact h2 j (by omega)
  · have e : rTl v (rAdd σ x y) κ (rAdd σ x y).1 = rTl v σ κ σ.1 + (if Kf v x y = κ then 1 else 0) := by
      show sumN (fun j => if Kf v (if j = σ.1 then x else σ.2.1 j) (if j = σ.1 then y else σ.2.2 j) = κ then 1 else 0) σ.1 + (if Kf v (if σ.1 = σ.1 then x else σ.2.1 σ.1) (if σ.1 = σ.1 then y else σ.2.2 σ.1) = κ then 1 else 0) = _
      rw [if_pos rfl, if_pos rfl]
      congr 1
      refine sumN_cg (fun j hj => ?_)
      rw [if_neg (show ¬ j = σ.1 by omega), if_neg (show ¬ j = σ.1 by omega)]
    rw [e]
    have hl := rTl_le v σ κ σ.1
    by_cases q : κ = Kf v x y
    · rw [q, upd_eq, if_pos rfl, i_add (by rw [h3 _ hK, l1]; rw [q] at hl; omega) (by rw [h3 _ hK, l1]; rw [q] at hl; omega), h3 _ hK, l1]; omega
    · rw [upd_ne _ _ q, if_neg (fun w => q w.symm), h3 κ hκ]; omega
theorem Kf_bnd {x y : Nat} (hx : 1 ≤ x) (hx2 : x < 4 * y) (hy : y ≤ 24) (hg : Nat.gcd x y = 1) (v : Int32) : ∃ N, CF x y N ∧ Kf v x y < 160 ∧ (Kf v x y : Int) = mu v x y + 20 ∧ -20 ≤ mu v x y ∧ mu v x y ≤ 139 := by
  obtain ⟨N, hN⟩ := CF_of hx (show x ≤ 1000000 by omega) (show 1 ≤ y by omega) (show y ≤ 1000000 by omega) hg
  have hb := mu_bnd hN (by omega) hy v
  refine ⟨N, hN, ?_, ?_, hb.1, hb.2⟩
  · unfold Kf; omega
  · unfold Kf; omega
theorem s4_add {v : Int32} {σ : RS} {Rs : Int32} {rT rB ks ty : Nat → Int32} (h : RC v σ Rs rT rB ks ty) (hc : σ.1 < 719) {x y : Nat} (hx : 1 ≤ x) (hx2 : x < 4 * y) (hy : y ≤ 24) (hg : Nat.gcd x y = 1) {a b m : Int32} (ha : a.toInt = (x : Int)) (hb : b.toInt = (y : Int)) (hm : m.toInt = mu v x y) {post : Int32 → (Nat → Int32) → (Nat → Int32) → (Nat → Int32) → (Nat → Int32) → Prop} (hp : ∀ Rs rT rB ks ty, RC v (rAdd σ x y) Rs rT rB ks ty → post Rs rT rB ks ty) : w4_add Rs rT rB ks ty a b m post := by
  have l0 : (0 : Int32).toInt = 0 := rfl
  have l20 : (-20 : Int32).toInt = -20 := rfl
  have l160 : (160 : Int32).toInt = 160 := rfl
  have l720 : (720 : Int32).toInt = 720 := rfl
  obtain ⟨N, hN, k1, k2, k3, k4⟩ := Kf_bnd hx hx2 hy hg v
  unfold w4_add
  intro c ec
  have hk : c.toInt = (Kf v x y : Int) := by rw [ec, i_sub (by omega) (by omega), hm, l20, k2]; omega
  have h1 := h.1
  exact ⟨fun z => absurd (i_le.mp z) (by omega), fun _ => ⟨fun z => absurd (i_lt.mp z) (by omega), fun _ => ⟨fun z => absurd (i_le.mp z) (by omega), fun _ => ⟨vin (by omega) (by omega), vin (by omega) (by omega), vin (by omega) (by omega), vin (by omega) (by omega), vin (by omega) (by omega), fun d hd => hp _ _ _ _ _ (h.add hc ha hb hk k1 hd)⟩⟩⟩⟩
theorem clr4_L {Rs : Int32} {post : Int32 → (Nat → Int32) → Prop} (hp : ∀ ty : Nat → Int32, (∀ κ, κ < 160 → ty κ = 0) → post Rs ty) : ∀ (n k : Nat) (i : Int32) (ty : Nat → Int32), k + n = 160 → i.toInt = (k : Int) → (∀ κ, κ < k → ty κ = 0) → w4_clear_L7 Rs post (n + 1) i ty := by
  have l160 : (160 : Int32).toInt = 160 := rfl
  intro n
  induction n with
  | zero =>
    intro k i ty hk hi ht
    obtain rfl : k = 160 := by omega
    rw [w4_clear_L7]
    exact ⟨fun _ => hp ty ht, fun z => absurd (i_le.mpr (by omega)) z⟩
  | succ n ih =>
    intro k i ty hk hi ht
    rw [w4_clear_L7, natc hi]
    refine ⟨fun z => absurd (i_le.mp z) (by omega), fun _ => ⟨vin (by omega) (by omega), fun j ej => ih (k + 1) j _ (by omega) (nxt hi (by omega) ej) (fun κ hκ => ?_)⟩⟩
    by_cases q : κ = k
    · rw [q, upd_eq]
    · rw [upd_ne _ _ q]; exact ht κ (by omega)
theorem ib7 {tp bo : Nat → Int32} {v1 v2 : Int32} (h1 : isR v1) (h2 : isR v2) {p q r s x y : Nat} (hp : p ≤ 1000000) (hq : q ≤ 1000000) (hr : r ≤ 1000000) (hs : s ≤ 1000000) (hx : x ≤ 100) (hy : y ≤ 100) (e1 : (tp v1.toNatClampNeg).toInt = (p : Int)) (e2 : (bo v1.toNatClampNeg).toInt = (q : Int)) (d1 : (tp v2.toNatClampNeg).toInt = (r : Int)) (d2 : (bo v2.toNatClampNeg).toInt = (s : Int)) {a b : Int32} (ha : a.toInt = (x : Int)) (hb : b.toInt = (y : Int)) {post : Int32 → Prop} (py : p * y < x * q → x * s < r * y → post 1) (pn : ¬ (p * y < x * q ∧ x * s < r * y) → post 0) : w7_isBetween tp bo v1 v2 a b post := by
  have b1 := Nat.mul_le_mul hx hq
  have b2 := Nat.mul_le_mul hp hy
  have b3 := Nat.mul_le_mul hr hy
  have b4 := Nat.mul_le_mul hx hs
  have t1 : (a.toInt64 * (bo v1.toNatClampNeg).toInt64).toInt = ((x * q : Nat) : Int) := nl_mul (by rw [t64, ha]) (by rw [t64, e2]) (by omega)
  have t2 : ((tp v1.toNatClampNeg).toInt64 * b.toInt64).toInt = ((p * y : Nat) : Int) := nl_mul (by rw [t64, e1]) (by rw [t64, hb]) (by omega)
  have t3 : ((tp v2.toNatClampNeg).toInt64 * b.toInt64).toInt = ((r * y : Nat) : Int) := nl_mul (by rw [t64, d1]) (by rw [t64, hb]) (by omega)
  have t4 : (a.toInt64 * (bo v2.toNatClampNeg).toInt64).toInt = ((x * s : Nat) : Int) := nl_mul (by rw [t64, ha]) (by rw [t64, d2]) (by omega)
  unfold w7_isBetween
  refine ⟨h1.vin, h1.vin, fun z => pn ?_, fun z => ⟨h2.vin, h2.vin, fun w => pn ?_, fun w => py ?_ ?_⟩⟩
  · have z := (nl_le t1 t2).mp z
    omega
  · have w := (nl_le t3 t4).mp w
    omega
  · have : ¬ x * q ≤ p * y := fun k => z ((nl_le t1 t2).mpr k)
    omega
  · have : ¬ r * y ≤ x * s := fun k => w ((nl_le t3 t4).mpr k)
    omega
theorem cr7_L {tp bo : Nat → Int32} {v1 v2 v3 v4 : Int32} (h1 : isR v1) (h2 : isR v2) (h3 : 0 ≤ v3.toInt ∧ v3.toInt ≤ 4) {p q r s y : Nat} (hp : p ≤ 1000000) (hq : q ≤ 1000000) (hr : r ≤ 1000000) (hs : s ≤ 1000000) (hy1 : 1 ≤ y) (hy : y ≤ 24) (e1 : (tp v1.toNatClampNeg).toInt = (p : Int)) (e2 : (bo v1.toNatClampNeg).toInt = (q : Int)) (d1 : (tp v2.toNatClampNeg).toInt = (r : Int)) (d2 : (bo v2.toNatClampNeg).toInt = (s : Int)) (hv4 : v4.toInt = (y : Int)) {post : Int32 → Int32 → (Nat → Int32) → (Nat → Int32) → (Nat → Int32) → (Nat → Int32) → (Nat → Int32) → Prop} {kb : Int32 → Int32 → Int32 → (Nat → Int32) → (Nat → Int32) → (Nat → Int32) → (Nat → Int32) → (Nat → Int32) → Prop} {ρ : RS} (hkb : ∀ (j Es Rs : Int32) (Et rT rB ks ty : Nat → Int32), j.toInt = ((y + 1 : Nat) : Int) → RC v3 ρ Rs rT rB ks ty → kb j Es Rs Et rT rB ks ty) : ∀ (n x : Nat) (i Es Rs : Int32) (Et rT rB ks ty : Nat → Int32) (σ : RS), x + n = 4 * y → 1 ≤ x → i.toInt = (x : Int) → RC v3 σ Rs rT rB ks ty → σ.1 + rCnt y n x ≤ 719 → rRow p q r s y n x σ = ρ → w7_collectRanked_L20 tp bo v1 v2 v3 v4 post kb (n + 1) i Es Rs Et rT rB ks ty := by
  have l4 : (4 : Int32).toInt = 4 := rfl
  have o1 : (1 : Int64).toInt = 1 := rfl
  have t4 : ((4 : Int32) * v4).toInt = ((4 * y : Nat) : Int) := by rw [i_mul (by rw [l4]; omega) (by rw [l4]; omega), l4, hv4]; omega
  intro n
  induction n with
  | zero =>
    intro x i Es Rs Et rT rB ks ty σ hx hx1 hi hR hroom hσ
    rw [w7_collectRanked_L20]
    refine ⟨fun _ j ej => hkb j Es Rs Et rT rB ks ty (nxt hv4 (by omega) ej) (by rw [← hσ]; exact hR), fun z => absurd (i_le.mpr (by omega)) z⟩
  | succ n ih =>
    intro x i Es Rs Et rT rB ks ty σ hx hx1 hi hR hroom hσ
    have ec : rCnt y (n + 1) x = (if Nat.gcd x y = 1 then 1 else 0) + rCnt y n (x + 1) := rfl
    rw [w7_collectRanked_L20]
    refine ⟨fun z => absurd (i_le.mp z) (by omega), fun _ => ib7 h1 h2 hp hq hr hs (by omega) (by omega) e1 e2 d1 d2 hi hv4 (fun s1 s2 => ⟨fun z => absurd z (by decide), fun _ => ?_⟩) (fun sn => ⟨fun _ j ej => ?_, fun z => absurd rfl z⟩)⟩
    · refine gcd7 (by rw [t64]; omega) (by rw [t64]; omega) (fun g hg => ?_)
      rw [t64, t64, hi, hv4, Int.toNat_natCast, Int.toNat_natCast] at hg
      refine ⟨fun z j ej => ?_, fun z => ?_⟩
      · have hn : ¬ Nat.gcd x y = 1 := fun w => z (l_ext (by rw [hg, w]; rfl))
        rw [if_neg hn] at ec
        rw [rRow_n (fun w => hn w.1)] at hσ
        exact ih (x + 1) j Es Rs Et rT rB ks ty σ (by omega) (by omega) (nxt hi (by omega) ej) hR (by omega) hσ
      · have hn : Nat.gcd x y = 1 := by rw [z, o1] at hg; omega
        rw [if_pos hn] at ec
        rw [rRow_y ⟨hn, s1, s2⟩] at hσ
        obtain ⟨N, hN, -⟩ := Kf_bnd hx1 (show x < 4 * y by omega) hy hn v3
        refine s7_measure h3 hN (by omega) hi hv4 (fun m s f hm => s4_add hR (by omega) hx1 (by omega) hy hn hi hv4 hm (fun Rs' rT' rB' ks' ty' hR' j ej => ih (x + 1) j s Rs' f rT' rB' ks' ty' (rAdd σ x y) (by omega) (by omega) (nxt hi (by omega) ej) hR' ?_ hσ))
        have e1 : (rAdd σ x y).1 = σ.1 + 1 := rfl
        omega
    · rw [rRow_n (fun w => sn ⟨w.2.1, w.2.2⟩)] at hσ
      exact ih (x + 1) j Es Rs Et rT rB ks ty σ (by omega) (by omega) (nxt hi (by omega) ej) hR (by omega) hσ
theorem cc7_L {tp bo : Nat → Int32} {v1 v2 v3 : Int32} (h1 : isR v1) (h2 : isR v2) (h3 : 0 ≤ v3.toInt ∧ v3.toInt ≤ 4) {p q r s : Nat} (hp : p ≤ 1000000) (hq : q ≤ 1000000) (hr : r ≤ 1000000) (hs : s ≤ 1000000) (e1 : (tp v1.toNatClampNeg).toInt = (p : Int)) (e2 : (bo v1.toNatClampNeg).toInt = (q : Int)) (d1 : (tp v2.toNatClampNeg).toInt = (r : Int)) (d2 : (bo v2.toNatClampNeg).toInt = (s : Int)) {post : Int32 → Int32 → (Nat → Int32) → (Nat → Int32) → (Nat → Int32) → (Nat → Int32) → (Nat → Int32) → Prop} {ρ : RS} (hpost : ∀ (Es Rs : Int32) (Et rT rB ks ty : Nat → Int32), RC v3 ρ Rs rT rB ks ty → post Es Rs Et rT rB ks ty) : ∀ (n y : Nat) (i Es Rs : Int32) (Et rT rB ks ty : Nat → Int32) (σ : RS), y + n = 25 → 1 ≤ y → i.toInt = (y : Int) → RC v3 σ Rs rT rB ks ty → σ.1 + rCn2 n y ≤ 719 → rCol p q r s n y σ = ρ → w7_collectRanked_L10 tp bo v1 v2 v3 post (n + 1) i Es Rs Et rT rB ks ty := by
  have l24 : (24 : Int32).toInt = 24 := rfl
  intro n
  induction n with
  | zero =>
    intro y i Es Rs Et rT rB ks ty σ hy hy1 hi hR hroom hσ
    rw [w7_collectRanked_L10]
    exact ⟨fun _ => hpost Es Rs Et rT rB ks ty (by rw [← hσ]; exact hR), fun z => absurd (i_lt.mpr (by omega)) z⟩
  | succ n ih =>
    intro y i Es Rs Et rT rB ks ty σ hy hy1 hi hR hroom hσ
    have ec : rCn2 (n + 1) y = rCnt y (4 * y - 1) 1 + rCn2 n (y + 1) := rfl
    have hl := rRow_len (p := p) (q := q) (r := r) (s := s) (y := y) (4 * y - 1) 1 σ
    rw [w7_collectRanked_L10]
    refine ⟨fun z => absurd (i_lt.mp z) (by omega), fun _ => ⟨4 * y - 1 + 1, cr7_L h1 h2 h3 hp hq hr hs hy1 (by omega) e1 e2 d1 d2 hi (ρ := rRow p q r s y (4 * y - 1) 1 σ) (fun j Es Rs Et rT rB ks ty hj hR' => ih (y + 1) j Es Rs Et rT rB ks ty _ (by omega) (by omega) hj hR' (by omega) hσ) (4 * y - 1) 1 1 Es Rs Et rT rB ks ty σ (by omega) (by omega) rfl hR (by omega) rfl⟩⟩
/-! the model's -/
theorem RM.add {v : Int32} {σ : RS} {m : Int32} {fr : Nat → Int32} {ks : Nat → Int64} (h : RM v σ m fr ks) (hc : σ.1 < 719) {x y : Nat} {a d : Int32} {c : Int64} (ha : a.toInt = ((1000 * x + y : Nat) : Int)) (hk : c.toInt = 1000000 * (mu v x y + 1000) + 1000 * (y : Int) + (x : Int)) (hd : d = m + 1) : RM v (rAdd σ x y) d (upd fr m.toNatClampNeg a) (vp_updL ks m.toNatClampNeg c) := by
  obtain ⟨h1, h2⟩ := h
  rw [natc h1]
  refine ⟨nxt h1 (by omega) hd, fun j hj => ?_⟩
  have hj : j < σ.1 + 1 := hj
  show (upd fr σ.1 a j).toInt = ((1000 * (if j = σ.1 then x else σ.2.1 j) + (if j = σ.1 then y else σ.2.2 j) : Nat) : Int) ∧ (vp_updL ks σ.1 c j).toInt = 1000000 * (mu v (if j = σ.1 then x else σ.2.1 j) (if j = σ.1 then y else σ.2.2 j) + 1000) + 1000 * ((if j = σ.1 then y else σ.2.2 j : Nat) : Int) + ((if j = σ.1 then x else σ.2.1 j : Nat) : Int)
  by_cases q : j = σ.1
  · have e : vp_updL ks σ.1 c j = c := if_pos q
    rw [if_pos q, if_pos q, e, q, upd_eq]; exact ⟨ha, hk⟩
  · have e : vp_updL ks σ.1 c j = ks j := if_neg q
    rw [if_neg q, if_neg q, e, upd_ne _ _ q]; exact h2 j (by omega)
theorem mr8_L {ab be : Nat → Int32} {v1 v2 v3 v4 v5 v7 : Int32} (h2 : isR v2) (h3 : isR v3) (h4 : 0 ≤ v4.toInt ∧ v4.toInt ≤ 4) {p q r s y : Nat} (hp : p ≤ 1000000) (hq : q ≤ 1000000) (hr : r ≤ 1000000) (hs : s ≤ 1000000) (hy1 : 1 ≤ y) (hy : y ≤ 24) (e1 : (ab v2.toNatClampNeg).toInt = (p : Int)) (e2 : (be v2.toNatClampNeg).toInt = (q : Int)) (d1 : (ab v3.toNatClampNeg).toInt = (r : Int)) (d2 : (be v3.toNatClampNeg).toInt = (s : Int)) (hv7 : v7.toInt = (y : Int)) {post : Int32 → Int32 → Int32 → (Nat → Int32) → (Nat → Int32) → (Nat → Int32) → (Nat → Int32) → (Nat → Int32) → (Nat → Int32) → (Nat → Int64) → Prop} {kb : Int32 → Int32 → Int32 → Int32 → (Nat → Int32) → (Nat → Int32) → (Nat → Int32) → (Nat → Int32) → (Nat → Int64) → Prop} {ρ : RS} (hkb : ∀ (m j te ru : Int32) (f g w fr : Nat → Int32) (ks : Nat → Int64), j.toInt = ((y + 1 : Nat) : Int) → RM v4 ρ m fr ks → kb m j te ru f g w fr ks) : ∀ (n x : Nat) (m i te ru : Int32) (f g w fr : Nat → Int32) (ks : Nat → Int64) (σ : RS), x + n = 4 * y → 1 ≤ x → i.toInt = (x : Int) → RM v4 σ m fr ks → σ.1 + rCnt y n x ≤ 719 → rRow p q r s y n x σ = ρ → w8_rankedBetween_L60 ab be v1 v2 v3 v4 v5 v7 post kb (n + 1) m i te ru f g w fr ks := by
  have l4 : (4 : Int32).toInt = 4 := rfl
  have l1k : (1000 : Int32).toInt = 1000 := rfl
  have o1 : (1 : Int64).toInt = 1 := rfl
  have o1k : (1000 : Int64).toInt = 1000 := rfl
  have o1m : (1000000 : Int64).toInt = 1000000 := rfl
  have t4 : ((4 : Int32) * v7).toInt = ((4 * y : Nat) : Int) := by rw [i_mul (by rw [l4]; omega) (by rw [l4]; omega), l4, hv7]; omega
  intro n
  induction n with
  | zero =>
    intro x m i te ru f g w fr ks σ hx hx1 hi hR hroom hσ
    rw [w8_rankedBetween_L60]
    refine ⟨fun _ j ej => hkb m j te ru f g w fr ks (nxt hv7 (by omega) ej) (by rw [← hσ]; exact hR), fun z => absurd (i_le.mpr (by omega)) z⟩
  | succ n ih =>
    intro x m i te ru f g w fr ks σ hx hx1 hi hR hroom hσ
    have ec : rCnt y (n + 1) x = (if Nat.gcd x y = 1 then 1 else 0) + rCnt y n (x + 1) := rfl
    have b1 := Nat.mul_le_mul (show x ≤ 100 by omega) hq
    have b2 := Nat.mul_le_mul hp (show y ≤ 100 by omega)
    have b3 := Nat.mul_le_mul hr (show y ≤ 100 by omega)
    have b4 := Nat.mul_le_mul (show x ≤ 100 by omega) hs
    have c1 : (i.toInt64 * (be v2.toNatClampNeg).toInt64).toInt = ((x * q : Nat) : Int) := nl_mul (by rw [t64, hi]) (by rw [t64, e2]) (by omega)
    have c2 : ((ab v2.toNatClampNeg).toInt64 * v7.toInt64).toInt = ((p * y : Nat) : Int) := nl_mul (by rw [t64, e1]) (by rw [t64, hv7]) (by omega)
    have c3 : ((ab v3.toNatClampNeg).toInt64 * v7.toInt64).toInt = ((r * y : Nat) : Int) := nl_mul (by rw [t64, d1]) (by rw [t64, hv7]) (by omega)
    have c4 : (i.toInt64 * (be v3.toNatClampNeg).toInt64).toInt = ((x * s : Nat) : Int) := nl_mul (by rw [t64, hi]) (by rw [t64, d2]) (by omega)
    have skip : ¬ rSel p q r s x y → ∀ j, j = i + 1 → w8_rankedBetween_L60 ab be v1 v2 v3 v4 v5 v7 post kb (n + 1) m j te ru f g w fr ks := by
      intro hn j ej
      rw [rRow_n hn] at hσ
      exact ih (x + 1) m j te ru f g w fr ks σ (by omega) (by omega) (nxt hi (by omega) ej) hR (by omega) hσ
    rw [w8_rankedBetween_L60]
    refine ⟨fun z => absurd (i_le.mp z) (by omega), fun _ => gcd8 (by rw [t64]; omega) (by rw [t64]; omega) (fun gg hg => ?_)⟩
    rw [t64, t64, hi, hv7, Int.toNat_natCast, Int.toNat_natCast] at hg
    refine ⟨fun z => skip (fun w => z (l_ext (by rw [hg, w.1]; rfl))), fun z => ⟨h2.vin, h2.vin, fun u => skip (fun w => ?_), fun u => ⟨h3.vin, h3.vin, fun k => ?_, fun k => skip (fun w => k ((nl_lt c4 c3).mpr w.2.2))⟩⟩⟩
    · have u := (nl_le c1 c2).mp u
      have := w.2.1; omega
    · have hn : Nat.gcd x y = 1 := by rw [z, o1] at hg; omega
      have s1 : p * y < x * q := by
        have : ¬ x * q ≤ p * y := fun w => u ((nl_le c1 c2).mpr w)
        omega
      have s2 := (nl_lt c4 c3).mp k
      rw [if_pos hn] at ec
      rw [rRow_y ⟨hn, s1, s2⟩] at hσ
      obtain ⟨N, hN, k1, k2, k3, k4⟩ := Kf_bnd hx1 (show x < 4 * y by omega) hy hn v4
      have hm1 := hR.1
      refine ⟨vin (by omega) (by omega), s8_measure h4 hN (by omega) hi hv7 (fun mm te' ru' f' g' w' hmm => ⟨vin (by omega) (by omega), fun m' em' j ej => ih (x + 1) m' j te' ru' f' g' w' _ _ (rAdd σ x y) (by omega) (by omega) (nxt hi (by omega) ej) (hR.add (by omega) ?_ ?_ em') ?_ hσ⟩)⟩
      · have q1 : ((1000 : Int32) * i).toInt = 1000 * (x : Int) := by rw [i_mul (by rw [l1k]; omega) (by rw [l1k]; omega), l1k, hi]
        rw [i_add (by omega) (by omega), q1, hv7]; omega
      · have q0 : (mm + 1000).toInt64.toInt = mu v4 x y + 1000 := by rw [t64, i_add (by omega) (by omega), hmm, l1k]
        have q1 : ((1000000 : Int64) * (mm + 1000).toInt64).toInt = 1000000 * (mu v4 x y + 1000) := by rw [l_mul (by rw [o1m, q0]; omega) (by rw [o1m, q0]; omega), o1m, q0]
        have q2 : ((1000 : Int64) * v7.toInt64).toInt = 1000 * (y : Int) := by rw [l_mul (by rw [o1k, t64]; omega) (by rw [o1k, t64]; omega), o1k, t64, hv7]
        have q3 : ((1000000 : Int64) * (mm + 1000).toInt64 + (1000 : Int64) * v7.toInt64).toInt = 1000000 * (mu v4 x y + 1000) + 1000 * (y : Int) := by rw [l_add (by omega) (by omega), q1, q2]
        rw [l_add (by rw [t64]; omega) (by rw [t64]; omega), q3, t64, hi]
      · have e1 : (rAdd σ x y).1 = σ.1 + 1 := rfl
        omega
theorem mc8_L {ab be : Nat → Int32} {v1 v2 v3 v4 v5 : Int32} (h2 : isR v2) (h3 : isR v3) (h4 : 0 ≤ v4.toInt ∧ v4.toInt ≤ 4) {p q r s : Nat} (hp : p ≤ 1000000) (hq : q ≤ 1000000) (hr : r ≤ 1000000) (hs : s ≤ 1000000) (e1 : (ab v2.toNatClampNeg).toInt = (p : Int)) (e2 : (be v2.toNatClampNeg).toInt = (q : Int)) (d1 : (ab v3.toNatClampNeg).toInt = (r : Int)) (d2 : (be v3.toNatClampNeg).toInt = (s : Int)) {post : Int32 → Int32 → Int32 → (Nat → Int32) → (Nat → Int32) → (Nat → Int32) → (Nat → Int32) → (Nat → Int32) → (Nat → Int32) → (Nat → Int64) → Prop} {ρ : RS} (hpost : ∀ (m te ru : Int32) (f g w fr : Nat → Int32) (ks : Nat → Int64), RM v4 ρ m fr ks → ((v5 < m → (∃ n221 : Nat, w8_rankedBetween_L221 te ru ab be f g w fr ks v1 v5 m post n221 (0 : Int32))) ∧ (¬ v5 < m → (post (-2 : Int32) te ru ab be f g w fr ks)))) : ∀ (n y : Nat) (m i te ru : Int32) (f g w fr : Nat → Int32) (ks : Nat → Int64) (σ : RS), y + n = 25 → 1 ≤ y → i.toInt = (y : Int) → RM v4 σ m fr ks → σ.1 + rCn2 n y ≤ 719 → rCol p q r s n y σ = ρ → w8_rankedBetween_L50 ab be v1 v2 v3 v4 v5 post (n + 1) m i te ru f g w fr ks := by
  have l24 : (24 : Int32).toInt = 24 := rfl
  intro n
  induction n with
  | zero =>
    intro y m i te ru f g w fr ks σ hy hy1 hi hR hroom hσ
    rw [w8_rankedBetween_L50]
    exact ⟨fun _ => hpost m te ru f g w fr ks (by rw [← hσ]; exact hR), fun z => absurd (i_lt.mpr (by omega)) z⟩
  | succ n ih =>
    intro y m i te ru f g w fr ks σ hy hy1 hi hR hroom hσ
    have ec : rCn2 (n + 1) y = rCnt y (4 * y - 1) 1 + rCn2 n (y + 1) := rfl
    have hl := rRow_len (p := p) (q := q) (r := r) (s := s) (y := y) (4 * y - 1) 1 σ
    rw [w8_rankedBetween_L50]
    refine ⟨fun z => absurd (i_lt.mp z) (by omega), fun _ => ⟨4 * y - 1 + 1, mr8_L h2 h3 h4 hp hq hr hs hy1 (by omega) e1 e2 d1 d2 hi (ρ := rRow p q r s y (4 * y - 1) 1 σ) (fun m j te ru f g w fr ks hj hR' => ih (y + 1) m j te ru f g w fr ks _ (by omega) (by omega) hj hR' (by omega) hσ) (4 * y - 1) 1 m 1 te ru f g w fr ks σ (by omega) (by omega) rfl hR (by omega) rfl⟩⟩
