/-! copies and counts -/
def cntN (b : Nat → Bool) : Nat → Nat
  | 0 => 0
  | n + 1 => cntN b n + (if b n = true then 1 else 0)
theorem cntN_congr {b c : Nat → Bool} : ∀ {n : Nat}, (∀ i, i < n → b i = c i) → cntN b n = cntN c n := by
  intro n
  induction n with
  | zero => intro _; rfl
  | succ n ih =>
    intro h
    show cntN b n + _ = cntN c n + _
    rw [ih (fun i hi => h i (by omega)), h n (by omega)]
theorem ofN_1 (n : Nat) : Int32.ofNat n + 1 = Int32.ofNat (n + 1) := (Int32.ofNat_add n 1).symm
theorem nxt {i x : Int32} {k : Nat} (h : i.toInt = (k : Int)) (hk : k < 1000000) (e : x = i + 1) : x.toInt = ((k + 1 : Nat) : Int) := by
  have l1 : (1 : Int32).toInt = 1 := rfl
  rw [e, i_add (by omega) (by omega), l1, h]; rfl
theorem natc {i : Int32} {k : Nat} (h : i.toInt = (k : Int)) : i.toNatClampNeg = k := by
  have := clamp (v := i) (by omega)
  omega
theorem nc7_L {f : Nat → Option Nat} {post : Int32 → Prop} (hp : post (Int32.ofNat (cntN (fun i => (f i).isSome) 5))) : ∀ (n k : Nat) (i : Int32), i.toInt = (k : Int) → k + n = 5 → w7_nodeCount_L4 f post (n + 1) (Int32.ofNat (cntN (fun i => (f i).isSome) k)) i := by
  have l5 : (5 : Int32).toInt = 5 := rfl
  intro n
  induction n with
  | zero =>
    intro k i hi hk
    rw [w7_nodeCount_L4]
    obtain rfl : k = 5 := by omega
    exact ⟨fun _ => hp, fun q => absurd (i_le.mpr (by omega)) q⟩
  | succ n ih =>
    intro k i hi hk
    rw [w7_nodeCount_L4]
    refine ⟨fun q => absurd (i_le.mp q) (by omega), fun _ => ⟨vin (by omega) (by omega), fun hn x ex => ?_, fun a ha x ex y ey => ?_⟩⟩
    · rw [natc hi] at hn
      have := ih (k + 1) x (nxt hi (by omega) ex) (by omega)
      rw [show cntN (fun i => (f i).isSome) (k + 1) = cntN (fun i => (f i).isSome) k + (if (f k).isSome = true then 1 else 0) from rfl, hn] at this
      exact this
    · rw [natc hi] at ha
      have := ih (k + 1) y (nxt hi (by omega) ey) (by omega)
      rw [show cntN (fun i => (f i).isSome) (k + 1) = cntN (fun i => (f i).isSome) k + (if (f k).isSome = true then 1 else 0) from rfl, ha] at this
      rw [ex, ofN_1]
      exact this
theorem nc7 {f : Nat → Option Nat} {post : Int32 → Prop} (hp : post (Int32.ofNat (cntN (fun i => (f i).isSome) 5))) : w7_nodeCount f post := ⟨_, nc7_L hp 5 0 0 rfl rfl⟩
theorem nc8_L {f : Nat → Int32} {post : Int32 → Prop} (hp : post (Int32.ofNat (cntN (fun i => decide (0 ≤ (f i).toInt)) 5))) : ∀ (n k : Nat) (i : Int32), i.toInt = (k : Int) → k + n = 5 → w8_nodes_L4 f post (n + 1) (Int32.ofNat (cntN (fun i => decide (0 ≤ (f i).toInt)) k)) i := by
  have l5 : (5 : Int32).toInt = 5 := rfl
  have l0 : (0 : Int32).toInt = 0 := rfl
  intro n
  induction n with
  | zero =>
    intro k i hi hk
    rw [w8_nodes_L4]
    obtain rfl : k = 5 := by omega
    exact ⟨fun _ => hp, fun q => absurd (i_le.mpr (by omega)) q⟩
  | succ n ih =>
    intro k i hi hk
    rw [w8_nodes_L4]
    refine ⟨fun q => absurd (i_le.mp q) (by omega), fun _ => ⟨vin (by omega) (by omega), fun hn x ex y ey => ?_, fun hn x ex y ey => ?_⟩⟩
    · rw [natc hi] at hn
      have hn := i_lt.mp hn
      have := ih (k + 1) y (nxt hi (by omega) ey) (by omega)
      rw [show cntN (fun i => decide (0 ≤ (f i).toInt)) (k + 1) = cntN (fun i => decide (0 ≤ (f i).toInt)) k + (if decide (0 ≤ (f k).toInt) = true then 1 else 0) from rfl, if_neg (by simp; omega)] at this
      rw [ex, Int32.add_zero]
      exact this
    · rw [natc hi] at hn
      have hn : ¬ (f k).toInt < 0 := fun q => hn (i_lt.mpr (by omega))
      have := ih (k + 1) y (nxt hi (by omega) ey) (by omega)
      rw [show cntN (fun i => decide (0 ≤ (f i).toInt)) (k + 1) = cntN (fun i => decide (0 ≤ (f i).toInt)) k + (if decide (0 ≤ (f k).toInt) = true then 1 else 0) from rfl, if_pos (by simp; omega)] at this
      rw [ex, ofN_1]
      exact this
theorem nc8 {f : Nat → Int32} {post : Int32 → Prop} (hp : post (Int32.ofNat (cntN (fun i => decide (0 ≤ (f i).toInt)) 5))) : w8_nodes f post := ⟨_, nc8_L hp 5 0 0 rfl rfl⟩
theorem INode.cnt {PL : List Nat} {kk tt bb : Nat → Int32} {sl : Nat → Option Nat} {ko na nb : Nat → Int32} (h : INode PL kk tt bb sl ko na nb) : cntN (fun i => (sl i).isSome) 5 = cntN (fun i => decide (0 ≤ (ko i).toInt)) 5 := by
  refine cntN_congr (fun i hi => ?_)
  rcases h i hi with ⟨n1, n2⟩ | ⟨a, n1, n2, n3, n4, n5, n6, n7⟩
  · rw [n1, n2]; rfl
  · rw [n2, n3]; simp; exact n6
def Cp {α : Type} (f g : Nat → α) (i : Nat) : Prop := ∀ k, k < i → f k = g k
theorem Cp.zero {α : Type} (f g : Nat → α) : Cp f g 0 := fun k h => absurd h (by omega)
theorem Cp.upd {f g : Nat → Int32} {i : Nat} (h : Cp f g i) : Cp (CSternBrocotExplorerLaw_law_r4187_2579a8.upd f i (g i)) g (i + 1) := fun k hk => by
  by_cases e : k = i
  · subst e; exact upd_eq _ _ _
  · rw [upd_ne _ _ e]; exact h k (by omega)
theorem Cp.up {f g : Nat → Option Nat} {i : Nat} (h : Cp f g i) : Cp (va_up f i (g i)) g (i + 1) := fun k hk => by
  by_cases e : k = i
  · subst e; exact va_up_self _ _ _
  · rw [va_up_ne _ _ e]; exact h k (by omega)
theorem IReg.cp {t b a e t' b' a' e' : Nat → Int32} (h : IReg t b a e) (h1 : Cp t' t 8) (h2 : Cp b' b 8) (h3 : Cp a' a 8) (h4 : Cp e' e 8) : IReg t' b' a' e' := fun i hi => by
  rw [h1 i hi, h2 i hi, h3 i hi, h4 i hi]; exact h i hi
theorem INode.cp {PL : List Nat} {kk tt bb : Nat → Int32} {sl sl' : Nat → Option Nat} {ko na nb ko' na' nb' : Nat → Int32} (h : INode PL kk tt bb sl ko na nb) (h1 : Cp sl' sl 5) (h2 : Cp ko' ko 5) (h3 : Cp na' na 5) (h4 : Cp nb' nb 5) : INode PL kk tt bb sl' ko' na' nb' := fun i hi => by
  rw [h1 i hi, h2 i hi, h3 i hi, h4 i hi]; exact h i hi
theorem sn7b {PL : List Nat} {hs : Int32} {sl : Nat → Option Nat} {st sb : Nat → Int32} {post : Int32 → Int32 → (Nat → Int32) → (Nat → Int32) → (Nat → Option Nat) → Prop} (hL : ∀ i, i < 5 → ∀ q, sl i = some q → q ∈ PL) (hp : ∀ ss, Cp ss sl 5 → post (Int32.ofNat (cntN (fun i => (sl i).isSome) 5)) 1 st sb ss) : ∀ (n k : Nat) (i : Int32) (ss : Nat → Option Nat), i.toInt = (k : Int) → k + n = 5 → Cp ss sl k → w7_snapshot_L40 PL hs sl st sb post (n + 1) i ss := by
  have l5 : (5 : Int32).toInt = 5 := rfl
  intro n
  induction n with
  | zero =>
    intro k i ss hi hk hc
    rw [w7_snapshot_L40]
    obtain rfl : k = 5 := by omega
    exact ⟨fun _ => nc7 (hp ss hc), fun q => absurd (i_le.mpr (by omega)) q⟩
  | succ n ih =>
    intro k i ss hi hk hc
    rw [w7_snapshot_L40]
    have hv : vp_in i 5 := vin (by omega) (by omega)
    refine ⟨fun q => absurd (i_le.mp q) (by omega), fun _ => ⟨hv, hv, fun q hq => ?_, fun x ex => ?_⟩⟩
    · rw [natc hi] at hq; exact hL k (by omega) q hq
    · rw [natc hi]; exact ih (k + 1) x _ (nxt hi (by omega) ex) (by omega) hc.up
theorem sn7a {PL : List Nat} {hs : Int32} {tp bo : Nat → Int32} {sl ss : Nat → Option Nat} {post : Int32 → Int32 → (Nat → Int32) → (Nat → Int32) → (Nat → Option Nat) → Prop} (hL : ∀ i, i < 5 → ∀ q, sl i = some q → q ∈ PL) (hp : ∀ st sb ss, Cp st tp 8 → Cp sb bo 8 → Cp ss sl 5 → post (Int32.ofNat (cntN (fun i => (sl i).isSome) 5)) 1 st sb ss) : ∀ (n k : Nat) (i : Int32) (st sb : Nat → Int32), i.toInt = (k : Int) → k + n = 8 → Cp st tp k → Cp sb bo k → w7_snapshot_L2 PL hs tp bo sl ss post (n + 1) i st sb := by
  have l8 : (8 : Int32).toInt = 8 := rfl
  intro n
  induction n with
  | zero =>
    intro k i st sb hi hk h1 h2
    rw [w7_snapshot_L2]
    obtain rfl : k = 8 := by omega
    exact ⟨fun _ => ⟨_, sn7b hL (fun ss h3 => hp st sb ss h1 h2 h3) 5 0 0 ss rfl rfl (Cp.zero _ _)⟩, fun q => absurd (i_le.mpr (by omega)) q⟩
  | succ n ih =>
    intro k i st sb hi hk h1 h2
    rw [w7_snapshot_L2]
    have hv : vp_in i 8 := vin (by omega) (by omega)
    refine ⟨fun q => absurd (i_le.mp q) (by omega), fun _ => ⟨hv, hv, hv, hv, fun x ex => ?_⟩⟩
    rw [natc hi]; exact ih (k + 1) x _ _ (nxt hi (by omega) ex) (by omega) h1.upd h2.upd
theorem sn8b {hs : Int32} {ko na nb sa se : Nat → Int32} {post : Int32 → Int32 → (Nat → Int32) → (Nat → Int32) → (Nat → Int32) → (Nat → Int32) → (Nat → Int32) → Prop} (hp : ∀ sk sna snb, Cp sk ko 5 → Cp sna na 5 → Cp snb nb 5 → post (Int32.ofNat (cntN (fun i => decide (0 ≤ (ko i).toInt)) 5)) hs sa se sk sna snb) : ∀ (n k : Nat) (i : Int32) (sk sna snb : Nat → Int32), i.toInt = (k : Int) → k + n = 5 → Cp sk ko k → Cp sna na k → Cp snb nb k → w8_snapshot_L45 hs ko na nb sa se post (n + 1) i sk sna snb := by
  have l5 : (5 : Int32).toInt = 5 := rfl
  intro n
  induction n with
  | zero =>
    intro k i sk sna snb hi hk h1 h2 h3
    rw [w8_snapshot_L45]
    obtain rfl : k = 5 := by omega
    exact ⟨fun _ => nc8 (hp _ _ _ h1 h2 h3), fun q => absurd (i_le.mpr (by omega)) q⟩
  | succ n ih =>
    intro k i sk sna snb hi hk h1 h2 h3
    rw [w8_snapshot_L45]
    have hv : vp_in i 5 := vin (by omega) (by omega)
    refine ⟨fun q => absurd (i_le.mp q) (by omega), fun _ => ⟨hv, hv, hv, hv, hv, hv, fun x ex => ?_⟩⟩
    rw [natc hi]; exact ih (k + 1) x _ _ _ (nxt hi (by omega) ex) (by omega) h1.upd h2.upd h3.upd
theorem sn8a {hs : Int32} {ab be ko na nb sk sna snb : Nat → Int32} {post : Int32 → Int32 → (Nat → Int32) → (Nat → Int32) → (Nat → Int32) → (Nat → Int32) → (Nat → Int32) → Prop} (hp : ∀ sa se sk sna snb, Cp sa ab 8 → Cp se be 8 → Cp sk ko 5 → Cp sna na 5 → Cp snb nb 5 → post (Int32.ofNat (cntN (fun i => decide (0 ≤ (ko i).toInt)) 5)) hs sa se sk sna snb) : ∀ (n k : Nat) (i : Int32) (sa se : Nat → Int32), i.toInt = (k : Int) → k + n = 8 → Cp sa ab k → Cp se be k → w8_snapshot_L7 hs ab be ko na nb sk sna snb post (n + 1) i sa se := by
  have l8 : (8 : Int32).toInt = 8 := rfl
  intro n
  induction n with
  | zero =>
    intro k i sa se hi hk h1 h2
    rw [w8_snapshot_L7]
    obtain rfl : k = 8 := by omega
    exact ⟨fun _ => ⟨_, sn8b (fun sk sna snb h3 h4 h5 => hp sa se sk sna snb h1 h2 h3 h4 h5) 5 0 0 sk sna snb rfl rfl (Cp.zero _ _) (Cp.zero _ _) (Cp.zero _ _)⟩, fun q => absurd (i_le.mpr (by omega)) q⟩
  | succ n ih =>
    intro k i sa se hi hk h1 h2
    rw [w8_snapshot_L7]
    have hv : vp_in i 8 := vin (by omega) (by omega)
    refine ⟨fun q => absurd (i_le.mp q) (by omega), fun _ => ⟨hv, hv, hv, hv, fun x ex => ?_⟩⟩
    rw [natc hi]; exact ih (k + 1) x _ _ (nxt hi (by omega) ex) (by omega) h1.upd h2.upd
theorem INode.inL {PL : List Nat} {kk tt bb : Nat → Int32} {sl : Nat → Option Nat} {ko na nb : Nat → Int32} (h : INode PL kk tt bb sl ko na nb) : ∀ i, i < 5 → ∀ q, sl i = some q → q ∈ PL := fun i hi q hq => by
  rcases h i hi with ⟨n1, n2⟩ | ⟨a, n1, n2, n3, n4, n5, n6, n7⟩
  · rw [n1] at hq; cases hq
  · rw [n2] at hq; cases hq; exact n1
theorem op_snapshot : Op_snapshot := by
  intro x_hasSnapshot x_termListSize x_textSize x_tops x_bottoms x_slots x_savedTops x_savedBottoms x_savedSlots x_termList x_text x_arraySizes x_arrays0 x_arrays1 x_arrays2 m_listed m_fed m_hasSnapshot m_above m_below m_list m_text m_kindOf m_nodeAbove m_nodeBelow m_length m_cell m_savedAbove m_savedBelow m_savedKind m_savedNodeAbove m_savedNodeBelow PL kk tt bb hI
  obtain ⟨hReg, hList, hText, hArr, hNode, hHs, hHs01, hSnap⟩ := id hI
  unfold w7_snapshot w8_snapshot
  refine ⟨_, sn7a hNode.inL (fun st sb ss h1 h2 h3 => ⟨_, sn8a (fun sa se sk sna snb g1 g2 g3 g4 g5 => ⟨by rw [hNode.cnt], hReg, hList, hText, hArr, hNode, rfl, Or.inr rfl, fun _ => ⟨hReg.cp h1 h2 g1 g2, hNode.cp h3 g3 g4 g5⟩⟩) 8 0 0 _ _ rfl rfl (Cp.zero _ _) (Cp.zero _ _)⟩) 8 0 0 _ _ rfl rfl (Cp.zero _ _) (Cp.zero _ _)⟩
theorem re7b {PL : List Nat} {sl : Nat → Option Nat} {st sb : Nat → Int32} {post : Int32 → (Nat → Int32) → (Nat → Int32) → (Nat → Option Nat) → Prop} (hL : ∀ i, i < 5 → ∀ q, sl i = some q → q ∈ PL) (hp : ∀ ss, Cp ss sl 5 → post (Int32.ofNat (cntN (fun i => (ss i).isSome) 5)) st sb ss) : ∀ (n k : Nat) (i : Int32) (ss : Nat → Option Nat), i.toInt = (k : Int) → k + n = 5 → Cp ss sl k → w7_restore_L50 PL st sb sl post (n + 1) i ss := by
  have l5 : (5 : Int32).toInt = 5 := rfl
  intro n
  induction n with
  | zero =>
    intro k i ss hi hk hc
    rw [w7_restore_L50]
    obtain rfl : k = 5 := by omega
    exact ⟨fun _ => nc7 (hp ss hc), fun q => absurd (i_le.mpr (by omega)) q⟩
  | succ n ih =>
    intro k i ss hi hk hc
    rw [w7_restore_L50]
    have hv : vp_in i 5 := vin (by omega) (by omega)
    refine ⟨fun q => absurd (i_le.mp q) (by omega), fun _ => ⟨hv, hv, fun q hq => ?_, fun x ex => ?_⟩⟩
    · rw [natc hi] at hq; exact hL k (by omega) q hq
    · rw [natc hi]; exact ih (k + 1) x _ (nxt hi (by omega) ex) (by omega) hc.up
theorem re7a {PL : List Nat} {tp bo : Nat → Int32} {sl ss : Nat → Option Nat} {post : Int32 → (Nat → Int32) → (Nat → Int32) → (Nat → Option Nat) → Prop} (hL : ∀ i, i < 5 → ∀ q, sl i = some q → q ∈ PL) (hp : ∀ st sb ss, Cp st tp 8 → Cp sb bo 8 → Cp ss sl 5 → post (Int32.ofNat (cntN (fun i => (ss i).isSome) 5)) st sb ss) : ∀ (n k : Nat) (i : Int32) (st sb : Nat → Int32), i.toInt = (k : Int) → k + n = 8 → Cp st tp k → Cp sb bo k → w7_restore_L12 PL ss tp bo sl post (n + 1) i st sb := by
  have l8 : (8 : Int32).toInt = 8 := rfl
  intro n
  induction n with
  | zero =>
    intro k i st sb hi hk h1 h2
    rw [w7_restore_L12]
    obtain rfl : k = 8 := by omega
    exact ⟨fun _ => ⟨_, re7b hL (fun ss h3 => hp st sb ss h1 h2 h3) 5 0 0 ss rfl rfl (Cp.zero _ _)⟩, fun q => absurd (i_le.mpr (by omega)) q⟩
  | succ n ih =>
    intro k i st sb hi hk h1 h2
    rw [w7_restore_L12]
    have hv : vp_in i 8 := vin (by omega) (by omega)
    refine ⟨fun q => absurd (i_le.mp q) (by omega), fun _ => ⟨hv, hv, hv, hv, fun x ex => ?_⟩⟩
    rw [natc hi]; exact ih (k + 1) x _ _ (nxt hi (by omega) ex) (by omega) h1.upd h2.upd
theorem re8b {ko na nb sa se : Nat → Int32} {post : Int32 → (Nat → Int32) → (Nat → Int32) → (Nat → Int32) → (Nat → Int32) → (Nat → Int32) → Prop} (hp : ∀ sk sna snb, Cp sk ko 5 → Cp sna na 5 → Cp snb nb 5 → post (Int32.ofNat (cntN (fun i => decide (0 ≤ (sk i).toInt)) 5)) sa se sk sna snb) : ∀ (n k : Nat) (i : Int32) (sk sna snb : Nat → Int32), i.toInt = (k : Int) → k + n = 5 → Cp sk ko k → Cp sna na k → Cp snb nb k → w8_restore_L50 sa se ko na nb post (n + 1) i sk sna snb := by
  have l5 : (5 : Int32).toInt = 5 := rfl
  intro n
  induction n with
  | zero =>
    intro k i sk sna snb hi hk h1 h2 h3
    rw [w8_restore_L50]
    obtain rfl : k = 5 := by omega
    exact ⟨fun _ => nc8 (hp _ _ _ h1 h2 h3), fun q => absurd (i_le.mpr (by omega)) q⟩
  | succ n ih =>
    intro k i sk sna snb hi hk h1 h2 h3
    rw [w8_restore_L50]
    have hv : vp_in i 5 := vin (by omega) (by omega)
    refine ⟨fun q => absurd (i_le.mp q) (by omega), fun _ => ⟨hv, hv, hv, hv, hv, hv, fun x ex => ?_⟩⟩
    rw [natc hi]; exact ih (k + 1) x _ _ _ (nxt hi (by omega) ex) (by omega) h1.upd h2.upd h3.upd
theorem re8a {ab be ko na nb sk sna snb : Nat → Int32} {post : Int32 → (Nat → Int32) → (Nat → Int32) → (Nat → Int32) → (Nat → Int32) → (Nat → Int32) → Prop} (hp : ∀ sa se sk sna snb, Cp sa ab 8 → Cp se be 8 → Cp sk ko 5 → Cp sna na 5 → Cp snb nb 5 → post (Int32.ofNat (cntN (fun i => decide (0 ≤ (sk i).toInt)) 5)) sa se sk sna snb) : ∀ (n k : Nat) (i : Int32) (sa se : Nat → Int32), i.toInt = (k : Int) → k + n = 8 → Cp sa ab k → Cp se be k → w8_restore_L12 sk sna snb ab be ko na nb post (n + 1) i sa se := by
  have l8 : (8 : Int32).toInt = 8 := rfl
  intro n
  induction n with
  | zero =>
    intro k i sa se hi hk h1 h2
    rw [w8_restore_L12]
    obtain rfl : k = 8 := by omega
    exact ⟨fun _ => ⟨_, re8b (fun sk sna snb h3 h4 h5 => hp sa se sk sna snb h1 h2 h3 h4 h5) 5 0 0 sk sna snb rfl rfl (Cp.zero _ _) (Cp.zero _ _) (Cp.zero _ _)⟩, fun q => absurd (i_le.mpr (by omega)) q⟩
  | succ n ih =>
    intro k i sa se hi hk h1 h2
    rw [w8_restore_L12]
    have hv : vp_in i 8 := vin (by omega) (by omega)
    refine ⟨fun q => absurd (i_le.mp q) (by omega), fun _ => ⟨hv, hv, hv, hv, fun x ex => ?_⟩⟩
    rw [natc hi]; exact ih (k + 1) x _ _ (nxt hi (by omega) ex) (by omega) h1.upd h2.upd
theorem op_restore : Op_restore := by
  intro x_hasSnapshot x_termListSize x_textSize x_tops x_bottoms x_slots x_savedTops x_savedBottoms x_savedSlots x_termList x_text x_arraySizes x_arrays0 x_arrays1 x_arrays2 m_listed m_fed m_hasSnapshot m_above m_below m_list m_text m_kindOf m_nodeAbove m_nodeBelow m_length m_cell m_savedAbove m_savedBelow m_savedKind m_savedNodeAbove m_savedNodeBelow PL kk tt bb hI
  obtain ⟨hReg, hList, hText, hArr, hNode, hHs, hHs01, hSnap⟩ := id hI
  unfold w7_restore w8_restore
  rw [hHs]
  rcases hHs01 with h | h
  · simp only [eq_true h, b01, b00, false_implies, true_implies, not_true_eq_false, not_false_eq_true, true_and, and_true]
    exact ⟨hReg, hList, hText, hArr, hNode, rfl, Or.inl h, hSnap⟩
  · have hne : ¬ m_hasSnapshot = 0 := by rw [h]; decide
    obtain ⟨hR, hN⟩ := hSnap hne
    refine ⟨fun _ => ⟨_, re7a hN.inL (fun st sb ss h1 h2 h3 => ⟨fun _ => ⟨_, re8a (fun sa se sk sna snb g1 g2 g3 g4 g5 => ⟨by rw [(hN.cp h3 g3 g4 g5).cnt], hR.cp h1 h2 g1 g2, hList, hText, hArr, hN.cp h3 g3 g4 g5, rfl, Or.inr h, fun _ => ⟨hR, hN⟩⟩) 8 0 0 _ _ rfl rfl (Cp.zero _ _) (Cp.zero _ _)⟩, fun q => absurd q hne⟩) 8 0 0 _ _ rfl rfl (Cp.zero _ _) (Cp.zero _ _)⟩, fun q => absurd q hne⟩
theorem ac7_L {f : Nat → Int32} {post : Int32 → Prop} (hp : post (Int32.ofNat (cntN (fun i => decide (¬ f i = -1)) 3))) : ∀ (n k : Nat) (i : Int32), i.toInt = (k : Int) → k + n = 3 → w7_arrayCount_L4 f post (n + 1) (Int32.ofNat (cntN (fun i => decide (¬ f i = -1)) k)) i := by
  have l5 : (3 : Int32).toInt = 3 := rfl
  intro n
  induction n with
  | zero =>
    intro k i hi hk
    rw [w7_arrayCount_L4]
    obtain rfl : k = 3 := by omega
    exact ⟨fun _ => hp, fun q => absurd (i_le.mpr (by omega)) q⟩
  | succ n ih =>
    intro k i hi hk
    rw [w7_arrayCount_L4]
    refine ⟨fun q => absurd (i_le.mp q) (by omega), fun _ => ⟨vin (by omega) (by omega), fun hn x ex => ?_, fun hn x ex y ey => ?_⟩⟩
    · rw [natc hi] at hn
      have := ih (k + 1) x (nxt hi (by omega) ex) (by omega)
      rw [show cntN (fun i => decide (¬ f i = -1)) (k + 1) = cntN (fun i => decide (¬ f i = -1)) k + (if decide (¬ f k = -1) = true then 1 else 0) from rfl, if_neg (by simp [hn])] at this
      exact this
    · rw [natc hi] at hn
      have := ih (k + 1) y (nxt hi (by omega) ey) (by omega)
      rw [show cntN (fun i => decide (¬ f i = -1)) (k + 1) = cntN (fun i => decide (¬ f i = -1)) k + (if decide (¬ f k = -1) = true then 1 else 0) from rfl, if_pos (by simp [hn])] at this
      rw [ex, ofN_1]
      exact this
theorem ac7 {f : Nat → Int32} {post : Int32 → Prop} (hp : post (Int32.ofNat (cntN (fun i => decide (¬ f i = -1)) 3))) : w7_arrayCount f post := ⟨_, ac7_L hp 3 0 0 rfl rfl⟩
theorem op_count : Op_count := by
  intro x_hasSnapshot x_termListSize x_textSize x_tops x_bottoms x_slots x_savedTops x_savedBottoms x_savedSlots x_termList x_text x_arraySizes x_arrays0 x_arrays1 x_arrays2 m_listed m_fed m_hasSnapshot m_above m_below m_list m_text m_kindOf m_nodeAbove m_nodeBelow m_length m_cell m_savedAbove m_savedBelow m_savedKind m_savedNodeAbove m_savedNodeBelow PL kk tt bb v1 hI
  obtain ⟨hReg, hList, hText, hArr, hNode, hHs, hHs01, hSnap⟩ := id hI
  unfold w7_count w8_count
  have l0 : (0 : Int32).toInt = 0 := rfl
  have l3 : (3 : Int32).toInt = 3 := rfl
  by_cases ho : v1.toInt < 0 ∨ 3 < v1.toInt
  · exact ⟨fun _ => ⟨fun _ => ⟨rfl, hI⟩, fun q => by subst q; exact absurd ho (by decide), fun q => by subst q; exact absurd ho (by decide), fun q => by subst q; exact absurd ho (by decide), fun q => by subst q; exact absurd ho (by decide)⟩, fun q => by subst q; exact absurd ho (by decide), fun q => by subst q; exact absurd ho (by decide), fun q => by subst q; exact absurd ho (by decide), fun q => by subst q; exact absurd ho (by decide)⟩
  rcases (show v1.toInt = 0 ∨ v1.toInt = 1 ∨ v1.toInt = 2 ∨ v1.toInt = 3 by omega) with h | h | h | h
  · obtain rfl : v1 = 0 := i_ext h
    refine ⟨fun q => absurd q ho, fun _ => ⟨fun q => absurd q ho, fun _ => ⟨hList.1, hI⟩, fun q => absurd q (by decide), fun q => absurd q (by decide), fun q => absurd q (by decide)⟩, fun q => absurd q (by decide), fun q => absurd q (by decide), fun q => absurd q (by decide)⟩
  · obtain rfl : v1 = 1 := i_ext h
    refine ⟨fun q => absurd q ho, fun q => absurd q (by decide), fun _ => ⟨fun q => absurd q ho, fun q => absurd q (by decide), fun _ => ⟨hText.1, hI⟩, fun q => absurd q (by decide), fun q => absurd q (by decide)⟩, fun q => absurd q (by decide), fun q => absurd q (by decide)⟩
  · obtain rfl : v1 = 2 := i_ext h
    refine ⟨fun q => absurd q ho, fun q => absurd q (by decide), fun q => absurd q (by decide), fun _ => nc7 ⟨fun q => absurd q ho, fun q => absurd q (by decide), fun q => absurd q (by decide), fun _ => nc8 ⟨by rw [hNode.cnt], hI⟩, fun q => absurd q (by decide)⟩, fun q => absurd q (by decide)⟩
  · obtain rfl : v1 = 3 := i_ext h
    refine ⟨fun q => absurd q ho, fun q => absurd q (by decide), fun q => absurd q (by decide), fun q => absurd q (by decide), fun _ => ac7 ⟨fun q => absurd q ho, fun q => absurd q (by decide), fun q => absurd q (by decide), fun q => absurd q (by decide), fun _ => ?_⟩⟩
    have s1 := hArr.1
    have z0 : (0 : Int32).toNatClampNeg = 0 := rfl
    have z1 : (1 : Int32).toNatClampNeg = 1 := rfl
    have z2 : (2 : Int32).toNatClampNeg = 2 := rfl
    have key : ∀ j, j < 3 → (decide (¬ x_arraySizes j = -1) = true ↔ ¬ m_length j < 0) := fun j hj => by
      obtain ⟨e1, e2, e3⟩ := s1 j hj
      rw [decide_eq_true_iff, e1, i_lt, l0]
      have lm : (-1 : Int32).toInt = -1 := rfl
      constructor
      · intro q z; exact q (i_ext (by omega))
      · intro q z; rw [z] at q; exact q (by decide)
    unfold w8_count_J61 w8_count_J75
    rw [z0, z1, z2]
    have v0 : vp_in 0 3 := by unfold vp_in; decide
    have v1 : vp_in 1 3 := by unfold vp_in; decide
    have v2 : vp_in 2 3 := by unfold vp_in; decide
    have E : cntN (fun i => decide (¬ x_arraySizes i = -1)) 3 = (if ¬ m_length 0 < 0 then 1 else 0) + (if ¬ m_length 1 < 0 then 1 else 0) + (if ¬ m_length 2 < 0 then 1 else 0) := by
      show 0 + (if decide (¬ x_arraySizes 0 = -1) = true then 1 else 0) + (if decide (¬ x_arraySizes 1 = -1) = true then 1 else 0) + (if decide (¬ x_arraySizes 2 = -1) = true then 1 else 0) = _
      rw [Nat.zero_add]
      congr 1
      · congr 1
        · by_cases q : m_length 0 < 0
          · rw [if_neg (fun z => (key 0 (by decide)).mp z q), if_neg (fun z => z q)]
          · rw [if_pos ((key 0 (by decide)).mpr q), if_pos q]
        · by_cases q : m_length 1 < 0
          · rw [if_neg (fun z => (key 1 (by decide)).mp z q), if_neg (fun z => z q)]
          · rw [if_pos ((key 1 (by decide)).mpr q), if_pos q]
      · by_cases q : m_length 2 < 0
        · rw [if_neg (fun z => (key 2 (by decide)).mp z q), if_neg (fun z => z q)]
        · rw [if_pos ((key 2 (by decide)).mpr q), if_pos q]
    rw [E]
    refine ⟨v0, fun q0 => ⟨v1, fun q1 => ⟨v2, fun q2 => ⟨?_, hI⟩, fun q2 => ⟨?_, hI⟩⟩, fun q1 => ⟨v2, fun q2 => ⟨?_, hI⟩, fun q2 => ⟨?_, hI⟩⟩⟩, fun q0 => ⟨v1, fun q1 => ⟨v2, fun q2 => ⟨?_, hI⟩, fun q2 => ⟨?_, hI⟩⟩, fun q1 => ⟨v2, fun q2 => ⟨?_, hI⟩, fun q2 => ⟨?_, hI⟩⟩⟩⟩ <;> simp only [q0, q1, q2, not_true_eq_false, not_false_eq_true, if_true, if_false] <;> decide
