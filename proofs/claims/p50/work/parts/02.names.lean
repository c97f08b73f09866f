/-! ===== BEGIN words of one list among another's, by their places ===== -/
theorem goodIn_r {big : List Cond} (ws : List Cond) (ps : List Nat) (hp : ws = ps.filterMap (fun i => big[i]?)) (h : ws.all goodWord = true) : GoodIn big ws := by
  intro w hw
  have h1 := List.all_eq_true.mp h w hw
  rw [hp] at hw
  obtain ⟨i, -, hi⟩ := List.mem_filterMap.mp hw
  have hm : w ∈ big := by first | exact List.mem_of_getElem? hi | exact List.getElem?_mem hi
  exact ⟨hm, good_of_word h1⟩
theorem goodIn_app {big a b : List Cond} (ha : GoodIn big a) (hb : GoodIn big b) : GoodIn big (a ++ b) := fun w h => (List.mem_append.mp h).elim (ha w) (hb w)
theorem goodIn_ca {big a b : List Cond} {c : Cond} (ha : GoodIn big (c :: a)) (hb : GoodIn big b) : GoodIn big (c :: (a ++ b)) := fun w h => (List.mem_cons.mp h).elim (fun e => ha w (List.mem_cons.mpr (Or.inl e))) (fun h => (List.mem_append.mp h).elim (fun h => ha w (List.mem_cons.mpr (Or.inr h))) (hb w))
theorem goodIn_sub {big ws : List Cond} (hm : ∀ w ∈ ws, w ∈ big) (h : ws.all goodWord = true) : GoodIn big ws := fun w hw => ⟨hm w hw, good_of_word (List.all_eq_true.mp h w hw)⟩
/-! ===== END ===== -/

/-! ===== BEGIN new T[n][m]: the outer array a place, the inner ones among the pooled ===== -/
/-- f, but v at every address of l -/
def vr_up {α : Type} (f : Nat → α) (l : List Nat) (v : α) : Nat → α := fun a => if a ∈ l then v else f a
theorem vr_up_in {α : Type} {f : Nat → α} {l : List Nat} {v : α} {a : Nat} (h : a ∈ l) : vr_up f l v a = v := if_pos h
theorem vr_up_ne {α : Type} {f : Nat → α} {l : List Nat} {v : α} {a : Nat} (h : a ∉ l) : vr_up f l v a = f a := if_neg h
theorem vr_rows {L l : List Nat} {f : Nat → va_E} {e : va_E} (h : ∀ a, a ∈ l → a ∉ L) : va_pl L f ++ l.map (fun a => (a, e)) = va_pl (L ++ l) (vr_up f l e) := by
  unfold va_pl
  rw [List.map_append]
  congr 1
  · apply List.map_congr_left
    intro a ha
    rw [vr_up_ne (fun q => h a q ha)]
  · apply List.map_congr_left
    intro a ha
    rw [vr_up_in ha]
theorem vr_lay {X rows : va_W} {x : Nat × va_E} {pl : va_W} {D : va_G} {cl : List vw_C} {H : Heap} (hP : va_P D cl (((X ++ pl) ++ [x]) ++ rows) H) : va_P D cl ((X ++ [x]) ++ (pl ++ rows)) H := by
  rw [List.append_assoc (X ++ pl)] at hP
  have h := va_P.swap hP
  rw [← List.append_assoc X] at h
  have h2 := va_P.swap h
  rw [List.append_assoc (X ++ [x])] at h2
  exact h2
theorem vr_layD {X rows : va_W} {x : Nat × va_E} {pl : va_W} {A : Nat → Prop} (hD : va_D A (((X ++ pl) ++ [x]) ++ rows)) : va_D A ((X ++ [x]) ++ (pl ++ rows)) := by
  rw [List.append_assoc (X ++ pl)] at hD
  have h := va_D.swap hD
  rw [← List.append_assoc X] at h
  have h2 := va_D.swap h
  rw [List.append_assoc (X ++ [x])] at h2
  exact h2
theorem vr_outer (c : ClassId) (N h0 : Nat) : ∀ i : Nat, Jvm.Free.Multi.outerC c N h0 i = arrV c N (fun j => va_rf (if j < i then some (h0 + 1 + j) else none))
  | 0 => by
    show ({ cls := c, slots := Array.replicate N .null, vm := .none } : Cell) = _
    rw [arrV_new]
    refine congrArg (arrV c N) (funext fun j => ?_)
    simp [va_rf]
  | i + 1 => by
    show (Jvm.Free.Multi.outerC c N h0 i).setSlot i (.ref (h0 + 1 + i)) = _
    rw [vr_outer c N h0 i, arrV_store]
    refine congrArg (arrV c N) (funext fun j => ?_)
    by_cases e : j = i
    · subst e
      simp [updV, va_rf]
    · by_cases h : j < i
      · simp [updV, e, h, Nat.lt_succ_of_lt h]
      · simp [updV, e, h, show ¬ j < i + 1 by omega]
section VGM
variable {p : Program} {l : Launch} {e : Env} {R : Room} {s : State} {m : MethodId} {args : Array Value} {below : List Frame} {meth : Method} {c : Code} {H : Heap} {locs : List Loc} {cells slots : Nat} {Q : State → Prop}
variable {cc : ByteArray} {pc : Nat} {ls : Array Slot} {rest : List Value} {D : va_G} {cl : List vw_C} {A : Nat → Prop} {a : Nat} {tys : List (ClassId × FieldType)} {ws : va_W} {H0 : Heap}
theorem va_mna {X : va_W} {L : List Nat} {f : Nat → va_E} {cc : ByteArray} (hexec : p.tables.exec = Jvm.exec) (hb : c.code = cc) {own : String} {index : Nat} {ty : FieldType} {cy : ClassId} (hown : s.vm.findClass own = some m.cls) (hclink : (Cond.classLink own index ("[" ++ (FieldType.array ty).toString)).before args s = true) (hover : va_AOA ty s) (harr : (Cond.arrayClass ty).before args s = true) (hcy : s.vm.findClass (FieldType.array ty).toString = some cy)
    (hK : va_K D cl tys s) (hP : va_P D cl (X ++ va_pl L f) H) (hD : va_D A (X ++ va_pl L f)) (hS : va_S A H0 H locs) (hA : ∀ q, H0.size ≤ q → A q) {n k : Int32} {N' K' : Nat} {z : vp_A} (hn : ¬ n < 0) (hk : ¬ k < 0) (hN : n.toNatClampNeg = N') (hM : k.toNatClampNeg = K')
    (hb1 : N' * 4 ≤ 536870912) (hb2 : K' * componentBytes ty ≤ 536870912) (hb3 : K' ≤ 536870912) (hdf : fits ty (defaultValue ty) = true) (hdd : (defaultValue ty).isDefault = true) (hcells : cells + (1 + N') ≤ R.cells) (hslots : slots + (N' + N' * K') ≤ R.slots) (hz : ∀ c : ClassId, Jvm.Free.Multi.innerC c K' (defaultValue ty) = vp_cell c z) (hdg : decode cc pc = .ok (.multianewarray index 2, 4))
    (kk : ∀ (q : Nat) (r : Nat → Nat) (cA : ClassId) (H1 : Heap), (∀ i j : Nat, i < N' → j < N' → r i = r j → i = j) → (∀ i : Nat, i < N' → r i ∉ L) → va_K D cl (tys ++ [(cA, .array ty)]) s →
      va_P D cl ((X ++ [(q, .inl (cA, N', .inr (.inr (.inr (.inr (fun i => if i < N' then some (r i) else none))))))]) ++ va_pl (L ++ (List.range N').map r) (vr_up f ((List.range N').map r) (.inl (cy, z)))) H1 → va_D A ((X ++ [(q, .inl (cA, N', .inr (.inr (.inr (.inr (fun i => if i < N' then some (r i) else none))))))]) ++ va_pl (L ++ (List.range N').map r) (vr_up f ((List.range N').map r) (.inl (cy, z)))) → va_S A H0 H1 locs →
      W p l e R s m args below meth c H1 locs (cells + 1 + N') (slots + N' + N' * K') Q (F0 m (pc + 4) ls (.ref q :: rest))) : W p l e R s m args below meth c H locs cells slots Q (F0 m pc ls (.int k :: .int n :: rest)) := by
  subst hN
  subst hM
  intro T hT Xs
  obtain ⟨vm₁, cA, comp, -, fA, fC, hO, -, X', step⟩ := Xs.multianewarray2F hexec hown hclink (va_AOA.use hover) harr (g := F0 m pc ls (.int k :: .int n :: rest)) rfl (by rw [hb]; exact hdg) rfl hn hk hb1 hb2 hb3 hdf hdd hcells hslots
  have ec : some cy = some comp := hcy.symm.trans fC
  cases ec
  generalize hF : Jvm.Free.Multi.fill (T.setVm vm₁) cA cy n.toNatClampNeg k.toNatClampNeg (defaultValue ty) n.toNatClampNeg = F at X' step
  have hTh : (T.setVm vm₁).heap = H := hT
  obtain ⟨f1, f2, -, -⟩ := Jvm.Free.Multi.fill_facts (T.setVm vm₁) cA cy n.toNatClampNeg k.toNatClampNeg (defaultValue ty) n.toNatClampNeg
  rw [hF, hTh] at f1 f2
  have hold : ∀ x : Nat, x < H.size → F.heap[x]? = H[x]? := fun x hx => by
    have := Jvm.Free.Multi.fill_old (T.setVm vm₁) cA cy n.toNatClampNeg k.toNatClampNeg (defaultValue ty) (a := x) (by rw [hTh]; exact hx) n.toNatClampNeg
    rw [hF, hTh] at this
    exact this
  have hrow : ∀ j : Nat, j < n.toNatClampNeg → F.heap[H.size + 1 + j]? = some (vp_cell cy z) := fun j hj => by
    have := Jvm.Free.Multi.fill_inner (T.setVm vm₁) cA cy n.toNatClampNeg k.toNatClampNeg (defaultValue ty) n.toNatClampNeg j hj
    rw [hF, hTh, hz] at this
    exact this
  have hout : Jvm.Free.Multi.outerC cA n.toNatClampNeg H.size n.toNatClampNeg = vp_cell cA (n.toNatClampNeg, .inr (.inr (.inr (.inr (fun i => if i < n.toNatClampNeg then some (H.size + 1 + i) else none))))) := by
    rw [vp_cell_q]
    exact vr_outer cA n.toNatClampNeg H.size n.toNatClampNeg
  rw [hout] at f2
  have hlt : ∀ a, a ∈ L → a < H.size := fun a ha => by
    obtain ⟨k9, hk9⟩ := va_pl_get (X := X) (f := f) ha
    exact (hP k9 _ hk9).lt
  have hnl : ∀ i : Nat, i < n.toNatClampNeg → H.size + 1 + i ∉ L := fun i _ h => by
    have := hlt _ h
    omega
  have hnm : ∀ a, a ∈ (List.range n.toNatClampNeg).map (fun i => H.size + 1 + i) → a ∉ L := fun a ha h => by
    obtain ⟨i, -, rfl⟩ := List.mem_map.mp ha
    have := hlt _ h
    omega
  have hP0 : va_P D cl (X ++ va_pl L f) F.heap := hP.kept (fun k9 x hx => hold x.1 ((hP k9 x hx).lt))
  have hP1 : va_P D cl ((X ++ va_pl L f) ++ [(H.size, .inl (cA, n.toNatClampNeg, .inr (.inr (.inr (.inr (fun i => if i < n.toNatClampNeg then some (H.size + 1 + i) else none))))))]) F.heap := hP0.app (fun k9 x hx => by
    have h0 : k9 < 1 := (List.getElem?_eq_some_iff.mp hx).1
    rw [show k9 = 0 by omega] at hx
    cases hx
    exact f2)
  have hP2 : va_P D cl (((X ++ va_pl L f) ++ [(H.size, .inl (cA, n.toNatClampNeg, .inr (.inr (.inr (.inr (fun i => if i < n.toNatClampNeg then some (H.size + 1 + i) else none))))))]) ++ ((List.range n.toNatClampNeg).map (fun i => H.size + 1 + i)).map (fun a => (a, .inl (cy, z)))) F.heap := hP1.app (fun k9 x hx => by
    obtain ⟨a, ha, rfl⟩ := List.mem_map.mp (List.mem_of_getElem? hx)
    obtain ⟨i, hi, rfl⟩ := List.mem_map.mp ha
    exact hrow i (List.mem_range.mp hi))
  have hD2 : va_D A (((X ++ va_pl L f) ++ [(H.size, .inl (cA, n.toNatClampNeg, .inr (.inr (.inr (.inr (fun i => if i < n.toNatClampNeg then some (H.size + 1 + i) else none))))))]) ++ ((List.range n.toNatClampNeg).map (fun i => H.size + 1 + i)).map (fun a => (a, .inl (cy, z)))) := by
    have hD1 := hD.push (e := .inl (cA, n.toNatClampNeg, .inr (.inr (.inr (.inr (fun i => if i < n.toNatClampNeg then some (H.size + 1 + i) else none)))))) hP rfl (hA _ hS.1)
    generalize hW1 : (X ++ va_pl L f) ++ [(H.size, .inl (cA, n.toNatClampNeg, .inr (.inr (.inr (.inr (fun i => if i < n.toNatClampNeg then some (H.size + 1 + i) else none))))))] = W1 at hD1 hP1 ⊢
    have hle : ∀ (k9 : Nat) (x : Nat × va_E), W1[k9]? = some x → x.1 ≤ H.size := fun k9 x hx => by
      rw [← hW1] at hx
      by_cases hl : k9 < (X ++ va_pl L f).length
      · rw [List.getElem?_append_left hl] at hx
        exact Nat.le_of_lt ((hP k9 x hx).lt)
      · rw [List.getElem?_append_right (by omega)] at hx
        have h0 : k9 - (X ++ va_pl L f).length < 1 := (List.getElem?_eq_some_iff.mp hx).1
        rw [show k9 - (X ++ va_pl L f).length = 0 by omega] at hx
        cases hx
        exact Nat.le_refl _
    have hr : ∀ (k9 : Nat) (x : Nat × va_E), (((List.range n.toNatClampNeg).map (fun i => H.size + 1 + i)).map (fun a => ((a, .inl (cy, z)) : Nat × va_E)))[k9]? = some x → x.1 = H.size + 1 + k9 := fun k9 x hx => by
      rw [List.getElem?_map, List.getElem?_map] at hx
      by_cases h9 : k9 < n.toNatClampNeg
      · rw [List.getElem?_range h9] at hx
        cases hx
        rfl
      · have hn0 : (List.range n.toNatClampNeg)[k9]? = none := List.getElem?_eq_none (by rw [List.length_range]; omega)
        rw [hn0] at hx
        cases hx
    refine ⟨fun i j x y hi hj hxy => ?_, fun k9 x hx => ?_⟩
    · by_cases h1 : i < W1.length <;> by_cases h2 : j < W1.length
      · rw [List.getElem?_append_left h1] at hi
        rw [List.getElem?_append_left h2] at hj
        exact hD1.1 i j x y hi hj hxy
      · rw [List.getElem?_append_left h1] at hi
        rw [List.getElem?_append_right (by omega)] at hj
        have := hle _ _ hi
        have := hr _ _ hj
        omega
      · rw [List.getElem?_append_right (by omega)] at hi
        rw [List.getElem?_append_left h2] at hj
        have := hle _ _ hj
        have := hr _ _ hi
        omega
      · rw [List.getElem?_append_right (by omega)] at hi hj
        have := hr _ _ hi
        have := hr _ _ hj
        omega
    · by_cases h1 : k9 < W1.length
      · rw [List.getElem?_append_left h1] at hx
        exact hD1.2 k9 x hx
      · rw [List.getElem?_append_right (by omega)] at hx
        have := hr _ _ hx
        exact hA _ (by have := hS.1; omega)
  have hAr : ArrOfT s cA (.array ty) := fun N9 z9 => by
    obtain ⟨-, k9, hk9, cm9, hkk9⟩ := (hO 0 0 0).1
    exact ⟨(fun q hq => by cases hq), k9, hk9, cm9, hkk9⟩
  have hK2 : va_K D cl (tys ++ [(cA, .array ty)]) s := ⟨hK.1, fun k9 x hx => by
    by_cases hl : k9 < tys.length
    · rw [List.getElem?_append_left hl] at hx
      exact hK.2 k9 x hx
    · rw [List.getElem?_append_right (by omega)] at hx
      have h0 : k9 - tys.length < 1 := (List.getElem?_eq_some_iff.mp hx).1
      rw [show k9 - tys.length = 0 by omega] at hx
      cases hx
      exact ⟨hAr, fA⟩⟩
  obtain ⟨t, a1, b1⟩ := kk H.size (fun i => H.size + 1 + i) cA F.heap (fun i j _ _ h => by have h9 : H.size + 1 + i = H.size + 1 + j := h; omega) hnl hK2 (by rw [← vr_rows hnm]; exact vr_lay hP2) (by rw [← vr_rows hnm]; exact vr_layD hD2) ⟨by rw [f1]; have := hS.1; omega, fun x h1 h2 => (hold x (Nat.lt_of_lt_of_le h1 hS.1)).trans (hS.2.1 x h1 h2), hS.2.2⟩ F rfl X'
  refine ⟨t, step t ?_, b1⟩
  have e : T.heap.size = H.size := by rw [hT]
  rw [e]
  exact a1
end VGM
/-! ===== END ===== -/

/-! ===== BEGIN printed: names, fields, word lists, decode rows ===== -/
def RX0 : String := "SternBrocotExplorer$Branch"
def TX0 : u_T := fun k => match k with
  | _ => ("", "", "", false)
def tyX0 : Nat → FieldType := fun k => match k with
  | _ => .int
abbrev wsX00 : List Cond := u_ws RX0 TX0 0
theorem nmX0 : ∀ a, a < 0 → ∀ b, b < 0 → a ≠ b → (TX0 a).2.1 ≠ (TX0 b).2.1 := by decide +kernel
theorem tyX0_ok : ∀ k, k < 0 → parseFieldDescriptor (TX0 k).2.2.1 = some (tyX0 k) := by decide +kernel
def RX1 : String := "SternBrocotExplorer$Expansion"
def TX1 : u_T := fun k => match k with
  | 0 => ("SternBrocotExplorer$Expansion", "terms", "[I", true)
  | 1 => ("SternBrocotExplorer$Expansion", "size", "I", false)
  | 2 => ("SternBrocotExplorer$Expansion", "leftTop", "J", false)
  | 3 => ("SternBrocotExplorer$Expansion", "leftBottom", "J", false)
  | 4 => ("SternBrocotExplorer$Expansion", "rightTop", "J", false)
  | _ => ("SternBrocotExplorer$Expansion", "rightBottom", "J", false)
def tyX1 : Nat → FieldType := fun k => match k with
  | 0 => .array .int
  | 1 => .int
  | 2 => .long
  | 3 => .long
  | 4 => .long
  | _ => .long
abbrev wsX10 : List Cond := u_ws RX1 TX1 6
theorem nmX1 : ∀ a, a < 6 → ∀ b, b < 6 → a ≠ b → (TX1 a).2.1 ≠ (TX1 b).2.1 := by decide +kernel
theorem tyX1_ok : ∀ k, k < 6 → parseFieldDescriptor (TX1 k).2.2.1 = some (tyX1 k) := by decide +kernel
abbrev cX1_init : ByteArray := prog_3_method_1_code
def yX1_init : MethodName := ⟨RX1, "<init>", "()V"⟩
abbrev cX1_expand : ByteArray := prog_3_method_2_code
def yX1_expand : MethodName := ⟨RX1, "expand", "(II)V"⟩
abbrev cX1_becomeSimplestBetween : ByteArray := prog_3_method_3_code
def yX1_becomeSimplestBetween : MethodName := ⟨RX1, "becomeSimplestBetween", "(IIII)V"⟩
abbrev cX1_append : ByteArray := prog_3_method_4_code
def yX1_append : MethodName := ⟨RX1, "append", "(I)V"⟩
abbrev cX1_size : ByteArray := prog_3_method_5_code
def yX1_size : MethodName := ⟨RX1, "size", "()I"⟩
abbrev cX1_at : ByteArray := prog_3_method_6_code
def yX1_at : MethodName := ⟨RX1, "at", "(I)I"⟩
abbrev cX1_runAt : ByteArray := prog_3_method_8_code
def yX1_runAt : MethodName := ⟨RX1, "runAt", "(I)I"⟩
abbrev cX1_stepCount : ByteArray := prog_3_method_9_code
def yX1_stepCount : MethodName := ⟨RX1, "stepCount", "()I"⟩
abbrev cX1_commonSteps : ByteArray := prog_3_method_11_code
def yX1_commonSteps : MethodName := ⟨RX1, "commonSteps", "(LSternBrocotExplorer$Expansion;)I"⟩
abbrev cX1_cutToDepth : ByteArray := prog_3_method_12_code
def yX1_cutToDepth : MethodName := ⟨RX1, "cutToDepth", "(I)V"⟩
abbrev cX1_convergentTop : ByteArray := prog_3_method_13_code
def yX1_convergentTop : MethodName := ⟨RX1, "convergentTop", "(I)J"⟩
abbrev cX1_convergentBottom : ByteArray := prog_3_method_14_code
def yX1_convergentBottom : MethodName := ⟨RX1, "convergentBottom", "(I)J"⟩
abbrev cX1_lastByRule : ByteArray := prog_3_method_15_code
def yX1_lastByRule : MethodName := ⟨RX1, "lastByRule", "(IJJ)J"⟩
def RX2 : String := "SternBrocotExplorer$Leaf"
def TX2 : u_T := fun k => match k with
  | _ => ("", "", "", false)
def tyX2 : Nat → FieldType := fun k => match k with
  | _ => .int
abbrev wsX20 : List Cond := u_ws RX2 TX2 0
theorem nmX2 : ∀ a, a < 0 → ∀ b, b < 0 → a ≠ b → (TX2 a).2.1 ≠ (TX2 b).2.1 := by decide +kernel
theorem tyX2_ok : ∀ k, k < 0 → parseFieldDescriptor (TX2 k).2.2.1 = some (tyX2 k) := by decide +kernel
def RX3 : String := "SternBrocotExplorer$Node"
def TX3 : u_T := fun k => match k with
  | _ => ("", "", "", false)
def tyX3 : Nat → FieldType := fun k => match k with
  | _ => .int
abbrev wsX30 : List Cond := u_ws RX3 TX3 0
theorem nmX3 : ∀ a, a < 0 → ∀ b, b < 0 → a ≠ b → (TX3 a).2.1 ≠ (TX3 b).2.1 := by decide +kernel
theorem tyX3_ok : ∀ k, k < 0 → parseFieldDescriptor (TX3 k).2.2.1 = some (tyX3 k) := by decide +kernel
def RX4 : String := "SternBrocotExplorer$Ranking"
def TX4 : u_T := fun k => match k with
  | 0 => ("SternBrocotExplorer$Ranking", "rankedTops", "[I", true)
  | 1 => ("SternBrocotExplorer$Ranking", "rankedBottoms", "[I", true)
  | 2 => ("SternBrocotExplorer$Ranking", "keys", "[I", true)
  | 3 => ("SternBrocotExplorer$Ranking", "tally", "[I", true)
  | _ => ("SternBrocotExplorer$Ranking", "size", "I", false)
def tyX4 : Nat → FieldType := fun k => match k with
  | 0 => .array .int
  | 1 => .array .int
  | 2 => .array .int
  | 3 => .array .int
  | _ => .int
abbrev wsX40 : List Cond := u_ws RX4 TX4 5
theorem nmX4 : ∀ a, a < 5 → ∀ b, b < 5 → a ≠ b → (TX4 a).2.1 ≠ (TX4 b).2.1 := by decide +kernel
theorem tyX4_ok : ∀ k, k < 5 → parseFieldDescriptor (TX4 k).2.2.1 = some (tyX4 k) := by decide +kernel
abbrev cX4_init : ByteArray := prog_6_method_1_code
def yX4_init : MethodName := ⟨RX4, "<init>", "()V"⟩
def RX5 : String := "SternBrocotExplorer$Root"
def TX5 : u_T := fun k => match k with
  | _ => ("", "", "", false)
def tyX5 : Nat → FieldType := fun k => match k with
  | _ => .int
abbrev wsX50 : List Cond := u_ws RX5 TX5 0
theorem nmX5 : ∀ a, a < 0 → ∀ b, b < 0 → a ≠ b → (TX5 a).2.1 ≠ (TX5 b).2.1 := by decide +kernel
theorem tyX5_ok : ∀ k, k < 0 → parseFieldDescriptor (TX5 k).2.2.1 = some (tyX5 k) := by decide +kernel
def RX6 : String := "SternBrocotExplorer$Twig"
def TX6 : u_T := fun k => match k with
  | _ => ("", "", "", false)
def tyX6 : Nat → FieldType := fun k => match k with
  | _ => .int
abbrev wsX60 : List Cond := u_ws RX6 TX6 0
theorem nmX6 : ∀ a, a < 0 → ∀ b, b < 0 → a ≠ b → (TX6 a).2.1 ≠ (TX6 b).2.1 := by decide +kernel
theorem tyX6_ok : ∀ k, k < 0 → parseFieldDescriptor (TX6 k).2.2.1 = some (tyX6 k) := by decide +kernel
def RX7 : String := "SternBrocotExplorer"
def TX7 : u_T := fun k => match k with
  | 0 => ("SternBrocotExplorer", "tops", "[I", true)
  | 1 => ("SternBrocotExplorer", "bottoms", "[I", true)
  | 2 => ("SternBrocotExplorer", "slots", "[LSternBrocotExplorer$Node;", true)
  | 3 => ("SternBrocotExplorer", "savedTops", "[I", true)
  | 4 => ("SternBrocotExplorer", "savedBottoms", "[I", true)
  | 5 => ("SternBrocotExplorer", "savedSlots", "[LSternBrocotExplorer$Node;", true)
  | 6 => ("SternBrocotExplorer", "hasSnapshot", "Z", false)
  | 7 => ("SternBrocotExplorer", "termList", "[I", true)
  | 8 => ("SternBrocotExplorer", "termListSize", "I", false)
  | 9 => ("SternBrocotExplorer", "text", "[I", true)
  | 10 => ("SternBrocotExplorer", "textSize", "I", false)
  | 11 => ("SternBrocotExplorer", "arrays", "[[I", true)
  | 12 => ("SternBrocotExplorer", "arraySizes", "[I", true)
  | 13 => ("SternBrocotExplorer", "expansion", "LSternBrocotExplorer$Expansion;", true)
  | 14 => ("SternBrocotExplorer", "otherExpansion", "LSternBrocotExplorer$Expansion;", true)
  | _ => ("SternBrocotExplorer", "ranking", "LSternBrocotExplorer$Ranking;", true)
def tyX7 : Nat → FieldType := fun k => match k with
  | 0 => .array .int
  | 1 => .array .int
  | 2 => .array (.object "SternBrocotExplorer$Node")
  | 3 => .array .int
  | 4 => .array .int
  | 5 => .array (.object "SternBrocotExplorer$Node")
  | 6 => .boolean
  | 7 => .array .int
  | 8 => .int
  | 9 => .array .int
  | 10 => .int
  | 11 => .array (.array .int)
  | 12 => .array .int
  | 13 => .object "SternBrocotExplorer$Expansion"
  | 14 => .object "SternBrocotExplorer$Expansion"
  | _ => .object "SternBrocotExplorer$Ranking"
abbrev wsX70 : List Cond := u_ws RX7 TX7 16
theorem nmX7 : ∀ a, a < 16 → ∀ b, b < 16 → a ≠ b → (TX7 a).2.1 ≠ (TX7 b).2.1 := by decide +kernel
theorem tyX7_ok : ∀ k, k < 16 → parseFieldDescriptor (TX7 k).2.2.1 = some (tyX7 k) := by decide +kernel
abbrev cX7_init : ByteArray := prog_1_method_1_code
def yX7_init : MethodName := ⟨RX7, "<init>", "()V"⟩
abbrev cX7_set : ByteArray := prog_1_method_2_code
def yX7_set : MethodName := ⟨RX7, "set", "(III)I"⟩
abbrev cX7_compare : ByteArray := prog_1_method_5_code
def yX7_compare : MethodName := ⟨RX7, "compare", "(II)I"⟩
abbrev cX7_depth : ByteArray := prog_1_method_8_code
def yX7_depth : MethodName := ⟨RX7, "depth", "(I)I"⟩
abbrev cX7_commonAncestor : ByteArray := prog_1_method_15_code
def yX7_commonAncestor : MethodName := ⟨RX7, "commonAncestor", "(III)I"⟩
abbrev cX7_simplestBetween : ByteArray := prog_1_method_23_code
def yX7_simplestBetween : MethodName := ⟨RX7, "simplestBetween", "(III)I"⟩
abbrev cX7_isIn : ByteArray := prog_1_method_49_code
def yX7_isIn : MethodName := ⟨RX7, "isIn", "(III)Z"⟩
abbrev cX7_isRegister : ByteArray := prog_1_method_50_code
def yX7_isRegister : MethodName := ⟨RX7, "isRegister", "(I)Z"⟩
abbrev cX7_quotient : ByteArray := prog_1_method_54_code
def yX7_quotient : MethodName := ⟨RX7, "quotient", "(JJ)J"⟩
abbrev cX7_gcd : ByteArray := prog_1_method_56_code
def yX7_gcd : MethodName := ⟨RX7, "gcd", "(JJ)J"⟩
abbrev cX7_crossDifference : ByteArray := prog_1_method_59_code
def yX7_crossDifference : MethodName := ⟨RX7, "crossDifference", "(II)J"⟩
abbrev cX7_store : ByteArray := prog_1_method_60_code
def yX7_store : MethodName := ⟨RX7, "store", "(IJJ)I"⟩
abbrev cX7_storeConvergent : ByteArray := prog_1_method_61_code
def yX7_storeConvergent : MethodName := ⟨RX7, "storeConvergent", "(ILSternBrocotExplorer$Expansion;I)I"⟩
abbrev cX7_expand : ByteArray := prog_1_method_62_code
def yX7_expand : MethodName := ⟨RX7, "expand", "(I)LSternBrocotExplorer$Expansion;"⟩
def RX8 : String := "SternBrocotExplorerModel"
def TX8 : u_T := fun k => match k with
  | _ => ("", "", "", false)
def tyX8 : Nat → FieldType := fun k => match k with
  | _ => .int
abbrev wsX80 : List Cond := u_ws RX8 TX8 0
theorem nmX8 : ∀ a, a < 0 → ∀ b, b < 0 → a ≠ b → (TX8 a).2.1 ≠ (TX8 b).2.1 := by decide +kernel
theorem tyX8_ok : ∀ k, k < 0 → parseFieldDescriptor (TX8 k).2.2.1 = some (tyX8 k) := by decide +kernel
def RL : String := "SternBrocotExplorerLaw"
abbrev cL_stirred : ByteArray := method_2_code
def yL_stirred : MethodName := ⟨RL, "stirred", "([I)I"⟩
abbrev cL_cell : ByteArray := method_3_code
def yL_cell : MethodName := ⟨RL, "cell", "([II)I"⟩
abbrev cL_some : ByteArray := method_4_code
def yL_some : MethodName := ⟨RL, "some", "([III)I"⟩
abbrev cL_size : ByteArray := method_5_code
def yL_size : MethodName := ⟨RL, "size", "([II)I"⟩
abbrev cL_fills : ByteArray := method_6_code
def yL_fills : MethodName := ⟨RL, "fills", "(LSternBrocotExplorer;I[II)Z"⟩
abbrev cL_law : ByteArray := code
def yL_law : MethodName := ⟨RL, "law", "([I)Z"⟩
def wsX1_init : List Cond := .code yX1_init cX1_init 1 none :: ([.methodLink RX1 3 objectInit, .instanceMethod objectInit, .code objectInit ⟨#[0xb1]⟩ 1 none, .arrayClass .int, .fieldLink RX1 9 "SternBrocotExplorer$Expansion" "terms" "[I"] ++ wsX10)
def wsX1_append : List Cond := .code yX1_append cX1_append 2 none :: ([.fieldLink RX1 15 "SternBrocotExplorer$Expansion" "size" "I", .fieldLink RX1 9 "SternBrocotExplorer$Expansion" "terms" "[I"] ++ wsX10)
def wsX1_expand : List Cond := .code yX1_expand cX1_expand 7 none :: ([.fieldLink RX1 15 "SternBrocotExplorer$Expansion" "size" "I", .methodLink RX1 19 yX1_append, .instanceMethod yX1_append, .selects RX1 yX1_append yX1_append, .initialized RX1, .code yX1_append cX1_append 2 none, .fieldLink RX1 9 "SternBrocotExplorer$Expansion" "terms" "[I"] ++ wsX10)
def wsX7_quotient : List Cond := .code yX7_quotient cX7_quotient 4 (some .long) :: ([])
def wsX1_becomeSimplestBetween : List Cond := .code yX1_becomeSimplestBetween cX1_becomeSimplestBetween 20 none :: ([.fieldLink RX1 15 "SternBrocotExplorer$Expansion" "size" "I", .static yX7_quotient, .initialized RX7, .code yX7_quotient cX7_quotient 4 (some .long), .methodLink RX1 19 yX1_append, .instanceMethod yX1_append, .selects RX1 yX1_append yX1_append, .initialized RX1, .code yX1_append cX1_append 2 none, .fieldLink RX1 9 "SternBrocotExplorer$Expansion" "terms" "[I"] ++ wsX10)
def wsX1_size : List Cond := .code yX1_size cX1_size 1 (some .int) :: ([.fieldLink RX1 15 "SternBrocotExplorer$Expansion" "size" "I"] ++ wsX10)
def wsX1_at : List Cond := .code yX1_at cX1_at 2 (some .int) :: ([.fieldLink RX1 15 "SternBrocotExplorer$Expansion" "size" "I", .fieldLink RX1 9 "SternBrocotExplorer$Expansion" "terms" "[I"] ++ wsX10)
def wsX1_runAt : List Cond := .code yX1_runAt cX1_runAt 2 (some .int) :: ([.fieldLink RX1 15 "SternBrocotExplorer$Expansion" "size" "I", .methodLink RX1 27 yX1_at, .instanceMethod yX1_at, .selects RX1 yX1_at yX1_at, .initialized RX1, .code yX1_at cX1_at 2 (some .int), .fieldLink RX1 9 "SternBrocotExplorer$Expansion" "terms" "[I"] ++ wsX10)
def wsX1_stepCount : List Cond := .code yX1_stepCount cX1_stepCount 3 (some .int) :: ([.fieldLink RX1 15 "SternBrocotExplorer$Expansion" "size" "I", .methodLink RX1 31 yX1_runAt, .instanceMethod yX1_runAt, .selects RX1 yX1_runAt yX1_runAt, .initialized RX1, .code yX1_runAt cX1_runAt 2 (some .int), .methodLink RX1 27 yX1_at, .instanceMethod yX1_at, .selects RX1 yX1_at yX1_at, .code yX1_at cX1_at 2 (some .int), .fieldLink RX1 9 "SternBrocotExplorer$Expansion" "terms" "[I"] ++ wsX10)
def wsX1_commonSteps : List Cond := .code yX1_commonSteps cX1_commonSteps 6 (some .int) :: ([.fieldLink RX1 15 "SternBrocotExplorer$Expansion" "size" "I", .methodLink RX1 31 yX1_runAt, .instanceMethod yX1_runAt, .selects RX1 yX1_runAt yX1_runAt, .initialized RX1, .code yX1_runAt cX1_runAt 2 (some .int), .methodLink RX1 27 yX1_at, .instanceMethod yX1_at, .selects RX1 yX1_at yX1_at, .code yX1_at cX1_at 2 (some .int), .fieldLink RX1 9 "SternBrocotExplorer$Expansion" "terms" "[I"] ++ wsX10)
def wsX1_cutToDepth : List Cond := .code yX1_cutToDepth cX1_cutToDepth 5 none :: ([.fieldLink RX1 15 "SternBrocotExplorer$Expansion" "size" "I", .fieldLink RX1 9 "SternBrocotExplorer$Expansion" "terms" "[I", .methodLink RX1 31 yX1_runAt, .instanceMethod yX1_runAt, .selects RX1 yX1_runAt yX1_runAt, .initialized RX1, .code yX1_runAt cX1_runAt 2 (some .int), .methodLink RX1 27 yX1_at, .instanceMethod yX1_at, .selects RX1 yX1_at yX1_at, .code yX1_at cX1_at 2 (some .int)] ++ wsX10)
def wsX1_lastByRule : List Cond := .code yX1_lastByRule cX1_lastByRule 13 (some .long) :: ([.fieldLink RX1 15 "SternBrocotExplorer$Expansion" "size" "I", .fieldLink RX1 9 "SternBrocotExplorer$Expansion" "terms" "[I"] ++ wsX10)
def wsX1_convergentTop : List Cond := .code yX1_convergentTop cX1_convergentTop 2 (some .long) :: ([.methodLink RX1 34 yX1_lastByRule, .instanceMethod yX1_lastByRule, .selects RX1 yX1_lastByRule yX1_lastByRule, .initialized RX1, .code yX1_lastByRule cX1_lastByRule 13 (some .long), .fieldLink RX1 15 "SternBrocotExplorer$Expansion" "size" "I", .fieldLink RX1 9 "SternBrocotExplorer$Expansion" "terms" "[I"] ++ wsX10)
def wsX1_convergentBottom : List Cond := .code yX1_convergentBottom cX1_convergentBottom 2 (some .long) :: ([.methodLink RX1 34 yX1_lastByRule, .instanceMethod yX1_lastByRule, .selects RX1 yX1_lastByRule yX1_lastByRule, .initialized RX1, .code yX1_lastByRule cX1_lastByRule 13 (some .long), .fieldLink RX1 15 "SternBrocotExplorer$Expansion" "size" "I", .fieldLink RX1 9 "SternBrocotExplorer$Expansion" "terms" "[I"] ++ wsX10)
def wsX4_init : List Cond := .code yX4_init cX4_init 1 none :: ([.methodLink RX4 1 objectInit, .instanceMethod objectInit, .code objectInit ⟨#[0xb1]⟩ 1 none, .arrayClass .int, .fieldLink RX4 9 "SternBrocotExplorer$Ranking" "rankedTops" "[I", .fieldLink RX4 13 "SternBrocotExplorer$Ranking" "rankedBottoms" "[I", .fieldLink RX4 16 "SternBrocotExplorer$Ranking" "keys" "[I", .fieldLink RX4 19 "SternBrocotExplorer$Ranking" "tally" "[I"] ++ wsX40)
def wsX7_init_r1 : List Cond := [Cond.methodLink RX7 1 objectInit, Cond.instanceMethod objectInit, Cond.code objectInit ⟨#[0xb1]⟩ 1 none, Cond.arrayClass .int, Cond.fieldLink RX7 9 "SternBrocotExplorer" "tops" "[I", Cond.fieldLink RX7 13 "SternBrocotExplorer" "bottoms" "[I", Cond.classLink RX7 16 RX3, Cond.fieldLink RX7 18 "SternBrocotExplorer" "slots" "[LSternBrocotExplorer$Node;", Cond.fieldLink RX7 22 "SternBrocotExplorer" "savedTops" "[I", Cond.fieldLink RX7 25 "SternBrocotExplorer" "savedBottoms" "[I", Cond.fieldLink RX7 28 "SternBrocotExplorer" "savedSlots" "[LSternBrocotExplorer$Node;", Cond.fieldLink RX7 31 "SternBrocotExplorer" "termList" "[I", Cond.fieldLink RX7 34 "SternBrocotExplorer" "text" "[I", Cond.classLink RX7 37 "[[I", Cond.fieldLink RX7 39 "SternBrocotExplorer" "arrays" "[[I", Cond.fieldLink RX7 42 "SternBrocotExplorer" "arraySizes" "[I", Cond.classLink RX7 45 RX1, Cond.instantiable RX1 6, Cond.initialized RX1, Cond.fieldLink RX7 48 "SternBrocotExplorer" "expansion" "LSternBrocotExplorer$Expansion;", Cond.fieldLink RX7 52 "SternBrocotExplorer" "otherExpansion" "LSternBrocotExplorer$Expansion;", Cond.classLink RX7 55 RX4, Cond.instantiable RX4 5, Cond.initialized RX4]
def wsX7_init_r2 : List Cond := [Cond.fieldLink RX7 58 "SternBrocotExplorer" "ranking" "LSternBrocotExplorer$Ranking;", Cond.instanceMethod yX1_init, Cond.code yX1_init cX1_init 1 none, Cond.methodLink RX1 3 objectInit, Cond.fieldLink RX1 9 "SternBrocotExplorer$Expansion" "terms" "[I", Cond.instanceMethod yX4_init, Cond.code yX4_init cX4_init 1 none, Cond.methodLink RX4 1 objectInit, Cond.fieldLink RX4 9 "SternBrocotExplorer$Ranking" "rankedTops" "[I", Cond.fieldLink RX4 13 "SternBrocotExplorer$Ranking" "rankedBottoms" "[I", Cond.fieldLink RX4 16 "SternBrocotExplorer$Ranking" "keys" "[I", Cond.fieldLink RX4 19 "SternBrocotExplorer$Ranking" "tally" "[I"]
def wsX7_init : List Cond := .code yX7_init cX7_init 2 none :: ((wsX7_init_r1 ++ wsX7_init_r2) ++ wsX70 ++ wsX10 ++ wsX40)
def wsX7_isRegister : List Cond := .code yX7_isRegister cX7_isRegister 1 (some .boolean) :: ([])
def wsX7_isIn : List Cond := .code yX7_isIn cX7_isIn 3 (some .boolean) :: ([])
def wsX7_gcd : List Cond := .code yX7_gcd cX7_gcd 11 (some .long) :: ([])
def wsX7_store : List Cond := .code yX7_store cX7_store 12 (some .int) :: ([.constantLong RX7 138 (1000000), .fieldLink RX7 9 "SternBrocotExplorer" "tops" "[I", .fieldLink RX7 13 "SternBrocotExplorer" "bottoms" "[I", .methodLink RX7 189 yX7_gcd, .static yX7_gcd, .initialized RX7, .code yX7_gcd cX7_gcd 11 (some .long), .methodLink RX7 165 yX7_quotient, .static yX7_quotient, .code yX7_quotient cX7_quotient 4 (some .long)] ++ wsX70)
def wsX7_set : List Cond := .code yX7_set cX7_set 4 (some .int) :: ([.constant RX7 66 (1000000), .methodLink RX7 62 yX7_isRegister, .static yX7_isRegister, .initialized RX7, .code yX7_isRegister cX7_isRegister 1 (some .boolean), .methodLink RX7 67 yX7_isIn, .static yX7_isIn, .code yX7_isIn cX7_isIn 3 (some .boolean), .methodLink RX7 71 yX7_store, .instanceMethod yX7_store, .selects RX7 yX7_store yX7_store, .code yX7_store cX7_store 12 (some .int), .constantLong RX7 138 (1000000), .fieldLink RX7 9 "SternBrocotExplorer" "tops" "[I", .fieldLink RX7 13 "SternBrocotExplorer" "bottoms" "[I", .methodLink RX7 189 yX7_gcd, .static yX7_gcd, .code yX7_gcd cX7_gcd 11 (some .long), .methodLink RX7 165 yX7_quotient, .static yX7_quotient, .code yX7_quotient cX7_quotient 4 (some .long)] ++ wsX70)
def wsX7_crossDifference : List Cond := .code yX7_crossDifference cX7_crossDifference 3 (some .long) :: ([.fieldLink RX7 9 "SternBrocotExplorer" "tops" "[I", .fieldLink RX7 13 "SternBrocotExplorer" "bottoms" "[I"] ++ wsX70)
def wsX7_compare : List Cond := .code yX7_compare cX7_compare 5 (some .int) :: ([.methodLink RX7 62 yX7_isRegister, .static yX7_isRegister, .initialized RX7, .code yX7_isRegister cX7_isRegister 1 (some .boolean), .methodLink RX7 75 yX7_crossDifference, .instanceMethod yX7_crossDifference, .selects RX7 yX7_crossDifference yX7_crossDifference, .code yX7_crossDifference cX7_crossDifference 3 (some .long), .fieldLink RX7 9 "SternBrocotExplorer" "tops" "[I", .fieldLink RX7 13 "SternBrocotExplorer" "bottoms" "[I"] ++ wsX70)
def wsX7_expand : List Cond := .code yX7_expand cX7_expand 2 (some (.object "SternBrocotExplorer$Expansion")) :: ([.fieldLink RX7 48 "SternBrocotExplorer" "expansion" "LSternBrocotExplorer$Expansion;", .fieldLink RX7 9 "SternBrocotExplorer" "tops" "[I", .fieldLink RX7 13 "SternBrocotExplorer" "bottoms" "[I", .methodLink RX7 117 yX1_expand, .instanceMethod yX1_expand, .selects RX1 yX1_expand yX1_expand, .initialized RX1, .code yX1_expand cX1_expand 7 none, .fieldLink RX1 15 "SternBrocotExplorer$Expansion" "size" "I", .methodLink RX1 19 yX1_append, .instanceMethod yX1_append, .selects RX1 yX1_append yX1_append, .code yX1_append cX1_append 2 none, .fieldLink RX1 9 "SternBrocotExplorer$Expansion" "terms" "[I"] ++ wsX70 ++ wsX10)
def wsX7_depth_r1 : List Cond := [Cond.methodLink RX7 62 yX7_isRegister, Cond.static yX7_isRegister, Cond.initialized RX7, Cond.code yX7_isRegister cX7_isRegister 1 (some .boolean), Cond.methodLink RX7 81 yX7_expand, Cond.instanceMethod yX7_expand, Cond.selects RX7 yX7_expand yX7_expand, Cond.code yX7_expand cX7_expand 2 (some (.object "SternBrocotExplorer$Expansion")), Cond.fieldLink RX7 48 "SternBrocotExplorer" "expansion" "LSternBrocotExplorer$Expansion;", Cond.fieldLink RX7 9 "SternBrocotExplorer" "tops" "[I", Cond.fieldLink RX7 13 "SternBrocotExplorer" "bottoms" "[I", Cond.methodLink RX7 117 yX1_expand, Cond.instanceMethod yX1_expand, Cond.selects RX1 yX1_expand yX1_expand, Cond.initialized RX1, Cond.code yX1_expand cX1_expand 7 none, Cond.fieldLink RX1 15 "SternBrocotExplorer$Expansion" "size" "I", Cond.methodLink RX1 19 yX1_append, Cond.instanceMethod yX1_append, Cond.selects RX1 yX1_append yX1_append, Cond.code yX1_append cX1_append 2 none, Cond.fieldLink RX1 9 "SternBrocotExplorer$Expansion" "terms" "[I", Cond.methodLink RX7 85 yX1_stepCount, Cond.instanceMethod yX1_stepCount]
def wsX7_depth_r2 : List Cond := [Cond.selects RX1 yX1_stepCount yX1_stepCount, Cond.code yX1_stepCount cX1_stepCount 3 (some .int), Cond.methodLink RX1 31 yX1_runAt, Cond.instanceMethod yX1_runAt, Cond.selects RX1 yX1_runAt yX1_runAt, Cond.code yX1_runAt cX1_runAt 2 (some .int), Cond.methodLink RX1 27 yX1_at, Cond.instanceMethod yX1_at, Cond.selects RX1 yX1_at yX1_at, Cond.code yX1_at cX1_at 2 (some .int)]
def wsX7_depth : List Cond := .code yX7_depth cX7_depth 2 (some .int) :: ((wsX7_depth_r1 ++ wsX7_depth_r2) ++ wsX70 ++ wsX10)
def wsX7_storeConvergent_r1 : List Cond := [Cond.methodLink RX7 127 yX1_convergentTop, Cond.instanceMethod yX1_convergentTop, Cond.selects RX1 yX1_convergentTop yX1_convergentTop, Cond.initialized RX1, Cond.code yX1_convergentTop cX1_convergentTop 2 (some .long), Cond.methodLink RX1 34 yX1_lastByRule, Cond.instanceMethod yX1_lastByRule, Cond.selects RX1 yX1_lastByRule yX1_lastByRule, Cond.code yX1_lastByRule cX1_lastByRule 13 (some .long), Cond.fieldLink RX1 15 "SternBrocotExplorer$Expansion" "size" "I", Cond.fieldLink RX1 9 "SternBrocotExplorer$Expansion" "terms" "[I", Cond.methodLink RX7 199 yX1_convergentBottom, Cond.instanceMethod yX1_convergentBottom, Cond.selects RX1 yX1_convergentBottom yX1_convergentBottom, Cond.code yX1_convergentBottom cX1_convergentBottom 2 (some .long), Cond.methodLink RX7 71 yX7_store, Cond.instanceMethod yX7_store, Cond.selects RX7 yX7_store yX7_store, Cond.initialized RX7, Cond.code yX7_store cX7_store 12 (some .int), Cond.constantLong RX7 138 (1000000), Cond.fieldLink RX7 9 "SternBrocotExplorer" "tops" "[I", Cond.fieldLink RX7 13 "SternBrocotExplorer" "bottoms" "[I", Cond.methodLink RX7 189 yX7_gcd]
def wsX7_storeConvergent_r2 : List Cond := [Cond.static yX7_gcd, Cond.code yX7_gcd cX7_gcd 11 (some .long), Cond.methodLink RX7 165 yX7_quotient, Cond.static yX7_quotient, Cond.code yX7_quotient cX7_quotient 4 (some .long)]
def wsX7_storeConvergent : List Cond := .code yX7_storeConvergent cX7_storeConvergent 4 (some .int) :: ((wsX7_storeConvergent_r1 ++ wsX7_storeConvergent_r2) ++ wsX10 ++ wsX70)
def wsX7_commonAncestor_r1 : List Cond := [Cond.fieldLink RX7 52 "SternBrocotExplorer" "otherExpansion" "LSternBrocotExplorer$Expansion;", Cond.fieldLink RX7 9 "SternBrocotExplorer" "tops" "[I", Cond.fieldLink RX7 13 "SternBrocotExplorer" "bottoms" "[I", Cond.methodLink RX7 62 yX7_isRegister, Cond.static yX7_isRegister, Cond.initialized RX7, Cond.code yX7_isRegister cX7_isRegister 1 (some .boolean), Cond.methodLink RX7 81 yX7_expand, Cond.instanceMethod yX7_expand, Cond.selects RX7 yX7_expand yX7_expand, Cond.code yX7_expand cX7_expand 2 (some (.object "SternBrocotExplorer$Expansion")), Cond.fieldLink RX7 48 "SternBrocotExplorer" "expansion" "LSternBrocotExplorer$Expansion;", Cond.methodLink RX7 117 yX1_expand, Cond.instanceMethod yX1_expand, Cond.selects RX1 yX1_expand yX1_expand, Cond.initialized RX1, Cond.code yX1_expand cX1_expand 7 none, Cond.fieldLink RX1 15 "SternBrocotExplorer$Expansion" "size" "I", Cond.methodLink RX1 19 yX1_append, Cond.instanceMethod yX1_append, Cond.selects RX1 yX1_append yX1_append, Cond.code yX1_append cX1_append 2 none, Cond.fieldLink RX1 9 "SternBrocotExplorer$Expansion" "terms" "[I", Cond.methodLink RX7 120 yX1_commonSteps]
def wsX7_commonAncestor_r2 : List Cond := [Cond.instanceMethod yX1_commonSteps, Cond.selects RX1 yX1_commonSteps yX1_commonSteps, Cond.code yX1_commonSteps cX1_commonSteps 6 (some .int), Cond.methodLink RX1 31 yX1_runAt, Cond.instanceMethod yX1_runAt, Cond.selects RX1 yX1_runAt yX1_runAt, Cond.code yX1_runAt cX1_runAt 2 (some .int), Cond.methodLink RX1 27 yX1_at, Cond.instanceMethod yX1_at, Cond.selects RX1 yX1_at yX1_at, Cond.code yX1_at cX1_at 2 (some .int), Cond.methodLink RX7 99 yX1_cutToDepth, Cond.instanceMethod yX1_cutToDepth, Cond.selects RX1 yX1_cutToDepth yX1_cutToDepth, Cond.code yX1_cutToDepth cX1_cutToDepth 5 none, Cond.methodLink RX7 93 yX1_size, Cond.instanceMethod yX1_size, Cond.selects RX1 yX1_size yX1_size, Cond.code yX1_size cX1_size 1 (some .int), Cond.methodLink RX7 103 yX7_storeConvergent, Cond.instanceMethod yX7_storeConvergent, Cond.selects RX7 yX7_storeConvergent yX7_storeConvergent, Cond.code yX7_storeConvergent cX7_storeConvergent 4 (some .int), Cond.methodLink RX7 127 yX1_convergentTop]
def wsX7_commonAncestor_r3 : List Cond := [Cond.instanceMethod yX1_convergentTop, Cond.selects RX1 yX1_convergentTop yX1_convergentTop, Cond.code yX1_convergentTop cX1_convergentTop 2 (some .long), Cond.methodLink RX1 34 yX1_lastByRule, Cond.instanceMethod yX1_lastByRule, Cond.selects RX1 yX1_lastByRule yX1_lastByRule, Cond.code yX1_lastByRule cX1_lastByRule 13 (some .long), Cond.methodLink RX7 199 yX1_convergentBottom, Cond.instanceMethod yX1_convergentBottom, Cond.selects RX1 yX1_convergentBottom yX1_convergentBottom, Cond.code yX1_convergentBottom cX1_convergentBottom 2 (some .long), Cond.methodLink RX7 71 yX7_store, Cond.instanceMethod yX7_store, Cond.selects RX7 yX7_store yX7_store, Cond.code yX7_store cX7_store 12 (some .int), Cond.constantLong RX7 138 (1000000), Cond.methodLink RX7 189 yX7_gcd, Cond.static yX7_gcd, Cond.code yX7_gcd cX7_gcd 11 (some .long), Cond.methodLink RX7 165 yX7_quotient, Cond.static yX7_quotient, Cond.code yX7_quotient cX7_quotient 4 (some .long)]
def wsX7_commonAncestor : List Cond := .code yX7_commonAncestor cX7_commonAncestor 6 (some .int) :: ((wsX7_commonAncestor_r1 ++ (wsX7_commonAncestor_r2 ++ wsX7_commonAncestor_r3)) ++ wsX70 ++ wsX10)
def wsX7_simplestBetween_r1 : List Cond := [Cond.fieldLink RX7 48 "SternBrocotExplorer" "expansion" "LSternBrocotExplorer$Expansion;", Cond.fieldLink RX7 9 "SternBrocotExplorer" "tops" "[I", Cond.fieldLink RX7 13 "SternBrocotExplorer" "bottoms" "[I", Cond.methodLink RX7 62 yX7_isRegister, Cond.static yX7_isRegister, Cond.initialized RX7, Cond.code yX7_isRegister cX7_isRegister 1 (some .boolean), Cond.methodLink RX7 75 yX7_crossDifference, Cond.instanceMethod yX7_crossDifference, Cond.selects RX7 yX7_crossDifference yX7_crossDifference, Cond.code yX7_crossDifference cX7_crossDifference 3 (some .long), Cond.methodLink RX7 147 yX1_becomeSimplestBetween, Cond.instanceMethod yX1_becomeSimplestBetween, Cond.selects RX1 yX1_becomeSimplestBetween yX1_becomeSimplestBetween, Cond.initialized RX1, Cond.code yX1_becomeSimplestBetween cX1_becomeSimplestBetween 20 none, Cond.fieldLink RX1 15 "SternBrocotExplorer$Expansion" "size" "I", Cond.static yX7_quotient, Cond.code yX7_quotient cX7_quotient 4 (some .long), Cond.methodLink RX1 19 yX1_append, Cond.instanceMethod yX1_append, Cond.selects RX1 yX1_append yX1_append, Cond.code yX1_append cX1_append 2 none, Cond.fieldLink RX1 9 "SternBrocotExplorer$Expansion" "terms" "[I"]
def wsX7_simplestBetween_r2 : List Cond := [Cond.methodLink RX7 93 yX1_size, Cond.instanceMethod yX1_size, Cond.selects RX1 yX1_size yX1_size, Cond.code yX1_size cX1_size 1 (some .int), Cond.methodLink RX7 103 yX7_storeConvergent, Cond.instanceMethod yX7_storeConvergent, Cond.selects RX7 yX7_storeConvergent yX7_storeConvergent, Cond.code yX7_storeConvergent cX7_storeConvergent 4 (some .int), Cond.methodLink RX7 127 yX1_convergentTop, Cond.instanceMethod yX1_convergentTop, Cond.selects RX1 yX1_convergentTop yX1_convergentTop, Cond.code yX1_convergentTop cX1_convergentTop 2 (some .long), Cond.methodLink RX1 34 yX1_lastByRule, Cond.instanceMethod yX1_lastByRule, Cond.selects RX1 yX1_lastByRule yX1_lastByRule, Cond.code yX1_lastByRule cX1_lastByRule 13 (some .long), Cond.methodLink RX7 199 yX1_convergentBottom, Cond.instanceMethod yX1_convergentBottom, Cond.selects RX1 yX1_convergentBottom yX1_convergentBottom, Cond.code yX1_convergentBottom cX1_convergentBottom 2 (some .long), Cond.methodLink RX7 71 yX7_store, Cond.instanceMethod yX7_store, Cond.selects RX7 yX7_store yX7_store, Cond.code yX7_store cX7_store 12 (some .int)]
def wsX7_simplestBetween_r3 : List Cond := [Cond.constantLong RX7 138 (1000000), Cond.methodLink RX7 189 yX7_gcd, Cond.static yX7_gcd, Cond.code yX7_gcd cX7_gcd 11 (some .long), Cond.methodLink RX7 165 yX7_quotient]
def wsX7_simplestBetween : List Cond := .code yX7_simplestBetween cX7_simplestBetween 4 (some .int) :: ((wsX7_simplestBetween_r1 ++ (wsX7_simplestBetween_r2 ++ wsX7_simplestBetween_r3)) ++ wsX70 ++ wsX10)
def wsL_stirred : List Cond := .code yL_stirred cL_stirred 6 (some .int) :: ([.constant RL 7 (16777619)])
def wsL_cell : List Cond := .code yL_cell cL_cell 3 (some .int) :: ([.constant RL 14 (40503), .constant RL 15 (739982445), .constant RL 16 (695872825), .methodLink RL 8 yL_stirred, .static yL_stirred, .initialized RL, .code yL_stirred cL_stirred 6 (some .int), .constant RL 7 (16777619)])
def wsL_some : List Cond := .code yL_some cL_some 3 (some .int) :: ([.methodLink RL 17 yL_cell, .static yL_cell, .initialized RL, .code yL_cell cL_cell 3 (some .int), .constant RL 14 (40503), .constant RL 15 (739982445), .constant RL 16 (695872825), .methodLink RL 8 yL_stirred, .static yL_stirred, .code yL_stirred cL_stirred 6 (some .int), .constant RL 7 (16777619)])
def wsL_size : List Cond := .code yL_size cL_size 3 (some .int) :: ([.constant RL 25 (1000000), .methodLink RL 21 yL_some, .static yL_some, .initialized RL, .code yL_some cL_some 3 (some .int), .methodLink RL 17 yL_cell, .static yL_cell, .code yL_cell cL_cell 3 (some .int), .constant RL 14 (40503), .constant RL 15 (739982445), .constant RL 16 (695872825), .methodLink RL 8 yL_stirred, .static yL_stirred, .code yL_stirred cL_stirred 6 (some .int), .constant RL 7 (16777619)])
def wsL_fills_r1 : List Cond := [Cond.methodLink RL 26 yL_size, Cond.static yL_size, Cond.initialized RL, Cond.code yL_size cL_size 3 (some .int), Cond.constant RL 25 (1000000), Cond.methodLink RL 21 yL_some, Cond.static yL_some, Cond.code yL_some cL_some 3 (some .int), Cond.methodLink RL 17 yL_cell, Cond.static yL_cell, Cond.code yL_cell cL_cell 3 (some .int), Cond.constant RL 14 (40503), Cond.constant RL 15 (739982445), Cond.constant RL 16 (695872825), Cond.methodLink RL 8 yL_stirred, Cond.static yL_stirred, Cond.code yL_stirred cL_stirred 6 (some .int), Cond.constant RL 7 (16777619), Cond.methodLink RL 29 yX7_set, Cond.instanceMethod yX7_set, Cond.selects RX7 yX7_set yX7_set, Cond.initialized RX7, Cond.code yX7_set cX7_set 4 (some .int), Cond.constant RX7 66 (1000000)]
def wsL_fills_r2 : List Cond := [Cond.methodLink RX7 62 yX7_isRegister, Cond.static yX7_isRegister, Cond.code yX7_isRegister cX7_isRegister 1 (some .boolean), Cond.methodLink RX7 67 yX7_isIn, Cond.static yX7_isIn, Cond.code yX7_isIn cX7_isIn 3 (some .boolean), Cond.methodLink RX7 71 yX7_store, Cond.instanceMethod yX7_store, Cond.selects RX7 yX7_store yX7_store, Cond.code yX7_store cX7_store 12 (some .int), Cond.constantLong RX7 138 (1000000), Cond.fieldLink RX7 9 "SternBrocotExplorer" "tops" "[I", Cond.fieldLink RX7 13 "SternBrocotExplorer" "bottoms" "[I", Cond.methodLink RX7 189 yX7_gcd, Cond.static yX7_gcd, Cond.code yX7_gcd cX7_gcd 11 (some .long), Cond.methodLink RX7 165 yX7_quotient, Cond.static yX7_quotient, Cond.code yX7_quotient cX7_quotient 4 (some .long)]
def wsL_fills : List Cond := .code yL_fills cL_fills 4 (some .boolean) :: ((wsL_fills_r1 ++ wsL_fills_r2) ++ wsX70)
def wsL_law_r1 : List Cond := [Cond.classLink RL 30 RX7, Cond.instantiable RX7 16, Cond.initialized RX7, Cond.methodLink RL 35 yX7_init, Cond.instanceMethod yX7_init, Cond.code yX7_init cX7_init 2 none, Cond.methodLink RX7 1 objectInit, Cond.instanceMethod objectInit, Cond.code objectInit ⟨#[0xb1]⟩ 1 none, Cond.arrayClass .int, Cond.fieldLink RX7 9 "SternBrocotExplorer" "tops" "[I", Cond.fieldLink RX7 13 "SternBrocotExplorer" "bottoms" "[I", Cond.classLink RX7 16 RX3, Cond.fieldLink RX7 18 "SternBrocotExplorer" "slots" "[LSternBrocotExplorer$Node;", Cond.fieldLink RX7 22 "SternBrocotExplorer" "savedTops" "[I", Cond.fieldLink RX7 25 "SternBrocotExplorer" "savedBottoms" "[I", Cond.fieldLink RX7 28 "SternBrocotExplorer" "savedSlots" "[LSternBrocotExplorer$Node;", Cond.fieldLink RX7 31 "SternBrocotExplorer" "termList" "[I", Cond.fieldLink RX7 34 "SternBrocotExplorer" "text" "[I", Cond.classLink RX7 37 "[[I", Cond.fieldLink RX7 39 "SternBrocotExplorer" "arrays" "[[I", Cond.fieldLink RX7 42 "SternBrocotExplorer" "arraySizes" "[I", Cond.classLink RX7 45 RX1, Cond.instantiable RX1 6]
def wsL_law_r2 : List Cond := [Cond.initialized RX1, Cond.fieldLink RX7 48 "SternBrocotExplorer" "expansion" "LSternBrocotExplorer$Expansion;", Cond.fieldLink RX7 52 "SternBrocotExplorer" "otherExpansion" "LSternBrocotExplorer$Expansion;", Cond.classLink RX7 55 RX4, Cond.instantiable RX4 5, Cond.initialized RX4, Cond.fieldLink RX7 58 "SternBrocotExplorer" "ranking" "LSternBrocotExplorer$Ranking;", Cond.instanceMethod yX1_init, Cond.code yX1_init cX1_init 1 none, Cond.methodLink RX1 3 objectInit, Cond.fieldLink RX1 9 "SternBrocotExplorer$Expansion" "terms" "[I", Cond.instanceMethod yX4_init, Cond.code yX4_init cX4_init 1 none, Cond.methodLink RX4 1 objectInit, Cond.fieldLink RX4 9 "SternBrocotExplorer$Ranking" "rankedTops" "[I", Cond.fieldLink RX4 13 "SternBrocotExplorer$Ranking" "rankedBottoms" "[I", Cond.fieldLink RX4 16 "SternBrocotExplorer$Ranking" "keys" "[I", Cond.fieldLink RX4 19 "SternBrocotExplorer$Ranking" "tally" "[I", Cond.methodLink RL 36 yL_fills, Cond.static yL_fills, Cond.initialized RL, Cond.code yL_fills cL_fills 4 (some .boolean), Cond.methodLink RL 26 yL_size, Cond.static yL_size]
def wsL_law_r3 : List Cond := [Cond.code yL_size cL_size 3 (some .int), Cond.constant RL 25 (1000000), Cond.methodLink RL 21 yL_some, Cond.static yL_some, Cond.code yL_some cL_some 3 (some .int), Cond.methodLink RL 17 yL_cell, Cond.static yL_cell, Cond.code yL_cell cL_cell 3 (some .int), Cond.constant RL 14 (40503), Cond.constant RL 15 (739982445), Cond.constant RL 16 (695872825), Cond.methodLink RL 8 yL_stirred, Cond.static yL_stirred, Cond.code yL_stirred cL_stirred 6 (some .int), Cond.constant RL 7 (16777619), Cond.methodLink RL 29 yX7_set, Cond.instanceMethod yX7_set, Cond.selects RX7 yX7_set yX7_set, Cond.code yX7_set cX7_set 4 (some .int), Cond.constant RX7 66 (1000000), Cond.methodLink RX7 62 yX7_isRegister, Cond.static yX7_isRegister, Cond.code yX7_isRegister cX7_isRegister 1 (some .boolean), Cond.methodLink RX7 67 yX7_isIn]
def wsL_law_r4 : List Cond := [Cond.static yX7_isIn, Cond.code yX7_isIn cX7_isIn 3 (some .boolean), Cond.methodLink RX7 71 yX7_store, Cond.instanceMethod yX7_store, Cond.selects RX7 yX7_store yX7_store, Cond.code yX7_store cX7_store 12 (some .int), Cond.constantLong RX7 138 (1000000), Cond.methodLink RX7 189 yX7_gcd, Cond.static yX7_gcd, Cond.code yX7_gcd cX7_gcd 11 (some .long), Cond.methodLink RX7 165 yX7_quotient, Cond.static yX7_quotient, Cond.code yX7_quotient cX7_quotient 4 (some .long), Cond.methodLink RL 40 yX7_compare, Cond.instanceMethod yX7_compare, Cond.selects RX7 yX7_compare yX7_compare, Cond.code yX7_compare cX7_compare 5 (some .int), Cond.methodLink RX7 75 yX7_crossDifference, Cond.instanceMethod yX7_crossDifference, Cond.selects RX7 yX7_crossDifference yX7_crossDifference, Cond.code yX7_crossDifference cX7_crossDifference 3 (some .long), Cond.methodLink RL 44 yX7_commonAncestor, Cond.instanceMethod yX7_commonAncestor, Cond.selects RX7 yX7_commonAncestor yX7_commonAncestor]
def wsL_law_r5 : List Cond := [Cond.code yX7_commonAncestor cX7_commonAncestor 6 (some .int), Cond.methodLink RX7 81 yX7_expand, Cond.instanceMethod yX7_expand, Cond.selects RX7 yX7_expand yX7_expand, Cond.code yX7_expand cX7_expand 2 (some (.object "SternBrocotExplorer$Expansion")), Cond.methodLink RX7 117 yX1_expand, Cond.instanceMethod yX1_expand, Cond.selects RX1 yX1_expand yX1_expand, Cond.code yX1_expand cX1_expand 7 none, Cond.fieldLink RX1 15 "SternBrocotExplorer$Expansion" "size" "I", Cond.methodLink RX1 19 yX1_append, Cond.instanceMethod yX1_append, Cond.selects RX1 yX1_append yX1_append, Cond.code yX1_append cX1_append 2 none, Cond.methodLink RX7 120 yX1_commonSteps, Cond.instanceMethod yX1_commonSteps, Cond.selects RX1 yX1_commonSteps yX1_commonSteps, Cond.code yX1_commonSteps cX1_commonSteps 6 (some .int), Cond.methodLink RX1 31 yX1_runAt, Cond.instanceMethod yX1_runAt, Cond.selects RX1 yX1_runAt yX1_runAt, Cond.code yX1_runAt cX1_runAt 2 (some .int), Cond.methodLink RX1 27 yX1_at, Cond.instanceMethod yX1_at]
def wsL_law_r6 : List Cond := [Cond.selects RX1 yX1_at yX1_at, Cond.code yX1_at cX1_at 2 (some .int), Cond.methodLink RX7 99 yX1_cutToDepth, Cond.instanceMethod yX1_cutToDepth, Cond.selects RX1 yX1_cutToDepth yX1_cutToDepth, Cond.code yX1_cutToDepth cX1_cutToDepth 5 none, Cond.methodLink RX7 93 yX1_size, Cond.instanceMethod yX1_size, Cond.selects RX1 yX1_size yX1_size, Cond.code yX1_size cX1_size 1 (some .int), Cond.methodLink RX7 103 yX7_storeConvergent, Cond.instanceMethod yX7_storeConvergent, Cond.selects RX7 yX7_storeConvergent yX7_storeConvergent, Cond.code yX7_storeConvergent cX7_storeConvergent 4 (some .int), Cond.methodLink RX7 127 yX1_convergentTop, Cond.instanceMethod yX1_convergentTop, Cond.selects RX1 yX1_convergentTop yX1_convergentTop, Cond.code yX1_convergentTop cX1_convergentTop 2 (some .long), Cond.methodLink RX1 34 yX1_lastByRule, Cond.instanceMethod yX1_lastByRule, Cond.selects RX1 yX1_lastByRule yX1_lastByRule, Cond.code yX1_lastByRule cX1_lastByRule 13 (some .long), Cond.methodLink RX7 199 yX1_convergentBottom, Cond.instanceMethod yX1_convergentBottom]
def wsL_law_r7 : List Cond := [Cond.selects RX1 yX1_convergentBottom yX1_convergentBottom, Cond.code yX1_convergentBottom cX1_convergentBottom 2 (some .long), Cond.methodLink RL 47 yX7_simplestBetween, Cond.instanceMethod yX7_simplestBetween, Cond.selects RX7 yX7_simplestBetween yX7_simplestBetween, Cond.code yX7_simplestBetween cX7_simplestBetween 4 (some .int), Cond.methodLink RX7 147 yX1_becomeSimplestBetween, Cond.instanceMethod yX1_becomeSimplestBetween, Cond.selects RX1 yX1_becomeSimplestBetween yX1_becomeSimplestBetween, Cond.code yX1_becomeSimplestBetween cX1_becomeSimplestBetween 20 none, Cond.methodLink RL 50 yX7_depth, Cond.instanceMethod yX7_depth, Cond.selects RX7 yX7_depth yX7_depth, Cond.code yX7_depth cX7_depth 2 (some .int), Cond.methodLink RX7 85 yX1_stepCount, Cond.instanceMethod yX1_stepCount, Cond.selects RX1 yX1_stepCount yX1_stepCount, Cond.code yX1_stepCount cX1_stepCount 3 (some .int)]
def wsL_law : List Cond := (wsL_law_r1 ++ (wsL_law_r2 ++ (wsL_law_r3 ++ (wsL_law_r4 ++ (wsL_law_r5 ++ (wsL_law_r6 ++ wsL_law_r7)))))) ++ wsX70 ++ wsX10 ++ wsX40 ++ ([] : List Cond)
abbrev vwCl : List vw_C := [(RX1, TX1, 6), (RX4, TX4, 5), (RX7, TX7, 16)]
