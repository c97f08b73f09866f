section
/-- the word that the printed row va_mna asks for and the kit of this claim doesn't hold: an array of arrays of t can be made -/
def va_AOA (t : FieldType) (U : State) : Prop := (Cond.arrayOver (.array t)).before #[] U = true
theorem va_AOA.use {t : FieldType} {A : Array Value} {U : State} (h : va_AOA t U) : (Cond.arrayOver (.array t)).before A U = true := h
theorem va_AOA.of {t : FieldType} {A : Array Value} {U : State} (h : (Cond.arrayOver (.array t)).before A U = true) : va_AOA t U := h
end
section
-- ===== PART A: goes FIRST, ahead of the names: the tables' words, and 'selects' of the private methods out of them =====
/-- a private method of a class that the tables say can be made, by its rows of tables_1 -/
def lw_okq (q : MethodName × Nat) : Prop := (q.1.cls ≠ "java/lang/invoke/MethodHandle" ∧ q.1.cls ≠ "java/lang/invoke/VarHandle") ∧ Cond.instantiable q.1.cls q.2 ∈ tables_1 ∧ Cond.privateMethod q.1 ∈ tables_1 ∧ Cond.instanceMethod q.1 ∈ tables_1
theorem lw_p0 : lw_okq (⟨"SternBrocotExplorer", "crossDifference", "(II)J"⟩, 16) := ⟨⟨by decide +kernel, by decide +kernel⟩, List.mem_of_getElem? (i := 5) (by decide +kernel), List.mem_of_getElem? (i := 113) (by decide +kernel), List.mem_of_getElem? (i := 114) (by decide +kernel)⟩
theorem lw_p1 : lw_okq (⟨"SternBrocotExplorer", "expand", "(I)LSternBrocotExplorer$Expansion;"⟩, 16) := ⟨⟨by decide +kernel, by decide +kernel⟩, List.mem_of_getElem? (i := 5) (by decide +kernel), List.mem_of_getElem? (i := 121) (by decide +kernel), List.mem_of_getElem? (i := 122) (by decide +kernel)⟩
theorem lw_p2 : lw_okq (⟨"SternBrocotExplorer$Expansion", "append", "(I)V"⟩, 6) := ⟨⟨by decide +kernel, by decide +kernel⟩, List.mem_of_getElem? (i := 17) (by decide +kernel), List.mem_of_getElem? (i := 129) (by decide +kernel), List.mem_of_getElem? (i := 130) (by decide +kernel)⟩
theorem lw_p3 : lw_okq (⟨"SternBrocotExplorer", "storeConvergent", "(ILSternBrocotExplorer$Expansion;I)I"⟩, 16) := ⟨⟨by decide +kernel, by decide +kernel⟩, List.mem_of_getElem? (i := 5) (by decide +kernel), List.mem_of_getElem? (i := 161) (by decide +kernel), List.mem_of_getElem? (i := 162) (by decide +kernel)⟩
theorem lw_p4 : lw_okq (⟨"SternBrocotExplorer$Expansion", "lastByRule", "(IJJ)J"⟩, 6) := ⟨⟨by decide +kernel, by decide +kernel⟩, List.mem_of_getElem? (i := 17) (by decide +kernel), List.mem_of_getElem? (i := 169) (by decide +kernel), List.mem_of_getElem? (i := 170) (by decide +kernel)⟩
theorem lw_p5 : lw_okq (⟨"SternBrocotExplorer", "store", "(IJJ)I"⟩, 16) := ⟨⟨by decide +kernel, by decide +kernel⟩, List.mem_of_getElem? (i := 5) (by decide +kernel), List.mem_of_getElem? (i := 177) (by decide +kernel), List.mem_of_getElem? (i := 178) (by decide +kernel)⟩
def lw_privs_1 : List (MethodName × Nat) := [(⟨"SternBrocotExplorer", "crossDifference", "(II)J"⟩, 16), (⟨"SternBrocotExplorer", "expand", "(I)LSternBrocotExplorer$Expansion;"⟩, 16), (⟨"SternBrocotExplorer$Expansion", "append", "(I)V"⟩, 6), (⟨"SternBrocotExplorer", "storeConvergent", "(ILSternBrocotExplorer$Expansion;I)I"⟩, 16), (⟨"SternBrocotExplorer$Expansion", "lastByRule", "(IJJ)J"⟩, 6), (⟨"SternBrocotExplorer", "store", "(IJJ)I"⟩, 16)]
theorem lw_r1 : ∀ q ∈ lw_privs_1, lw_okq q := List.forall_mem_cons.mpr ⟨lw_p0, List.forall_mem_cons.mpr ⟨lw_p1, List.forall_mem_cons.mpr ⟨lw_p2, List.forall_mem_cons.mpr ⟨lw_p3, List.forall_mem_cons.mpr ⟨lw_p4, List.forall_mem_cons.mpr ⟨lw_p5, fun _ h => absurd h List.not_mem_nil⟩⟩⟩⟩⟩⟩
def lw_privs : List (MethodName × Nat) := lw_privs_1
def lw_tbl : List Cond := k2_sels lw_privs ++ tables_1
theorem lw_privs_ok : ∀ q ∈ lw_privs, lw_okq q := lw_r1
end
section
/-! ===== BEGIN words of one list among another's, by their places ===== -/
theorem goodIn_r {big : List Cond} (ws : List Cond) (ps : List Nat) (hp : ws = ps.filterMap (fun i => big[i]?)) (h : ws.all goodWord = true) : GoodIn big ws := by
  intro w hw
  have h1 := List.all_eq_true.mp h w hw
  rw [hp] at hw
  obtain ⟨i, -, hi⟩ := List.mem_filterMap.mp hw
  have hm : w ∈ big := by first | exact List.mem_of_getElem? hi | exact List.getElem?_mem hi
  exact ⟨hm, good_of_word h1⟩
theorem goodIn_app {big a b : List Cond} (ha : GoodIn big a) (hb : GoodIn big b) : GoodIn big (a ++ b) := fun w h => (List.mem_append.mp h).elim (ha w) (hb w)
theorem goodIn_ca {big a b : List Cond} {c : Cond} (ha : GoodIn big (c :: a)) (hb : GoodIn big b) : GoodIn big (c :: (a ++ b)) := fun w h => (List.mem_cons.mp h).elim (fun e => ha w (List.mem_cons.mpr (Or.inl e))) (fun h => (List.mem_append.mp h).elim (fun h => ha w (List.mem_cons.mpr (Or.inr h))) (hb w))
theorem goodIn_sub {big ws : List Cond} (hm : ∀ w ∈ ws, w ∈ big) (h : ws.all goodWord = true) : GoodIn big ws := fun w hw => ⟨hm w hw, good_of_word (List.all_eq_true.mp h w hw)⟩
/-! ===== END ===== -/

/-! ===== BEGIN new T[n][m]: the outer array a place, the inner ones among the pooled ===== -/
/-- f, but v at every address of l -/
def vr_up {α : Type} (f : Nat → α) (l : List Nat) (v : α) : Nat → α := fun a => if a ∈ l then v else f a
theorem vr_up_in {α : Type} {f : Nat → α} {l : List Nat} {v : α} {a : Nat} (h : a ∈ l) : vr_up f l v a = v := if_pos h
theorem vr_up_ne {α : Type} {f : Nat → α} {l : List Nat} {v : α} {a : Nat} (h : a ∉ l) : vr_up f l v a = f a := if_neg h
theorem vr_rows {L l : List Nat} {f : Nat → va_E} {e : va_E} (h : ∀ a, a ∈ l → a ∉ L) : va_pl L f ++ l.map (fun a => (a, e)) = va_pl (L ++ l) (vr_up f l e) := by
  unfold va_pl
  rw [List.map_append]
  congr 1
  · apply List.map_congr_left
    intro a ha
    rw [vr_up_ne (fun q => h a q ha)]
  · apply List.map_congr_left
    intro a ha
    rw [vr_up_in ha]
theorem vr_lay {X rows : va_W} {x : Nat × va_E} {pl : va_W} {D : va_G} {cl : List vw_C} {H : Heap} (hP : va_P D cl (((X ++ pl) ++ [x]) ++ rows) H) : va_P D cl ((X ++ [x]) ++ (pl ++ rows)) H := by
  rw [List.append_assoc (X ++ pl)] at hP
  have h := va_P.swap hP
  rw [← List.append_assoc X] at h
  have h2 := va_P.swap h
  rw [List.append_assoc (X ++ [x])] at h2
  exact h2
theorem vr_layD {X rows : va_W} {x : Nat × va_E} {pl : va_W} {A : Nat → Prop} (hD : va_D A (((X ++ pl) ++ [x]) ++ rows)) : va_D A ((X ++ [x]) ++ (pl ++ rows)) := by
  rw [List.append_assoc (X ++ pl)] at hD
  have h := va_D.swap hD
  rw [← List.append_assoc X] at h
  have h2 := va_D.swap h
  rw [List.append_assoc (X ++ [x])] at h2
  exact h2
theorem vr_outer (c : ClassId) (N h0 : Nat) : ∀ i : Nat, Jvm.Free.Multi.outerC c N h0 i = arrV c N (fun j => va_rf (if j < i then some (h0 + 1 + j) else none))
  | 0 => by
    show ({ cls := c, slots := Array.replicate N .null, vm := .none } : Cell) = _
    rw [arrV_new]
    refine congrArg (arrV c N) (funext fun j => ?_)
    simp [va_rf]
  | i + 1 => by
    show (Jvm.Free.Multi.outerC c N h0 i).setSlot i (.ref (h0 + 1 + i)) = _
    rw [vr_outer c N h0 i, arrV_store]
    refine congrArg (arrV c N) (funext fun j => ?_)
    by_cases e : j = i
    · subst e
      simp [updV, va_rf]
    · by_cases h : j < i
      · simp [updV, e, h, Nat.lt_succ_of_lt h]
      · simp [updV, e, h, show ¬ j < i + 1 by omega]
section VGM
variable {p : Program} {l : Launch} {e : Env} {R : Room} {s : State} {m : MethodId} {args : Array Value} {below : List Frame} {meth : Method} {c : Code} {H : Heap} {locs : List Loc} {cells slots : Nat} {Q : State → Prop}
variable {cc : ByteArray} {pc : Nat} {ls : Array Slot} {rest : List Value} {D : va_G} {cl : List vw_C} {A : Nat → Prop} {a : Nat} {tys : List (ClassId × FieldType)} {ws : va_W} {H0 : Heap}
theorem va_mna {X : va_W} {L : List Nat} {f : Nat → va_E} {cc : ByteArray} (hexec : p.tables.exec = Jvm.exec) (hb : c.code = cc) {own : String} {index : Nat} {ty : FieldType} {cy : ClassId} (hown : s.vm.findClass own = some m.cls) (hclink : (Cond.classLink own index ("[" ++ (FieldType.array ty).toString)).before args s = true) (hover : va_AOA ty s) (harr : (Cond.arrayClass ty).before args s = true) (hcy : s.vm.findClass (FieldType.array ty).toString = some cy)
    (hK : va_K D cl tys s) (hP : va_P D cl (X ++ va_pl L f) H) (hD : va_D A (X ++ va_pl L f)) (hS : va_S A H0 H locs) (hA : ∀ q, H0.size ≤ q → A q) {n k : Int32} {N' K' : Nat} {z : vp_A} (hn : ¬ n < 0) (hk : ¬ k < 0) (hN : n.toNatClampNeg = N') (hM : k.toNatClampNeg = K')
    (hb1 : N' * 4 ≤ 536870912) (hb2 : K' * componentBytes ty ≤ 536870912) (hb3 : K' ≤ 536870912) (hdf : fits ty (defaultValue ty) = true) (hdd : (defaultValue ty).isDefault = true) (hcells : cells + (1 + N') ≤ R.cells) (hslots : slots + (N' + N' * K') ≤ R.slots) (hz : ∀ c : ClassId, Jvm.Free.Multi.innerC c K' (defaultValue ty) = vp_cell c z) (hdg : decode cc pc = .ok (.multianewarray index 2, 4))
    (kk : ∀ (q : Nat) (r : Nat → Nat) (cA : ClassId) (H1 : Heap), (∀ i j : Nat, i < N' → j < N' → r i = r j → i = j) → (∀ i : Nat, i < N' → r i ∉ L) → va_K D cl (tys ++ [(cA, .array ty)]) s →
      va_P D cl ((X ++ [(q, .inl (cA, N', .inr (.inr (.inr (.inr (fun i => if i < N' then some (r i) else none))))))]) ++ va_pl (L ++ (List.range N').map r) (vr_up f ((List.range N').map r) (.inl (cy, z)))) H1 → va_D A ((X ++ [(q, .inl (cA, N', .inr (.inr (.inr (.inr (fun i => if i < N' then some (r i) else none))))))]) ++ va_pl (L ++ (List.range N').map r) (vr_up f ((List.range N').map r) (.inl (cy, z)))) → va_S A H0 H1 locs →
      W p l e R s m args below meth c H1 locs (cells + 1 + N') (slots + N' + N' * K') Q (F0 m (pc + 4) ls (.ref q :: rest))) : W p l e R s m args below meth c H locs cells slots Q (F0 m pc ls (.int k :: .int n :: rest)) := by
  subst hN
  subst hM
  intro T hT Xs
  obtain ⟨vm₁, cA, comp, -, fA, fC, hO, -, X', step⟩ := Xs.multianewarray2F hexec hown hclink (va_AOA.use hover) harr (g := F0 m pc ls (.int k :: .int n :: rest)) rfl (by rw [hb]; exact hdg) rfl hn hk hb1 hb2 hb3 hdf hdd hcells hslots
  have ec : some cy = some comp := hcy.symm.trans fC
  cases ec
  generalize hF : Jvm.Free.Multi.fill (T.setVm vm₁) cA cy n.toNatClampNeg k.toNatClampNeg (defaultValue ty) n.toNatClampNeg = F at X' step
  have hTh : (T.setVm vm₁).heap = H := hT
  obtain ⟨f1, f2, -, -⟩ := Jvm.Free.Multi.fill_facts (T.setVm vm₁) cA cy n.toNatClampNeg k.toNatClampNeg (defaultValue ty) n.toNatClampNeg
  rw [hF, hTh] at f1 f2
  have hold : ∀ x : Nat, x < H.size → F.heap[x]? = H[x]? := fun x hx => by
    have := Jvm.Free.Multi.fill_old (T.setVm vm₁) cA cy n.toNatClampNeg k.toNatClampNeg (defaultValue ty) (a := x) (by rw [hTh]; exact hx) n.toNatClampNeg
    rw [hF, hTh] at this
    exact this
  have hrow : ∀ j : Nat, j < n.toNatClampNeg → F.heap[H.size + 1 + j]? = some (vp_cell cy z) := fun j hj => by
    have := Jvm.Free.Multi.fill_inner (T.setVm vm₁) cA cy n.toNatClampNeg k.toNatClampNeg (defaultValue ty) n.toNatClampNeg j hj
    rw [hF, hTh, hz] at this
    exact this
  have hout : Jvm.Free.Multi.outerC cA n.toNatClampNeg H.size n.toNatClampNeg = vp_cell cA (n.toNatClampNeg, .inr (.inr (.inr (.inr (fun i => if i < n.toNatClampNeg then some (H.size + 1 + i) else none))))) := by
    rw [vp_cell_q]
    exact vr_outer cA n.toNatClampNeg H.size n.toNatClampNeg
  rw [hout] at f2
  have hlt : ∀ a, a ∈ L → a < H.size := fun a ha => by
    obtain ⟨k9, hk9⟩ := va_pl_get (X := X) (f := f) ha
    exact (hP k9 _ hk9).lt
  have hnl : ∀ i : Nat, i < n.toNatClampNeg → H.size + 1 + i ∉ L := fun i _ h => by
    have := hlt _ h
    omega
  have hnm : ∀ a, a ∈ (List.range n.toNatClampNeg).map (fun i => H.size + 1 + i) → a ∉ L := fun a ha h => by
    obtain ⟨i, -, rfl⟩ := List.mem_map.mp ha
    have := hlt _ h
    omega
  have hP0 : va_P D cl (X ++ va_pl L f) F.heap := hP.kept (fun k9 x hx => hold x.1 ((hP k9 x hx).lt))
  have hP1 : va_P D cl ((X ++ va_pl L f) ++ [(H.size, .inl (cA, n.toNatClampNeg, .inr (.inr (.inr (.inr (fun i => if i < n.toNatClampNeg then some (H.size + 1 + i) else none))))))]) F.heap := hP0.app (fun k9 x hx => by
    have h0 : k9 < 1 := (List.getElem?_eq_some_iff.mp hx).1
    rw [show k9 = 0 by omega] at hx
    cases hx
    exact f2)
  have hP2 : va_P D cl (((X ++ va_pl L f) ++ [(H.size, .inl (cA, n.toNatClampNeg, .inr (.inr (.inr (.inr (fun i => if i < n.toNatClampNeg then some (H.size + 1 + i) else none))))))]) ++ ((List.range n.toNatClampNeg).map (fun i => H.size + 1 + i)).map (fun a => (a, .inl (cy, z)))) F.heap := hP1.app (fun k9 x hx => by
    obtain ⟨a, ha, rfl⟩ := List.mem_map.mp (List.mem_of_getElem? hx)
    obtain ⟨i, hi, rfl⟩ := List.mem_map.mp ha
    exact hrow i (List.mem_range.mp hi))
  have hD2 : va_D A (((X ++ va_pl L f) ++ [(H.size, .inl (cA, n.toNatClampNeg, .inr (.inr (.inr (.inr (fun i => if i < n.toNatClampNeg then some (H.size + 1 + i) else none))))))]) ++ ((List.range n.toNatClampNeg).map (fun i => H.size + 1 + i)).map (fun a => (a, .inl (cy, z)))) := by
    have hD1 := hD.push (e := .inl (cA, n.toNatClampNeg, .inr (.inr (.inr (.inr (fun i => if i < n.toNatClampNeg then some (H.size + 1 + i) else none)))))) hP rfl (hA _ hS.1)
    generalize hW1 : (X ++ va_pl L f) ++ [(H.size, .inl (cA, n.toNatClampNeg, .inr (.inr (.inr (.inr (fun i => if i < n.toNatClampNeg then some (H.size + 1 + i) else none))))))] = W1 at hD1 hP1 ⊢
    have hle : ∀ (k9 : Nat) (x : Nat × va_E), W1[k9]? = some x → x.1 ≤ H.size := fun k9 x hx => by
      rw [← hW1] at hx
      by_cases hl : k9 < (X ++ va_pl L f).length
      · rw [List.getElem?_append_left hl] at hx
        exact Nat.le_of_lt ((hP k9 x hx).lt)
      · rw [List.getElem?_append_right (by omega)] at hx
        have h0 : k9 - (X ++ va_pl L f).length < 1 := (List.getElem?_eq_some_iff.mp hx).1
        rw [show k9 - (X ++ va_pl L f).length = 0 by omega] at hx
        cases hx
        exact Nat.le_refl _
    have hr : ∀ (k9 : Nat) (x : Nat × va_E), (((List.range n.toNatClampNeg).map (fun i => H.size + 1 + i)).map (fun a => ((a, .inl (cy, z)) : Nat × va_E)))[k9]? = some x → x.1 = H.size + 1 + k9 := fun k9 x hx => by
      rw [List.getElem?_map, List.getElem?_map] at hx
      by_cases h9 : k9 < n.toNatClampNeg
      · rw [List.getElem?_range h9] at hx
        cases hx
        rfl
      · have hn0 : (List.range n.toNatClampNeg)[k9]? = none := List.getElem?_eq_none (by rw [List.length_range]; omega)
        rw [hn0] at hx
        cases hx
    refine ⟨fun i j x y hi hj hxy => ?_, fun k9 x hx => ?_⟩
    · by_cases h1 : i < W1.length <;> by_cases h2 : j < W1.length
      · rw [List.getElem?_append_left h1] at hi
        rw [List.getElem?_append_left h2] at hj
        exact hD1.1 i j x y hi hj hxy
      · rw [List.getElem?_append_left h1] at hi
        rw [List.getElem?_append_right (by omega)] at hj
        have := hle _ _ hi
        have := hr _ _ hj
        omega
      · rw [List.getElem?_append_right (by omega)] at hi
        rw [List.getElem?_append_left h2] at hj
        have := hle _ _ hj
        have := hr _ _ hi
        omega
      · rw [List.getElem?_append_right (by omega)] at hi hj
        have := hr _ _ hi
        have := hr _ _ hj
        omega
    · by_cases h1 : k9 < W1.length
      · rw [List.getElem?_append_left h1] at hx
        exact hD1.2 k9 x hx
      · rw [List.getElem?_append_right (by omega)] at hx
        have := hr _ _ hx
        exact hA _ (by have := hS.1; omega)
  have hAr : ArrOfT s cA (.array ty) := fun N9 z9 => by
    obtain ⟨-, k9, hk9, cm9, hkk9⟩ := (hO 0 0 0).1
    exact ⟨(fun q hq => by cases hq), k9, hk9, cm9, hkk9⟩
  have hK2 : va_K D cl (tys ++ [(cA, .array ty)]) s := ⟨hK.1, fun k9 x hx => by
    by_cases hl : k9 < tys.length
    · rw [List.getElem?_append_left hl] at hx
      exact hK.2 k9 x hx
    · rw [List.getElem?_append_right (by omega)] at hx
      have h0 : k9 - tys.length < 1 := (List.getElem?_eq_some_iff.mp hx).1
      rw [show k9 - tys.length = 0 by omega] at hx
      cases hx
      exact ⟨hAr, fA⟩⟩
  obtain ⟨t, a1, b1⟩ := kk H.size (fun i => H.size + 1 + i) cA F.heap (fun i j _ _ h => by have h9 : H.size + 1 + i = H.size + 1 + j := h; omega) hnl hK2 (by rw [← vr_rows hnm]; exact vr_lay hP2) (by rw [← vr_rows hnm]; exact vr_layD hD2) ⟨by rw [f1]; have := hS.1; omega, fun x h1 h2 => (hold x (Nat.lt_of_lt_of_le h1 hS.1)).trans (hS.2.1 x h1 h2), hS.2.2⟩ F rfl X'
  refine ⟨t, step t ?_, b1⟩
  have e : T.heap.size = H.size := by rw [hT]
  rw [e]
  exact a1
end VGM
/-! ===== END ===== -/

/-! ===== BEGIN printed: names, fields, word lists, decode rows ===== -/
def RX0 : String := "SternBrocotExplorer$Branch"
def TX0 : u_T := fun k => match k with
  | _ => ("", "", "", false)
def tyX0 : Nat → FieldType := fun k => match k with
  | _ => .int
abbrev wsX00 : List Cond := u_ws RX0 TX0 0
theorem nmX0 : ∀ a, a < 0 → ∀ b, b < 0 → a ≠ b → (TX0 a).2.1 ≠ (TX0 b).2.1 := by decide +kernel
theorem tyX0_ok : ∀ k, k < 0 → parseFieldDescriptor (TX0 k).2.2.1 = some (tyX0 k) := by decide +kernel
def RX1 : String := "SternBrocotExplorer$Expansion"
def TX1 : u_T := fun k => match k with
  | 0 => ("SternBrocotExplorer$Expansion", "terms", "[I", true)
  | 1 => ("SternBrocotExplorer$Expansion", "size", "I", false)
  | 2 => ("SternBrocotExplorer$Expansion", "leftTop", "J", false)
  | 3 => ("SternBrocotExplorer$Expansion", "leftBottom", "J", false)
  | 4 => ("SternBrocotExplorer$Expansion", "rightTop", "J", false)
  | _ => ("SternBrocotExplorer$Expansion", "rightBottom", "J", false)
def tyX1 : Nat → FieldType := fun k => match k with
  | 0 => .array .int
  | 1 => .int
  | 2 => .long
  | 3 => .long
  | 4 => .long
  | _ => .long
abbrev wsX10 : List Cond := u_ws RX1 TX1 6
theorem nmX1 : ∀ a, a < 6 → ∀ b, b < 6 → a ≠ b → (TX1 a).2.1 ≠ (TX1 b).2.1 := by decide +kernel
theorem tyX1_ok : ∀ k, k < 6 → parseFieldDescriptor (TX1 k).2.2.1 = some (tyX1 k) := by decide +kernel
abbrev cX1_init : ByteArray := prog_3_method_1_code
def yX1_init : MethodName := ⟨RX1, "<init>", "()V"⟩
abbrev cX1_expand : ByteArray := prog_3_method_2_code
def yX1_expand : MethodName := ⟨RX1, "expand", "(II)V"⟩
abbrev cX1_becomeSimplestBetween : ByteArray := prog_3_method_3_code
def yX1_becomeSimplestBetween : MethodName := ⟨RX1, "becomeSimplestBetween", "(IIII)V"⟩
abbrev cX1_append : ByteArray := prog_3_method_4_code
def yX1_append : MethodName := ⟨RX1, "append", "(I)V"⟩
abbrev cX1_size : ByteArray := prog_3_method_5_code
def yX1_size : MethodName := ⟨RX1, "size", "()I"⟩
abbrev cX1_at : ByteArray := prog_3_method_6_code
def yX1_at : MethodName := ⟨RX1, "at", "(I)I"⟩
abbrev cX1_runAt : ByteArray := prog_3_method_8_code
def yX1_runAt : MethodName := ⟨RX1, "runAt", "(I)I"⟩
abbrev cX1_stepCount : ByteArray := prog_3_method_9_code
def yX1_stepCount : MethodName := ⟨RX1, "stepCount", "()I"⟩
abbrev cX1_commonSteps : ByteArray := prog_3_method_11_code
def yX1_commonSteps : MethodName := ⟨RX1, "commonSteps", "(LSternBrocotExplorer$Expansion;)I"⟩
abbrev cX1_cutToDepth : ByteArray := prog_3_method_12_code
def yX1_cutToDepth : MethodName := ⟨RX1, "cutToDepth", "(I)V"⟩
abbrev cX1_convergentTop : ByteArray := prog_3_method_13_code
def yX1_convergentTop : MethodName := ⟨RX1, "convergentTop", "(I)J"⟩
abbrev cX1_convergentBottom : ByteArray := prog_3_method_14_code
def yX1_convergentBottom : MethodName := ⟨RX1, "convergentBottom", "(I)J"⟩
abbrev cX1_lastByRule : ByteArray := prog_3_method_15_code
def yX1_lastByRule : MethodName := ⟨RX1, "lastByRule", "(IJJ)J"⟩
def RX2 : String := "SternBrocotExplorer$Leaf"
def TX2 : u_T := fun k => match k with
  | _ => ("", "", "", false)
def tyX2 : Nat → FieldType := fun k => match k with
  | _ => .int
abbrev wsX20 : List Cond := u_ws RX2 TX2 0
theorem nmX2 : ∀ a, a < 0 → ∀ b, b < 0 → a ≠ b → (TX2 a).2.1 ≠ (TX2 b).2.1 := by decide +kernel
theorem tyX2_ok : ∀ k, k < 0 → parseFieldDescriptor (TX2 k).2.2.1 = some (tyX2 k) := by decide +kernel
def RX3 : String := "SternBrocotExplorer$Node"
def TX3 : u_T := fun k => match k with
  | _ => ("", "", "", false)
def tyX3 : Nat → FieldType := fun k => match k with
  | _ => .int
abbrev wsX30 : List Cond := u_ws RX3 TX3 0
theorem nmX3 : ∀ a, a < 0 → ∀ b, b < 0 → a ≠ b → (TX3 a).2.1 ≠ (TX3 b).2.1 := by decide +kernel
theorem tyX3_ok : ∀ k, k < 0 → parseFieldDescriptor (TX3 k).2.2.1 = some (tyX3 k) := by decide +kernel
def RX4 : String := "SternBrocotExplorer$Ranking"
def TX4 : u_T := fun k => match k with
  | 0 => ("SternBrocotExplorer$Ranking", "rankedTops", "[I", true)
  | 1 => ("SternBrocotExplorer$Ranking", "rankedBottoms", "[I", true)
  | 2 => ("SternBrocotExplorer$Ranking", "keys", "[I", true)
  | 3 => ("SternBrocotExplorer$Ranking", "tally", "[I", true)
  | _ => ("SternBrocotExplorer$Ranking", "size", "I", false)
def tyX4 : Nat → FieldType := fun k => match k with
  | 0 => .array .int
  | 1 => .array .int
  | 2 => .array .int
  | 3 => .array .int
  | _ => .int
abbrev wsX40 : List Cond := u_ws RX4 TX4 5
theorem nmX4 : ∀ a, a < 5 → ∀ b, b < 5 → a ≠ b → (TX4 a).2.1 ≠ (TX4 b).2.1 := by decide +kernel
theorem tyX4_ok : ∀ k, k < 5 → parseFieldDescriptor (TX4 k).2.2.1 = some (tyX4 k) := by decide +kernel
abbrev cX4_init : ByteArray := prog_6_method_1_code
def yX4_init : MethodName := ⟨RX4, "<init>", "()V"⟩
def RX5 : String := "SternBrocotExplorer$Root"
def TX5 : u_T := fun k => match k with
  | _ => ("", "", "", false)
def tyX5 : Nat → FieldType := fun k => match k with
  | _ => .int
abbrev wsX50 : List Cond := u_ws RX5 TX5 0
theorem nmX5 : ∀ a, a < 0 → ∀ b, b < 0 → a ≠ b → (TX5 a).2.1 ≠ (TX5 b).2.1 := by decide +kernel
theorem tyX5_ok : ∀ k, k < 0 → parseFieldDescriptor (TX5 k).2.2.1 = some (tyX5 k) := by decide +kernel
def RX6 : String := "SternBrocotExplorer$Twig"
def TX6 : u_T := fun k => match k with
  | _ => ("", "", "", false)
def tyX6 : Nat → FieldType := fun k => match k with
  | _ => .int
abbrev wsX60 : List Cond := u_ws RX6 TX6 0
theorem nmX6 : ∀ a, a < 0 → ∀ b, b < 0 → a ≠ b → (TX6 a).2.1 ≠ (TX6 b).2.1 := by decide +kernel
theorem tyX6_ok : ∀ k, k < 0 → parseFieldDescriptor (TX6 k).2.2.1 = some (tyX6 k) := by decide +kernel
def RX7 : String := "SternBrocotExplorer"
def TX7 : u_T := fun k => match k with
  | 0 => ("SternBrocotExplorer", "tops", "[I", true)
  | 1 => ("SternBrocotExplorer", "bottoms", "[I", true)
  | 2 => ("SternBrocotExplorer", "slots", "[LSternBrocotExplorer$Node;", true)
  | 3 => ("SternBrocotExplorer", "savedTops", "[I", true)
  | 4 => ("SternBrocotExplorer", "savedBottoms", "[I", true)
  | 5 => ("SternBrocotExplorer", "savedSlots", "[LSternBrocotExplorer$Node;", true)
  | 6 => ("SternBrocotExplorer", "hasSnapshot", "Z", false)
  | 7 => ("SternBrocotExplorer", "termList", "[I", true)
  | 8 => ("SternBrocotExplorer", "termListSize", "I", false)
  | 9 => ("SternBrocotExplorer", "text", "[I", true)
  | 10 => ("SternBrocotExplorer", "textSize", "I", false)
  | 11 => ("SternBrocotExplorer", "arrays", "[[I", true)
  | 12 => ("SternBrocotExplorer", "arraySizes", "[I", true)
  | 13 => ("SternBrocotExplorer", "expansion", "LSternBrocotExplorer$Expansion;", true)
  | 14 => ("SternBrocotExplorer", "otherExpansion", "LSternBrocotExplorer$Expansion;", true)
  | _ => ("SternBrocotExplorer", "ranking", "LSternBrocotExplorer$Ranking;", true)
def tyX7 : Nat → FieldType := fun k => match k with
  | 0 => .array .int
  | 1 => .array .int
  | 2 => .array (.object "SternBrocotExplorer$Node")
  | 3 => .array .int
  | 4 => .array .int
  | 5 => .array (.object "SternBrocotExplorer$Node")
  | 6 => .boolean
  | 7 => .array .int
  | 8 => .int
  | 9 => .array .int
  | 10 => .int
  | 11 => .array (.array .int)
  | 12 => .array .int
  | 13 => .object "SternBrocotExplorer$Expansion"
  | 14 => .object "SternBrocotExplorer$Expansion"
  | _ => .object "SternBrocotExplorer$Ranking"
abbrev wsX70 : List Cond := u_ws RX7 TX7 16
theorem nmX7 : ∀ a, a < 16 → ∀ b, b < 16 → a ≠ b → (TX7 a).2.1 ≠ (TX7 b).2.1 := by decide +kernel
theorem tyX7_ok : ∀ k, k < 16 → parseFieldDescriptor (TX7 k).2.2.1 = some (tyX7 k) := by decide +kernel
abbrev cX7_init : ByteArray := prog_1_method_1_code
def yX7_init : MethodName := ⟨RX7, "<init>", "()V"⟩
abbrev cX7_set : ByteArray := prog_1_method_2_code
def yX7_set : MethodName := ⟨RX7, "set", "(III)I"⟩
abbrev cX7_compare : ByteArray := prog_1_method_5_code
def yX7_compare : MethodName := ⟨RX7, "compare", "(II)I"⟩
abbrev cX7_depth : ByteArray := prog_1_method_8_code
def yX7_depth : MethodName := ⟨RX7, "depth", "(I)I"⟩
abbrev cX7_commonAncestor : ByteArray := prog_1_method_15_code
def yX7_commonAncestor : MethodName := ⟨RX7, "commonAncestor", "(III)I"⟩
abbrev cX7_simplestBetween : ByteArray := prog_1_method_23_code
def yX7_simplestBetween : MethodName := ⟨RX7, "simplestBetween", "(III)I"⟩
abbrev cX7_isIn : ByteArray := prog_1_method_49_code
def yX7_isIn : MethodName := ⟨RX7, "isIn", "(III)Z"⟩
abbrev cX7_isRegister : ByteArray := prog_1_method_50_code
def yX7_isRegister : MethodName := ⟨RX7, "isRegister", "(I)Z"⟩
abbrev cX7_quotient : ByteArray := prog_1_method_54_code
def yX7_quotient : MethodName := ⟨RX7, "quotient", "(JJ)J"⟩
abbrev cX7_gcd : ByteArray := prog_1_method_56_code
def yX7_gcd : MethodName := ⟨RX7, "gcd", "(JJ)J"⟩
abbrev cX7_crossDifference : ByteArray := prog_1_method_59_code
def yX7_crossDifference : MethodName := ⟨RX7, "crossDifference", "(II)J"⟩
abbrev cX7_store : ByteArray := prog_1_method_60_code
def yX7_store : MethodName := ⟨RX7, "store", "(IJJ)I"⟩
abbrev cX7_storeConvergent : ByteArray := prog_1_method_61_code
def yX7_storeConvergent : MethodName := ⟨RX7, "storeConvergent", "(ILSternBrocotExplorer$Expansion;I)I"⟩
abbrev cX7_expand : ByteArray := prog_1_method_62_code
def yX7_expand : MethodName := ⟨RX7, "expand", "(I)LSternBrocotExplorer$Expansion;"⟩
def RX8 : String := "SternBrocotExplorerModel"
def TX8 : u_T := fun k => match k with
  | _ => ("", "", "", false)
def tyX8 : Nat → FieldType := fun k => match k with
  | _ => .int
abbrev wsX80 : List Cond := u_ws RX8 TX8 0
theorem nmX8 : ∀ a, a < 0 → ∀ b, b < 0 → a ≠ b → (TX8 a).2.1 ≠ (TX8 b).2.1 := by decide +kernel
theorem tyX8_ok : ∀ k, k < 0 → parseFieldDescriptor (TX8 k).2.2.1 = some (tyX8 k) := by decide +kernel
def RL : String := "SternBrocotExplorerLaw"
abbrev cL_stirred : ByteArray := method_2_code
def yL_stirred : MethodName := ⟨RL, "stirred", "([I)I"⟩
abbrev cL_cell : ByteArray := method_3_code
def yL_cell : MethodName := ⟨RL, "cell", "([II)I"⟩
abbrev cL_some : ByteArray := method_4_code
def yL_some : MethodName := ⟨RL, "some", "([III)I"⟩
abbrev cL_size : ByteArray := method_5_code
def yL_size : MethodName := ⟨RL, "size", "([II)I"⟩
abbrev cL_fills : ByteArray := method_6_code
def yL_fills : MethodName := ⟨RL, "fills", "(LSternBrocotExplorer;I[II)Z"⟩
abbrev cL_law : ByteArray := code
def yL_law : MethodName := ⟨RL, "law", "([I)Z"⟩
def wsX1_init : List Cond := .code yX1_init cX1_init 1 none :: ([.methodLink RX1 3 objectInit, .instanceMethod objectInit, .code objectInit ⟨#[0xb1]⟩ 1 none, .arrayClass .int, .fieldLink RX1 9 "SternBrocotExplorer$Expansion" "terms" "[I"] ++ wsX10)
def wsX1_append : List Cond := .code yX1_append cX1_append 2 none :: ([.fieldLink RX1 15 "SternBrocotExplorer$Expansion" "size" "I", .fieldLink RX1 9 "SternBrocotExplorer$Expansion" "terms" "[I"] ++ wsX10)
def wsX1_expand : List Cond := .code yX1_expand cX1_expand 7 none :: ([.fieldLink RX1 15 "SternBrocotExplorer$Expansion" "size" "I", .methodLink RX1 19 yX1_append, .instanceMethod yX1_append, .selects RX1 yX1_append yX1_append, .initialized RX1, .code yX1_append cX1_append 2 none, .fieldLink RX1 9 "SternBrocotExplorer$Expansion" "terms" "[I"] ++ wsX10)
def wsX7_quotient : List Cond := .code yX7_quotient cX7_quotient 4 (some .long) :: ([])
def wsX1_becomeSimplestBetween : List Cond := .code yX1_becomeSimplestBetween cX1_becomeSimplestBetween 20 none :: ([.fieldLink RX1 15 "SternBrocotExplorer$Expansion" "size" "I", .static yX7_quotient, .initialized RX7, .code yX7_quotient cX7_quotient 4 (some .long), .methodLink RX1 19 yX1_append, .instanceMethod yX1_append, .selects RX1 yX1_append yX1_append, .initialized RX1, .code yX1_append cX1_append 2 none, .fieldLink RX1 9 "SternBrocotExplorer$Expansion" "terms" "[I"] ++ wsX10)
def wsX1_size : List Cond := .code yX1_size cX1_size 1 (some .int) :: ([.fieldLink RX1 15 "SternBrocotExplorer$Expansion" "size" "I"] ++ wsX10)
def wsX1_at : List Cond := .code yX1_at cX1_at 2 (some .int) :: ([.fieldLink RX1 15 "SternBrocotExplorer$Expansion" "size" "I", .fieldLink RX1 9 "SternBrocotExplorer$Expansion" "terms" "[I"] ++ wsX10)
def wsX1_runAt : List Cond := .code yX1_runAt cX1_runAt 2 (some .int) :: ([.fieldLink RX1 15 "SternBrocotExplorer$Expansion" "size" "I", .methodLink RX1 27 yX1_at, .instanceMethod yX1_at, .selects RX1 yX1_at yX1_at, .initialized RX1, .code yX1_at cX1_at 2 (some .int), .fieldLink RX1 9 "SternBrocotExplorer$Expansion" "terms" "[I"] ++ wsX10)
def wsX1_stepCount : List Cond := .code yX1_stepCount cX1_stepCount 3 (some .int) :: ([.fieldLink RX1 15 "SternBrocotExplorer$Expansion" "size" "I", .methodLink RX1 31 yX1_runAt, .instanceMethod yX1_runAt, .selects RX1 yX1_runAt yX1_runAt, .initialized RX1, .code yX1_runAt cX1_runAt 2 (some .int), .methodLink RX1 27 yX1_at, .instanceMethod yX1_at, .selects RX1 yX1_at yX1_at, .code yX1_at cX1_at 2 (some .int), .fieldLink RX1 9 "SternBrocotExplorer$Expansion" "terms" "[I"] ++ wsX10)
def wsX1_commonSteps : List Cond := .code yX1_commonSteps cX1_commonSteps 6 (some .int) :: ([.fieldLink RX1 15 "SternBrocotExplorer$Expansion" "size" "I", .methodLink RX1 31 yX1_runAt, .instanceMethod yX1_runAt, .selects RX1 yX1_runAt yX1_runAt, .initialized RX1, .code yX1_runAt cX1_runAt 2 (some .int), .methodLink RX1 27 yX1_at, .instanceMethod yX1_at, .selects RX1 yX1_at yX1_at, .code yX1_at cX1_at 2 (some .int), .fieldLink RX1 9 "SternBrocotExplorer$Expansion" "terms" "[I"] ++ wsX10)
def wsX1_cutToDepth : List Cond := .code yX1_cutToDepth cX1_cutToDepth 5 none :: ([.fieldLink RX1 15 "SternBrocotExplorer$Expansion" "size" "I", .fieldLink RX1 9 "SternBrocotExplorer$Expansion" "terms" "[I", .methodLink RX1 31 yX1_runAt, .instanceMethod yX1_runAt, .selects RX1 yX1_runAt yX1_runAt, .initialized RX1, .code yX1_runAt cX1_runAt 2 (some .int), .methodLink RX1 27 yX1_at, .instanceMethod yX1_at, .selects RX1 yX1_at yX1_at, .code yX1_at cX1_at 2 (some .int)] ++ wsX10)
def wsX1_lastByRule : List Cond := .code yX1_lastByRule cX1_lastByRule 13 (some .long) :: ([.fieldLink RX1 15 "SternBrocotExplorer$Expansion" "size" "I", .fieldLink RX1 9 "SternBrocotExplorer$Expansion" "terms" "[I"] ++ wsX10)
def wsX1_convergentTop : List Cond := .code yX1_convergentTop cX1_convergentTop 2 (some .long) :: ([.methodLink RX1 34 yX1_lastByRule, .instanceMethod yX1_lastByRule, .selects RX1 yX1_lastByRule yX1_lastByRule, .initialized RX1, .code yX1_lastByRule cX1_lastByRule 13 (some .long), .fieldLink RX1 15 "SternBrocotExplorer$Expansion" "size" "I", .fieldLink RX1 9 "SternBrocotExplorer$Expansion" "terms" "[I"] ++ wsX10)
def wsX1_convergentBottom : List Cond := .code yX1_convergentBottom cX1_convergentBottom 2 (some .long) :: ([.methodLink RX1 34 yX1_lastByRule, .instanceMethod yX1_lastByRule, .selects RX1 yX1_lastByRule yX1_lastByRule, .initialized RX1, .code yX1_lastByRule cX1_lastByRule 13 (some .long), .fieldLink RX1 15 "SternBrocotExplorer$Expansion" "size" "I", .fieldLink RX1 9 "SternBrocotExplorer$Expansion" "terms" "[I"] ++ wsX10)
def wsX4_init : List Cond := .code yX4_init cX4_init 1 none :: ([.methodLink RX4 1 objectInit, .instanceMethod objectInit, .code objectInit ⟨#[0xb1]⟩ 1 none, .arrayClass .int, .fieldLink RX4 9 "SternBrocotExplorer$Ranking" "rankedTops" "[I", .fieldLink RX4 13 "SternBrocotExplorer$Ranking" "rankedBottoms" "[I", .fieldLink RX4 16 "SternBrocotExplorer$Ranking" "keys" "[I", .fieldLink RX4 19 "SternBrocotExplorer$Ranking" "tally" "[I"] ++ wsX40)
def wsX7_init_r1 : List Cond := [Cond.methodLink RX7 1 objectInit, Cond.instanceMethod objectInit, Cond.code objectInit ⟨#[0xb1]⟩ 1 none, Cond.arrayClass .int, Cond.fieldLink RX7 9 "SternBrocotExplorer" "tops" "[I", Cond.fieldLink RX7 13 "SternBrocotExplorer" "bottoms" "[I", Cond.classLink RX7 16 RX3, Cond.fieldLink RX7 18 "SternBrocotExplorer" "slots" "[LSternBrocotExplorer$Node;", Cond.fieldLink RX7 22 "SternBrocotExplorer" "savedTops" "[I", Cond.fieldLink RX7 25 "SternBrocotExplorer" "savedBottoms" "[I", Cond.fieldLink RX7 28 "SternBrocotExplorer" "savedSlots" "[LSternBrocotExplorer$Node;", Cond.fieldLink RX7 31 "SternBrocotExplorer" "termList" "[I", Cond.fieldLink RX7 34 "SternBrocotExplorer" "text" "[I", Cond.classLink RX7 37 "[[I", Cond.fieldLink RX7 39 "SternBrocotExplorer" "arrays" "[[I", Cond.fieldLink RX7 42 "SternBrocotExplorer" "arraySizes" "[I", Cond.classLink RX7 45 RX1, Cond.instantiable RX1 6, Cond.initialized RX1, Cond.fieldLink RX7 48 "SternBrocotExplorer" "expansion" "LSternBrocotExplorer$Expansion;", Cond.fieldLink RX7 52 "SternBrocotExplorer" "otherExpansion" "LSternBrocotExplorer$Expansion;", Cond.classLink RX7 55 RX4, Cond.instantiable RX4 5, Cond.initialized RX4]
def wsX7_init_r2 : List Cond := [Cond.fieldLink RX7 58 "SternBrocotExplorer" "ranking" "LSternBrocotExplorer$Ranking;", Cond.instanceMethod yX1_init, Cond.code yX1_init cX1_init 1 none, Cond.methodLink RX1 3 objectInit, Cond.fieldLink RX1 9 "SternBrocotExplorer$Expansion" "terms" "[I", Cond.instanceMethod yX4_init, Cond.code yX4_init cX4_init 1 none, Cond.methodLink RX4 1 objectInit, Cond.fieldLink RX4 9 "SternBrocotExplorer$Ranking" "rankedTops" "[I", Cond.fieldLink RX4 13 "SternBrocotExplorer$Ranking" "rankedBottoms" "[I", Cond.fieldLink RX4 16 "SternBrocotExplorer$Ranking" "keys" "[I", Cond.fieldLink RX4 19 "SternBrocotExplorer$Ranking" "tally" "[I"]
def wsX7_init : List Cond := .code yX7_init cX7_init 2 none :: ((wsX7_init_r1 ++ wsX7_init_r2) ++ wsX70 ++ wsX10 ++ wsX40)
def wsX7_isRegister : List Cond := .code yX7_isRegister cX7_isRegister 1 (some .boolean) :: ([])
def wsX7_isIn : List Cond := .code yX7_isIn cX7_isIn 3 (some .boolean) :: ([])
def wsX7_gcd : List Cond := .code yX7_gcd cX7_gcd 11 (some .long) :: ([])
def wsX7_store : List Cond := .code yX7_store cX7_store 12 (some .int) :: ([.constantLong RX7 138 (1000000), .fieldLink RX7 9 "SternBrocotExplorer" "tops" "[I", .fieldLink RX7 13 "SternBrocotExplorer" "bottoms" "[I", .methodLink RX7 189 yX7_gcd, .static yX7_gcd, .initialized RX7, .code yX7_gcd cX7_gcd 11 (some .long), .methodLink RX7 165 yX7_quotient, .static yX7_quotient, .code yX7_quotient cX7_quotient 4 (some .long)] ++ wsX70)
def wsX7_set : List Cond := .code yX7_set cX7_set 4 (some .int) :: ([.constant RX7 66 (1000000), .methodLink RX7 62 yX7_isRegister, .static yX7_isRegister, .initialized RX7, .code yX7_isRegister cX7_isRegister 1 (some .boolean), .methodLink RX7 67 yX7_isIn, .static yX7_isIn, .code yX7_isIn cX7_isIn 3 (some .boolean), .methodLink RX7 71 yX7_store, .instanceMethod yX7_store, .selects RX7 yX7_store yX7_store, .code yX7_store cX7_store 12 (some .int), .constantLong RX7 138 (1000000), .fieldLink RX7 9 "SternBrocotExplorer" "tops" "[I", .fieldLink RX7 13 "SternBrocotExplorer" "bottoms" "[I", .methodLink RX7 189 yX7_gcd, .static yX7_gcd, .code yX7_gcd cX7_gcd 11 (some .long), .methodLink RX7 165 yX7_quotient, .static yX7_quotient, .code yX7_quotient cX7_quotient 4 (some .long)] ++ wsX70)
def wsX7_crossDifference : List Cond := .code yX7_crossDifference cX7_crossDifference 3 (some .long) :: ([.fieldLink RX7 9 "SternBrocotExplorer" "tops" "[I", .fieldLink RX7 13 "SternBrocotExplorer" "bottoms" "[I"] ++ wsX70)
def wsX7_compare : List Cond := .code yX7_compare cX7_compare 5 (some .int) :: ([.methodLink RX7 62 yX7_isRegister, .static yX7_isRegister, .initialized RX7, .code yX7_isRegister cX7_isRegister 1 (some .boolean), .methodLink RX7 75 yX7_crossDifference, .instanceMethod yX7_crossDifference, .selects RX7 yX7_crossDifference yX7_crossDifference, .code yX7_crossDifference cX7_crossDifference 3 (some .long), .fieldLink RX7 9 "SternBrocotExplorer" "tops" "[I", .fieldLink RX7 13 "SternBrocotExplorer" "bottoms" "[I"] ++ wsX70)
def wsX7_expand : List Cond := .code yX7_expand cX7_expand 2 (some (.object "SternBrocotExplorer$Expansion")) :: ([.fieldLink RX7 48 "SternBrocotExplorer" "expansion" "LSternBrocotExplorer$Expansion;", .fieldLink RX7 9 "SternBrocotExplorer" "tops" "[I", .fieldLink RX7 13 "SternBrocotExplorer" "bottoms" "[I", .methodLink RX7 117 yX1_expand, .instanceMethod yX1_expand, .selects RX1 yX1_expand yX1_expand, .initialized RX1, .code yX1_expand cX1_expand 7 none, .fieldLink RX1 15 "SternBrocotExplorer$Expansion" "size" "I", .methodLink RX1 19 yX1_append, .instanceMethod yX1_append, .selects RX1 yX1_append yX1_append, .code yX1_append cX1_append 2 none, .fieldLink RX1 9 "SternBrocotExplorer$Expansion" "terms" "[I"] ++ wsX70 ++ wsX10)
def wsX7_depth_r1 : List Cond := [Cond.methodLink RX7 62 yX7_isRegister, Cond.static yX7_isRegister, Cond.initialized RX7, Cond.code yX7_isRegister cX7_isRegister 1 (some .boolean), Cond.methodLink RX7 81 yX7_expand, Cond.instanceMethod yX7_expand, Cond.selects RX7 yX7_expand yX7_expand, Cond.code yX7_expand cX7_expand 2 (some (.object "SternBrocotExplorer$Expansion")), Cond.fieldLink RX7 48 "SternBrocotExplorer" "expansion" "LSternBrocotExplorer$Expansion;", Cond.fieldLink RX7 9 "SternBrocotExplorer" "tops" "[I", Cond.fieldLink RX7 13 "SternBrocotExplorer" "bottoms" "[I", Cond.methodLink RX7 117 yX1_expand, Cond.instanceMethod yX1_expand, Cond.selects RX1 yX1_expand yX1_expand, Cond.initialized RX1, Cond.code yX1_expand cX1_expand 7 none, Cond.fieldLink RX1 15 "SternBrocotExplorer$Expansion" "size" "I", Cond.methodLink RX1 19 yX1_append, Cond.instanceMethod yX1_append, Cond.selects RX1 yX1_append yX1_append, Cond.code yX1_append cX1_append 2 none, Cond.fieldLink RX1 9 "SternBrocotExplorer$Expansion" "terms" "[I", Cond.methodLink RX7 85 yX1_stepCount, Cond.instanceMethod yX1_stepCount]
def wsX7_depth_r2 : List Cond := [Cond.selects RX1 yX1_stepCount yX1_stepCount, Cond.code yX1_stepCount cX1_stepCount 3 (some .int), Cond.methodLink RX1 31 yX1_runAt, Cond.instanceMethod yX1_runAt, Cond.selects RX1 yX1_runAt yX1_runAt, Cond.code yX1_runAt cX1_runAt 2 (some .int), Cond.methodLink RX1 27 yX1_at, Cond.instanceMethod yX1_at, Cond.selects RX1 yX1_at yX1_at, Cond.code yX1_at cX1_at 2 (some .int)]
def wsX7_depth : List Cond := .code yX7_depth cX7_depth 2 (some .int) :: ((wsX7_depth_r1 ++ wsX7_depth_r2) ++ wsX70 ++ wsX10)
def wsX7_storeConvergent_r1 : List Cond := [Cond.methodLink RX7 127 yX1_convergentTop, Cond.instanceMethod yX1_convergentTop, Cond.selects RX1 yX1_convergentTop yX1_convergentTop, Cond.initialized RX1, Cond.code yX1_convergentTop cX1_convergentTop 2 (some .long), Cond.methodLink RX1 34 yX1_lastByRule, Cond.instanceMethod yX1_lastByRule, Cond.selects RX1 yX1_lastByRule yX1_lastByRule, Cond.code yX1_lastByRule cX1_lastByRule 13 (some .long), Cond.fieldLink RX1 15 "SternBrocotExplorer$Expansion" "size" "I", Cond.fieldLink RX1 9 "SternBrocotExplorer$Expansion" "terms" "[I", Cond.methodLink RX7 199 yX1_convergentBottom, Cond.instanceMethod yX1_convergentBottom, Cond.selects RX1 yX1_convergentBottom yX1_convergentBottom, Cond.code yX1_convergentBottom cX1_convergentBottom 2 (some .long), Cond.methodLink RX7 71 yX7_store, Cond.instanceMethod yX7_store, Cond.selects RX7 yX7_store yX7_store, Cond.initialized RX7, Cond.code yX7_store cX7_store 12 (some .int), Cond.constantLong RX7 138 (1000000), Cond.fieldLink RX7 9 "SternBrocotExplorer" "tops" "[I", Cond.fieldLink RX7 13 "SternBrocotExplorer" "bottoms" "[I", Cond.methodLink RX7 189 yX7_gcd]
def wsX7_storeConvergent_r2 : List Cond := [Cond.static yX7_gcd, Cond.code yX7_gcd cX7_gcd 11 (some .long), Cond.methodLink RX7 165 yX7_quotient, Cond.static yX7_quotient, Cond.code yX7_quotient cX7_quotient 4 (some .long)]
def wsX7_storeConvergent : List Cond := .code yX7_storeConvergent cX7_storeConvergent 4 (some .int) :: ((wsX7_storeConvergent_r1 ++ wsX7_storeConvergent_r2) ++ wsX10 ++ wsX70)
def wsX7_commonAncestor_r1 : List Cond := [Cond.fieldLink RX7 52 "SternBrocotExplorer" "otherExpansion" "LSternBrocotExplorer$Expansion;", Cond.fieldLink RX7 9 "SternBrocotExplorer" "tops" "[I", Cond.fieldLink RX7 13 "SternBrocotExplorer" "bottoms" "[I", Cond.methodLink RX7 62 yX7_isRegister, Cond.static yX7_isRegister, Cond.initialized RX7, Cond.code yX7_isRegister cX7_isRegister 1 (some .boolean), Cond.methodLink RX7 81 yX7_expand, Cond.instanceMethod yX7_expand, Cond.selects RX7 yX7_expand yX7_expand, Cond.code yX7_expand cX7_expand 2 (some (.object "SternBrocotExplorer$Expansion")), Cond.fieldLink RX7 48 "SternBrocotExplorer" "expansion" "LSternBrocotExplorer$Expansion;", Cond.methodLink RX7 117 yX1_expand, Cond.instanceMethod yX1_expand, Cond.selects RX1 yX1_expand yX1_expand, Cond.initialized RX1, Cond.code yX1_expand cX1_expand 7 none, Cond.fieldLink RX1 15 "SternBrocotExplorer$Expansion" "size" "I", Cond.methodLink RX1 19 yX1_append, Cond.instanceMethod yX1_append, Cond.selects RX1 yX1_append yX1_append, Cond.code yX1_append cX1_append 2 none, Cond.fieldLink RX1 9 "SternBrocotExplorer$Expansion" "terms" "[I", Cond.methodLink RX7 120 yX1_commonSteps]
def wsX7_commonAncestor_r2 : List Cond := [Cond.instanceMethod yX1_commonSteps, Cond.selects RX1 yX1_commonSteps yX1_commonSteps, Cond.code yX1_commonSteps cX1_commonSteps 6 (some .int), Cond.methodLink RX1 31 yX1_runAt, Cond.instanceMethod yX1_runAt, Cond.selects RX1 yX1_runAt yX1_runAt, Cond.code yX1_runAt cX1_runAt 2 (some .int), Cond.methodLink RX1 27 yX1_at, Cond.instanceMethod yX1_at, Cond.selects RX1 yX1_at yX1_at, Cond.code yX1_at cX1_at 2 (some .int), Cond.methodLink RX7 99 yX1_cutToDepth, Cond.instanceMethod yX1_cutToDepth, Cond.selects RX1 yX1_cutToDepth yX1_cutToDepth, Cond.code yX1_cutToDepth cX1_cutToDepth 5 none, Cond.methodLink RX7 93 yX1_size, Cond.instanceMethod yX1_size, Cond.selects RX1 yX1_size yX1_size, Cond.code yX1_size cX1_size 1 (some .int), Cond.methodLink RX7 103 yX7_storeConvergent, Cond.instanceMethod yX7_storeConvergent, Cond.selects RX7 yX7_storeConvergent yX7_storeConvergent, Cond.code yX7_storeConvergent cX7_storeConvergent 4 (some .int), Cond.methodLink RX7 127 yX1_convergentTop]
def wsX7_commonAncestor_r3 : List Cond := [Cond.instanceMethod yX1_convergentTop, Cond.selects RX1 yX1_convergentTop yX1_convergentTop, Cond.code yX1_convergentTop cX1_convergentTop 2 (some .long), Cond.methodLink RX1 34 yX1_lastByRule, Cond.instanceMethod yX1_lastByRule, Cond.selects RX1 yX1_lastByRule yX1_lastByRule, Cond.code yX1_lastByRule cX1_lastByRule 13 (some .long), Cond.methodLink RX7 199 yX1_convergentBottom, Cond.instanceMethod yX1_convergentBottom, Cond.selects RX1 yX1_convergentBottom yX1_convergentBottom, Cond.code yX1_convergentBottom cX1_convergentBottom 2 (some .long), Cond.methodLink RX7 71 yX7_store, Cond.instanceMethod yX7_store, Cond.selects RX7 yX7_store yX7_store, Cond.code yX7_store cX7_store 12 (some .int), Cond.constantLong RX7 138 (1000000), Cond.methodLink RX7 189 yX7_gcd, Cond.static yX7_gcd, Cond.code yX7_gcd cX7_gcd 11 (some .long), Cond.methodLink RX7 165 yX7_quotient, Cond.static yX7_quotient, Cond.code yX7_quotient cX7_quotient 4 (some .long)]
def wsX7_commonAncestor : List Cond := .code yX7_commonAncestor cX7_commonAncestor 6 (some .int) :: ((wsX7_commonAncestor_r1 ++ (wsX7_commonAncestor_r2 ++ wsX7_commonAncestor_r3)) ++ wsX70 ++ wsX10)
def wsX7_simplestBetween_r1 : List Cond := [Cond.fieldLink RX7 48 "SternBrocotExplorer" "expansion" "LSternBrocotExplorer$Expansion;", Cond.fieldLink RX7 9 "SternBrocotExplorer" "tops" "[I", Cond.fieldLink RX7 13 "SternBrocotExplorer" "bottoms" "[I", Cond.methodLink RX7 62 yX7_isRegister, Cond.static yX7_isRegister, Cond.initialized RX7, Cond.code yX7_isRegister cX7_isRegister 1 (some .boolean), Cond.methodLink RX7 75 yX7_crossDifference, Cond.instanceMethod yX7_crossDifference, Cond.selects RX7 yX7_crossDifference yX7_crossDifference, Cond.code yX7_crossDifference cX7_crossDifference 3 (some .long), Cond.methodLink RX7 147 yX1_becomeSimplestBetween, Cond.instanceMethod yX1_becomeSimplestBetween, Cond.selects RX1 yX1_becomeSimplestBetween yX1_becomeSimplestBetween, Cond.initialized RX1, Cond.code yX1_becomeSimplestBetween cX1_becomeSimplestBetween 20 none, Cond.fieldLink RX1 15 "SternBrocotExplorer$Expansion" "size" "I", Cond.static yX7_quotient, Cond.code yX7_quotient cX7_quotient 4 (some .long), Cond.methodLink RX1 19 yX1_append, Cond.instanceMethod yX1_append, Cond.selects RX1 yX1_append yX1_append, Cond.code yX1_append cX1_append 2 none, Cond.fieldLink RX1 9 "SternBrocotExplorer$Expansion" "terms" "[I"]
def wsX7_simplestBetween_r2 : List Cond := [Cond.methodLink RX7 93 yX1_size, Cond.instanceMethod yX1_size, Cond.selects RX1 yX1_size yX1_size, Cond.code yX1_size cX1_size 1 (some .int), Cond.methodLink RX7 103 yX7_storeConvergent, Cond.instanceMethod yX7_storeConvergent, Cond.selects RX7 yX7_storeConvergent yX7_storeConvergent, Cond.code yX7_storeConvergent cX7_storeConvergent 4 (some .int), Cond.methodLink RX7 127 yX1_convergentTop, Cond.instanceMethod yX1_convergentTop, Cond.selects RX1 yX1_convergentTop yX1_convergentTop, Cond.code yX1_convergentTop cX1_convergentTop 2 (some .long), Cond.methodLink RX1 34 yX1_lastByRule, Cond.instanceMethod yX1_lastByRule, Cond.selects RX1 yX1_lastByRule yX1_lastByRule, Cond.code yX1_lastByRule cX1_lastByRule 13 (some .long), Cond.methodLink RX7 199 yX1_convergentBottom, Cond.instanceMethod yX1_convergentBottom, Cond.selects RX1 yX1_convergentBottom yX1_convergentBottom, Cond.code yX1_convergentBottom cX1_convergentBottom 2 (some .long), Cond.methodLink RX7 71 yX7_store, Cond.instanceMethod yX7_store, Cond.selects RX7 yX7_store yX7_store, Cond.code yX7_store cX7_store 12 (some .int)]
def wsX7_simplestBetween_r3 : List Cond := [Cond.constantLong RX7 138 (1000000), Cond.methodLink RX7 189 yX7_gcd, Cond.static yX7_gcd, Cond.code yX7_gcd cX7_gcd 11 (some .long), Cond.methodLink RX7 165 yX7_quotient]
def wsX7_simplestBetween : List Cond := .code yX7_simplestBetween cX7_simplestBetween 4 (some .int) :: ((wsX7_simplestBetween_r1 ++ (wsX7_simplestBetween_r2 ++ wsX7_simplestBetween_r3)) ++ wsX70 ++ wsX10)
def wsL_stirred : List Cond := .code yL_stirred cL_stirred 6 (some .int) :: ([.constant RL 7 (16777619)])
def wsL_cell : List Cond := .code yL_cell cL_cell 3 (some .int) :: ([.constant RL 14 (40503), .constant RL 15 (739982445), .constant RL 16 (695872825), .methodLink RL 8 yL_stirred, .static yL_stirred, .initialized RL, .code yL_stirred cL_stirred 6 (some .int), .constant RL 7 (16777619)])
def wsL_some : List Cond := .code yL_some cL_some 3 (some .int) :: ([.methodLink RL 17 yL_cell, .static yL_cell, .initialized RL, .code yL_cell cL_cell 3 (some .int), .constant RL 14 (40503), .constant RL 15 (739982445), .constant RL 16 (695872825), .methodLink RL 8 yL_stirred, .static yL_stirred, .code yL_stirred cL_stirred 6 (some .int), .constant RL 7 (16777619)])
def wsL_size : List Cond := .code yL_size cL_size 3 (some .int) :: ([.constant RL 25 (1000000), .methodLink RL 21 yL_some, .static yL_some, .initialized RL, .code yL_some cL_some 3 (some .int), .methodLink RL 17 yL_cell, .static yL_cell, .code yL_cell cL_cell 3 (some .int), .constant RL 14 (40503), .constant RL 15 (739982445), .constant RL 16 (695872825), .methodLink RL 8 yL_stirred, .static yL_stirred, .code yL_stirred cL_stirred 6 (some .int), .constant RL 7 (16777619)])
def wsL_fills_r1 : List Cond := [Cond.methodLink RL 26 yL_size, Cond.static yL_size, Cond.initialized RL, Cond.code yL_size cL_size 3 (some .int), Cond.constant RL 25 (1000000), Cond.methodLink RL 21 yL_some, Cond.static yL_some, Cond.code yL_some cL_some 3 (some .int), Cond.methodLink RL 17 yL_cell, Cond.static yL_cell, Cond.code yL_cell cL_cell 3 (some .int), Cond.constant RL 14 (40503), Cond.constant RL 15 (739982445), Cond.constant RL 16 (695872825), Cond.methodLink RL 8 yL_stirred, Cond.static yL_stirred, Cond.code yL_stirred cL_stirred 6 (some .int), Cond.constant RL 7 (16777619), Cond.methodLink RL 29 yX7_set, Cond.instanceMethod yX7_set, Cond.selects RX7 yX7_set yX7_set, Cond.initialized RX7, Cond.code yX7_set cX7_set 4 (some .int), Cond.constant RX7 66 (1000000)]
def wsL_fills_r2 : List Cond := [Cond.methodLink RX7 62 yX7_isRegister, Cond.static yX7_isRegister, Cond.code yX7_isRegister cX7_isRegister 1 (some .boolean), Cond.methodLink RX7 67 yX7_isIn, Cond.static yX7_isIn, Cond.code yX7_isIn cX7_isIn 3 (some .boolean), Cond.methodLink RX7 71 yX7_store, Cond.instanceMethod yX7_store, Cond.selects RX7 yX7_store yX7_store, Cond.code yX7_store cX7_store 12 (some .int), Cond.constantLong RX7 138 (1000000), Cond.fieldLink RX7 9 "SternBrocotExplorer" "tops" "[I", Cond.fieldLink RX7 13 "SternBrocotExplorer" "bottoms" "[I", Cond.methodLink RX7 189 yX7_gcd, Cond.static yX7_gcd, Cond.code yX7_gcd cX7_gcd 11 (some .long), Cond.methodLink RX7 165 yX7_quotient, Cond.static yX7_quotient, Cond.code yX7_quotient cX7_quotient 4 (some .long)]
def wsL_fills : List Cond := .code yL_fills cL_fills 4 (some .boolean) :: ((wsL_fills_r1 ++ wsL_fills_r2) ++ wsX70)
def wsL_law_r1 : List Cond := [Cond.classLink RL 30 RX7, Cond.instantiable RX7 16, Cond.initialized RX7, Cond.methodLink RL 35 yX7_init, Cond.instanceMethod yX7_init, Cond.code yX7_init cX7_init 2 none, Cond.methodLink RX7 1 objectInit, Cond.instanceMethod objectInit, Cond.code objectInit ⟨#[0xb1]⟩ 1 none, Cond.arrayClass .int, Cond.fieldLink RX7 9 "SternBrocotExplorer" "tops" "[I", Cond.fieldLink RX7 13 "SternBrocotExplorer" "bottoms" "[I", Cond.classLink RX7 16 RX3, Cond.fieldLink RX7 18 "SternBrocotExplorer" "slots" "[LSternBrocotExplorer$Node;", Cond.fieldLink RX7 22 "SternBrocotExplorer" "savedTops" "[I", Cond.fieldLink RX7 25 "SternBrocotExplorer" "savedBottoms" "[I", Cond.fieldLink RX7 28 "SternBrocotExplorer" "savedSlots" "[LSternBrocotExplorer$Node;", Cond.fieldLink RX7 31 "SternBrocotExplorer" "termList" "[I", Cond.fieldLink RX7 34 "SternBrocotExplorer" "text" "[I", Cond.classLink RX7 37 "[[I", Cond.fieldLink RX7 39 "SternBrocotExplorer" "arrays" "[[I", Cond.fieldLink RX7 42 "SternBrocotExplorer" "arraySizes" "[I", Cond.classLink RX7 45 RX1, Cond.instantiable RX1 6]
def wsL_law_r2 : List Cond := [Cond.initialized RX1, Cond.fieldLink RX7 48 "SternBrocotExplorer" "expansion" "LSternBrocotExplorer$Expansion;", Cond.fieldLink RX7 52 "SternBrocotExplorer" "otherExpansion" "LSternBrocotExplorer$Expansion;", Cond.classLink RX7 55 RX4, Cond.instantiable RX4 5, Cond.initialized RX4, Cond.fieldLink RX7 58 "SternBrocotExplorer" "ranking" "LSternBrocotExplorer$Ranking;", Cond.instanceMethod yX1_init, Cond.code yX1_init cX1_init 1 none, Cond.methodLink RX1 3 objectInit, Cond.fieldLink RX1 9 "SternBrocotExplorer$Expansion" "terms" "[I", Cond.instanceMethod yX4_init, Cond.code yX4_init cX4_init 1 none, Cond.methodLink RX4 1 objectInit, Cond.fieldLink RX4 9 "SternBrocotExplorer$Ranking" "rankedTops" "[I", Cond.fieldLink RX4 13 "SternBrocotExplorer$Ranking" "rankedBottoms" "[I", Cond.fieldLink RX4 16 "SternBrocotExplorer$Ranking" "keys" "[I", Cond.fieldLink RX4 19 "SternBrocotExplorer$Ranking" "tally" "[I", Cond.methodLink RL 36 yL_fills, Cond.static yL_fills, Cond.initialized RL, Cond.code yL_fills cL_fills 4 (some .boolean), Cond.methodLink RL 26 yL_size, Cond.static yL_size]
def wsL_law_r3 : List Cond := [Cond.code yL_size cL_size 3 (some .int), Cond.constant RL 25 (1000000), Cond.methodLink RL 21 yL_some, Cond.static yL_some, Cond.code yL_some cL_some 3 (some .int), Cond.methodLink RL 17 yL_cell, Cond.static yL_cell, Cond.code yL_cell cL_cell 3 (some .int), Cond.constant RL 14 (40503), Cond.constant RL 15 (739982445), Cond.constant RL 16 (695872825), Cond.methodLink RL 8 yL_stirred, Cond.static yL_stirred, Cond.code yL_stirred cL_stirred 6 (some .int), Cond.constant RL 7 (16777619), Cond.methodLink RL 29 yX7_set, Cond.instanceMethod yX7_set, Cond.selects RX7 yX7_set yX7_set, Cond.code yX7_set cX7_set 4 (some .int), Cond.constant RX7 66 (1000000), Cond.methodLink RX7 62 yX7_isRegister, Cond.static yX7_isRegister, Cond.code yX7_isRegister cX7_isRegister 1 (some .boolean), Cond.methodLink RX7 67 yX7_isIn]
def wsL_law_r4 : List Cond := [Cond.static yX7_isIn, Cond.code yX7_isIn cX7_isIn 3 (some .boolean), Cond.methodLink RX7 71 yX7_store, Cond.instanceMethod yX7_store, Cond.selects RX7 yX7_store yX7_store, Cond.code yX7_store cX7_store 12 (some .int), Cond.constantLong RX7 138 (1000000), Cond.methodLink RX7 189 yX7_gcd, Cond.static yX7_gcd, Cond.code yX7_gcd cX7_gcd 11 (some .long), Cond.methodLink RX7 165 yX7_quotient, Cond.static yX7_quotient, Cond.code yX7_quotient cX7_quotient 4 (some .long), Cond.methodLink RL 40 yX7_compare, Cond.instanceMethod yX7_compare, Cond.selects RX7 yX7_compare yX7_compare, Cond.code yX7_compare cX7_compare 5 (some .int), Cond.methodLink RX7 75 yX7_crossDifference, Cond.instanceMethod yX7_crossDifference, Cond.selects RX7 yX7_crossDifference yX7_crossDifference, Cond.code yX7_crossDifference cX7_crossDifference 3 (some .long), Cond.methodLink RL 44 yX7_commonAncestor, Cond.instanceMethod yX7_commonAncestor, Cond.selects RX7 yX7_commonAncestor yX7_commonAncestor]
def wsL_law_r5 : List Cond := [Cond.code yX7_commonAncestor cX7_commonAncestor 6 (some .int), Cond.methodLink RX7 81 yX7_expand, Cond.instanceMethod yX7_expand, Cond.selects RX7 yX7_expand yX7_expand, Cond.code yX7_expand cX7_expand 2 (some (.object "SternBrocotExplorer$Expansion")), Cond.methodLink RX7 117 yX1_expand, Cond.instanceMethod yX1_expand, Cond.selects RX1 yX1_expand yX1_expand, Cond.code yX1_expand cX1_expand 7 none, Cond.fieldLink RX1 15 "SternBrocotExplorer$Expansion" "size" "I", Cond.methodLink RX1 19 yX1_append, Cond.instanceMethod yX1_append, Cond.selects RX1 yX1_append yX1_append, Cond.code yX1_append cX1_append 2 none, Cond.methodLink RX7 120 yX1_commonSteps, Cond.instanceMethod yX1_commonSteps, Cond.selects RX1 yX1_commonSteps yX1_commonSteps, Cond.code yX1_commonSteps cX1_commonSteps 6 (some .int), Cond.methodLink RX1 31 yX1_runAt, Cond.instanceMethod yX1_runAt, Cond.selects RX1 yX1_runAt yX1_runAt, Cond.code yX1_runAt cX1_runAt 2 (some .int), Cond.methodLink RX1 27 yX1_at, Cond.instanceMethod yX1_at]
def wsL_law_r6 : List Cond := [Cond.selects RX1 yX1_at yX1_at, Cond.code yX1_at cX1_at 2 (some .int), Cond.methodLink RX7 99 yX1_cutToDepth, Cond.instanceMethod yX1_cutToDepth, Cond.selects RX1 yX1_cutToDepth yX1_cutToDepth, Cond.code yX1_cutToDepth cX1_cutToDepth 5 none, Cond.methodLink RX7 93 yX1_size, Cond.instanceMethod yX1_size, Cond.selects RX1 yX1_size yX1_size, Cond.code yX1_size cX1_size 1 (some .int), Cond.methodLink RX7 103 yX7_storeConvergent, Cond.instanceMethod yX7_storeConvergent, Cond.selects RX7 yX7_storeConvergent yX7_storeConvergent, Cond.code yX7_storeConvergent cX7_storeConvergent 4 (some .int), Cond.methodLink RX7 127 yX1_convergentTop, Cond.instanceMethod yX1_convergentTop, Cond.selects RX1 yX1_convergentTop yX1_convergentTop, Cond.code yX1_convergentTop cX1_convergentTop 2 (some .long), Cond.methodLink RX1 34 yX1_lastByRule, Cond.instanceMethod yX1_lastByRule, Cond.selects RX1 yX1_lastByRule yX1_lastByRule, Cond.code yX1_lastByRule cX1_lastByRule 13 (some .long), Cond.methodLink RX7 199 yX1_convergentBottom, Cond.instanceMethod yX1_convergentBottom]
def wsL_law_r7 : List Cond := [Cond.selects RX1 yX1_convergentBottom yX1_convergentBottom, Cond.code yX1_convergentBottom cX1_convergentBottom 2 (some .long), Cond.methodLink RL 47 yX7_simplestBetween, Cond.instanceMethod yX7_simplestBetween, Cond.selects RX7 yX7_simplestBetween yX7_simplestBetween, Cond.code yX7_simplestBetween cX7_simplestBetween 4 (some .int), Cond.methodLink RX7 147 yX1_becomeSimplestBetween, Cond.instanceMethod yX1_becomeSimplestBetween, Cond.selects RX1 yX1_becomeSimplestBetween yX1_becomeSimplestBetween, Cond.code yX1_becomeSimplestBetween cX1_becomeSimplestBetween 20 none, Cond.methodLink RL 50 yX7_depth, Cond.instanceMethod yX7_depth, Cond.selects RX7 yX7_depth yX7_depth, Cond.code yX7_depth cX7_depth 2 (some .int), Cond.methodLink RX7 85 yX1_stepCount, Cond.instanceMethod yX1_stepCount, Cond.selects RX1 yX1_stepCount yX1_stepCount, Cond.code yX1_stepCount cX1_stepCount 3 (some .int)]
def wsL_law : List Cond := (wsL_law_r1 ++ (wsL_law_r2 ++ (wsL_law_r3 ++ (wsL_law_r4 ++ (wsL_law_r5 ++ (wsL_law_r6 ++ wsL_law_r7)))))) ++ wsX70 ++ wsX10 ++ wsX40 ++ ([] : List Cond)
abbrev vwCl : List vw_C := [(RX1, TX1, 6), (RX4, TX4, 5), (RX7, TX7, 16)]
end
section
theorem dX1_init_0 : decode cX1_init 0 = .ok (.aload_n 0, 1) := by decide +kernel
theorem dX1_init_1 : decode cX1_init 1 = .ok (.invokespecial 3, 3) := by decide +kernel
theorem dX1_init_4 : decode cX1_init 4 = .ok (.aload_n 0, 1) := by decide +kernel
theorem dX1_init_5 : decode cX1_init 5 = .ok (.bipush 64, 2) := by decide +kernel
theorem dX1_init_7 : decode cX1_init 7 = .ok (.newarray .int, 2) := by decide +kernel
theorem dX1_init_9 : decode cX1_init 9 = .ok (.putfield 9, 3) := by decide +kernel
theorem dX1_init_12 : decode cX1_init 12 = .ok (.return_, 1) := by decide +kernel
set_option maxRecDepth 20000 in
theorem ggX1_expand_X1_append : GoodIn wsX1_expand wsX1_append := goodIn_r _ [6, 1, 7, 8, 9, 10, 11, 12, 13] (by decide +kernel) (by decide +kernel)
set_option maxRecDepth 20000 in
theorem gX1_expand_X1_append : GoodIn wsX1_expand (wsV RX1 19 RX1 yX1_append wsX1_append) := goodIn_app (goodIn_of _ (by decide +kernel)) ggX1_expand_X1_append
theorem dX1_expand_0 : decode cX1_expand 0 = .ok (.iload_n 1, 1) := by decide +kernel
theorem dX1_expand_1 : decode cX1_expand 1 = .ok (.istore_n 3, 1) := by decide +kernel
theorem dX1_expand_2 : decode cX1_expand 2 = .ok (.iload_n 2, 1) := by decide +kernel
theorem dX1_expand_3 : decode cX1_expand 3 = .ok (.istore 4, 2) := by decide +kernel
theorem dX1_expand_5 : decode cX1_expand 5 = .ok (.aload_n 0, 1) := by decide +kernel
theorem dX1_expand_6 : decode cX1_expand 6 = .ok (.iconst 0, 1) := by decide +kernel
theorem dX1_expand_7 : decode cX1_expand 7 = .ok (.putfield 15, 3) := by decide +kernel
theorem dX1_expand_10 : decode cX1_expand 10 = .ok (.iconst 0, 1) := by decide +kernel
theorem dX1_expand_11 : decode cX1_expand 11 = .ok (.istore 5, 2) := by decide +kernel
theorem dX1_expand_13 : decode cX1_expand 13 = .ok (.iload 5, 2) := by decide +kernel
theorem dX1_expand_15 : decode cX1_expand 15 = .ok (.bipush 64, 2) := by decide +kernel
theorem dX1_expand_17 : decode cX1_expand 17 = .ok (.if_icmp .ge 35, 3) := by decide +kernel
theorem dX1_expand_20 : decode cX1_expand 20 = .ok (.iload 4, 2) := by decide +kernel
theorem dX1_expand_22 : decode cX1_expand 22 = .ok (.ifCond .le 30, 3) := by decide +kernel
theorem dX1_expand_25 : decode cX1_expand 25 = .ok (.aload_n 0, 1) := by decide +kernel
theorem dX1_expand_26 : decode cX1_expand 26 = .ok (.iload_n 3, 1) := by decide +kernel
theorem dX1_expand_27 : decode cX1_expand 27 = .ok (.iload 4, 2) := by decide +kernel
theorem dX1_expand_29 : decode cX1_expand 29 = .ok (.idiv, 1) := by decide +kernel
theorem dX1_expand_30 : decode cX1_expand 30 = .ok (.invokevirtual 19, 3) := by decide +kernel
theorem dX1_expand_33 : decode cX1_expand 33 = .ok (.iload_n 3, 1) := by decide +kernel
theorem dX1_expand_34 : decode cX1_expand 34 = .ok (.iload 4, 2) := by decide +kernel
theorem dX1_expand_36 : decode cX1_expand 36 = .ok (.irem, 1) := by decide +kernel
theorem dX1_expand_37 : decode cX1_expand 37 = .ok (.istore 6, 2) := by decide +kernel
theorem dX1_expand_39 : decode cX1_expand 39 = .ok (.iload 4, 2) := by decide +kernel
theorem dX1_expand_41 : decode cX1_expand 41 = .ok (.istore_n 3, 1) := by decide +kernel
theorem dX1_expand_42 : decode cX1_expand 42 = .ok (.iload 6, 2) := by decide +kernel
theorem dX1_expand_44 : decode cX1_expand 44 = .ok (.istore 4, 2) := by decide +kernel
theorem dX1_expand_46 : decode cX1_expand 46 = .ok (.iinc 5 1, 3) := by decide +kernel
theorem dX1_expand_49 : decode cX1_expand 49 = .ok (.goto (-36), 3) := by decide +kernel
theorem dX1_expand_52 : decode cX1_expand 52 = .ok (.return_, 1) := by decide +kernel
set_option maxRecDepth 20000 in
theorem ggX1_becomeSimplestBetween_X7_quotient : GoodIn wsX1_becomeSimplestBetween wsX7_quotient := goodIn_r _ [4] (by decide +kernel) (by decide +kernel)
set_option maxRecDepth 20000 in
theorem gX1_becomeSimplestBetween_X7_quotient_n23 : GoodIn wsX1_becomeSimplestBetween (wsX7_quotient) := ggX1_becomeSimplestBetween_X7_quotient
set_option maxRecDepth 20000 in
theorem ggX1_becomeSimplestBetween_X1_append : GoodIn wsX1_becomeSimplestBetween wsX1_append := goodIn_r _ [9, 1, 10, 11, 12, 13, 14, 15, 16] (by decide +kernel) (by decide +kernel)
set_option maxRecDepth 20000 in
theorem gX1_becomeSimplestBetween_X1_append : GoodIn wsX1_becomeSimplestBetween (wsV RX1 19 RX1 yX1_append wsX1_append) := goodIn_app (goodIn_of _ (by decide +kernel)) ggX1_becomeSimplestBetween_X1_append
theorem dX1_becomeSimplestBetween_0 : decode cX1_becomeSimplestBetween 0 = .ok (.iload_n 1, 1) := by decide +kernel
theorem dX1_becomeSimplestBetween_1 : decode cX1_becomeSimplestBetween 1 = .ok (.i2l, 1) := by decide +kernel
theorem dX1_becomeSimplestBetween_2 : decode cX1_becomeSimplestBetween 2 = .ok (.lstore 5, 2) := by decide +kernel
theorem dX1_becomeSimplestBetween_4 : decode cX1_becomeSimplestBetween 4 = .ok (.iload_n 2, 1) := by decide +kernel
theorem dX1_becomeSimplestBetween_5 : decode cX1_becomeSimplestBetween 5 = .ok (.i2l, 1) := by decide +kernel
theorem dX1_becomeSimplestBetween_6 : decode cX1_becomeSimplestBetween 6 = .ok (.lstore 7, 2) := by decide +kernel
theorem dX1_becomeSimplestBetween_8 : decode cX1_becomeSimplestBetween 8 = .ok (.iload_n 3, 1) := by decide +kernel
theorem dX1_becomeSimplestBetween_9 : decode cX1_becomeSimplestBetween 9 = .ok (.i2l, 1) := by decide +kernel
theorem dX1_becomeSimplestBetween_10 : decode cX1_becomeSimplestBetween 10 = .ok (.lstore 9, 2) := by decide +kernel
theorem dX1_becomeSimplestBetween_12 : decode cX1_becomeSimplestBetween 12 = .ok (.iload 4, 2) := by decide +kernel
theorem dX1_becomeSimplestBetween_14 : decode cX1_becomeSimplestBetween 14 = .ok (.i2l, 1) := by decide +kernel
theorem dX1_becomeSimplestBetween_15 : decode cX1_becomeSimplestBetween 15 = .ok (.lstore 11, 2) := by decide +kernel
theorem dX1_becomeSimplestBetween_17 : decode cX1_becomeSimplestBetween 17 = .ok (.aload_n 0, 1) := by decide +kernel
theorem dX1_becomeSimplestBetween_18 : decode cX1_becomeSimplestBetween 18 = .ok (.iconst 0, 1) := by decide +kernel
theorem dX1_becomeSimplestBetween_19 : decode cX1_becomeSimplestBetween 19 = .ok (.putfield 15, 3) := by decide +kernel
theorem dX1_becomeSimplestBetween_22 : decode cX1_becomeSimplestBetween 22 = .ok (.iconst 0, 1) := by decide +kernel
theorem dX1_becomeSimplestBetween_23 : decode cX1_becomeSimplestBetween 23 = .ok (.istore 13, 2) := by decide +kernel
theorem dX1_becomeSimplestBetween_25 : decode cX1_becomeSimplestBetween 25 = .ok (.iload 13, 2) := by decide +kernel
theorem dX1_becomeSimplestBetween_27 : decode cX1_becomeSimplestBetween 27 = .ok (.bipush 64, 2) := by decide +kernel
theorem dX1_becomeSimplestBetween_29 : decode cX1_becomeSimplestBetween 29 = .ok (.if_icmp .ge 84, 3) := by decide +kernel
theorem dX1_becomeSimplestBetween_32 : decode cX1_becomeSimplestBetween 32 = .ok (.lload 5, 2) := by decide +kernel
theorem dX1_becomeSimplestBetween_34 : decode cX1_becomeSimplestBetween 34 = .ok (.lload 7, 2) := by decide +kernel
theorem dX1_becomeSimplestBetween_36 : decode cX1_becomeSimplestBetween 36 = .ok (.invokestatic 23, 3) := by decide +kernel
theorem dX1_becomeSimplestBetween_39 : decode cX1_becomeSimplestBetween 39 = .ok (.lstore 14, 2) := by decide +kernel
theorem dX1_becomeSimplestBetween_41 : decode cX1_becomeSimplestBetween 41 = .ok (.lload 14, 2) := by decide +kernel
theorem dX1_becomeSimplestBetween_43 : decode cX1_becomeSimplestBetween 43 = .ok (.lconst 1, 1) := by decide +kernel
theorem dX1_becomeSimplestBetween_44 : decode cX1_becomeSimplestBetween 44 = .ok (.ladd, 1) := by decide +kernel
theorem dX1_becomeSimplestBetween_45 : decode cX1_becomeSimplestBetween 45 = .ok (.lload 11, 2) := by decide +kernel
theorem dX1_becomeSimplestBetween_47 : decode cX1_becomeSimplestBetween 47 = .ok (.lmul, 1) := by decide +kernel
theorem dX1_becomeSimplestBetween_48 : decode cX1_becomeSimplestBetween 48 = .ok (.lload 9, 2) := by decide +kernel
theorem dX1_becomeSimplestBetween_50 : decode cX1_becomeSimplestBetween 50 = .ok (.lcmp, 1) := by decide +kernel
theorem dX1_becomeSimplestBetween_51 : decode cX1_becomeSimplestBetween 51 = .ok (.ifCond .ge 13, 3) := by decide +kernel
theorem dX1_becomeSimplestBetween_54 : decode cX1_becomeSimplestBetween 54 = .ok (.aload_n 0, 1) := by decide +kernel
theorem dX1_becomeSimplestBetween_55 : decode cX1_becomeSimplestBetween 55 = .ok (.lload 14, 2) := by decide +kernel
theorem dX1_becomeSimplestBetween_57 : decode cX1_becomeSimplestBetween 57 = .ok (.l2i, 1) := by decide +kernel
theorem dX1_becomeSimplestBetween_58 : decode cX1_becomeSimplestBetween 58 = .ok (.iconst 1, 1) := by decide +kernel
theorem dX1_becomeSimplestBetween_59 : decode cX1_becomeSimplestBetween 59 = .ok (.iadd, 1) := by decide +kernel
theorem dX1_becomeSimplestBetween_60 : decode cX1_becomeSimplestBetween 60 = .ok (.invokevirtual 19, 3) := by decide +kernel
theorem dX1_becomeSimplestBetween_63 : decode cX1_becomeSimplestBetween 63 = .ok (.return_, 1) := by decide +kernel
theorem dX1_becomeSimplestBetween_64 : decode cX1_becomeSimplestBetween 64 = .ok (.aload_n 0, 1) := by decide +kernel
theorem dX1_becomeSimplestBetween_65 : decode cX1_becomeSimplestBetween 65 = .ok (.lload 14, 2) := by decide +kernel
theorem dX1_becomeSimplestBetween_67 : decode cX1_becomeSimplestBetween 67 = .ok (.l2i, 1) := by decide +kernel
theorem dX1_becomeSimplestBetween_68 : decode cX1_becomeSimplestBetween 68 = .ok (.invokevirtual 19, 3) := by decide +kernel
theorem dX1_becomeSimplestBetween_71 : decode cX1_becomeSimplestBetween 71 = .ok (.lload 5, 2) := by decide +kernel
theorem dX1_becomeSimplestBetween_73 : decode cX1_becomeSimplestBetween 73 = .ok (.lload 14, 2) := by decide +kernel
theorem dX1_becomeSimplestBetween_75 : decode cX1_becomeSimplestBetween 75 = .ok (.lload 7, 2) := by decide +kernel
theorem dX1_becomeSimplestBetween_77 : decode cX1_becomeSimplestBetween 77 = .ok (.lmul, 1) := by decide +kernel
theorem dX1_becomeSimplestBetween_78 : decode cX1_becomeSimplestBetween 78 = .ok (.lsub, 1) := by decide +kernel
theorem dX1_becomeSimplestBetween_79 : decode cX1_becomeSimplestBetween 79 = .ok (.lstore 16, 2) := by decide +kernel
theorem dX1_becomeSimplestBetween_81 : decode cX1_becomeSimplestBetween 81 = .ok (.lload 9, 2) := by decide +kernel
theorem dX1_becomeSimplestBetween_83 : decode cX1_becomeSimplestBetween 83 = .ok (.lload 14, 2) := by decide +kernel
theorem dX1_becomeSimplestBetween_85 : decode cX1_becomeSimplestBetween 85 = .ok (.lload 11, 2) := by decide +kernel
theorem dX1_becomeSimplestBetween_87 : decode cX1_becomeSimplestBetween 87 = .ok (.lmul, 1) := by decide +kernel
theorem dX1_becomeSimplestBetween_88 : decode cX1_becomeSimplestBetween 88 = .ok (.lsub, 1) := by decide +kernel
theorem dX1_becomeSimplestBetween_89 : decode cX1_becomeSimplestBetween 89 = .ok (.lstore 18, 2) := by decide +kernel
theorem dX1_becomeSimplestBetween_91 : decode cX1_becomeSimplestBetween 91 = .ok (.lload 11, 2) := by decide +kernel
theorem dX1_becomeSimplestBetween_93 : decode cX1_becomeSimplestBetween 93 = .ok (.lstore 5, 2) := by decide +kernel
theorem dX1_becomeSimplestBetween_95 : decode cX1_becomeSimplestBetween 95 = .ok (.lload 7, 2) := by decide +kernel
theorem dX1_becomeSimplestBetween_97 : decode cX1_becomeSimplestBetween 97 = .ok (.lstore 9, 2) := by decide +kernel
theorem dX1_becomeSimplestBetween_99 : decode cX1_becomeSimplestBetween 99 = .ok (.lload 18, 2) := by decide +kernel
theorem dX1_becomeSimplestBetween_101 : decode cX1_becomeSimplestBetween 101 = .ok (.lstore 7, 2) := by decide +kernel
theorem dX1_becomeSimplestBetween_103 : decode cX1_becomeSimplestBetween 103 = .ok (.lload 16, 2) := by decide +kernel
theorem dX1_becomeSimplestBetween_105 : decode cX1_becomeSimplestBetween 105 = .ok (.lstore 11, 2) := by decide +kernel
theorem dX1_becomeSimplestBetween_107 : decode cX1_becomeSimplestBetween 107 = .ok (.iinc 13 1, 3) := by decide +kernel
theorem dX1_becomeSimplestBetween_110 : decode cX1_becomeSimplestBetween 110 = .ok (.goto (-85), 3) := by decide +kernel
theorem dX1_becomeSimplestBetween_113 : decode cX1_becomeSimplestBetween 113 = .ok (.return_, 1) := by decide +kernel
theorem dX1_append_0 : decode cX1_append 0 = .ok (.aload_n 0, 1) := by decide +kernel
theorem dX1_append_1 : decode cX1_append 1 = .ok (.getfield 15, 3) := by decide +kernel
theorem dX1_append_4 : decode cX1_append 4 = .ok (.bipush 64, 2) := by decide +kernel
theorem dX1_append_6 : decode cX1_append 6 = .ok (.if_icmp .ge 23, 3) := by decide +kernel
theorem dX1_append_9 : decode cX1_append 9 = .ok (.aload_n 0, 1) := by decide +kernel
theorem dX1_append_10 : decode cX1_append 10 = .ok (.getfield 9, 3) := by decide +kernel
theorem dX1_append_13 : decode cX1_append 13 = .ok (.aload_n 0, 1) := by decide +kernel
theorem dX1_append_14 : decode cX1_append 14 = .ok (.getfield 15, 3) := by decide +kernel
theorem dX1_append_17 : decode cX1_append 17 = .ok (.iload_n 1, 1) := by decide +kernel
theorem dX1_append_18 : decode cX1_append 18 = .ok (.iastore, 1) := by decide +kernel
theorem dX1_append_19 : decode cX1_append 19 = .ok (.aload_n 0, 1) := by decide +kernel
theorem dX1_append_20 : decode cX1_append 20 = .ok (.dup, 1) := by decide +kernel
theorem dX1_append_21 : decode cX1_append 21 = .ok (.getfield 15, 3) := by decide +kernel
theorem dX1_append_24 : decode cX1_append 24 = .ok (.iconst 1, 1) := by decide +kernel
theorem dX1_append_25 : decode cX1_append 25 = .ok (.iadd, 1) := by decide +kernel
theorem dX1_append_26 : decode cX1_append 26 = .ok (.putfield 15, 3) := by decide +kernel
theorem dX1_append_29 : decode cX1_append 29 = .ok (.return_, 1) := by decide +kernel
theorem dX1_size_0 : decode cX1_size 0 = .ok (.aload_n 0, 1) := by decide +kernel
theorem dX1_size_1 : decode cX1_size 1 = .ok (.getfield 15, 3) := by decide +kernel
theorem dX1_size_4 : decode cX1_size 4 = .ok (.ireturn, 1) := by decide +kernel
theorem dX1_at_0 : decode cX1_at 0 = .ok (.iload_n 1, 1) := by decide +kernel
theorem dX1_at_1 : decode cX1_at 1 = .ok (.ifCond .lt 20, 3) := by decide +kernel
theorem dX1_at_4 : decode cX1_at 4 = .ok (.iload_n 1, 1) := by decide +kernel
theorem dX1_at_5 : decode cX1_at 5 = .ok (.aload_n 0, 1) := by decide +kernel
theorem dX1_at_6 : decode cX1_at 6 = .ok (.getfield 15, 3) := by decide +kernel
theorem dX1_at_9 : decode cX1_at 9 = .ok (.if_icmp .ge 12, 3) := by decide +kernel
theorem dX1_at_12 : decode cX1_at 12 = .ok (.aload_n 0, 1) := by decide +kernel
theorem dX1_at_13 : decode cX1_at 13 = .ok (.getfield 9, 3) := by decide +kernel
theorem dX1_at_16 : decode cX1_at 16 = .ok (.iload_n 1, 1) := by decide +kernel
theorem dX1_at_17 : decode cX1_at 17 = .ok (.iaload, 1) := by decide +kernel
theorem dX1_at_18 : decode cX1_at 18 = .ok (.goto 4, 3) := by decide +kernel
theorem dX1_at_21 : decode cX1_at 21 = .ok (.iconst 0, 1) := by decide +kernel
theorem dX1_at_22 : decode cX1_at 22 = .ok (.ireturn, 1) := by decide +kernel
set_option maxRecDepth 20000 in
theorem ggX1_runAt_X1_at : GoodIn wsX1_runAt wsX1_at := goodIn_r _ [6, 1, 7, 8, 9, 10, 11, 12, 13] (by decide +kernel) (by decide +kernel)
set_option maxRecDepth 20000 in
theorem gX1_runAt_X1_at : GoodIn wsX1_runAt (wsV RX1 27 RX1 yX1_at wsX1_at) := goodIn_app (goodIn_of _ (by decide +kernel)) ggX1_runAt_X1_at
theorem dX1_runAt_0 : decode cX1_runAt 0 = .ok (.iload_n 1, 1) := by decide +kernel
theorem dX1_runAt_1 : decode cX1_runAt 1 = .ok (.aload_n 0, 1) := by decide +kernel
theorem dX1_runAt_2 : decode cX1_runAt 2 = .ok (.getfield 15, 3) := by decide +kernel
theorem dX1_runAt_5 : decode cX1_runAt 5 = .ok (.iconst 1, 1) := by decide +kernel
theorem dX1_runAt_6 : decode cX1_runAt 6 = .ok (.isub, 1) := by decide +kernel
theorem dX1_runAt_7 : decode cX1_runAt 7 = .ok (.if_icmp .ne 13, 3) := by decide +kernel
theorem dX1_runAt_10 : decode cX1_runAt 10 = .ok (.aload_n 0, 1) := by decide +kernel
theorem dX1_runAt_11 : decode cX1_runAt 11 = .ok (.iload_n 1, 1) := by decide +kernel
theorem dX1_runAt_12 : decode cX1_runAt 12 = .ok (.invokevirtual 27, 3) := by decide +kernel
theorem dX1_runAt_15 : decode cX1_runAt 15 = .ok (.iconst 1, 1) := by decide +kernel
theorem dX1_runAt_16 : decode cX1_runAt 16 = .ok (.isub, 1) := by decide +kernel
theorem dX1_runAt_17 : decode cX1_runAt 17 = .ok (.goto 8, 3) := by decide +kernel
theorem dX1_runAt_20 : decode cX1_runAt 20 = .ok (.aload_n 0, 1) := by decide +kernel
theorem dX1_runAt_21 : decode cX1_runAt 21 = .ok (.iload_n 1, 1) := by decide +kernel
theorem dX1_runAt_22 : decode cX1_runAt 22 = .ok (.invokevirtual 27, 3) := by decide +kernel
theorem dX1_runAt_25 : decode cX1_runAt 25 = .ok (.ireturn, 1) := by decide +kernel
set_option maxRecDepth 20000 in
theorem ggX1_stepCount_X1_runAt : GoodIn wsX1_stepCount wsX1_runAt := goodIn_r _ [6, 1, 7, 8, 9, 5, 10, 11, 12, 13, 14, 15, 16, 17] (by decide +kernel) (by decide +kernel)
set_option maxRecDepth 20000 in
theorem gX1_stepCount_X1_runAt : GoodIn wsX1_stepCount (wsV RX1 31 RX1 yX1_runAt wsX1_runAt) := goodIn_app (goodIn_of _ (by decide +kernel)) ggX1_stepCount_X1_runAt
theorem dX1_stepCount_0 : decode cX1_stepCount 0 = .ok (.iconst 0, 1) := by decide +kernel
theorem dX1_stepCount_1 : decode cX1_stepCount 1 = .ok (.istore_n 1, 1) := by decide +kernel
theorem dX1_stepCount_2 : decode cX1_stepCount 2 = .ok (.iconst 0, 1) := by decide +kernel
theorem dX1_stepCount_3 : decode cX1_stepCount 3 = .ok (.istore_n 2, 1) := by decide +kernel
theorem dX1_stepCount_4 : decode cX1_stepCount 4 = .ok (.iload_n 2, 1) := by decide +kernel
theorem dX1_stepCount_5 : decode cX1_stepCount 5 = .ok (.aload_n 0, 1) := by decide +kernel
theorem dX1_stepCount_6 : decode cX1_stepCount 6 = .ok (.getfield 15, 3) := by decide +kernel
theorem dX1_stepCount_9 : decode cX1_stepCount 9 = .ok (.if_icmp .ge 17, 3) := by decide +kernel
theorem dX1_stepCount_12 : decode cX1_stepCount 12 = .ok (.iload_n 1, 1) := by decide +kernel
theorem dX1_stepCount_13 : decode cX1_stepCount 13 = .ok (.aload_n 0, 1) := by decide +kernel
theorem dX1_stepCount_14 : decode cX1_stepCount 14 = .ok (.iload_n 2, 1) := by decide +kernel
theorem dX1_stepCount_15 : decode cX1_stepCount 15 = .ok (.invokevirtual 31, 3) := by decide +kernel
theorem dX1_stepCount_18 : decode cX1_stepCount 18 = .ok (.iadd, 1) := by decide +kernel
theorem dX1_stepCount_19 : decode cX1_stepCount 19 = .ok (.istore_n 1, 1) := by decide +kernel
theorem dX1_stepCount_20 : decode cX1_stepCount 20 = .ok (.iinc 2 1, 3) := by decide +kernel
theorem dX1_stepCount_23 : decode cX1_stepCount 23 = .ok (.goto (-19), 3) := by decide +kernel
theorem dX1_stepCount_26 : decode cX1_stepCount 26 = .ok (.iload_n 1, 1) := by decide +kernel
theorem dX1_stepCount_27 : decode cX1_stepCount 27 = .ok (.ireturn, 1) := by decide +kernel
set_option maxRecDepth 20000 in
theorem ggX1_commonSteps_X1_runAt : GoodIn wsX1_commonSteps wsX1_runAt := goodIn_r _ [6, 1, 7, 8, 9, 5, 10, 11, 12, 13, 14, 15, 16, 17] (by decide +kernel) (by decide +kernel)
set_option maxRecDepth 20000 in
theorem gX1_commonSteps_X1_runAt : GoodIn wsX1_commonSteps (wsV RX1 31 RX1 yX1_runAt wsX1_runAt) := goodIn_app (goodIn_of _ (by decide +kernel)) ggX1_commonSteps_X1_runAt
theorem dX1_commonSteps_0 : decode cX1_commonSteps 0 = .ok (.iconst 0, 1) := by decide +kernel
theorem dX1_commonSteps_1 : decode cX1_commonSteps 1 = .ok (.istore_n 2, 1) := by decide +kernel
theorem dX1_commonSteps_2 : decode cX1_commonSteps 2 = .ok (.iconst 0, 1) := by decide +kernel
theorem dX1_commonSteps_3 : decode cX1_commonSteps 3 = .ok (.istore_n 3, 1) := by decide +kernel
theorem dX1_commonSteps_4 : decode cX1_commonSteps 4 = .ok (.iload_n 3, 1) := by decide +kernel
theorem dX1_commonSteps_5 : decode cX1_commonSteps 5 = .ok (.aload_n 0, 1) := by decide +kernel
theorem dX1_commonSteps_6 : decode cX1_commonSteps 6 = .ok (.getfield 15, 3) := by decide +kernel
theorem dX1_commonSteps_9 : decode cX1_commonSteps 9 = .ok (.if_icmp .ge 57, 3) := by decide +kernel
theorem dX1_commonSteps_12 : decode cX1_commonSteps 12 = .ok (.iload_n 3, 1) := by decide +kernel
theorem dX1_commonSteps_13 : decode cX1_commonSteps 13 = .ok (.aload_n 1, 1) := by decide +kernel
theorem dX1_commonSteps_14 : decode cX1_commonSteps 14 = .ok (.getfield 15, 3) := by decide +kernel
theorem dX1_commonSteps_17 : decode cX1_commonSteps 17 = .ok (.if_icmp .ge 49, 3) := by decide +kernel
theorem dX1_commonSteps_20 : decode cX1_commonSteps 20 = .ok (.aload_n 0, 1) := by decide +kernel
theorem dX1_commonSteps_21 : decode cX1_commonSteps 21 = .ok (.iload_n 3, 1) := by decide +kernel
theorem dX1_commonSteps_22 : decode cX1_commonSteps 22 = .ok (.invokevirtual 31, 3) := by decide +kernel
theorem dX1_commonSteps_25 : decode cX1_commonSteps 25 = .ok (.istore 4, 2) := by decide +kernel
theorem dX1_commonSteps_27 : decode cX1_commonSteps 27 = .ok (.aload_n 1, 1) := by decide +kernel
theorem dX1_commonSteps_28 : decode cX1_commonSteps 28 = .ok (.iload_n 3, 1) := by decide +kernel
theorem dX1_commonSteps_29 : decode cX1_commonSteps 29 = .ok (.invokevirtual 31, 3) := by decide +kernel
theorem dX1_commonSteps_32 : decode cX1_commonSteps 32 = .ok (.istore 5, 2) := by decide +kernel
theorem dX1_commonSteps_34 : decode cX1_commonSteps 34 = .ok (.iload_n 2, 1) := by decide +kernel
theorem dX1_commonSteps_35 : decode cX1_commonSteps 35 = .ok (.iload 4, 2) := by decide +kernel
theorem dX1_commonSteps_37 : decode cX1_commonSteps 37 = .ok (.iload 5, 2) := by decide +kernel
theorem dX1_commonSteps_39 : decode cX1_commonSteps 39 = .ok (.if_icmp .ge 8, 3) := by decide +kernel
theorem dX1_commonSteps_42 : decode cX1_commonSteps 42 = .ok (.iload 4, 2) := by decide +kernel
theorem dX1_commonSteps_44 : decode cX1_commonSteps 44 = .ok (.goto 5, 3) := by decide +kernel
theorem dX1_commonSteps_47 : decode cX1_commonSteps 47 = .ok (.iload 5, 2) := by decide +kernel
theorem dX1_commonSteps_49 : decode cX1_commonSteps 49 = .ok (.iadd, 1) := by decide +kernel
theorem dX1_commonSteps_50 : decode cX1_commonSteps 50 = .ok (.istore_n 2, 1) := by decide +kernel
theorem dX1_commonSteps_51 : decode cX1_commonSteps 51 = .ok (.iload 4, 2) := by decide +kernel
theorem dX1_commonSteps_53 : decode cX1_commonSteps 53 = .ok (.iload 5, 2) := by decide +kernel
theorem dX1_commonSteps_55 : decode cX1_commonSteps 55 = .ok (.if_icmp .eq 5, 3) := by decide +kernel
theorem dX1_commonSteps_58 : decode cX1_commonSteps 58 = .ok (.iload_n 2, 1) := by decide +kernel
theorem dX1_commonSteps_59 : decode cX1_commonSteps 59 = .ok (.ireturn, 1) := by decide +kernel
theorem dX1_commonSteps_60 : decode cX1_commonSteps 60 = .ok (.iinc 3 1, 3) := by decide +kernel
theorem dX1_commonSteps_63 : decode cX1_commonSteps 63 = .ok (.goto (-59), 3) := by decide +kernel
theorem dX1_commonSteps_66 : decode cX1_commonSteps 66 = .ok (.iload_n 2, 1) := by decide +kernel
theorem dX1_commonSteps_67 : decode cX1_commonSteps 67 = .ok (.ireturn, 1) := by decide +kernel
set_option maxRecDepth 20000 in
theorem ggX1_cutToDepth_X1_runAt : GoodIn wsX1_cutToDepth wsX1_runAt := goodIn_r _ [7, 1, 8, 9, 10, 6, 11, 2, 12, 13, 14, 15, 16, 17] (by decide +kernel) (by decide +kernel)
set_option maxRecDepth 20000 in
theorem gX1_cutToDepth_X1_runAt : GoodIn wsX1_cutToDepth (wsV RX1 31 RX1 yX1_runAt wsX1_runAt) := goodIn_app (goodIn_of _ (by decide +kernel)) ggX1_cutToDepth_X1_runAt
theorem dX1_cutToDepth_0 : decode cX1_cutToDepth 0 = .ok (.iload_n 1, 1) := by decide +kernel
theorem dX1_cutToDepth_1 : decode cX1_cutToDepth 1 = .ok (.istore_n 2, 1) := by decide +kernel
theorem dX1_cutToDepth_2 : decode cX1_cutToDepth 2 = .ok (.iconst 0, 1) := by decide +kernel
theorem dX1_cutToDepth_3 : decode cX1_cutToDepth 3 = .ok (.istore_n 3, 1) := by decide +kernel
theorem dX1_cutToDepth_4 : decode cX1_cutToDepth 4 = .ok (.iload_n 3, 1) := by decide +kernel
theorem dX1_cutToDepth_5 : decode cX1_cutToDepth 5 = .ok (.aload_n 0, 1) := by decide +kernel
theorem dX1_cutToDepth_6 : decode cX1_cutToDepth 6 = .ok (.getfield 15, 3) := by decide +kernel
theorem dX1_cutToDepth_9 : decode cX1_cutToDepth 9 = .ok (.if_icmp .ge 44, 3) := by decide +kernel
theorem dX1_cutToDepth_12 : decode cX1_cutToDepth 12 = .ok (.aload_n 0, 1) := by decide +kernel
theorem dX1_cutToDepth_13 : decode cX1_cutToDepth 13 = .ok (.iload_n 3, 1) := by decide +kernel
theorem dX1_cutToDepth_14 : decode cX1_cutToDepth 14 = .ok (.invokevirtual 31, 3) := by decide +kernel
theorem dX1_cutToDepth_17 : decode cX1_cutToDepth 17 = .ok (.istore 4, 2) := by decide +kernel
theorem dX1_cutToDepth_19 : decode cX1_cutToDepth 19 = .ok (.iload_n 2, 1) := by decide +kernel
theorem dX1_cutToDepth_20 : decode cX1_cutToDepth 20 = .ok (.iload 4, 2) := by decide +kernel
theorem dX1_cutToDepth_22 : decode cX1_cutToDepth 22 = .ok (.if_icmp .gt 20, 3) := by decide +kernel
theorem dX1_cutToDepth_25 : decode cX1_cutToDepth 25 = .ok (.aload_n 0, 1) := by decide +kernel
theorem dX1_cutToDepth_26 : decode cX1_cutToDepth 26 = .ok (.getfield 9, 3) := by decide +kernel
theorem dX1_cutToDepth_29 : decode cX1_cutToDepth 29 = .ok (.iload_n 3, 1) := by decide +kernel
theorem dX1_cutToDepth_30 : decode cX1_cutToDepth 30 = .ok (.iload_n 2, 1) := by decide +kernel
theorem dX1_cutToDepth_31 : decode cX1_cutToDepth 31 = .ok (.iconst 1, 1) := by decide +kernel
theorem dX1_cutToDepth_32 : decode cX1_cutToDepth 32 = .ok (.iadd, 1) := by decide +kernel
theorem dX1_cutToDepth_33 : decode cX1_cutToDepth 33 = .ok (.iastore, 1) := by decide +kernel
theorem dX1_cutToDepth_34 : decode cX1_cutToDepth 34 = .ok (.aload_n 0, 1) := by decide +kernel
theorem dX1_cutToDepth_35 : decode cX1_cutToDepth 35 = .ok (.iload_n 3, 1) := by decide +kernel
theorem dX1_cutToDepth_36 : decode cX1_cutToDepth 36 = .ok (.iconst 1, 1) := by decide +kernel
theorem dX1_cutToDepth_37 : decode cX1_cutToDepth 37 = .ok (.iadd, 1) := by decide +kernel
theorem dX1_cutToDepth_38 : decode cX1_cutToDepth 38 = .ok (.putfield 15, 3) := by decide +kernel
theorem dX1_cutToDepth_41 : decode cX1_cutToDepth 41 = .ok (.return_, 1) := by decide +kernel
theorem dX1_cutToDepth_42 : decode cX1_cutToDepth 42 = .ok (.iload_n 2, 1) := by decide +kernel
theorem dX1_cutToDepth_43 : decode cX1_cutToDepth 43 = .ok (.iload 4, 2) := by decide +kernel
theorem dX1_cutToDepth_45 : decode cX1_cutToDepth 45 = .ok (.isub, 1) := by decide +kernel
theorem dX1_cutToDepth_46 : decode cX1_cutToDepth 46 = .ok (.istore_n 2, 1) := by decide +kernel
theorem dX1_cutToDepth_47 : decode cX1_cutToDepth 47 = .ok (.iinc 3 1, 3) := by decide +kernel
theorem dX1_cutToDepth_50 : decode cX1_cutToDepth 50 = .ok (.goto (-46), 3) := by decide +kernel
theorem dX1_cutToDepth_53 : decode cX1_cutToDepth 53 = .ok (.return_, 1) := by decide +kernel
set_option maxRecDepth 20000 in
theorem ggX1_convergentTop_X1_lastByRule : GoodIn wsX1_convergentTop wsX1_lastByRule := goodIn_r _ [5, 6, 7, 8, 9, 10, 11, 12, 13] (by decide +kernel) (by decide +kernel)
set_option maxRecDepth 20000 in
theorem gX1_convergentTop_X1_lastByRule : GoodIn wsX1_convergentTop (wsV RX1 34 RX1 yX1_lastByRule wsX1_lastByRule) := goodIn_app (goodIn_of _ (by decide +kernel)) ggX1_convergentTop_X1_lastByRule
theorem dX1_convergentTop_0 : decode cX1_convergentTop 0 = .ok (.aload_n 0, 1) := by decide +kernel
theorem dX1_convergentTop_1 : decode cX1_convergentTop 1 = .ok (.iload_n 1, 1) := by decide +kernel
theorem dX1_convergentTop_2 : decode cX1_convergentTop 2 = .ok (.lconst 0, 1) := by decide +kernel
theorem dX1_convergentTop_3 : decode cX1_convergentTop 3 = .ok (.lconst 1, 1) := by decide +kernel
theorem dX1_convergentTop_4 : decode cX1_convergentTop 4 = .ok (.invokevirtual 34, 3) := by decide +kernel
theorem dX1_convergentTop_7 : decode cX1_convergentTop 7 = .ok (.lreturn, 1) := by decide +kernel
set_option maxRecDepth 20000 in
theorem ggX1_convergentBottom_X1_lastByRule : GoodIn wsX1_convergentBottom wsX1_lastByRule := goodIn_r _ [5, 6, 7, 8, 9, 10, 11, 12, 13] (by decide +kernel) (by decide +kernel)
set_option maxRecDepth 20000 in
theorem gX1_convergentBottom_X1_lastByRule : GoodIn wsX1_convergentBottom (wsV RX1 34 RX1 yX1_lastByRule wsX1_lastByRule) := goodIn_app (goodIn_of _ (by decide +kernel)) ggX1_convergentBottom_X1_lastByRule
theorem dX1_convergentBottom_0 : decode cX1_convergentBottom 0 = .ok (.aload_n 0, 1) := by decide +kernel
theorem dX1_convergentBottom_1 : decode cX1_convergentBottom 1 = .ok (.iload_n 1, 1) := by decide +kernel
theorem dX1_convergentBottom_2 : decode cX1_convergentBottom 2 = .ok (.lconst 1, 1) := by decide +kernel
theorem dX1_convergentBottom_3 : decode cX1_convergentBottom 3 = .ok (.lconst 0, 1) := by decide +kernel
theorem dX1_convergentBottom_4 : decode cX1_convergentBottom 4 = .ok (.invokevirtual 34, 3) := by decide +kernel
theorem dX1_convergentBottom_7 : decode cX1_convergentBottom 7 = .ok (.lreturn, 1) := by decide +kernel
theorem dX1_lastByRule_0 : decode cX1_lastByRule 0 = .ok (.iload_n 1, 1) := by decide +kernel
theorem dX1_lastByRule_1 : decode cX1_lastByRule 1 = .ok (.iconst (-1), 1) := by decide +kernel
theorem dX1_lastByRule_2 : decode cX1_lastByRule 2 = .ok (.if_icmp .ge 5, 3) := by decide +kernel
theorem dX1_lastByRule_5 : decode cX1_lastByRule 5 = .ok (.lload_n 2, 1) := by decide +kernel
theorem dX1_lastByRule_6 : decode cX1_lastByRule 6 = .ok (.lreturn, 1) := by decide +kernel
theorem dX1_lastByRule_7 : decode cX1_lastByRule 7 = .ok (.lload_n 2, 1) := by decide +kernel
theorem dX1_lastByRule_8 : decode cX1_lastByRule 8 = .ok (.lstore 6, 2) := by decide +kernel
theorem dX1_lastByRule_10 : decode cX1_lastByRule 10 = .ok (.lload 4, 2) := by decide +kernel
theorem dX1_lastByRule_12 : decode cX1_lastByRule 12 = .ok (.lstore 8, 2) := by decide +kernel
theorem dX1_lastByRule_14 : decode cX1_lastByRule 14 = .ok (.iconst 0, 1) := by decide +kernel
theorem dX1_lastByRule_15 : decode cX1_lastByRule 15 = .ok (.istore 10, 2) := by decide +kernel
theorem dX1_lastByRule_17 : decode cX1_lastByRule 17 = .ok (.iload 10, 2) := by decide +kernel
theorem dX1_lastByRule_19 : decode cX1_lastByRule 19 = .ok (.iload_n 1, 1) := by decide +kernel
theorem dX1_lastByRule_20 : decode cX1_lastByRule 20 = .ok (.if_icmp .gt 42, 3) := by decide +kernel
theorem dX1_lastByRule_23 : decode cX1_lastByRule 23 = .ok (.iload 10, 2) := by decide +kernel
theorem dX1_lastByRule_25 : decode cX1_lastByRule 25 = .ok (.aload_n 0, 1) := by decide +kernel
theorem dX1_lastByRule_26 : decode cX1_lastByRule 26 = .ok (.getfield 15, 3) := by decide +kernel
theorem dX1_lastByRule_29 : decode cX1_lastByRule 29 = .ok (.if_icmp .ge 33, 3) := by decide +kernel
theorem dX1_lastByRule_32 : decode cX1_lastByRule 32 = .ok (.aload_n 0, 1) := by decide +kernel
theorem dX1_lastByRule_33 : decode cX1_lastByRule 33 = .ok (.getfield 9, 3) := by decide +kernel
theorem dX1_lastByRule_36 : decode cX1_lastByRule 36 = .ok (.iload 10, 2) := by decide +kernel
theorem dX1_lastByRule_38 : decode cX1_lastByRule 38 = .ok (.iaload, 1) := by decide +kernel
theorem dX1_lastByRule_39 : decode cX1_lastByRule 39 = .ok (.i2l, 1) := by decide +kernel
theorem dX1_lastByRule_40 : decode cX1_lastByRule 40 = .ok (.lload 8, 2) := by decide +kernel
theorem dX1_lastByRule_42 : decode cX1_lastByRule 42 = .ok (.lmul, 1) := by decide +kernel
theorem dX1_lastByRule_43 : decode cX1_lastByRule 43 = .ok (.lload 6, 2) := by decide +kernel
theorem dX1_lastByRule_45 : decode cX1_lastByRule 45 = .ok (.ladd, 1) := by decide +kernel
theorem dX1_lastByRule_46 : decode cX1_lastByRule 46 = .ok (.lstore 11, 2) := by decide +kernel
theorem dX1_lastByRule_48 : decode cX1_lastByRule 48 = .ok (.lload 8, 2) := by decide +kernel
theorem dX1_lastByRule_50 : decode cX1_lastByRule 50 = .ok (.lstore 6, 2) := by decide +kernel
theorem dX1_lastByRule_52 : decode cX1_lastByRule 52 = .ok (.lload 11, 2) := by decide +kernel
theorem dX1_lastByRule_54 : decode cX1_lastByRule 54 = .ok (.lstore 8, 2) := by decide +kernel
theorem dX1_lastByRule_56 : decode cX1_lastByRule 56 = .ok (.iinc 10 1, 3) := by decide +kernel
theorem dX1_lastByRule_59 : decode cX1_lastByRule 59 = .ok (.goto (-42), 3) := by decide +kernel
theorem dX1_lastByRule_62 : decode cX1_lastByRule 62 = .ok (.lload 8, 2) := by decide +kernel
theorem dX1_lastByRule_64 : decode cX1_lastByRule 64 = .ok (.lreturn, 1) := by decide +kernel
theorem dX4_init_0 : decode cX4_init 0 = .ok (.aload_n 0, 1) := by decide +kernel
theorem dX4_init_1 : decode cX4_init 1 = .ok (.invokespecial 1, 3) := by decide +kernel
theorem dX4_init_4 : decode cX4_init 4 = .ok (.aload_n 0, 1) := by decide +kernel
theorem dX4_init_5 : decode cX4_init 5 = .ok (.sipush 720, 3) := by decide +kernel
theorem dX4_init_8 : decode cX4_init 8 = .ok (.newarray .int, 2) := by decide +kernel
theorem dX4_init_10 : decode cX4_init 10 = .ok (.putfield 9, 3) := by decide +kernel
theorem dX4_init_13 : decode cX4_init 13 = .ok (.aload_n 0, 1) := by decide +kernel
theorem dX4_init_14 : decode cX4_init 14 = .ok (.sipush 720, 3) := by decide +kernel
theorem dX4_init_17 : decode cX4_init 17 = .ok (.newarray .int, 2) := by decide +kernel
theorem dX4_init_19 : decode cX4_init 19 = .ok (.putfield 13, 3) := by decide +kernel
theorem dX4_init_22 : decode cX4_init 22 = .ok (.aload_n 0, 1) := by decide +kernel
theorem dX4_init_23 : decode cX4_init 23 = .ok (.sipush 720, 3) := by decide +kernel
theorem dX4_init_26 : decode cX4_init 26 = .ok (.newarray .int, 2) := by decide +kernel
theorem dX4_init_28 : decode cX4_init 28 = .ok (.putfield 16, 3) := by decide +kernel
theorem dX4_init_31 : decode cX4_init 31 = .ok (.aload_n 0, 1) := by decide +kernel
theorem dX4_init_32 : decode cX4_init 32 = .ok (.sipush 160, 3) := by decide +kernel
theorem dX4_init_35 : decode cX4_init 35 = .ok (.newarray .int, 2) := by decide +kernel
theorem dX4_init_37 : decode cX4_init 37 = .ok (.putfield 19, 3) := by decide +kernel
theorem dX4_init_40 : decode cX4_init 40 = .ok (.return_, 1) := by decide +kernel
end
section
set_option maxRecDepth 20000 in
theorem ggX7_init_X1_init : GoodIn wsX7_init wsX1_init := goodIn_r _ [27, 28, 2, 3, 4, 29, 53, 54, 55, 56, 57, 58] (by decide +kernel) (by decide +kernel)
set_option maxRecDepth 20000 in
theorem gX7_init_X1_init_n47 : GoodIn wsX7_init (wsX1_init) := ggX7_init_X1_init
set_option maxRecDepth 20000 in
theorem ggX7_init_X4_init : GoodIn wsX7_init wsX4_init := goodIn_r _ [31, 32, 2, 3, 4, 33, 34, 35, 36, 59, 60, 61, 62, 63] (by decide +kernel) (by decide +kernel)
set_option maxRecDepth 20000 in
theorem gX7_init_X4_init_n57 : GoodIn wsX7_init (wsX4_init) := ggX7_init_X4_init
theorem dX7_init_0 : decode cX7_init 0 = .ok (.aload_n 0, 1) := by decide +kernel
theorem dX7_init_1 : decode cX7_init 1 = .ok (.invokespecial 1, 3) := by decide +kernel
theorem dX7_init_4 : decode cX7_init 4 = .ok (.aload_n 0, 1) := by decide +kernel
theorem dX7_init_5 : decode cX7_init 5 = .ok (.bipush 8, 2) := by decide +kernel
theorem dX7_init_7 : decode cX7_init 7 = .ok (.newarray .int, 2) := by decide +kernel
theorem dX7_init_9 : decode cX7_init 9 = .ok (.putfield 9, 3) := by decide +kernel
theorem dX7_init_12 : decode cX7_init 12 = .ok (.aload_n 0, 1) := by decide +kernel
theorem dX7_init_13 : decode cX7_init 13 = .ok (.bipush 8, 2) := by decide +kernel
theorem dX7_init_15 : decode cX7_init 15 = .ok (.newarray .int, 2) := by decide +kernel
theorem dX7_init_17 : decode cX7_init 17 = .ok (.putfield 13, 3) := by decide +kernel
theorem dX7_init_20 : decode cX7_init 20 = .ok (.aload_n 0, 1) := by decide +kernel
theorem dX7_init_21 : decode cX7_init 21 = .ok (.iconst 5, 1) := by decide +kernel
theorem dX7_init_22 : decode cX7_init 22 = .ok (.anewarray 16, 3) := by decide +kernel
theorem dX7_init_25 : decode cX7_init 25 = .ok (.putfield 18, 3) := by decide +kernel
theorem dX7_init_28 : decode cX7_init 28 = .ok (.aload_n 0, 1) := by decide +kernel
theorem dX7_init_29 : decode cX7_init 29 = .ok (.bipush 8, 2) := by decide +kernel
theorem dX7_init_31 : decode cX7_init 31 = .ok (.newarray .int, 2) := by decide +kernel
theorem dX7_init_33 : decode cX7_init 33 = .ok (.putfield 22, 3) := by decide +kernel
theorem dX7_init_36 : decode cX7_init 36 = .ok (.aload_n 0, 1) := by decide +kernel
theorem dX7_init_37 : decode cX7_init 37 = .ok (.bipush 8, 2) := by decide +kernel
theorem dX7_init_39 : decode cX7_init 39 = .ok (.newarray .int, 2) := by decide +kernel
theorem dX7_init_41 : decode cX7_init 41 = .ok (.putfield 25, 3) := by decide +kernel
theorem dX7_init_44 : decode cX7_init 44 = .ok (.aload_n 0, 1) := by decide +kernel
theorem dX7_init_45 : decode cX7_init 45 = .ok (.iconst 5, 1) := by decide +kernel
theorem dX7_init_46 : decode cX7_init 46 = .ok (.anewarray 16, 3) := by decide +kernel
theorem dX7_init_49 : decode cX7_init 49 = .ok (.putfield 28, 3) := by decide +kernel
theorem dX7_init_52 : decode cX7_init 52 = .ok (.aload_n 0, 1) := by decide +kernel
theorem dX7_init_53 : decode cX7_init 53 = .ok (.bipush 20, 2) := by decide +kernel
theorem dX7_init_55 : decode cX7_init 55 = .ok (.newarray .int, 2) := by decide +kernel
theorem dX7_init_57 : decode cX7_init 57 = .ok (.putfield 31, 3) := by decide +kernel
theorem dX7_init_60 : decode cX7_init 60 = .ok (.aload_n 0, 1) := by decide +kernel
theorem dX7_init_61 : decode cX7_init 61 = .ok (.bipush 60, 2) := by decide +kernel
theorem dX7_init_63 : decode cX7_init 63 = .ok (.newarray .int, 2) := by decide +kernel
theorem dX7_init_65 : decode cX7_init 65 = .ok (.putfield 34, 3) := by decide +kernel
theorem dX7_init_68 : decode cX7_init 68 = .ok (.aload_n 0, 1) := by decide +kernel
theorem dX7_init_69 : decode cX7_init 69 = .ok (.iconst 3, 1) := by decide +kernel
theorem dX7_init_70 : decode cX7_init 70 = .ok (.bipush 60, 2) := by decide +kernel
theorem dX7_init_72 : decode cX7_init 72 = .ok (.multianewarray 37 2, 4) := by decide +kernel
theorem dX7_init_76 : decode cX7_init 76 = .ok (.putfield 39, 3) := by decide +kernel
theorem dX7_init_79 : decode cX7_init 79 = .ok (.aload_n 0, 1) := by decide +kernel
theorem dX7_init_80 : decode cX7_init 80 = .ok (.iconst 3, 1) := by decide +kernel
theorem dX7_init_81 : decode cX7_init 81 = .ok (.newarray .int, 2) := by decide +kernel
theorem dX7_init_83 : decode cX7_init 83 = .ok (.putfield 42, 3) := by decide +kernel
theorem dX7_init_86 : decode cX7_init 86 = .ok (.aload_n 0, 1) := by decide +kernel
theorem dX7_init_87 : decode cX7_init 87 = .ok (.new 45, 3) := by decide +kernel
theorem dX7_init_90 : decode cX7_init 90 = .ok (.dup, 1) := by decide +kernel
theorem dX7_init_91 : decode cX7_init 91 = .ok (.invokespecial 47, 3) := by decide +kernel
theorem dX7_init_94 : decode cX7_init 94 = .ok (.putfield 48, 3) := by decide +kernel
theorem dX7_init_97 : decode cX7_init 97 = .ok (.aload_n 0, 1) := by decide +kernel
theorem dX7_init_98 : decode cX7_init 98 = .ok (.new 45, 3) := by decide +kernel
theorem dX7_init_101 : decode cX7_init 101 = .ok (.dup, 1) := by decide +kernel
theorem dX7_init_102 : decode cX7_init 102 = .ok (.invokespecial 47, 3) := by decide +kernel
theorem dX7_init_105 : decode cX7_init 105 = .ok (.putfield 52, 3) := by decide +kernel
theorem dX7_init_108 : decode cX7_init 108 = .ok (.aload_n 0, 1) := by decide +kernel
theorem dX7_init_109 : decode cX7_init 109 = .ok (.new 55, 3) := by decide +kernel
theorem dX7_init_112 : decode cX7_init 112 = .ok (.dup, 1) := by decide +kernel
theorem dX7_init_113 : decode cX7_init 113 = .ok (.invokespecial 57, 3) := by decide +kernel
theorem dX7_init_116 : decode cX7_init 116 = .ok (.putfield 58, 3) := by decide +kernel
theorem dX7_init_119 : decode cX7_init 119 = .ok (.iconst 0, 1) := by decide +kernel
theorem dX7_init_120 : decode cX7_init 120 = .ok (.istore_n 1, 1) := by decide +kernel
theorem dX7_init_121 : decode cX7_init 121 = .ok (.iload_n 1, 1) := by decide +kernel
theorem dX7_init_122 : decode cX7_init 122 = .ok (.bipush 8, 2) := by decide +kernel
theorem dX7_init_124 : decode cX7_init 124 = .ok (.if_icmp .ge 23, 3) := by decide +kernel
theorem dX7_init_127 : decode cX7_init 127 = .ok (.aload_n 0, 1) := by decide +kernel
theorem dX7_init_128 : decode cX7_init 128 = .ok (.getfield 9, 3) := by decide +kernel
theorem dX7_init_131 : decode cX7_init 131 = .ok (.iload_n 1, 1) := by decide +kernel
theorem dX7_init_132 : decode cX7_init 132 = .ok (.iconst 1, 1) := by decide +kernel
theorem dX7_init_133 : decode cX7_init 133 = .ok (.iastore, 1) := by decide +kernel
theorem dX7_init_134 : decode cX7_init 134 = .ok (.aload_n 0, 1) := by decide +kernel
theorem dX7_init_135 : decode cX7_init 135 = .ok (.getfield 13, 3) := by decide +kernel
theorem dX7_init_138 : decode cX7_init 138 = .ok (.iload_n 1, 1) := by decide +kernel
theorem dX7_init_139 : decode cX7_init 139 = .ok (.iconst 1, 1) := by decide +kernel
theorem dX7_init_140 : decode cX7_init 140 = .ok (.iastore, 1) := by decide +kernel
theorem dX7_init_141 : decode cX7_init 141 = .ok (.iinc 1 1, 3) := by decide +kernel
theorem dX7_init_144 : decode cX7_init 144 = .ok (.goto (-23), 3) := by decide +kernel
theorem dX7_init_147 : decode cX7_init 147 = .ok (.iconst 0, 1) := by decide +kernel
theorem dX7_init_148 : decode cX7_init 148 = .ok (.istore_n 1, 1) := by decide +kernel
theorem dX7_init_149 : decode cX7_init 149 = .ok (.iload_n 1, 1) := by decide +kernel
theorem dX7_init_150 : decode cX7_init 150 = .ok (.iconst 3, 1) := by decide +kernel
theorem dX7_init_151 : decode cX7_init 151 = .ok (.if_icmp .ge 16, 3) := by decide +kernel
theorem dX7_init_154 : decode cX7_init 154 = .ok (.aload_n 0, 1) := by decide +kernel
theorem dX7_init_155 : decode cX7_init 155 = .ok (.getfield 42, 3) := by decide +kernel
theorem dX7_init_158 : decode cX7_init 158 = .ok (.iload_n 1, 1) := by decide +kernel
theorem dX7_init_159 : decode cX7_init 159 = .ok (.iconst (-1), 1) := by decide +kernel
theorem dX7_init_160 : decode cX7_init 160 = .ok (.iastore, 1) := by decide +kernel
theorem dX7_init_161 : decode cX7_init 161 = .ok (.iinc 1 1, 3) := by decide +kernel
theorem dX7_init_164 : decode cX7_init 164 = .ok (.goto (-15), 3) := by decide +kernel
theorem dX7_init_167 : decode cX7_init 167 = .ok (.return_, 1) := by decide +kernel
set_option maxRecDepth 20000 in
theorem ggX7_set_X7_isRegister : GoodIn wsX7_set wsX7_isRegister := goodIn_r _ [5] (by decide +kernel) (by decide +kernel)
set_option maxRecDepth 20000 in
theorem gX7_set_X7_isRegister : GoodIn wsX7_set (va_wsS RX7 62 yX7_isRegister wsX7_isRegister) := goodIn_app (goodIn_of _ (by decide +kernel)) ggX7_set_X7_isRegister
set_option maxRecDepth 20000 in
theorem ggX7_set_X7_isIn : GoodIn wsX7_set wsX7_isIn := goodIn_r _ [8] (by decide +kernel) (by decide +kernel)
set_option maxRecDepth 20000 in
theorem gX7_set_X7_isIn : GoodIn wsX7_set (va_wsS RX7 67 yX7_isIn wsX7_isIn) := goodIn_app (goodIn_of _ (by decide +kernel)) ggX7_set_X7_isIn
set_option maxRecDepth 20000 in
theorem ggX7_set_X7_store : GoodIn wsX7_set wsX7_store := goodIn_r _ [12, 13, 14, 15, 16, 17, 4, 18, 19, 20, 21, 22, 23, 24, 25, 26, 27, 28, 29, 30, 31, 32, 33, 34, 35, 36, 37] (by decide +kernel) (by decide +kernel)
set_option maxRecDepth 20000 in
theorem gX7_set_X7_store : GoodIn wsX7_set (wsV RX7 71 RX7 yX7_store wsX7_store) := goodIn_app (goodIn_of _ (by decide +kernel)) ggX7_set_X7_store
theorem dX7_set_0 : decode cX7_set 0 = .ok (.iload_n 1, 1) := by decide +kernel
theorem dX7_set_1 : decode cX7_set 1 = .ok (.invokestatic 62, 3) := by decide +kernel
theorem dX7_set_4 : decode cX7_set 4 = .ok (.ifCond .eq 23, 3) := by decide +kernel
theorem dX7_set_7 : decode cX7_set 7 = .ok (.iload_n 2, 1) := by decide +kernel
theorem dX7_set_8 : decode cX7_set 8 = .ok (.iconst 1, 1) := by decide +kernel
theorem dX7_set_9 : decode cX7_set 9 = .ok (.ldc 66, 2) := by decide +kernel
theorem dX7_set_11 : decode cX7_set 11 = .ok (.invokestatic 67, 3) := by decide +kernel
theorem dX7_set_14 : decode cX7_set 14 = .ok (.ifCond .eq 13, 3) := by decide +kernel
theorem dX7_set_17 : decode cX7_set 17 = .ok (.iload_n 3, 1) := by decide +kernel
theorem dX7_set_18 : decode cX7_set 18 = .ok (.iconst 1, 1) := by decide +kernel
theorem dX7_set_19 : decode cX7_set 19 = .ok (.ldc 66, 2) := by decide +kernel
theorem dX7_set_21 : decode cX7_set 21 = .ok (.invokestatic 67, 3) := by decide +kernel
theorem dX7_set_24 : decode cX7_set 24 = .ok (.ifCond .ne 5, 3) := by decide +kernel
theorem dX7_set_27 : decode cX7_set 27 = .ok (.iconst (-1), 1) := by decide +kernel
theorem dX7_set_28 : decode cX7_set 28 = .ok (.ireturn, 1) := by decide +kernel
theorem dX7_set_29 : decode cX7_set 29 = .ok (.aload_n 0, 1) := by decide +kernel
theorem dX7_set_30 : decode cX7_set 30 = .ok (.iload_n 1, 1) := by decide +kernel
theorem dX7_set_31 : decode cX7_set 31 = .ok (.iload_n 2, 1) := by decide +kernel
theorem dX7_set_32 : decode cX7_set 32 = .ok (.i2l, 1) := by decide +kernel
theorem dX7_set_33 : decode cX7_set 33 = .ok (.iload_n 3, 1) := by decide +kernel
theorem dX7_set_34 : decode cX7_set 34 = .ok (.i2l, 1) := by decide +kernel
theorem dX7_set_35 : decode cX7_set 35 = .ok (.invokevirtual 71, 3) := by decide +kernel
theorem dX7_set_38 : decode cX7_set 38 = .ok (.ireturn, 1) := by decide +kernel
set_option maxRecDepth 20000 in
theorem ggX7_compare_X7_isRegister : GoodIn wsX7_compare wsX7_isRegister := goodIn_r _ [4] (by decide +kernel) (by decide +kernel)
set_option maxRecDepth 20000 in
theorem gX7_compare_X7_isRegister : GoodIn wsX7_compare (va_wsS RX7 62 yX7_isRegister wsX7_isRegister) := goodIn_app (goodIn_of _ (by decide +kernel)) ggX7_compare_X7_isRegister
set_option maxRecDepth 20000 in
theorem ggX7_compare_X7_crossDifference : GoodIn wsX7_compare wsX7_crossDifference := goodIn_r _ [8, 9, 10, 11, 12, 13, 14, 15, 16, 17, 18, 19, 20, 21, 22, 23, 24, 25, 26] (by decide +kernel) (by decide +kernel)
set_option maxRecDepth 20000 in
theorem gX7_compare_X7_crossDifference : GoodIn wsX7_compare (wsV RX7 75 RX7 yX7_crossDifference wsX7_crossDifference) := goodIn_app (goodIn_of _ (by decide +kernel)) ggX7_compare_X7_crossDifference
theorem dX7_compare_0 : decode cX7_compare 0 = .ok (.iload_n 1, 1) := by decide +kernel
theorem dX7_compare_1 : decode cX7_compare 1 = .ok (.invokestatic 62, 3) := by decide +kernel
theorem dX7_compare_4 : decode cX7_compare 4 = .ok (.ifCond .eq 10, 3) := by decide +kernel
theorem dX7_compare_7 : decode cX7_compare 7 = .ok (.iload_n 2, 1) := by decide +kernel
theorem dX7_compare_8 : decode cX7_compare 8 = .ok (.invokestatic 62, 3) := by decide +kernel
theorem dX7_compare_11 : decode cX7_compare 11 = .ok (.ifCond .ne 5, 3) := by decide +kernel
theorem dX7_compare_14 : decode cX7_compare 14 = .ok (.iconst (-1), 1) := by decide +kernel
theorem dX7_compare_15 : decode cX7_compare 15 = .ok (.ireturn, 1) := by decide +kernel
theorem dX7_compare_16 : decode cX7_compare 16 = .ok (.aload_n 0, 1) := by decide +kernel
theorem dX7_compare_17 : decode cX7_compare 17 = .ok (.iload_n 1, 1) := by decide +kernel
theorem dX7_compare_18 : decode cX7_compare 18 = .ok (.iload_n 2, 1) := by decide +kernel
theorem dX7_compare_19 : decode cX7_compare 19 = .ok (.invokevirtual 75, 3) := by decide +kernel
theorem dX7_compare_22 : decode cX7_compare 22 = .ok (.lstore_n 3, 1) := by decide +kernel
theorem dX7_compare_23 : decode cX7_compare 23 = .ok (.lload_n 3, 1) := by decide +kernel
theorem dX7_compare_24 : decode cX7_compare 24 = .ok (.lconst 0, 1) := by decide +kernel
theorem dX7_compare_25 : decode cX7_compare 25 = .ok (.lcmp, 1) := by decide +kernel
theorem dX7_compare_26 : decode cX7_compare 26 = .ok (.ifCond .ge 5, 3) := by decide +kernel
theorem dX7_compare_29 : decode cX7_compare 29 = .ok (.iconst 0, 1) := by decide +kernel
theorem dX7_compare_30 : decode cX7_compare 30 = .ok (.ireturn, 1) := by decide +kernel
theorem dX7_compare_31 : decode cX7_compare 31 = .ok (.lload_n 3, 1) := by decide +kernel
theorem dX7_compare_32 : decode cX7_compare 32 = .ok (.lconst 0, 1) := by decide +kernel
theorem dX7_compare_33 : decode cX7_compare 33 = .ok (.lcmp, 1) := by decide +kernel
theorem dX7_compare_34 : decode cX7_compare 34 = .ok (.ifCond .ne 7, 3) := by decide +kernel
theorem dX7_compare_37 : decode cX7_compare 37 = .ok (.iconst 1, 1) := by decide +kernel
theorem dX7_compare_38 : decode cX7_compare 38 = .ok (.goto 4, 3) := by decide +kernel
theorem dX7_compare_41 : decode cX7_compare 41 = .ok (.iconst 2, 1) := by decide +kernel
theorem dX7_compare_42 : decode cX7_compare 42 = .ok (.ireturn, 1) := by decide +kernel
set_option maxRecDepth 20000 in
theorem ggX7_depth_X7_isRegister : GoodIn wsX7_depth wsX7_isRegister := goodIn_r _ [4] (by decide +kernel) (by decide +kernel)
set_option maxRecDepth 20000 in
theorem gX7_depth_X7_isRegister : GoodIn wsX7_depth (va_wsS RX7 62 yX7_isRegister wsX7_isRegister) := goodIn_app (goodIn_of _ (by decide +kernel)) ggX7_depth_X7_isRegister
set_option maxRecDepth 20000 in
theorem ggX7_depth_X7_expand : GoodIn wsX7_depth wsX7_expand := goodIn_r _ [8, 9, 10, 11, 12, 13, 14, 15, 16, 17, 18, 19, 20, 21, 22, 35, 36, 37, 38, 39, 40, 41, 42, 43, 44, 45, 46, 47, 48, 49, 50, 51, 52, 53, 54, 55, 56] (by decide +kernel) (by decide +kernel)
set_option maxRecDepth 20000 in
theorem gX7_depth_X7_expand : GoodIn wsX7_depth (wsV RX7 81 RX7 yX7_expand wsX7_expand) := goodIn_app (goodIn_of _ (by decide +kernel)) ggX7_depth_X7_expand
set_option maxRecDepth 20000 in
theorem ggX7_depth_X1_stepCount : GoodIn wsX7_depth wsX1_stepCount := goodIn_r _ [26, 17, 27, 28, 29, 15, 30, 31, 32, 33, 34, 22, 51, 52, 53, 54, 55, 56] (by decide +kernel) (by decide +kernel)
set_option maxRecDepth 20000 in
theorem gX7_depth_X1_stepCount : GoodIn wsX7_depth (wsV RX7 85 RX1 yX1_stepCount wsX1_stepCount) := goodIn_app (goodIn_of _ (by decide +kernel)) ggX7_depth_X1_stepCount
theorem dX7_depth_0 : decode cX7_depth 0 = .ok (.iload_n 1, 1) := by decide +kernel
theorem dX7_depth_1 : decode cX7_depth 1 = .ok (.invokestatic 62, 3) := by decide +kernel
theorem dX7_depth_4 : decode cX7_depth 4 = .ok (.ifCond .eq 14, 3) := by decide +kernel
theorem dX7_depth_7 : decode cX7_depth 7 = .ok (.aload_n 0, 1) := by decide +kernel
theorem dX7_depth_8 : decode cX7_depth 8 = .ok (.iload_n 1, 1) := by decide +kernel
theorem dX7_depth_9 : decode cX7_depth 9 = .ok (.invokevirtual 81, 3) := by decide +kernel
theorem dX7_depth_12 : decode cX7_depth 12 = .ok (.invokevirtual 85, 3) := by decide +kernel
theorem dX7_depth_15 : decode cX7_depth 15 = .ok (.goto 4, 3) := by decide +kernel
theorem dX7_depth_18 : decode cX7_depth 18 = .ok (.iconst (-1), 1) := by decide +kernel
theorem dX7_depth_19 : decode cX7_depth 19 = .ok (.ireturn, 1) := by decide +kernel
set_option maxRecDepth 20000 in
theorem ggX7_commonAncestor_X7_isRegister : GoodIn wsX7_commonAncestor wsX7_isRegister := goodIn_r _ [7] (by decide +kernel) (by decide +kernel)
set_option maxRecDepth 20000 in
theorem gX7_commonAncestor_X7_isRegister : GoodIn wsX7_commonAncestor (va_wsS RX7 62 yX7_isRegister wsX7_isRegister) := goodIn_app (goodIn_of _ (by decide +kernel)) ggX7_commonAncestor_X7_isRegister
set_option maxRecDepth 20000 in
theorem ggX7_commonAncestor_X7_expand : GoodIn wsX7_commonAncestor wsX7_expand := goodIn_r _ [11, 12, 2, 3, 13, 14, 15, 16, 17, 18, 19, 20, 21, 22, 23, 71, 72, 73, 74, 75, 76, 77, 78, 79, 80, 81, 82, 83, 84, 85, 86, 87, 88, 89, 90, 91, 92] (by decide +kernel) (by decide +kernel)
set_option maxRecDepth 20000 in
theorem gX7_commonAncestor_X7_expand : GoodIn wsX7_commonAncestor (wsV RX7 81 RX7 yX7_expand wsX7_expand) := goodIn_app (goodIn_of _ (by decide +kernel)) ggX7_commonAncestor_X7_expand
set_option maxRecDepth 20000 in
theorem ggX7_commonAncestor_X1_expand : GoodIn wsX7_commonAncestor wsX1_expand := goodIn_r _ [17, 18, 19, 20, 21, 16, 22, 23, 87, 88, 89, 90, 91, 92] (by decide +kernel) (by decide +kernel)
set_option maxRecDepth 20000 in
theorem gX7_commonAncestor_X1_expand : GoodIn wsX7_commonAncestor (wsV RX7 117 RX1 yX1_expand wsX1_expand) := goodIn_app (goodIn_of _ (by decide +kernel)) ggX7_commonAncestor_X1_expand
set_option maxRecDepth 20000 in
theorem ggX7_commonAncestor_X1_commonSteps : GoodIn wsX7_commonAncestor wsX1_commonSteps := goodIn_r _ [27, 18, 28, 29, 30, 16, 31, 32, 33, 34, 35, 23, 87, 88, 89, 90, 91, 92] (by decide +kernel) (by decide +kernel)
set_option maxRecDepth 20000 in
theorem gX7_commonAncestor_X1_commonSteps : GoodIn wsX7_commonAncestor (wsV RX7 120 RX1 yX1_commonSteps wsX1_commonSteps) := goodIn_app (goodIn_of _ (by decide +kernel)) ggX7_commonAncestor_X1_commonSteps
set_option maxRecDepth 20000 in
theorem ggX7_commonAncestor_X1_cutToDepth : GoodIn wsX7_commonAncestor wsX1_cutToDepth := goodIn_r _ [39, 18, 23, 28, 29, 30, 16, 31, 32, 33, 34, 35, 87, 88, 89, 90, 91, 92] (by decide +kernel) (by decide +kernel)
set_option maxRecDepth 20000 in
theorem gX7_commonAncestor_X1_cutToDepth : GoodIn wsX7_commonAncestor (wsV RX7 99 RX1 yX1_cutToDepth wsX1_cutToDepth) := goodIn_app (goodIn_of _ (by decide +kernel)) ggX7_commonAncestor_X1_cutToDepth
set_option maxRecDepth 20000 in
theorem ggX7_commonAncestor_X1_size : GoodIn wsX7_commonAncestor wsX1_size := goodIn_r _ [43, 18, 87, 88, 89, 90, 91, 92] (by decide +kernel) (by decide +kernel)
set_option maxRecDepth 20000 in
theorem gX7_commonAncestor_X1_size : GoodIn wsX7_commonAncestor (wsV RX7 93 RX1 yX1_size wsX1_size) := goodIn_app (goodIn_of _ (by decide +kernel)) ggX7_commonAncestor_X1_size
set_option maxRecDepth 20000 in
theorem ggX7_commonAncestor_X7_storeConvergent : GoodIn wsX7_commonAncestor wsX7_storeConvergent := goodIn_r _ [47, 48, 49, 50, 16, 51, 52, 53, 54, 55, 18, 23, 56, 57, 58, 59, 60, 61, 62, 6, 63, 64, 2, 3, 65, 66, 67, 68, 69, 70, 87, 88, 89, 90, 91, 92, 71, 72, 73, 74, 75, 76, 77, 78, 79, 80, 81, 82, 83, 84, 85, 86] (by decide +kernel) (by decide +kernel)
set_option maxRecDepth 20000 in
theorem gX7_commonAncestor_X7_storeConvergent : GoodIn wsX7_commonAncestor (wsV RX7 103 RX7 yX7_storeConvergent wsX7_storeConvergent) := goodIn_app (goodIn_of _ (by decide +kernel)) ggX7_commonAncestor_X7_storeConvergent
theorem dX7_commonAncestor_0 : decode cX7_commonAncestor 0 = .ok (.iload_n 1, 1) := by decide +kernel
theorem dX7_commonAncestor_1 : decode cX7_commonAncestor 1 = .ok (.invokestatic 62, 3) := by decide +kernel
theorem dX7_commonAncestor_4 : decode cX7_commonAncestor 4 = .ok (.ifCond .eq 17, 3) := by decide +kernel
theorem dX7_commonAncestor_7 : decode cX7_commonAncestor 7 = .ok (.iload_n 2, 1) := by decide +kernel
theorem dX7_commonAncestor_8 : decode cX7_commonAncestor 8 = .ok (.invokestatic 62, 3) := by decide +kernel
theorem dX7_commonAncestor_11 : decode cX7_commonAncestor 11 = .ok (.ifCond .eq 10, 3) := by decide +kernel
theorem dX7_commonAncestor_14 : decode cX7_commonAncestor 14 = .ok (.iload_n 3, 1) := by decide +kernel
theorem dX7_commonAncestor_15 : decode cX7_commonAncestor 15 = .ok (.invokestatic 62, 3) := by decide +kernel
theorem dX7_commonAncestor_18 : decode cX7_commonAncestor 18 = .ok (.ifCond .ne 5, 3) := by decide +kernel
theorem dX7_commonAncestor_21 : decode cX7_commonAncestor 21 = .ok (.iconst (-1), 1) := by decide +kernel
theorem dX7_commonAncestor_22 : decode cX7_commonAncestor 22 = .ok (.ireturn, 1) := by decide +kernel
theorem dX7_commonAncestor_23 : decode cX7_commonAncestor 23 = .ok (.aload_n 0, 1) := by decide +kernel
theorem dX7_commonAncestor_24 : decode cX7_commonAncestor 24 = .ok (.iload_n 2, 1) := by decide +kernel
theorem dX7_commonAncestor_25 : decode cX7_commonAncestor 25 = .ok (.invokevirtual 81, 3) := by decide +kernel
theorem dX7_commonAncestor_28 : decode cX7_commonAncestor 28 = .ok (.astore 4, 2) := by decide +kernel
theorem dX7_commonAncestor_30 : decode cX7_commonAncestor 30 = .ok (.aload_n 0, 1) := by decide +kernel
theorem dX7_commonAncestor_31 : decode cX7_commonAncestor 31 = .ok (.getfield 52, 3) := by decide +kernel
theorem dX7_commonAncestor_34 : decode cX7_commonAncestor 34 = .ok (.aload_n 0, 1) := by decide +kernel
theorem dX7_commonAncestor_35 : decode cX7_commonAncestor 35 = .ok (.getfield 9, 3) := by decide +kernel
theorem dX7_commonAncestor_38 : decode cX7_commonAncestor 38 = .ok (.iload_n 3, 1) := by decide +kernel
theorem dX7_commonAncestor_39 : decode cX7_commonAncestor 39 = .ok (.iaload, 1) := by decide +kernel
theorem dX7_commonAncestor_40 : decode cX7_commonAncestor 40 = .ok (.aload_n 0, 1) := by decide +kernel
theorem dX7_commonAncestor_41 : decode cX7_commonAncestor 41 = .ok (.getfield 13, 3) := by decide +kernel
theorem dX7_commonAncestor_44 : decode cX7_commonAncestor 44 = .ok (.iload_n 3, 1) := by decide +kernel
theorem dX7_commonAncestor_45 : decode cX7_commonAncestor 45 = .ok (.iaload, 1) := by decide +kernel
theorem dX7_commonAncestor_46 : decode cX7_commonAncestor 46 = .ok (.invokevirtual 117, 3) := by decide +kernel
theorem dX7_commonAncestor_49 : decode cX7_commonAncestor 49 = .ok (.aload 4, 2) := by decide +kernel
theorem dX7_commonAncestor_51 : decode cX7_commonAncestor 51 = .ok (.aload_n 0, 1) := by decide +kernel
theorem dX7_commonAncestor_52 : decode cX7_commonAncestor 52 = .ok (.getfield 52, 3) := by decide +kernel
theorem dX7_commonAncestor_55 : decode cX7_commonAncestor 55 = .ok (.invokevirtual 120, 3) := by decide +kernel
theorem dX7_commonAncestor_58 : decode cX7_commonAncestor 58 = .ok (.istore 5, 2) := by decide +kernel
theorem dX7_commonAncestor_60 : decode cX7_commonAncestor 60 = .ok (.aload 4, 2) := by decide +kernel
theorem dX7_commonAncestor_62 : decode cX7_commonAncestor 62 = .ok (.iload 5, 2) := by decide +kernel
theorem dX7_commonAncestor_64 : decode cX7_commonAncestor 64 = .ok (.invokevirtual 99, 3) := by decide +kernel
theorem dX7_commonAncestor_67 : decode cX7_commonAncestor 67 = .ok (.aload_n 0, 1) := by decide +kernel
theorem dX7_commonAncestor_68 : decode cX7_commonAncestor 68 = .ok (.iload_n 1, 1) := by decide +kernel
theorem dX7_commonAncestor_69 : decode cX7_commonAncestor 69 = .ok (.aload 4, 2) := by decide +kernel
theorem dX7_commonAncestor_71 : decode cX7_commonAncestor 71 = .ok (.aload 4, 2) := by decide +kernel
theorem dX7_commonAncestor_73 : decode cX7_commonAncestor 73 = .ok (.invokevirtual 93, 3) := by decide +kernel
theorem dX7_commonAncestor_76 : decode cX7_commonAncestor 76 = .ok (.iconst 1, 1) := by decide +kernel
theorem dX7_commonAncestor_77 : decode cX7_commonAncestor 77 = .ok (.isub, 1) := by decide +kernel
theorem dX7_commonAncestor_78 : decode cX7_commonAncestor 78 = .ok (.invokevirtual 103, 3) := by decide +kernel
theorem dX7_commonAncestor_81 : decode cX7_commonAncestor 81 = .ok (.pop, 1) := by decide +kernel
theorem dX7_commonAncestor_82 : decode cX7_commonAncestor 82 = .ok (.iload 5, 2) := by decide +kernel
theorem dX7_commonAncestor_84 : decode cX7_commonAncestor 84 = .ok (.ireturn, 1) := by decide +kernel
set_option maxRecDepth 20000 in
theorem ggX7_simplestBetween_X7_isRegister : GoodIn wsX7_simplestBetween wsX7_isRegister := goodIn_r _ [7] (by decide +kernel) (by decide +kernel)
set_option maxRecDepth 20000 in
theorem gX7_simplestBetween_X7_isRegister : GoodIn wsX7_simplestBetween (va_wsS RX7 62 yX7_isRegister wsX7_isRegister) := goodIn_app (goodIn_of _ (by decide +kernel)) ggX7_simplestBetween_X7_isRegister
set_option maxRecDepth 20000 in
theorem ggX7_simplestBetween_X7_crossDifference : GoodIn wsX7_simplestBetween wsX7_crossDifference := goodIn_r _ [11, 2, 3, 54, 55, 56, 57, 58, 59, 60, 61, 62, 63, 64, 65, 66, 67, 68, 69] (by decide +kernel) (by decide +kernel)
set_option maxRecDepth 20000 in
theorem gX7_simplestBetween_X7_crossDifference : GoodIn wsX7_simplestBetween (wsV RX7 75 RX7 yX7_crossDifference wsX7_crossDifference) := goodIn_app (goodIn_of _ (by decide +kernel)) ggX7_simplestBetween_X7_crossDifference
set_option maxRecDepth 20000 in
theorem ggX7_simplestBetween_X1_becomeSimplestBetween : GoodIn wsX7_simplestBetween wsX1_becomeSimplestBetween := goodIn_r _ [16, 17, 18, 6, 19, 20, 21, 22, 15, 23, 24, 70, 71, 72, 73, 74, 75] (by decide +kernel) (by decide +kernel)
set_option maxRecDepth 20000 in
theorem gX7_simplestBetween_X1_becomeSimplestBetween : GoodIn wsX7_simplestBetween (wsV RX7 147 RX1 yX1_becomeSimplestBetween wsX1_becomeSimplestBetween) := goodIn_app (goodIn_of _ (by decide +kernel)) ggX7_simplestBetween_X1_becomeSimplestBetween
set_option maxRecDepth 20000 in
theorem ggX7_simplestBetween_X1_size : GoodIn wsX7_simplestBetween wsX1_size := goodIn_r _ [28, 17, 70, 71, 72, 73, 74, 75] (by decide +kernel) (by decide +kernel)
set_option maxRecDepth 20000 in
theorem gX7_simplestBetween_X1_size : GoodIn wsX7_simplestBetween (wsV RX7 93 RX1 yX1_size wsX1_size) := goodIn_app (goodIn_of _ (by decide +kernel)) ggX7_simplestBetween_X1_size
set_option maxRecDepth 20000 in
theorem ggX7_simplestBetween_X7_storeConvergent : GoodIn wsX7_simplestBetween wsX7_storeConvergent := goodIn_r _ [32, 33, 34, 35, 15, 36, 37, 38, 39, 40, 17, 24, 41, 42, 43, 44, 45, 46, 47, 6, 48, 49, 2, 3, 50, 51, 52, 53, 18, 19, 70, 71, 72, 73, 74, 75, 54, 55, 56, 57, 58, 59, 60, 61, 62, 63, 64, 65, 66, 67, 68, 69] (by decide +kernel) (by decide +kernel)
set_option maxRecDepth 20000 in
theorem gX7_simplestBetween_X7_storeConvergent : GoodIn wsX7_simplestBetween (wsV RX7 103 RX7 yX7_storeConvergent wsX7_storeConvergent) := goodIn_app (goodIn_of _ (by decide +kernel)) ggX7_simplestBetween_X7_storeConvergent
theorem dX7_simplestBetween_0 : decode cX7_simplestBetween 0 = .ok (.iload_n 1, 1) := by decide +kernel
theorem dX7_simplestBetween_1 : decode cX7_simplestBetween 1 = .ok (.invokestatic 62, 3) := by decide +kernel
theorem dX7_simplestBetween_4 : decode cX7_simplestBetween 4 = .ok (.ifCond .eq 17, 3) := by decide +kernel
theorem dX7_simplestBetween_7 : decode cX7_simplestBetween 7 = .ok (.iload_n 2, 1) := by decide +kernel
theorem dX7_simplestBetween_8 : decode cX7_simplestBetween 8 = .ok (.invokestatic 62, 3) := by decide +kernel
theorem dX7_simplestBetween_11 : decode cX7_simplestBetween 11 = .ok (.ifCond .eq 10, 3) := by decide +kernel
theorem dX7_simplestBetween_14 : decode cX7_simplestBetween 14 = .ok (.iload_n 3, 1) := by decide +kernel
theorem dX7_simplestBetween_15 : decode cX7_simplestBetween 15 = .ok (.invokestatic 62, 3) := by decide +kernel
theorem dX7_simplestBetween_18 : decode cX7_simplestBetween 18 = .ok (.ifCond .ne 5, 3) := by decide +kernel
theorem dX7_simplestBetween_21 : decode cX7_simplestBetween 21 = .ok (.iconst (-1), 1) := by decide +kernel
theorem dX7_simplestBetween_22 : decode cX7_simplestBetween 22 = .ok (.ireturn, 1) := by decide +kernel
theorem dX7_simplestBetween_23 : decode cX7_simplestBetween 23 = .ok (.aload_n 0, 1) := by decide +kernel
theorem dX7_simplestBetween_24 : decode cX7_simplestBetween 24 = .ok (.iload_n 2, 1) := by decide +kernel
theorem dX7_simplestBetween_25 : decode cX7_simplestBetween 25 = .ok (.iload_n 3, 1) := by decide +kernel
theorem dX7_simplestBetween_26 : decode cX7_simplestBetween 26 = .ok (.invokevirtual 75, 3) := by decide +kernel
theorem dX7_simplestBetween_29 : decode cX7_simplestBetween 29 = .ok (.lconst 0, 1) := by decide +kernel
theorem dX7_simplestBetween_30 : decode cX7_simplestBetween 30 = .ok (.lcmp, 1) := by decide +kernel
theorem dX7_simplestBetween_31 : decode cX7_simplestBetween 31 = .ok (.ifCond .lt 6, 3) := by decide +kernel
theorem dX7_simplestBetween_34 : decode cX7_simplestBetween 34 = .ok (.bipush (-2), 2) := by decide +kernel
theorem dX7_simplestBetween_36 : decode cX7_simplestBetween 36 = .ok (.ireturn, 1) := by decide +kernel
theorem dX7_simplestBetween_37 : decode cX7_simplestBetween 37 = .ok (.aload_n 0, 1) := by decide +kernel
theorem dX7_simplestBetween_38 : decode cX7_simplestBetween 38 = .ok (.getfield 48, 3) := by decide +kernel
theorem dX7_simplestBetween_41 : decode cX7_simplestBetween 41 = .ok (.aload_n 0, 1) := by decide +kernel
theorem dX7_simplestBetween_42 : decode cX7_simplestBetween 42 = .ok (.getfield 9, 3) := by decide +kernel
theorem dX7_simplestBetween_45 : decode cX7_simplestBetween 45 = .ok (.iload_n 2, 1) := by decide +kernel
theorem dX7_simplestBetween_46 : decode cX7_simplestBetween 46 = .ok (.iaload, 1) := by decide +kernel
theorem dX7_simplestBetween_47 : decode cX7_simplestBetween 47 = .ok (.aload_n 0, 1) := by decide +kernel
theorem dX7_simplestBetween_48 : decode cX7_simplestBetween 48 = .ok (.getfield 13, 3) := by decide +kernel
theorem dX7_simplestBetween_51 : decode cX7_simplestBetween 51 = .ok (.iload_n 2, 1) := by decide +kernel
theorem dX7_simplestBetween_52 : decode cX7_simplestBetween 52 = .ok (.iaload, 1) := by decide +kernel
theorem dX7_simplestBetween_53 : decode cX7_simplestBetween 53 = .ok (.aload_n 0, 1) := by decide +kernel
theorem dX7_simplestBetween_54 : decode cX7_simplestBetween 54 = .ok (.getfield 9, 3) := by decide +kernel
theorem dX7_simplestBetween_57 : decode cX7_simplestBetween 57 = .ok (.iload_n 3, 1) := by decide +kernel
theorem dX7_simplestBetween_58 : decode cX7_simplestBetween 58 = .ok (.iaload, 1) := by decide +kernel
theorem dX7_simplestBetween_59 : decode cX7_simplestBetween 59 = .ok (.aload_n 0, 1) := by decide +kernel
theorem dX7_simplestBetween_60 : decode cX7_simplestBetween 60 = .ok (.getfield 13, 3) := by decide +kernel
theorem dX7_simplestBetween_63 : decode cX7_simplestBetween 63 = .ok (.iload_n 3, 1) := by decide +kernel
theorem dX7_simplestBetween_64 : decode cX7_simplestBetween 64 = .ok (.iaload, 1) := by decide +kernel
theorem dX7_simplestBetween_65 : decode cX7_simplestBetween 65 = .ok (.invokevirtual 147, 3) := by decide +kernel
theorem dX7_simplestBetween_68 : decode cX7_simplestBetween 68 = .ok (.aload_n 0, 1) := by decide +kernel
theorem dX7_simplestBetween_69 : decode cX7_simplestBetween 69 = .ok (.iload_n 1, 1) := by decide +kernel
theorem dX7_simplestBetween_70 : decode cX7_simplestBetween 70 = .ok (.aload_n 0, 1) := by decide +kernel
theorem dX7_simplestBetween_71 : decode cX7_simplestBetween 71 = .ok (.getfield 48, 3) := by decide +kernel
theorem dX7_simplestBetween_74 : decode cX7_simplestBetween 74 = .ok (.aload_n 0, 1) := by decide +kernel
theorem dX7_simplestBetween_75 : decode cX7_simplestBetween 75 = .ok (.getfield 48, 3) := by decide +kernel
theorem dX7_simplestBetween_78 : decode cX7_simplestBetween 78 = .ok (.invokevirtual 93, 3) := by decide +kernel
theorem dX7_simplestBetween_81 : decode cX7_simplestBetween 81 = .ok (.iconst 1, 1) := by decide +kernel
theorem dX7_simplestBetween_82 : decode cX7_simplestBetween 82 = .ok (.isub, 1) := by decide +kernel
theorem dX7_simplestBetween_83 : decode cX7_simplestBetween 83 = .ok (.invokevirtual 103, 3) := by decide +kernel
theorem dX7_simplestBetween_86 : decode cX7_simplestBetween 86 = .ok (.ireturn, 1) := by decide +kernel
theorem dX7_isIn_0 : decode cX7_isIn 0 = .ok (.iload_n 0, 1) := by decide +kernel
theorem dX7_isIn_1 : decode cX7_isIn 1 = .ok (.iload_n 1, 1) := by decide +kernel
theorem dX7_isIn_2 : decode cX7_isIn 2 = .ok (.if_icmp .lt 12, 3) := by decide +kernel
theorem dX7_isIn_5 : decode cX7_isIn 5 = .ok (.iload_n 0, 1) := by decide +kernel
theorem dX7_isIn_6 : decode cX7_isIn 6 = .ok (.iload_n 2, 1) := by decide +kernel
theorem dX7_isIn_7 : decode cX7_isIn 7 = .ok (.if_icmp .gt 7, 3) := by decide +kernel
theorem dX7_isIn_10 : decode cX7_isIn 10 = .ok (.iconst 1, 1) := by decide +kernel
theorem dX7_isIn_11 : decode cX7_isIn 11 = .ok (.goto 4, 3) := by decide +kernel
theorem dX7_isIn_14 : decode cX7_isIn 14 = .ok (.iconst 0, 1) := by decide +kernel
theorem dX7_isIn_15 : decode cX7_isIn 15 = .ok (.ireturn, 1) := by decide +kernel
theorem dX7_isRegister_0 : decode cX7_isRegister 0 = .ok (.iload_n 0, 1) := by decide +kernel
theorem dX7_isRegister_1 : decode cX7_isRegister 1 = .ok (.ifCond .lt 13, 3) := by decide +kernel
theorem dX7_isRegister_4 : decode cX7_isRegister 4 = .ok (.iload_n 0, 1) := by decide +kernel
theorem dX7_isRegister_5 : decode cX7_isRegister 5 = .ok (.bipush 8, 2) := by decide +kernel
theorem dX7_isRegister_7 : decode cX7_isRegister 7 = .ok (.if_icmp .ge 7, 3) := by decide +kernel
theorem dX7_isRegister_10 : decode cX7_isRegister 10 = .ok (.iconst 1, 1) := by decide +kernel
theorem dX7_isRegister_11 : decode cX7_isRegister 11 = .ok (.goto 4, 3) := by decide +kernel
theorem dX7_isRegister_14 : decode cX7_isRegister 14 = .ok (.iconst 0, 1) := by decide +kernel
theorem dX7_isRegister_15 : decode cX7_isRegister 15 = .ok (.ireturn, 1) := by decide +kernel
theorem dX7_quotient_0 : decode cX7_quotient 0 = .ok (.lload_n 2, 1) := by decide +kernel
theorem dX7_quotient_1 : decode cX7_quotient 1 = .ok (.lconst 0, 1) := by decide +kernel
theorem dX7_quotient_2 : decode cX7_quotient 2 = .ok (.lcmp, 1) := by decide +kernel
theorem dX7_quotient_3 : decode cX7_quotient 3 = .ok (.ifCond .le 9, 3) := by decide +kernel
theorem dX7_quotient_6 : decode cX7_quotient 6 = .ok (.lload_n 0, 1) := by decide +kernel
theorem dX7_quotient_7 : decode cX7_quotient 7 = .ok (.lload_n 2, 1) := by decide +kernel
theorem dX7_quotient_8 : decode cX7_quotient 8 = .ok (.ldiv, 1) := by decide +kernel
theorem dX7_quotient_9 : decode cX7_quotient 9 = .ok (.goto 4, 3) := by decide +kernel
theorem dX7_quotient_12 : decode cX7_quotient 12 = .ok (.lconst 0, 1) := by decide +kernel
theorem dX7_quotient_13 : decode cX7_quotient 13 = .ok (.lreturn, 1) := by decide +kernel
theorem dX7_gcd_0 : decode cX7_gcd 0 = .ok (.lload_n 0, 1) := by decide +kernel
theorem dX7_gcd_1 : decode cX7_gcd 1 = .ok (.lstore 4, 2) := by decide +kernel
theorem dX7_gcd_3 : decode cX7_gcd 3 = .ok (.lload_n 2, 1) := by decide +kernel
theorem dX7_gcd_4 : decode cX7_gcd 4 = .ok (.lstore 6, 2) := by decide +kernel
theorem dX7_gcd_6 : decode cX7_gcd 6 = .ok (.iconst 0, 1) := by decide +kernel
theorem dX7_gcd_7 : decode cX7_gcd 7 = .ok (.istore 8, 2) := by decide +kernel
theorem dX7_gcd_9 : decode cX7_gcd 9 = .ok (.iload 8, 2) := by decide +kernel
theorem dX7_gcd_11 : decode cX7_gcd 11 = .ok (.sipush 1000, 3) := by decide +kernel
theorem dX7_gcd_14 : decode cX7_gcd 14 = .ok (.if_icmp .ge 31, 3) := by decide +kernel
theorem dX7_gcd_17 : decode cX7_gcd 17 = .ok (.lload 6, 2) := by decide +kernel
theorem dX7_gcd_19 : decode cX7_gcd 19 = .ok (.lconst 0, 1) := by decide +kernel
theorem dX7_gcd_20 : decode cX7_gcd 20 = .ok (.lcmp, 1) := by decide +kernel
theorem dX7_gcd_21 : decode cX7_gcd 21 = .ok (.ifCond .le 24, 3) := by decide +kernel
theorem dX7_gcd_24 : decode cX7_gcd 24 = .ok (.lload 4, 2) := by decide +kernel
theorem dX7_gcd_26 : decode cX7_gcd 26 = .ok (.lload 6, 2) := by decide +kernel
theorem dX7_gcd_28 : decode cX7_gcd 28 = .ok (.lrem, 1) := by decide +kernel
theorem dX7_gcd_29 : decode cX7_gcd 29 = .ok (.lstore 9, 2) := by decide +kernel
theorem dX7_gcd_31 : decode cX7_gcd 31 = .ok (.lload 6, 2) := by decide +kernel
theorem dX7_gcd_33 : decode cX7_gcd 33 = .ok (.lstore 4, 2) := by decide +kernel
theorem dX7_gcd_35 : decode cX7_gcd 35 = .ok (.lload 9, 2) := by decide +kernel
theorem dX7_gcd_37 : decode cX7_gcd 37 = .ok (.lstore 6, 2) := by decide +kernel
theorem dX7_gcd_39 : decode cX7_gcd 39 = .ok (.iinc 8 1, 3) := by decide +kernel
theorem dX7_gcd_42 : decode cX7_gcd 42 = .ok (.goto (-33), 3) := by decide +kernel
theorem dX7_gcd_45 : decode cX7_gcd 45 = .ok (.lload 4, 2) := by decide +kernel
theorem dX7_gcd_47 : decode cX7_gcd 47 = .ok (.lreturn, 1) := by decide +kernel
theorem dX7_crossDifference_0 : decode cX7_crossDifference 0 = .ok (.aload_n 0, 1) := by decide +kernel
theorem dX7_crossDifference_1 : decode cX7_crossDifference 1 = .ok (.getfield 9, 3) := by decide +kernel
theorem dX7_crossDifference_4 : decode cX7_crossDifference 4 = .ok (.iload_n 1, 1) := by decide +kernel
theorem dX7_crossDifference_5 : decode cX7_crossDifference 5 = .ok (.iaload, 1) := by decide +kernel
theorem dX7_crossDifference_6 : decode cX7_crossDifference 6 = .ok (.i2l, 1) := by decide +kernel
theorem dX7_crossDifference_7 : decode cX7_crossDifference 7 = .ok (.aload_n 0, 1) := by decide +kernel
theorem dX7_crossDifference_8 : decode cX7_crossDifference 8 = .ok (.getfield 13, 3) := by decide +kernel
theorem dX7_crossDifference_11 : decode cX7_crossDifference 11 = .ok (.iload_n 2, 1) := by decide +kernel
theorem dX7_crossDifference_12 : decode cX7_crossDifference 12 = .ok (.iaload, 1) := by decide +kernel
theorem dX7_crossDifference_13 : decode cX7_crossDifference 13 = .ok (.i2l, 1) := by decide +kernel
theorem dX7_crossDifference_14 : decode cX7_crossDifference 14 = .ok (.lmul, 1) := by decide +kernel
theorem dX7_crossDifference_15 : decode cX7_crossDifference 15 = .ok (.aload_n 0, 1) := by decide +kernel
theorem dX7_crossDifference_16 : decode cX7_crossDifference 16 = .ok (.getfield 13, 3) := by decide +kernel
theorem dX7_crossDifference_19 : decode cX7_crossDifference 19 = .ok (.iload_n 1, 1) := by decide +kernel
theorem dX7_crossDifference_20 : decode cX7_crossDifference 20 = .ok (.iaload, 1) := by decide +kernel
theorem dX7_crossDifference_21 : decode cX7_crossDifference 21 = .ok (.i2l, 1) := by decide +kernel
theorem dX7_crossDifference_22 : decode cX7_crossDifference 22 = .ok (.aload_n 0, 1) := by decide +kernel
theorem dX7_crossDifference_23 : decode cX7_crossDifference 23 = .ok (.getfield 9, 3) := by decide +kernel
theorem dX7_crossDifference_26 : decode cX7_crossDifference 26 = .ok (.iload_n 2, 1) := by decide +kernel
theorem dX7_crossDifference_27 : decode cX7_crossDifference 27 = .ok (.iaload, 1) := by decide +kernel
theorem dX7_crossDifference_28 : decode cX7_crossDifference 28 = .ok (.i2l, 1) := by decide +kernel
theorem dX7_crossDifference_29 : decode cX7_crossDifference 29 = .ok (.lmul, 1) := by decide +kernel
theorem dX7_crossDifference_30 : decode cX7_crossDifference 30 = .ok (.lsub, 1) := by decide +kernel
theorem dX7_crossDifference_31 : decode cX7_crossDifference 31 = .ok (.lreturn, 1) := by decide +kernel
set_option maxRecDepth 20000 in
theorem ggX7_store_X7_gcd : GoodIn wsX7_store wsX7_gcd := goodIn_r _ [7] (by decide +kernel) (by decide +kernel)
set_option maxRecDepth 20000 in
theorem gX7_store_X7_gcd : GoodIn wsX7_store (va_wsS RX7 189 yX7_gcd wsX7_gcd) := goodIn_app (goodIn_of _ (by decide +kernel)) ggX7_store_X7_gcd
set_option maxRecDepth 20000 in
theorem ggX7_store_X7_quotient : GoodIn wsX7_store wsX7_quotient := goodIn_r _ [10] (by decide +kernel) (by decide +kernel)
set_option maxRecDepth 20000 in
theorem gX7_store_X7_quotient : GoodIn wsX7_store (va_wsS RX7 165 yX7_quotient wsX7_quotient) := goodIn_app (goodIn_of _ (by decide +kernel)) ggX7_store_X7_quotient
theorem dX7_store_0 : decode cX7_store 0 = .ok (.lload_n 2, 1) := by decide +kernel
theorem dX7_store_1 : decode cX7_store 1 = .ok (.lload 4, 2) := by decide +kernel
theorem dX7_store_3 : decode cX7_store 3 = .ok (.invokestatic 189, 3) := by decide +kernel
theorem dX7_store_6 : decode cX7_store 6 = .ok (.lstore 6, 2) := by decide +kernel
theorem dX7_store_8 : decode cX7_store 8 = .ok (.lload_n 2, 1) := by decide +kernel
theorem dX7_store_9 : decode cX7_store 9 = .ok (.lload 6, 2) := by decide +kernel
theorem dX7_store_11 : decode cX7_store 11 = .ok (.invokestatic 165, 3) := by decide +kernel
theorem dX7_store_14 : decode cX7_store 14 = .ok (.lstore 8, 2) := by decide +kernel
theorem dX7_store_16 : decode cX7_store 16 = .ok (.lload 4, 2) := by decide +kernel
theorem dX7_store_18 : decode cX7_store 18 = .ok (.lload 6, 2) := by decide +kernel
theorem dX7_store_20 : decode cX7_store 20 = .ok (.invokestatic 165, 3) := by decide +kernel
theorem dX7_store_23 : decode cX7_store 23 = .ok (.lstore 10, 2) := by decide +kernel
theorem dX7_store_25 : decode cX7_store 25 = .ok (.lload 8, 2) := by decide +kernel
theorem dX7_store_27 : decode cX7_store 27 = .ok (.ldc2_w 138, 3) := by decide +kernel
theorem dX7_store_30 : decode cX7_store 30 = .ok (.lcmp, 1) := by decide +kernel
theorem dX7_store_31 : decode cX7_store 31 = .ok (.ifCond .gt 12, 3) := by decide +kernel
theorem dX7_store_34 : decode cX7_store 34 = .ok (.lload 10, 2) := by decide +kernel
theorem dX7_store_36 : decode cX7_store 36 = .ok (.ldc2_w 138, 3) := by decide +kernel
theorem dX7_store_39 : decode cX7_store 39 = .ok (.lcmp, 1) := by decide +kernel
theorem dX7_store_40 : decode cX7_store 40 = .ok (.ifCond .le 6, 3) := by decide +kernel
theorem dX7_store_43 : decode cX7_store 43 = .ok (.bipush (-3), 2) := by decide +kernel
theorem dX7_store_45 : decode cX7_store 45 = .ok (.ireturn, 1) := by decide +kernel
theorem dX7_store_46 : decode cX7_store 46 = .ok (.aload_n 0, 1) := by decide +kernel
theorem dX7_store_47 : decode cX7_store 47 = .ok (.getfield 9, 3) := by decide +kernel
theorem dX7_store_50 : decode cX7_store 50 = .ok (.iload_n 1, 1) := by decide +kernel
theorem dX7_store_51 : decode cX7_store 51 = .ok (.lload 8, 2) := by decide +kernel
theorem dX7_store_53 : decode cX7_store 53 = .ok (.l2i, 1) := by decide +kernel
theorem dX7_store_54 : decode cX7_store 54 = .ok (.iastore, 1) := by decide +kernel
theorem dX7_store_55 : decode cX7_store 55 = .ok (.aload_n 0, 1) := by decide +kernel
theorem dX7_store_56 : decode cX7_store 56 = .ok (.getfield 13, 3) := by decide +kernel
theorem dX7_store_59 : decode cX7_store 59 = .ok (.iload_n 1, 1) := by decide +kernel
theorem dX7_store_60 : decode cX7_store 60 = .ok (.lload 10, 2) := by decide +kernel
theorem dX7_store_62 : decode cX7_store 62 = .ok (.l2i, 1) := by decide +kernel
theorem dX7_store_63 : decode cX7_store 63 = .ok (.iastore, 1) := by decide +kernel
theorem dX7_store_64 : decode cX7_store 64 = .ok (.iconst 1, 1) := by decide +kernel
theorem dX7_store_65 : decode cX7_store 65 = .ok (.ireturn, 1) := by decide +kernel
set_option maxRecDepth 20000 in
theorem ggX7_storeConvergent_X1_convergentTop : GoodIn wsX7_storeConvergent wsX1_convergentTop := goodIn_r _ [5, 6, 7, 8, 4, 9, 10, 11, 30, 31, 32, 33, 34, 35] (by decide +kernel) (by decide +kernel)
set_option maxRecDepth 20000 in
theorem gX7_storeConvergent_X1_convergentTop : GoodIn wsX7_storeConvergent (wsV RX7 127 RX1 yX1_convergentTop wsX1_convergentTop) := goodIn_app (goodIn_of _ (by decide +kernel)) ggX7_storeConvergent_X1_convergentTop
set_option maxRecDepth 20000 in
theorem ggX7_storeConvergent_X1_convergentBottom : GoodIn wsX7_storeConvergent wsX1_convergentBottom := goodIn_r _ [15, 6, 7, 8, 4, 9, 10, 11, 30, 31, 32, 33, 34, 35] (by decide +kernel) (by decide +kernel)
set_option maxRecDepth 20000 in
theorem gX7_storeConvergent_X1_convergentBottom : GoodIn wsX7_storeConvergent (wsV RX7 199 RX1 yX1_convergentBottom wsX1_convergentBottom) := goodIn_app (goodIn_of _ (by decide +kernel)) ggX7_storeConvergent_X1_convergentBottom
set_option maxRecDepth 20000 in
theorem ggX7_storeConvergent_X7_store : GoodIn wsX7_storeConvergent wsX7_store := goodIn_r _ [20, 21, 22, 23, 24, 25, 19, 26, 27, 28, 29, 36, 37, 38, 39, 40, 41, 42, 43, 44, 45, 46, 47, 48, 49, 50, 51] (by decide +kernel) (by decide +kernel)
set_option maxRecDepth 20000 in
theorem gX7_storeConvergent_X7_store : GoodIn wsX7_storeConvergent (wsV RX7 71 RX7 yX7_store wsX7_store) := goodIn_app (goodIn_of _ (by decide +kernel)) ggX7_storeConvergent_X7_store
theorem dX7_storeConvergent_0 : decode cX7_storeConvergent 0 = .ok (.aload_n 0, 1) := by decide +kernel
theorem dX7_storeConvergent_1 : decode cX7_storeConvergent 1 = .ok (.iload_n 1, 1) := by decide +kernel
theorem dX7_storeConvergent_2 : decode cX7_storeConvergent 2 = .ok (.aload_n 2, 1) := by decide +kernel
theorem dX7_storeConvergent_3 : decode cX7_storeConvergent 3 = .ok (.iload_n 3, 1) := by decide +kernel
theorem dX7_storeConvergent_4 : decode cX7_storeConvergent 4 = .ok (.invokevirtual 127, 3) := by decide +kernel
theorem dX7_storeConvergent_7 : decode cX7_storeConvergent 7 = .ok (.aload_n 2, 1) := by decide +kernel
theorem dX7_storeConvergent_8 : decode cX7_storeConvergent 8 = .ok (.iload_n 3, 1) := by decide +kernel
theorem dX7_storeConvergent_9 : decode cX7_storeConvergent 9 = .ok (.invokevirtual 199, 3) := by decide +kernel
theorem dX7_storeConvergent_12 : decode cX7_storeConvergent 12 = .ok (.invokevirtual 71, 3) := by decide +kernel
theorem dX7_storeConvergent_15 : decode cX7_storeConvergent 15 = .ok (.ireturn, 1) := by decide +kernel
set_option maxRecDepth 20000 in
theorem ggX7_expand_X1_expand : GoodIn wsX7_expand wsX1_expand := goodIn_r _ [8, 9, 10, 11, 12, 7, 13, 14, 31, 32, 33, 34, 35, 36] (by decide +kernel) (by decide +kernel)
set_option maxRecDepth 20000 in
theorem gX7_expand_X1_expand : GoodIn wsX7_expand (wsV RX7 117 RX1 yX1_expand wsX1_expand) := goodIn_app (goodIn_of _ (by decide +kernel)) ggX7_expand_X1_expand
theorem dX7_expand_0 : decode cX7_expand 0 = .ok (.aload_n 0, 1) := by decide +kernel
theorem dX7_expand_1 : decode cX7_expand 1 = .ok (.getfield 48, 3) := by decide +kernel
theorem dX7_expand_4 : decode cX7_expand 4 = .ok (.aload_n 0, 1) := by decide +kernel
theorem dX7_expand_5 : decode cX7_expand 5 = .ok (.getfield 9, 3) := by decide +kernel
theorem dX7_expand_8 : decode cX7_expand 8 = .ok (.iload_n 1, 1) := by decide +kernel
theorem dX7_expand_9 : decode cX7_expand 9 = .ok (.iaload, 1) := by decide +kernel
theorem dX7_expand_10 : decode cX7_expand 10 = .ok (.aload_n 0, 1) := by decide +kernel
theorem dX7_expand_11 : decode cX7_expand 11 = .ok (.getfield 13, 3) := by decide +kernel
theorem dX7_expand_14 : decode cX7_expand 14 = .ok (.iload_n 1, 1) := by decide +kernel
theorem dX7_expand_15 : decode cX7_expand 15 = .ok (.iaload, 1) := by decide +kernel
theorem dX7_expand_16 : decode cX7_expand 16 = .ok (.invokevirtual 117, 3) := by decide +kernel
theorem dX7_expand_19 : decode cX7_expand 19 = .ok (.aload_n 0, 1) := by decide +kernel
theorem dX7_expand_20 : decode cX7_expand 20 = .ok (.getfield 48, 3) := by decide +kernel
theorem dX7_expand_23 : decode cX7_expand 23 = .ok (.areturn, 1) := by decide +kernel
end
section
theorem dL_stirred_0 : decode cL_stirred 0 = .ok (.aload_n 0, 1) := by decide +kernel
theorem dL_stirred_1 : decode cL_stirred 1 = .ok (.arraylength, 1) := by decide +kernel
theorem dL_stirred_2 : decode cL_stirred 2 = .ok (.iconst 5, 1) := by decide +kernel
theorem dL_stirred_3 : decode cL_stirred 3 = .ok (.iadd, 1) := by decide +kernel
theorem dL_stirred_4 : decode cL_stirred 4 = .ok (.istore_n 1, 1) := by decide +kernel
theorem dL_stirred_5 : decode cL_stirred 5 = .ok (.aload_n 0, 1) := by decide +kernel
theorem dL_stirred_6 : decode cL_stirred 6 = .ok (.astore_n 2, 1) := by decide +kernel
theorem dL_stirred_7 : decode cL_stirred 7 = .ok (.aload_n 2, 1) := by decide +kernel
theorem dL_stirred_8 : decode cL_stirred 8 = .ok (.arraylength, 1) := by decide +kernel
theorem dL_stirred_9 : decode cL_stirred 9 = .ok (.istore_n 3, 1) := by decide +kernel
theorem dL_stirred_10 : decode cL_stirred 10 = .ok (.iconst 0, 1) := by decide +kernel
theorem dL_stirred_11 : decode cL_stirred 11 = .ok (.istore 4, 2) := by decide +kernel
theorem dL_stirred_13 : decode cL_stirred 13 = .ok (.iload 4, 2) := by decide +kernel
theorem dL_stirred_15 : decode cL_stirred 15 = .ok (.iload_n 3, 1) := by decide +kernel
theorem dL_stirred_16 : decode cL_stirred 16 = .ok (.if_icmp .ge 23, 3) := by decide +kernel
theorem dL_stirred_19 : decode cL_stirred 19 = .ok (.aload_n 2, 1) := by decide +kernel
theorem dL_stirred_20 : decode cL_stirred 20 = .ok (.iload 4, 2) := by decide +kernel
theorem dL_stirred_22 : decode cL_stirred 22 = .ok (.iaload, 1) := by decide +kernel
theorem dL_stirred_23 : decode cL_stirred 23 = .ok (.istore 5, 2) := by decide +kernel
theorem dL_stirred_25 : decode cL_stirred 25 = .ok (.iload_n 1, 1) := by decide +kernel
theorem dL_stirred_26 : decode cL_stirred 26 = .ok (.iload 5, 2) := by decide +kernel
theorem dL_stirred_28 : decode cL_stirred 28 = .ok (.ixor, 1) := by decide +kernel
theorem dL_stirred_29 : decode cL_stirred 29 = .ok (.ldc 7, 2) := by decide +kernel
theorem dL_stirred_31 : decode cL_stirred 31 = .ok (.imul, 1) := by decide +kernel
theorem dL_stirred_32 : decode cL_stirred 32 = .ok (.istore_n 1, 1) := by decide +kernel
theorem dL_stirred_33 : decode cL_stirred 33 = .ok (.iinc 4 1, 3) := by decide +kernel
theorem dL_stirred_36 : decode cL_stirred 36 = .ok (.goto (-23), 3) := by decide +kernel
theorem dL_stirred_39 : decode cL_stirred 39 = .ok (.iload_n 1, 1) := by decide +kernel
theorem dL_stirred_40 : decode cL_stirred 40 = .ok (.iload_n 1, 1) := by decide +kernel
theorem dL_stirred_41 : decode cL_stirred 41 = .ok (.bipush 15, 2) := by decide +kernel
theorem dL_stirred_43 : decode cL_stirred 43 = .ok (.iushr, 1) := by decide +kernel
theorem dL_stirred_44 : decode cL_stirred 44 = .ok (.ixor, 1) := by decide +kernel
theorem dL_stirred_45 : decode cL_stirred 45 = .ok (.istore_n 1, 1) := by decide +kernel
theorem dL_stirred_46 : decode cL_stirred 46 = .ok (.iload_n 1, 1) := by decide +kernel
theorem dL_stirred_47 : decode cL_stirred 47 = .ok (.iconst 3, 1) := by decide +kernel
theorem dL_stirred_48 : decode cL_stirred 48 = .ok (.iand, 1) := by decide +kernel
theorem dL_stirred_49 : decode cL_stirred 49 = .ok (.ifCond .ne 7, 3) := by decide +kernel
theorem dL_stirred_52 : decode cL_stirred 52 = .ok (.iconst 0, 1) := by decide +kernel
theorem dL_stirred_53 : decode cL_stirred 53 = .ok (.goto 4, 3) := by decide +kernel
theorem dL_stirred_56 : decode cL_stirred 56 = .ok (.iload_n 1, 1) := by decide +kernel
theorem dL_stirred_57 : decode cL_stirred 57 = .ok (.ireturn, 1) := by decide +kernel
set_option maxRecDepth 20000 in
theorem ggL_cell_L_stirred : GoodIn wsL_cell wsL_stirred := goodIn_r _ [7, 8] (by decide +kernel) (by decide +kernel)
set_option maxRecDepth 20000 in
theorem gL_cell_L_stirred : GoodIn wsL_cell (va_wsS RL 8 yL_stirred wsL_stirred) := goodIn_app (goodIn_of _ (by decide +kernel)) ggL_cell_L_stirred
theorem dL_cell_0 : decode cL_cell 0 = .ok (.aload_n 0, 1) := by decide +kernel
theorem dL_cell_1 : decode cL_cell 1 = .ok (.invokestatic 8, 3) := by decide +kernel
theorem dL_cell_4 : decode cL_cell 4 = .ok (.istore_n 2, 1) := by decide +kernel
theorem dL_cell_5 : decode cL_cell 5 = .ok (.iload_n 2, 1) := by decide +kernel
theorem dL_cell_6 : decode cL_cell 6 = .ok (.ifCond .ne 24, 3) := by decide +kernel
theorem dL_cell_9 : decode cL_cell 9 = .ok (.iload_n 1, 1) := by decide +kernel
theorem dL_cell_10 : decode cL_cell 10 = .ok (.aload_n 0, 1) := by decide +kernel
theorem dL_cell_11 : decode cL_cell 11 = .ok (.arraylength, 1) := by decide +kernel
theorem dL_cell_12 : decode cL_cell 12 = .ok (.if_icmp .ge 9, 3) := by decide +kernel
theorem dL_cell_15 : decode cL_cell 15 = .ok (.aload_n 0, 1) := by decide +kernel
theorem dL_cell_16 : decode cL_cell 16 = .ok (.iload_n 1, 1) := by decide +kernel
theorem dL_cell_17 : decode cL_cell 17 = .ok (.iaload, 1) := by decide +kernel
theorem dL_cell_18 : decode cL_cell 18 = .ok (.goto 11, 3) := by decide +kernel
theorem dL_cell_21 : decode cL_cell 21 = .ok (.sipush 6007, 3) := by decide +kernel
theorem dL_cell_24 : decode cL_cell 24 = .ok (.iload_n 1, 1) := by decide +kernel
theorem dL_cell_25 : decode cL_cell 25 = .ok (.imul, 1) := by decide +kernel
theorem dL_cell_26 : decode cL_cell 26 = .ok (.bipush 41, 2) := by decide +kernel
theorem dL_cell_28 : decode cL_cell 28 = .ok (.iadd, 1) := by decide +kernel
theorem dL_cell_29 : decode cL_cell 29 = .ok (.ireturn, 1) := by decide +kernel
theorem dL_cell_30 : decode cL_cell 30 = .ok (.iload_n 2, 1) := by decide +kernel
theorem dL_cell_31 : decode cL_cell 31 = .ok (.ldc 14, 2) := by decide +kernel
theorem dL_cell_33 : decode cL_cell 33 = .ok (.iload_n 1, 1) := by decide +kernel
theorem dL_cell_34 : decode cL_cell 34 = .ok (.imul, 1) := by decide +kernel
theorem dL_cell_35 : decode cL_cell 35 = .ok (.ixor, 1) := by decide +kernel
theorem dL_cell_36 : decode cL_cell 36 = .ok (.ldc 15, 2) := by decide +kernel
theorem dL_cell_38 : decode cL_cell 38 = .ok (.imul, 1) := by decide +kernel
theorem dL_cell_39 : decode cL_cell 39 = .ok (.istore_n 2, 1) := by decide +kernel
theorem dL_cell_40 : decode cL_cell 40 = .ok (.iload_n 2, 1) := by decide +kernel
theorem dL_cell_41 : decode cL_cell 41 = .ok (.iload_n 2, 1) := by decide +kernel
theorem dL_cell_42 : decode cL_cell 42 = .ok (.bipush 12, 2) := by decide +kernel
theorem dL_cell_44 : decode cL_cell 44 = .ok (.iushr, 1) := by decide +kernel
theorem dL_cell_45 : decode cL_cell 45 = .ok (.ixor, 1) := by decide +kernel
theorem dL_cell_46 : decode cL_cell 46 = .ok (.ldc 16, 2) := by decide +kernel
theorem dL_cell_48 : decode cL_cell 48 = .ok (.imul, 1) := by decide +kernel
theorem dL_cell_49 : decode cL_cell 49 = .ok (.istore_n 2, 1) := by decide +kernel
theorem dL_cell_50 : decode cL_cell 50 = .ok (.iload_n 2, 1) := by decide +kernel
theorem dL_cell_51 : decode cL_cell 51 = .ok (.iload_n 2, 1) := by decide +kernel
theorem dL_cell_52 : decode cL_cell 52 = .ok (.bipush 15, 2) := by decide +kernel
theorem dL_cell_54 : decode cL_cell 54 = .ok (.iushr, 1) := by decide +kernel
theorem dL_cell_55 : decode cL_cell 55 = .ok (.ixor, 1) := by decide +kernel
theorem dL_cell_56 : decode cL_cell 56 = .ok (.ireturn, 1) := by decide +kernel
set_option maxRecDepth 20000 in
theorem ggL_some_L_cell : GoodIn wsL_some wsL_cell := goodIn_r _ [4, 5, 6, 7, 8, 9, 3, 10, 11] (by decide +kernel) (by decide +kernel)
set_option maxRecDepth 20000 in
theorem gL_some_L_cell : GoodIn wsL_some (va_wsS RL 17 yL_cell wsL_cell) := goodIn_app (goodIn_of _ (by decide +kernel)) ggL_some_L_cell
theorem dL_some_0 : decode cL_some 0 = .ok (.aload_n 0, 1) := by decide +kernel
theorem dL_some_1 : decode cL_some 1 = .ok (.iload_n 1, 1) := by decide +kernel
theorem dL_some_2 : decode cL_some 2 = .ok (.invokestatic 17, 3) := by decide +kernel
theorem dL_some_5 : decode cL_some 5 = .ok (.iconst 3, 1) := by decide +kernel
theorem dL_some_6 : decode cL_some 6 = .ok (.iushr, 1) := by decide +kernel
theorem dL_some_7 : decode cL_some 7 = .ok (.iload_n 2, 1) := by decide +kernel
theorem dL_some_8 : decode cL_some 8 = .ok (.irem, 1) := by decide +kernel
theorem dL_some_9 : decode cL_some 9 = .ok (.ireturn, 1) := by decide +kernel
set_option maxRecDepth 20000 in
theorem ggL_size_L_some : GoodIn wsL_size wsL_some := goodIn_r _ [5, 6, 7, 4, 8, 9, 10, 11, 12, 13, 14, 15] (by decide +kernel) (by decide +kernel)
set_option maxRecDepth 20000 in
theorem gL_size_L_some : GoodIn wsL_size (va_wsS RL 21 yL_some wsL_some) := goodIn_app (goodIn_of _ (by decide +kernel)) ggL_size_L_some
theorem dL_size_0 : decode cL_size 0 = .ok (.aload_n 0, 1) := by decide +kernel
theorem dL_size_1 : decode cL_size 1 = .ok (.iload_n 1, 1) := by decide +kernel
theorem dL_size_2 : decode cL_size 2 = .ok (.iconst 1, 1) := by decide +kernel
theorem dL_size_3 : decode cL_size 3 = .ok (.iadd, 1) := by decide +kernel
theorem dL_size_4 : decode cL_size 4 = .ok (.iconst 4, 1) := by decide +kernel
theorem dL_size_5 : decode cL_size 5 = .ok (.invokestatic 21, 3) := by decide +kernel
theorem dL_size_8 : decode cL_size 8 = .ok (.istore_n 2, 1) := by decide +kernel
theorem dL_size_9 : decode cL_size 9 = .ok (.iconst 1, 1) := by decide +kernel
theorem dL_size_10 : decode cL_size 10 = .ok (.aload_n 0, 1) := by decide +kernel
theorem dL_size_11 : decode cL_size 11 = .ok (.iload_n 1, 1) := by decide +kernel
theorem dL_size_12 : decode cL_size 12 = .ok (.iload_n 2, 1) := by decide +kernel
theorem dL_size_13 : decode cL_size 13 = .ok (.ifCond .ne 8, 3) := by decide +kernel
theorem dL_size_16 : decode cL_size 16 = .ok (.bipush 6, 2) := by decide +kernel
theorem dL_size_18 : decode cL_size 18 = .ok (.goto 26, 3) := by decide +kernel
theorem dL_size_21 : decode cL_size 21 = .ok (.iload_n 2, 1) := by decide +kernel
theorem dL_size_22 : decode cL_size 22 = .ok (.iconst 1, 1) := by decide +kernel
theorem dL_size_23 : decode cL_size 23 = .ok (.if_icmp .ne 8, 3) := by decide +kernel
theorem dL_size_26 : decode cL_size 26 = .ok (.bipush 40, 2) := by decide +kernel
theorem dL_size_28 : decode cL_size 28 = .ok (.goto 16, 3) := by decide +kernel
theorem dL_size_31 : decode cL_size 31 = .ok (.iload_n 2, 1) := by decide +kernel
theorem dL_size_32 : decode cL_size 32 = .ok (.iconst 2, 1) := by decide +kernel
theorem dL_size_33 : decode cL_size 33 = .ok (.if_icmp .ne 9, 3) := by decide +kernel
theorem dL_size_36 : decode cL_size 36 = .ok (.sipush 900, 3) := by decide +kernel
theorem dL_size_39 : decode cL_size 39 = .ok (.goto 5, 3) := by decide +kernel
theorem dL_size_42 : decode cL_size 42 = .ok (.ldc 25, 2) := by decide +kernel
theorem dL_size_44 : decode cL_size 44 = .ok (.invokestatic 21, 3) := by decide +kernel
theorem dL_size_47 : decode cL_size 47 = .ok (.iadd, 1) := by decide +kernel
theorem dL_size_48 : decode cL_size 48 = .ok (.ireturn, 1) := by decide +kernel
set_option maxRecDepth 20000 in
theorem ggL_fills_L_size : GoodIn wsL_fills wsL_size := goodIn_r _ [4, 5, 6, 7, 3, 8, 9, 10, 11, 12, 13, 14, 15, 16, 17, 18] (by decide +kernel) (by decide +kernel)
set_option maxRecDepth 20000 in
theorem gL_fills_L_size : GoodIn wsL_fills (va_wsS RL 26 yL_size wsL_size) := goodIn_app (goodIn_of _ (by decide +kernel)) ggL_fills_L_size
set_option maxRecDepth 20000 in
theorem ggL_fills_X7_set : GoodIn wsL_fills wsX7_set := goodIn_r _ [23, 24, 25, 26, 22, 27, 28, 29, 30, 31, 32, 33, 34, 35, 36, 37, 38, 39, 40, 41, 42, 43, 44, 45, 46, 47, 48, 49, 50, 51, 52, 53, 54, 55, 56, 57, 58, 59] (by decide +kernel) (by decide +kernel)
set_option maxRecDepth 20000 in
theorem gL_fills_X7_set : GoodIn wsL_fills (wsV RL 29 RX7 yX7_set wsX7_set) := goodIn_app (goodIn_of _ (by decide +kernel)) ggL_fills_X7_set
theorem dL_fills_0 : decode cL_fills 0 = .ok (.aload_n 0, 1) := by decide +kernel
theorem dL_fills_1 : decode cL_fills 1 = .ok (.iload_n 1, 1) := by decide +kernel
theorem dL_fills_2 : decode cL_fills 2 = .ok (.aload_n 2, 1) := by decide +kernel
theorem dL_fills_3 : decode cL_fills 3 = .ok (.iload_n 3, 1) := by decide +kernel
theorem dL_fills_4 : decode cL_fills 4 = .ok (.invokestatic 26, 3) := by decide +kernel
theorem dL_fills_7 : decode cL_fills 7 = .ok (.aload_n 2, 1) := by decide +kernel
theorem dL_fills_8 : decode cL_fills 8 = .ok (.iload_n 3, 1) := by decide +kernel
theorem dL_fills_9 : decode cL_fills 9 = .ok (.iconst 2, 1) := by decide +kernel
theorem dL_fills_10 : decode cL_fills 10 = .ok (.iadd, 1) := by decide +kernel
theorem dL_fills_11 : decode cL_fills 11 = .ok (.invokestatic 26, 3) := by decide +kernel
theorem dL_fills_14 : decode cL_fills 14 = .ok (.invokevirtual 29, 3) := by decide +kernel
theorem dL_fills_17 : decode cL_fills 17 = .ok (.iconst 1, 1) := by decide +kernel
theorem dL_fills_18 : decode cL_fills 18 = .ok (.if_icmp .ne 7, 3) := by decide +kernel
theorem dL_fills_21 : decode cL_fills 21 = .ok (.iconst 1, 1) := by decide +kernel
theorem dL_fills_22 : decode cL_fills 22 = .ok (.goto 4, 3) := by decide +kernel
theorem dL_fills_25 : decode cL_fills 25 = .ok (.iconst 0, 1) := by decide +kernel
theorem dL_fills_26 : decode cL_fills 26 = .ok (.ireturn, 1) := by decide +kernel
set_option maxRecDepth 20000 in
theorem ggL_law_X7_init : GoodIn wsL_law wsX7_init := goodIn_r _ [5, 6, 7, 8, 9, 10, 11, 12, 13, 14, 15, 16, 17, 18, 19, 20, 21, 22, 23, 24, 25, 26, 27, 28, 29, 30, 31, 32, 33, 34, 35, 36, 37, 38, 39, 40, 41, 162, 163, 164, 165, 166, 167, 168, 169, 170, 171, 172, 173, 174, 175, 176, 177, 178, 179, 180, 181, 182, 183, 184, 185, 186, 187, 188] (by decide +kernel) (by decide +kernel)
set_option maxRecDepth 20000 in
theorem gL_law_X7_init : GoodIn wsL_law (wsX7_init) := ggL_law_X7_init
set_option maxRecDepth 20000 in
theorem ggL_law_L_fills : GoodIn wsL_law wsL_fills := goodIn_r _ [45, 46, 47, 44, 48, 49, 50, 51, 52, 53, 54, 55, 56, 57, 58, 59, 60, 61, 62, 63, 64, 65, 2, 66, 67, 68, 69, 70, 71, 72, 73, 74, 75, 76, 77, 78, 10, 11, 79, 80, 81, 82, 83, 84, 162, 163, 164, 165, 166, 167, 168, 169, 170, 171, 172, 173, 174, 175, 176, 177] (by decide +kernel) (by decide +kernel)
set_option maxRecDepth 20000 in
theorem gL_law_L_fills : GoodIn wsL_law (va_wsS RL 36 yL_fills wsL_fills) := goodIn_app (goodIn_of _ (by decide +kernel)) ggL_law_L_fills
set_option maxRecDepth 20000 in
theorem ggL_law_X7_compare : GoodIn wsL_law wsX7_compare := goodIn_r _ [88, 68, 69, 2, 70, 89, 90, 91, 92, 10, 11, 162, 163, 164, 165, 166, 167, 168, 169, 170, 171, 172, 173, 174, 175, 176, 177] (by decide +kernel) (by decide +kernel)
set_option maxRecDepth 20000 in
theorem gL_law_X7_compare : GoodIn wsL_law (wsV RL 40 RX7 yX7_compare wsX7_compare) := goodIn_app (goodIn_of _ (by decide +kernel)) ggL_law_X7_compare
set_option maxRecDepth 20000 in
theorem ggL_law_X7_commonAncestor : GoodIn wsL_law wsX7_commonAncestor := goodIn_r _ [96, 26, 10, 11, 68, 69, 2, 70, 97, 98, 99, 100, 25, 101, 102, 103, 24, 104, 105, 106, 107, 108, 109, 34, 110, 111, 112, 113, 114, 115, 116, 117, 118, 119, 120, 121, 122, 123, 124, 125, 126, 127, 128, 129, 130, 131, 132, 133, 134, 135, 136, 137, 138, 139, 140, 141, 142, 143, 144, 145, 74, 75, 76, 77, 78, 79, 80, 81, 82, 83, 84, 162, 163, 164, 165, 166, 167, 168, 169, 170, 171, 172, 173, 174, 175, 176, 177, 178, 179, 180, 181, 182, 183] (by decide +kernel) (by decide +kernel)
set_option maxRecDepth 20000 in
theorem gL_law_X7_commonAncestor : GoodIn wsL_law (wsV RL 44 RX7 yX7_commonAncestor wsX7_commonAncestor) := goodIn_app (goodIn_of _ (by decide +kernel)) ggL_law_X7_commonAncestor
set_option maxRecDepth 20000 in
theorem ggL_law_X7_simplestBetween : GoodIn wsL_law wsX7_simplestBetween := goodIn_r _ [149, 25, 10, 11, 68, 69, 2, 70, 89, 90, 91, 92, 150, 151, 152, 24, 153, 105, 83, 84, 106, 107, 108, 109, 34, 126, 127, 128, 129, 130, 131, 132, 133, 134, 135, 136, 137, 138, 139, 140, 141, 142, 143, 144, 145, 74, 75, 76, 77, 78, 79, 80, 81, 82, 162, 163, 164, 165, 166, 167, 168, 169, 170, 171, 172, 173, 174, 175, 176, 177, 178, 179, 180, 181, 182, 183] (by decide +kernel) (by decide +kernel)
set_option maxRecDepth 20000 in
theorem gL_law_X7_simplestBetween : GoodIn wsL_law (wsV RL 47 RX7 yX7_simplestBetween wsX7_simplestBetween) := goodIn_app (goodIn_of _ (by decide +kernel)) ggL_law_X7_simplestBetween
set_option maxRecDepth 20000 in
theorem ggL_law_X7_depth : GoodIn wsL_law wsX7_depth := goodIn_r _ [157, 68, 69, 2, 70, 97, 98, 99, 100, 25, 10, 11, 101, 102, 103, 24, 104, 105, 106, 107, 108, 109, 34, 158, 159, 160, 161, 114, 115, 116, 117, 118, 119, 120, 121, 162, 163, 164, 165, 166, 167, 168, 169, 170, 171, 172, 173, 174, 175, 176, 177, 178, 179, 180, 181, 182, 183] (by decide +kernel) (by decide +kernel)
set_option maxRecDepth 20000 in
theorem gL_law_X7_depth : GoodIn wsL_law (wsV RL 50 RX7 yX7_depth wsX7_depth) := goodIn_app (goodIn_of _ (by decide +kernel)) ggL_law_X7_depth
theorem dL_law_0 : decode cL_law 0 = .ok (.new 30, 3) := by decide +kernel
theorem dL_law_3 : decode cL_law 3 = .ok (.dup, 1) := by decide +kernel
theorem dL_law_4 : decode cL_law 4 = .ok (.invokespecial 35, 3) := by decide +kernel
theorem dL_law_7 : decode cL_law 7 = .ok (.astore_n 1, 1) := by decide +kernel
theorem dL_law_8 : decode cL_law 8 = .ok (.iconst 0, 1) := by decide +kernel
theorem dL_law_9 : decode cL_law 9 = .ok (.istore_n 2, 1) := by decide +kernel
theorem dL_law_10 : decode cL_law 10 = .ok (.iload_n 2, 1) := by decide +kernel
theorem dL_law_11 : decode cL_law 11 = .ok (.bipush 14, 2) := by decide +kernel
theorem dL_law_13 : decode cL_law 13 = .ok (.if_icmp .ge 141, 3) := by decide +kernel
theorem dL_law_16 : decode cL_law 16 = .ok (.aload_n 1, 1) := by decide +kernel
theorem dL_law_17 : decode cL_law 17 = .ok (.iconst 0, 1) := by decide +kernel
theorem dL_law_18 : decode cL_law 18 = .ok (.aload_n 0, 1) := by decide +kernel
theorem dL_law_19 : decode cL_law 19 = .ok (.bipush 8, 2) := by decide +kernel
theorem dL_law_21 : decode cL_law 21 = .ok (.iload_n 2, 1) := by decide +kernel
theorem dL_law_22 : decode cL_law 22 = .ok (.imul, 1) := by decide +kernel
theorem dL_law_23 : decode cL_law 23 = .ok (.invokestatic 36, 3) := by decide +kernel
theorem dL_law_26 : decode cL_law 26 = .ok (.ifCond .eq 18, 3) := by decide +kernel
theorem dL_law_29 : decode cL_law 29 = .ok (.aload_n 1, 1) := by decide +kernel
theorem dL_law_30 : decode cL_law 30 = .ok (.iconst 1, 1) := by decide +kernel
theorem dL_law_31 : decode cL_law 31 = .ok (.aload_n 0, 1) := by decide +kernel
theorem dL_law_32 : decode cL_law 32 = .ok (.bipush 8, 2) := by decide +kernel
theorem dL_law_34 : decode cL_law 34 = .ok (.iload_n 2, 1) := by decide +kernel
theorem dL_law_35 : decode cL_law 35 = .ok (.imul, 1) := by decide +kernel
theorem dL_law_36 : decode cL_law 36 = .ok (.iconst 4, 1) := by decide +kernel
theorem dL_law_37 : decode cL_law 37 = .ok (.iadd, 1) := by decide +kernel
theorem dL_law_38 : decode cL_law 38 = .ok (.invokestatic 36, 3) := by decide +kernel
theorem dL_law_41 : decode cL_law 41 = .ok (.ifCond .ne 5, 3) := by decide +kernel
theorem dL_law_44 : decode cL_law 44 = .ok (.iconst 0, 1) := by decide +kernel
theorem dL_law_45 : decode cL_law 45 = .ok (.ireturn, 1) := by decide +kernel
theorem dL_law_46 : decode cL_law 46 = .ok (.aload_n 1, 1) := by decide +kernel
theorem dL_law_47 : decode cL_law 47 = .ok (.iconst 0, 1) := by decide +kernel
theorem dL_law_48 : decode cL_law 48 = .ok (.iconst 1, 1) := by decide +kernel
theorem dL_law_49 : decode cL_law 49 = .ok (.invokevirtual 40, 3) := by decide +kernel
theorem dL_law_52 : decode cL_law 52 = .ok (.ifCond .ne 7, 3) := by decide +kernel
theorem dL_law_55 : decode cL_law 55 = .ok (.iconst 0, 1) := by decide +kernel
theorem dL_law_56 : decode cL_law 56 = .ok (.goto 4, 3) := by decide +kernel
theorem dL_law_59 : decode cL_law 59 = .ok (.iconst 1, 1) := by decide +kernel
theorem dL_law_60 : decode cL_law 60 = .ok (.istore_n 3, 1) := by decide +kernel
theorem dL_law_61 : decode cL_law 61 = .ok (.aload_n 1, 1) := by decide +kernel
theorem dL_law_62 : decode cL_law 62 = .ok (.iconst 2, 1) := by decide +kernel
theorem dL_law_63 : decode cL_law 63 = .ok (.iconst 0, 1) := by decide +kernel
theorem dL_law_64 : decode cL_law 64 = .ok (.iconst 1, 1) := by decide +kernel
theorem dL_law_65 : decode cL_law 65 = .ok (.invokevirtual 44, 3) := by decide +kernel
theorem dL_law_68 : decode cL_law 68 = .ok (.istore 4, 2) := by decide +kernel
theorem dL_law_70 : decode cL_law 70 = .ok (.aload_n 1, 1) := by decide +kernel
theorem dL_law_71 : decode cL_law 71 = .ok (.iconst 2, 1) := by decide +kernel
theorem dL_law_72 : decode cL_law 72 = .ok (.iconst 0, 1) := by decide +kernel
theorem dL_law_73 : decode cL_law 73 = .ok (.invokevirtual 40, 3) := by decide +kernel
theorem dL_law_76 : decode cL_law 76 = .ok (.iconst 1, 1) := by decide +kernel
theorem dL_law_77 : decode cL_law 77 = .ok (.if_icmp .eq 71, 3) := by decide +kernel
theorem dL_law_80 : decode cL_law 80 = .ok (.aload_n 1, 1) := by decide +kernel
theorem dL_law_81 : decode cL_law 81 = .ok (.iconst 2, 1) := by decide +kernel
theorem dL_law_82 : decode cL_law 82 = .ok (.iconst 1, 1) := by decide +kernel
theorem dL_law_83 : decode cL_law 83 = .ok (.invokevirtual 40, 3) := by decide +kernel
theorem dL_law_86 : decode cL_law 86 = .ok (.iconst 1, 1) := by decide +kernel
theorem dL_law_87 : decode cL_law 87 = .ok (.if_icmp .ne 6, 3) := by decide +kernel
theorem dL_law_90 : decode cL_law 90 = .ok (.goto 58, 3) := by decide +kernel
theorem dL_law_93 : decode cL_law 93 = .ok (.aload_n 1, 1) := by decide +kernel
theorem dL_law_94 : decode cL_law 94 = .ok (.iconst 3, 1) := by decide +kernel
theorem dL_law_95 : decode cL_law 95 = .ok (.iload_n 3, 1) := by decide +kernel
theorem dL_law_96 : decode cL_law 96 = .ok (.iconst 1, 1) := by decide +kernel
theorem dL_law_97 : decode cL_law 97 = .ok (.iload_n 3, 1) := by decide +kernel
theorem dL_law_98 : decode cL_law 98 = .ok (.isub, 1) := by decide +kernel
theorem dL_law_99 : decode cL_law 99 = .ok (.invokevirtual 47, 3) := by decide +kernel
theorem dL_law_102 : decode cL_law 102 = .ok (.iconst 1, 1) := by decide +kernel
theorem dL_law_103 : decode cL_law 103 = .ok (.if_icmp .ne 43, 3) := by decide +kernel
theorem dL_law_106 : decode cL_law 106 = .ok (.aload_n 1, 1) := by decide +kernel
theorem dL_law_107 : decode cL_law 107 = .ok (.iconst 2, 1) := by decide +kernel
theorem dL_law_108 : decode cL_law 108 = .ok (.iconst 3, 1) := by decide +kernel
theorem dL_law_109 : decode cL_law 109 = .ok (.invokevirtual 40, 3) := by decide +kernel
theorem dL_law_112 : decode cL_law 112 = .ok (.iconst 1, 1) := by decide +kernel
theorem dL_law_113 : decode cL_law 113 = .ok (.if_icmp .ne 33, 3) := by decide +kernel
theorem dL_law_116 : decode cL_law 116 = .ok (.aload_n 1, 1) := by decide +kernel
theorem dL_law_117 : decode cL_law 117 = .ok (.iconst 3, 1) := by decide +kernel
theorem dL_law_118 : decode cL_law 118 = .ok (.invokevirtual 50, 3) := by decide +kernel
theorem dL_law_121 : decode cL_law 121 = .ok (.iload 4, 2) := by decide +kernel
theorem dL_law_123 : decode cL_law 123 = .ok (.if_icmp .ne 23, 3) := by decide +kernel
theorem dL_law_126 : decode cL_law 126 = .ok (.iload 4, 2) := by decide +kernel
theorem dL_law_128 : decode cL_law 128 = .ok (.aload_n 1, 1) := by decide +kernel
theorem dL_law_129 : decode cL_law 129 = .ok (.iconst 0, 1) := by decide +kernel
theorem dL_law_130 : decode cL_law 130 = .ok (.invokevirtual 50, 3) := by decide +kernel
theorem dL_law_133 : decode cL_law 133 = .ok (.if_icmp .ge 13, 3) := by decide +kernel
theorem dL_law_136 : decode cL_law 136 = .ok (.iload 4, 2) := by decide +kernel
theorem dL_law_138 : decode cL_law 138 = .ok (.aload_n 1, 1) := by decide +kernel
theorem dL_law_139 : decode cL_law 139 = .ok (.iconst 1, 1) := by decide +kernel
theorem dL_law_140 : decode cL_law 140 = .ok (.invokevirtual 50, 3) := by decide +kernel
theorem dL_law_143 : decode cL_law 143 = .ok (.if_icmp .lt 5, 3) := by decide +kernel
theorem dL_law_146 : decode cL_law 146 = .ok (.iconst 0, 1) := by decide +kernel
theorem dL_law_147 : decode cL_law 147 = .ok (.ireturn, 1) := by decide +kernel
theorem dL_law_148 : decode cL_law 148 = .ok (.iinc 2 1, 3) := by decide +kernel
theorem dL_law_151 : decode cL_law 151 = .ok (.goto (-141), 3) := by decide +kernel
theorem dL_law_154 : decode cL_law 154 = .ok (.iconst 1, 1) := by decide +kernel
theorem dL_law_155 : decode cL_law 155 = .ok (.ireturn, 1) := by decide +kernel
end
section
set_option maxRecDepth 20000 in
theorem wsL_law_in : ∀ w ∈ wsL_law, w ∈ lw_tbl := fun w h => (goodIn_p wsL_law [14, 17, 26, 48, 204, 207, 210, 213, 216, 225, 117, 229, 185, 188, 191, 114, 121, 153, 129, 133, 137, 157, 145, 149, 161, 165, 169, 173, 177, 181, 196, 200, 125, 141] (by decide +kernel) (by decide +kernel) w h).1
theorem inlX1 : ∀ w ∈ wsX10, w ∈ wsL_law := fun _ h => List.mem_append_left _ (List.mem_append_left _ (List.mem_append_right _ h))
theorem inX1 : ∀ w ∈ wsX10, w ∈ lw_tbl := fun w h => wsL_law_in w (inlX1 w h)
theorem inlX4 : ∀ w ∈ wsX40, w ∈ wsL_law := fun _ h => List.mem_append_left _ (List.mem_append_right _ h)
theorem inX4 : ∀ w ∈ wsX40, w ∈ lw_tbl := fun w h => wsL_law_in w (inlX4 w h)
theorem inlX7 : ∀ w ∈ wsX70, w ∈ wsL_law := fun _ h => List.mem_append_left _ (List.mem_append_left _ (List.mem_append_left _ (List.mem_append_right _ h)))
theorem inX7 : ∀ w ∈ wsX70, w ∈ lw_tbl := fun w h => wsL_law_in w (inlX7 w h)
end
section
/-! helpers of this proof's own: contracts over a world of cells, one shape for all methods -/
def kYes : List (String × String) := []
def kNo : List (String × String) := []
/-- what the constructors need besides: links to a nest mate's constructors, arrays over references -/
def kN2 (U : State) : Prop := va_Nw (.methodLinkNest RX7 47 yX1_init RX7) U ∧ va_Nw (.methodLinkNest RX7 57 yX4_init RX7) U ∧ va_AO "SternBrocotExplorer$Node" U ∧ va_AOA .int U
theorem kN2.same {u U : State} (h : u.vm = U.vm) (hN : kN2 u) : kN2 U := ⟨va_Nw.same rfl h hN.1, va_Nw.same rfl h hN.2.1, va_AO.moved (by rw [h]; exact Vm.Alike.refl _) hN.2.2.1, over_moved (by rw [h]; exact Vm.Alike.refl _) hN.2.2.2⟩
theorem kN2.moved {s U : State} (hW : s.WarmedH U.vm) (hN : kN2 s) : kN2 U := ⟨va_Nw.warmM hW hN.1, va_Nw.warmM hW hN.2.1, va_AO.moved hW.alike hN.2.2.1, over_moved hW.alike hN.2.2.2⟩
/-- what of the start's premises the methods need apart from the tables' words -/
def kN (U : State) : Prop := va_Nw (.methodLinkNest RX1 23 yX7_quotient RX7) U ∧ (∀ q ∈ kYes, va_Nw (.castable q.1 q.2) U) ∧ (∀ q ∈ kNo, va_Nc q.1 q.2 U) ∧ kN2 U
theorem kN.same {u U : State} (h : u.vm = U.vm) (hN : kN u) : kN U := ⟨va_Nw.same rfl h hN.1, fun q hq => va_Nw.same rfl h (hN.2.1 q hq), fun q hq => va_Nc.moved (by rw [h]; exact Vm.Alike.refl _) (hN.2.2.1 q hq), hN.2.2.2.same h⟩
theorem kN.moved {s U : State} (hW : s.WarmedH U.vm) (hN : kN s) : kN U := ⟨va_Nw.warmM hW hN.1, fun q hq => va_Nw.warmC hW (hN.2.1 q hq), fun q hq => va_Nc.moved hW.alike (hN.2.2.1 q hq), hN.2.2.2.moved hW⟩
/-- the start of a method that writes -/
def kP (D : va_G) (tys : List (ClassId × FieldType)) (sz : Nat) (av : List Value) (wc : va_W) : Array Value → State → Prop := va_Pc av (fun U => U.heap.size = sz ∧ va_P D vwCl wc U.heap ∧ va_K D vwCl tys U ∧ va_D (fun _ => True) wc ∧ kN U)
/-- the start of a method that only reads -/
def kR (D : va_G) (tys : List (ClassId × FieldType)) (av : List Value) (wc : va_W) : Array Value → State → Prop := va_Pc av (fun U => va_P D vwCl wc U.heap ∧ va_K D vwCl tys U ∧ kN U)
theorem kP_blind {D : va_G} {tys : List (ClassId × FieldType)} {sz : Nat} {av : List Value} {wc : va_W} : FrameBlind (kP D tys sz av wc) := fun a U g mk q => ⟨q.1, q.2.1, q.2.2.1, va_K.moved (u := U) (U := U.calling g mk a) (Vm.Alike.refl U.vm) q.2.2.2.1, q.2.2.2.2.1, kN.same (u := U) (U := U.calling g mk a) rfl q.2.2.2.2.2⟩
theorem kR_blind {D : va_G} {tys : List (ClassId × FieldType)} {av : List Value} {wc : va_W} : FrameBlind (kR D tys av wc) := fun a U g mk q => ⟨q.1, q.2.1, va_K.moved (u := U) (U := U.calling g mk a) (Vm.Alike.refl U.vm) q.2.2.1, kN.same (u := U) (U := U.calling g mk a) rfl q.2.2.2⟩
theorem kP_at {s : State} {H : Heap} {D : va_G} {tys : List (ClassId × FieldType)} {av : List Value} {wc : va_W} {A : Nat → Prop} (hP : va_P D vwCl wc H) (hD : va_D A wc) (hK : va_K D vwCl tys s) (hN : kN s) : ∀ U : State, U.heap = H → s.WarmedH U.vm → kP D tys H.size av wc av.toArray U := fun U hU hW => ⟨rfl, by rw [hU], by rw [hU]; exact hP, va_K.moved hW.alike hK, hD.weaken (fun _ _ _ _ => trivial), hN.moved hW⟩
theorem kR_at {s : State} {H : Heap} {D : va_G} {tys : List (ClassId × FieldType)} {av : List Value} {wc : va_W} (hP : va_P D vwCl wc H) (hK : va_K D vwCl tys s) (hN : kN s) : ∀ U : State, U.heap = H → s.WarmedH U.vm → kR D tys av wc av.toArray U := fun U hU hW => ⟨rfl, by rw [hU]; exact hP, va_K.moved hW.alike hK, hN.moved hW⟩
def kB {S : Type} (D : va_G) (wc : va_W) (sz : Nat) (wB : S → va_W) : S → State → Prop := fun u t => va_P D vwCl (wB u) t.heap ∧ va_D (va_A wc sz) (wB u)
def kQi {S : Type} (D : va_G) (wc : va_W) (sz : Nat) (post : Int32 → S → Prop) (wB : S → va_W) := va_Qi post (kB D wc sz wB) (va_A wc sz)
def kQl {S : Type} (D : va_G) (wc : va_W) (sz : Nat) (post : Int64 → S → Prop) (wB : S → va_W) := va_Ql post (kB D wc sz wB) (va_A wc sz)
def kQv {S : Type} (D : va_G) (wc : va_W) (sz : Nat) (post : S → Prop) (wB : S → va_W) := va_Qv post (kB D wc sz wB) (va_A wc sz)
def kQr {S : Type} (D : va_G) (wc : va_W) (sz : Nat) (ad : Nat) (post : S → Prop) (wB : S → va_W) := va_Qr post (fun u a t => a = ad ∧ kB D wc sz wB u t) (va_A wc sz)
theorem k_fm {α β : Type} {f : α → Option β} {l : List α} {w : List β} (h : l.map f = w.map some) : l.filterMap f = w := by
  induction l generalizing w with
  | nil => cases w with
    | nil => rfl
    | cons b w => cases h
  | cons a l ih => cases w with
    | nil => cases h
    | cons b w =>
      rw [List.map_cons, List.map_cons] at h
      injection h with h1 h2
      rw [List.filterMap_cons, h1]
      show b :: _ = b :: _
      rw [ih h2]
section KMET
variable {l : Launch} {y : MethodName} {ws ws' : List Cond} {cc : ByteArray} {maxL : Nat} {rm : Room} {D : va_G} {tys : List (ClassId × FieldType)} {sz : Nat} {av : List Value} {wc : va_W} {mc ms : Nat}
theorem kMetI {S : Type} {post : Int32 → S → Prop} {wB : S → va_W} (hy : plainName y.cls = true) (hw : ws = Cond.code y cc maxL (some .int) :: ws') (hlen : (lg_sl av).length ≤ maxL)
    (body : ∀ (p : Program) (e : Env) (s : State) (m : MethodId) (args : Array Value) (below : List Frame) (meth : Method) (c : Code) (H : Heap) (ls : Array Slot) (A : Nat → Prop) (Q : State → Prop), CallFix p m c cc maxL s args ws y.cls → va_K D vwCl tys s → kN s → va_P D vwCl wc H → va_D A wc → va_S A H H [] → (∀ q, H.size ≤ q → A q) → lv_has ls maxL (lv_args 0 av) →
      (∀ (pc : Nat) (ls : Array Slot) (r : Int32) (u : S) (H1 : Heap) (locs : List Loc), post r u → va_P D vwCl (wB u) H1 → va_D A (wB u) → va_S A H H1 locs → decode cc pc = .ok (.ireturn, 1) → W p l e rm s m args below meth c H1 locs mc ms Q (F0 m pc ls [.int r])) →
      W p l e rm s m args below meth c H [] 0 0 Q (F0 m 0 ls [])) : Met l y ws rm (kP D tys sz av wc) (kQi D wc sz post wB) mc ms (va_A wc sz) := by
  refine Met.ofW (cc := cc) (maxL := maxL) (ret := some .int) hy hw ?_
  intro p e s m args below meth c s₁ B hml hv
  obtain ⟨rfl, hsz, hP, hK, hD0, hN⟩ := hv
  have hlocks := B.notSynchronized
  have hown : s.vm.findClass y.cls = some m.cls := findClass_of_methodNamed B.named
  subst hsz
  have hD := hD0.self (sz := s.heap.size)
  rw [lg_entry_eq]
  refine body p e s m _ below meth c s.heap _ (va_A wc s.heap.size) _ ⟨B.exec, B.bytes, hml, hown, atoms_spec (ws := ws) B.pre⟩ hK hN hP hD va_S.rf (fun q h => Or.inr h) (lv_entry av hlen) ?_
  intro pc ls r u H1 locs hpost hP1 hD1 hS1 hdg
  exact W.iret (v := r) B.exec B.bytes B.returns (fun t ht hW => ⟨⟨r, u, rfl, hpost, by show va_P _ _ _ t.heap; rw [ht]; exact hP1, hD1⟩, hS1.F ht⟩) hS1.2.2 hdg
theorem kMetZ {S : Type} {post : Int32 → S → Prop} {wB : S → va_W} (hy : plainName y.cls = true) (hw : ws = Cond.code y cc maxL (some .boolean) :: ws') (hlen : (lg_sl av).length ≤ maxL)
    (body : ∀ (p : Program) (e : Env) (s : State) (m : MethodId) (args : Array Value) (below : List Frame) (meth : Method) (c : Code) (H : Heap) (ls : Array Slot) (A : Nat → Prop) (Q : State → Prop), CallFix p m c cc maxL s args ws y.cls → va_K D vwCl tys s → kN s → va_P D vwCl wc H → va_D A wc → va_S A H H [] → (∀ q, H.size ≤ q → A q) → lv_has ls maxL (lv_args 0 av) →
      (∀ (pc : Nat) (ls : Array Slot) (r : Int32) (u : S) (H1 : Heap) (locs : List Loc), narrow .boolean (.int r) = .int r → post r u → va_P D vwCl (wB u) H1 → va_D A (wB u) → va_S A H H1 locs → decode cc pc = .ok (.ireturn, 1) → W p l e rm s m args below meth c H1 locs mc ms Q (F0 m pc ls [.int r])) →
      W p l e rm s m args below meth c H [] 0 0 Q (F0 m 0 ls [])) : Met l y ws rm (kP D tys sz av wc) (kQi D wc sz (fun r u => narrow .boolean (.int r) = .int r ∧ post r u) wB) mc ms (va_A wc sz) := by
  refine Met.ofW (cc := cc) (maxL := maxL) (ret := some .boolean) hy hw ?_
  intro p e s m args below meth c s₁ B hml hv
  obtain ⟨rfl, hsz, hP, hK, hD0, hN⟩ := hv
  have hlocks := B.notSynchronized
  have hown : s.vm.findClass y.cls = some m.cls := findClass_of_methodNamed B.named
  subst hsz
  have hD := hD0.self (sz := s.heap.size)
  rw [lg_entry_eq]
  refine body p e s m _ below meth c s.heap _ (va_A wc s.heap.size) _ ⟨B.exec, B.bytes, hml, hown, atoms_spec (ws := ws) B.pre⟩ hK hN hP hD va_S.rf (fun q h => Or.inr h) (lv_entry av hlen) ?_
  intro pc ls r u H1 locs hnb hpost hP1 hD1 hS1 hdg
  exact W.zret (v := r) B.exec B.bytes B.returns hnb (fun t ht hW => ⟨⟨r, u, rfl, ⟨hnb, hpost⟩, by show va_P _ _ _ t.heap; rw [ht]; exact hP1, hD1⟩, hS1.F ht⟩) hS1.2.2 hdg
theorem kMetL {S : Type} {post : Int64 → S → Prop} {wB : S → va_W} (hy : plainName y.cls = true) (hw : ws = Cond.code y cc maxL (some .long) :: ws') (hlen : (lg_sl av).length ≤ maxL)
    (body : ∀ (p : Program) (e : Env) (s : State) (m : MethodId) (args : Array Value) (below : List Frame) (meth : Method) (c : Code) (H : Heap) (ls : Array Slot) (A : Nat → Prop) (Q : State → Prop), CallFix p m c cc maxL s args ws y.cls → va_K D vwCl tys s → kN s → va_P D vwCl wc H → va_D A wc → va_S A H H [] → (∀ q, H.size ≤ q → A q) → lv_has ls maxL (lv_args 0 av) →
      (∀ (pc : Nat) (ls : Array Slot) (r : Int64) (u : S) (H1 : Heap) (locs : List Loc), post r u → va_P D vwCl (wB u) H1 → va_D A (wB u) → va_S A H H1 locs → decode cc pc = .ok (.lreturn, 1) → W p l e rm s m args below meth c H1 locs mc ms Q (F0 m pc ls [.long r])) →
      W p l e rm s m args below meth c H [] 0 0 Q (F0 m 0 ls [])) : Met l y ws rm (kP D tys sz av wc) (kQl D wc sz post wB) mc ms (va_A wc sz) := by
  refine Met.ofW (cc := cc) (maxL := maxL) (ret := some .long) hy hw ?_
  intro p e s m args below meth c s₁ B hml hv
  obtain ⟨rfl, hsz, hP, hK, hD0, hN⟩ := hv
  have hlocks := B.notSynchronized
  have hown : s.vm.findClass y.cls = some m.cls := findClass_of_methodNamed B.named
  subst hsz
  have hD := hD0.self (sz := s.heap.size)
  rw [lg_entry_eq]
  refine body p e s m _ below meth c s.heap _ (va_A wc s.heap.size) _ ⟨B.exec, B.bytes, hml, hown, atoms_spec (ws := ws) B.pre⟩ hK hN hP hD va_S.rf (fun q h => Or.inr h) (lv_entry av hlen) ?_
  intro pc ls r u H1 locs hpost hP1 hD1 hS1 hdg
  exact W.lret (v := r) B.exec B.bytes B.returns (fun t ht hW => ⟨⟨r, u, rfl, hpost, by show va_P _ _ _ t.heap; rw [ht]; exact hP1, hD1⟩, hS1.F ht⟩) hS1.2.2 hdg
theorem kMetV {S : Type} {post : S → Prop} {wB : S → va_W} (hy : plainName y.cls = true) (hw : ws = Cond.code y cc maxL none :: ws') (hlen : (lg_sl av).length ≤ maxL)
    (body : ∀ (p : Program) (e : Env) (s : State) (m : MethodId) (args : Array Value) (below : List Frame) (meth : Method) (c : Code) (H : Heap) (ls : Array Slot) (A : Nat → Prop) (Q : State → Prop), CallFix p m c cc maxL s args ws y.cls → va_K D vwCl tys s → kN s → va_P D vwCl wc H → va_D A wc → va_S A H H [] → (∀ q, H.size ≤ q → A q) → lv_has ls maxL (lv_args 0 av) →
      (∀ (pc : Nat) (ls : Array Slot) (u : S) (H1 : Heap) (locs : List Loc), post u → va_P D vwCl (wB u) H1 → va_D A (wB u) → va_S A H H1 locs → decode cc pc = .ok (.return_, 1) → W p l e rm s m args below meth c H1 locs mc ms Q (F0 m pc ls [])) →
      W p l e rm s m args below meth c H [] 0 0 Q (F0 m 0 ls [])) : Met l y ws rm (kP D tys sz av wc) (kQv D wc sz post wB) mc ms (va_A wc sz) := by
  refine Met.ofW (cc := cc) (maxL := maxL) (ret := none) hy hw ?_
  intro p e s m args below meth c s₁ B hml hv
  obtain ⟨rfl, hsz, hP, hK, hD0, hN⟩ := hv
  have hlocks := B.notSynchronized
  have hown : s.vm.findClass y.cls = some m.cls := findClass_of_methodNamed B.named
  subst hsz
  have hD := hD0.self (sz := s.heap.size)
  rw [lg_entry_eq]
  refine body p e s m _ below meth c s.heap _ (va_A wc s.heap.size) _ ⟨B.exec, B.bytes, hml, hown, atoms_spec (ws := ws) B.pre⟩ hK hN hP hD va_S.rf (fun q h => Or.inr h) (lv_entry av hlen) ?_
  intro pc ls u H1 locs hpost hP1 hD1 hS1 hdg
  exact W.vret B.exec B.bytes B.returns (fun t ht hW => ⟨⟨u, rfl, hpost, by show va_P _ _ _ t.heap; rw [ht]; exact hP1, hD1⟩, hS1.F ht⟩) hS1.2.2 hdg
theorem kMetR {S : Type} {cn : String} {ad : Nat} {post : S → Prop} {wB : S → va_W} (hy : plainName y.cls = true) (hw : ws = Cond.code y cc maxL (some (.object cn)) :: ws') (hlen : (lg_sl av).length ≤ maxL)
    (body : ∀ (p : Program) (e : Env) (s : State) (m : MethodId) (args : Array Value) (below : List Frame) (meth : Method) (c : Code) (H : Heap) (ls : Array Slot) (A : Nat → Prop) (Q : State → Prop), CallFix p m c cc maxL s args ws y.cls → va_K D vwCl tys s → kN s → va_P D vwCl wc H → va_D A wc → va_S A H H [] → (∀ q, H.size ≤ q → A q) → lv_has ls maxL (lv_args 0 av) →
      (∀ (pc : Nat) (ls : Array Slot) (u : S) (H1 : Heap) (locs : List Loc), post u → va_P D vwCl (wB u) H1 → va_D A (wB u) → va_S A H H1 locs → decode cc pc = .ok (.areturn, 1) → W p l e rm s m args below meth c H1 locs mc ms Q (F0 m pc ls [.ref ad])) →
      W p l e rm s m args below meth c H [] 0 0 Q (F0 m 0 ls [])) : Met l y ws rm (kP D tys sz av wc) (kQr D wc sz ad post wB) mc ms (va_A wc sz) := by
  refine Met.ofW (cc := cc) (maxL := maxL) (ret := some (.object cn)) hy hw ?_
  intro p e s m args below meth c s₁ B hml hv
  obtain ⟨rfl, hsz, hP, hK, hD0, hN⟩ := hv
  have hlocks := B.notSynchronized
  have hown : s.vm.findClass y.cls = some m.cls := findClass_of_methodNamed B.named
  subst hsz
  have hD := hD0.self (sz := s.heap.size)
  rw [lg_entry_eq]
  refine body p e s m _ below meth c s.heap _ (va_A wc s.heap.size) _ ⟨B.exec, B.bytes, hml, hown, atoms_spec (ws := ws) B.pre⟩ hK hN hP hD va_S.rf (fun q h => Or.inr h) (lv_entry av hlen) ?_
  intro pc ls u H1 locs hpost hP1 hD1 hS1 hdg
  exact W.aret (v := .ref ad) B.exec B.bytes B.returns (Or.inl ⟨cn, rfl⟩) (Or.inr ⟨ad, rfl⟩) (fun t ht hW => ⟨⟨u, ad, rfl, hpost, rfl, by show va_P _ _ _ t.heap; rw [ht]; exact hP1, hD1⟩, hS1.F ht⟩) hS1.2.2 hdg
/-- methods that only read -/
theorem kMetRI {post : Int32 → Prop} (hy : plainName y.cls = true) (hw : ws = Cond.code y cc maxL (some .int) :: ws') (hlen : (lg_sl av).length ≤ maxL)
    (body : ∀ (p : Program) (e : Env) (s : State) (m : MethodId) (args : Array Value) (below : List Frame) (meth : Method) (c : Code) (H : Heap) (ls : Array Slot) (Q : State → Prop), CallFix p m c cc maxL s args ws y.cls → va_K D vwCl tys s → kN s → va_P D vwCl wc H → lv_has ls maxL (lv_args 0 av) →
      (∀ (pc : Nat) (ls : Array Slot) (r : Int32), post r → decode cc pc = .ok (.ireturn, 1) → W p l e rm s m args below meth c H [] 0 0 Q (F0 m pc ls [.int r])) →
      W p l e rm s m args below meth c H [] 0 0 Q (F0 m 0 ls [])) : Met l y ws rm (kR D tys av wc) (vp_Si post) 0 0 (fun _ => False) := by
  refine Met.ofW (cc := cc) (maxL := maxL) (ret := some .int) hy hw ?_
  intro p e s m args below meth c s₁ B hml hv
  obtain ⟨rfl, hP, hK, hN⟩ := hv
  have hlocks := B.notSynchronized
  have hown : s.vm.findClass y.cls = some m.cls := findClass_of_methodNamed B.named
  rw [lg_entry_eq]
  refine body p e s m _ below meth c s.heap _ _ ⟨B.exec, B.bytes, hml, hown, atoms_spec (ws := ws) B.pre⟩ hK hN hP (lv_entry av hlen) ?_
  intro pc ls r hpost hdg
  exact W.iret (v := r) B.exec B.bytes B.returns (fun t ht hW => ⟨r, rfl, hpost, ht⟩) (fun _ h => by cases h) hdg
theorem kMetRZ {post : Int32 → Prop} (hy : plainName y.cls = true) (hw : ws = Cond.code y cc maxL (some .boolean) :: ws') (hlen : (lg_sl av).length ≤ maxL)
    (body : ∀ (p : Program) (e : Env) (s : State) (m : MethodId) (args : Array Value) (below : List Frame) (meth : Method) (c : Code) (H : Heap) (ls : Array Slot) (Q : State → Prop), CallFix p m c cc maxL s args ws y.cls → va_K D vwCl tys s → kN s → va_P D vwCl wc H → lv_has ls maxL (lv_args 0 av) →
      (∀ (pc : Nat) (ls : Array Slot) (r : Int32), narrow .boolean (.int r) = .int r → post r → decode cc pc = .ok (.ireturn, 1) → W p l e rm s m args below meth c H [] 0 0 Q (F0 m pc ls [.int r])) →
      W p l e rm s m args below meth c H [] 0 0 Q (F0 m 0 ls [])) : Met l y ws rm (kR D tys av wc) (vp_Si (fun r => narrow .boolean (.int r) = .int r ∧ post r)) 0 0 (fun _ => False) := by
  refine Met.ofW (cc := cc) (maxL := maxL) (ret := some .boolean) hy hw ?_
  intro p e s m args below meth c s₁ B hml hv
  obtain ⟨rfl, hP, hK, hN⟩ := hv
  have hlocks := B.notSynchronized
  have hown : s.vm.findClass y.cls = some m.cls := findClass_of_methodNamed B.named
  rw [lg_entry_eq]
  refine body p e s m _ below meth c s.heap _ _ ⟨B.exec, B.bytes, hml, hown, atoms_spec (ws := ws) B.pre⟩ hK hN hP (lv_entry av hlen) ?_
  intro pc ls r hnb hpost hdg
  exact W.zret (v := r) B.exec B.bytes B.returns hnb (fun t ht hW => ⟨r, rfl, ⟨hnb, hpost⟩, ht⟩) (fun _ h => by cases h) hdg
theorem kMetRL {post : Int64 → Prop} (hy : plainName y.cls = true) (hw : ws = Cond.code y cc maxL (some .long) :: ws') (hlen : (lg_sl av).length ≤ maxL)
    (body : ∀ (p : Program) (e : Env) (s : State) (m : MethodId) (args : Array Value) (below : List Frame) (meth : Method) (c : Code) (H : Heap) (ls : Array Slot) (Q : State → Prop), CallFix p m c cc maxL s args ws y.cls → va_K D vwCl tys s → kN s → va_P D vwCl wc H → lv_has ls maxL (lv_args 0 av) →
      (∀ (pc : Nat) (ls : Array Slot) (r : Int64), post r → decode cc pc = .ok (.lreturn, 1) → W p l e rm s m args below meth c H [] 0 0 Q (F0 m pc ls [.long r])) →
      W p l e rm s m args below meth c H [] 0 0 Q (F0 m 0 ls [])) : Met l y ws rm (kR D tys av wc) (vp_Sl post) 0 0 (fun _ => False) := by
  refine Met.ofW (cc := cc) (maxL := maxL) (ret := some .long) hy hw ?_
  intro p e s m args below meth c s₁ B hml hv
  obtain ⟨rfl, hP, hK, hN⟩ := hv
  have hlocks := B.notSynchronized
  have hown : s.vm.findClass y.cls = some m.cls := findClass_of_methodNamed B.named
  rw [lg_entry_eq]
  refine body p e s m _ below meth c s.heap _ _ ⟨B.exec, B.bytes, hml, hown, atoms_spec (ws := ws) B.pre⟩ hK hN hP (lv_entry av hlen) ?_
  intro pc ls r hpost hdg
  exact W.lret (v := r) B.exec B.bytes B.returns (fun t ht hW => ⟨r, rfl, hpost, ht⟩) (fun _ h => by cases h) hdg
end KMET
section KCALL
variable {p : Program} {l : Launch} {e : Env} {R : Room} {s : State} {m : MethodId} {args : Array Value} {below : List Frame} {meth : Method} {c : Code} {H : Heap} {locs : List Loc} {cells slots : Nat} {Q : State → Prop}
variable {y : MethodName} {bytes cc : ByteArray} {maxL nL mc ms index : Nat} {ret : Option FieldType} {ws ws' : List Cond} {rm : Room} {Qc : Array Value → State → Outcome → State → Prop} {free : Addr → Prop} {Ts : List Cond} {own host : String} {b : Addr} {As rest st0 : List Value} {pc : Nat} {ls : Array Slot} {D : va_G} {tys : List (ClassId × FieldType)} {wc : va_W} {A : Nat → Prop}
abbrev kNm (y : MethodName) (n : Nat) : Prop := y.cls ≠ "java/lang/invoke/MethodHandle" ∧ y.cls ≠ "java/lang/invoke/VarHandle" ∧ (parseMethodDescriptor y.desc).map (fun d => d.parameters.length) = some n
theorem rV (S : CallFix p m c cc nL s args Ts own) (hK : va_K D vwCl tys s) (hN : kN s) (hM : Met l y ws rm (kP D tys H.size (.ref b :: As) wc) Qc mc ms free) (n : Nat) (hG : GoodIn Ts (wsV own index y.cls y ws)) (hw : ws = Cond.code y bytes maxL ret :: ws') (hrc : rm.cells = mc ∧ rm.slots = ms) (hd : kNm y n) (hR : rm.frames + 1 ≤ R.frames ∧ 8 + (maxL + 11) + rm.locals ≤ R.locals)
    {ci q0 : Nat} {fs : List Value} {r : vw_C} (he : wc[q0]? = some (b, .inr (ci, fs))) (hc : vwCl[ci]? = some r) (hC : r.1 = y.cls) (hn : As.length = n) (hsize : ls.size = nL) (hst : st0 = As.reverse ++ .ref b :: rest) (hW : (rest.map fun v => v.category).sum ≤ 8) (hdg : decode cc pc = .ok (.invokevirtual index, 3)) (hf : cells + mc ≤ R.cells ∧ slots + ms ≤ R.slots)
    (hPc : va_P D vwCl wc H) (hDc : va_D A wc) : va_Run p l e R s m args below meth c H locs cells slots mc ms (F0 m pc ls st0) rest (Qc (Value.ref b :: As).toArray) free :=
  va_runV (As := As) (rest := rest) S hM (cwV n S.2.2.2.2 hG hw hrc.1 hrc.2 ⟨rfl, hd⟩ hR) ⟨kP_blind, hC ▸ va_recv hK hPc hc he, kP_at hPc hDc hK hN⟩ rfl hn hsize hst (lv_room hW) hdg hf
theorem rS (S : CallFix p m c cc nL s args Ts own) (hK : va_K D vwCl tys s) (hN : kN s) (hM : Met l y ws rm (kP D tys H.size As wc) Qc mc ms free) (n : Nat) (hG : GoodIn Ts (va_wsS own index y ws)) (hw : ws = Cond.code y bytes maxL ret :: ws') (hrc : rm.cells = mc ∧ rm.slots = ms) (hd : kNm y n) (hR : rm.frames + 1 ≤ R.frames ∧ 8 + (maxL + 11) + rm.locals ≤ R.locals)
    (hn : As.length = n) (hsize : ls.size = nL) (hst : st0 = As.reverse ++ rest) (hW : (rest.map fun v => v.category).sum ≤ 8) (hdg : decode cc pc = .ok (.invokestatic index, 3)) (hf : cells + mc ≤ R.cells ∧ slots + ms ≤ R.slots)
    (hPc : va_P D vwCl wc H) (hDc : va_D A wc) : va_Run p l e R s m args below meth c H locs cells slots mc ms (F0 m pc ls st0) rest (Qc As.toArray) free :=
  va_runS (As := As) (rest := rest) S hM (va_cwS n S.2.2.2.2 hG hw hrc.1 hrc.2 hd hR) ⟨kP_blind, kP_at hPc hDc hK hN⟩ rfl hn hsize hst (lv_room hW) hdg hf
/-- the same of methods that only read -/
theorem oV (S : CallFix p m c cc nL s args Ts own) (hK : va_K D vwCl tys s) (hN : kN s) (hM : Met l y ws rm (kR D tys (.ref b :: As) wc) Qc mc ms free) (n : Nat) (hG : GoodIn Ts (wsV own index y.cls y ws)) (hw : ws = Cond.code y bytes maxL ret :: ws') (hrc : rm.cells = mc ∧ rm.slots = ms) (hd : kNm y n) (hR : rm.frames + 1 ≤ R.frames ∧ 8 + (maxL + 11) + rm.locals ≤ R.locals)
    {ci q0 : Nat} {fs : List Value} {r : vw_C} (he : wc[q0]? = some (b, .inr (ci, fs))) (hc : vwCl[ci]? = some r) (hC : r.1 = y.cls) (hn : As.length = n) (hsize : ls.size = nL) (hst : st0 = As.reverse ++ .ref b :: rest) (hW : (rest.map fun v => v.category).sum ≤ 8) (hdg : decode cc pc = .ok (.invokevirtual index, 3)) (hf : cells + mc ≤ R.cells ∧ slots + ms ≤ R.slots)
    (hPc : va_P D vwCl wc H) : CallRun p l e R s m args below meth c H locs cells slots mc ms (F0 m pc ls st0) rest (Qc (Value.ref b :: As).toArray) free :=
  (va_runV (As := As) (rest := rest) S hM (cwV n S.2.2.2.2 hG hw hrc.1 hrc.2 ⟨rfl, hd⟩ hR) ⟨kR_blind, hC ▸ va_recv hK hPc hc he, kR_at hPc hK hN⟩ rfl hn hsize hst (lv_room hW) hdg hf).run
theorem oS (S : CallFix p m c cc nL s args Ts own) (hK : va_K D vwCl tys s) (hN : kN s) (hM : Met l y ws rm (kR D tys As wc) Qc mc ms free) (n : Nat) (hG : GoodIn Ts (va_wsS own index y ws)) (hw : ws = Cond.code y bytes maxL ret :: ws') (hrc : rm.cells = mc ∧ rm.slots = ms) (hd : kNm y n) (hR : rm.frames + 1 ≤ R.frames ∧ 8 + (maxL + 11) + rm.locals ≤ R.locals)
    (hn : As.length = n) (hsize : ls.size = nL) (hst : st0 = As.reverse ++ rest) (hW : (rest.map fun v => v.category).sum ≤ 8) (hdg : decode cc pc = .ok (.invokestatic index, 3)) (hf : cells + mc ≤ R.cells ∧ slots + ms ≤ R.slots)
    (hPc : va_P D vwCl wc H) : CallRun p l e R s m args below meth c H locs cells slots mc ms (F0 m pc ls st0) rest (Qc As.toArray) free :=
  (va_runS (As := As) (rest := rest) S hM (va_cwS n S.2.2.2.2 hG hw hrc.1 hrc.2 hd hR) ⟨kR_blind, kR_at hPc hK hN⟩ rfl hn hsize hst (lv_room hW) hdg hf).run
/-- a private static of a nest mate that only reads -/
theorem oSN (S : CallFix p m c cc nL s args Ts own) (hK : va_K D vwCl tys s) (hN : kN s) (hM : Met l y ws rm (kR D tys As wc) Qc mc ms free) (n : Nat) (hl : va_Nw (.methodLinkNest own index y host) s) (hst9 : (Cond.static y).before args s = true) (hini : (Cond.initialized y.cls).before args s = true) (hG : GoodIn Ts ws) (hw : ws = Cond.code y bytes maxL ret :: ws') (hrc : rm.cells = mc ∧ rm.slots = ms) (hd : kNm y n) (hR : rm.frames + 1 ≤ R.frames ∧ 8 + (maxL + 11) + rm.locals ≤ R.locals)
    (hn : As.length = n) (hsize : ls.size = nL) (hst : st0 = As.reverse ++ rest) (hW : (rest.map fun v => v.category).sum ≤ 8) (hdg : decode cc pc = .ok (.invokestatic index, 3)) (hf : cells + mc ≤ R.cells ∧ slots + ms ≤ R.slots)
    (hPc : va_P D vwCl wc H) : CallRun p l e R s m args below meth c H locs cells slots mc ms (F0 m pc ls st0) rest (Qc As.toArray) free :=
  (va_runSN (As := As) (rest := rest) (host := host) S hM ⟨va_cnB n S.2.2.2.2 hG hw hrc.1 hrc.2 hl hini hd hR, hst9, trivial⟩ ⟨kR_blind, kR_at hPc hK hN⟩ rfl hn hsize hst (lv_room hW) hdg hf).run
variable {wo wr : va_W} {H0 : Heap} {a : Array Value}
theorem kcI {S : Type} {post : Int32 → S → Prop} {wB : S → va_W} (hP : va_P D vwCl wo H) (hD : va_D A wo) (hS : va_S A H0 H locs) (hA : ∀ q, H0.size ≤ q → A q) (isC isR : List Nat) (hC : isC.map (fun i => wo[i]?) = wc.map some) (hR : isR.map (fun i => wo[i]?) = wr.map some) (hn : va_nd isC = true ∧ va_nd isR = true ∧ ∀ i ∈ isR, i ∉ isC)
    (hr : va_P D vwCl wc H → va_D A wc → va_Run p l e R s m args below meth c H locs cells slots 0 0 (F0 m pc ls st0) rest (kQi D wc H.size post wB a) (va_A wc H.size))
    (kk : ∀ (r : Int32) (u : S) (H1 : Heap) (locs1 : List Loc), post r u → va_P D vwCl (wr ++ wB u) H1 → va_D A (wr ++ wB u) → va_S A H0 H1 locs1 → W p l e R s m args below meth c H1 locs1 cells slots Q (F0 m (pc + 3) ls (.int r :: rest))) : W p l e R s m args below meth c H locs cells slots Q (F0 m pc ls st0) := by
  have hF := va_free (wc := wc) hD hS hA isC hC
  refine va_calli (hr (hP.sub isC (k_fm hC)) (hD.sub isC hn.1 hC)) hS (fun q _ h => hF q h) hF (fun r u t H1 locs1 ht hvm hw hB hz1 hk1 hS1 => ?_)
  obtain ⟨hP1, hD1⟩ := hB
  rw [ht] at hP1
  obtain ⟨h1, h2⟩ := va_join hP hD isC isR hC hR hn.2.1 hn.2.2 hk1 hF hP1 hD1
  exact kk r u H1 locs1 hw h1 h2 hS1
theorem kcL {S : Type} {post : Int64 → S → Prop} {wB : S → va_W} (hP : va_P D vwCl wo H) (hD : va_D A wo) (hS : va_S A H0 H locs) (hA : ∀ q, H0.size ≤ q → A q) (isC isR : List Nat) (hC : isC.map (fun i => wo[i]?) = wc.map some) (hR : isR.map (fun i => wo[i]?) = wr.map some) (hn : va_nd isC = true ∧ va_nd isR = true ∧ ∀ i ∈ isR, i ∉ isC)
    (hr : va_P D vwCl wc H → va_D A wc → va_Run p l e R s m args below meth c H locs cells slots 0 0 (F0 m pc ls st0) rest (kQl D wc H.size post wB a) (va_A wc H.size))
    (kk : ∀ (r : Int64) (u : S) (H1 : Heap) (locs1 : List Loc), post r u → va_P D vwCl (wr ++ wB u) H1 → va_D A (wr ++ wB u) → va_S A H0 H1 locs1 → W p l e R s m args below meth c H1 locs1 cells slots Q (F0 m (pc + 3) ls (.long r :: rest))) : W p l e R s m args below meth c H locs cells slots Q (F0 m pc ls st0) := by
  have hF := va_free (wc := wc) hD hS hA isC hC
  refine va_calll (hr (hP.sub isC (k_fm hC)) (hD.sub isC hn.1 hC)) hS (fun q _ h => hF q h) hF (fun r u t H1 locs1 ht hvm hw hB hz1 hk1 hS1 => ?_)
  obtain ⟨hP1, hD1⟩ := hB
  rw [ht] at hP1
  obtain ⟨h1, h2⟩ := va_join hP hD isC isR hC hR hn.2.1 hn.2.2 hk1 hF hP1 hD1
  exact kk r u H1 locs1 hw h1 h2 hS1
theorem kcV {S : Type} {post : S → Prop} {wB : S → va_W} (hP : va_P D vwCl wo H) (hD : va_D A wo) (hS : va_S A H0 H locs) (hA : ∀ q, H0.size ≤ q → A q) (isC isR : List Nat) (hC : isC.map (fun i => wo[i]?) = wc.map some) (hR : isR.map (fun i => wo[i]?) = wr.map some) (hn : va_nd isC = true ∧ va_nd isR = true ∧ ∀ i ∈ isR, i ∉ isC)
    (hr : va_P D vwCl wc H → va_D A wc → va_Run p l e R s m args below meth c H locs cells slots 0 0 (F0 m pc ls st0) rest (kQv D wc H.size post wB a) (va_A wc H.size))
    (kk : ∀ (u : S) (H1 : Heap) (locs1 : List Loc), post u → va_P D vwCl (wr ++ wB u) H1 → va_D A (wr ++ wB u) → va_S A H0 H1 locs1 → W p l e R s m args below meth c H1 locs1 cells slots Q (F0 m (pc + 3) ls rest)) : W p l e R s m args below meth c H locs cells slots Q (F0 m pc ls st0) := by
  have hF := va_free (wc := wc) hD hS hA isC hC
  refine va_callv (hr (hP.sub isC (k_fm hC)) (hD.sub isC hn.1 hC)) hS (fun q _ h => hF q h) hF (fun u t H1 locs1 ht hvm hw hB hz1 hk1 hS1 => ?_)
  obtain ⟨hP1, hD1⟩ := hB
  rw [ht] at hP1
  obtain ⟨h1, h2⟩ := va_join hP hD isC isR hC hR hn.2.1 hn.2.2 hk1 hF hP1 hD1
  exact kk u H1 locs1 hw h1 h2 hS1
theorem kcR {S : Type} {ad : Nat} {post : S → Prop} {wB : S → va_W} (hP : va_P D vwCl wo H) (hD : va_D A wo) (hS : va_S A H0 H locs) (hA : ∀ q, H0.size ≤ q → A q) (isC isR : List Nat) (hC : isC.map (fun i => wo[i]?) = wc.map some) (hR : isR.map (fun i => wo[i]?) = wr.map some) (hn : va_nd isC = true ∧ va_nd isR = true ∧ ∀ i ∈ isR, i ∉ isC)
    (hr : va_P D vwCl wc H → va_D A wc → va_Run p l e R s m args below meth c H locs cells slots 0 0 (F0 m pc ls st0) rest (kQr D wc H.size ad post wB a) (va_A wc H.size))
    (kk : ∀ (u : S) (H1 : Heap) (locs1 : List Loc), post u → va_P D vwCl (wr ++ wB u) H1 → va_D A (wr ++ wB u) → va_S A H0 H1 locs1 → W p l e R s m args below meth c H1 locs1 cells slots Q (F0 m (pc + 3) ls (.ref ad :: rest))) : W p l e R s m args below meth c H locs cells slots Q (F0 m pc ls st0) := by
  have hF := va_free (wc := wc) hD hS hA isC hC
  refine va_callr (hr (hP.sub isC (k_fm hC)) (hD.sub isC hn.1 hC)) hS (fun q _ h => hF q h) hF (fun u ra t H1 locs1 ht hvm hw hB hz1 hk1 hS1 => ?_)
  obtain ⟨rfl, hP1, hD1⟩ := hB
  rw [ht] at hP1
  obtain ⟨h1, h2⟩ := va_join hP hD isC isR hC hR hn.2.1 hn.2.2 hk1 hF hP1 hD1
  exact kk u H1 locs1 hw h1 h2 hS1
theorem kcRI {post : Int32 → Prop} (hP : va_P D vwCl wo H) (isC : List Nat) (hC : isC.map (fun i => wo[i]?) = wc.map some)
    (hr : va_P D vwCl wc H → CallRun p l e R s m args below meth c H locs cells slots 0 0 (F0 m pc ls st0) rest (vp_Si post a) (fun _ => False))
    (kk : ∀ r : Int32, post r → W p l e R s m args below meth c H locs cells slots Q (F0 m (pc + 3) ls (.int r :: rest))) : W p l e R s m args below meth c H locs cells slots Q (F0 m pc ls st0) := vp_callSi (hr (hP.sub isC (k_fm hC))) kk
theorem kcRL {post : Int64 → Prop} (hP : va_P D vwCl wo H) (isC : List Nat) (hC : isC.map (fun i => wo[i]?) = wc.map some)
    (hr : va_P D vwCl wc H → CallRun p l e R s m args below meth c H locs cells slots 0 0 (F0 m pc ls st0) rest (vp_Sl post a) (fun _ => False))
    (kk : ∀ r : Int64, post r → W p l e R s m args below meth c H locs cells slots Q (F0 m (pc + 3) ls (.long r :: rest))) : W p l e R s m args below meth c H locs cells slots Q (F0 m pc ls st0) := vp_callSl (hr (hP.sub isC (k_fm hC))) kk
end KCALL
abbrev o7 (rf : Nat → Nat) (hs tls ts : Int32) : va_E := .inr (2, [.ref (rf 1), .ref (rf 2), .ref (rf 3), .ref (rf 4), .ref (rf 5), .ref (rf 6), .int hs, .ref (rf 8), .int tls, .ref (rf 10), .int ts, .ref (rf 12), .ref (rf 13), .ref (rf 14), .ref (rf 15), .ref (rf 16)])
abbrev o1 (h : Nat) (size : Int32) (lt lb rt rb : Int64) : va_E := .inr (0, [.ref h, .int size, .long lt, .long lb, .long rt, .long rb])
abbrev o4 (a b c d : Nat) (size : Int32) : va_E := .inr (1, [.ref a, .ref b, .ref c, .ref d, .int size])
abbrev ai (cI : ClassId) (n : Nat) (f : Nat → Int32) : va_E := .inl (cI, n, .inl f)
abbrev al (cJ : ClassId) (n : Nat) (f : Nat → Int64) : va_E := .inl (cJ, n, .inr (.inl f))
abbrev aq (cN : ClassId) (n : Nat) (f : Nat → Option Nat) : va_E := .inl (cN, n, .inr (.inr (.inr (.inr f))))
abbrev ar (cR : ClassId) (rf : Nat → Nat) : va_E := .inl (cR, 3, .inr (.inr (.inr (.inr (fun i => if i = 0 then some (rf 23) else if i = 1 then some (rf 24) else if i = 2 then some (rf 25) else none)))))
abbrev kT (cI cJ cN cR : ClassId) : List (ClassId × FieldType) := [(cI, .int), (cJ, .int), (cN, .object "SternBrocotExplorer$Node"), (cR, .array .int)]
theorem k_three {i : Int32} (h : vp_in i 3) : i = 0 ∨ i = 1 ∨ i = 2 := by
  obtain ⟨j, hj, rfl⟩ := vp_in_of h (by decide)
  rcases (show j = 0 ∨ j = 1 ∨ j = 2 by omega) with rfl | rfl | rfl
  · exact Or.inl rfl
  · exact Or.inr (Or.inl rfl)
  · exact Or.inr (Or.inr rfl)
section KALD
variable {p : Program} {l : Launch} {e : Env} {R : Room} {s : State} {m : MethodId} {args : Array Value} {below : List Frame} {meth : Method} {c : Code} {H : Heap} {locs : List Loc} {cells slots : Nat} {Q : State → Prop}
variable {cc : ByteArray} {pc : Nat} {ls : Array Slot} {rest : List Value} {D : va_G} {cl : List vw_C} {a : Nat} {tys : List (ClassId × FieldType)} {ws : va_W}
/-- a row of an array of arrays -/
theorem k_aldM (hexec : p.tables.exec = Jvm.exec) (hb : c.code = cc) (hK : va_K D cl tys s) (hP : va_P D cl ws H) (q0 t0 : Nat) {cA : ClassId} {t : FieldType} {n q : Nat} {f : Nat → Option Nat} (ha : ws[q0]? = some (a, .inl (cA, n, .inr (.inr (.inr (.inr f)))))) (ht : tys[t0]? = some (cA, .array t)) {i : Int32} (hin : vp_in i n) (hq : f i.toNatClampNeg = some q) (hdg : decode cc pc = .ok (.aaload, 1))
    (kk : W p l e R s m args below meth c H locs cells slots Q (F0 m (pc + 1) ls (.ref q :: rest))) : W p l e R s m args below meth c H locs cells slots Q (F0 m pc ls (.int i :: .ref a :: rest)) := by
  have hlt : i.toNatClampNeg < n := Nat.not_le.mp fun q => hin (Or.inr q)
  have kk2 : W p l e R s m args below meth c H locs cells slots Q (F0 m (pc + 1) ls (va_rf (f i.toNatClampNeg) :: rest)) := by rw [hq]; exact kk
  exact W.aald (v := va_rf (f i.toNatClampNeg)) (ty := .array t) hexec hb (hP q0 _ ha) ((hK.2 t0 _ ht).1 n (fun j => va_rf (f j))) rfl (fun q => by cases q) (by show ¬ (i < 0 ∨ (arrV _ _ _).slots.size ≤ _); rw [arrV_size]; exact hin) (by show (arrV _ _ _).slots[_]? = _; rw [arrV_read _ _ hlt]) rfl rfl hdg kk2
end KALD
theorem k_sub {D : va_G} {A : Nat → Prop} {ws ws' : va_W} {H : Heap} (hP : va_P D vwCl ws H) (hD : va_D A ws) (is : List Nat) (hn : va_nd is = true) (hs : is.map (fun i => ws[i]?) = ws'.map some) : va_P D vwCl ws' H ∧ va_D A ws' := ⟨hP.sub is (k_fm hs), hD.sub is hn hs⟩
end
section
def w7_isRegister  (v0 : Int32) (post : Int32 → Prop) : Prop :=
  ((v0 < 0 → (post (0 : Int32))) ∧ (¬ v0 < 0 → (((8 : Int32) ≤ v0 → (post (0 : Int32))) ∧ (¬ (8 : Int32) ≤ v0 → (post (1 : Int32))))))
def w7_isIn  (v0 : Int32) (v1 : Int32) (v2 : Int32) (post : Int32 → Prop) : Prop :=
  ((v0 < v1 → (post (0 : Int32))) ∧ (¬ v0 < v1 → ((v2 < v0 → (post (0 : Int32))) ∧ (¬ v2 < v0 → (post (1 : Int32))))))
def w7_gcd_L9   (post : Int64 → Prop)  : Nat → Int64 → Int64 → Int32 → Prop
  | 0, _, _, _ => False
  | n9 + 1, v4, v6, v8 =>
  (((1000 : Int32) ≤ v8 → (post v4)) ∧ (¬ (1000 : Int32) ≤ v8 → ((v6 ≤ (0 : Int64) → (post v4)) ∧ (¬ v6 ≤ (0 : Int64) → (¬ v6 = 0 ∧ (∀ x29 : Int64, x29 = (v4 - (v4 / v6) * v6) → (∀ x39 : Int32, x39 = (v8 + (1 : Int32)) → (w7_gcd_L9 post n9 v6 x29 x39))))))))
def w7_gcd  (v0 : Int64) (v2 : Int64) (post : Int64 → Prop) : Prop :=
  (∃ n9 : Nat, w7_gcd_L9 post n9 v0 v2 (0 : Int32))
def w7_quotient  (v0 : Int64) (v2 : Int64) (post : Int64 → Prop) : Prop :=
  ((v2 ≤ (0 : Int64) → (post (0 : Int64))) ∧ (¬ v2 ≤ (0 : Int64) → (¬ v2 = 0 ∧ (post (v0 / v2)))))
def w7_store (f_tops : (Nat → Int32)) (f_bottoms : (Nat → Int32)) (v1 : Int32) (v2 : Int64) (v4 : Int64) (post : Int32 → (Nat → Int32) → (Nat → Int32) → Prop) : Prop :=
  (w7_gcd v2 v4 (fun r3 => (w7_quotient v2 r3 (fun r11 => (w7_quotient v4 r3 (fun r20 => (((1000000 : Int64) < r11 → (post (-3 : Int32) f_tops f_bottoms)) ∧ (¬ (1000000 : Int64) < r11 → ((r20 ≤ (1000000 : Int64) → (vp_in v1 8 ∧ (vp_in v1 8 ∧ (post (1 : Int32) (upd f_tops v1.toNatClampNeg r11.toInt32) (upd f_bottoms v1.toNatClampNeg r20.toInt32))))) ∧ (¬ r20 ≤ (1000000 : Int64) → (post (-3 : Int32) f_tops f_bottoms)))))))))))
def w7_set (f_tops : (Nat → Int32)) (f_bottoms : (Nat → Int32)) (v1 : Int32) (v2 : Int32) (v3 : Int32) (post : Int32 → (Nat → Int32) → (Nat → Int32) → Prop) : Prop :=
  (w7_isRegister v1 (fun r1 => ((r1 = 0 → (post (-1 : Int32) f_tops f_bottoms)) ∧ (¬ r1 = 0 → (w7_isIn v2 (1 : Int32) (1000000 : Int32) (fun r11 => ((r11 = 0 → (post (-1 : Int32) f_tops f_bottoms)) ∧ (¬ r11 = 0 → (w7_isIn v3 (1 : Int32) (1000000 : Int32) (fun r21 => ((¬ r21 = 0 → (w7_store f_tops f_bottoms v1 v2.toInt64 v3.toInt64 (fun r35 f_tops_35 f_bottoms_35 => (post r35 f_tops_35 f_bottoms_35)))) ∧ (r21 = 0 → (post (-1 : Int32) f_tops f_bottoms)))))))))))))
def w7_crossDifference (f_tops : (Nat → Int32)) (f_bottoms : (Nat → Int32)) (v1 : Int32) (v2 : Int32) (post : Int64 → Prop) : Prop :=
  (vp_in v1 8 ∧ (vp_in v2 8 ∧ (vp_in v1 8 ∧ (vp_in v2 8 ∧ (post (((f_tops v1.toNatClampNeg).toInt64 * (f_bottoms v2.toNatClampNeg).toInt64) - ((f_bottoms v1.toNatClampNeg).toInt64 * (f_tops v2.toNatClampNeg).toInt64)))))))
def w7_compare (f_tops : (Nat → Int32)) (f_bottoms : (Nat → Int32)) (v1 : Int32) (v2 : Int32) (post : Int32 → Prop) : Prop :=
  (w7_isRegister v1 (fun r1 => ((r1 = 0 → (post (-1 : Int32))) ∧ (¬ r1 = 0 → (w7_isRegister v2 (fun r8 => ((¬ r8 = 0 → (w7_crossDifference f_tops f_bottoms v1 v2 (fun r19 => (((0 : Int64) ≤ r19 → ((¬ r19 = (0 : Int64) → (post (2 : Int32))) ∧ (r19 = (0 : Int64) → (post (1 : Int32))))) ∧ (¬ (0 : Int64) ≤ r19 → (post (0 : Int32))))))) ∧ (r8 = 0 → (post (-1 : Int32))))))))))
def w1_append (f_size : Int32) (f_terms : (Nat → Int32)) (v1 : Int32) (post : Int32 → (Nat → Int32) → Prop) : Prop :=
  (((64 : Int32) ≤ f_size → (post f_size f_terms)) ∧ (¬ (64 : Int32) ≤ f_size → (vp_in f_size 64 ∧ (∀ x26 : Int32, x26 = (f_size + (1 : Int32)) → (post x26 (upd f_terms f_size.toNatClampNeg v1))))))
def w1_expand_L13   (post : Int32 → (Nat → Int32) → Prop)  : Nat → Int32 → Int32 → Int32 → Int32 → (Nat → Int32) → Prop
  | 0, _, _, _, _, _ => False
  | n13 + 1, v3, v4, v5, f_size, f_terms =>
  (((64 : Int32) ≤ v5 → (post f_size f_terms)) ∧ (¬ (64 : Int32) ≤ v5 → ((v4 ≤ 0 → (post f_size f_terms)) ∧ (¬ v4 ≤ 0 → (¬ v4 = 0 ∧ (w1_append f_size f_terms (v3 / v4) (fun f_size_30 f_terms_30 => (¬ v4 = 0 ∧ (∀ x37 : Int32, x37 = (v3 - (v3 / v4) * v4) → (∀ x46 : Int32, x46 = (v5 + (1 : Int32)) → (w1_expand_L13 post n13 v4 x37 x46 f_size_30 f_terms_30)))))))))))
def w1_expand (f_size : Int32) (f_terms : (Nat → Int32)) (v1 : Int32) (v2 : Int32) (post : Int32 → (Nat → Int32) → Prop) : Prop :=
  (∃ n13 : Nat, w1_expand_L13 post n13 v1 v2 (0 : Int32) (0 : Int32) f_terms)
def w7_expand (f_tops : (Nat → Int32)) (f_bottoms : (Nat → Int32)) (f_E_size : Int32) (f_E_terms : (Nat → Int32)) (v1 : Int32) (post : Int32 → (Nat → Int32) → Prop) : Prop :=
  (vp_in v1 8 ∧ (vp_in v1 8 ∧ (w1_expand f_E_size f_E_terms (f_tops v1.toNatClampNeg) (f_bottoms v1.toNatClampNeg) (fun f_E_size_16 f_E_terms_16 => (post f_E_size_16 f_E_terms_16)))))
def w1_at (f_size : Int32) (f_terms : (Nat → Int32)) (v1 : Int32) (post : Int32 → Prop) : Prop :=
  ((v1 < 0 → (post (0 : Int32))) ∧ (¬ v1 < 0 → ((f_size ≤ v1 → (post (0 : Int32))) ∧ (¬ f_size ≤ v1 → (vp_in v1 64 ∧ (post (f_terms v1.toNatClampNeg)))))))
def w1_runAt (f_size : Int32) (f_terms : (Nat → Int32)) (v1 : Int32) (post : Int32 → Prop) : Prop :=
  ((¬ v1 = (f_size - (1 : Int32)) → (w1_at f_size f_terms v1 (fun r22 => (post r22)))) ∧ (v1 = (f_size - (1 : Int32)) → (w1_at f_size f_terms v1 (fun r12 => (post (r12 - (1 : Int32)))))))
def w1_stepCount_L4 (f_size : Int32) (f_terms : (Nat → Int32))  (post : Int32 → Prop)  : Nat → Int32 → Int32 → Prop
  | 0, _, _ => False
  | n4 + 1, v1, v2 =>
  ((f_size ≤ v2 → (post v1)) ∧ (¬ f_size ≤ v2 → (w1_runAt f_size f_terms v2 (fun r15 => (∀ x19 : Int32, x19 = (v1 + r15) → (∀ x20 : Int32, x20 = (v2 + (1 : Int32)) → (w1_stepCount_L4 f_size f_terms post n4 x19 x20)))))))
def w1_stepCount (f_size : Int32) (f_terms : (Nat → Int32))  (post : Int32 → Prop) : Prop :=
  (∃ n4 : Nat, w1_stepCount_L4 f_size f_terms post n4 (0 : Int32) (0 : Int32))
def w7_depth (f_tops : (Nat → Int32)) (f_bottoms : (Nat → Int32)) (f_E_size : Int32) (f_E_terms : (Nat → Int32)) (v1 : Int32) (post : Int32 → Int32 → (Nat → Int32) → Prop) : Prop :=
  (w7_isRegister v1 (fun r1 => ((r1 = 0 → (post (-1 : Int32) f_E_size f_E_terms)) ∧ (¬ r1 = 0 → (w7_expand f_tops f_bottoms f_E_size f_E_terms v1 (fun f_E_size_9 f_E_terms_9 => (w1_stepCount f_E_size_9 f_E_terms_9 (fun r12 => (post r12 f_E_size_9 f_E_terms_9)))))))))
def w1_commonSteps_L4 (f_size : Int32) (f_terms : (Nat → Int32)) (f_P_size : Int32) (f_P_terms : (Nat → Int32))  (post : Int32 → Prop)  : Nat → Int32 → Int32 → Prop
  | 0, _, _ => False
  | n4 + 1, v2, v3 =>
  ((f_size ≤ v3 → (post v2)) ∧ (¬ f_size ≤ v3 → ((f_P_size ≤ v3 → (post v2)) ∧ (¬ f_P_size ≤ v3 → (w1_runAt f_size f_terms v3 (fun r22 => (w1_runAt f_P_size f_P_terms v3 (fun r29 => ((r29 ≤ r22 → (∀ x50 : Int32, x50 = (v2 + r29) → ((r22 = r29 → (∀ x60 : Int32, x60 = (v3 + (1 : Int32)) → (w1_commonSteps_L4 f_size f_terms f_P_size f_P_terms post n4 x50 x60))) ∧ (¬ r22 = r29 → (post x50))))) ∧ (¬ r29 ≤ r22 → (∀ x50 : Int32, x50 = (v2 + r22) → ((r22 = r29 → (∀ x60 : Int32, x60 = (v3 + (1 : Int32)) → (w1_commonSteps_L4 f_size f_terms f_P_size f_P_terms post n4 x50 x60))) ∧ (¬ r22 = r29 → (post x50))))))))))))))
def w1_commonSteps (f_size : Int32) (f_terms : (Nat → Int32)) (f_P_size : Int32) (f_P_terms : (Nat → Int32))  (post : Int32 → Prop) : Prop :=
  (∃ n4 : Nat, w1_commonSteps_L4 f_size f_terms f_P_size f_P_terms post n4 (0 : Int32) (0 : Int32))
def w1_cutToDepth_L4 (f_size : Int32) (f_terms : (Nat → Int32))  (post : Int32 → (Nat → Int32) → Prop)  : Nat → Int32 → Int32 → Prop
  | 0, _, _ => False
  | n4 + 1, v2, v3 =>
  ((f_size ≤ v3 → (post f_size f_terms)) ∧ (¬ f_size ≤ v3 → (w1_runAt f_size f_terms v3 (fun r14 => ((r14 < v2 → (∀ x46 : Int32, x46 = (v2 - r14) → (∀ x47 : Int32, x47 = (v3 + (1 : Int32)) → (w1_cutToDepth_L4 f_size f_terms post n4 x46 x47)))) ∧ (¬ r14 < v2 → (vp_in v3 64 ∧ (∀ x38 : Int32, x38 = (v3 + (1 : Int32)) → (post x38 (upd f_terms v3.toNatClampNeg (v2 + (1 : Int32))))))))))))
def w1_cutToDepth (f_size : Int32) (f_terms : (Nat → Int32)) (v1 : Int32) (post : Int32 → (Nat → Int32) → Prop) : Prop :=
  (∃ n4 : Nat, w1_cutToDepth_L4 f_size f_terms post n4 v1 (0 : Int32))
def w1_size (f_size : Int32)  (post : Int32 → Prop) : Prop :=
  (post f_size)
def w1_lastByRule_L17 (f_size : Int32) (f_terms : (Nat → Int32)) (v1 : Int32) (post : Int64 → Prop)  : Nat → Int64 → Int64 → Int32 → Prop
  | 0, _, _, _ => False
  | n17 + 1, v6, v8, v10 =>
  ((v1 < v10 → (post v8)) ∧ (¬ v1 < v10 → ((f_size ≤ v10 → (post v8)) ∧ (¬ f_size ≤ v10 → (vp_in v10 64 ∧ (∀ x46 : Int64, x46 = (((f_terms v10.toNatClampNeg).toInt64 * v8) + v6) → (∀ x56 : Int32, x56 = (v10 + (1 : Int32)) → (w1_lastByRule_L17 f_size f_terms v1 post n17 v8 x46 x56))))))))
def w1_lastByRule (f_size : Int32) (f_terms : (Nat → Int32)) (v1 : Int32) (v2 : Int64) (v4 : Int64) (post : Int64 → Prop) : Prop :=
  (((-1 : Int32) ≤ v1 → (∃ n17 : Nat, w1_lastByRule_L17 f_size f_terms v1 post n17 v2 v4 (0 : Int32))) ∧ (¬ (-1 : Int32) ≤ v1 → (post v2)))
def w1_convergentTop (f_size : Int32) (f_terms : (Nat → Int32)) (v1 : Int32) (post : Int64 → Prop) : Prop :=
  (w1_lastByRule f_size f_terms v1 (0 : Int64) (1 : Int64) (fun r4 => (post r4)))
def w1_convergentBottom (f_size : Int32) (f_terms : (Nat → Int32)) (v1 : Int32) (post : Int64 → Prop) : Prop :=
  (w1_lastByRule f_size f_terms v1 (1 : Int64) (0 : Int64) (fun r4 => (post r4)))
def w7_storeConvergent (f_tops : (Nat → Int32)) (f_bottoms : (Nat → Int32)) (f_P_size : Int32) (f_P_terms : (Nat → Int32)) (v1 : Int32) (v3 : Int32) (post : Int32 → (Nat → Int32) → (Nat → Int32) → Prop) : Prop :=
  (w1_convergentTop f_P_size f_P_terms v3 (fun r4 => (w1_convergentBottom f_P_size f_P_terms v3 (fun r9 => (w7_store f_tops f_bottoms v1 r4 r9 (fun r12 f_tops_12 f_bottoms_12 => (post r12 f_tops_12 f_bottoms_12)))))))
def w7_commonAncestor (f_tops : (Nat → Int32)) (f_bottoms : (Nat → Int32)) (f_E_size : Int32) (f_O_size : Int32) (f_E_terms : (Nat → Int32)) (f_O_terms : (Nat → Int32)) (v1 : Int32) (v2 : Int32) (v3 : Int32) (post : Int32 → (Nat → Int32) → (Nat → Int32) → Int32 → Int32 → (Nat → Int32) → (Nat → Int32) → Prop) : Prop :=
  (w7_isRegister v1 (fun r1 => ((r1 = 0 → (post (-1 : Int32) f_tops f_bottoms f_E_size f_O_size f_E_terms f_O_terms)) ∧ (¬ r1 = 0 → (w7_isRegister v2 (fun r8 => ((r8 = 0 → (post (-1 : Int32) f_tops f_bottoms f_E_size f_O_size f_E_terms f_O_terms)) ∧ (¬ r8 = 0 → (w7_isRegister v3 (fun r15 => ((¬ r15 = 0 → (w7_expand f_tops f_bottoms f_E_size f_E_terms v2 (fun f_E_size_25 f_E_terms_25 => (vp_in v3 8 ∧ (vp_in v3 8 ∧ (w1_expand f_O_size f_O_terms (f_tops v3.toNatClampNeg) (f_bottoms v3.toNatClampNeg) (fun f_O_size_46 f_O_terms_46 => (w1_commonSteps f_E_size_25 f_E_terms_25 f_O_size_46 f_O_terms_46 (fun r55 => (w1_cutToDepth f_E_size_25 f_E_terms_25 r55 (fun f_E_size_64 f_E_terms_64 => (w1_size f_E_size_64 (fun r73 => (w7_storeConvergent f_tops f_bottoms f_E_size_64 f_E_terms_64 v1 (r73 - (1 : Int32)) (fun r78 f_tops_78 f_bottoms_78 => (post r55 f_tops_78 f_bottoms_78 f_E_size_64 f_O_size_46 f_E_terms_64 f_O_terms_46)))))))))))))))) ∧ (r15 = 0 → (post (-1 : Int32) f_tops f_bottoms f_E_size f_O_size f_E_terms f_O_terms)))))))))))))
def w1_becomeSimplestBetween_L25   (post : Int32 → (Nat → Int32) → Prop)  : Nat → Int64 → Int64 → Int64 → Int64 → Int32 → Int32 → (Nat → Int32) → Prop
  | 0, _, _, _, _, _, _, _ => False
  | n25 + 1, v5, v7, v9, v11, v13, f_size, f_terms =>
  (((64 : Int32) ≤ v13 → (post f_size f_terms)) ∧ (¬ (64 : Int32) ≤ v13 → (w7_quotient v5 v7 (fun r36 => ((v9 ≤ ((r36 + (1 : Int64)) * v11) → (w1_append f_size f_terms r36.toInt32 (fun f_size_68 f_terms_68 => (∀ x79 : Int64, x79 = (v5 - (r36 * v7)) → (∀ x89 : Int64, x89 = (v9 - (r36 * v11)) → (∀ x107 : Int32, x107 = (v13 + (1 : Int32)) → (w1_becomeSimplestBetween_L25 post n25 v11 x89 v7 x79 x107 f_size_68 f_terms_68))))))) ∧ (¬ v9 ≤ ((r36 + (1 : Int64)) * v11) → (w1_append f_size f_terms (r36.toInt32 + (1 : Int32)) (fun f_size_60 f_terms_60 => (post f_size_60 f_terms_60)))))))))
def w1_becomeSimplestBetween (f_size : Int32) (f_terms : (Nat → Int32)) (v1 : Int32) (v2 : Int32) (v3 : Int32) (v4 : Int32) (post : Int32 → (Nat → Int32) → Prop) : Prop :=
  (∀ x2 : Int64, x2 = v1.toInt64 → (∀ x6 : Int64, x6 = v2.toInt64 → (∀ x10 : Int64, x10 = v3.toInt64 → (∀ x15 : Int64, x15 = v4.toInt64 → (∃ n25 : Nat, w1_becomeSimplestBetween_L25 post n25 x2 x6 x10 x15 (0 : Int32) (0 : Int32) f_terms)))))
def w7_simplestBetween (f_tops : (Nat → Int32)) (f_bottoms : (Nat → Int32)) (f_E_size : Int32) (f_E_terms : (Nat → Int32)) (v1 : Int32) (v2 : Int32) (v3 : Int32) (post : Int32 → (Nat → Int32) → (Nat → Int32) → Int32 → (Nat → Int32) → Prop) : Prop :=
  (w7_isRegister v1 (fun r1 => ((r1 = 0 → (post (-1 : Int32) f_tops f_bottoms f_E_size f_E_terms)) ∧ (¬ r1 = 0 → (w7_isRegister v2 (fun r8 => ((r8 = 0 → (post (-1 : Int32) f_tops f_bottoms f_E_size f_E_terms)) ∧ (¬ r8 = 0 → (w7_isRegister v3 (fun r15 => ((¬ r15 = 0 → (w7_crossDifference f_tops f_bottoms v2 v3 (fun r26 => ((r26 < (0 : Int64) → (vp_in v2 8 ∧ (vp_in v2 8 ∧ (vp_in v3 8 ∧ (vp_in v3 8 ∧ (w1_becomeSimplestBetween f_E_size f_E_terms (f_tops v2.toNatClampNeg) (f_bottoms v2.toNatClampNeg) (f_tops v3.toNatClampNeg) (f_bottoms v3.toNatClampNeg) (fun f_E_size_65 f_E_terms_65 => (w1_size f_E_size_65 (fun r78 => (w7_storeConvergent f_tops f_bottoms f_E_size_65 f_E_terms_65 v1 (r78 - (1 : Int32)) (fun r83 f_tops_83 f_bottoms_83 => (post r83 f_tops_83 f_bottoms_83 f_E_size_65 f_E_terms_65)))))))))))) ∧ (¬ r26 < (0 : Int64) → (post (-2 : Int32) f_tops f_bottoms f_E_size f_E_terms)))))) ∧ (r15 = 0 → (post (-1 : Int32) f_tops f_bottoms f_E_size f_E_terms)))))))))))))
end
section
abbrev rm1_append : Room := { frames := 0, cells := 0, slots := 0, locals := 0 }
theorem nm1_append : kNm yX1_append 1 := by decide +kernel
set_option maxHeartbeats 4000000 in
set_option maxRecDepth 100000 in
theorem c1_append (l : Launch) (D : va_G) (cI cJ cN cR : ClassId) (h0 : Nat) (h1 : Nat) (sz : Nat) (f_size : Int32) (f_leftTop : Int64) (f_leftBottom : Int64) (f_rightTop : Int64) (f_rightBottom : Int64) (f_terms : (Nat → Int32)) (v1 : Int32) (post : Int32 → (Nat → Int32) → Prop) (hw : w1_append f_size f_terms v1 post) : Met l yX1_append wsX1_append rm1_append (kP D (kT cI cJ cN cR) sz [.ref h0, .int v1] [(h0, o1 h1 f_size f_leftTop f_leftBottom f_rightTop f_rightBottom), (h1, ai cI 64 f_terms)]) (kQv D [(h0, o1 h1 f_size f_leftTop f_leftBottom f_rightTop f_rightBottom), (h1, ai cI 64 f_terms)] sz (fun (u : Int32 × (Nat → Int32)) => post u.1 u.2) (fun (u : Int32 × (Nat → Int32)) => [(h0, o1 h1 u.1 f_leftTop f_leftBottom f_rightTop f_rightBottom), (h1, ai cI 64 u.2)])) 0 0 (va_A [(h0, o1 h1 f_size f_leftTop f_leftBottom f_rightTop f_rightBottom), (h1, ai cI 64 f_terms)] sz) := by
  refine kMetV (cc := cX1_append) (maxL := 2) (by decide +kernel) rfl (Nat.le_of_ble_eq_true rfl) ?_
  intro p e s m args below meth c H0 ls A Q C0 hK hN hP hD hS hA hl RET
  obtain ⟨hx, hb, hml, hown, hts⟩ := id C0
  have hl : lv_has ls 2 [(0, .ref h0), (1, .int v1)] := hl
  have g15 := hts (.fieldLink RX1 15 "SternBrocotExplorer$Expansion" "size" "I") (by decide +kernel)
  have g9 := hts (.fieldLink RX1 9 "SternBrocotExplorer$Expansion" "terms" "[I") (by decide +kernel)
  have hi9 : ∀ w ∈ wsX10, w ∈ wsX1_append := fun w h => List.mem_cons_of_mem _ (List.mem_append_right _ h)
  unfold w1_append at hw
  have hP : va_P D vwCl [(h0, o1 h1 f_size f_leftTop f_leftBottom f_rightTop f_rightBottom), (h1, ai cI 64 f_terms)] H0 := hP
  refine lv_aload_n hx hb dX1_append_0 rfl (lv_at hl 0 rfl) ?_
  refine va_get (D := D) (ci := 0) (v := .int f_size) (C := RX1) (T := TX1) (N := 6) hx hb hts hi9 hown hK hP 0 rfl rfl 1 (by decide) g15 (fun _ h9 => h9) rfl dX1_append_1 ?_
  refine lv_bipush (v := (64 : Int32)) hx hb dX1_append_4 (by decide) ?_
  refine lv_icmp_ge (tgt := 29) hx hb dX1_append_6 (by decide) (fun k => ?_) (fun k => ?_)
  · have hw := hw.1 k
    exact RET _ _ (f_size, f_terms) _ _ hw hP hD hS dX1_append_29
  · have hw := hw.2 k
    refine lv_aload_n hx hb dX1_append_9 rfl (lv_at hl 0 rfl) ?_
    refine va_get (D := D) (ci := 0) (v := .ref h1) (C := RX1) (T := TX1) (N := 6) hx hb hts hi9 hown hK hP 0 rfl rfl 0 (by decide) g9 (fun _ h9 => h9) rfl dX1_append_10 ?_
    refine lv_aload_n hx hb dX1_append_13 rfl (lv_at hl 0 rfl) ?_
    refine va_get (D := D) (ci := 0) (v := .int f_size) (C := RX1) (T := TX1) (N := 6) hx hb hts hi9 hown hK hP 0 rfl rfl 1 (by decide) g15 (fun _ h9 => h9) rfl dX1_append_14 ?_
    refine lv_iload_n hx hb dX1_append_17 rfl (lv_at hl 1 rfl) ?_
    obtain ⟨hin, hw⟩ := hw
    refine va_iast hx hb hK hP hD hS 1 0 rfl rfl hin dX1_append_18 (fun H locs hP hD hS => ?_)
    have hP : va_P D vwCl [(h0, o1 h1 f_size f_leftTop f_leftBottom f_rightTop f_rightBottom), (h1, ai cI 64 (upd f_terms f_size.toNatClampNeg v1))] H := hP
    have hD : va_D A [(h0, o1 h1 f_size f_leftTop f_leftBottom f_rightTop f_rightBottom), (h1, ai cI 64 (upd f_terms f_size.toNatClampNeg v1))] := hD
    refine lv_aload_n hx hb dX1_append_19 rfl (lv_at hl 0 rfl) ?_
    refine lv_dup hx hb dX1_append_20 rfl ?_
    refine va_get (D := D) (ci := 0) (v := .int f_size) (C := RX1) (T := TX1) (N := 6) hx hb hts hi9 hown hK hP 0 rfl rfl 1 (by decide) g15 (fun _ h9 => h9) rfl dX1_append_21 ?_
    refine lv_iconst (v := (1 : Int32)) hx hb dX1_append_24 (by decide) ?_
    refine lv_iadd hx hb dX1_append_25 ?_
    refine lv_topi (fun x26 ex26 => ?_)
    have hw := hw x26 ex26
    refine va_put (D := D) (ci := 0) (v := .int x26) (ty := .int) (C := RX1) (T := TX1) (N := 6) hx hb hts hi9 tyX1 tyX1_ok nmX1 hown hK hP hD hS 0 rfl rfl 1 (by decide) g15 (fun _ h9 => h9) rfl (by decide +kernel) rfl rfl (Nat.le_of_ble_eq_true rfl) dX1_append_26 (fun H locs hP hD hS => ?_)
    have hP : va_P D vwCl [(h0, o1 h1 x26 f_leftTop f_leftBottom f_rightTop f_rightBottom), (h1, ai cI 64 (upd f_terms f_size.toNatClampNeg v1))] H := hP
    have hD : va_D A [(h0, o1 h1 x26 f_leftTop f_leftBottom f_rightTop f_rightBottom), (h1, ai cI 64 (upd f_terms f_size.toNatClampNeg v1))] := hD
    exact RET _ _ (x26, (upd f_terms f_size.toNatClampNeg v1)) _ _ hw hP hD hS dX1_append_29
abbrev rm1_expand : Room := { frames := 1, cells := 0, slots := 0, locals := 21 }
theorem nm1_expand : kNm yX1_expand 2 := by decide +kernel
set_option maxHeartbeats 4000000 in
set_option maxRecDepth 100000 in
theorem c1_expand (l : Launch) (D : va_G) (cI cJ cN cR : ClassId) (h0 : Nat) (h1 : Nat) (sz : Nat) (f_size : Int32) (f_leftTop : Int64) (f_leftBottom : Int64) (f_rightTop : Int64) (f_rightBottom : Int64) (f_terms : (Nat → Int32)) (v1 : Int32) (v2 : Int32) (post : Int32 → (Nat → Int32) → Prop) (hw : w1_expand f_size f_terms v1 v2 post) : Met l yX1_expand wsX1_expand rm1_expand (kP D (kT cI cJ cN cR) sz [.ref h0, .int v1, .int v2] [(h0, o1 h1 f_size f_leftTop f_leftBottom f_rightTop f_rightBottom), (h1, ai cI 64 f_terms)]) (kQv D [(h0, o1 h1 f_size f_leftTop f_leftBottom f_rightTop f_rightBottom), (h1, ai cI 64 f_terms)] sz (fun (u : Int32 × (Nat → Int32)) => post u.1 u.2) (fun (u : Int32 × (Nat → Int32)) => [(h0, o1 h1 u.1 f_leftTop f_leftBottom f_rightTop f_rightBottom), (h1, ai cI 64 u.2)])) 0 0 (va_A [(h0, o1 h1 f_size f_leftTop f_leftBottom f_rightTop f_rightBottom), (h1, ai cI 64 f_terms)] sz) := by
  refine kMetV (cc := cX1_expand) (maxL := 7) (by decide +kernel) rfl (Nat.le_of_ble_eq_true rfl) ?_
  intro p e s m args below meth c H0 ls A Q C0 hK hN hP hD hS hA hl RET
  obtain ⟨hx, hb, hml, hown, hts⟩ := id C0
  have hl : lv_has ls 7 [(0, .ref h0), (1, .int v1), (2, .int v2)] := hl
  have g15 := hts (.fieldLink RX1 15 "SternBrocotExplorer$Expansion" "size" "I") (by decide +kernel)
  have hi9 : ∀ w ∈ wsX10, w ∈ wsX1_expand := fun w h => List.mem_cons_of_mem _ (List.mem_append_right _ h)
  unfold w1_expand at hw
  have hP : va_P D vwCl [(h0, o1 h1 f_size f_leftTop f_leftBottom f_rightTop f_rightBottom), (h1, ai cI 64 f_terms)] H0 := hP
  refine lv_iload_n hx hb dX1_expand_0 rfl (lv_at hl 1 rfl) ?_
  refine lv_istore_n (lv' := [(3, .int v1), (0, .ref h0), (1, .int v1), (2, .int v2)]) hx hb dX1_expand_1 rfl hl (by decide) rfl (fun ls hl => ?_)
  refine lv_iload_n hx hb dX1_expand_2 rfl (lv_at hl 3 rfl) ?_
  refine lv_istore (lv' := [(4, .int v2), (3, .int v1), (0, .ref h0), (1, .int v1), (2, .int v2)]) hx hb dX1_expand_3 hl (by decide) rfl (fun ls hl => ?_)
  refine lv_aload_n hx hb dX1_expand_5 rfl (lv_at hl 2 rfl) ?_
  refine lv_iconst (v := (0 : Int32)) hx hb dX1_expand_6 (by decide) ?_
  refine va_put (D := D) (ci := 0) (v := .int (0 : Int32)) (ty := .int) (C := RX1) (T := TX1) (N := 6) hx hb hts hi9 tyX1 tyX1_ok nmX1 hown hK hP hD hS 0 rfl rfl 1 (by decide) g15 (fun _ h9 => h9) rfl (by decide +kernel) rfl rfl (Nat.le_of_ble_eq_true rfl) dX1_expand_7 (fun H locs hP hD hS => ?_)
  have hP : va_P D vwCl [(h0, o1 h1 (0 : Int32) f_leftTop f_leftBottom f_rightTop f_rightBottom), (h1, ai cI 64 f_terms)] H := hP
  have hD : va_D A [(h0, o1 h1 (0 : Int32) f_leftTop f_leftBottom f_rightTop f_rightBottom), (h1, ai cI 64 f_terms)] := hD
  refine lv_iconst (v := (0 : Int32)) hx hb dX1_expand_10 (by decide) ?_
  refine lv_istore (lv' := [(5, .int (0 : Int32)), (4, .int v2), (3, .int v1), (0, .ref h0), (1, .int v1), (2, .int v2)]) hx hb dX1_expand_11 hl (by decide) rfl (fun ls hl => ?_)
  obtain ⟨n13, hw⟩ := hw
  have LOOP_13 : ∀ (n13 : Nat) (v3 : Int32) (v4 : Int32) (v5 : Int32) (f_size : Int32) (f_terms : (Nat → Int32)) (H : Heap) (locs : List Loc) (ls : Array Slot), w1_expand_L13 post n13 v3 v4 v5 f_size f_terms → va_P D vwCl [(h0, o1 h1 f_size f_leftTop f_leftBottom f_rightTop f_rightBottom), (h1, ai cI 64 f_terms)] H → va_D A [(h0, o1 h1 f_size f_leftTop f_leftBottom f_rightTop f_rightBottom), (h1, ai cI 64 f_terms)] → va_S A H0 H locs → lv_has ls 7 [(0, .ref h0), (3, .int v3), (4, .int v4), (5, .int v5)] → W p l e rm1_expand s m args below meth c H locs 0 0 Q (F0 m 13 ls []) := by
    clear hw hl hP hD hS
    intro n13
    induction n13 with
    | zero =>
      intro v3 v4 v5 f_size f_terms H locs ls hw hP hD hS hl
      rw [w1_expand_L13] at hw
      exact hw.elim
    | succ n13 ih13 =>
      intro v3 v4 v5 f_size f_terms H locs ls hw hP hD hS hl
      rw [w1_expand_L13] at hw
      refine lv_iload hx hb dX1_expand_13 (lv_at hl 3 rfl) ?_
      refine lv_bipush (v := (64 : Int32)) hx hb dX1_expand_15 (by decide) ?_
      refine lv_icmp_ge (tgt := 52) hx hb dX1_expand_17 (by decide) (fun k => ?_) (fun k => ?_)
      · have hw := hw.1 k
        exact RET _ _ (f_size, f_terms) _ _ hw hP hD hS dX1_expand_52
      · have hw := hw.2 k
        refine lv_iload hx hb dX1_expand_20 (lv_at hl 2 rfl) ?_
        refine lv_if_le (tgt := 52) hx hb dX1_expand_22 (by decide) (fun k => ?_) (fun k => ?_)
        · have hw := hw.1 k
          exact RET _ _ (f_size, f_terms) _ _ hw hP hD hS dX1_expand_52
        · have hw := hw.2 k
          refine lv_aload_n hx hb dX1_expand_25 rfl (lv_at hl 0 rfl) ?_
          refine lv_iload_n hx hb dX1_expand_26 rfl (lv_at hl 1 rfl) ?_
          refine lv_iload hx hb dX1_expand_27 (lv_at hl 2 rfl) ?_
          obtain ⟨hne, hw⟩ := hw
          refine lv_idiv hx hb dX1_expand_29 hne ?_
          refine kcV (wc := [(h0, o1 h1 f_size f_leftTop f_leftBottom f_rightTop f_rightBottom), (h1, ai cI 64 f_terms)]) (wr := []) hP hD hS hA [0, 1] [] rfl rfl ⟨rfl, rfl, by decide⟩ (fun hPc hDc => rV (As := [.int (v3 / v4)]) (rest := []) C0 hK hN (c1_append l D cI cJ cN cR h0 h1 H.size f_size f_leftTop f_leftBottom f_rightTop f_rightBottom f_terms (v3 / v4) _ hw) 1 gX1_expand_X1_append rfl ⟨rfl, rfl⟩ nm1_append ⟨Nat.le_of_ble_eq_true rfl, Nat.le_of_ble_eq_true rfl⟩ (q0 := 0) rfl rfl rfl rfl hl.1 rfl (Nat.le_of_ble_eq_true rfl) dX1_expand_30 ⟨Nat.le_of_ble_eq_true rfl, Nat.le_of_ble_eq_true rfl⟩ hPc hDc) (fun u30 H locs hw hP hD hS => ?_)
          obtain ⟨f_size_30, f_terms_30⟩ := u30
          dsimp only at hw
          have hP : va_P D vwCl [(h0, o1 h1 f_size_30 f_leftTop f_leftBottom f_rightTop f_rightBottom), (h1, ai cI 64 f_terms_30)] H := hP
          have hD : va_D A [(h0, o1 h1 f_size_30 f_leftTop f_leftBottom f_rightTop f_rightBottom), (h1, ai cI 64 f_terms_30)] := hD
          refine lv_iload_n hx hb dX1_expand_33 rfl (lv_at hl 1 rfl) ?_
          refine lv_iload hx hb dX1_expand_34 (lv_at hl 2 rfl) ?_
          obtain ⟨hne, hw⟩ := hw
          refine lv_irem hx hb dX1_expand_36 hne ?_
          refine lv_topi (fun x37 ex37 => ?_)
          have hw := hw x37 ex37
          refine lv_istore (lv' := [(6, .int x37), (0, .ref h0), (3, .int v3), (4, .int v4), (5, .int v5)]) hx hb dX1_expand_37 hl (by decide) rfl (fun ls hl => ?_)
          refine lv_iload hx hb dX1_expand_39 (lv_at hl 3 rfl) ?_
          refine lv_istore_n (lv' := [(3, .int v4), (6, .int x37), (0, .ref h0), (4, .int v4), (5, .int v5)]) hx hb dX1_expand_41 rfl hl (by decide) rfl (fun ls hl => ?_)
          refine lv_iload hx hb dX1_expand_42 (lv_at hl 1 rfl) ?_
          refine lv_istore (lv' := [(4, .int x37), (3, .int v4), (6, .int x37), (0, .ref h0), (5, .int v5)]) hx hb dX1_expand_44 hl (by decide) rfl (fun ls hl => ?_)
          obtain ⟨x46, ex46⟩ : ∃ y : Int32, y = (v5 + (1 : Int32)) := ⟨_, rfl⟩
          have hw := hw x46 ex46
          refine lv_iinc (v := x46) (lv' := [(5, .int x46), (4, .int x37), (3, .int v4), (6, .int x37), (0, .ref h0)]) hx hb dX1_expand_46 hl (k := 4) rfl (by rw [ex46]; rfl) (by decide) rfl (fun ls hl => ?_)
          refine lv_goto (tgt := 13) hx hb dX1_expand_49 (by decide) ?_
          exact ih13 v4 x37 x46 f_size_30 f_terms_30 _ _ ls hw hP hD hS (lv_sub hl [4, 2, 1, 0] rfl)
  exact LOOP_13 n13 v1 v2 (0 : Int32) (0 : Int32) f_terms _ _ ls hw hP hD hS (lv_sub hl [3, 2, 1, 0] rfl)
abbrev rm1_at : Room := { frames := 0, cells := 0, slots := 0, locals := 0 }
theorem nm1_at : kNm yX1_at 1 := by decide +kernel
set_option maxHeartbeats 4000000 in
set_option maxRecDepth 100000 in
theorem c1_at (l : Launch) (D : va_G) (cI cJ cN cR : ClassId) (h0 : Nat) (h1 : Nat) (f_size : Int32) (f_leftTop : Int64) (f_leftBottom : Int64) (f_rightTop : Int64) (f_rightBottom : Int64) (f_terms : (Nat → Int32)) (v1 : Int32) (post : Int32 → Prop) (hw : w1_at f_size f_terms v1 post) : Met l yX1_at wsX1_at rm1_at (kR D (kT cI cJ cN cR) [.ref h0, .int v1] [(h0, o1 h1 f_size f_leftTop f_leftBottom f_rightTop f_rightBottom), (h1, ai cI 64 f_terms)]) (vp_Si post) 0 0 (fun _ => False) := by
  refine kMetRI (cc := cX1_at) (maxL := 2) (by decide +kernel) rfl (Nat.le_of_ble_eq_true rfl) ?_
  intro p e s m args below meth c H ls Q C0 hK hN hP hl RET
  obtain ⟨hx, hb, hml, hown, hts⟩ := id C0
  have hl : lv_has ls 2 [(0, .ref h0), (1, .int v1)] := hl
  have g15 := hts (.fieldLink RX1 15 "SternBrocotExplorer$Expansion" "size" "I") (by decide +kernel)
  have g9 := hts (.fieldLink RX1 9 "SternBrocotExplorer$Expansion" "terms" "[I") (by decide +kernel)
  have hi9 : ∀ w ∈ wsX10, w ∈ wsX1_at := fun w h => List.mem_cons_of_mem _ (List.mem_append_right _ h)
  unfold w1_at at hw
  refine lv_iload_n hx hb dX1_at_0 rfl (lv_at hl 1 rfl) ?_
  refine lv_if_lt (tgt := 21) hx hb dX1_at_1 (by decide) (fun k => ?_) (fun k => ?_)
  · have hw := hw.1 k
    refine lv_iconst (v := (0 : Int32)) hx hb dX1_at_21 (by decide) ?_
    exact RET _ _ _ hw dX1_at_22
  · have hw := hw.2 k
    refine lv_iload_n hx hb dX1_at_4 rfl (lv_at hl 1 rfl) ?_
    refine lv_aload_n hx hb dX1_at_5 rfl (lv_at hl 0 rfl) ?_
    refine va_get (D := D) (ci := 0) (v := .int f_size) (C := RX1) (T := TX1) (N := 6) hx hb hts hi9 hown hK hP 0 rfl rfl 1 (by decide) g15 (fun _ h9 => h9) rfl dX1_at_6 ?_
    refine lv_icmp_ge (tgt := 21) hx hb dX1_at_9 (by decide) (fun k => ?_) (fun k => ?_)
    · have hw := hw.1 k
      refine lv_iconst (v := (0 : Int32)) hx hb dX1_at_21 (by decide) ?_
      exact RET _ _ _ hw dX1_at_22
    · have hw := hw.2 k
      refine lv_aload_n hx hb dX1_at_12 rfl (lv_at hl 0 rfl) ?_
      refine va_get (D := D) (ci := 0) (v := .ref h1) (C := RX1) (T := TX1) (N := 6) hx hb hts hi9 hown hK hP 0 rfl rfl 0 (by decide) g9 (fun _ h9 => h9) rfl dX1_at_13 ?_
      refine lv_iload_n hx hb dX1_at_16 rfl (lv_at hl 1 rfl) ?_
      obtain ⟨hin, hw⟩ := hw
      refine va_iald hx hb hK hP 1 0 rfl rfl hin dX1_at_17 ?_
      refine lv_goto (tgt := 22) hx hb dX1_at_18 (by decide) ?_
      exact RET _ _ _ hw dX1_at_22
abbrev rm1_runAt : Room := { frames := 1, cells := 0, slots := 0, locals := 21 }
theorem nm1_runAt : kNm yX1_runAt 1 := by decide +kernel
set_option maxHeartbeats 4000000 in
set_option maxRecDepth 100000 in
theorem c1_runAt (l : Launch) (D : va_G) (cI cJ cN cR : ClassId) (h0 : Nat) (h1 : Nat) (f_size : Int32) (f_leftTop : Int64) (f_leftBottom : Int64) (f_rightTop : Int64) (f_rightBottom : Int64) (f_terms : (Nat → Int32)) (v1 : Int32) (post : Int32 → Prop) (hw : w1_runAt f_size f_terms v1 post) : Met l yX1_runAt wsX1_runAt rm1_runAt (kR D (kT cI cJ cN cR) [.ref h0, .int v1] [(h0, o1 h1 f_size f_leftTop f_leftBottom f_rightTop f_rightBottom), (h1, ai cI 64 f_terms)]) (vp_Si post) 0 0 (fun _ => False) := by
  refine kMetRI (cc := cX1_runAt) (maxL := 2) (by decide +kernel) rfl (Nat.le_of_ble_eq_true rfl) ?_
  intro p e s m args below meth c H ls Q C0 hK hN hP hl RET
  obtain ⟨hx, hb, hml, hown, hts⟩ := id C0
  have hl : lv_has ls 2 [(0, .ref h0), (1, .int v1)] := hl
  have g15 := hts (.fieldLink RX1 15 "SternBrocotExplorer$Expansion" "size" "I") (by decide +kernel)
  have hi9 : ∀ w ∈ wsX10, w ∈ wsX1_runAt := fun w h => List.mem_cons_of_mem _ (List.mem_append_right _ h)
  unfold w1_runAt at hw
  refine lv_iload_n hx hb dX1_runAt_0 rfl (lv_at hl 1 rfl) ?_
  refine lv_aload_n hx hb dX1_runAt_1 rfl (lv_at hl 0 rfl) ?_
  refine va_get (D := D) (ci := 0) (v := .int f_size) (C := RX1) (T := TX1) (N := 6) hx hb hts hi9 hown hK hP 0 rfl rfl 1 (by decide) g15 (fun _ h9 => h9) rfl dX1_runAt_2 ?_
  refine lv_iconst (v := (1 : Int32)) hx hb dX1_runAt_5 (by decide) ?_
  refine lv_isub hx hb dX1_runAt_6 ?_
  refine lv_icmp_ne (tgt := 20) hx hb dX1_runAt_7 (by decide) (fun k => ?_) (fun k => ?_)
  · have hw := hw.1 k
    refine lv_aload_n hx hb dX1_runAt_20 rfl (lv_at hl 0 rfl) ?_
    refine lv_iload_n hx hb dX1_runAt_21 rfl (lv_at hl 1 rfl) ?_
    refine kcRI (wc := [(h0, o1 h1 f_size f_leftTop f_leftBottom f_rightTop f_rightBottom), (h1, ai cI 64 f_terms)]) hP [0, 1] rfl (fun hPc => oV (As := [.int v1]) (rest := []) C0 hK hN (c1_at l D cI cJ cN cR h0 h1 f_size f_leftTop f_leftBottom f_rightTop f_rightBottom f_terms v1 _ hw) 1 gX1_runAt_X1_at rfl ⟨rfl, rfl⟩ nm1_at ⟨Nat.le_of_ble_eq_true rfl, Nat.le_of_ble_eq_true rfl⟩ (q0 := 0) rfl rfl rfl rfl hl.1 rfl (Nat.le_of_ble_eq_true rfl) dX1_runAt_22 ⟨Nat.le_of_ble_eq_true rfl, Nat.le_of_ble_eq_true rfl⟩ hPc) (fun r22 hw => ?_)
    exact RET _ _ _ hw dX1_runAt_25
  · have hw := hw.2 k
    refine lv_aload_n hx hb dX1_runAt_10 rfl (lv_at hl 0 rfl) ?_
    refine lv_iload_n hx hb dX1_runAt_11 rfl (lv_at hl 1 rfl) ?_
    refine kcRI (wc := [(h0, o1 h1 f_size f_leftTop f_leftBottom f_rightTop f_rightBottom), (h1, ai cI 64 f_terms)]) hP [0, 1] rfl (fun hPc => oV (As := [.int v1]) (rest := []) C0 hK hN (c1_at l D cI cJ cN cR h0 h1 f_size f_leftTop f_leftBottom f_rightTop f_rightBottom f_terms v1 _ hw) 1 gX1_runAt_X1_at rfl ⟨rfl, rfl⟩ nm1_at ⟨Nat.le_of_ble_eq_true rfl, Nat.le_of_ble_eq_true rfl⟩ (q0 := 0) rfl rfl rfl rfl hl.1 rfl (Nat.le_of_ble_eq_true rfl) dX1_runAt_12 ⟨Nat.le_of_ble_eq_true rfl, Nat.le_of_ble_eq_true rfl⟩ hPc) (fun r12 hw => ?_)
    refine lv_iconst (v := (1 : Int32)) hx hb dX1_runAt_15 (by decide) ?_
    refine lv_isub hx hb dX1_runAt_16 ?_
    refine lv_goto (tgt := 25) hx hb dX1_runAt_17 (by decide) ?_
    exact RET _ _ _ hw dX1_runAt_25
abbrev rm1_stepCount : Room := { frames := 2, cells := 0, slots := 0, locals := 42 }
theorem nm1_stepCount : kNm yX1_stepCount 0 := by decide +kernel
set_option maxHeartbeats 4000000 in
set_option maxRecDepth 100000 in
theorem c1_stepCount (l : Launch) (D : va_G) (cI cJ cN cR : ClassId) (h0 : Nat) (h1 : Nat) (f_size : Int32) (f_leftTop : Int64) (f_leftBottom : Int64) (f_rightTop : Int64) (f_rightBottom : Int64) (f_terms : (Nat → Int32))  (post : Int32 → Prop) (hw : w1_stepCount f_size f_terms post) : Met l yX1_stepCount wsX1_stepCount rm1_stepCount (kR D (kT cI cJ cN cR) [.ref h0] [(h0, o1 h1 f_size f_leftTop f_leftBottom f_rightTop f_rightBottom), (h1, ai cI 64 f_terms)]) (vp_Si post) 0 0 (fun _ => False) := by
  refine kMetRI (cc := cX1_stepCount) (maxL := 3) (by decide +kernel) rfl (Nat.le_of_ble_eq_true rfl) ?_
  intro p e s m args below meth c H ls Q C0 hK hN hP hl RET
  obtain ⟨hx, hb, hml, hown, hts⟩ := id C0
  have hl : lv_has ls 3 [(0, .ref h0)] := hl
  have g15 := hts (.fieldLink RX1 15 "SternBrocotExplorer$Expansion" "size" "I") (by decide +kernel)
  have hi9 : ∀ w ∈ wsX10, w ∈ wsX1_stepCount := fun w h => List.mem_cons_of_mem _ (List.mem_append_right _ h)
  unfold w1_stepCount at hw
  refine lv_iconst (v := (0 : Int32)) hx hb dX1_stepCount_0 (by decide) ?_
  refine lv_istore_n (lv' := [(1, .int (0 : Int32)), (0, .ref h0)]) hx hb dX1_stepCount_1 rfl hl (by decide) rfl (fun ls hl => ?_)
  refine lv_iconst (v := (0 : Int32)) hx hb dX1_stepCount_2 (by decide) ?_
  refine lv_istore_n (lv' := [(2, .int (0 : Int32)), (1, .int (0 : Int32)), (0, .ref h0)]) hx hb dX1_stepCount_3 rfl hl (by decide) rfl (fun ls hl => ?_)
  obtain ⟨n4, hw⟩ := hw
  have LOOP_4 : ∀ (n4 : Nat) (v1 : Int32) (v2 : Int32) (ls : Array Slot), w1_stepCount_L4 f_size f_terms post n4 v1 v2 → lv_has ls 3 [(0, .ref h0), (1, .int v1), (2, .int v2)] → W p l e rm1_stepCount s m args below meth c H [] 0 0 Q (F0 m 4 ls []) := by
    clear hw hl
    intro n4
    induction n4 with
    | zero =>
      intro v1 v2 ls hw hl
      rw [w1_stepCount_L4] at hw
      exact hw.elim
    | succ n4 ih4 =>
      intro v1 v2 ls hw hl
      rw [w1_stepCount_L4] at hw
      refine lv_iload_n hx hb dX1_stepCount_4 rfl (lv_at hl 2 rfl) ?_
      refine lv_aload_n hx hb dX1_stepCount_5 rfl (lv_at hl 0 rfl) ?_
      refine va_get (D := D) (ci := 0) (v := .int f_size) (C := RX1) (T := TX1) (N := 6) hx hb hts hi9 hown hK hP 0 rfl rfl 1 (by decide) g15 (fun _ h9 => h9) rfl dX1_stepCount_6 ?_
      refine lv_icmp_ge (tgt := 26) hx hb dX1_stepCount_9 (by decide) (fun k => ?_) (fun k => ?_)
      · have hw := hw.1 k
        refine lv_iload_n hx hb dX1_stepCount_26 rfl (lv_at hl 1 rfl) ?_
        exact RET _ _ _ hw dX1_stepCount_27
      · have hw := hw.2 k
        refine lv_iload_n hx hb dX1_stepCount_12 rfl (lv_at hl 1 rfl) ?_
        refine lv_aload_n hx hb dX1_stepCount_13 rfl (lv_at hl 0 rfl) ?_
        refine lv_iload_n hx hb dX1_stepCount_14 rfl (lv_at hl 2 rfl) ?_
        refine kcRI (wc := [(h0, o1 h1 f_size f_leftTop f_leftBottom f_rightTop f_rightBottom), (h1, ai cI 64 f_terms)]) hP [0, 1] rfl (fun hPc => oV (As := [.int v2]) (rest := [.int v1]) C0 hK hN (c1_runAt l D cI cJ cN cR h0 h1 f_size f_leftTop f_leftBottom f_rightTop f_rightBottom f_terms v2 _ hw) 1 gX1_stepCount_X1_runAt rfl ⟨rfl, rfl⟩ nm1_runAt ⟨Nat.le_of_ble_eq_true rfl, Nat.le_of_ble_eq_true rfl⟩ (q0 := 0) rfl rfl rfl rfl hl.1 rfl (Nat.le_of_ble_eq_true rfl) dX1_stepCount_15 ⟨Nat.le_of_ble_eq_true rfl, Nat.le_of_ble_eq_true rfl⟩ hPc) (fun r15 hw => ?_)
        refine lv_iadd hx hb dX1_stepCount_18 ?_
        refine lv_topi (fun x19 ex19 => ?_)
        have hw := hw x19 ex19
        refine lv_istore_n (lv' := [(1, .int x19), (0, .ref h0), (2, .int v2)]) hx hb dX1_stepCount_19 rfl hl (by decide) rfl (fun ls hl => ?_)
        obtain ⟨x20, ex20⟩ : ∃ y : Int32, y = (v2 + (1 : Int32)) := ⟨_, rfl⟩
        have hw := hw x20 ex20
        refine lv_iinc (v := x20) (lv' := [(2, .int x20), (1, .int x19), (0, .ref h0)]) hx hb dX1_stepCount_20 hl (k := 2) rfl (by rw [ex20]; rfl) (by decide) rfl (fun ls hl => ?_)
        refine lv_goto (tgt := 4) hx hb dX1_stepCount_23 (by decide) ?_
        exact ih4 x19 x20 ls hw (lv_sub hl [2, 1, 0] rfl)
  exact LOOP_4 n4 (0 : Int32) (0 : Int32) ls hw (lv_sub hl [2, 1, 0] rfl)
abbrev rm1_commonSteps : Room := { frames := 2, cells := 0, slots := 0, locals := 42 }
theorem nm1_commonSteps : kNm yX1_commonSteps 1 := by decide +kernel
set_option maxHeartbeats 4000000 in
set_option maxRecDepth 100000 in
theorem c1_commonSteps (l : Launch) (D : va_G) (cI cJ cN cR : ClassId) (h0 : Nat) (h1 : Nat) (g0 : Nat) (g1 : Nat) (f_size : Int32) (f_leftTop : Int64) (f_leftBottom : Int64) (f_rightTop : Int64) (f_rightBottom : Int64) (f_terms : (Nat → Int32)) (f_P_size : Int32) (f_P_leftTop : Int64) (f_P_leftBottom : Int64) (f_P_rightTop : Int64) (f_P_rightBottom : Int64) (f_P_terms : (Nat → Int32))  (post : Int32 → Prop) (hw : w1_commonSteps f_size f_terms f_P_size f_P_terms post) : Met l yX1_commonSteps wsX1_commonSteps rm1_commonSteps (kR D (kT cI cJ cN cR) [.ref h0, .ref g0] [(h0, o1 h1 f_size f_leftTop f_leftBottom f_rightTop f_rightBottom), (h1, ai cI 64 f_terms), (g0, o1 g1 f_P_size f_P_leftTop f_P_leftBottom f_P_rightTop f_P_rightBottom), (g1, ai cI 64 f_P_terms)]) (vp_Si post) 0 0 (fun _ => False) := by
  refine kMetRI (cc := cX1_commonSteps) (maxL := 6) (by decide +kernel) rfl (Nat.le_of_ble_eq_true rfl) ?_
  intro p e s m args below meth c H ls Q C0 hK hN hP hl RET
  obtain ⟨hx, hb, hml, hown, hts⟩ := id C0
  have hl : lv_has ls 6 [(0, .ref h0), (1, .ref g0)] := hl
  have g15 := hts (.fieldLink RX1 15 "SternBrocotExplorer$Expansion" "size" "I") (by decide +kernel)
  have hi9 : ∀ w ∈ wsX10, w ∈ wsX1_commonSteps := fun w h => List.mem_cons_of_mem _ (List.mem_append_right _ h)
  unfold w1_commonSteps at hw
  refine lv_iconst (v := (0 : Int32)) hx hb dX1_commonSteps_0 (by decide) ?_
  refine lv_istore_n (lv' := [(2, .int (0 : Int32)), (0, .ref h0), (1, .ref g0)]) hx hb dX1_commonSteps_1 rfl hl (by decide) rfl (fun ls hl => ?_)
  refine lv_iconst (v := (0 : Int32)) hx hb dX1_commonSteps_2 (by decide) ?_
  refine lv_istore_n (lv' := [(3, .int (0 : Int32)), (2, .int (0 : Int32)), (0, .ref h0), (1, .ref g0)]) hx hb dX1_commonSteps_3 rfl hl (by decide) rfl (fun ls hl => ?_)
  obtain ⟨n4, hw⟩ := hw
  have LOOP_4 : ∀ (n4 : Nat) (v2 : Int32) (v3 : Int32) (ls : Array Slot), w1_commonSteps_L4 f_size f_terms f_P_size f_P_terms post n4 v2 v3 → lv_has ls 6 [(0, .ref h0), (1, .ref g0), (2, .int v2), (3, .int v3)] → W p l e rm1_commonSteps s m args below meth c H [] 0 0 Q (F0 m 4 ls []) := by
    clear hw hl
    intro n4
    induction n4 with
    | zero =>
      intro v2 v3 ls hw hl
      rw [w1_commonSteps_L4] at hw
      exact hw.elim
    | succ n4 ih4 =>
      intro v2 v3 ls hw hl
      rw [w1_commonSteps_L4] at hw
      refine lv_iload_n hx hb dX1_commonSteps_4 rfl (lv_at hl 3 rfl) ?_
      refine lv_aload_n hx hb dX1_commonSteps_5 rfl (lv_at hl 0 rfl) ?_
      refine va_get (D := D) (ci := 0) (v := .int f_size) (C := RX1) (T := TX1) (N := 6) hx hb hts hi9 hown hK hP 0 rfl rfl 1 (by decide) g15 (fun _ h9 => h9) rfl dX1_commonSteps_6 ?_
      refine lv_icmp_ge (tgt := 66) hx hb dX1_commonSteps_9 (by decide) (fun k => ?_) (fun k => ?_)
      · have hw := hw.1 k
        refine lv_iload_n hx hb dX1_commonSteps_66 rfl (lv_at hl 2 rfl) ?_
        exact RET _ _ _ hw dX1_commonSteps_67
      · have hw := hw.2 k
        refine lv_iload_n hx hb dX1_commonSteps_12 rfl (lv_at hl 3 rfl) ?_
        refine lv_aload_n hx hb dX1_commonSteps_13 rfl (lv_at hl 1 rfl) ?_
        refine va_get (D := D) (ci := 0) (v := .int f_P_size) (C := RX1) (T := TX1) (N := 6) hx hb hts hi9 hown hK hP 2 rfl rfl 1 (by decide) g15 (fun _ h9 => h9) rfl dX1_commonSteps_14 ?_
        refine lv_icmp_ge (tgt := 66) hx hb dX1_commonSteps_17 (by decide) (fun k => ?_) (fun k => ?_)
        · have hw := hw.1 k
          refine lv_iload_n hx hb dX1_commonSteps_66 rfl (lv_at hl 2 rfl) ?_
          exact RET _ _ _ hw dX1_commonSteps_67
        · have hw := hw.2 k
          refine lv_aload_n hx hb dX1_commonSteps_20 rfl (lv_at hl 0 rfl) ?_
          refine lv_iload_n hx hb dX1_commonSteps_21 rfl (lv_at hl 3 rfl) ?_
          refine kcRI (wc := [(h0, o1 h1 f_size f_leftTop f_leftBottom f_rightTop f_rightBottom), (h1, ai cI 64 f_terms)]) hP [0, 1] rfl (fun hPc => oV (As := [.int v3]) (rest := []) C0 hK hN (c1_runAt l D cI cJ cN cR h0 h1 f_size f_leftTop f_leftBottom f_rightTop f_rightBottom f_terms v3 _ hw) 1 gX1_commonSteps_X1_runAt rfl ⟨rfl, rfl⟩ nm1_runAt ⟨Nat.le_of_ble_eq_true rfl, Nat.le_of_ble_eq_true rfl⟩ (q0 := 0) rfl rfl rfl rfl hl.1 rfl (Nat.le_of_ble_eq_true rfl) dX1_commonSteps_22 ⟨Nat.le_of_ble_eq_true rfl, Nat.le_of_ble_eq_true rfl⟩ hPc) (fun r22 hw => ?_)
          refine lv_istore (lv' := [(4, .int r22), (0, .ref h0), (1, .ref g0), (2, .int v2), (3, .int v3)]) hx hb dX1_commonSteps_25 hl (by decide) rfl (fun ls hl => ?_)
          refine lv_aload_n hx hb dX1_commonSteps_27 rfl (lv_at hl 2 rfl) ?_
          refine lv_iload_n hx hb dX1_commonSteps_28 rfl (lv_at hl 4 rfl) ?_
          refine kcRI (wc := [(g0, o1 g1 f_P_size f_P_leftTop f_P_leftBottom f_P_rightTop f_P_rightBottom), (g1, ai cI 64 f_P_terms)]) hP [2, 3] rfl (fun hPc => oV (As := [.int v3]) (rest := []) C0 hK hN (c1_runAt l D cI cJ cN cR g0 g1 f_P_size f_P_leftTop f_P_leftBottom f_P_rightTop f_P_rightBottom f_P_terms v3 _ hw) 1 gX1_commonSteps_X1_runAt rfl ⟨rfl, rfl⟩ nm1_runAt ⟨Nat.le_of_ble_eq_true rfl, Nat.le_of_ble_eq_true rfl⟩ (q0 := 0) rfl rfl rfl rfl hl.1 rfl (Nat.le_of_ble_eq_true rfl) dX1_commonSteps_29 ⟨Nat.le_of_ble_eq_true rfl, Nat.le_of_ble_eq_true rfl⟩ hPc) (fun r29 hw => ?_)
          refine lv_istore (lv' := [(5, .int r29), (4, .int r22), (0, .ref h0), (1, .ref g0), (2, .int v2), (3, .int v3)]) hx hb dX1_commonSteps_32 hl (by decide) rfl (fun ls hl => ?_)
          refine lv_iload_n hx hb dX1_commonSteps_34 rfl (lv_at hl 4 rfl) ?_
          refine lv_iload hx hb dX1_commonSteps_35 (lv_at hl 1 rfl) ?_
          refine lv_iload hx hb dX1_commonSteps_37 (lv_at hl 0 rfl) ?_
          refine lv_icmp_ge (tgt := 47) hx hb dX1_commonSteps_39 (by decide) (fun k => ?_) (fun k => ?_)
          · have hw := hw.1 k
            refine lv_iload hx hb dX1_commonSteps_47 (lv_at hl 0 rfl) ?_
            refine lv_iadd hx hb dX1_commonSteps_49 ?_
            refine lv_topi (fun x50 ex50 => ?_)
            have hw := hw x50 ex50
            refine lv_istore_n (lv' := [(2, .int x50), (5, .int r29), (4, .int r22), (0, .ref h0), (1, .ref g0), (3, .int v3)]) hx hb dX1_commonSteps_50 rfl hl (by decide) rfl (fun ls hl => ?_)
            refine lv_iload hx hb dX1_commonSteps_51 (lv_at hl 2 rfl) ?_
            refine lv_iload hx hb dX1_commonSteps_53 (lv_at hl 1 rfl) ?_
            refine lv_icmp_eq (tgt := 60) hx hb dX1_commonSteps_55 (by decide) (fun k => ?_) (fun k => ?_)
            · have hw := hw.1 k
              obtain ⟨x60, ex60⟩ : ∃ y : Int32, y = (v3 + (1 : Int32)) := ⟨_, rfl⟩
              have hw := hw x60 ex60
              refine lv_iinc (v := x60) (lv' := [(3, .int x60), (2, .int x50), (5, .int r29), (4, .int r22), (0, .ref h0), (1, .ref g0)]) hx hb dX1_commonSteps_60 hl (k := 5) rfl (by rw [ex60]; rfl) (by decide) rfl (fun ls hl => ?_)
              refine lv_goto (tgt := 4) hx hb dX1_commonSteps_63 (by decide) ?_
              exact ih4 x50 x60 ls hw (lv_sub hl [4, 5, 1, 0] rfl)
            · have hw := hw.2 k
              refine lv_iload_n hx hb dX1_commonSteps_58 rfl (lv_at hl 0 rfl) ?_
              exact RET _ _ _ hw dX1_commonSteps_59
          · have hw := hw.2 k
            refine lv_iload hx hb dX1_commonSteps_42 (lv_at hl 1 rfl) ?_
            refine lv_goto (tgt := 49) hx hb dX1_commonSteps_44 (by decide) ?_
            refine lv_iadd hx hb dX1_commonSteps_49 ?_
            refine lv_topi (fun x50 ex50 => ?_)
            have hw := hw x50 ex50
            refine lv_istore_n (lv' := [(2, .int x50), (5, .int r29), (4, .int r22), (0, .ref h0), (1, .ref g0), (3, .int v3)]) hx hb dX1_commonSteps_50 rfl hl (by decide) rfl (fun ls hl => ?_)
            refine lv_iload hx hb dX1_commonSteps_51 (lv_at hl 2 rfl) ?_
            refine lv_iload hx hb dX1_commonSteps_53 (lv_at hl 1 rfl) ?_
            refine lv_icmp_eq (tgt := 60) hx hb dX1_commonSteps_55 (by decide) (fun k => ?_) (fun k => ?_)
            · have hw := hw.1 k
              obtain ⟨x60, ex60⟩ : ∃ y : Int32, y = (v3 + (1 : Int32)) := ⟨_, rfl⟩
              have hw := hw x60 ex60
              refine lv_iinc (v := x60) (lv' := [(3, .int x60), (2, .int x50), (5, .int r29), (4, .int r22), (0, .ref h0), (1, .ref g0)]) hx hb dX1_commonSteps_60 hl (k := 5) rfl (by rw [ex60]; rfl) (by decide) rfl (fun ls hl => ?_)
              refine lv_goto (tgt := 4) hx hb dX1_commonSteps_63 (by decide) ?_
              exact ih4 x50 x60 ls hw (lv_sub hl [4, 5, 1, 0] rfl)
            · have hw := hw.2 k
              refine lv_iload_n hx hb dX1_commonSteps_58 rfl (lv_at hl 0 rfl) ?_
              exact RET _ _ _ hw dX1_commonSteps_59
  exact LOOP_4 n4 (0 : Int32) (0 : Int32) ls hw (lv_sub hl [2, 3, 1, 0] rfl)
abbrev rm1_cutToDepth : Room := { frames := 2, cells := 0, slots := 0, locals := 42 }
theorem nm1_cutToDepth : kNm yX1_cutToDepth 1 := by decide +kernel
set_option maxHeartbeats 4000000 in
set_option maxRecDepth 100000 in
theorem c1_cutToDepth (l : Launch) (D : va_G) (cI cJ cN cR : ClassId) (h0 : Nat) (h1 : Nat) (sz : Nat) (f_size : Int32) (f_leftTop : Int64) (f_leftBottom : Int64) (f_rightTop : Int64) (f_rightBottom : Int64) (f_terms : (Nat → Int32)) (v1 : Int32) (post : Int32 → (Nat → Int32) → Prop) (hw : w1_cutToDepth f_size f_terms v1 post) : Met l yX1_cutToDepth wsX1_cutToDepth rm1_cutToDepth (kP D (kT cI cJ cN cR) sz [.ref h0, .int v1] [(h0, o1 h1 f_size f_leftTop f_leftBottom f_rightTop f_rightBottom), (h1, ai cI 64 f_terms)]) (kQv D [(h0, o1 h1 f_size f_leftTop f_leftBottom f_rightTop f_rightBottom), (h1, ai cI 64 f_terms)] sz (fun (u : Int32 × (Nat → Int32)) => post u.1 u.2) (fun (u : Int32 × (Nat → Int32)) => [(h0, o1 h1 u.1 f_leftTop f_leftBottom f_rightTop f_rightBottom), (h1, ai cI 64 u.2)])) 0 0 (va_A [(h0, o1 h1 f_size f_leftTop f_leftBottom f_rightTop f_rightBottom), (h1, ai cI 64 f_terms)] sz) := by
  refine kMetV (cc := cX1_cutToDepth) (maxL := 5) (by decide +kernel) rfl (Nat.le_of_ble_eq_true rfl) ?_
  intro p e s m args below meth c H0 ls A Q C0 hK hN hP hD hS hA hl RET
  obtain ⟨hx, hb, hml, hown, hts⟩ := id C0
  have hl : lv_has ls 5 [(0, .ref h0), (1, .int v1)] := hl
  have g15 := hts (.fieldLink RX1 15 "SternBrocotExplorer$Expansion" "size" "I") (by decide +kernel)
  have g9 := hts (.fieldLink RX1 9 "SternBrocotExplorer$Expansion" "terms" "[I") (by decide +kernel)
  have hi9 : ∀ w ∈ wsX10, w ∈ wsX1_cutToDepth := fun w h => List.mem_cons_of_mem _ (List.mem_append_right _ h)
  unfold w1_cutToDepth at hw
  have hP : va_P D vwCl [(h0, o1 h1 f_size f_leftTop f_leftBottom f_rightTop f_rightBottom), (h1, ai cI 64 f_terms)] H0 := hP
  refine lv_iload_n hx hb dX1_cutToDepth_0 rfl (lv_at hl 1 rfl) ?_
  refine lv_istore_n (lv' := [(2, .int v1), (0, .ref h0), (1, .int v1)]) hx hb dX1_cutToDepth_1 rfl hl (by decide) rfl (fun ls hl => ?_)
  refine lv_iconst (v := (0 : Int32)) hx hb dX1_cutToDepth_2 (by decide) ?_
  refine lv_istore_n (lv' := [(3, .int (0 : Int32)), (2, .int v1), (0, .ref h0), (1, .int v1)]) hx hb dX1_cutToDepth_3 rfl hl (by decide) rfl (fun ls hl => ?_)
  obtain ⟨n4, hw⟩ := hw
  have LOOP_4 : ∀ (n4 : Nat) (v2 : Int32) (v3 : Int32) (H : Heap) (locs : List Loc) (ls : Array Slot), w1_cutToDepth_L4 f_size f_terms post n4 v2 v3 → va_P D vwCl [(h0, o1 h1 f_size f_leftTop f_leftBottom f_rightTop f_rightBottom), (h1, ai cI 64 f_terms)] H → va_D A [(h0, o1 h1 f_size f_leftTop f_leftBottom f_rightTop f_rightBottom), (h1, ai cI 64 f_terms)] → va_S A H0 H locs → lv_has ls 5 [(0, .ref h0), (2, .int v2), (3, .int v3)] → W p l e rm1_cutToDepth s m args below meth c H locs 0 0 Q (F0 m 4 ls []) := by
    clear hw hl hP hD hS
    intro n4
    induction n4 with
    | zero =>
      intro v2 v3 H locs ls hw hP hD hS hl
      rw [w1_cutToDepth_L4] at hw
      exact hw.elim
    | succ n4 ih4 =>
      intro v2 v3 H locs ls hw hP hD hS hl
      rw [w1_cutToDepth_L4] at hw
      refine lv_iload_n hx hb dX1_cutToDepth_4 rfl (lv_at hl 2 rfl) ?_
      refine lv_aload_n hx hb dX1_cutToDepth_5 rfl (lv_at hl 0 rfl) ?_
      refine va_get (D := D) (ci := 0) (v := .int f_size) (C := RX1) (T := TX1) (N := 6) hx hb hts hi9 hown hK hP 0 rfl rfl 1 (by decide) g15 (fun _ h9 => h9) rfl dX1_cutToDepth_6 ?_
      refine lv_icmp_ge (tgt := 53) hx hb dX1_cutToDepth_9 (by decide) (fun k => ?_) (fun k => ?_)
      · have hw := hw.1 k
        exact RET _ _ (f_size, f_terms) _ _ hw hP hD hS dX1_cutToDepth_53
      · have hw := hw.2 k
        refine lv_aload_n hx hb dX1_cutToDepth_12 rfl (lv_at hl 0 rfl) ?_
        refine lv_iload_n hx hb dX1_cutToDepth_13 rfl (lv_at hl 2 rfl) ?_
        refine kcRI (wc := [(h0, o1 h1 f_size f_leftTop f_leftBottom f_rightTop f_rightBottom), (h1, ai cI 64 f_terms)]) hP [0, 1] rfl (fun hPc => oV (As := [.int v3]) (rest := []) C0 hK hN (c1_runAt l D cI cJ cN cR h0 h1 f_size f_leftTop f_leftBottom f_rightTop f_rightBottom f_terms v3 _ hw) 1 gX1_cutToDepth_X1_runAt rfl ⟨rfl, rfl⟩ nm1_runAt ⟨Nat.le_of_ble_eq_true rfl, Nat.le_of_ble_eq_true rfl⟩ (q0 := 0) rfl rfl rfl rfl hl.1 rfl (Nat.le_of_ble_eq_true rfl) dX1_cutToDepth_14 ⟨Nat.le_of_ble_eq_true rfl, Nat.le_of_ble_eq_true rfl⟩ hPc) (fun r14 hw => ?_)
        refine lv_istore (lv' := [(4, .int r14), (0, .ref h0), (2, .int v2), (3, .int v3)]) hx hb dX1_cutToDepth_17 hl (by decide) rfl (fun ls hl => ?_)
        refine lv_iload_n hx hb dX1_cutToDepth_19 rfl (lv_at hl 2 rfl) ?_
        refine lv_iload hx hb dX1_cutToDepth_20 (lv_at hl 0 rfl) ?_
        refine lv_icmp_gt (tgt := 42) hx hb dX1_cutToDepth_22 (by decide) (fun k => ?_) (fun k => ?_)
        · have hw := hw.1 k
          refine lv_iload_n hx hb dX1_cutToDepth_42 rfl (lv_at hl 2 rfl) ?_
          refine lv_iload hx hb dX1_cutToDepth_43 (lv_at hl 0 rfl) ?_
          refine lv_isub hx hb dX1_cutToDepth_45 ?_
          refine lv_topi (fun x46 ex46 => ?_)
          have hw := hw x46 ex46
          refine lv_istore_n (lv' := [(2, .int x46), (4, .int r14), (0, .ref h0), (3, .int v3)]) hx hb dX1_cutToDepth_46 rfl hl (by decide) rfl (fun ls hl => ?_)
          obtain ⟨x47, ex47⟩ : ∃ y : Int32, y = (v3 + (1 : Int32)) := ⟨_, rfl⟩
          have hw := hw x47 ex47
          refine lv_iinc (v := x47) (lv' := [(3, .int x47), (2, .int x46), (4, .int r14), (0, .ref h0)]) hx hb dX1_cutToDepth_47 hl (k := 3) rfl (by rw [ex47]; rfl) (by decide) rfl (fun ls hl => ?_)
          refine lv_goto (tgt := 4) hx hb dX1_cutToDepth_50 (by decide) ?_
          exact ih4 x46 x47 _ _ ls hw hP hD hS (lv_sub hl [3, 1, 0] rfl)
        · have hw := hw.2 k
          refine lv_aload_n hx hb dX1_cutToDepth_25 rfl (lv_at hl 1 rfl) ?_
          refine va_get (D := D) (ci := 0) (v := .ref h1) (C := RX1) (T := TX1) (N := 6) hx hb hts hi9 hown hK hP 0 rfl rfl 0 (by decide) g9 (fun _ h9 => h9) rfl dX1_cutToDepth_26 ?_
          refine lv_iload_n hx hb dX1_cutToDepth_29 rfl (lv_at hl 3 rfl) ?_
          refine lv_iload_n hx hb dX1_cutToDepth_30 rfl (lv_at hl 2 rfl) ?_
          refine lv_iconst (v := (1 : Int32)) hx hb dX1_cutToDepth_31 (by decide) ?_
          refine lv_iadd hx hb dX1_cutToDepth_32 ?_
          obtain ⟨hin, hw⟩ := hw
          refine va_iast hx hb hK hP hD hS 1 0 rfl rfl hin dX1_cutToDepth_33 (fun H locs hP hD hS => ?_)
          have hP : va_P D vwCl [(h0, o1 h1 f_size f_leftTop f_leftBottom f_rightTop f_rightBottom), (h1, ai cI 64 (upd f_terms v3.toNatClampNeg (v2 + (1 : Int32))))] H := hP
          have hD : va_D A [(h0, o1 h1 f_size f_leftTop f_leftBottom f_rightTop f_rightBottom), (h1, ai cI 64 (upd f_terms v3.toNatClampNeg (v2 + (1 : Int32))))] := hD
          refine lv_aload_n hx hb dX1_cutToDepth_34 rfl (lv_at hl 1 rfl) ?_
          refine lv_iload_n hx hb dX1_cutToDepth_35 rfl (lv_at hl 3 rfl) ?_
          refine lv_iconst (v := (1 : Int32)) hx hb dX1_cutToDepth_36 (by decide) ?_
          refine lv_iadd hx hb dX1_cutToDepth_37 ?_
          refine lv_topi (fun x38 ex38 => ?_)
          have hw := hw x38 ex38
          refine va_put (D := D) (ci := 0) (v := .int x38) (ty := .int) (C := RX1) (T := TX1) (N := 6) hx hb hts hi9 tyX1 tyX1_ok nmX1 hown hK hP hD hS 0 rfl rfl 1 (by decide) g15 (fun _ h9 => h9) rfl (by decide +kernel) rfl rfl (Nat.le_of_ble_eq_true rfl) dX1_cutToDepth_38 (fun H locs hP hD hS => ?_)
          have hP : va_P D vwCl [(h0, o1 h1 x38 f_leftTop f_leftBottom f_rightTop f_rightBottom), (h1, ai cI 64 (upd f_terms v3.toNatClampNeg (v2 + (1 : Int32))))] H := hP
          have hD : va_D A [(h0, o1 h1 x38 f_leftTop f_leftBottom f_rightTop f_rightBottom), (h1, ai cI 64 (upd f_terms v3.toNatClampNeg (v2 + (1 : Int32))))] := hD
          exact RET _ _ (x38, (upd f_terms v3.toNatClampNeg (v2 + (1 : Int32)))) _ _ hw hP hD hS dX1_cutToDepth_41
  exact LOOP_4 n4 v1 (0 : Int32) _ _ ls hw hP hD hS (lv_sub hl [2, 1, 0] rfl)
abbrev rm1_size : Room := { frames := 0, cells := 0, slots := 0, locals := 0 }
theorem nm1_size : kNm yX1_size 0 := by decide +kernel
set_option maxHeartbeats 4000000 in
set_option maxRecDepth 100000 in
theorem c1_size (l : Launch) (D : va_G) (cI cJ cN cR : ClassId) (h0 : Nat) (h1 : Nat) (f_size : Int32) (f_leftTop : Int64) (f_leftBottom : Int64) (f_rightTop : Int64) (f_rightBottom : Int64)  (post : Int32 → Prop) (hw : w1_size f_size post) : Met l yX1_size wsX1_size rm1_size (kR D (kT cI cJ cN cR) [.ref h0] [(h0, o1 h1 f_size f_leftTop f_leftBottom f_rightTop f_rightBottom)]) (vp_Si post) 0 0 (fun _ => False) := by
  refine kMetRI (cc := cX1_size) (maxL := 1) (by decide +kernel) rfl (Nat.le_of_ble_eq_true rfl) ?_
  intro p e s m args below meth c H ls Q C0 hK hN hP hl RET
  obtain ⟨hx, hb, hml, hown, hts⟩ := id C0
  have hl : lv_has ls 1 [(0, .ref h0)] := hl
  have g15 := hts (.fieldLink RX1 15 "SternBrocotExplorer$Expansion" "size" "I") (by decide +kernel)
  have hi9 : ∀ w ∈ wsX10, w ∈ wsX1_size := fun w h => List.mem_cons_of_mem _ (List.mem_append_right _ h)
  unfold w1_size at hw
  refine lv_aload_n hx hb dX1_size_0 rfl (lv_at hl 0 rfl) ?_
  refine va_get (D := D) (ci := 0) (v := .int f_size) (C := RX1) (T := TX1) (N := 6) hx hb hts hi9 hown hK hP 0 rfl rfl 1 (by decide) g15 (fun _ h9 => h9) rfl dX1_size_1 ?_
  exact RET _ _ _ hw dX1_size_4
abbrev rm1_lastByRule : Room := { frames := 0, cells := 0, slots := 0, locals := 0 }
theorem nm1_lastByRule : kNm yX1_lastByRule 3 := by decide +kernel
set_option maxHeartbeats 4000000 in
set_option maxRecDepth 100000 in
theorem c1_lastByRule (l : Launch) (D : va_G) (cI cJ cN cR : ClassId) (h0 : Nat) (h1 : Nat) (f_size : Int32) (f_leftTop : Int64) (f_leftBottom : Int64) (f_rightTop : Int64) (f_rightBottom : Int64) (f_terms : (Nat → Int32)) (v1 : Int32) (v2 : Int64) (v4 : Int64) (post : Int64 → Prop) (hw : w1_lastByRule f_size f_terms v1 v2 v4 post) : Met l yX1_lastByRule wsX1_lastByRule rm1_lastByRule (kR D (kT cI cJ cN cR) [.ref h0, .int v1, .long v2, .long v4] [(h0, o1 h1 f_size f_leftTop f_leftBottom f_rightTop f_rightBottom), (h1, ai cI 64 f_terms)]) (vp_Sl post) 0 0 (fun _ => False) := by
  refine kMetRL (cc := cX1_lastByRule) (maxL := 13) (by decide +kernel) rfl (Nat.le_of_ble_eq_true rfl) ?_
  intro p e s m args below meth c H ls Q C0 hK hN hP hl RET
  obtain ⟨hx, hb, hml, hown, hts⟩ := id C0
  have hl : lv_has ls 13 [(0, .ref h0), (1, .int v1), (2, .long v2), (4, .long v4)] := hl
  have g15 := hts (.fieldLink RX1 15 "SternBrocotExplorer$Expansion" "size" "I") (by decide +kernel)
  have g9 := hts (.fieldLink RX1 9 "SternBrocotExplorer$Expansion" "terms" "[I") (by decide +kernel)
  have hi9 : ∀ w ∈ wsX10, w ∈ wsX1_lastByRule := fun w h => List.mem_cons_of_mem _ (List.mem_append_right _ h)
  unfold w1_lastByRule at hw
  refine lv_iload_n hx hb dX1_lastByRule_0 rfl (lv_at hl 1 rfl) ?_
  refine lv_iconst (v := (-1 : Int32)) hx hb dX1_lastByRule_1 (by decide) ?_
  refine lv_icmp_ge (tgt := 7) hx hb dX1_lastByRule_2 (by decide) (fun k => ?_) (fun k => ?_)
  · have hw := hw.1 k
    refine lv_lload_n hx hb dX1_lastByRule_7 rfl (lv_at hl 2 rfl) ?_
    refine lv_lstore (lv' := [(6, .long v2), (0, .ref h0), (1, .int v1), (2, .long v2), (4, .long v4)]) hx hb dX1_lastByRule_8 hl (by decide) rfl (fun ls hl => ?_)
    refine lv_lload hx hb dX1_lastByRule_10 (lv_at hl 4 rfl) ?_
    refine lv_lstore (lv' := [(8, .long v4), (6, .long v2), (0, .ref h0), (1, .int v1), (2, .long v2), (4, .long v4)]) hx hb dX1_lastByRule_12 hl (by decide) rfl (fun ls hl => ?_)
    refine lv_iconst (v := (0 : Int32)) hx hb dX1_lastByRule_14 (by decide) ?_
    refine lv_istore (lv' := [(10, .int (0 : Int32)), (8, .long v4), (6, .long v2), (0, .ref h0), (1, .int v1), (2, .long v2), (4, .long v4)]) hx hb dX1_lastByRule_15 hl (by decide) rfl (fun ls hl => ?_)
    obtain ⟨n17, hw⟩ := hw
    have LOOP_17 : ∀ (n17 : Nat) (v6 : Int64) (v8 : Int64) (v10 : Int32) (ls : Array Slot), w1_lastByRule_L17 f_size f_terms v1 post n17 v6 v8 v10 → lv_has ls 13 [(0, .ref h0), (1, .int v1), (6, .long v6), (8, .long v8), (10, .int v10)] → W p l e rm1_lastByRule s m args below meth c H [] 0 0 Q (F0 m 17 ls []) := by
      clear hw hl
      intro n17
      induction n17 with
      | zero =>
        intro v6 v8 v10 ls hw hl
        rw [w1_lastByRule_L17] at hw
        exact hw.elim
      | succ n17 ih17 =>
        intro v6 v8 v10 ls hw hl
        rw [w1_lastByRule_L17] at hw
        refine lv_iload hx hb dX1_lastByRule_17 (lv_at hl 4 rfl) ?_
        refine lv_iload_n hx hb dX1_lastByRule_19 rfl (lv_at hl 1 rfl) ?_
        refine lv_icmp_gt (tgt := 62) hx hb dX1_lastByRule_20 (by decide) (fun k => ?_) (fun k => ?_)
        · have hw := hw.1 k
          refine lv_lload hx hb dX1_lastByRule_62 (lv_at hl 3 rfl) ?_
          exact RET _ _ _ hw dX1_lastByRule_64
        · have hw := hw.2 k
          refine lv_iload hx hb dX1_lastByRule_23 (lv_at hl 4 rfl) ?_
          refine lv_aload_n hx hb dX1_lastByRule_25 rfl (lv_at hl 0 rfl) ?_
          refine va_get (D := D) (ci := 0) (v := .int f_size) (C := RX1) (T := TX1) (N := 6) hx hb hts hi9 hown hK hP 0 rfl rfl 1 (by decide) g15 (fun _ h9 => h9) rfl dX1_lastByRule_26 ?_
          refine lv_icmp_ge (tgt := 62) hx hb dX1_lastByRule_29 (by decide) (fun k => ?_) (fun k => ?_)
          · have hw := hw.1 k
            refine lv_lload hx hb dX1_lastByRule_62 (lv_at hl 3 rfl) ?_
            exact RET _ _ _ hw dX1_lastByRule_64
          · have hw := hw.2 k
            refine lv_aload_n hx hb dX1_lastByRule_32 rfl (lv_at hl 0 rfl) ?_
            refine va_get (D := D) (ci := 0) (v := .ref h1) (C := RX1) (T := TX1) (N := 6) hx hb hts hi9 hown hK hP 0 rfl rfl 0 (by decide) g9 (fun _ h9 => h9) rfl dX1_lastByRule_33 ?_
            refine lv_iload hx hb dX1_lastByRule_36 (lv_at hl 4 rfl) ?_
            obtain ⟨hin, hw⟩ := hw
            refine va_iald hx hb hK hP 1 0 rfl rfl hin dX1_lastByRule_38 ?_
            refine lv_i2l hx hb dX1_lastByRule_39 rfl ?_
            refine lv_lload hx hb dX1_lastByRule_40 (lv_at hl 3 rfl) ?_
            refine lv_lmul hx hb dX1_lastByRule_42 ?_
            refine lv_lload hx hb dX1_lastByRule_43 (lv_at hl 2 rfl) ?_
            refine lv_ladd hx hb dX1_lastByRule_45 ?_
            refine lv_topl (fun x46 ex46 => ?_)
            have hw := hw x46 ex46
            refine lv_lstore (lv' := [(11, .long x46), (0, .ref h0), (1, .int v1), (6, .long v6), (8, .long v8), (10, .int v10)]) hx hb dX1_lastByRule_46 hl (by decide) rfl (fun ls hl => ?_)
            refine lv_lload hx hb dX1_lastByRule_48 (lv_at hl 4 rfl) ?_
            refine lv_lstore (lv' := [(6, .long v8), (11, .long x46), (0, .ref h0), (1, .int v1), (8, .long v8), (10, .int v10)]) hx hb dX1_lastByRule_50 hl (by decide) rfl (fun ls hl => ?_)
            refine lv_lload hx hb dX1_lastByRule_52 (lv_at hl 1 rfl) ?_
            refine lv_lstore (lv' := [(8, .long x46), (6, .long v8), (11, .long x46), (0, .ref h0), (1, .int v1), (10, .int v10)]) hx hb dX1_lastByRule_54 hl (by decide) rfl (fun ls hl => ?_)
            obtain ⟨x56, ex56⟩ : ∃ y : Int32, y = (v10 + (1 : Int32)) := ⟨_, rfl⟩
            have hw := hw x56 ex56
            refine lv_iinc (v := x56) (lv' := [(10, .int x56), (8, .long x46), (6, .long v8), (11, .long x46), (0, .ref h0), (1, .int v1)]) hx hb dX1_lastByRule_56 hl (k := 5) rfl (by rw [ex56]; rfl) (by decide) rfl (fun ls hl => ?_)
            refine lv_goto (tgt := 17) hx hb dX1_lastByRule_59 (by decide) ?_
            exact ih17 v8 x46 x56 ls hw (lv_sub hl [4, 5, 2, 1, 0] rfl)
    exact LOOP_17 n17 v2 v4 (0 : Int32) ls hw (lv_sub hl [3, 4, 2, 1, 0] rfl)
  · have hw := hw.2 k
    refine lv_lload_n hx hb dX1_lastByRule_5 rfl (lv_at hl 2 rfl) ?_
    exact RET _ _ _ hw dX1_lastByRule_6
abbrev rm1_convergentTop : Room := { frames := 1, cells := 0, slots := 0, locals := 32 }
theorem nm1_convergentTop : kNm yX1_convergentTop 1 := by decide +kernel
set_option maxHeartbeats 4000000 in
set_option maxRecDepth 100000 in
theorem c1_convergentTop (l : Launch) (D : va_G) (cI cJ cN cR : ClassId) (h0 : Nat) (h1 : Nat) (f_size : Int32) (f_leftTop : Int64) (f_leftBottom : Int64) (f_rightTop : Int64) (f_rightBottom : Int64) (f_terms : (Nat → Int32)) (v1 : Int32) (post : Int64 → Prop) (hw : w1_convergentTop f_size f_terms v1 post) : Met l yX1_convergentTop wsX1_convergentTop rm1_convergentTop (kR D (kT cI cJ cN cR) [.ref h0, .int v1] [(h0, o1 h1 f_size f_leftTop f_leftBottom f_rightTop f_rightBottom), (h1, ai cI 64 f_terms)]) (vp_Sl post) 0 0 (fun _ => False) := by
  refine kMetRL (cc := cX1_convergentTop) (maxL := 2) (by decide +kernel) rfl (Nat.le_of_ble_eq_true rfl) ?_
  intro p e s m args below meth c H ls Q C0 hK hN hP hl RET
  obtain ⟨hx, hb, hml, hown, hts⟩ := id C0
  have hl : lv_has ls 2 [(0, .ref h0), (1, .int v1)] := hl
  unfold w1_convergentTop at hw
  refine lv_aload_n hx hb dX1_convergentTop_0 rfl (lv_at hl 0 rfl) ?_
  refine lv_iload_n hx hb dX1_convergentTop_1 rfl (lv_at hl 1 rfl) ?_
  refine lv_lconst (v := (0 : Int64)) hx hb dX1_convergentTop_2 (by decide) ?_
  refine lv_lconst (v := (1 : Int64)) hx hb dX1_convergentTop_3 (by decide) ?_
  refine kcRL (wc := [(h0, o1 h1 f_size f_leftTop f_leftBottom f_rightTop f_rightBottom), (h1, ai cI 64 f_terms)]) hP [0, 1] rfl (fun hPc => oV (As := [.int v1, .long (0 : Int64), .long (1 : Int64)]) (rest := []) C0 hK hN (c1_lastByRule l D cI cJ cN cR h0 h1 f_size f_leftTop f_leftBottom f_rightTop f_rightBottom f_terms v1 (0 : Int64) (1 : Int64) _ hw) 3 gX1_convergentTop_X1_lastByRule rfl ⟨rfl, rfl⟩ nm1_lastByRule ⟨Nat.le_of_ble_eq_true rfl, Nat.le_of_ble_eq_true rfl⟩ (q0 := 0) rfl rfl rfl rfl hl.1 rfl (Nat.le_of_ble_eq_true rfl) dX1_convergentTop_4 ⟨Nat.le_of_ble_eq_true rfl, Nat.le_of_ble_eq_true rfl⟩ hPc) (fun r4 hw => ?_)
  exact RET _ _ _ hw dX1_convergentTop_7
abbrev rm1_convergentBottom : Room := { frames := 1, cells := 0, slots := 0, locals := 32 }
theorem nm1_convergentBottom : kNm yX1_convergentBottom 1 := by decide +kernel
set_option maxHeartbeats 4000000 in
set_option maxRecDepth 100000 in
theorem c1_convergentBottom (l : Launch) (D : va_G) (cI cJ cN cR : ClassId) (h0 : Nat) (h1 : Nat) (f_size : Int32) (f_leftTop : Int64) (f_leftBottom : Int64) (f_rightTop : Int64) (f_rightBottom : Int64) (f_terms : (Nat → Int32)) (v1 : Int32) (post : Int64 → Prop) (hw : w1_convergentBottom f_size f_terms v1 post) : Met l yX1_convergentBottom wsX1_convergentBottom rm1_convergentBottom (kR D (kT cI cJ cN cR) [.ref h0, .int v1] [(h0, o1 h1 f_size f_leftTop f_leftBottom f_rightTop f_rightBottom), (h1, ai cI 64 f_terms)]) (vp_Sl post) 0 0 (fun _ => False) := by
  refine kMetRL (cc := cX1_convergentBottom) (maxL := 2) (by decide +kernel) rfl (Nat.le_of_ble_eq_true rfl) ?_
  intro p e s m args below meth c H ls Q C0 hK hN hP hl RET
  obtain ⟨hx, hb, hml, hown, hts⟩ := id C0
  have hl : lv_has ls 2 [(0, .ref h0), (1, .int v1)] := hl
  unfold w1_convergentBottom at hw
  refine lv_aload_n hx hb dX1_convergentBottom_0 rfl (lv_at hl 0 rfl) ?_
  refine lv_iload_n hx hb dX1_convergentBottom_1 rfl (lv_at hl 1 rfl) ?_
  refine lv_lconst (v := (1 : Int64)) hx hb dX1_convergentBottom_2 (by decide) ?_
  refine lv_lconst (v := (0 : Int64)) hx hb dX1_convergentBottom_3 (by decide) ?_
  refine kcRL (wc := [(h0, o1 h1 f_size f_leftTop f_leftBottom f_rightTop f_rightBottom), (h1, ai cI 64 f_terms)]) hP [0, 1] rfl (fun hPc => oV (As := [.int v1, .long (1 : Int64), .long (0 : Int64)]) (rest := []) C0 hK hN (c1_lastByRule l D cI cJ cN cR h0 h1 f_size f_leftTop f_leftBottom f_rightTop f_rightBottom f_terms v1 (1 : Int64) (0 : Int64) _ hw) 3 gX1_convergentBottom_X1_lastByRule rfl ⟨rfl, rfl⟩ nm1_lastByRule ⟨Nat.le_of_ble_eq_true rfl, Nat.le_of_ble_eq_true rfl⟩ (q0 := 0) rfl rfl rfl rfl hl.1 rfl (Nat.le_of_ble_eq_true rfl) dX1_convergentBottom_4 ⟨Nat.le_of_ble_eq_true rfl, Nat.le_of_ble_eq_true rfl⟩ hPc) (fun r4 hw => ?_)
  exact RET _ _ _ hw dX1_convergentBottom_7
abbrev rm7_quotient : Room := { frames := 0, cells := 0, slots := 0, locals := 0 }
theorem nm7_quotient : kNm yX7_quotient 2 := by decide +kernel
set_option maxHeartbeats 4000000 in
set_option maxRecDepth 100000 in
theorem c7_quotient (l : Launch) (D : va_G) (cI cJ cN cR : ClassId)   (v0 : Int64) (v2 : Int64) (post : Int64 → Prop) (hw : w7_quotient v0 v2 post) : Met l yX7_quotient wsX7_quotient rm7_quotient (kR D (kT cI cJ cN cR) [.long v0, .long v2] []) (vp_Sl post) 0 0 (fun _ => False) := by
  refine kMetRL (cc := cX7_quotient) (maxL := 4) (by decide +kernel) rfl (Nat.le_of_ble_eq_true rfl) ?_
  intro p e s m args below meth c H ls Q C0 hK hN hP hl RET
  obtain ⟨hx, hb, hml, hown, hts⟩ := id C0
  have hl : lv_has ls 4 [(0, .long v0), (2, .long v2)] := hl
  unfold w7_quotient at hw
  refine lv_lload_n hx hb dX7_quotient_0 rfl (lv_at hl 1 rfl) ?_
  refine lv_lconst (v := (0 : Int64)) hx hb dX7_quotient_1 (by decide) ?_
  refine W.lcmp hx hb dX7_quotient_2 ?_
  refine lv_if_le (tgt := 12) hx hb dX7_quotient_3 (by decide) (fun k => ?_) (fun k => ?_)
  · have hw := hw.1 ((lg_cmp_le _ _).mp k)
    refine lv_lconst (v := (0 : Int64)) hx hb dX7_quotient_12 (by decide) ?_
    exact RET _ _ _ hw dX7_quotient_13
  · have hw := hw.2 (fun h => k ((lg_cmp_le _ _).mpr h))
    refine lv_lload_n hx hb dX7_quotient_6 rfl (lv_at hl 0 rfl) ?_
    refine lv_lload_n hx hb dX7_quotient_7 rfl (lv_at hl 1 rfl) ?_
    obtain ⟨hne, hw⟩ := hw
    refine lv_ldiv hx hb dX7_quotient_8 hne ?_
    refine lv_goto (tgt := 13) hx hb dX7_quotient_9 (by decide) ?_
    exact RET _ _ _ hw dX7_quotient_13
abbrev rm1_becomeSimplestBetween : Room := { frames := 1, cells := 0, slots := 0, locals := 23 }
theorem nm1_becomeSimplestBetween : kNm yX1_becomeSimplestBetween 4 := by decide +kernel
set_option maxHeartbeats 4000000 in
set_option maxRecDepth 100000 in
theorem c1_becomeSimplestBetween (l : Launch) (D : va_G) (cI cJ cN cR : ClassId) (h0 : Nat) (h1 : Nat) (sz : Nat) (f_size : Int32) (f_leftTop : Int64) (f_leftBottom : Int64) (f_rightTop : Int64) (f_rightBottom : Int64) (f_terms : (Nat → Int32)) (v1 : Int32) (v2 : Int32) (v3 : Int32) (v4 : Int32) (post : Int32 → (Nat → Int32) → Prop) (hw : w1_becomeSimplestBetween f_size f_terms v1 v2 v3 v4 post) : Met l yX1_becomeSimplestBetween wsX1_becomeSimplestBetween rm1_becomeSimplestBetween (kP D (kT cI cJ cN cR) sz [.ref h0, .int v1, .int v2, .int v3, .int v4] [(h0, o1 h1 f_size f_leftTop f_leftBottom f_rightTop f_rightBottom), (h1, ai cI 64 f_terms)]) (kQv D [(h0, o1 h1 f_size f_leftTop f_leftBottom f_rightTop f_rightBottom), (h1, ai cI 64 f_terms)] sz (fun (u : Int32 × (Nat → Int32)) => post u.1 u.2) (fun (u : Int32 × (Nat → Int32)) => [(h0, o1 h1 u.1 f_leftTop f_leftBottom f_rightTop f_rightBottom), (h1, ai cI 64 u.2)])) 0 0 (va_A [(h0, o1 h1 f_size f_leftTop f_leftBottom f_rightTop f_rightBottom), (h1, ai cI 64 f_terms)] sz) := by
  refine kMetV (cc := cX1_becomeSimplestBetween) (maxL := 20) (by decide +kernel) rfl (Nat.le_of_ble_eq_true rfl) ?_
  intro p e s m args below meth c H0 ls A Q C0 hK hN hP hD hS hA hl RET
  obtain ⟨hx, hb, hml, hown, hts⟩ := id C0
  have hl : lv_has ls 20 [(0, .ref h0), (1, .int v1), (2, .int v2), (3, .int v3), (4, .int v4)] := hl
  have g15 := hts (.fieldLink RX1 15 "SternBrocotExplorer$Expansion" "size" "I") (by decide +kernel)
  have hi9 : ∀ w ∈ wsX10, w ∈ wsX1_becomeSimplestBetween := fun w h => List.mem_cons_of_mem _ (List.mem_append_right _ h)
  unfold w1_becomeSimplestBetween at hw
  have hP : va_P D vwCl [(h0, o1 h1 f_size f_leftTop f_leftBottom f_rightTop f_rightBottom), (h1, ai cI 64 f_terms)] H0 := hP
  refine lv_iload_n hx hb dX1_becomeSimplestBetween_0 rfl (lv_at hl 1 rfl) ?_
  refine lv_i2l hx hb dX1_becomeSimplestBetween_1 rfl ?_
  refine lv_topl (fun x2 ex2 => ?_)
  have hw := hw x2 ex2
  refine lv_lstore (lv' := [(5, .long x2), (0, .ref h0), (1, .int v1), (2, .int v2), (3, .int v3), (4, .int v4)]) hx hb dX1_becomeSimplestBetween_2 hl (by decide) rfl (fun ls hl => ?_)
  refine lv_iload_n hx hb dX1_becomeSimplestBetween_4 rfl (lv_at hl 3 rfl) ?_
  refine lv_i2l hx hb dX1_becomeSimplestBetween_5 rfl ?_
  refine lv_topl (fun x6 ex6 => ?_)
  have hw := hw x6 ex6
  refine lv_lstore (lv' := [(7, .long x6), (5, .long x2), (0, .ref h0), (1, .int v1), (2, .int v2), (3, .int v3), (4, .int v4)]) hx hb dX1_becomeSimplestBetween_6 hl (by decide) rfl (fun ls hl => ?_)
  refine lv_iload_n hx hb dX1_becomeSimplestBetween_8 rfl (lv_at hl 5 rfl) ?_
  refine lv_i2l hx hb dX1_becomeSimplestBetween_9 rfl ?_
  refine lv_topl (fun x10 ex10 => ?_)
  have hw := hw x10 ex10
  refine lv_lstore (lv' := [(9, .long x10), (7, .long x6), (5, .long x2), (0, .ref h0), (1, .int v1), (2, .int v2), (3, .int v3), (4, .int v4)]) hx hb dX1_becomeSimplestBetween_10 hl (by decide) rfl (fun ls hl => ?_)
  refine lv_iload hx hb dX1_becomeSimplestBetween_12 (lv_at hl 7 rfl) ?_
  refine lv_i2l hx hb dX1_becomeSimplestBetween_14 rfl ?_
  refine lv_topl (fun x15 ex15 => ?_)
  have hw := hw x15 ex15
  refine lv_lstore (lv' := [(11, .long x15), (9, .long x10), (7, .long x6), (5, .long x2), (0, .ref h0), (1, .int v1), (2, .int v2), (3, .int v3), (4, .int v4)]) hx hb dX1_becomeSimplestBetween_15 hl (by decide) rfl (fun ls hl => ?_)
  refine lv_aload_n hx hb dX1_becomeSimplestBetween_17 rfl (lv_at hl 4 rfl) ?_
  refine lv_iconst (v := (0 : Int32)) hx hb dX1_becomeSimplestBetween_18 (by decide) ?_
  refine va_put (D := D) (ci := 0) (v := .int (0 : Int32)) (ty := .int) (C := RX1) (T := TX1) (N := 6) hx hb hts hi9 tyX1 tyX1_ok nmX1 hown hK hP hD hS 0 rfl rfl 1 (by decide) g15 (fun _ h9 => h9) rfl (by decide +kernel) rfl rfl (Nat.le_of_ble_eq_true rfl) dX1_becomeSimplestBetween_19 (fun H locs hP hD hS => ?_)
  have hP : va_P D vwCl [(h0, o1 h1 (0 : Int32) f_leftTop f_leftBottom f_rightTop f_rightBottom), (h1, ai cI 64 f_terms)] H := hP
  have hD : va_D A [(h0, o1 h1 (0 : Int32) f_leftTop f_leftBottom f_rightTop f_rightBottom), (h1, ai cI 64 f_terms)] := hD
  refine lv_iconst (v := (0 : Int32)) hx hb dX1_becomeSimplestBetween_22 (by decide) ?_
  refine lv_istore (lv' := [(13, .int (0 : Int32)), (11, .long x15), (9, .long x10), (7, .long x6), (5, .long x2), (0, .ref h0), (1, .int v1), (2, .int v2), (3, .int v3), (4, .int v4)]) hx hb dX1_becomeSimplestBetween_23 hl (by decide) rfl (fun ls hl => ?_)
  obtain ⟨n25, hw⟩ := hw
  have LOOP_25 : ∀ (n25 : Nat) (v5 : Int64) (v7 : Int64) (v9 : Int64) (v11 : Int64) (v13 : Int32) (f_size : Int32) (f_terms : (Nat → Int32)) (H : Heap) (locs : List Loc) (ls : Array Slot), w1_becomeSimplestBetween_L25 post n25 v5 v7 v9 v11 v13 f_size f_terms → va_P D vwCl [(h0, o1 h1 f_size f_leftTop f_leftBottom f_rightTop f_rightBottom), (h1, ai cI 64 f_terms)] H → va_D A [(h0, o1 h1 f_size f_leftTop f_leftBottom f_rightTop f_rightBottom), (h1, ai cI 64 f_terms)] → va_S A H0 H locs → lv_has ls 20 [(0, .ref h0), (5, .long v5), (7, .long v7), (9, .long v9), (11, .long v11), (13, .int v13)] → W p l e rm1_becomeSimplestBetween s m args below meth c H locs 0 0 Q (F0 m 25 ls []) := by
    clear hw hl hP hD hS
    intro n25
    induction n25 with
    | zero =>
      intro v5 v7 v9 v11 v13 f_size f_terms H locs ls hw hP hD hS hl
      rw [w1_becomeSimplestBetween_L25] at hw
      exact hw.elim
    | succ n25 ih25 =>
      intro v5 v7 v9 v11 v13 f_size f_terms H locs ls hw hP hD hS hl
      rw [w1_becomeSimplestBetween_L25] at hw
      refine lv_iload hx hb dX1_becomeSimplestBetween_25 (lv_at hl 5 rfl) ?_
      refine lv_bipush (v := (64 : Int32)) hx hb dX1_becomeSimplestBetween_27 (by decide) ?_
      refine lv_icmp_ge (tgt := 113) hx hb dX1_becomeSimplestBetween_29 (by decide) (fun k => ?_) (fun k => ?_)
      · have hw := hw.1 k
        exact RET _ _ (f_size, f_terms) _ _ hw hP hD hS dX1_becomeSimplestBetween_113
      · have hw := hw.2 k
        refine lv_lload hx hb dX1_becomeSimplestBetween_32 (lv_at hl 1 rfl) ?_
        refine lv_lload hx hb dX1_becomeSimplestBetween_34 (lv_at hl 2 rfl) ?_
        refine kcRL (wc := []) hP [] rfl (fun hPc => oSN (As := [.long v5, .long v7]) (rest := []) (host := RX7) C0 hK hN (c7_quotient l D cI cJ cN cR   v5 v7 _ hw) 2 hN.1 (hts (.static yX7_quotient) (by decide +kernel)) (hts (.initialized RX7) (by decide +kernel)) gX1_becomeSimplestBetween_X7_quotient_n23 rfl ⟨rfl, rfl⟩ nm7_quotient ⟨Nat.le_of_ble_eq_true rfl, Nat.le_of_ble_eq_true rfl⟩ rfl hl.1 rfl (Nat.le_of_ble_eq_true rfl) dX1_becomeSimplestBetween_36 ⟨Nat.le_of_ble_eq_true rfl, Nat.le_of_ble_eq_true rfl⟩ hPc) (fun r36 hw => ?_)
        refine lv_lstore (lv' := [(14, .long r36), (0, .ref h0), (5, .long v5), (7, .long v7), (9, .long v9), (11, .long v11), (13, .int v13)]) hx hb dX1_becomeSimplestBetween_39 hl (by decide) rfl (fun ls hl => ?_)
        refine lv_lload hx hb dX1_becomeSimplestBetween_41 (lv_at hl 0 rfl) ?_
        refine lv_lconst (v := (1 : Int64)) hx hb dX1_becomeSimplestBetween_43 (by decide) ?_
        refine lv_ladd hx hb dX1_becomeSimplestBetween_44 ?_
        refine lv_lload hx hb dX1_becomeSimplestBetween_45 (lv_at hl 5 rfl) ?_
        refine lv_lmul hx hb dX1_becomeSimplestBetween_47 ?_
        refine lv_lload hx hb dX1_becomeSimplestBetween_48 (lv_at hl 4 rfl) ?_
        refine W.lcmp hx hb dX1_becomeSimplestBetween_50 ?_
        refine lv_if_ge (tgt := 64) hx hb dX1_becomeSimplestBetween_51 (by decide) (fun k => ?_) (fun k => ?_)
        · have hw := hw.1 ((lg_cmp_ge _ _).mp k)
          refine lv_aload_n hx hb dX1_becomeSimplestBetween_64 rfl (lv_at hl 1 rfl) ?_
          refine lv_lload hx hb dX1_becomeSimplestBetween_65 (lv_at hl 0 rfl) ?_
          refine lv_l2i hx hb dX1_becomeSimplestBetween_67 rfl ?_
          refine kcV (wc := [(h0, o1 h1 f_size f_leftTop f_leftBottom f_rightTop f_rightBottom), (h1, ai cI 64 f_terms)]) (wr := []) hP hD hS hA [0, 1] [] rfl rfl ⟨rfl, rfl, by decide⟩ (fun hPc hDc => rV (As := [.int r36.toInt32]) (rest := []) C0 hK hN (c1_append l D cI cJ cN cR h0 h1 H.size f_size f_leftTop f_leftBottom f_rightTop f_rightBottom f_terms r36.toInt32 _ hw) 1 gX1_becomeSimplestBetween_X1_append rfl ⟨rfl, rfl⟩ nm1_append ⟨Nat.le_of_ble_eq_true rfl, Nat.le_of_ble_eq_true rfl⟩ (q0 := 0) rfl rfl rfl rfl hl.1 rfl (Nat.le_of_ble_eq_true rfl) dX1_becomeSimplestBetween_68 ⟨Nat.le_of_ble_eq_true rfl, Nat.le_of_ble_eq_true rfl⟩ hPc hDc) (fun u68 H locs hw hP hD hS => ?_)
          obtain ⟨f_size_68, f_terms_68⟩ := u68
          dsimp only at hw
          have hP : va_P D vwCl [(h0, o1 h1 f_size_68 f_leftTop f_leftBottom f_rightTop f_rightBottom), (h1, ai cI 64 f_terms_68)] H := hP
          have hD : va_D A [(h0, o1 h1 f_size_68 f_leftTop f_leftBottom f_rightTop f_rightBottom), (h1, ai cI 64 f_terms_68)] := hD
          refine lv_lload hx hb dX1_becomeSimplestBetween_71 (lv_at hl 2 rfl) ?_
          refine lv_lload hx hb dX1_becomeSimplestBetween_73 (lv_at hl 0 rfl) ?_
          refine lv_lload hx hb dX1_becomeSimplestBetween_75 (lv_at hl 3 rfl) ?_
          refine lv_lmul hx hb dX1_becomeSimplestBetween_77 ?_
          refine lv_lsub hx hb dX1_becomeSimplestBetween_78 ?_
          refine lv_topl (fun x79 ex79 => ?_)
          have hw := hw x79 ex79
          refine lv_lstore (lv' := [(16, .long x79), (14, .long r36), (0, .ref h0), (5, .long v5), (7, .long v7), (9, .long v9), (11, .long v11), (13, .int v13)]) hx hb dX1_becomeSimplestBetween_79 hl (by decide) rfl (fun ls hl => ?_)
          refine lv_lload hx hb dX1_becomeSimplestBetween_81 (lv_at hl 5 rfl) ?_
          refine lv_lload hx hb dX1_becomeSimplestBetween_83 (lv_at hl 1 rfl) ?_
          refine lv_lload hx hb dX1_becomeSimplestBetween_85 (lv_at hl 6 rfl) ?_
          refine lv_lmul hx hb dX1_becomeSimplestBetween_87 ?_
          refine lv_lsub hx hb dX1_becomeSimplestBetween_88 ?_
          refine lv_topl (fun x89 ex89 => ?_)
          have hw := hw x89 ex89
          refine lv_lstore (lv' := [(18, .long x89), (16, .long x79), (14, .long r36), (0, .ref h0), (5, .long v5), (7, .long v7), (9, .long v9), (11, .long v11), (13, .int v13)]) hx hb dX1_becomeSimplestBetween_89 hl (by decide) rfl (fun ls hl => ?_)
          refine lv_lload hx hb dX1_becomeSimplestBetween_91 (lv_at hl 7 rfl) ?_
          refine lv_lstore (lv' := [(5, .long v11), (18, .long x89), (16, .long x79), (14, .long r36), (0, .ref h0), (7, .long v7), (9, .long v9), (11, .long v11), (13, .int v13)]) hx hb dX1_becomeSimplestBetween_93 hl (by decide) rfl (fun ls hl => ?_)
          refine lv_lload hx hb dX1_becomeSimplestBetween_95 (lv_at hl 5 rfl) ?_
          refine lv_lstore (lv' := [(9, .long v7), (5, .long v11), (18, .long x89), (16, .long x79), (14, .long r36), (0, .ref h0), (7, .long v7), (11, .long v11), (13, .int v13)]) hx hb dX1_becomeSimplestBetween_97 hl (by decide) rfl (fun ls hl => ?_)
          refine lv_lload hx hb dX1_becomeSimplestBetween_99 (lv_at hl 2 rfl) ?_
          refine lv_lstore (lv' := [(7, .long x89), (9, .long v7), (5, .long v11), (18, .long x89), (16, .long x79), (14, .long r36), (0, .ref h0), (11, .long v11), (13, .int v13)]) hx hb dX1_becomeSimplestBetween_101 hl (by decide) rfl (fun ls hl => ?_)
          refine lv_lload hx hb dX1_becomeSimplestBetween_103 (lv_at hl 4 rfl) ?_
          refine lv_lstore (lv' := [(11, .long x79), (7, .long x89), (9, .long v7), (5, .long v11), (18, .long x89), (16, .long x79), (14, .long r36), (0, .ref h0), (13, .int v13)]) hx hb dX1_becomeSimplestBetween_105 hl (by decide) rfl (fun ls hl => ?_)
          obtain ⟨x107, ex107⟩ : ∃ y : Int32, y = (v13 + (1 : Int32)) := ⟨_, rfl⟩
          have hw := hw x107 ex107
          refine lv_iinc (v := x107) (lv' := [(13, .int x107), (11, .long x79), (7, .long x89), (9, .long v7), (5, .long v11), (18, .long x89), (16, .long x79), (14, .long r36), (0, .ref h0)]) hx hb dX1_becomeSimplestBetween_107 hl (k := 8) rfl (by rw [ex107]; rfl) (by decide) rfl (fun ls hl => ?_)
          refine lv_goto (tgt := 25) hx hb dX1_becomeSimplestBetween_110 (by decide) ?_
          exact ih25 v11 x89 v7 x79 x107 f_size_68 f_terms_68 _ _ ls hw hP hD hS (lv_sub hl [8, 4, 2, 3, 1, 0] rfl)
        · have hw := hw.2 (fun h => k ((lg_cmp_ge _ _).mpr h))
          refine lv_aload_n hx hb dX1_becomeSimplestBetween_54 rfl (lv_at hl 1 rfl) ?_
          refine lv_lload hx hb dX1_becomeSimplestBetween_55 (lv_at hl 0 rfl) ?_
          refine lv_l2i hx hb dX1_becomeSimplestBetween_57 rfl ?_
          refine lv_iconst (v := (1 : Int32)) hx hb dX1_becomeSimplestBetween_58 (by decide) ?_
          refine lv_iadd hx hb dX1_becomeSimplestBetween_59 ?_
          refine kcV (wc := [(h0, o1 h1 f_size f_leftTop f_leftBottom f_rightTop f_rightBottom), (h1, ai cI 64 f_terms)]) (wr := []) hP hD hS hA [0, 1] [] rfl rfl ⟨rfl, rfl, by decide⟩ (fun hPc hDc => rV (As := [.int (r36.toInt32 + (1 : Int32))]) (rest := []) C0 hK hN (c1_append l D cI cJ cN cR h0 h1 H.size f_size f_leftTop f_leftBottom f_rightTop f_rightBottom f_terms (r36.toInt32 + (1 : Int32)) _ hw) 1 gX1_becomeSimplestBetween_X1_append rfl ⟨rfl, rfl⟩ nm1_append ⟨Nat.le_of_ble_eq_true rfl, Nat.le_of_ble_eq_true rfl⟩ (q0 := 0) rfl rfl rfl rfl hl.1 rfl (Nat.le_of_ble_eq_true rfl) dX1_becomeSimplestBetween_60 ⟨Nat.le_of_ble_eq_true rfl, Nat.le_of_ble_eq_true rfl⟩ hPc hDc) (fun u60 H locs hw hP hD hS => ?_)
          obtain ⟨f_size_60, f_terms_60⟩ := u60
          dsimp only at hw
          have hP : va_P D vwCl [(h0, o1 h1 f_size_60 f_leftTop f_leftBottom f_rightTop f_rightBottom), (h1, ai cI 64 f_terms_60)] H := hP
          have hD : va_D A [(h0, o1 h1 f_size_60 f_leftTop f_leftBottom f_rightTop f_rightBottom), (h1, ai cI 64 f_terms_60)] := hD
          exact RET _ _ (f_size_60, f_terms_60) _ _ hw hP hD hS dX1_becomeSimplestBetween_63
  exact LOOP_25 n25 x2 x6 x10 x15 (0 : Int32) (0 : Int32) f_terms _ _ ls hw hP hD hS (lv_sub hl [5, 4, 3, 2, 1, 0] rfl)
end
section
abbrev rm7_isRegister : Room := { frames := 0, cells := 0, slots := 0, locals := 0 }
theorem nm7_isRegister : kNm yX7_isRegister 1 := by decide +kernel
set_option maxHeartbeats 4000000 in
set_option maxRecDepth 100000 in
theorem c7_isRegister (l : Launch) (D : va_G) (cI cJ cN cR : ClassId)   (v0 : Int32) (post : Int32 → Prop) (hw : w7_isRegister v0 post) : Met l yX7_isRegister wsX7_isRegister rm7_isRegister (kR D (kT cI cJ cN cR) [.int v0] []) (vp_Si (fun (r : Int32) => narrow .boolean (.int r) = .int r ∧ post r)) 0 0 (fun _ => False) := by
  refine kMetRZ (cc := cX7_isRegister) (maxL := 1) (by decide +kernel) rfl (Nat.le_of_ble_eq_true rfl) ?_
  intro p e s m args below meth c H ls Q C0 hK hN hP hl RET
  obtain ⟨hx, hb, hml, hown, hts⟩ := id C0
  have hl : lv_has ls 1 [(0, .int v0)] := hl
  unfold w7_isRegister at hw
  refine lv_iload_n hx hb dX7_isRegister_0 rfl (lv_at hl 0 rfl) ?_
  refine lv_if_lt (tgt := 14) hx hb dX7_isRegister_1 (by decide) (fun k => ?_) (fun k => ?_)
  · have hw := hw.1 k
    refine lv_iconst (v := (0 : Int32)) hx hb dX7_isRegister_14 (by decide) ?_
    exact RET _ _ _ rfl hw dX7_isRegister_15
  · have hw := hw.2 k
    refine lv_iload_n hx hb dX7_isRegister_4 rfl (lv_at hl 0 rfl) ?_
    refine lv_bipush (v := (8 : Int32)) hx hb dX7_isRegister_5 (by decide) ?_
    refine lv_icmp_ge (tgt := 14) hx hb dX7_isRegister_7 (by decide) (fun k => ?_) (fun k => ?_)
    · have hw := hw.1 k
      refine lv_iconst (v := (0 : Int32)) hx hb dX7_isRegister_14 (by decide) ?_
      exact RET _ _ _ rfl hw dX7_isRegister_15
    · have hw := hw.2 k
      refine lv_iconst (v := (1 : Int32)) hx hb dX7_isRegister_10 (by decide) ?_
      refine lv_goto (tgt := 15) hx hb dX7_isRegister_11 (by decide) ?_
      exact RET _ _ _ rfl hw dX7_isRegister_15
abbrev rm7_isIn : Room := { frames := 0, cells := 0, slots := 0, locals := 0 }
theorem nm7_isIn : kNm yX7_isIn 3 := by decide +kernel
set_option maxHeartbeats 4000000 in
set_option maxRecDepth 100000 in
theorem c7_isIn (l : Launch) (D : va_G) (cI cJ cN cR : ClassId)   (v0 : Int32) (v1 : Int32) (v2 : Int32) (post : Int32 → Prop) (hw : w7_isIn v0 v1 v2 post) : Met l yX7_isIn wsX7_isIn rm7_isIn (kR D (kT cI cJ cN cR) [.int v0, .int v1, .int v2] []) (vp_Si (fun (r : Int32) => narrow .boolean (.int r) = .int r ∧ post r)) 0 0 (fun _ => False) := by
  refine kMetRZ (cc := cX7_isIn) (maxL := 3) (by decide +kernel) rfl (Nat.le_of_ble_eq_true rfl) ?_
  intro p e s m args below meth c H ls Q C0 hK hN hP hl RET
  obtain ⟨hx, hb, hml, hown, hts⟩ := id C0
  have hl : lv_has ls 3 [(0, .int v0), (1, .int v1), (2, .int v2)] := hl
  unfold w7_isIn at hw
  refine lv_iload_n hx hb dX7_isIn_0 rfl (lv_at hl 0 rfl) ?_
  refine lv_iload_n hx hb dX7_isIn_1 rfl (lv_at hl 1 rfl) ?_
  refine lv_icmp_lt (tgt := 14) hx hb dX7_isIn_2 (by decide) (fun k => ?_) (fun k => ?_)
  · have hw := hw.1 k
    refine lv_iconst (v := (0 : Int32)) hx hb dX7_isIn_14 (by decide) ?_
    exact RET _ _ _ rfl hw dX7_isIn_15
  · have hw := hw.2 k
    refine lv_iload_n hx hb dX7_isIn_5 rfl (lv_at hl 0 rfl) ?_
    refine lv_iload_n hx hb dX7_isIn_6 rfl (lv_at hl 2 rfl) ?_
    refine lv_icmp_gt (tgt := 14) hx hb dX7_isIn_7 (by decide) (fun k => ?_) (fun k => ?_)
    · have hw := hw.1 k
      refine lv_iconst (v := (0 : Int32)) hx hb dX7_isIn_14 (by decide) ?_
      exact RET _ _ _ rfl hw dX7_isIn_15
    · have hw := hw.2 k
      refine lv_iconst (v := (1 : Int32)) hx hb dX7_isIn_10 (by decide) ?_
      refine lv_goto (tgt := 15) hx hb dX7_isIn_11 (by decide) ?_
      exact RET _ _ _ rfl hw dX7_isIn_15
abbrev rm7_gcd : Room := { frames := 0, cells := 0, slots := 0, locals := 0 }
theorem nm7_gcd : kNm yX7_gcd 2 := by decide +kernel
set_option maxHeartbeats 4000000 in
set_option maxRecDepth 100000 in
theorem c7_gcd (l : Launch) (D : va_G) (cI cJ cN cR : ClassId)   (v0 : Int64) (v2 : Int64) (post : Int64 → Prop) (hw : w7_gcd v0 v2 post) : Met l yX7_gcd wsX7_gcd rm7_gcd (kR D (kT cI cJ cN cR) [.long v0, .long v2] []) (vp_Sl post) 0 0 (fun _ => False) := by
  refine kMetRL (cc := cX7_gcd) (maxL := 11) (by decide +kernel) rfl (Nat.le_of_ble_eq_true rfl) ?_
  intro p e s m args below meth c H ls Q C0 hK hN hP hl RET
  obtain ⟨hx, hb, hml, hown, hts⟩ := id C0
  have hl : lv_has ls 11 [(0, .long v0), (2, .long v2)] := hl
  unfold w7_gcd at hw
  refine lv_lload_n hx hb dX7_gcd_0 rfl (lv_at hl 0 rfl) ?_
  refine lv_lstore (lv' := [(4, .long v0), (0, .long v0), (2, .long v2)]) hx hb dX7_gcd_1 hl (by decide) rfl (fun ls hl => ?_)
  refine lv_lload_n hx hb dX7_gcd_3 rfl (lv_at hl 2 rfl) ?_
  refine lv_lstore (lv' := [(6, .long v2), (4, .long v0), (0, .long v0), (2, .long v2)]) hx hb dX7_gcd_4 hl (by decide) rfl (fun ls hl => ?_)
  refine lv_iconst (v := (0 : Int32)) hx hb dX7_gcd_6 (by decide) ?_
  refine lv_istore (lv' := [(8, .int (0 : Int32)), (6, .long v2), (4, .long v0), (0, .long v0), (2, .long v2)]) hx hb dX7_gcd_7 hl (by decide) rfl (fun ls hl => ?_)
  obtain ⟨n9, hw⟩ := hw
  have LOOP_9 : ∀ (n9 : Nat) (v4 : Int64) (v6 : Int64) (v8 : Int32) (ls : Array Slot), w7_gcd_L9 post n9 v4 v6 v8 → lv_has ls 11 [(4, .long v4), (6, .long v6), (8, .int v8)] → W p l e rm7_gcd s m args below meth c H [] 0 0 Q (F0 m 9 ls []) := by
    clear hw hl
    intro n9
    induction n9 with
    | zero =>
      intro v4 v6 v8 ls hw hl
      rw [w7_gcd_L9] at hw
      exact hw.elim
    | succ n9 ih9 =>
      intro v4 v6 v8 ls hw hl
      rw [w7_gcd_L9] at hw
      refine lv_iload hx hb dX7_gcd_9 (lv_at hl 2 rfl) ?_
      refine lv_sipush (v := (1000 : Int32)) hx hb dX7_gcd_11 (by decide) ?_
      refine lv_icmp_ge (tgt := 45) hx hb dX7_gcd_14 (by decide) (fun k => ?_) (fun k => ?_)
      · have hw := hw.1 k
        refine lv_lload hx hb dX7_gcd_45 (lv_at hl 0 rfl) ?_
        exact RET _ _ _ hw dX7_gcd_47
      · have hw := hw.2 k
        refine lv_lload hx hb dX7_gcd_17 (lv_at hl 1 rfl) ?_
        refine lv_lconst (v := (0 : Int64)) hx hb dX7_gcd_19 (by decide) ?_
        refine W.lcmp hx hb dX7_gcd_20 ?_
        refine lv_if_le (tgt := 45) hx hb dX7_gcd_21 (by decide) (fun k => ?_) (fun k => ?_)
        · have hw := hw.1 ((lg_cmp_le _ _).mp k)
          refine lv_lload hx hb dX7_gcd_45 (lv_at hl 0 rfl) ?_
          exact RET _ _ _ hw dX7_gcd_47
        · have hw := hw.2 (fun h => k ((lg_cmp_le _ _).mpr h))
          refine lv_lload hx hb dX7_gcd_24 (lv_at hl 0 rfl) ?_
          refine lv_lload hx hb dX7_gcd_26 (lv_at hl 1 rfl) ?_
          obtain ⟨hne, hw⟩ := hw
          refine lv_lrem hx hb dX7_gcd_28 hne ?_
          refine lv_topl (fun x29 ex29 => ?_)
          have hw := hw x29 ex29
          refine lv_lstore (lv' := [(9, .long x29), (4, .long v4), (6, .long v6), (8, .int v8)]) hx hb dX7_gcd_29 hl (by decide) rfl (fun ls hl => ?_)
          refine lv_lload hx hb dX7_gcd_31 (lv_at hl 2 rfl) ?_
          refine lv_lstore (lv' := [(4, .long v6), (9, .long x29), (6, .long v6), (8, .int v8)]) hx hb dX7_gcd_33 hl (by decide) rfl (fun ls hl => ?_)
          refine lv_lload hx hb dX7_gcd_35 (lv_at hl 1 rfl) ?_
          refine lv_lstore (lv' := [(6, .long x29), (4, .long v6), (9, .long x29), (8, .int v8)]) hx hb dX7_gcd_37 hl (by decide) rfl (fun ls hl => ?_)
          obtain ⟨x39, ex39⟩ : ∃ y : Int32, y = (v8 + (1 : Int32)) := ⟨_, rfl⟩
          have hw := hw x39 ex39
          refine lv_iinc (v := x39) (lv' := [(8, .int x39), (6, .long x29), (4, .long v6), (9, .long x29)]) hx hb dX7_gcd_39 hl (k := 3) rfl (by rw [ex39]; rfl) (by decide) rfl (fun ls hl => ?_)
          refine lv_goto (tgt := 9) hx hb dX7_gcd_42 (by decide) ?_
          exact ih9 v6 x29 x39 ls hw (lv_sub hl [2, 1, 0] rfl)
  exact LOOP_9 n9 v0 v2 (0 : Int32) ls hw (lv_sub hl [2, 1, 0] rfl)
abbrev rm7_store : Room := { frames := 1, cells := 0, slots := 0, locals := 30 }
theorem nm7_store : kNm yX7_store 3 := by decide +kernel
set_option maxHeartbeats 4000000 in
set_option maxRecDepth 100000 in
theorem c7_store (l : Launch) (D : va_G) (cI cJ cN cR : ClassId) (rf : Nat → Nat) (sz : Nat) (f_hasSnapshot : Int32) (f_termListSize : Int32) (f_textSize : Int32) (f_tops : (Nat → Int32)) (f_bottoms : (Nat → Int32)) (v1 : Int32) (v2 : Int64) (v4 : Int64) (post : Int32 → (Nat → Int32) → (Nat → Int32) → Prop) (hw : w7_store f_tops f_bottoms v1 v2 v4 post) : Met l yX7_store wsX7_store rm7_store (kP D (kT cI cJ cN cR) sz [.ref (rf 0), .int v1, .long v2, .long v4] [((rf 0), o7 rf f_hasSnapshot f_termListSize f_textSize), ((rf 1), ai cI 8 f_tops), ((rf 2), ai cI 8 f_bottoms)]) (kQi D [((rf 0), o7 rf f_hasSnapshot f_termListSize f_textSize), ((rf 1), ai cI 8 f_tops), ((rf 2), ai cI 8 f_bottoms)] sz (fun (r : Int32) (u : (Nat → Int32) × (Nat → Int32)) => post r u.1 u.2) (fun (u : (Nat → Int32) × (Nat → Int32)) => [((rf 0), o7 rf f_hasSnapshot f_termListSize f_textSize), ((rf 1), ai cI 8 u.1), ((rf 2), ai cI 8 u.2)])) 0 0 (va_A [((rf 0), o7 rf f_hasSnapshot f_termListSize f_textSize), ((rf 1), ai cI 8 f_tops), ((rf 2), ai cI 8 f_bottoms)] sz) := by
  refine kMetI (cc := cX7_store) (maxL := 12) (by decide +kernel) rfl (Nat.le_of_ble_eq_true rfl) ?_
  intro p e s m args below meth c H0 ls A Q C0 hK hN hP hD hS hA hl RET
  obtain ⟨hx, hb, hml, hown, hts⟩ := id C0
  have hl : lv_has ls 12 [(0, .ref (rf 0)), (1, .int v1), (2, .long v2), (4, .long v4)] := hl
  have g9 := hts (.fieldLink RX7 9 "SternBrocotExplorer" "tops" "[I") (by decide +kernel)
  have g13 := hts (.fieldLink RX7 13 "SternBrocotExplorer" "bottoms" "[I") (by decide +kernel)
  have hi9 : ∀ w ∈ wsX70, w ∈ wsX7_store := fun w h => List.mem_cons_of_mem _ (List.mem_append_right _ h)
  unfold w7_store at hw
  have hP : va_P D vwCl [((rf 0), o7 rf f_hasSnapshot f_termListSize f_textSize), ((rf 1), ai cI 8 f_tops), ((rf 2), ai cI 8 f_bottoms)] H0 := hP
  refine lv_lload_n hx hb dX7_store_0 rfl (lv_at hl 2 rfl) ?_
  refine lv_lload hx hb dX7_store_1 (lv_at hl 3 rfl) ?_
  refine kcRL (wc := []) hP [] rfl (fun hPc => oS (As := [.long v2, .long v4]) (rest := []) C0 hK hN (c7_gcd l D cI cJ cN cR   v2 v4 _ hw) 2 gX7_store_X7_gcd rfl ⟨rfl, rfl⟩ nm7_gcd ⟨Nat.le_of_ble_eq_true rfl, Nat.le_of_ble_eq_true rfl⟩ rfl hl.1 rfl (Nat.le_of_ble_eq_true rfl) dX7_store_3 ⟨Nat.le_of_ble_eq_true rfl, Nat.le_of_ble_eq_true rfl⟩ hPc) (fun r3 hw => ?_)
  refine lv_lstore (lv' := [(6, .long r3), (0, .ref (rf 0)), (1, .int v1), (2, .long v2), (4, .long v4)]) hx hb dX7_store_6 hl (by decide) rfl (fun ls hl => ?_)
  refine lv_lload_n hx hb dX7_store_8 rfl (lv_at hl 3 rfl) ?_
  refine lv_lload hx hb dX7_store_9 (lv_at hl 0 rfl) ?_
  refine kcRL (wc := []) hP [] rfl (fun hPc => oS (As := [.long v2, .long r3]) (rest := []) C0 hK hN (c7_quotient l D cI cJ cN cR   v2 r3 _ hw) 2 gX7_store_X7_quotient rfl ⟨rfl, rfl⟩ nm7_quotient ⟨Nat.le_of_ble_eq_true rfl, Nat.le_of_ble_eq_true rfl⟩ rfl hl.1 rfl (Nat.le_of_ble_eq_true rfl) dX7_store_11 ⟨Nat.le_of_ble_eq_true rfl, Nat.le_of_ble_eq_true rfl⟩ hPc) (fun r11 hw => ?_)
  refine lv_lstore (lv' := [(8, .long r11), (6, .long r3), (0, .ref (rf 0)), (1, .int v1), (2, .long v2), (4, .long v4)]) hx hb dX7_store_14 hl (by decide) rfl (fun ls hl => ?_)
  refine lv_lload hx hb dX7_store_16 (lv_at hl 5 rfl) ?_
  refine lv_lload hx hb dX7_store_18 (lv_at hl 1 rfl) ?_
  refine kcRL (wc := []) hP [] rfl (fun hPc => oS (As := [.long v4, .long r3]) (rest := []) C0 hK hN (c7_quotient l D cI cJ cN cR   v4 r3 _ hw) 2 gX7_store_X7_quotient rfl ⟨rfl, rfl⟩ nm7_quotient ⟨Nat.le_of_ble_eq_true rfl, Nat.le_of_ble_eq_true rfl⟩ rfl hl.1 rfl (Nat.le_of_ble_eq_true rfl) dX7_store_20 ⟨Nat.le_of_ble_eq_true rfl, Nat.le_of_ble_eq_true rfl⟩ hPc) (fun r20 hw => ?_)
  refine lv_lstore (lv' := [(10, .long r20), (8, .long r11), (6, .long r3), (0, .ref (rf 0)), (1, .int v1), (2, .long v2), (4, .long v4)]) hx hb dX7_store_23 hl (by decide) rfl (fun ls hl => ?_)
  refine lv_lload hx hb dX7_store_25 (lv_at hl 1 rfl) ?_
  refine lv_ldc2 (v := (1000000 : Int64)) hx hb hown (hts (.constantLong RX7 138 (1000000)) (by decide +kernel)) dX7_store_27 ?_
  refine W.lcmp hx hb dX7_store_30 ?_
  refine lv_if_gt (tgt := 43) hx hb dX7_store_31 (by decide) (fun k => ?_) (fun k => ?_)
  · have hw := hw.1 ((lg_cmp_gt _ _).mp k)
    refine lv_bipush (v := (-3 : Int32)) hx hb dX7_store_43 (by decide) ?_
    exact RET _ _ _ (f_tops, f_bottoms) _ _ hw hP hD hS dX7_store_45
  · have hw := hw.2 (fun h => k ((lg_cmp_gt _ _).mpr h))
    refine lv_lload hx hb dX7_store_34 (lv_at hl 0 rfl) ?_
    refine lv_ldc2 (v := (1000000 : Int64)) hx hb hown (hts (.constantLong RX7 138 (1000000)) (by decide +kernel)) dX7_store_36 ?_
    refine W.lcmp hx hb dX7_store_39 ?_
    refine lv_if_le (tgt := 46) hx hb dX7_store_40 (by decide) (fun k => ?_) (fun k => ?_)
    · have hw := hw.1 ((lg_cmp_le _ _).mp k)
      refine lv_aload_n hx hb dX7_store_46 rfl (lv_at hl 3 rfl) ?_
      refine va_get (D := D) (ci := 2) (v := .ref (rf 1)) (C := RX7) (T := TX7) (N := 16) hx hb hts hi9 hown hK hP 0 rfl rfl 0 (by decide) g9 (fun _ h9 => h9) rfl dX7_store_47 ?_
      refine lv_iload_n hx hb dX7_store_50 rfl (lv_at hl 4 rfl) ?_
      refine lv_lload hx hb dX7_store_51 (lv_at hl 1 rfl) ?_
      refine lv_l2i hx hb dX7_store_53 rfl ?_
      obtain ⟨hin, hw⟩ := hw
      refine va_iast hx hb hK hP hD hS 1 0 rfl rfl hin dX7_store_54 (fun H locs hP hD hS => ?_)
      have hP : va_P D vwCl [((rf 0), o7 rf f_hasSnapshot f_termListSize f_textSize), ((rf 1), ai cI 8 (upd f_tops v1.toNatClampNeg r11.toInt32)), ((rf 2), ai cI 8 f_bottoms)] H := hP
      have hD : va_D A [((rf 0), o7 rf f_hasSnapshot f_termListSize f_textSize), ((rf 1), ai cI 8 (upd f_tops v1.toNatClampNeg r11.toInt32)), ((rf 2), ai cI 8 f_bottoms)] := hD
      refine lv_aload_n hx hb dX7_store_55 rfl (lv_at hl 3 rfl) ?_
      refine va_get (D := D) (ci := 2) (v := .ref (rf 2)) (C := RX7) (T := TX7) (N := 16) hx hb hts hi9 hown hK hP 0 rfl rfl 1 (by decide) g13 (fun _ h9 => h9) rfl dX7_store_56 ?_
      refine lv_iload_n hx hb dX7_store_59 rfl (lv_at hl 4 rfl) ?_
      refine lv_lload hx hb dX7_store_60 (lv_at hl 0 rfl) ?_
      refine lv_l2i hx hb dX7_store_62 rfl ?_
      obtain ⟨hin, hw⟩ := hw
      refine va_iast hx hb hK hP hD hS 2 0 rfl rfl hin dX7_store_63 (fun H locs hP hD hS => ?_)
      have hP : va_P D vwCl [((rf 0), o7 rf f_hasSnapshot f_termListSize f_textSize), ((rf 1), ai cI 8 (upd f_tops v1.toNatClampNeg r11.toInt32)), ((rf 2), ai cI 8 (upd f_bottoms v1.toNatClampNeg r20.toInt32))] H := hP
      have hD : va_D A [((rf 0), o7 rf f_hasSnapshot f_termListSize f_textSize), ((rf 1), ai cI 8 (upd f_tops v1.toNatClampNeg r11.toInt32)), ((rf 2), ai cI 8 (upd f_bottoms v1.toNatClampNeg r20.toInt32))] := hD
      refine lv_iconst (v := (1 : Int32)) hx hb dX7_store_64 (by decide) ?_
      exact RET _ _ _ ((upd f_tops v1.toNatClampNeg r11.toInt32), (upd f_bottoms v1.toNatClampNeg r20.toInt32)) _ _ hw hP hD hS dX7_store_65
    · have hw := hw.2 (fun h => k ((lg_cmp_le _ _).mpr h))
      refine lv_bipush (v := (-3 : Int32)) hx hb dX7_store_43 (by decide) ?_
      exact RET _ _ _ (f_tops, f_bottoms) _ _ hw hP hD hS dX7_store_45
abbrev rm7_set : Room := { frames := 2, cells := 0, slots := 0, locals := 61 }
theorem nm7_set : kNm yX7_set 3 := by decide +kernel
set_option maxHeartbeats 4000000 in
set_option maxRecDepth 100000 in
theorem c7_set (l : Launch) (D : va_G) (cI cJ cN cR : ClassId) (rf : Nat → Nat) (sz : Nat) (f_hasSnapshot : Int32) (f_termListSize : Int32) (f_textSize : Int32) (f_tops : (Nat → Int32)) (f_bottoms : (Nat → Int32)) (v1 : Int32) (v2 : Int32) (v3 : Int32) (post : Int32 → (Nat → Int32) → (Nat → Int32) → Prop) (hw : w7_set f_tops f_bottoms v1 v2 v3 post) : Met l yX7_set wsX7_set rm7_set (kP D (kT cI cJ cN cR) sz [.ref (rf 0), .int v1, .int v2, .int v3] [((rf 0), o7 rf f_hasSnapshot f_termListSize f_textSize), ((rf 1), ai cI 8 f_tops), ((rf 2), ai cI 8 f_bottoms)]) (kQi D [((rf 0), o7 rf f_hasSnapshot f_termListSize f_textSize), ((rf 1), ai cI 8 f_tops), ((rf 2), ai cI 8 f_bottoms)] sz (fun (r : Int32) (u : (Nat → Int32) × (Nat → Int32)) => post r u.1 u.2) (fun (u : (Nat → Int32) × (Nat → Int32)) => [((rf 0), o7 rf f_hasSnapshot f_termListSize f_textSize), ((rf 1), ai cI 8 u.1), ((rf 2), ai cI 8 u.2)])) 0 0 (va_A [((rf 0), o7 rf f_hasSnapshot f_termListSize f_textSize), ((rf 1), ai cI 8 f_tops), ((rf 2), ai cI 8 f_bottoms)] sz) := by
  refine kMetI (cc := cX7_set) (maxL := 4) (by decide +kernel) rfl (Nat.le_of_ble_eq_true rfl) ?_
  intro p e s m args below meth c H0 ls A Q C0 hK hN hP hD hS hA hl RET
  obtain ⟨hx, hb, hml, hown, hts⟩ := id C0
  have hl : lv_has ls 4 [(0, .ref (rf 0)), (1, .int v1), (2, .int v2), (3, .int v3)] := hl
  unfold w7_set at hw
  have hP : va_P D vwCl [((rf 0), o7 rf f_hasSnapshot f_termListSize f_textSize), ((rf 1), ai cI 8 f_tops), ((rf 2), ai cI 8 f_bottoms)] H0 := hP
  refine lv_iload_n hx hb dX7_set_0 rfl (lv_at hl 1 rfl) ?_
  refine kcRI (wc := []) hP [] rfl (fun hPc => oS (As := [.int v1]) (rest := []) C0 hK hN (c7_isRegister l D cI cJ cN cR   v1 _ hw) 1 gX7_set_X7_isRegister rfl ⟨rfl, rfl⟩ nm7_isRegister ⟨Nat.le_of_ble_eq_true rfl, Nat.le_of_ble_eq_true rfl⟩ rfl hl.1 rfl (Nat.le_of_ble_eq_true rfl) dX7_set_1 ⟨Nat.le_of_ble_eq_true rfl, Nat.le_of_ble_eq_true rfl⟩ hPc) (fun r1 hw => ?_)
  obtain ⟨nb1, hw⟩ := hw
  refine lv_if_eq (tgt := 27) hx hb dX7_set_4 (by decide) (fun k => ?_) (fun k => ?_)
  · have hw := hw.1 k
    refine lv_iconst (v := (-1 : Int32)) hx hb dX7_set_27 (by decide) ?_
    exact RET _ _ _ (f_tops, f_bottoms) _ _ hw hP hD hS dX7_set_28
  · have hw := hw.2 k
    refine lv_iload_n hx hb dX7_set_7 rfl (lv_at hl 2 rfl) ?_
    refine lv_iconst (v := (1 : Int32)) hx hb dX7_set_8 (by decide) ?_
    refine lv_ldc (v := (1000000 : Int32)) hx hb hown (hts (.constant RX7 66 (1000000)) (by decide +kernel)) dX7_set_9 ?_
    refine kcRI (wc := []) hP [] rfl (fun hPc => oS (As := [.int v2, .int (1 : Int32), .int (1000000 : Int32)]) (rest := []) C0 hK hN (c7_isIn l D cI cJ cN cR   v2 (1 : Int32) (1000000 : Int32) _ hw) 3 gX7_set_X7_isIn rfl ⟨rfl, rfl⟩ nm7_isIn ⟨Nat.le_of_ble_eq_true rfl, Nat.le_of_ble_eq_true rfl⟩ rfl hl.1 rfl (Nat.le_of_ble_eq_true rfl) dX7_set_11 ⟨Nat.le_of_ble_eq_true rfl, Nat.le_of_ble_eq_true rfl⟩ hPc) (fun r11 hw => ?_)
    obtain ⟨nb11, hw⟩ := hw
    refine lv_if_eq (tgt := 27) hx hb dX7_set_14 (by decide) (fun k => ?_) (fun k => ?_)
    · have hw := hw.1 k
      refine lv_iconst (v := (-1 : Int32)) hx hb dX7_set_27 (by decide) ?_
      exact RET _ _ _ (f_tops, f_bottoms) _ _ hw hP hD hS dX7_set_28
    · have hw := hw.2 k
      refine lv_iload_n hx hb dX7_set_17 rfl (lv_at hl 3 rfl) ?_
      refine lv_iconst (v := (1 : Int32)) hx hb dX7_set_18 (by decide) ?_
      refine lv_ldc (v := (1000000 : Int32)) hx hb hown (hts (.constant RX7 66 (1000000)) (by decide +kernel)) dX7_set_19 ?_
      refine kcRI (wc := []) hP [] rfl (fun hPc => oS (As := [.int v3, .int (1 : Int32), .int (1000000 : Int32)]) (rest := []) C0 hK hN (c7_isIn l D cI cJ cN cR   v3 (1 : Int32) (1000000 : Int32) _ hw) 3 gX7_set_X7_isIn rfl ⟨rfl, rfl⟩ nm7_isIn ⟨Nat.le_of_ble_eq_true rfl, Nat.le_of_ble_eq_true rfl⟩ rfl hl.1 rfl (Nat.le_of_ble_eq_true rfl) dX7_set_21 ⟨Nat.le_of_ble_eq_true rfl, Nat.le_of_ble_eq_true rfl⟩ hPc) (fun r21 hw => ?_)
      obtain ⟨nb21, hw⟩ := hw
      refine lv_if_ne (tgt := 29) hx hb dX7_set_24 (by decide) (fun k => ?_) (fun k => ?_)
      · have hw := hw.1 k
        refine lv_aload_n hx hb dX7_set_29 rfl (lv_at hl 0 rfl) ?_
        refine lv_iload_n hx hb dX7_set_30 rfl (lv_at hl 1 rfl) ?_
        refine lv_iload_n hx hb dX7_set_31 rfl (lv_at hl 2 rfl) ?_
        refine lv_i2l hx hb dX7_set_32 rfl ?_
        refine lv_iload_n hx hb dX7_set_33 rfl (lv_at hl 3 rfl) ?_
        refine lv_i2l hx hb dX7_set_34 rfl ?_
        refine kcI (wc := [((rf 0), o7 rf f_hasSnapshot f_termListSize f_textSize), ((rf 1), ai cI 8 f_tops), ((rf 2), ai cI 8 f_bottoms)]) (wr := []) hP hD hS hA [0, 1, 2] [] rfl rfl ⟨rfl, rfl, by decide⟩ (fun hPc hDc => rV (As := [.int v1, .long v2.toInt64, .long v3.toInt64]) (rest := []) C0 hK hN (c7_store l D cI cJ cN cR rf H0.size f_hasSnapshot f_termListSize f_textSize f_tops f_bottoms v1 v2.toInt64 v3.toInt64 _ hw) 3 gX7_set_X7_store rfl ⟨rfl, rfl⟩ nm7_store ⟨Nat.le_of_ble_eq_true rfl, Nat.le_of_ble_eq_true rfl⟩ (q0 := 0) rfl rfl rfl rfl hl.1 rfl (Nat.le_of_ble_eq_true rfl) dX7_set_35 ⟨Nat.le_of_ble_eq_true rfl, Nat.le_of_ble_eq_true rfl⟩ hPc hDc) (fun r35 u35 H locs hw hP hD hS => ?_)
        obtain ⟨f_tops_35, f_bottoms_35⟩ := u35
        dsimp only at hw
        have hP : va_P D vwCl [((rf 0), o7 rf f_hasSnapshot f_termListSize f_textSize), ((rf 1), ai cI 8 f_tops_35), ((rf 2), ai cI 8 f_bottoms_35)] H := hP
        have hD : va_D A [((rf 0), o7 rf f_hasSnapshot f_termListSize f_textSize), ((rf 1), ai cI 8 f_tops_35), ((rf 2), ai cI 8 f_bottoms_35)] := hD
        exact RET _ _ _ (f_tops_35, f_bottoms_35) _ _ hw hP hD hS dX7_set_38
      · have hw := hw.2 k
        refine lv_iconst (v := (-1 : Int32)) hx hb dX7_set_27 (by decide) ?_
        exact RET _ _ _ (f_tops, f_bottoms) _ _ hw hP hD hS dX7_set_28
abbrev rm7_crossDifference : Room := { frames := 0, cells := 0, slots := 0, locals := 0 }
theorem nm7_crossDifference : kNm yX7_crossDifference 2 := by decide +kernel
set_option maxHeartbeats 4000000 in
set_option maxRecDepth 100000 in
theorem c7_crossDifference (l : Launch) (D : va_G) (cI cJ cN cR : ClassId) (rf : Nat → Nat) (f_hasSnapshot : Int32) (f_termListSize : Int32) (f_textSize : Int32) (f_tops : (Nat → Int32)) (f_bottoms : (Nat → Int32)) (v1 : Int32) (v2 : Int32) (post : Int64 → Prop) (hw : w7_crossDifference f_tops f_bottoms v1 v2 post) : Met l yX7_crossDifference wsX7_crossDifference rm7_crossDifference (kR D (kT cI cJ cN cR) [.ref (rf 0), .int v1, .int v2] [((rf 0), o7 rf f_hasSnapshot f_termListSize f_textSize), ((rf 1), ai cI 8 f_tops), ((rf 2), ai cI 8 f_bottoms)]) (vp_Sl post) 0 0 (fun _ => False) := by
  refine kMetRL (cc := cX7_crossDifference) (maxL := 3) (by decide +kernel) rfl (Nat.le_of_ble_eq_true rfl) ?_
  intro p e s m args below meth c H ls Q C0 hK hN hP hl RET
  obtain ⟨hx, hb, hml, hown, hts⟩ := id C0
  have hl : lv_has ls 3 [(0, .ref (rf 0)), (1, .int v1), (2, .int v2)] := hl
  have g9 := hts (.fieldLink RX7 9 "SternBrocotExplorer" "tops" "[I") (by decide +kernel)
  have g13 := hts (.fieldLink RX7 13 "SternBrocotExplorer" "bottoms" "[I") (by decide +kernel)
  have hi9 : ∀ w ∈ wsX70, w ∈ wsX7_crossDifference := fun w h => List.mem_cons_of_mem _ (List.mem_append_right _ h)
  unfold w7_crossDifference at hw
  refine lv_aload_n hx hb dX7_crossDifference_0 rfl (lv_at hl 0 rfl) ?_
  refine va_get (D := D) (ci := 2) (v := .ref (rf 1)) (C := RX7) (T := TX7) (N := 16) hx hb hts hi9 hown hK hP 0 rfl rfl 0 (by decide) g9 (fun _ h9 => h9) rfl dX7_crossDifference_1 ?_
  refine lv_iload_n hx hb dX7_crossDifference_4 rfl (lv_at hl 1 rfl) ?_
  obtain ⟨hin, hw⟩ := hw
  refine va_iald hx hb hK hP 1 0 rfl rfl hin dX7_crossDifference_5 ?_
  refine lv_i2l hx hb dX7_crossDifference_6 rfl ?_
  refine lv_aload_n hx hb dX7_crossDifference_7 rfl (lv_at hl 0 rfl) ?_
  refine va_get (D := D) (ci := 2) (v := .ref (rf 2)) (C := RX7) (T := TX7) (N := 16) hx hb hts hi9 hown hK hP 0 rfl rfl 1 (by decide) g13 (fun _ h9 => h9) rfl dX7_crossDifference_8 ?_
  refine lv_iload_n hx hb dX7_crossDifference_11 rfl (lv_at hl 2 rfl) ?_
  obtain ⟨hin, hw⟩ := hw
  refine va_iald hx hb hK hP 2 0 rfl rfl hin dX7_crossDifference_12 ?_
  refine lv_i2l hx hb dX7_crossDifference_13 rfl ?_
  refine lv_lmul hx hb dX7_crossDifference_14 ?_
  refine lv_aload_n hx hb dX7_crossDifference_15 rfl (lv_at hl 0 rfl) ?_
  refine va_get (D := D) (ci := 2) (v := .ref (rf 2)) (C := RX7) (T := TX7) (N := 16) hx hb hts hi9 hown hK hP 0 rfl rfl 1 (by decide) g13 (fun _ h9 => h9) rfl dX7_crossDifference_16 ?_
  refine lv_iload_n hx hb dX7_crossDifference_19 rfl (lv_at hl 1 rfl) ?_
  obtain ⟨hin, hw⟩ := hw
  refine va_iald hx hb hK hP 2 0 rfl rfl hin dX7_crossDifference_20 ?_
  refine lv_i2l hx hb dX7_crossDifference_21 rfl ?_
  refine lv_aload_n hx hb dX7_crossDifference_22 rfl (lv_at hl 0 rfl) ?_
  refine va_get (D := D) (ci := 2) (v := .ref (rf 1)) (C := RX7) (T := TX7) (N := 16) hx hb hts hi9 hown hK hP 0 rfl rfl 0 (by decide) g9 (fun _ h9 => h9) rfl dX7_crossDifference_23 ?_
  refine lv_iload_n hx hb dX7_crossDifference_26 rfl (lv_at hl 2 rfl) ?_
  obtain ⟨hin, hw⟩ := hw
  refine va_iald hx hb hK hP 1 0 rfl rfl hin dX7_crossDifference_27 ?_
  refine lv_i2l hx hb dX7_crossDifference_28 rfl ?_
  refine lv_lmul hx hb dX7_crossDifference_29 ?_
  refine lv_lsub hx hb dX7_crossDifference_30 ?_
  exact RET _ _ _ hw dX7_crossDifference_31
abbrev rm7_compare : Room := { frames := 1, cells := 0, slots := 0, locals := 22 }
theorem nm7_compare : kNm yX7_compare 2 := by decide +kernel
set_option maxHeartbeats 4000000 in
set_option maxRecDepth 100000 in
theorem c7_compare (l : Launch) (D : va_G) (cI cJ cN cR : ClassId) (rf : Nat → Nat) (f_hasSnapshot : Int32) (f_termListSize : Int32) (f_textSize : Int32) (f_tops : (Nat → Int32)) (f_bottoms : (Nat → Int32)) (v1 : Int32) (v2 : Int32) (post : Int32 → Prop) (hw : w7_compare f_tops f_bottoms v1 v2 post) : Met l yX7_compare wsX7_compare rm7_compare (kR D (kT cI cJ cN cR) [.ref (rf 0), .int v1, .int v2] [((rf 0), o7 rf f_hasSnapshot f_termListSize f_textSize), ((rf 1), ai cI 8 f_tops), ((rf 2), ai cI 8 f_bottoms)]) (vp_Si post) 0 0 (fun _ => False) := by
  refine kMetRI (cc := cX7_compare) (maxL := 5) (by decide +kernel) rfl (Nat.le_of_ble_eq_true rfl) ?_
  intro p e s m args below meth c H ls Q C0 hK hN hP hl RET
  obtain ⟨hx, hb, hml, hown, hts⟩ := id C0
  have hl : lv_has ls 5 [(0, .ref (rf 0)), (1, .int v1), (2, .int v2)] := hl
  unfold w7_compare at hw
  refine lv_iload_n hx hb dX7_compare_0 rfl (lv_at hl 1 rfl) ?_
  refine kcRI (wc := []) hP [] rfl (fun hPc => oS (As := [.int v1]) (rest := []) C0 hK hN (c7_isRegister l D cI cJ cN cR   v1 _ hw) 1 gX7_compare_X7_isRegister rfl ⟨rfl, rfl⟩ nm7_isRegister ⟨Nat.le_of_ble_eq_true rfl, Nat.le_of_ble_eq_true rfl⟩ rfl hl.1 rfl (Nat.le_of_ble_eq_true rfl) dX7_compare_1 ⟨Nat.le_of_ble_eq_true rfl, Nat.le_of_ble_eq_true rfl⟩ hPc) (fun r1 hw => ?_)
  obtain ⟨nb1, hw⟩ := hw
  refine lv_if_eq (tgt := 14) hx hb dX7_compare_4 (by decide) (fun k => ?_) (fun k => ?_)
  · have hw := hw.1 k
    refine lv_iconst (v := (-1 : Int32)) hx hb dX7_compare_14 (by decide) ?_
    exact RET _ _ _ hw dX7_compare_15
  · have hw := hw.2 k
    refine lv_iload_n hx hb dX7_compare_7 rfl (lv_at hl 2 rfl) ?_
    refine kcRI (wc := []) hP [] rfl (fun hPc => oS (As := [.int v2]) (rest := []) C0 hK hN (c7_isRegister l D cI cJ cN cR   v2 _ hw) 1 gX7_compare_X7_isRegister rfl ⟨rfl, rfl⟩ nm7_isRegister ⟨Nat.le_of_ble_eq_true rfl, Nat.le_of_ble_eq_true rfl⟩ rfl hl.1 rfl (Nat.le_of_ble_eq_true rfl) dX7_compare_8 ⟨Nat.le_of_ble_eq_true rfl, Nat.le_of_ble_eq_true rfl⟩ hPc) (fun r8 hw => ?_)
    obtain ⟨nb8, hw⟩ := hw
    refine lv_if_ne (tgt := 16) hx hb dX7_compare_11 (by decide) (fun k => ?_) (fun k => ?_)
    · have hw := hw.1 k
      refine lv_aload_n hx hb dX7_compare_16 rfl (lv_at hl 0 rfl) ?_
      refine lv_iload_n hx hb dX7_compare_17 rfl (lv_at hl 1 rfl) ?_
      refine lv_iload_n hx hb dX7_compare_18 rfl (lv_at hl 2 rfl) ?_
      refine kcRL (wc := [((rf 0), o7 rf f_hasSnapshot f_termListSize f_textSize), ((rf 1), ai cI 8 f_tops), ((rf 2), ai cI 8 f_bottoms)]) hP [0, 1, 2] rfl (fun hPc => oV (As := [.int v1, .int v2]) (rest := []) C0 hK hN (c7_crossDifference l D cI cJ cN cR rf f_hasSnapshot f_termListSize f_textSize f_tops f_bottoms v1 v2 _ hw) 2 gX7_compare_X7_crossDifference rfl ⟨rfl, rfl⟩ nm7_crossDifference ⟨Nat.le_of_ble_eq_true rfl, Nat.le_of_ble_eq_true rfl⟩ (q0 := 0) rfl rfl rfl rfl hl.1 rfl (Nat.le_of_ble_eq_true rfl) dX7_compare_19 ⟨Nat.le_of_ble_eq_true rfl, Nat.le_of_ble_eq_true rfl⟩ hPc) (fun r19 hw => ?_)
      refine lv_lstore_n (lv' := [(3, .long r19), (0, .ref (rf 0)), (1, .int v1), (2, .int v2)]) hx hb dX7_compare_22 rfl hl (by decide) rfl (fun ls hl => ?_)
      refine lv_lload_n hx hb dX7_compare_23 rfl (lv_at hl 0 rfl) ?_
      refine lv_lconst (v := (0 : Int64)) hx hb dX7_compare_24 (by decide) ?_
      refine W.lcmp hx hb dX7_compare_25 ?_
      refine lv_if_ge (tgt := 31) hx hb dX7_compare_26 (by decide) (fun k => ?_) (fun k => ?_)
      · have hw := hw.1 ((lg_cmp_ge _ _).mp k)
        refine lv_lload_n hx hb dX7_compare_31 rfl (lv_at hl 0 rfl) ?_
        refine lv_lconst (v := (0 : Int64)) hx hb dX7_compare_32 (by decide) ?_
        refine W.lcmp hx hb dX7_compare_33 ?_
        refine lv_if_ne (tgt := 41) hx hb dX7_compare_34 (by decide) (fun k => ?_) (fun k => ?_)
        · have hw := hw.1 (fun h => k ((lg_cmp_eq _ _).mpr h))
          refine lv_iconst (v := (2 : Int32)) hx hb dX7_compare_41 (by decide) ?_
          exact RET _ _ _ hw dX7_compare_42
        · have hw := hw.2 ((lg_cmp_eq _ _).mp k)
          refine lv_iconst (v := (1 : Int32)) hx hb dX7_compare_37 (by decide) ?_
          refine lv_goto (tgt := 42) hx hb dX7_compare_38 (by decide) ?_
          exact RET _ _ _ hw dX7_compare_42
      · have hw := hw.2 (fun h => k ((lg_cmp_ge _ _).mpr h))
        refine lv_iconst (v := (0 : Int32)) hx hb dX7_compare_29 (by decide) ?_
        exact RET _ _ _ hw dX7_compare_30
    · have hw := hw.2 k
      refine lv_iconst (v := (-1 : Int32)) hx hb dX7_compare_14 (by decide) ?_
      exact RET _ _ _ hw dX7_compare_15
abbrev rm7_expand : Room := { frames := 2, cells := 0, slots := 0, locals := 47 }
theorem nm7_expand : kNm yX7_expand 1 := by decide +kernel
set_option maxHeartbeats 4000000 in
set_option maxRecDepth 100000 in
theorem c7_expand (l : Launch) (D : va_G) (cI cJ cN cR : ClassId) (rf : Nat → Nat) (sz : Nat) (f_hasSnapshot : Int32) (f_termListSize : Int32) (f_textSize : Int32) (f_tops : (Nat → Int32)) (f_bottoms : (Nat → Int32)) (f_E_size : Int32) (f_E_leftTop : Int64) (f_E_leftBottom : Int64) (f_E_rightTop : Int64) (f_E_rightBottom : Int64) (f_E_terms : (Nat → Int32)) (v1 : Int32) (post : Int32 → (Nat → Int32) → Prop) (hw : w7_expand f_tops f_bottoms f_E_size f_E_terms v1 post) : Met l yX7_expand wsX7_expand rm7_expand (kP D (kT cI cJ cN cR) sz [.ref (rf 0), .int v1] [((rf 0), o7 rf f_hasSnapshot f_termListSize f_textSize), ((rf 1), ai cI 8 f_tops), ((rf 2), ai cI 8 f_bottoms), ((rf 14), o1 (rf 17) f_E_size f_E_leftTop f_E_leftBottom f_E_rightTop f_E_rightBottom), ((rf 17), ai cI 64 f_E_terms)]) (kQr D [((rf 0), o7 rf f_hasSnapshot f_termListSize f_textSize), ((rf 1), ai cI 8 f_tops), ((rf 2), ai cI 8 f_bottoms), ((rf 14), o1 (rf 17) f_E_size f_E_leftTop f_E_leftBottom f_E_rightTop f_E_rightBottom), ((rf 17), ai cI 64 f_E_terms)] sz (rf 14) (fun (u : Int32 × (Nat → Int32)) => post u.1 u.2) (fun (u : Int32 × (Nat → Int32)) => [((rf 0), o7 rf f_hasSnapshot f_termListSize f_textSize), ((rf 1), ai cI 8 f_tops), ((rf 2), ai cI 8 f_bottoms), ((rf 14), o1 (rf 17) u.1 f_E_leftTop f_E_leftBottom f_E_rightTop f_E_rightBottom), ((rf 17), ai cI 64 u.2)])) 0 0 (va_A [((rf 0), o7 rf f_hasSnapshot f_termListSize f_textSize), ((rf 1), ai cI 8 f_tops), ((rf 2), ai cI 8 f_bottoms), ((rf 14), o1 (rf 17) f_E_size f_E_leftTop f_E_leftBottom f_E_rightTop f_E_rightBottom), ((rf 17), ai cI 64 f_E_terms)] sz) := by
  refine kMetR (cc := cX7_expand) (maxL := 2) (by decide +kernel) rfl (Nat.le_of_ble_eq_true rfl) ?_
  intro p e s m args below meth c H0 ls A Q C0 hK hN hP hD hS hA hl RET
  obtain ⟨hx, hb, hml, hown, hts⟩ := id C0
  have hl : lv_has ls 2 [(0, .ref (rf 0)), (1, .int v1)] := hl
  have g48 := hts (.fieldLink RX7 48 "SternBrocotExplorer" "expansion" "LSternBrocotExplorer$Expansion;") (by decide +kernel)
  have g9 := hts (.fieldLink RX7 9 "SternBrocotExplorer" "tops" "[I") (by decide +kernel)
  have g13 := hts (.fieldLink RX7 13 "SternBrocotExplorer" "bottoms" "[I") (by decide +kernel)
  have hi9 : ∀ w ∈ wsX70, w ∈ wsX7_expand := fun w h => List.mem_cons_of_mem _ (List.mem_append_left _ (List.mem_append_right _ h))
  unfold w7_expand at hw
  have hP : va_P D vwCl [((rf 0), o7 rf f_hasSnapshot f_termListSize f_textSize), ((rf 1), ai cI 8 f_tops), ((rf 2), ai cI 8 f_bottoms), ((rf 14), o1 (rf 17) f_E_size f_E_leftTop f_E_leftBottom f_E_rightTop f_E_rightBottom), ((rf 17), ai cI 64 f_E_terms)] H0 := hP
  refine lv_aload_n hx hb dX7_expand_0 rfl (lv_at hl 0 rfl) ?_
  refine va_get (D := D) (ci := 2) (v := .ref (rf 14)) (C := RX7) (T := TX7) (N := 16) hx hb hts hi9 hown hK hP 0 rfl rfl 13 (by decide) g48 (fun _ h9 => h9) rfl dX7_expand_1 ?_
  refine lv_aload_n hx hb dX7_expand_4 rfl (lv_at hl 0 rfl) ?_
  refine va_get (D := D) (ci := 2) (v := .ref (rf 1)) (C := RX7) (T := TX7) (N := 16) hx hb hts hi9 hown hK hP 0 rfl rfl 0 (by decide) g9 (fun _ h9 => h9) rfl dX7_expand_5 ?_
  refine lv_iload_n hx hb dX7_expand_8 rfl (lv_at hl 1 rfl) ?_
  obtain ⟨hin, hw⟩ := hw
  refine va_iald hx hb hK hP 1 0 rfl rfl hin dX7_expand_9 ?_
  refine lv_aload_n hx hb dX7_expand_10 rfl (lv_at hl 0 rfl) ?_
  refine va_get (D := D) (ci := 2) (v := .ref (rf 2)) (C := RX7) (T := TX7) (N := 16) hx hb hts hi9 hown hK hP 0 rfl rfl 1 (by decide) g13 (fun _ h9 => h9) rfl dX7_expand_11 ?_
  refine lv_iload_n hx hb dX7_expand_14 rfl (lv_at hl 1 rfl) ?_
  obtain ⟨hin, hw⟩ := hw
  refine va_iald hx hb hK hP 2 0 rfl rfl hin dX7_expand_15 ?_
  refine kcV (wc := [((rf 14), o1 (rf 17) f_E_size f_E_leftTop f_E_leftBottom f_E_rightTop f_E_rightBottom), ((rf 17), ai cI 64 f_E_terms)]) (wr := [((rf 0), o7 rf f_hasSnapshot f_termListSize f_textSize), ((rf 1), ai cI 8 f_tops), ((rf 2), ai cI 8 f_bottoms)]) hP hD hS hA [3, 4] [0, 1, 2] rfl rfl ⟨rfl, rfl, by decide⟩ (fun hPc hDc => rV (As := [.int (f_tops v1.toNatClampNeg), .int (f_bottoms v1.toNatClampNeg)]) (rest := []) C0 hK hN (c1_expand l D cI cJ cN cR (rf 14) (rf 17) H0.size f_E_size f_E_leftTop f_E_leftBottom f_E_rightTop f_E_rightBottom f_E_terms (f_tops v1.toNatClampNeg) (f_bottoms v1.toNatClampNeg) _ hw) 2 gX7_expand_X1_expand rfl ⟨rfl, rfl⟩ nm1_expand ⟨Nat.le_of_ble_eq_true rfl, Nat.le_of_ble_eq_true rfl⟩ (q0 := 0) rfl rfl rfl rfl hl.1 rfl (Nat.le_of_ble_eq_true rfl) dX7_expand_16 ⟨Nat.le_of_ble_eq_true rfl, Nat.le_of_ble_eq_true rfl⟩ hPc hDc) (fun u16 H locs hw hP hD hS => ?_)
  obtain ⟨f_E_size_16, f_E_terms_16⟩ := u16
  dsimp only at hw
  have hP : va_P D vwCl [((rf 0), o7 rf f_hasSnapshot f_termListSize f_textSize), ((rf 1), ai cI 8 f_tops), ((rf 2), ai cI 8 f_bottoms), ((rf 14), o1 (rf 17) f_E_size_16 f_E_leftTop f_E_leftBottom f_E_rightTop f_E_rightBottom), ((rf 17), ai cI 64 f_E_terms_16)] H := hP
  have hD : va_D A [((rf 0), o7 rf f_hasSnapshot f_termListSize f_textSize), ((rf 1), ai cI 8 f_tops), ((rf 2), ai cI 8 f_bottoms), ((rf 14), o1 (rf 17) f_E_size_16 f_E_leftTop f_E_leftBottom f_E_rightTop f_E_rightBottom), ((rf 17), ai cI 64 f_E_terms_16)] := hD
  refine lv_aload_n hx hb dX7_expand_19 rfl (lv_at hl 0 rfl) ?_
  refine va_get (D := D) (ci := 2) (v := .ref (rf 14)) (C := RX7) (T := TX7) (N := 16) hx hb hts hi9 hown hK hP 0 rfl rfl 13 (by decide) g48 (fun _ h9 => h9) rfl dX7_expand_20 ?_
  exact RET _ _ (f_E_size_16, f_E_terms_16) _ _ hw hP hD hS dX7_expand_23
abbrev rm7_depth : Room := { frames := 3, cells := 0, slots := 0, locals := 68 }
theorem nm7_depth : kNm yX7_depth 1 := by decide +kernel
set_option maxHeartbeats 4000000 in
set_option maxRecDepth 100000 in
theorem c7_depth (l : Launch) (D : va_G) (cI cJ cN cR : ClassId) (rf : Nat → Nat) (sz : Nat) (f_hasSnapshot : Int32) (f_termListSize : Int32) (f_textSize : Int32) (f_tops : (Nat → Int32)) (f_bottoms : (Nat → Int32)) (f_E_size : Int32) (f_E_leftTop : Int64) (f_E_leftBottom : Int64) (f_E_rightTop : Int64) (f_E_rightBottom : Int64) (f_E_terms : (Nat → Int32)) (v1 : Int32) (post : Int32 → Int32 → (Nat → Int32) → Prop) (hw : w7_depth f_tops f_bottoms f_E_size f_E_terms v1 post) : Met l yX7_depth wsX7_depth rm7_depth (kP D (kT cI cJ cN cR) sz [.ref (rf 0), .int v1] [((rf 0), o7 rf f_hasSnapshot f_termListSize f_textSize), ((rf 1), ai cI 8 f_tops), ((rf 2), ai cI 8 f_bottoms), ((rf 14), o1 (rf 17) f_E_size f_E_leftTop f_E_leftBottom f_E_rightTop f_E_rightBottom), ((rf 17), ai cI 64 f_E_terms)]) (kQi D [((rf 0), o7 rf f_hasSnapshot f_termListSize f_textSize), ((rf 1), ai cI 8 f_tops), ((rf 2), ai cI 8 f_bottoms), ((rf 14), o1 (rf 17) f_E_size f_E_leftTop f_E_leftBottom f_E_rightTop f_E_rightBottom), ((rf 17), ai cI 64 f_E_terms)] sz (fun (r : Int32) (u : Int32 × (Nat → Int32)) => post r u.1 u.2) (fun (u : Int32 × (Nat → Int32)) => [((rf 0), o7 rf f_hasSnapshot f_termListSize f_textSize), ((rf 1), ai cI 8 f_tops), ((rf 2), ai cI 8 f_bottoms), ((rf 14), o1 (rf 17) u.1 f_E_leftTop f_E_leftBottom f_E_rightTop f_E_rightBottom), ((rf 17), ai cI 64 u.2)])) 0 0 (va_A [((rf 0), o7 rf f_hasSnapshot f_termListSize f_textSize), ((rf 1), ai cI 8 f_tops), ((rf 2), ai cI 8 f_bottoms), ((rf 14), o1 (rf 17) f_E_size f_E_leftTop f_E_leftBottom f_E_rightTop f_E_rightBottom), ((rf 17), ai cI 64 f_E_terms)] sz) := by
  refine kMetI (cc := cX7_depth) (maxL := 2) (by decide +kernel) rfl (Nat.le_of_ble_eq_true rfl) ?_
  intro p e s m args below meth c H0 ls A Q C0 hK hN hP hD hS hA hl RET
  obtain ⟨hx, hb, hml, hown, hts⟩ := id C0
  have hl : lv_has ls 2 [(0, .ref (rf 0)), (1, .int v1)] := hl
  unfold w7_depth at hw
  have hP : va_P D vwCl [((rf 0), o7 rf f_hasSnapshot f_termListSize f_textSize), ((rf 1), ai cI 8 f_tops), ((rf 2), ai cI 8 f_bottoms), ((rf 14), o1 (rf 17) f_E_size f_E_leftTop f_E_leftBottom f_E_rightTop f_E_rightBottom), ((rf 17), ai cI 64 f_E_terms)] H0 := hP
  refine lv_iload_n hx hb dX7_depth_0 rfl (lv_at hl 1 rfl) ?_
  refine kcRI (wc := []) hP [] rfl (fun hPc => oS (As := [.int v1]) (rest := []) C0 hK hN (c7_isRegister l D cI cJ cN cR   v1 _ hw) 1 gX7_depth_X7_isRegister rfl ⟨rfl, rfl⟩ nm7_isRegister ⟨Nat.le_of_ble_eq_true rfl, Nat.le_of_ble_eq_true rfl⟩ rfl hl.1 rfl (Nat.le_of_ble_eq_true rfl) dX7_depth_1 ⟨Nat.le_of_ble_eq_true rfl, Nat.le_of_ble_eq_true rfl⟩ hPc) (fun r1 hw => ?_)
  obtain ⟨nb1, hw⟩ := hw
  refine lv_if_eq (tgt := 18) hx hb dX7_depth_4 (by decide) (fun k => ?_) (fun k => ?_)
  · have hw := hw.1 k
    refine lv_iconst (v := (-1 : Int32)) hx hb dX7_depth_18 (by decide) ?_
    exact RET _ _ _ (f_E_size, f_E_terms) _ _ hw hP hD hS dX7_depth_19
  · have hw := hw.2 k
    refine lv_aload_n hx hb dX7_depth_7 rfl (lv_at hl 0 rfl) ?_
    refine lv_iload_n hx hb dX7_depth_8 rfl (lv_at hl 1 rfl) ?_
    refine kcR (wc := [((rf 0), o7 rf f_hasSnapshot f_termListSize f_textSize), ((rf 1), ai cI 8 f_tops), ((rf 2), ai cI 8 f_bottoms), ((rf 14), o1 (rf 17) f_E_size f_E_leftTop f_E_leftBottom f_E_rightTop f_E_rightBottom), ((rf 17), ai cI 64 f_E_terms)]) (wr := []) hP hD hS hA [0, 1, 2, 3, 4] [] rfl rfl ⟨rfl, rfl, by decide⟩ (fun hPc hDc => rV (As := [.int v1]) (rest := []) C0 hK hN (c7_expand l D cI cJ cN cR rf H0.size f_hasSnapshot f_termListSize f_textSize f_tops f_bottoms f_E_size f_E_leftTop f_E_leftBottom f_E_rightTop f_E_rightBottom f_E_terms v1 _ hw) 1 gX7_depth_X7_expand rfl ⟨rfl, rfl⟩ nm7_expand ⟨Nat.le_of_ble_eq_true rfl, Nat.le_of_ble_eq_true rfl⟩ (q0 := 0) rfl rfl rfl rfl hl.1 rfl (Nat.le_of_ble_eq_true rfl) dX7_depth_9 ⟨Nat.le_of_ble_eq_true rfl, Nat.le_of_ble_eq_true rfl⟩ hPc hDc) (fun u9 H locs hw hP hD hS => ?_)
    obtain ⟨f_E_size_9, f_E_terms_9⟩ := u9
    dsimp only at hw
    have hP : va_P D vwCl [((rf 0), o7 rf f_hasSnapshot f_termListSize f_textSize), ((rf 1), ai cI 8 f_tops), ((rf 2), ai cI 8 f_bottoms), ((rf 14), o1 (rf 17) f_E_size_9 f_E_leftTop f_E_leftBottom f_E_rightTop f_E_rightBottom), ((rf 17), ai cI 64 f_E_terms_9)] H := hP
    have hD : va_D A [((rf 0), o7 rf f_hasSnapshot f_termListSize f_textSize), ((rf 1), ai cI 8 f_tops), ((rf 2), ai cI 8 f_bottoms), ((rf 14), o1 (rf 17) f_E_size_9 f_E_leftTop f_E_leftBottom f_E_rightTop f_E_rightBottom), ((rf 17), ai cI 64 f_E_terms_9)] := hD
    refine kcRI (wc := [((rf 14), o1 (rf 17) f_E_size_9 f_E_leftTop f_E_leftBottom f_E_rightTop f_E_rightBottom), ((rf 17), ai cI 64 f_E_terms_9)]) hP [3, 4] rfl (fun hPc => oV (As := []) (rest := []) C0 hK hN (c1_stepCount l D cI cJ cN cR (rf 14) (rf 17) f_E_size_9 f_E_leftTop f_E_leftBottom f_E_rightTop f_E_rightBottom f_E_terms_9  _ hw) 0 gX7_depth_X1_stepCount rfl ⟨rfl, rfl⟩ nm1_stepCount ⟨Nat.le_of_ble_eq_true rfl, Nat.le_of_ble_eq_true rfl⟩ (q0 := 0) rfl rfl rfl rfl hl.1 rfl (Nat.le_of_ble_eq_true rfl) dX7_depth_12 ⟨Nat.le_of_ble_eq_true rfl, Nat.le_of_ble_eq_true rfl⟩ hPc) (fun r12 hw => ?_)
    refine lv_goto (tgt := 19) hx hb dX7_depth_15 (by decide) ?_
    exact RET _ _ _ (f_E_size_9, f_E_terms_9) _ _ hw hP hD hS dX7_depth_19
abbrev rm7_storeConvergent : Room := { frames := 2, cells := 0, slots := 0, locals := 61 }
theorem nm7_storeConvergent : kNm yX7_storeConvergent 3 := by decide +kernel
set_option maxHeartbeats 4000000 in
set_option maxRecDepth 100000 in
theorem c7_storeConvergent (l : Launch) (D : va_G) (cI cJ cN cR : ClassId) (rf : Nat → Nat) (g0 : Nat) (g1 : Nat) (sz : Nat) (f_hasSnapshot : Int32) (f_termListSize : Int32) (f_textSize : Int32) (f_tops : (Nat → Int32)) (f_bottoms : (Nat → Int32)) (f_P_size : Int32) (f_P_leftTop : Int64) (f_P_leftBottom : Int64) (f_P_rightTop : Int64) (f_P_rightBottom : Int64) (f_P_terms : (Nat → Int32)) (v1 : Int32) (v3 : Int32) (post : Int32 → (Nat → Int32) → (Nat → Int32) → Prop) (hw : w7_storeConvergent f_tops f_bottoms f_P_size f_P_terms v1 v3 post) : Met l yX7_storeConvergent wsX7_storeConvergent rm7_storeConvergent (kP D (kT cI cJ cN cR) sz [.ref (rf 0), .int v1, .ref g0, .int v3] [((rf 0), o7 rf f_hasSnapshot f_termListSize f_textSize), ((rf 1), ai cI 8 f_tops), ((rf 2), ai cI 8 f_bottoms), (g0, o1 g1 f_P_size f_P_leftTop f_P_leftBottom f_P_rightTop f_P_rightBottom), (g1, ai cI 64 f_P_terms)]) (kQi D [((rf 0), o7 rf f_hasSnapshot f_termListSize f_textSize), ((rf 1), ai cI 8 f_tops), ((rf 2), ai cI 8 f_bottoms), (g0, o1 g1 f_P_size f_P_leftTop f_P_leftBottom f_P_rightTop f_P_rightBottom), (g1, ai cI 64 f_P_terms)] sz (fun (r : Int32) (u : (Nat → Int32) × (Nat → Int32)) => post r u.1 u.2) (fun (u : (Nat → Int32) × (Nat → Int32)) => [((rf 0), o7 rf f_hasSnapshot f_termListSize f_textSize), ((rf 1), ai cI 8 u.1), ((rf 2), ai cI 8 u.2), (g0, o1 g1 f_P_size f_P_leftTop f_P_leftBottom f_P_rightTop f_P_rightBottom), (g1, ai cI 64 f_P_terms)])) 0 0 (va_A [((rf 0), o7 rf f_hasSnapshot f_termListSize f_textSize), ((rf 1), ai cI 8 f_tops), ((rf 2), ai cI 8 f_bottoms), (g0, o1 g1 f_P_size f_P_leftTop f_P_leftBottom f_P_rightTop f_P_rightBottom), (g1, ai cI 64 f_P_terms)] sz) := by
  refine kMetI (cc := cX7_storeConvergent) (maxL := 4) (by decide +kernel) rfl (Nat.le_of_ble_eq_true rfl) ?_
  intro p e s m args below meth c H0 ls A Q C0 hK hN hP hD hS hA hl RET
  obtain ⟨hx, hb, hml, hown, hts⟩ := id C0
  have hl : lv_has ls 4 [(0, .ref (rf 0)), (1, .int v1), (2, .ref g0), (3, .int v3)] := hl
  unfold w7_storeConvergent at hw
  have hP : va_P D vwCl [((rf 0), o7 rf f_hasSnapshot f_termListSize f_textSize), ((rf 1), ai cI 8 f_tops), ((rf 2), ai cI 8 f_bottoms), (g0, o1 g1 f_P_size f_P_leftTop f_P_leftBottom f_P_rightTop f_P_rightBottom), (g1, ai cI 64 f_P_terms)] H0 := hP
  refine lv_aload_n hx hb dX7_storeConvergent_0 rfl (lv_at hl 0 rfl) ?_
  refine lv_iload_n hx hb dX7_storeConvergent_1 rfl (lv_at hl 1 rfl) ?_
  refine lv_aload_n hx hb dX7_storeConvergent_2 rfl (lv_at hl 2 rfl) ?_
  refine lv_iload_n hx hb dX7_storeConvergent_3 rfl (lv_at hl 3 rfl) ?_
  refine kcRL (wc := [(g0, o1 g1 f_P_size f_P_leftTop f_P_leftBottom f_P_rightTop f_P_rightBottom), (g1, ai cI 64 f_P_terms)]) hP [3, 4] rfl (fun hPc => oV (As := [.int v3]) (rest := [.int v1, .ref (rf 0)]) C0 hK hN (c1_convergentTop l D cI cJ cN cR g0 g1 f_P_size f_P_leftTop f_P_leftBottom f_P_rightTop f_P_rightBottom f_P_terms v3 _ hw) 1 gX7_storeConvergent_X1_convergentTop rfl ⟨rfl, rfl⟩ nm1_convergentTop ⟨Nat.le_of_ble_eq_true rfl, Nat.le_of_ble_eq_true rfl⟩ (q0 := 0) rfl rfl rfl rfl hl.1 rfl (Nat.le_of_ble_eq_true rfl) dX7_storeConvergent_4 ⟨Nat.le_of_ble_eq_true rfl, Nat.le_of_ble_eq_true rfl⟩ hPc) (fun r4 hw => ?_)
  refine lv_aload_n hx hb dX7_storeConvergent_7 rfl (lv_at hl 2 rfl) ?_
  refine lv_iload_n hx hb dX7_storeConvergent_8 rfl (lv_at hl 3 rfl) ?_
  refine kcRL (wc := [(g0, o1 g1 f_P_size f_P_leftTop f_P_leftBottom f_P_rightTop f_P_rightBottom), (g1, ai cI 64 f_P_terms)]) hP [3, 4] rfl (fun hPc => oV (As := [.int v3]) (rest := [.long r4, .int v1, .ref (rf 0)]) C0 hK hN (c1_convergentBottom l D cI cJ cN cR g0 g1 f_P_size f_P_leftTop f_P_leftBottom f_P_rightTop f_P_rightBottom f_P_terms v3 _ hw) 1 gX7_storeConvergent_X1_convergentBottom rfl ⟨rfl, rfl⟩ nm1_convergentBottom ⟨Nat.le_of_ble_eq_true rfl, Nat.le_of_ble_eq_true rfl⟩ (q0 := 0) rfl rfl rfl rfl hl.1 rfl (Nat.le_of_ble_eq_true rfl) dX7_storeConvergent_9 ⟨Nat.le_of_ble_eq_true rfl, Nat.le_of_ble_eq_true rfl⟩ hPc) (fun r9 hw => ?_)
  refine kcI (wc := [((rf 0), o7 rf f_hasSnapshot f_termListSize f_textSize), ((rf 1), ai cI 8 f_tops), ((rf 2), ai cI 8 f_bottoms)]) (wr := [(g0, o1 g1 f_P_size f_P_leftTop f_P_leftBottom f_P_rightTop f_P_rightBottom), (g1, ai cI 64 f_P_terms)]) hP hD hS hA [0, 1, 2] [3, 4] rfl rfl ⟨rfl, rfl, by decide⟩ (fun hPc hDc => rV (As := [.int v1, .long r4, .long r9]) (rest := []) C0 hK hN (c7_store l D cI cJ cN cR rf H0.size f_hasSnapshot f_termListSize f_textSize f_tops f_bottoms v1 r4 r9 _ hw) 3 gX7_storeConvergent_X7_store rfl ⟨rfl, rfl⟩ nm7_store ⟨Nat.le_of_ble_eq_true rfl, Nat.le_of_ble_eq_true rfl⟩ (q0 := 0) rfl rfl rfl rfl hl.1 rfl (Nat.le_of_ble_eq_true rfl) dX7_storeConvergent_12 ⟨Nat.le_of_ble_eq_true rfl, Nat.le_of_ble_eq_true rfl⟩ hPc hDc) (fun r12 u12 H locs hw hP hD hS => ?_)
  obtain ⟨f_tops_12, f_bottoms_12⟩ := u12
  dsimp only at hw
  have hP : va_P D vwCl [(g0, o1 g1 f_P_size f_P_leftTop f_P_leftBottom f_P_rightTop f_P_rightBottom), (g1, ai cI 64 f_P_terms), ((rf 0), o7 rf f_hasSnapshot f_termListSize f_textSize), ((rf 1), ai cI 8 f_tops_12), ((rf 2), ai cI 8 f_bottoms_12)] H := hP
  have hD : va_D A [(g0, o1 g1 f_P_size f_P_leftTop f_P_leftBottom f_P_rightTop f_P_rightBottom), (g1, ai cI 64 f_P_terms), ((rf 0), o7 rf f_hasSnapshot f_termListSize f_textSize), ((rf 1), ai cI 8 f_tops_12), ((rf 2), ai cI 8 f_bottoms_12)] := hD
  obtain ⟨hP, hD⟩ := k_sub (ws' := [((rf 0), o7 rf f_hasSnapshot f_termListSize f_textSize), ((rf 1), ai cI 8 f_tops_12), ((rf 2), ai cI 8 f_bottoms_12), (g0, o1 g1 f_P_size f_P_leftTop f_P_leftBottom f_P_rightTop f_P_rightBottom), (g1, ai cI 64 f_P_terms)]) hP hD [2, 3, 4, 0, 1] rfl rfl
  exact RET _ _ _ (f_tops_12, f_bottoms_12) _ _ hw hP hD hS dX7_storeConvergent_15
abbrev rm7_commonAncestor : Room := { frames := 3, cells := 0, slots := 0, locals := 84 }
theorem nm7_commonAncestor : kNm yX7_commonAncestor 3 := by decide +kernel
set_option maxHeartbeats 4000000 in
set_option maxRecDepth 100000 in
theorem c7_commonAncestor (l : Launch) (D : va_G) (cI cJ cN cR : ClassId) (rf : Nat → Nat) (sz : Nat) (f_hasSnapshot : Int32) (f_termListSize : Int32) (f_textSize : Int32) (f_tops : (Nat → Int32)) (f_bottoms : (Nat → Int32)) (f_E_size : Int32) (f_E_leftTop : Int64) (f_E_leftBottom : Int64) (f_E_rightTop : Int64) (f_E_rightBottom : Int64) (f_O_size : Int32) (f_O_leftTop : Int64) (f_O_leftBottom : Int64) (f_O_rightTop : Int64) (f_O_rightBottom : Int64) (f_E_terms : (Nat → Int32)) (f_O_terms : (Nat → Int32)) (v1 : Int32) (v2 : Int32) (v3 : Int32) (post : Int32 → (Nat → Int32) → (Nat → Int32) → Int32 → Int32 → (Nat → Int32) → (Nat → Int32) → Prop) (hw : w7_commonAncestor f_tops f_bottoms f_E_size f_O_size f_E_terms f_O_terms v1 v2 v3 post) : Met l yX7_commonAncestor wsX7_commonAncestor rm7_commonAncestor (kP D (kT cI cJ cN cR) sz [.ref (rf 0), .int v1, .int v2, .int v3] [((rf 0), o7 rf f_hasSnapshot f_termListSize f_textSize), ((rf 1), ai cI 8 f_tops), ((rf 2), ai cI 8 f_bottoms), ((rf 14), o1 (rf 17) f_E_size f_E_leftTop f_E_leftBottom f_E_rightTop f_E_rightBottom), ((rf 15), o1 (rf 18) f_O_size f_O_leftTop f_O_leftBottom f_O_rightTop f_O_rightBottom), ((rf 17), ai cI 64 f_E_terms), ((rf 18), ai cI 64 f_O_terms)]) (kQi D [((rf 0), o7 rf f_hasSnapshot f_termListSize f_textSize), ((rf 1), ai cI 8 f_tops), ((rf 2), ai cI 8 f_bottoms), ((rf 14), o1 (rf 17) f_E_size f_E_leftTop f_E_leftBottom f_E_rightTop f_E_rightBottom), ((rf 15), o1 (rf 18) f_O_size f_O_leftTop f_O_leftBottom f_O_rightTop f_O_rightBottom), ((rf 17), ai cI 64 f_E_terms), ((rf 18), ai cI 64 f_O_terms)] sz (fun (r : Int32) (u : (Nat → Int32) × (Nat → Int32) × Int32 × Int32 × (Nat → Int32) × (Nat → Int32)) => post r u.1 u.2.1 u.2.2.1 u.2.2.2.1 u.2.2.2.2.1 u.2.2.2.2.2) (fun (u : (Nat → Int32) × (Nat → Int32) × Int32 × Int32 × (Nat → Int32) × (Nat → Int32)) => [((rf 0), o7 rf f_hasSnapshot f_termListSize f_textSize), ((rf 1), ai cI 8 u.1), ((rf 2), ai cI 8 u.2.1), ((rf 14), o1 (rf 17) u.2.2.1 f_E_leftTop f_E_leftBottom f_E_rightTop f_E_rightBottom), ((rf 15), o1 (rf 18) u.2.2.2.1 f_O_leftTop f_O_leftBottom f_O_rightTop f_O_rightBottom), ((rf 17), ai cI 64 u.2.2.2.2.1), ((rf 18), ai cI 64 u.2.2.2.2.2)])) 0 0 (va_A [((rf 0), o7 rf f_hasSnapshot f_termListSize f_textSize), ((rf 1), ai cI 8 f_tops), ((rf 2), ai cI 8 f_bottoms), ((rf 14), o1 (rf 17) f_E_size f_E_leftTop f_E_leftBottom f_E_rightTop f_E_rightBottom), ((rf 15), o1 (rf 18) f_O_size f_O_leftTop f_O_leftBottom f_O_rightTop f_O_rightBottom), ((rf 17), ai cI 64 f_E_terms), ((rf 18), ai cI 64 f_O_terms)] sz) := by
  refine kMetI (cc := cX7_commonAncestor) (maxL := 6) (by decide +kernel) rfl (Nat.le_of_ble_eq_true rfl) ?_
  intro p e s m args below meth c H0 ls A Q C0 hK hN hP hD hS hA hl RET
  obtain ⟨hx, hb, hml, hown, hts⟩ := id C0
  have hl : lv_has ls 6 [(0, .ref (rf 0)), (1, .int v1), (2, .int v2), (3, .int v3)] := hl
  have g52 := hts (.fieldLink RX7 52 "SternBrocotExplorer" "otherExpansion" "LSternBrocotExplorer$Expansion;") (by decide +kernel)
  have g9 := hts (.fieldLink RX7 9 "SternBrocotExplorer" "tops" "[I") (by decide +kernel)
  have g13 := hts (.fieldLink RX7 13 "SternBrocotExplorer" "bottoms" "[I") (by decide +kernel)
  have hi9 : ∀ w ∈ wsX70, w ∈ wsX7_commonAncestor := fun w h => List.mem_cons_of_mem _ (List.mem_append_left _ (List.mem_append_right _ h))
  unfold w7_commonAncestor at hw
  have hP : va_P D vwCl [((rf 0), o7 rf f_hasSnapshot f_termListSize f_textSize), ((rf 1), ai cI 8 f_tops), ((rf 2), ai cI 8 f_bottoms), ((rf 14), o1 (rf 17) f_E_size f_E_leftTop f_E_leftBottom f_E_rightTop f_E_rightBottom), ((rf 15), o1 (rf 18) f_O_size f_O_leftTop f_O_leftBottom f_O_rightTop f_O_rightBottom), ((rf 17), ai cI 64 f_E_terms), ((rf 18), ai cI 64 f_O_terms)] H0 := hP
  refine lv_iload_n hx hb dX7_commonAncestor_0 rfl (lv_at hl 1 rfl) ?_
  refine kcRI (wc := []) hP [] rfl (fun hPc => oS (As := [.int v1]) (rest := []) C0 hK hN (c7_isRegister l D cI cJ cN cR   v1 _ hw) 1 gX7_commonAncestor_X7_isRegister rfl ⟨rfl, rfl⟩ nm7_isRegister ⟨Nat.le_of_ble_eq_true rfl, Nat.le_of_ble_eq_true rfl⟩ rfl hl.1 rfl (Nat.le_of_ble_eq_true rfl) dX7_commonAncestor_1 ⟨Nat.le_of_ble_eq_true rfl, Nat.le_of_ble_eq_true rfl⟩ hPc) (fun r1 hw => ?_)
  obtain ⟨nb1, hw⟩ := hw
  refine lv_if_eq (tgt := 21) hx hb dX7_commonAncestor_4 (by decide) (fun k => ?_) (fun k => ?_)
  · have hw := hw.1 k
    refine lv_iconst (v := (-1 : Int32)) hx hb dX7_commonAncestor_21 (by decide) ?_
    exact RET _ _ _ (f_tops, f_bottoms, f_E_size, f_O_size, f_E_terms, f_O_terms) _ _ hw hP hD hS dX7_commonAncestor_22
  · have hw := hw.2 k
    refine lv_iload_n hx hb dX7_commonAncestor_7 rfl (lv_at hl 2 rfl) ?_
    refine kcRI (wc := []) hP [] rfl (fun hPc => oS (As := [.int v2]) (rest := []) C0 hK hN (c7_isRegister l D cI cJ cN cR   v2 _ hw) 1 gX7_commonAncestor_X7_isRegister rfl ⟨rfl, rfl⟩ nm7_isRegister ⟨Nat.le_of_ble_eq_true rfl, Nat.le_of_ble_eq_true rfl⟩ rfl hl.1 rfl (Nat.le_of_ble_eq_true rfl) dX7_commonAncestor_8 ⟨Nat.le_of_ble_eq_true rfl, Nat.le_of_ble_eq_true rfl⟩ hPc) (fun r8 hw => ?_)
    obtain ⟨nb8, hw⟩ := hw
    refine lv_if_eq (tgt := 21) hx hb dX7_commonAncestor_11 (by decide) (fun k => ?_) (fun k => ?_)
    · have hw := hw.1 k
      refine lv_iconst (v := (-1 : Int32)) hx hb dX7_commonAncestor_21 (by decide) ?_
      exact RET _ _ _ (f_tops, f_bottoms, f_E_size, f_O_size, f_E_terms, f_O_terms) _ _ hw hP hD hS dX7_commonAncestor_22
    · have hw := hw.2 k
      refine lv_iload_n hx hb dX7_commonAncestor_14 rfl (lv_at hl 3 rfl) ?_
      refine kcRI (wc := []) hP [] rfl (fun hPc => oS (As := [.int v3]) (rest := []) C0 hK hN (c7_isRegister l D cI cJ cN cR   v3 _ hw) 1 gX7_commonAncestor_X7_isRegister rfl ⟨rfl, rfl⟩ nm7_isRegister ⟨Nat.le_of_ble_eq_true rfl, Nat.le_of_ble_eq_true rfl⟩ rfl hl.1 rfl (Nat.le_of_ble_eq_true rfl) dX7_commonAncestor_15 ⟨Nat.le_of_ble_eq_true rfl, Nat.le_of_ble_eq_true rfl⟩ hPc) (fun r15 hw => ?_)
      obtain ⟨nb15, hw⟩ := hw
      refine lv_if_ne (tgt := 23) hx hb dX7_commonAncestor_18 (by decide) (fun k => ?_) (fun k => ?_)
      · have hw := hw.1 k
        refine lv_aload_n hx hb dX7_commonAncestor_23 rfl (lv_at hl 0 rfl) ?_
        refine lv_iload_n hx hb dX7_commonAncestor_24 rfl (lv_at hl 2 rfl) ?_
        refine kcR (wc := [((rf 0), o7 rf f_hasSnapshot f_termListSize f_textSize), ((rf 1), ai cI 8 f_tops), ((rf 2), ai cI 8 f_bottoms), ((rf 14), o1 (rf 17) f_E_size f_E_leftTop f_E_leftBottom f_E_rightTop f_E_rightBottom), ((rf 17), ai cI 64 f_E_terms)]) (wr := [((rf 15), o1 (rf 18) f_O_size f_O_leftTop f_O_leftBottom f_O_rightTop f_O_rightBottom), ((rf 18), ai cI 64 f_O_terms)]) hP hD hS hA [0, 1, 2, 3, 5] [4, 6] rfl rfl ⟨rfl, rfl, by decide⟩ (fun hPc hDc => rV (As := [.int v2]) (rest := []) C0 hK hN (c7_expand l D cI cJ cN cR rf H0.size f_hasSnapshot f_termListSize f_textSize f_tops f_bottoms f_E_size f_E_leftTop f_E_leftBottom f_E_rightTop f_E_rightBottom f_E_terms v2 _ hw) 1 gX7_commonAncestor_X7_expand rfl ⟨rfl, rfl⟩ nm7_expand ⟨Nat.le_of_ble_eq_true rfl, Nat.le_of_ble_eq_true rfl⟩ (q0 := 0) rfl rfl rfl rfl hl.1 rfl (Nat.le_of_ble_eq_true rfl) dX7_commonAncestor_25 ⟨Nat.le_of_ble_eq_true rfl, Nat.le_of_ble_eq_true rfl⟩ hPc hDc) (fun u25 H locs hw hP hD hS => ?_)
        obtain ⟨f_E_size_25, f_E_terms_25⟩ := u25
        dsimp only at hw
        have hP : va_P D vwCl [((rf 15), o1 (rf 18) f_O_size f_O_leftTop f_O_leftBottom f_O_rightTop f_O_rightBottom), ((rf 18), ai cI 64 f_O_terms), ((rf 0), o7 rf f_hasSnapshot f_termListSize f_textSize), ((rf 1), ai cI 8 f_tops), ((rf 2), ai cI 8 f_bottoms), ((rf 14), o1 (rf 17) f_E_size_25 f_E_leftTop f_E_leftBottom f_E_rightTop f_E_rightBottom), ((rf 17), ai cI 64 f_E_terms_25)] H := hP
        have hD : va_D A [((rf 15), o1 (rf 18) f_O_size f_O_leftTop f_O_leftBottom f_O_rightTop f_O_rightBottom), ((rf 18), ai cI 64 f_O_terms), ((rf 0), o7 rf f_hasSnapshot f_termListSize f_textSize), ((rf 1), ai cI 8 f_tops), ((rf 2), ai cI 8 f_bottoms), ((rf 14), o1 (rf 17) f_E_size_25 f_E_leftTop f_E_leftBottom f_E_rightTop f_E_rightBottom), ((rf 17), ai cI 64 f_E_terms_25)] := hD
        refine lv_astore (lv' := [(4, .ref (rf 14)), (0, .ref (rf 0)), (1, .int v1), (2, .int v2), (3, .int v3)]) hx hb dX7_commonAncestor_28 hl (by decide) rfl (fun ls hl => ?_)
        refine lv_aload_n hx hb dX7_commonAncestor_30 rfl (lv_at hl 1 rfl) ?_
        refine va_get (D := D) (ci := 2) (v := .ref (rf 15)) (C := RX7) (T := TX7) (N := 16) hx hb hts hi9 hown hK hP 2 rfl rfl 14 (by decide) g52 (fun _ h9 => h9) rfl dX7_commonAncestor_31 ?_
        refine lv_aload_n hx hb dX7_commonAncestor_34 rfl (lv_at hl 1 rfl) ?_
        refine va_get (D := D) (ci := 2) (v := .ref (rf 1)) (C := RX7) (T := TX7) (N := 16) hx hb hts hi9 hown hK hP 2 rfl rfl 0 (by decide) g9 (fun _ h9 => h9) rfl dX7_commonAncestor_35 ?_
        refine lv_iload_n hx hb dX7_commonAncestor_38 rfl (lv_at hl 4 rfl) ?_
        obtain ⟨hin, hw⟩ := hw
        refine va_iald hx hb hK hP 3 0 rfl rfl hin dX7_commonAncestor_39 ?_
        refine lv_aload_n hx hb dX7_commonAncestor_40 rfl (lv_at hl 1 rfl) ?_
        refine va_get (D := D) (ci := 2) (v := .ref (rf 2)) (C := RX7) (T := TX7) (N := 16) hx hb hts hi9 hown hK hP 2 rfl rfl 1 (by decide) g13 (fun _ h9 => h9) rfl dX7_commonAncestor_41 ?_
        refine lv_iload_n hx hb dX7_commonAncestor_44 rfl (lv_at hl 4 rfl) ?_
        obtain ⟨hin, hw⟩ := hw
        refine va_iald hx hb hK hP 4 0 rfl rfl hin dX7_commonAncestor_45 ?_
        refine kcV (wc := [((rf 15), o1 (rf 18) f_O_size f_O_leftTop f_O_leftBottom f_O_rightTop f_O_rightBottom), ((rf 18), ai cI 64 f_O_terms)]) (wr := [((rf 0), o7 rf f_hasSnapshot f_termListSize f_textSize), ((rf 1), ai cI 8 f_tops), ((rf 2), ai cI 8 f_bottoms), ((rf 14), o1 (rf 17) f_E_size_25 f_E_leftTop f_E_leftBottom f_E_rightTop f_E_rightBottom), ((rf 17), ai cI 64 f_E_terms_25)]) hP hD hS hA [0, 1] [2, 3, 4, 5, 6] rfl rfl ⟨rfl, rfl, by decide⟩ (fun hPc hDc => rV (As := [.int (f_tops v3.toNatClampNeg), .int (f_bottoms v3.toNatClampNeg)]) (rest := []) C0 hK hN (c1_expand l D cI cJ cN cR (rf 15) (rf 18) H.size f_O_size f_O_leftTop f_O_leftBottom f_O_rightTop f_O_rightBottom f_O_terms (f_tops v3.toNatClampNeg) (f_bottoms v3.toNatClampNeg) _ hw) 2 gX7_commonAncestor_X1_expand rfl ⟨rfl, rfl⟩ nm1_expand ⟨Nat.le_of_ble_eq_true rfl, Nat.le_of_ble_eq_true rfl⟩ (q0 := 0) rfl rfl rfl rfl hl.1 rfl (Nat.le_of_ble_eq_true rfl) dX7_commonAncestor_46 ⟨Nat.le_of_ble_eq_true rfl, Nat.le_of_ble_eq_true rfl⟩ hPc hDc) (fun u46 H locs hw hP hD hS => ?_)
        obtain ⟨f_O_size_46, f_O_terms_46⟩ := u46
        dsimp only at hw
        have hP : va_P D vwCl [((rf 0), o7 rf f_hasSnapshot f_termListSize f_textSize), ((rf 1), ai cI 8 f_tops), ((rf 2), ai cI 8 f_bottoms), ((rf 14), o1 (rf 17) f_E_size_25 f_E_leftTop f_E_leftBottom f_E_rightTop f_E_rightBottom), ((rf 17), ai cI 64 f_E_terms_25), ((rf 15), o1 (rf 18) f_O_size_46 f_O_leftTop f_O_leftBottom f_O_rightTop f_O_rightBottom), ((rf 18), ai cI 64 f_O_terms_46)] H := hP
        have hD : va_D A [((rf 0), o7 rf f_hasSnapshot f_termListSize f_textSize), ((rf 1), ai cI 8 f_tops), ((rf 2), ai cI 8 f_bottoms), ((rf 14), o1 (rf 17) f_E_size_25 f_E_leftTop f_E_leftBottom f_E_rightTop f_E_rightBottom), ((rf 17), ai cI 64 f_E_terms_25), ((rf 15), o1 (rf 18) f_O_size_46 f_O_leftTop f_O_leftBottom f_O_rightTop f_O_rightBottom), ((rf 18), ai cI 64 f_O_terms_46)] := hD
        refine lv_aload hx hb dX7_commonAncestor_49 (lv_at hl 0 rfl) ?_
        refine lv_aload_n hx hb dX7_commonAncestor_51 rfl (lv_at hl 1 rfl) ?_
        refine va_get (D := D) (ci := 2) (v := .ref (rf 15)) (C := RX7) (T := TX7) (N := 16) hx hb hts hi9 hown hK hP 0 rfl rfl 14 (by decide) g52 (fun _ h9 => h9) rfl dX7_commonAncestor_52 ?_
        refine kcRI (wc := [((rf 14), o1 (rf 17) f_E_size_25 f_E_leftTop f_E_leftBottom f_E_rightTop f_E_rightBottom), ((rf 17), ai cI 64 f_E_terms_25), ((rf 15), o1 (rf 18) f_O_size_46 f_O_leftTop f_O_leftBottom f_O_rightTop f_O_rightBottom), ((rf 18), ai cI 64 f_O_terms_46)]) hP [3, 4, 5, 6] rfl (fun hPc => oV (As := [.ref (rf 15)]) (rest := []) C0 hK hN (c1_commonSteps l D cI cJ cN cR (rf 14) (rf 17) (rf 15) (rf 18) f_E_size_25 f_E_leftTop f_E_leftBottom f_E_rightTop f_E_rightBottom f_E_terms_25 f_O_size_46 f_O_leftTop f_O_leftBottom f_O_rightTop f_O_rightBottom f_O_terms_46  _ hw) 1 gX7_commonAncestor_X1_commonSteps rfl ⟨rfl, rfl⟩ nm1_commonSteps ⟨Nat.le_of_ble_eq_true rfl, Nat.le_of_ble_eq_true rfl⟩ (q0 := 0) rfl rfl rfl rfl hl.1 rfl (Nat.le_of_ble_eq_true rfl) dX7_commonAncestor_55 ⟨Nat.le_of_ble_eq_true rfl, Nat.le_of_ble_eq_true rfl⟩ hPc) (fun r55 hw => ?_)
        refine lv_istore (lv' := [(5, .int r55), (4, .ref (rf 14)), (0, .ref (rf 0)), (1, .int v1), (2, .int v2), (3, .int v3)]) hx hb dX7_commonAncestor_58 hl (by decide) rfl (fun ls hl => ?_)
        refine lv_aload hx hb dX7_commonAncestor_60 (lv_at hl 1 rfl) ?_
        refine lv_iload hx hb dX7_commonAncestor_62 (lv_at hl 0 rfl) ?_
        refine kcV (wc := [((rf 14), o1 (rf 17) f_E_size_25 f_E_leftTop f_E_leftBottom f_E_rightTop f_E_rightBottom), ((rf 17), ai cI 64 f_E_terms_25)]) (wr := [((rf 0), o7 rf f_hasSnapshot f_termListSize f_textSize), ((rf 1), ai cI 8 f_tops), ((rf 2), ai cI 8 f_bottoms), ((rf 15), o1 (rf 18) f_O_size_46 f_O_leftTop f_O_leftBottom f_O_rightTop f_O_rightBottom), ((rf 18), ai cI 64 f_O_terms_46)]) hP hD hS hA [3, 4] [0, 1, 2, 5, 6] rfl rfl ⟨rfl, rfl, by decide⟩ (fun hPc hDc => rV (As := [.int r55]) (rest := []) C0 hK hN (c1_cutToDepth l D cI cJ cN cR (rf 14) (rf 17) H.size f_E_size_25 f_E_leftTop f_E_leftBottom f_E_rightTop f_E_rightBottom f_E_terms_25 r55 _ hw) 1 gX7_commonAncestor_X1_cutToDepth rfl ⟨rfl, rfl⟩ nm1_cutToDepth ⟨Nat.le_of_ble_eq_true rfl, Nat.le_of_ble_eq_true rfl⟩ (q0 := 0) rfl rfl rfl rfl hl.1 rfl (Nat.le_of_ble_eq_true rfl) dX7_commonAncestor_64 ⟨Nat.le_of_ble_eq_true rfl, Nat.le_of_ble_eq_true rfl⟩ hPc hDc) (fun u64 H locs hw hP hD hS => ?_)
        obtain ⟨f_E_size_64, f_E_terms_64⟩ := u64
        dsimp only at hw
        have hP : va_P D vwCl [((rf 0), o7 rf f_hasSnapshot f_termListSize f_textSize), ((rf 1), ai cI 8 f_tops), ((rf 2), ai cI 8 f_bottoms), ((rf 15), o1 (rf 18) f_O_size_46 f_O_leftTop f_O_leftBottom f_O_rightTop f_O_rightBottom), ((rf 18), ai cI 64 f_O_terms_46), ((rf 14), o1 (rf 17) f_E_size_64 f_E_leftTop f_E_leftBottom f_E_rightTop f_E_rightBottom), ((rf 17), ai cI 64 f_E_terms_64)] H := hP
        have hD : va_D A [((rf 0), o7 rf f_hasSnapshot f_termListSize f_textSize), ((rf 1), ai cI 8 f_tops), ((rf 2), ai cI 8 f_bottoms), ((rf 15), o1 (rf 18) f_O_size_46 f_O_leftTop f_O_leftBottom f_O_rightTop f_O_rightBottom), ((rf 18), ai cI 64 f_O_terms_46), ((rf 14), o1 (rf 17) f_E_size_64 f_E_leftTop f_E_leftBottom f_E_rightTop f_E_rightBottom), ((rf 17), ai cI 64 f_E_terms_64)] := hD
        refine lv_aload_n hx hb dX7_commonAncestor_67 rfl (lv_at hl 2 rfl) ?_
        refine lv_iload_n hx hb dX7_commonAncestor_68 rfl (lv_at hl 3 rfl) ?_
        refine lv_aload hx hb dX7_commonAncestor_69 (lv_at hl 1 rfl) ?_
        refine lv_aload hx hb dX7_commonAncestor_71 (lv_at hl 1 rfl) ?_
        refine kcRI (wc := [((rf 14), o1 (rf 17) f_E_size_64 f_E_leftTop f_E_leftBottom f_E_rightTop f_E_rightBottom)]) hP [5] rfl (fun hPc => oV (As := []) (rest := [.ref (rf 14), .int v1, .ref (rf 0)]) C0 hK hN (c1_size l D cI cJ cN cR (rf 14) (rf 17) f_E_size_64 f_E_leftTop f_E_leftBottom f_E_rightTop f_E_rightBottom  _ hw) 0 gX7_commonAncestor_X1_size rfl ⟨rfl, rfl⟩ nm1_size ⟨Nat.le_of_ble_eq_true rfl, Nat.le_of_ble_eq_true rfl⟩ (q0 := 0) rfl rfl rfl rfl hl.1 rfl (Nat.le_of_ble_eq_true rfl) dX7_commonAncestor_73 ⟨Nat.le_of_ble_eq_true rfl, Nat.le_of_ble_eq_true rfl⟩ hPc) (fun r73 hw => ?_)
        refine lv_iconst (v := (1 : Int32)) hx hb dX7_commonAncestor_76 (by decide) ?_
        refine lv_isub hx hb dX7_commonAncestor_77 ?_
        refine kcI (wc := [((rf 0), o7 rf f_hasSnapshot f_termListSize f_textSize), ((rf 1), ai cI 8 f_tops), ((rf 2), ai cI 8 f_bottoms), ((rf 14), o1 (rf 17) f_E_size_64 f_E_leftTop f_E_leftBottom f_E_rightTop f_E_rightBottom), ((rf 17), ai cI 64 f_E_terms_64)]) (wr := [((rf 15), o1 (rf 18) f_O_size_46 f_O_leftTop f_O_leftBottom f_O_rightTop f_O_rightBottom), ((rf 18), ai cI 64 f_O_terms_46)]) hP hD hS hA [0, 1, 2, 5, 6] [3, 4] rfl rfl ⟨rfl, rfl, by decide⟩ (fun hPc hDc => rV (As := [.int v1, .ref (rf 14), .int (r73 - (1 : Int32))]) (rest := []) C0 hK hN (c7_storeConvergent l D cI cJ cN cR rf (rf 14) (rf 17) H.size f_hasSnapshot f_termListSize f_textSize f_tops f_bottoms f_E_size_64 f_E_leftTop f_E_leftBottom f_E_rightTop f_E_rightBottom f_E_terms_64 v1 (r73 - (1 : Int32)) _ hw) 3 gX7_commonAncestor_X7_storeConvergent rfl ⟨rfl, rfl⟩ nm7_storeConvergent ⟨Nat.le_of_ble_eq_true rfl, Nat.le_of_ble_eq_true rfl⟩ (q0 := 0) rfl rfl rfl rfl hl.1 rfl (Nat.le_of_ble_eq_true rfl) dX7_commonAncestor_78 ⟨Nat.le_of_ble_eq_true rfl, Nat.le_of_ble_eq_true rfl⟩ hPc hDc) (fun r78 u78 H locs hw hP hD hS => ?_)
        obtain ⟨f_tops_78, f_bottoms_78⟩ := u78
        dsimp only at hw
        have hP : va_P D vwCl [((rf 15), o1 (rf 18) f_O_size_46 f_O_leftTop f_O_leftBottom f_O_rightTop f_O_rightBottom), ((rf 18), ai cI 64 f_O_terms_46), ((rf 0), o7 rf f_hasSnapshot f_termListSize f_textSize), ((rf 1), ai cI 8 f_tops_78), ((rf 2), ai cI 8 f_bottoms_78), ((rf 14), o1 (rf 17) f_E_size_64 f_E_leftTop f_E_leftBottom f_E_rightTop f_E_rightBottom), ((rf 17), ai cI 64 f_E_terms_64)] H := hP
        have hD : va_D A [((rf 15), o1 (rf 18) f_O_size_46 f_O_leftTop f_O_leftBottom f_O_rightTop f_O_rightBottom), ((rf 18), ai cI 64 f_O_terms_46), ((rf 0), o7 rf f_hasSnapshot f_termListSize f_textSize), ((rf 1), ai cI 8 f_tops_78), ((rf 2), ai cI 8 f_bottoms_78), ((rf 14), o1 (rf 17) f_E_size_64 f_E_leftTop f_E_leftBottom f_E_rightTop f_E_rightBottom), ((rf 17), ai cI 64 f_E_terms_64)] := hD
        refine lv_pop hx hb dX7_commonAncestor_81 rfl ?_
        refine lv_iload hx hb dX7_commonAncestor_82 (lv_at hl 0 rfl) ?_
        obtain ⟨hP, hD⟩ := k_sub (ws' := [((rf 0), o7 rf f_hasSnapshot f_termListSize f_textSize), ((rf 1), ai cI 8 f_tops_78), ((rf 2), ai cI 8 f_bottoms_78), ((rf 14), o1 (rf 17) f_E_size_64 f_E_leftTop f_E_leftBottom f_E_rightTop f_E_rightBottom), ((rf 15), o1 (rf 18) f_O_size_46 f_O_leftTop f_O_leftBottom f_O_rightTop f_O_rightBottom), ((rf 17), ai cI 64 f_E_terms_64), ((rf 18), ai cI 64 f_O_terms_46)]) hP hD [2, 3, 4, 5, 0, 6, 1] rfl rfl
        exact RET _ _ _ (f_tops_78, f_bottoms_78, f_E_size_64, f_O_size_46, f_E_terms_64, f_O_terms_46) _ _ hw hP hD hS dX7_commonAncestor_84
      · have hw := hw.2 k
        refine lv_iconst (v := (-1 : Int32)) hx hb dX7_commonAncestor_21 (by decide) ?_
        exact RET _ _ _ (f_tops, f_bottoms, f_E_size, f_O_size, f_E_terms, f_O_terms) _ _ hw hP hD hS dX7_commonAncestor_22
abbrev rm7_simplestBetween : Room := { frames := 3, cells := 0, slots := 0, locals := 84 }
theorem nm7_simplestBetween : kNm yX7_simplestBetween 3 := by decide +kernel
set_option maxHeartbeats 4000000 in
set_option maxRecDepth 100000 in
theorem c7_simplestBetween (l : Launch) (D : va_G) (cI cJ cN cR : ClassId) (rf : Nat → Nat) (sz : Nat) (f_hasSnapshot : Int32) (f_termListSize : Int32) (f_textSize : Int32) (f_tops : (Nat → Int32)) (f_bottoms : (Nat → Int32)) (f_E_size : Int32) (f_E_leftTop : Int64) (f_E_leftBottom : Int64) (f_E_rightTop : Int64) (f_E_rightBottom : Int64) (f_E_terms : (Nat → Int32)) (v1 : Int32) (v2 : Int32) (v3 : Int32) (post : Int32 → (Nat → Int32) → (Nat → Int32) → Int32 → (Nat → Int32) → Prop) (hw : w7_simplestBetween f_tops f_bottoms f_E_size f_E_terms v1 v2 v3 post) : Met l yX7_simplestBetween wsX7_simplestBetween rm7_simplestBetween (kP D (kT cI cJ cN cR) sz [.ref (rf 0), .int v1, .int v2, .int v3] [((rf 0), o7 rf f_hasSnapshot f_termListSize f_textSize), ((rf 1), ai cI 8 f_tops), ((rf 2), ai cI 8 f_bottoms), ((rf 14), o1 (rf 17) f_E_size f_E_leftTop f_E_leftBottom f_E_rightTop f_E_rightBottom), ((rf 17), ai cI 64 f_E_terms)]) (kQi D [((rf 0), o7 rf f_hasSnapshot f_termListSize f_textSize), ((rf 1), ai cI 8 f_tops), ((rf 2), ai cI 8 f_bottoms), ((rf 14), o1 (rf 17) f_E_size f_E_leftTop f_E_leftBottom f_E_rightTop f_E_rightBottom), ((rf 17), ai cI 64 f_E_terms)] sz (fun (r : Int32) (u : (Nat → Int32) × (Nat → Int32) × Int32 × (Nat → Int32)) => post r u.1 u.2.1 u.2.2.1 u.2.2.2) (fun (u : (Nat → Int32) × (Nat → Int32) × Int32 × (Nat → Int32)) => [((rf 0), o7 rf f_hasSnapshot f_termListSize f_textSize), ((rf 1), ai cI 8 u.1), ((rf 2), ai cI 8 u.2.1), ((rf 14), o1 (rf 17) u.2.2.1 f_E_leftTop f_E_leftBottom f_E_rightTop f_E_rightBottom), ((rf 17), ai cI 64 u.2.2.2)])) 0 0 (va_A [((rf 0), o7 rf f_hasSnapshot f_termListSize f_textSize), ((rf 1), ai cI 8 f_tops), ((rf 2), ai cI 8 f_bottoms), ((rf 14), o1 (rf 17) f_E_size f_E_leftTop f_E_leftBottom f_E_rightTop f_E_rightBottom), ((rf 17), ai cI 64 f_E_terms)] sz) := by
  refine kMetI (cc := cX7_simplestBetween) (maxL := 4) (by decide +kernel) rfl (Nat.le_of_ble_eq_true rfl) ?_
  intro p e s m args below meth c H0 ls A Q C0 hK hN hP hD hS hA hl RET
  obtain ⟨hx, hb, hml, hown, hts⟩ := id C0
  have hl : lv_has ls 4 [(0, .ref (rf 0)), (1, .int v1), (2, .int v2), (3, .int v3)] := hl
  have g48 := hts (.fieldLink RX7 48 "SternBrocotExplorer" "expansion" "LSternBrocotExplorer$Expansion;") (by decide +kernel)
  have g9 := hts (.fieldLink RX7 9 "SternBrocotExplorer" "tops" "[I") (by decide +kernel)
  have g13 := hts (.fieldLink RX7 13 "SternBrocotExplorer" "bottoms" "[I") (by decide +kernel)
  have hi9 : ∀ w ∈ wsX70, w ∈ wsX7_simplestBetween := fun w h => List.mem_cons_of_mem _ (List.mem_append_left _ (List.mem_append_right _ h))
  unfold w7_simplestBetween at hw
  have hP : va_P D vwCl [((rf 0), o7 rf f_hasSnapshot f_termListSize f_textSize), ((rf 1), ai cI 8 f_tops), ((rf 2), ai cI 8 f_bottoms), ((rf 14), o1 (rf 17) f_E_size f_E_leftTop f_E_leftBottom f_E_rightTop f_E_rightBottom), ((rf 17), ai cI 64 f_E_terms)] H0 := hP
  refine lv_iload_n hx hb dX7_simplestBetween_0 rfl (lv_at hl 1 rfl) ?_
  refine kcRI (wc := []) hP [] rfl (fun hPc => oS (As := [.int v1]) (rest := []) C0 hK hN (c7_isRegister l D cI cJ cN cR   v1 _ hw) 1 gX7_simplestBetween_X7_isRegister rfl ⟨rfl, rfl⟩ nm7_isRegister ⟨Nat.le_of_ble_eq_true rfl, Nat.le_of_ble_eq_true rfl⟩ rfl hl.1 rfl (Nat.le_of_ble_eq_true rfl) dX7_simplestBetween_1 ⟨Nat.le_of_ble_eq_true rfl, Nat.le_of_ble_eq_true rfl⟩ hPc) (fun r1 hw => ?_)
  obtain ⟨nb1, hw⟩ := hw
  refine lv_if_eq (tgt := 21) hx hb dX7_simplestBetween_4 (by decide) (fun k => ?_) (fun k => ?_)
  · have hw := hw.1 k
    refine lv_iconst (v := (-1 : Int32)) hx hb dX7_simplestBetween_21 (by decide) ?_
    exact RET _ _ _ (f_tops, f_bottoms, f_E_size, f_E_terms) _ _ hw hP hD hS dX7_simplestBetween_22
  · have hw := hw.2 k
    refine lv_iload_n hx hb dX7_simplestBetween_7 rfl (lv_at hl 2 rfl) ?_
    refine kcRI (wc := []) hP [] rfl (fun hPc => oS (As := [.int v2]) (rest := []) C0 hK hN (c7_isRegister l D cI cJ cN cR   v2 _ hw) 1 gX7_simplestBetween_X7_isRegister rfl ⟨rfl, rfl⟩ nm7_isRegister ⟨Nat.le_of_ble_eq_true rfl, Nat.le_of_ble_eq_true rfl⟩ rfl hl.1 rfl (Nat.le_of_ble_eq_true rfl) dX7_simplestBetween_8 ⟨Nat.le_of_ble_eq_true rfl, Nat.le_of_ble_eq_true rfl⟩ hPc) (fun r8 hw => ?_)
    obtain ⟨nb8, hw⟩ := hw
    refine lv_if_eq (tgt := 21) hx hb dX7_simplestBetween_11 (by decide) (fun k => ?_) (fun k => ?_)
    · have hw := hw.1 k
      refine lv_iconst (v := (-1 : Int32)) hx hb dX7_simplestBetween_21 (by decide) ?_
      exact RET _ _ _ (f_tops, f_bottoms, f_E_size, f_E_terms) _ _ hw hP hD hS dX7_simplestBetween_22
    · have hw := hw.2 k
      refine lv_iload_n hx hb dX7_simplestBetween_14 rfl (lv_at hl 3 rfl) ?_
      refine kcRI (wc := []) hP [] rfl (fun hPc => oS (As := [.int v3]) (rest := []) C0 hK hN (c7_isRegister l D cI cJ cN cR   v3 _ hw) 1 gX7_simplestBetween_X7_isRegister rfl ⟨rfl, rfl⟩ nm7_isRegister ⟨Nat.le_of_ble_eq_true rfl, Nat.le_of_ble_eq_true rfl⟩ rfl hl.1 rfl (Nat.le_of_ble_eq_true rfl) dX7_simplestBetween_15 ⟨Nat.le_of_ble_eq_true rfl, Nat.le_of_ble_eq_true rfl⟩ hPc) (fun r15 hw => ?_)
      obtain ⟨nb15, hw⟩ := hw
      refine lv_if_ne (tgt := 23) hx hb dX7_simplestBetween_18 (by decide) (fun k => ?_) (fun k => ?_)
      · have hw := hw.1 k
        refine lv_aload_n hx hb dX7_simplestBetween_23 rfl (lv_at hl 0 rfl) ?_
        refine lv_iload_n hx hb dX7_simplestBetween_24 rfl (lv_at hl 2 rfl) ?_
        refine lv_iload_n hx hb dX7_simplestBetween_25 rfl (lv_at hl 3 rfl) ?_
        refine kcRL (wc := [((rf 0), o7 rf f_hasSnapshot f_termListSize f_textSize), ((rf 1), ai cI 8 f_tops), ((rf 2), ai cI 8 f_bottoms)]) hP [0, 1, 2] rfl (fun hPc => oV (As := [.int v2, .int v3]) (rest := []) C0 hK hN (c7_crossDifference l D cI cJ cN cR rf f_hasSnapshot f_termListSize f_textSize f_tops f_bottoms v2 v3 _ hw) 2 gX7_simplestBetween_X7_crossDifference rfl ⟨rfl, rfl⟩ nm7_crossDifference ⟨Nat.le_of_ble_eq_true rfl, Nat.le_of_ble_eq_true rfl⟩ (q0 := 0) rfl rfl rfl rfl hl.1 rfl (Nat.le_of_ble_eq_true rfl) dX7_simplestBetween_26 ⟨Nat.le_of_ble_eq_true rfl, Nat.le_of_ble_eq_true rfl⟩ hPc) (fun r26 hw => ?_)
        refine lv_lconst (v := (0 : Int64)) hx hb dX7_simplestBetween_29 (by decide) ?_
        refine W.lcmp hx hb dX7_simplestBetween_30 ?_
        refine lv_if_lt (tgt := 37) hx hb dX7_simplestBetween_31 (by decide) (fun k => ?_) (fun k => ?_)
        · have hw := hw.1 ((lg_cmp_lt _ _).mp k)
          refine lv_aload_n hx hb dX7_simplestBetween_37 rfl (lv_at hl 0 rfl) ?_
          refine va_get (D := D) (ci := 2) (v := .ref (rf 14)) (C := RX7) (T := TX7) (N := 16) hx hb hts hi9 hown hK hP 0 rfl rfl 13 (by decide) g48 (fun _ h9 => h9) rfl dX7_simplestBetween_38 ?_
          refine lv_aload_n hx hb dX7_simplestBetween_41 rfl (lv_at hl 0 rfl) ?_
          refine va_get (D := D) (ci := 2) (v := .ref (rf 1)) (C := RX7) (T := TX7) (N := 16) hx hb hts hi9 hown hK hP 0 rfl rfl 0 (by decide) g9 (fun _ h9 => h9) rfl dX7_simplestBetween_42 ?_
          refine lv_iload_n hx hb dX7_simplestBetween_45 rfl (lv_at hl 2 rfl) ?_
          obtain ⟨hin, hw⟩ := hw
          refine va_iald hx hb hK hP 1 0 rfl rfl hin dX7_simplestBetween_46 ?_
          refine lv_aload_n hx hb dX7_simplestBetween_47 rfl (lv_at hl 0 rfl) ?_
          refine va_get (D := D) (ci := 2) (v := .ref (rf 2)) (C := RX7) (T := TX7) (N := 16) hx hb hts hi9 hown hK hP 0 rfl rfl 1 (by decide) g13 (fun _ h9 => h9) rfl dX7_simplestBetween_48 ?_
          refine lv_iload_n hx hb dX7_simplestBetween_51 rfl (lv_at hl 2 rfl) ?_
          obtain ⟨hin, hw⟩ := hw
          refine va_iald hx hb hK hP 2 0 rfl rfl hin dX7_simplestBetween_52 ?_
          refine lv_aload_n hx hb dX7_simplestBetween_53 rfl (lv_at hl 0 rfl) ?_
          refine va_get (D := D) (ci := 2) (v := .ref (rf 1)) (C := RX7) (T := TX7) (N := 16) hx hb hts hi9 hown hK hP 0 rfl rfl 0 (by decide) g9 (fun _ h9 => h9) rfl dX7_simplestBetween_54 ?_
          refine lv_iload_n hx hb dX7_simplestBetween_57 rfl (lv_at hl 3 rfl) ?_
          obtain ⟨hin, hw⟩ := hw
          refine va_iald hx hb hK hP 1 0 rfl rfl hin dX7_simplestBetween_58 ?_
          refine lv_aload_n hx hb dX7_simplestBetween_59 rfl (lv_at hl 0 rfl) ?_
          refine va_get (D := D) (ci := 2) (v := .ref (rf 2)) (C := RX7) (T := TX7) (N := 16) hx hb hts hi9 hown hK hP 0 rfl rfl 1 (by decide) g13 (fun _ h9 => h9) rfl dX7_simplestBetween_60 ?_
          refine lv_iload_n hx hb dX7_simplestBetween_63 rfl (lv_at hl 3 rfl) ?_
          obtain ⟨hin, hw⟩ := hw
          refine va_iald hx hb hK hP 2 0 rfl rfl hin dX7_simplestBetween_64 ?_
          refine kcV (wc := [((rf 14), o1 (rf 17) f_E_size f_E_leftTop f_E_leftBottom f_E_rightTop f_E_rightBottom), ((rf 17), ai cI 64 f_E_terms)]) (wr := [((rf 0), o7 rf f_hasSnapshot f_termListSize f_textSize), ((rf 1), ai cI 8 f_tops), ((rf 2), ai cI 8 f_bottoms)]) hP hD hS hA [3, 4] [0, 1, 2] rfl rfl ⟨rfl, rfl, by decide⟩ (fun hPc hDc => rV (As := [.int (f_tops v2.toNatClampNeg), .int (f_bottoms v2.toNatClampNeg), .int (f_tops v3.toNatClampNeg), .int (f_bottoms v3.toNatClampNeg)]) (rest := []) C0 hK hN (c1_becomeSimplestBetween l D cI cJ cN cR (rf 14) (rf 17) H0.size f_E_size f_E_leftTop f_E_leftBottom f_E_rightTop f_E_rightBottom f_E_terms (f_tops v2.toNatClampNeg) (f_bottoms v2.toNatClampNeg) (f_tops v3.toNatClampNeg) (f_bottoms v3.toNatClampNeg) _ hw) 4 gX7_simplestBetween_X1_becomeSimplestBetween rfl ⟨rfl, rfl⟩ nm1_becomeSimplestBetween ⟨Nat.le_of_ble_eq_true rfl, Nat.le_of_ble_eq_true rfl⟩ (q0 := 0) rfl rfl rfl rfl hl.1 rfl (Nat.le_of_ble_eq_true rfl) dX7_simplestBetween_65 ⟨Nat.le_of_ble_eq_true rfl, Nat.le_of_ble_eq_true rfl⟩ hPc hDc) (fun u65 H locs hw hP hD hS => ?_)
          obtain ⟨f_E_size_65, f_E_terms_65⟩ := u65
          dsimp only at hw
          have hP : va_P D vwCl [((rf 0), o7 rf f_hasSnapshot f_termListSize f_textSize), ((rf 1), ai cI 8 f_tops), ((rf 2), ai cI 8 f_bottoms), ((rf 14), o1 (rf 17) f_E_size_65 f_E_leftTop f_E_leftBottom f_E_rightTop f_E_rightBottom), ((rf 17), ai cI 64 f_E_terms_65)] H := hP
          have hD : va_D A [((rf 0), o7 rf f_hasSnapshot f_termListSize f_textSize), ((rf 1), ai cI 8 f_tops), ((rf 2), ai cI 8 f_bottoms), ((rf 14), o1 (rf 17) f_E_size_65 f_E_leftTop f_E_leftBottom f_E_rightTop f_E_rightBottom), ((rf 17), ai cI 64 f_E_terms_65)] := hD
          refine lv_aload_n hx hb dX7_simplestBetween_68 rfl (lv_at hl 0 rfl) ?_
          refine lv_iload_n hx hb dX7_simplestBetween_69 rfl (lv_at hl 1 rfl) ?_
          refine lv_aload_n hx hb dX7_simplestBetween_70 rfl (lv_at hl 0 rfl) ?_
          refine va_get (D := D) (ci := 2) (v := .ref (rf 14)) (C := RX7) (T := TX7) (N := 16) hx hb hts hi9 hown hK hP 0 rfl rfl 13 (by decide) g48 (fun _ h9 => h9) rfl dX7_simplestBetween_71 ?_
          refine lv_aload_n hx hb dX7_simplestBetween_74 rfl (lv_at hl 0 rfl) ?_
          refine va_get (D := D) (ci := 2) (v := .ref (rf 14)) (C := RX7) (T := TX7) (N := 16) hx hb hts hi9 hown hK hP 0 rfl rfl 13 (by decide) g48 (fun _ h9 => h9) rfl dX7_simplestBetween_75 ?_
          refine kcRI (wc := [((rf 14), o1 (rf 17) f_E_size_65 f_E_leftTop f_E_leftBottom f_E_rightTop f_E_rightBottom)]) hP [3] rfl (fun hPc => oV (As := []) (rest := [.ref (rf 14), .int v1, .ref (rf 0)]) C0 hK hN (c1_size l D cI cJ cN cR (rf 14) (rf 17) f_E_size_65 f_E_leftTop f_E_leftBottom f_E_rightTop f_E_rightBottom  _ hw) 0 gX7_simplestBetween_X1_size rfl ⟨rfl, rfl⟩ nm1_size ⟨Nat.le_of_ble_eq_true rfl, Nat.le_of_ble_eq_true rfl⟩ (q0 := 0) rfl rfl rfl rfl hl.1 rfl (Nat.le_of_ble_eq_true rfl) dX7_simplestBetween_78 ⟨Nat.le_of_ble_eq_true rfl, Nat.le_of_ble_eq_true rfl⟩ hPc) (fun r78 hw => ?_)
          refine lv_iconst (v := (1 : Int32)) hx hb dX7_simplestBetween_81 (by decide) ?_
          refine lv_isub hx hb dX7_simplestBetween_82 ?_
          refine kcI (wc := [((rf 0), o7 rf f_hasSnapshot f_termListSize f_textSize), ((rf 1), ai cI 8 f_tops), ((rf 2), ai cI 8 f_bottoms), ((rf 14), o1 (rf 17) f_E_size_65 f_E_leftTop f_E_leftBottom f_E_rightTop f_E_rightBottom), ((rf 17), ai cI 64 f_E_terms_65)]) (wr := []) hP hD hS hA [0, 1, 2, 3, 4] [] rfl rfl ⟨rfl, rfl, by decide⟩ (fun hPc hDc => rV (As := [.int v1, .ref (rf 14), .int (r78 - (1 : Int32))]) (rest := []) C0 hK hN (c7_storeConvergent l D cI cJ cN cR rf (rf 14) (rf 17) H.size f_hasSnapshot f_termListSize f_textSize f_tops f_bottoms f_E_size_65 f_E_leftTop f_E_leftBottom f_E_rightTop f_E_rightBottom f_E_terms_65 v1 (r78 - (1 : Int32)) _ hw) 3 gX7_simplestBetween_X7_storeConvergent rfl ⟨rfl, rfl⟩ nm7_storeConvergent ⟨Nat.le_of_ble_eq_true rfl, Nat.le_of_ble_eq_true rfl⟩ (q0 := 0) rfl rfl rfl rfl hl.1 rfl (Nat.le_of_ble_eq_true rfl) dX7_simplestBetween_83 ⟨Nat.le_of_ble_eq_true rfl, Nat.le_of_ble_eq_true rfl⟩ hPc hDc) (fun r83 u83 H locs hw hP hD hS => ?_)
          obtain ⟨f_tops_83, f_bottoms_83⟩ := u83
          dsimp only at hw
          have hP : va_P D vwCl [((rf 0), o7 rf f_hasSnapshot f_termListSize f_textSize), ((rf 1), ai cI 8 f_tops_83), ((rf 2), ai cI 8 f_bottoms_83), ((rf 14), o1 (rf 17) f_E_size_65 f_E_leftTop f_E_leftBottom f_E_rightTop f_E_rightBottom), ((rf 17), ai cI 64 f_E_terms_65)] H := hP
          have hD : va_D A [((rf 0), o7 rf f_hasSnapshot f_termListSize f_textSize), ((rf 1), ai cI 8 f_tops_83), ((rf 2), ai cI 8 f_bottoms_83), ((rf 14), o1 (rf 17) f_E_size_65 f_E_leftTop f_E_leftBottom f_E_rightTop f_E_rightBottom), ((rf 17), ai cI 64 f_E_terms_65)] := hD
          exact RET _ _ _ (f_tops_83, f_bottoms_83, f_E_size_65, f_E_terms_65) _ _ hw hP hD hS dX7_simplestBetween_86
        · have hw := hw.2 (fun h => k ((lg_cmp_lt _ _).mpr h))
          refine lv_bipush (v := (-2 : Int32)) hx hb dX7_simplestBetween_34 (by decide) ?_
          exact RET _ _ _ (f_tops, f_bottoms, f_E_size, f_E_terms) _ _ hw hP hD hS dX7_simplestBetween_36
      · have hw := hw.2 k
        refine lv_iconst (v := (-1 : Int32)) hx hb dX7_simplestBetween_21 (by decide) ?_
        exact RET _ _ _ (f_tops, f_bottoms, f_E_size, f_E_terms) _ _ hw hP hD hS dX7_simplestBetween_22
end
section
/-! constructors: as kMetV, with the name that a final field asks for -/
section KMETC
variable {l : Launch} {y : MethodName} {ws ws' : List Cond} {cc : ByteArray} {maxL : Nat} {rm : Room} {D : va_G} {tys : List (ClassId × FieldType)} {sz : Nat} {av : List Value} {wc : va_W} {mc ms : Nat}
theorem kMetC {S : Type} {post : S → Prop} {wB : S → va_W} (hy : plainName y.cls = true) (hw : ws = Cond.code y cc maxL none :: ws') (hlen : (lg_sl av).length ≤ maxL)
    (body : ∀ (p : Program) (e : Env) (s : State) (m : MethodId) (args : Array Value) (below : List Frame) (meth : Method) (c : Code) (H : Heap) (ls : Array Slot) (A : Nat → Prop) (Q : State → Prop), meth.name = y.name → CallFix p m c cc maxL s args ws y.cls → va_K D vwCl tys s → kN s → va_P D vwCl wc H → va_D A wc → va_S A H H [] → (∀ q, H.size ≤ q → A q) → lv_has ls maxL (lv_args 0 av) →
      (∀ (pc : Nat) (ls : Array Slot) (u : S) (H1 : Heap) (locs : List Loc), post u → va_P D vwCl (wB u) H1 → va_D A (wB u) → va_S A H H1 locs → decode cc pc = .ok (.return_, 1) → W p l e rm s m args below meth c H1 locs mc ms Q (F0 m pc ls [])) →
      W p l e rm s m args below meth c H [] 0 0 Q (F0 m 0 ls [])) : Met l y ws rm (kP D tys sz av wc) (kQv D wc sz post wB) mc ms (va_A wc sz) := by
  refine Met.ofW (cc := cc) (maxL := maxL) (ret := none) hy hw ?_
  intro p e s m args below meth c s₁ B hml hv
  obtain ⟨rfl, hsz, hP, hK, hD0, hN⟩ := hv
  have hlocks := B.notSynchronized
  have hown : s.vm.findClass y.cls = some m.cls := findClass_of_methodNamed B.named
  subst hsz
  have hD := hD0.self (sz := s.heap.size)
  rw [lg_entry_eq]
  refine body p e s m _ below meth c s.heap _ (va_A wc s.heap.size) _ (name_of_methodNamed B.named B.method).1 ⟨B.exec, B.bytes, hml, hown, atoms_spec (ws := ws) B.pre⟩ hK hN hP hD va_S.rf (fun q h => Or.inr h) (lv_entry av hlen) ?_
  intro pc ls u H1 locs hpost hP1 hD1 hS1 hdg
  exact W.vret B.exec B.bytes B.returns (fun t ht hW => ⟨⟨u, rfl, hpost, by show va_P _ _ _ t.heap; rw [ht]; exact hP1, hD1⟩, hS1.F ht⟩) hS1.2.2 hdg
end KMETC
end
section
/-! arrays whose classes are known from the start -/
section KNEW
variable {p : Program} {l : Launch} {e : Env} {R : Room} {s : State} {m : MethodId} {args : Array Value} {below : List Frame} {meth : Method} {c : Code} {H : Heap} {locs : List Loc} {cells slots : Nat} {Q : State → Prop}
variable {cc : ByteArray} {pc : Nat} {ls : Array Slot} {rest st0 : List Value} {D : va_G} {cl : List vw_C} {A : Nat → Prop} {a : Nat} {tys : List (ClassId × FieldType)} {ws : va_W} {H0 : Heap}
theorem k_newI (hexec : p.tables.exec = Jvm.exec) (hb : c.code = cc) (harr : (Cond.arrayClass .int).before args s = true) (hK : va_K D cl tys s) (t0 : Nat) {cI : ClassId} (ht : tys[t0]? = some (cI, .int)) (hP : va_P D cl ws H) (hD : va_D A ws) (hS : va_S A H0 H locs) (hA : ∀ q, H0.size ≤ q → A q)
    {n : Int32} (N' : Nat) (hn : ¬ n < 0) (hN : n.toNatClampNeg = N') (hbytes : N' * 4 ≤ 536870912) (hcells : cells + 1 ≤ R.cells) (hslots : slots + N' ≤ R.slots) (hdg : decode cc pc = .ok (.newarray .int, 2))
    (kk : ∀ (q : Nat) (H1 : Heap), va_P D cl (ws ++ [(q, ai cI N' (fun _ => 0))]) H1 → va_D A (ws ++ [(q, ai cI N' (fun _ => 0))]) → va_S A H0 H1 locs → W p l e R s m args below meth c H1 locs (cells + 1) (slots + N') Q (F0 m (pc + 2) ls (.ref q :: rest))) : W p l e R s m args below meth c H locs cells slots Q (F0 m pc ls (.int n :: rest)) := by
  refine va_newa hexec hb (atype := .int) harr (ty := .int) rfl hK hP hD hS hA (a0 := (N', .inl (fun _ => 0))) (fun cA => rfl) hn hN hbytes hcells hslots hdg (fun q cA H1 hK1 hP1 hD1 hS1 => ?_)
  have h1 : s.vm.findClass ("[" ++ (FieldType.int).toString) = some cA := (hK1.2 tys.length (cA, .int) (by simp)).2
  have h2 : s.vm.findClass ("[" ++ (FieldType.int).toString) = some cI := (hK.2 t0 _ ht).2
  cases Option.some.inj (h1.symm.trans h2)
  exact kk q H1 hP1 hD1 hS1
theorem k_newJ (hexec : p.tables.exec = Jvm.exec) (hb : c.code = cc) (harr : (Cond.arrayClass .long).before args s = true) (hK : va_K D cl tys s) (t0 : Nat) {cJ : ClassId} (ht : tys[t0]? = some (cJ, .long)) (hP : va_P D cl ws H) (hD : va_D A ws) (hS : va_S A H0 H locs) (hA : ∀ q, H0.size ≤ q → A q)
    {n : Int32} (N' : Nat) (hn : ¬ n < 0) (hN : n.toNatClampNeg = N') (hbytes : N' * 8 ≤ 536870912) (hcells : cells + 1 ≤ R.cells) (hslots : slots + N' ≤ R.slots) (hdg : decode cc pc = .ok (.newarray .long, 2))
    (kk : ∀ (q : Nat) (H1 : Heap), va_P D cl (ws ++ [(q, al cJ N' (fun _ => 0))]) H1 → va_D A (ws ++ [(q, al cJ N' (fun _ => 0))]) → va_S A H0 H1 locs → W p l e R s m args below meth c H1 locs (cells + 1) (slots + N') Q (F0 m (pc + 2) ls (.ref q :: rest))) : W p l e R s m args below meth c H locs cells slots Q (F0 m pc ls (.int n :: rest)) := by
  refine va_newa hexec hb (atype := .long) harr (ty := .long) rfl hK hP hD hS hA (a0 := (N', .inr (.inl (fun _ => 0)))) (fun cA => rfl) hn hN hbytes hcells hslots hdg (fun q cA H1 hK1 hP1 hD1 hS1 => ?_)
  have h1 : s.vm.findClass ("[" ++ (FieldType.long).toString) = some cA := (hK1.2 tys.length (cA, .long) (by simp)).2
  have h2 : s.vm.findClass ("[" ++ (FieldType.long).toString) = some cJ := (hK.2 t0 _ ht).2
  cases Option.some.inj (h1.symm.trans h2)
  exact kk q H1 hP1 hD1 hS1
theorem k_newN (hexec : p.tables.exec = Jvm.exec) (hb : c.code = cc) {own C : String} {index : Nat} (hown : s.vm.findClass own = some m.cls) (hclink : (Cond.classLink own index C).before args s = true) (hover : va_AO C s) (hK : va_K D cl tys s) (t0 : Nat) {cN : ClassId} (ht : tys[t0]? = some (cN, .object C)) (hP : va_P D cl ws H) (hD : va_D A ws) (hS : va_S A H0 H locs) (hA : ∀ q, H0.size ≤ q → A q)
    {n : Int32} (N' : Nat) (hn : ¬ n < 0) (hN : n.toNatClampNeg = N') (hbytes : N' * 4 ≤ 536870912) (hcells : cells + 1 ≤ R.cells) (hslots : slots + N' ≤ R.slots) (hdg : decode cc pc = .ok (.anewarray index, 3))
    (kk : ∀ (q : Nat) (H1 : Heap), va_P D cl (ws ++ [(q, aq cN N' (fun _ => none))]) H1 → va_D A (ws ++ [(q, aq cN N' (fun _ => none))]) → va_S A H0 H1 locs → W p l e R s m args below meth c H1 locs (cells + 1) (slots + N') Q (F0 m (pc + 3) ls (.ref q :: rest))) : W p l e R s m args below meth c H locs cells slots Q (F0 m pc ls (.int n :: rest)) := by
  refine va_newq hexec hb hown hclink hover hK hP hD hS hA hn hN hbytes hcells hslots hdg (fun q cA H1 hK1 hP1 hD1 hS1 => ?_)
  obtain ⟨_, _, _, _, _, h1⟩ := (hK1.2 tys.length (cA, .object C) (by simp)).2
  obtain ⟨_, _, _, _, _, h2⟩ := (hK.2 t0 _ ht).2
  cases Option.some.inj (h1.symm.trans h2)
  exact kk q H1 hP1 hD1 hS1
theorem k_newM (hexec : p.tables.exec = Jvm.exec) (hb : c.code = cc) {own : String} {index : Nat} (hown : s.vm.findClass own = some m.cls) (hclink : (Cond.classLink own index "[[I").before args s = true) (hover : va_AOA .int s) (harr : (Cond.arrayClass .int).before args s = true) (hK : va_K D cl tys s) (t0 t1 : Nat) {cR cI : ClassId} (ht : tys[t0]? = some (cR, .array .int)) (ht1 : tys[t1]? = some (cI, .int)) (hP : va_P D cl ws H) (hD : va_D A ws) (hS : va_S A H0 H locs) (hA : ∀ q, H0.size ≤ q → A q)
    (hcells : cells + 4 ≤ R.cells) (hslots : slots + 183 ≤ R.slots) (hdg : decode cc pc = .ok (.multianewarray index 2, 4))
    (kk : ∀ (q r0 r1 r2 : Nat) (H1 : Heap), va_P D cl (ws ++ [(q, .inl (cR, 3, .inr (.inr (.inr (.inr (fun i => if i = 0 then some r0 else if i = 1 then some r1 else if i = 2 then some r2 else none)))))), (r0, ai cI 60 (fun _ => 0)), (r1, ai cI 60 (fun _ => 0)), (r2, ai cI 60 (fun _ => 0))]) H1 → va_D A (ws ++ [(q, .inl (cR, 3, .inr (.inr (.inr (.inr (fun i => if i = 0 then some r0 else if i = 1 then some r1 else if i = 2 then some r2 else none)))))), (r0, ai cI 60 (fun _ => 0)), (r1, ai cI 60 (fun _ => 0)), (r2, ai cI 60 (fun _ => 0))]) → va_S A H0 H1 locs → W p l e R s m args below meth c H1 locs (cells + 4) (slots + 183) Q (F0 m (pc + 4) ls (.ref q :: rest))) : W p l e R s m args below meth c H locs cells slots Q (F0 m pc ls (.int (60 : Int32) :: .int (3 : Int32) :: rest)) := by
  have h2 : s.vm.findClass (FieldType.array .int).toString = some cI := (hK.2 t1 _ ht1).2
  have hP0 : va_P D cl (ws ++ va_pl [] (fun _ => ai cI 60 (fun _ => 0))) H := by
    show va_P D cl (ws ++ []) H
    rw [List.append_nil]; exact hP
  have hD0 : va_D A (ws ++ va_pl [] (fun _ => ai cI 60 (fun _ => 0))) := by
    show va_D A (ws ++ [])
    rw [List.append_nil]; exact hD
  refine va_mna (N' := 3) (K' := 60) (z := (60, .inl (fun _ => 0))) hexec hb hown hclink hover harr h2 hK hP0 hD0 hS hA (by decide) (by decide) (by decide) (by decide) (by decide) (by decide) (by decide) rfl rfl hcells (by omega) (fun c => rfl) hdg (fun q r cA H1 hinj hnl hK1 hP1 hD1 hS1 => ?_)
  have h3 : s.vm.findClass ("[" ++ (FieldType.array .int).toString) = some cA := (hK1.2 tys.length (cA, .array .int) (by simp)).2
  have h4 : s.vm.findClass ("[" ++ (FieldType.array .int).toString) = some cR := (hK.2 t0 _ ht).2
  cases Option.some.inj (h3.symm.trans h4)
  have ef : (fun i => if i < 3 then some (r i) else none) = (fun i => if i = 0 then some (r 0) else if i = 1 then some (r 1) else if i = 2 then some (r 2) else none) := by
    funext i
    by_cases h : i < 3
    · rcases (show i = 0 ∨ i = 1 ∨ i = 2 by omega) with rfl | rfl | rfl <;> rfl
    · rw [if_neg h, if_neg (by omega), if_neg (by omega), if_neg (by omega)]
  have ep : va_pl ([] ++ (List.range 3).map r) (vr_up (fun _ => ai cI 60 (fun _ => 0)) ((List.range 3).map r) (.inl (cI, 60, .inl (fun _ => 0)))) = [(r 0, ai cI 60 (fun _ => 0)), (r 1, ai cI 60 (fun _ => 0)), (r 2, ai cI 60 (fun _ => 0))] := by
    show [(r 0, _), (r 1, _), (r 2, _)] = _
    rw [vr_up_in (show r 0 ∈ (List.range 3).map r from List.mem_map.mpr ⟨0, by decide, rfl⟩), vr_up_in (show r 1 ∈ (List.range 3).map r from List.mem_map.mpr ⟨1, by decide, rfl⟩), vr_up_in (show r 2 ∈ (List.range 3).map r from List.mem_map.mpr ⟨2, by decide, rfl⟩)]
  rw [ep, ef, List.append_assoc] at hP1 hD1
  exact kk q (r 0) (r 1) (r 2) H1 hP1 hD1 hS1
theorem kcW {S : Type} {post : S → Prop} {wB : S → va_W} {wo wc wr : va_W} {mc ms : Nat} {a : Array Value} (hP : va_P D vwCl wo H) (hD : va_D A wo) (hS : va_S A H0 H locs) (hA : ∀ q, H0.size ≤ q → A q) (isC isR : List Nat) (hC : isC.map (fun i => wo[i]?) = wc.map some) (hR : isR.map (fun i => wo[i]?) = wr.map some) (hn : va_nd isC = true ∧ va_nd isR = true ∧ ∀ i ∈ isR, i ∉ isC)
    (hr : va_P D vwCl wc H → va_D A wc → va_Run p l e R s m args below meth c H locs cells slots mc ms (F0 m pc ls st0) rest (kQv D wc H.size post wB a) (va_A wc H.size))
    (kk : ∀ (u : S) (H1 : Heap) (locs1 : List Loc), post u → va_P D vwCl (wr ++ wB u) H1 → va_D A (wr ++ wB u) → va_S A H0 H1 locs1 → W p l e R s m args below meth c H1 locs1 (cells + mc) (slots + ms) Q (F0 m (pc + 3) ls rest)) : W p l e R s m args below meth c H locs cells slots Q (F0 m pc ls st0) := by
  have hF := va_free (wc := wc) hD hS hA isC hC
  refine va_callv (hr (hP.sub isC (k_fm hC)) (hD.sub isC hn.1 hC)) hS (fun q _ h => hF q h) hF (fun u t H1 locs1 ht hvm hw hB hz1 hk1 hS1 => ?_)
  obtain ⟨hP1, hD1⟩ := hB
  rw [ht] at hP1
  obtain ⟨h1, h2⟩ := va_join hP hD isC isR hC hR hn.2.1 hn.2.2 hk1 hF hP1 hD1
  exact kk u H1 locs1 hw h1 h2 hS1
end KNEW
abbrev rm1_init : Room := { frames := 1, cells := 1, slots := 64, locals := 12 }
theorem nm_X1_init : kNm yX1_init 0 := by decide +kernel
set_option maxHeartbeats 8000000 in
set_option maxRecDepth 100000 in
theorem c1_init (l : Launch) (D : va_G) (cI cJ cN cR : ClassId) (sz h0 : Nat) : Met l yX1_init wsX1_init rm1_init (kP D (kT cI cJ cN cR) sz [.ref h0] [(h0, .inr (0, [.null, .int 0, .long 0, .long 0, .long 0, .long 0]))]) (kQv D [(h0, .inr (0, [.null, .int 0, .long 0, .long 0, .long 0, .long 0]))] sz (fun (u : Nat) => True) (fun (u : Nat) => [(h0, o1 u 0 0 0 0 0), (u, ai cI 64 (fun _ => 0))])) 1 64 (va_A [(h0, .inr (0, [.null, .int 0, .long 0, .long 0, .long 0, .long 0]))] sz) := by
  refine kMetC (cc := cX1_init) (maxL := 1) (by decide +kernel) rfl (Nat.le_of_ble_eq_true rfl) ?_
  intro p e s m args below meth c H ls A Q hnm C0 hK hN hP hD hS hA hl RET
  obtain ⟨hx, hb, hml, hown, hts⟩ := id C0
  have hl : lv_has ls 1 [(0, .ref h0)] := hl
  have hi9 : ∀ w ∈ wsX10, w ∈ wsX1_init := fun w h => List.mem_cons_of_mem _ (List.mem_append_right _ h)
  have hP : va_P D vwCl [(h0, .inr (0, [.null, .int 0, .long 0, .long 0, .long 0, .long 0]))] H := hP
  refine lv_aload_n hx hb dX1_init_0 rfl (lv_at hl 0 rfl) ?_
  refine W.objInit hx hb hown (hts (.methodLink RX1 3 objectInit) (by decide +kernel)) (hts (.instanceMethod objectInit) (by decide +kernel)) (hts (.code objectInit ⟨#[0xb1]⟩ 1 none) (List.mem_of_getElem? (i := 3) rfl)) rfl (by rw [hml]; exact hl.1) rfl dX1_init_1 (Nat.le_of_ble_eq_true rfl) (Nat.le_of_ble_eq_true rfl) ?_
  refine W.eq (g2 := F0 m 4 ls []) rfl ?_
  refine lv_aload_n hx hb dX1_init_4 rfl (lv_at hl 0 rfl) ?_
  refine lv_bipush (v := (64 : Int32)) hx hb dX1_init_5 (by decide) ?_
  refine k_newI hx hb (hts (.arrayClass .int) (by decide +kernel)) hK 0 rfl hP hD hS hA 64 (by decide) (by decide) (by decide) (Nat.le_of_ble_eq_true rfl) (Nat.le_of_ble_eq_true rfl) dX1_init_7 (fun q7 H hP hD hS => ?_)
  have hP : va_P D vwCl [(h0, .inr (0, [.null, .int 0, .long 0, .long 0, .long 0, .long 0])), (q7, ai cI 64 (fun _ => 0))] H := hP
  have hD : va_D A [(h0, .inr (0, [.null, .int 0, .long 0, .long 0, .long 0, .long 0])), (q7, ai cI 64 (fun _ => 0))] := hD
  refine va_putF (D := D) (ci := 0) (v := .ref q7) (ty := .array .int) (C := RX1) (T := TX1) (N := 6) hx hb hts hi9 tyX1 tyX1_ok nmX1 hown hK hP hD hS 0 rfl rfl 0 (by decide) (hts (.fieldLink RX1 9 "SternBrocotExplorer$Expansion" "terms" "[I") (by decide +kernel)) (fun _ h9 => h9) (by decide +kernel) hnm (by decide +kernel) (by decide +kernel) rfl rfl (Nat.le_of_ble_eq_true rfl) dX1_init_9 (fun H locs hP hD hS => ?_)
  have hP : va_P D vwCl [(h0, .inr (0, [.ref q7, .int 0, .long 0, .long 0, .long 0, .long 0])), (q7, ai cI 64 (fun _ => 0))] H := hP
  have hD : va_D A [(h0, .inr (0, [.ref q7, .int 0, .long 0, .long 0, .long 0, .long 0])), (q7, ai cI 64 (fun _ => 0))] := hD
  obtain ⟨hP, hD⟩ := k_sub (ws' := [(h0, .inr (0, [.ref q7, .int 0, .long 0, .long 0, .long 0, .long 0])), (q7, ai cI 64 (fun _ => 0))]) hP hD [0, 1] rfl rfl
  exact RET _ _ q7 _ _ trivial hP hD hS dX1_init_12
abbrev rm4_init : Room := { frames := 1, cells := 4, slots := 2320, locals := 12 }
theorem nm_X4_init : kNm yX4_init 0 := by decide +kernel
set_option maxHeartbeats 8000000 in
set_option maxRecDepth 100000 in
theorem c4_init (l : Launch) (D : va_G) (cI cJ cN cR : ClassId) (sz h0 : Nat) : Met l yX4_init wsX4_init rm4_init (kP D (kT cI cJ cN cR) sz [.ref h0] [(h0, .inr (1, [.null, .null, .null, .null, .int 0]))]) (kQv D [(h0, .inr (1, [.null, .null, .null, .null, .int 0]))] sz (fun (u : Nat × Nat × Nat × Nat) => True) (fun (u : Nat × Nat × Nat × Nat) => [(h0, o4 u.1 u.2.1 u.2.2.1 u.2.2.2 0), (u.1, ai cI 720 (fun _ => 0)), (u.2.1, ai cI 720 (fun _ => 0)), (u.2.2.1, ai cI 720 (fun _ => 0)), (u.2.2.2, ai cI 160 (fun _ => 0))])) 4 2320 (va_A [(h0, .inr (1, [.null, .null, .null, .null, .int 0]))] sz) := by
  refine kMetC (cc := cX4_init) (maxL := 1) (by decide +kernel) rfl (Nat.le_of_ble_eq_true rfl) ?_
  intro p e s m args below meth c H ls A Q hnm C0 hK hN hP hD hS hA hl RET
  obtain ⟨hx, hb, hml, hown, hts⟩ := id C0
  have hl : lv_has ls 1 [(0, .ref h0)] := hl
  have hi9 : ∀ w ∈ wsX40, w ∈ wsX4_init := fun w h => List.mem_cons_of_mem _ (List.mem_append_right _ h)
  have hP : va_P D vwCl [(h0, .inr (1, [.null, .null, .null, .null, .int 0]))] H := hP
  refine lv_aload_n hx hb dX4_init_0 rfl (lv_at hl 0 rfl) ?_
  refine W.objInit hx hb hown (hts (.methodLink RX4 1 objectInit) (by decide +kernel)) (hts (.instanceMethod objectInit) (by decide +kernel)) (hts (.code objectInit ⟨#[0xb1]⟩ 1 none) (List.mem_of_getElem? (i := 3) rfl)) rfl (by rw [hml]; exact hl.1) rfl dX4_init_1 (Nat.le_of_ble_eq_true rfl) (Nat.le_of_ble_eq_true rfl) ?_
  refine W.eq (g2 := F0 m 4 ls []) rfl ?_
  refine lv_aload_n hx hb dX4_init_4 rfl (lv_at hl 0 rfl) ?_
  refine lv_sipush (v := (720 : Int32)) hx hb dX4_init_5 (by decide) ?_
  refine k_newI hx hb (hts (.arrayClass .int) (by decide +kernel)) hK 0 rfl hP hD hS hA 720 (by decide) (by decide) (by decide) (Nat.le_of_ble_eq_true rfl) (Nat.le_of_ble_eq_true rfl) dX4_init_8 (fun q8 H hP hD hS => ?_)
  have hP : va_P D vwCl [(h0, .inr (1, [.null, .null, .null, .null, .int 0])), (q8, ai cI 720 (fun _ => 0))] H := hP
  have hD : va_D A [(h0, .inr (1, [.null, .null, .null, .null, .int 0])), (q8, ai cI 720 (fun _ => 0))] := hD
  refine va_putF (D := D) (ci := 1) (v := .ref q8) (ty := .array .int) (C := RX4) (T := TX4) (N := 5) hx hb hts hi9 tyX4 tyX4_ok nmX4 hown hK hP hD hS 0 rfl rfl 0 (by decide) (hts (.fieldLink RX4 9 "SternBrocotExplorer$Ranking" "rankedTops" "[I") (by decide +kernel)) (fun _ h9 => h9) (by decide +kernel) hnm (by decide +kernel) (by decide +kernel) rfl rfl (Nat.le_of_ble_eq_true rfl) dX4_init_10 (fun H locs hP hD hS => ?_)
  have hP : va_P D vwCl [(h0, .inr (1, [.ref q8, .null, .null, .null, .int 0])), (q8, ai cI 720 (fun _ => 0))] H := hP
  have hD : va_D A [(h0, .inr (1, [.ref q8, .null, .null, .null, .int 0])), (q8, ai cI 720 (fun _ => 0))] := hD
  refine lv_aload_n hx hb dX4_init_13 rfl (lv_at hl 0 rfl) ?_
  refine lv_sipush (v := (720 : Int32)) hx hb dX4_init_14 (by decide) ?_
  refine k_newI hx hb (hts (.arrayClass .int) (by decide +kernel)) hK 0 rfl hP hD hS hA 720 (by decide) (by decide) (by decide) (Nat.le_of_ble_eq_true rfl) (Nat.le_of_ble_eq_true rfl) dX4_init_17 (fun q17 H hP hD hS => ?_)
  have hP : va_P D vwCl [(h0, .inr (1, [.ref q8, .null, .null, .null, .int 0])), (q8, ai cI 720 (fun _ => 0)), (q17, ai cI 720 (fun _ => 0))] H := hP
  have hD : va_D A [(h0, .inr (1, [.ref q8, .null, .null, .null, .int 0])), (q8, ai cI 720 (fun _ => 0)), (q17, ai cI 720 (fun _ => 0))] := hD
  refine va_putF (D := D) (ci := 1) (v := .ref q17) (ty := .array .int) (C := RX4) (T := TX4) (N := 5) hx hb hts hi9 tyX4 tyX4_ok nmX4 hown hK hP hD hS 0 rfl rfl 1 (by decide) (hts (.fieldLink RX4 13 "SternBrocotExplorer$Ranking" "rankedBottoms" "[I") (by decide +kernel)) (fun _ h9 => h9) (by decide +kernel) hnm (by decide +kernel) (by decide +kernel) rfl rfl (Nat.le_of_ble_eq_true rfl) dX4_init_19 (fun H locs hP hD hS => ?_)
  have hP : va_P D vwCl [(h0, .inr (1, [.ref q8, .ref q17, .null, .null, .int 0])), (q8, ai cI 720 (fun _ => 0)), (q17, ai cI 720 (fun _ => 0))] H := hP
  have hD : va_D A [(h0, .inr (1, [.ref q8, .ref q17, .null, .null, .int 0])), (q8, ai cI 720 (fun _ => 0)), (q17, ai cI 720 (fun _ => 0))] := hD
  refine lv_aload_n hx hb dX4_init_22 rfl (lv_at hl 0 rfl) ?_
  refine lv_sipush (v := (720 : Int32)) hx hb dX4_init_23 (by decide) ?_
  refine k_newI hx hb (hts (.arrayClass .int) (by decide +kernel)) hK 0 rfl hP hD hS hA 720 (by decide) (by decide) (by decide) (Nat.le_of_ble_eq_true rfl) (Nat.le_of_ble_eq_true rfl) dX4_init_26 (fun q26 H hP hD hS => ?_)
  have hP : va_P D vwCl [(h0, .inr (1, [.ref q8, .ref q17, .null, .null, .int 0])), (q8, ai cI 720 (fun _ => 0)), (q17, ai cI 720 (fun _ => 0)), (q26, ai cI 720 (fun _ => 0))] H := hP
  have hD : va_D A [(h0, .inr (1, [.ref q8, .ref q17, .null, .null, .int 0])), (q8, ai cI 720 (fun _ => 0)), (q17, ai cI 720 (fun _ => 0)), (q26, ai cI 720 (fun _ => 0))] := hD
  refine va_putF (D := D) (ci := 1) (v := .ref q26) (ty := .array .int) (C := RX4) (T := TX4) (N := 5) hx hb hts hi9 tyX4 tyX4_ok nmX4 hown hK hP hD hS 0 rfl rfl 2 (by decide) (hts (.fieldLink RX4 16 "SternBrocotExplorer$Ranking" "keys" "[I") (by decide +kernel)) (fun _ h9 => h9) (by decide +kernel) hnm (by decide +kernel) (by decide +kernel) rfl rfl (Nat.le_of_ble_eq_true rfl) dX4_init_28 (fun H locs hP hD hS => ?_)
  have hP : va_P D vwCl [(h0, .inr (1, [.ref q8, .ref q17, .ref q26, .null, .int 0])), (q8, ai cI 720 (fun _ => 0)), (q17, ai cI 720 (fun _ => 0)), (q26, ai cI 720 (fun _ => 0))] H := hP
  have hD : va_D A [(h0, .inr (1, [.ref q8, .ref q17, .ref q26, .null, .int 0])), (q8, ai cI 720 (fun _ => 0)), (q17, ai cI 720 (fun _ => 0)), (q26, ai cI 720 (fun _ => 0))] := hD
  refine lv_aload_n hx hb dX4_init_31 rfl (lv_at hl 0 rfl) ?_
  refine lv_sipush (v := (160 : Int32)) hx hb dX4_init_32 (by decide) ?_
  refine k_newI hx hb (hts (.arrayClass .int) (by decide +kernel)) hK 0 rfl hP hD hS hA 160 (by decide) (by decide) (by decide) (Nat.le_of_ble_eq_true rfl) (Nat.le_of_ble_eq_true rfl) dX4_init_35 (fun q35 H hP hD hS => ?_)
  have hP : va_P D vwCl [(h0, .inr (1, [.ref q8, .ref q17, .ref q26, .null, .int 0])), (q8, ai cI 720 (fun _ => 0)), (q17, ai cI 720 (fun _ => 0)), (q26, ai cI 720 (fun _ => 0)), (q35, ai cI 160 (fun _ => 0))] H := hP
  have hD : va_D A [(h0, .inr (1, [.ref q8, .ref q17, .ref q26, .null, .int 0])), (q8, ai cI 720 (fun _ => 0)), (q17, ai cI 720 (fun _ => 0)), (q26, ai cI 720 (fun _ => 0)), (q35, ai cI 160 (fun _ => 0))] := hD
  refine va_putF (D := D) (ci := 1) (v := .ref q35) (ty := .array .int) (C := RX4) (T := TX4) (N := 5) hx hb hts hi9 tyX4 tyX4_ok nmX4 hown hK hP hD hS 0 rfl rfl 3 (by decide) (hts (.fieldLink RX4 19 "SternBrocotExplorer$Ranking" "tally" "[I") (by decide +kernel)) (fun _ h9 => h9) (by decide +kernel) hnm (by decide +kernel) (by decide +kernel) rfl rfl (Nat.le_of_ble_eq_true rfl) dX4_init_37 (fun H locs hP hD hS => ?_)
  have hP : va_P D vwCl [(h0, .inr (1, [.ref q8, .ref q17, .ref q26, .ref q35, .int 0])), (q8, ai cI 720 (fun _ => 0)), (q17, ai cI 720 (fun _ => 0)), (q26, ai cI 720 (fun _ => 0)), (q35, ai cI 160 (fun _ => 0))] H := hP
  have hD : va_D A [(h0, .inr (1, [.ref q8, .ref q17, .ref q26, .ref q35, .int 0])), (q8, ai cI 720 (fun _ => 0)), (q17, ai cI 720 (fun _ => 0)), (q26, ai cI 720 (fun _ => 0)), (q35, ai cI 160 (fun _ => 0))] := hD
  obtain ⟨hP, hD⟩ := k_sub (ws' := [(h0, .inr (1, [.ref q8, .ref q17, .ref q26, .ref q35, .int 0])), (q8, ai cI 720 (fun _ => 0)), (q17, ai cI 720 (fun _ => 0)), (q26, ai cI 720 (fun _ => 0)), (q35, ai cI 160 (fun _ => 0))]) hP hD [0, 1, 2, 3, 4] rfl rfl
  exact RET _ _ (q8, q17, q26, q35) _ _ trivial hP hD hS dX4_init_40
abbrev rm7_init : Room := { frames := 2, cells := 22, slots := 2773, locals := 32 }
theorem nm_X7_init : kNm yX7_init 0 := by decide +kernel
set_option maxHeartbeats 8000000 in
set_option maxRecDepth 100000 in
theorem c7_init (l : Launch) (D : va_G) (cI cJ cN cR : ClassId) (sz h0 : Nat) : Met l yX7_init wsX7_init rm7_init (kP D (kT cI cJ cN cR) sz [.ref h0] [(h0, .inr (2, [.null, .null, .null, .null, .null, .null, .int 0, .null, .int 0, .null, .int 0, .null, .null, .null, .null, .null]))]) (kQv D [(h0, .inr (2, [.null, .null, .null, .null, .null, .null, .int 0, .null, .int 0, .null, .int 0, .null, .null, .null, .null, .null]))] sz (fun (u : Nat → Nat) => u 0 = h0) (fun (u : Nat → Nat) => [((u 0), o7 u 0 0 0), ((u 1), ai cI 8 (upd (upd (upd (upd (upd (upd (upd (upd (fun _ => 0) (0 : Int32).toNatClampNeg (1 : Int32)) (1 : Int32).toNatClampNeg (1 : Int32)) (2 : Int32).toNatClampNeg (1 : Int32)) (3 : Int32).toNatClampNeg (1 : Int32)) (4 : Int32).toNatClampNeg (1 : Int32)) (5 : Int32).toNatClampNeg (1 : Int32)) (6 : Int32).toNatClampNeg (1 : Int32)) (7 : Int32).toNatClampNeg (1 : Int32))), ((u 2), ai cI 8 (upd (upd (upd (upd (upd (upd (upd (upd (fun _ => 0) (0 : Int32).toNatClampNeg (1 : Int32)) (1 : Int32).toNatClampNeg (1 : Int32)) (2 : Int32).toNatClampNeg (1 : Int32)) (3 : Int32).toNatClampNeg (1 : Int32)) (4 : Int32).toNatClampNeg (1 : Int32)) (5 : Int32).toNatClampNeg (1 : Int32)) (6 : Int32).toNatClampNeg (1 : Int32)) (7 : Int32).toNatClampNeg (1 : Int32))), ((u 3), aq cN 5 (fun _ => none)), ((u 4), ai cI 8 (fun _ => 0)), ((u 5), ai cI 8 (fun _ => 0)), ((u 6), aq cN 5 (fun _ => none)), ((u 8), ai cI 20 (fun _ => 0)), ((u 10), ai cI 60 (fun _ => 0)), ((u 12), ar cR u), ((u 13), ai cI 3 (upd (upd (upd (fun _ => 0) (0 : Int32).toNatClampNeg (-1 : Int32)) (1 : Int32).toNatClampNeg (-1 : Int32)) (2 : Int32).toNatClampNeg (-1 : Int32))), ((u 14), o1 (u 17) 0 0 0 0 0), ((u 15), o1 (u 18) 0 0 0 0 0), ((u 16), o4 (u 19) (u 20) (u 21) (u 22) 0), ((u 17), ai cI 64 (fun _ => 0)), ((u 18), ai cI 64 (fun _ => 0)), ((u 19), ai cI 720 (fun _ => 0)), ((u 20), ai cI 720 (fun _ => 0)), ((u 21), ai cI 720 (fun _ => 0)), ((u 22), ai cI 160 (fun _ => 0)), ((u 23), ai cI 60 (fun _ => 0)), ((u 24), ai cI 60 (fun _ => 0)), ((u 25), ai cI 60 (fun _ => 0))])) 22 2773 (va_A [(h0, .inr (2, [.null, .null, .null, .null, .null, .null, .int 0, .null, .int 0, .null, .int 0, .null, .null, .null, .null, .null]))] sz) := by
  refine kMetC (cc := cX7_init) (maxL := 2) (by decide +kernel) rfl (Nat.le_of_ble_eq_true rfl) ?_
  intro p e s m args below meth c H ls A Q hnm C0 hK hN hP hD hS hA hl RET
  obtain ⟨hx, hb, hml, hown, hts⟩ := id C0
  have hl : lv_has ls 2 [(0, .ref h0)] := hl
  have hi9 : ∀ w ∈ wsX70, w ∈ wsX7_init := fun w h => List.mem_cons_of_mem _ (List.mem_append_left _ (List.mem_append_left _ (List.mem_append_right _ h)))
  have hP : va_P D vwCl [(h0, .inr (2, [.null, .null, .null, .null, .null, .null, .int 0, .null, .int 0, .null, .int 0, .null, .null, .null, .null, .null]))] H := hP
  refine lv_aload_n hx hb dX7_init_0 rfl (lv_at hl 0 rfl) ?_
  refine W.objInit hx hb hown (hts (.methodLink RX7 1 objectInit) (by decide +kernel)) (hts (.instanceMethod objectInit) (by decide +kernel)) (hts (.code objectInit ⟨#[0xb1]⟩ 1 none) (List.mem_of_getElem? (i := 3) rfl)) rfl (by rw [hml]; exact hl.1) rfl dX7_init_1 (Nat.le_of_ble_eq_true rfl) (Nat.le_of_ble_eq_true rfl) ?_
  refine W.eq (g2 := F0 m 4 ls []) rfl ?_
  refine lv_aload_n hx hb dX7_init_4 rfl (lv_at hl 0 rfl) ?_
  refine lv_bipush (v := (8 : Int32)) hx hb dX7_init_5 (by decide) ?_
  refine k_newI hx hb (hts (.arrayClass .int) (by decide +kernel)) hK 0 rfl hP hD hS hA 8 (by decide) (by decide) (by decide) (Nat.le_of_ble_eq_true rfl) (Nat.le_of_ble_eq_true rfl) dX7_init_7 (fun q7 H hP hD hS => ?_)
  have hP : va_P D vwCl [(h0, .inr (2, [.null, .null, .null, .null, .null, .null, .int 0, .null, .int 0, .null, .int 0, .null, .null, .null, .null, .null])), (q7, ai cI 8 (fun _ => 0))] H := hP
  have hD : va_D A [(h0, .inr (2, [.null, .null, .null, .null, .null, .null, .int 0, .null, .int 0, .null, .int 0, .null, .null, .null, .null, .null])), (q7, ai cI 8 (fun _ => 0))] := hD
  refine va_putF (D := D) (ci := 2) (v := .ref q7) (ty := .array .int) (C := RX7) (T := TX7) (N := 16) hx hb hts hi9 tyX7 tyX7_ok nmX7 hown hK hP hD hS 0 rfl rfl 0 (by decide) (hts (.fieldLink RX7 9 "SternBrocotExplorer" "tops" "[I") (by decide +kernel)) (fun _ h9 => h9) (by decide +kernel) hnm (by decide +kernel) (by decide +kernel) rfl rfl (Nat.le_of_ble_eq_true rfl) dX7_init_9 (fun H locs hP hD hS => ?_)
  have hP : va_P D vwCl [(h0, .inr (2, [.ref q7, .null, .null, .null, .null, .null, .int 0, .null, .int 0, .null, .int 0, .null, .null, .null, .null, .null])), (q7, ai cI 8 (fun _ => 0))] H := hP
  have hD : va_D A [(h0, .inr (2, [.ref q7, .null, .null, .null, .null, .null, .int 0, .null, .int 0, .null, .int 0, .null, .null, .null, .null, .null])), (q7, ai cI 8 (fun _ => 0))] := hD
  refine lv_aload_n hx hb dX7_init_12 rfl (lv_at hl 0 rfl) ?_
  refine lv_bipush (v := (8 : Int32)) hx hb dX7_init_13 (by decide) ?_
  refine k_newI hx hb (hts (.arrayClass .int) (by decide +kernel)) hK 0 rfl hP hD hS hA 8 (by decide) (by decide) (by decide) (Nat.le_of_ble_eq_true rfl) (Nat.le_of_ble_eq_true rfl) dX7_init_15 (fun q15 H hP hD hS => ?_)
  have hP : va_P D vwCl [(h0, .inr (2, [.ref q7, .null, .null, .null, .null, .null, .int 0, .null, .int 0, .null, .int 0, .null, .null, .null, .null, .null])), (q7, ai cI 8 (fun _ => 0)), (q15, ai cI 8 (fun _ => 0))] H := hP
  have hD : va_D A [(h0, .inr (2, [.ref q7, .null, .null, .null, .null, .null, .int 0, .null, .int 0, .null, .int 0, .null, .null, .null, .null, .null])), (q7, ai cI 8 (fun _ => 0)), (q15, ai cI 8 (fun _ => 0))] := hD
  refine va_putF (D := D) (ci := 2) (v := .ref q15) (ty := .array .int) (C := RX7) (T := TX7) (N := 16) hx hb hts hi9 tyX7 tyX7_ok nmX7 hown hK hP hD hS 0 rfl rfl 1 (by decide) (hts (.fieldLink RX7 13 "SternBrocotExplorer" "bottoms" "[I") (by decide +kernel)) (fun _ h9 => h9) (by decide +kernel) hnm (by decide +kernel) (by decide +kernel) rfl rfl (Nat.le_of_ble_eq_true rfl) dX7_init_17 (fun H locs hP hD hS => ?_)
  have hP : va_P D vwCl [(h0, .inr (2, [.ref q7, .ref q15, .null, .null, .null, .null, .int 0, .null, .int 0, .null, .int 0, .null, .null, .null, .null, .null])), (q7, ai cI 8 (fun _ => 0)), (q15, ai cI 8 (fun _ => 0))] H := hP
  have hD : va_D A [(h0, .inr (2, [.ref q7, .ref q15, .null, .null, .null, .null, .int 0, .null, .int 0, .null, .int 0, .null, .null, .null, .null, .null])), (q7, ai cI 8 (fun _ => 0)), (q15, ai cI 8 (fun _ => 0))] := hD
  refine lv_aload_n hx hb dX7_init_20 rfl (lv_at hl 0 rfl) ?_
  refine lv_iconst (v := (5 : Int32)) hx hb dX7_init_21 (by decide) ?_
  refine k_newN hx hb hown (hts (.classLink RX7 16 RX3) (by decide +kernel)) hN.2.2.2.2.2.1 hK 2 rfl hP hD hS hA 5 (by decide) (by decide) (by decide) (Nat.le_of_ble_eq_true rfl) (Nat.le_of_ble_eq_true rfl) dX7_init_22 (fun q22 H hP hD hS => ?_)
  have hP : va_P D vwCl [(h0, .inr (2, [.ref q7, .ref q15, .null, .null, .null, .null, .int 0, .null, .int 0, .null, .int 0, .null, .null, .null, .null, .null])), (q7, ai cI 8 (fun _ => 0)), (q15, ai cI 8 (fun _ => 0)), (q22, aq cN 5 (fun _ => none))] H := hP
  have hD : va_D A [(h0, .inr (2, [.ref q7, .ref q15, .null, .null, .null, .null, .int 0, .null, .int 0, .null, .int 0, .null, .null, .null, .null, .null])), (q7, ai cI 8 (fun _ => 0)), (q15, ai cI 8 (fun _ => 0)), (q22, aq cN 5 (fun _ => none))] := hD
  refine va_putF (D := D) (ci := 2) (v := .ref q22) (ty := .array (.object "SternBrocotExplorer$Node")) (C := RX7) (T := TX7) (N := 16) hx hb hts hi9 tyX7 tyX7_ok nmX7 hown hK hP hD hS 0 rfl rfl 2 (by decide) (hts (.fieldLink RX7 18 "SternBrocotExplorer" "slots" "[LSternBrocotExplorer$Node;") (by decide +kernel)) (fun _ h9 => h9) (by decide +kernel) hnm (by decide +kernel) (by decide +kernel) rfl rfl (Nat.le_of_ble_eq_true rfl) dX7_init_25 (fun H locs hP hD hS => ?_)
  have hP : va_P D vwCl [(h0, .inr (2, [.ref q7, .ref q15, .ref q22, .null, .null, .null, .int 0, .null, .int 0, .null, .int 0, .null, .null, .null, .null, .null])), (q7, ai cI 8 (fun _ => 0)), (q15, ai cI 8 (fun _ => 0)), (q22, aq cN 5 (fun _ => none))] H := hP
  have hD : va_D A [(h0, .inr (2, [.ref q7, .ref q15, .ref q22, .null, .null, .null, .int 0, .null, .int 0, .null, .int 0, .null, .null, .null, .null, .null])), (q7, ai cI 8 (fun _ => 0)), (q15, ai cI 8 (fun _ => 0)), (q22, aq cN 5 (fun _ => none))] := hD
  refine lv_aload_n hx hb dX7_init_28 rfl (lv_at hl 0 rfl) ?_
  refine lv_bipush (v := (8 : Int32)) hx hb dX7_init_29 (by decide) ?_
  refine k_newI hx hb (hts (.arrayClass .int) (by decide +kernel)) hK 0 rfl hP hD hS hA 8 (by decide) (by decide) (by decide) (Nat.le_of_ble_eq_true rfl) (Nat.le_of_ble_eq_true rfl) dX7_init_31 (fun q31 H hP hD hS => ?_)
  have hP : va_P D vwCl [(h0, .inr (2, [.ref q7, .ref q15, .ref q22, .null, .null, .null, .int 0, .null, .int 0, .null, .int 0, .null, .null, .null, .null, .null])), (q7, ai cI 8 (fun _ => 0)), (q15, ai cI 8 (fun _ => 0)), (q22, aq cN 5 (fun _ => none)), (q31, ai cI 8 (fun _ => 0))] H := hP
  have hD : va_D A [(h0, .inr (2, [.ref q7, .ref q15, .ref q22, .null, .null, .null, .int 0, .null, .int 0, .null, .int 0, .null, .null, .null, .null, .null])), (q7, ai cI 8 (fun _ => 0)), (q15, ai cI 8 (fun _ => 0)), (q22, aq cN 5 (fun _ => none)), (q31, ai cI 8 (fun _ => 0))] := hD
  refine va_putF (D := D) (ci := 2) (v := .ref q31) (ty := .array .int) (C := RX7) (T := TX7) (N := 16) hx hb hts hi9 tyX7 tyX7_ok nmX7 hown hK hP hD hS 0 rfl rfl 3 (by decide) (hts (.fieldLink RX7 22 "SternBrocotExplorer" "savedTops" "[I") (by decide +kernel)) (fun _ h9 => h9) (by decide +kernel) hnm (by decide +kernel) (by decide +kernel) rfl rfl (Nat.le_of_ble_eq_true rfl) dX7_init_33 (fun H locs hP hD hS => ?_)
  have hP : va_P D vwCl [(h0, .inr (2, [.ref q7, .ref q15, .ref q22, .ref q31, .null, .null, .int 0, .null, .int 0, .null, .int 0, .null, .null, .null, .null, .null])), (q7, ai cI 8 (fun _ => 0)), (q15, ai cI 8 (fun _ => 0)), (q22, aq cN 5 (fun _ => none)), (q31, ai cI 8 (fun _ => 0))] H := hP
  have hD : va_D A [(h0, .inr (2, [.ref q7, .ref q15, .ref q22, .ref q31, .null, .null, .int 0, .null, .int 0, .null, .int 0, .null, .null, .null, .null, .null])), (q7, ai cI 8 (fun _ => 0)), (q15, ai cI 8 (fun _ => 0)), (q22, aq cN 5 (fun _ => none)), (q31, ai cI 8 (fun _ => 0))] := hD
  refine lv_aload_n hx hb dX7_init_36 rfl (lv_at hl 0 rfl) ?_
  refine lv_bipush (v := (8 : Int32)) hx hb dX7_init_37 (by decide) ?_
  refine k_newI hx hb (hts (.arrayClass .int) (by decide +kernel)) hK 0 rfl hP hD hS hA 8 (by decide) (by decide) (by decide) (Nat.le_of_ble_eq_true rfl) (Nat.le_of_ble_eq_true rfl) dX7_init_39 (fun q39 H hP hD hS => ?_)
  have hP : va_P D vwCl [(h0, .inr (2, [.ref q7, .ref q15, .ref q22, .ref q31, .null, .null, .int 0, .null, .int 0, .null, .int 0, .null, .null, .null, .null, .null])), (q7, ai cI 8 (fun _ => 0)), (q15, ai cI 8 (fun _ => 0)), (q22, aq cN 5 (fun _ => none)), (q31, ai cI 8 (fun _ => 0)), (q39, ai cI 8 (fun _ => 0))] H := hP
  have hD : va_D A [(h0, .inr (2, [.ref q7, .ref q15, .ref q22, .ref q31, .null, .null, .int 0, .null, .int 0, .null, .int 0, .null, .null, .null, .null, .null])), (q7, ai cI 8 (fun _ => 0)), (q15, ai cI 8 (fun _ => 0)), (q22, aq cN 5 (fun _ => none)), (q31, ai cI 8 (fun _ => 0)), (q39, ai cI 8 (fun _ => 0))] := hD
  refine va_putF (D := D) (ci := 2) (v := .ref q39) (ty := .array .int) (C := RX7) (T := TX7) (N := 16) hx hb hts hi9 tyX7 tyX7_ok nmX7 hown hK hP hD hS 0 rfl rfl 4 (by decide) (hts (.fieldLink RX7 25 "SternBrocotExplorer" "savedBottoms" "[I") (by decide +kernel)) (fun _ h9 => h9) (by decide +kernel) hnm (by decide +kernel) (by decide +kernel) rfl rfl (Nat.le_of_ble_eq_true rfl) dX7_init_41 (fun H locs hP hD hS => ?_)
  have hP : va_P D vwCl [(h0, .inr (2, [.ref q7, .ref q15, .ref q22, .ref q31, .ref q39, .null, .int 0, .null, .int 0, .null, .int 0, .null, .null, .null, .null, .null])), (q7, ai cI 8 (fun _ => 0)), (q15, ai cI 8 (fun _ => 0)), (q22, aq cN 5 (fun _ => none)), (q31, ai cI 8 (fun _ => 0)), (q39, ai cI 8 (fun _ => 0))] H := hP
  have hD : va_D A [(h0, .inr (2, [.ref q7, .ref q15, .ref q22, .ref q31, .ref q39, .null, .int 0, .null, .int 0, .null, .int 0, .null, .null, .null, .null, .null])), (q7, ai cI 8 (fun _ => 0)), (q15, ai cI 8 (fun _ => 0)), (q22, aq cN 5 (fun _ => none)), (q31, ai cI 8 (fun _ => 0)), (q39, ai cI 8 (fun _ => 0))] := hD
  refine lv_aload_n hx hb dX7_init_44 rfl (lv_at hl 0 rfl) ?_
  refine lv_iconst (v := (5 : Int32)) hx hb dX7_init_45 (by decide) ?_
  refine k_newN hx hb hown (hts (.classLink RX7 16 RX3) (by decide +kernel)) hN.2.2.2.2.2.1 hK 2 rfl hP hD hS hA 5 (by decide) (by decide) (by decide) (Nat.le_of_ble_eq_true rfl) (Nat.le_of_ble_eq_true rfl) dX7_init_46 (fun q46 H hP hD hS => ?_)
  have hP : va_P D vwCl [(h0, .inr (2, [.ref q7, .ref q15, .ref q22, .ref q31, .ref q39, .null, .int 0, .null, .int 0, .null, .int 0, .null, .null, .null, .null, .null])), (q7, ai cI 8 (fun _ => 0)), (q15, ai cI 8 (fun _ => 0)), (q22, aq cN 5 (fun _ => none)), (q31, ai cI 8 (fun _ => 0)), (q39, ai cI 8 (fun _ => 0)), (q46, aq cN 5 (fun _ => none))] H := hP
  have hD : va_D A [(h0, .inr (2, [.ref q7, .ref q15, .ref q22, .ref q31, .ref q39, .null, .int 0, .null, .int 0, .null, .int 0, .null, .null, .null, .null, .null])), (q7, ai cI 8 (fun _ => 0)), (q15, ai cI 8 (fun _ => 0)), (q22, aq cN 5 (fun _ => none)), (q31, ai cI 8 (fun _ => 0)), (q39, ai cI 8 (fun _ => 0)), (q46, aq cN 5 (fun _ => none))] := hD
  refine va_putF (D := D) (ci := 2) (v := .ref q46) (ty := .array (.object "SternBrocotExplorer$Node")) (C := RX7) (T := TX7) (N := 16) hx hb hts hi9 tyX7 tyX7_ok nmX7 hown hK hP hD hS 0 rfl rfl 5 (by decide) (hts (.fieldLink RX7 28 "SternBrocotExplorer" "savedSlots" "[LSternBrocotExplorer$Node;") (by decide +kernel)) (fun _ h9 => h9) (by decide +kernel) hnm (by decide +kernel) (by decide +kernel) rfl rfl (Nat.le_of_ble_eq_true rfl) dX7_init_49 (fun H locs hP hD hS => ?_)
  have hP : va_P D vwCl [(h0, .inr (2, [.ref q7, .ref q15, .ref q22, .ref q31, .ref q39, .ref q46, .int 0, .null, .int 0, .null, .int 0, .null, .null, .null, .null, .null])), (q7, ai cI 8 (fun _ => 0)), (q15, ai cI 8 (fun _ => 0)), (q22, aq cN 5 (fun _ => none)), (q31, ai cI 8 (fun _ => 0)), (q39, ai cI 8 (fun _ => 0)), (q46, aq cN 5 (fun _ => none))] H := hP
  have hD : va_D A [(h0, .inr (2, [.ref q7, .ref q15, .ref q22, .ref q31, .ref q39, .ref q46, .int 0, .null, .int 0, .null, .int 0, .null, .null, .null, .null, .null])), (q7, ai cI 8 (fun _ => 0)), (q15, ai cI 8 (fun _ => 0)), (q22, aq cN 5 (fun _ => none)), (q31, ai cI 8 (fun _ => 0)), (q39, ai cI 8 (fun _ => 0)), (q46, aq cN 5 (fun _ => none))] := hD
  refine lv_aload_n hx hb dX7_init_52 rfl (lv_at hl 0 rfl) ?_
  refine lv_bipush (v := (20 : Int32)) hx hb dX7_init_53 (by decide) ?_
  refine k_newI hx hb (hts (.arrayClass .int) (by decide +kernel)) hK 0 rfl hP hD hS hA 20 (by decide) (by decide) (by decide) (Nat.le_of_ble_eq_true rfl) (Nat.le_of_ble_eq_true rfl) dX7_init_55 (fun q55 H hP hD hS => ?_)
  have hP : va_P D vwCl [(h0, .inr (2, [.ref q7, .ref q15, .ref q22, .ref q31, .ref q39, .ref q46, .int 0, .null, .int 0, .null, .int 0, .null, .null, .null, .null, .null])), (q7, ai cI 8 (fun _ => 0)), (q15, ai cI 8 (fun _ => 0)), (q22, aq cN 5 (fun _ => none)), (q31, ai cI 8 (fun _ => 0)), (q39, ai cI 8 (fun _ => 0)), (q46, aq cN 5 (fun _ => none)), (q55, ai cI 20 (fun _ => 0))] H := hP
  have hD : va_D A [(h0, .inr (2, [.ref q7, .ref q15, .ref q22, .ref q31, .ref q39, .ref q46, .int 0, .null, .int 0, .null, .int 0, .null, .null, .null, .null, .null])), (q7, ai cI 8 (fun _ => 0)), (q15, ai cI 8 (fun _ => 0)), (q22, aq cN 5 (fun _ => none)), (q31, ai cI 8 (fun _ => 0)), (q39, ai cI 8 (fun _ => 0)), (q46, aq cN 5 (fun _ => none)), (q55, ai cI 20 (fun _ => 0))] := hD
  refine va_putF (D := D) (ci := 2) (v := .ref q55) (ty := .array .int) (C := RX7) (T := TX7) (N := 16) hx hb hts hi9 tyX7 tyX7_ok nmX7 hown hK hP hD hS 0 rfl rfl 7 (by decide) (hts (.fieldLink RX7 31 "SternBrocotExplorer" "termList" "[I") (by decide +kernel)) (fun _ h9 => h9) (by decide +kernel) hnm (by decide +kernel) (by decide +kernel) rfl rfl (Nat.le_of_ble_eq_true rfl) dX7_init_57 (fun H locs hP hD hS => ?_)
  have hP : va_P D vwCl [(h0, .inr (2, [.ref q7, .ref q15, .ref q22, .ref q31, .ref q39, .ref q46, .int 0, .ref q55, .int 0, .null, .int 0, .null, .null, .null, .null, .null])), (q7, ai cI 8 (fun _ => 0)), (q15, ai cI 8 (fun _ => 0)), (q22, aq cN 5 (fun _ => none)), (q31, ai cI 8 (fun _ => 0)), (q39, ai cI 8 (fun _ => 0)), (q46, aq cN 5 (fun _ => none)), (q55, ai cI 20 (fun _ => 0))] H := hP
  have hD : va_D A [(h0, .inr (2, [.ref q7, .ref q15, .ref q22, .ref q31, .ref q39, .ref q46, .int 0, .ref q55, .int 0, .null, .int 0, .null, .null, .null, .null, .null])), (q7, ai cI 8 (fun _ => 0)), (q15, ai cI 8 (fun _ => 0)), (q22, aq cN 5 (fun _ => none)), (q31, ai cI 8 (fun _ => 0)), (q39, ai cI 8 (fun _ => 0)), (q46, aq cN 5 (fun _ => none)), (q55, ai cI 20 (fun _ => 0))] := hD
  refine lv_aload_n hx hb dX7_init_60 rfl (lv_at hl 0 rfl) ?_
  refine lv_bipush (v := (60 : Int32)) hx hb dX7_init_61 (by decide) ?_
  refine k_newI hx hb (hts (.arrayClass .int) (by decide +kernel)) hK 0 rfl hP hD hS hA 60 (by decide) (by decide) (by decide) (Nat.le_of_ble_eq_true rfl) (Nat.le_of_ble_eq_true rfl) dX7_init_63 (fun q63 H hP hD hS => ?_)
  have hP : va_P D vwCl [(h0, .inr (2, [.ref q7, .ref q15, .ref q22, .ref q31, .ref q39, .ref q46, .int 0, .ref q55, .int 0, .null, .int 0, .null, .null, .null, .null, .null])), (q7, ai cI 8 (fun _ => 0)), (q15, ai cI 8 (fun _ => 0)), (q22, aq cN 5 (fun _ => none)), (q31, ai cI 8 (fun _ => 0)), (q39, ai cI 8 (fun _ => 0)), (q46, aq cN 5 (fun _ => none)), (q55, ai cI 20 (fun _ => 0)), (q63, ai cI 60 (fun _ => 0))] H := hP
  have hD : va_D A [(h0, .inr (2, [.ref q7, .ref q15, .ref q22, .ref q31, .ref q39, .ref q46, .int 0, .ref q55, .int 0, .null, .int 0, .null, .null, .null, .null, .null])), (q7, ai cI 8 (fun _ => 0)), (q15, ai cI 8 (fun _ => 0)), (q22, aq cN 5 (fun _ => none)), (q31, ai cI 8 (fun _ => 0)), (q39, ai cI 8 (fun _ => 0)), (q46, aq cN 5 (fun _ => none)), (q55, ai cI 20 (fun _ => 0)), (q63, ai cI 60 (fun _ => 0))] := hD
  refine va_putF (D := D) (ci := 2) (v := .ref q63) (ty := .array .int) (C := RX7) (T := TX7) (N := 16) hx hb hts hi9 tyX7 tyX7_ok nmX7 hown hK hP hD hS 0 rfl rfl 9 (by decide) (hts (.fieldLink RX7 34 "SternBrocotExplorer" "text" "[I") (by decide +kernel)) (fun _ h9 => h9) (by decide +kernel) hnm (by decide +kernel) (by decide +kernel) rfl rfl (Nat.le_of_ble_eq_true rfl) dX7_init_65 (fun H locs hP hD hS => ?_)
  have hP : va_P D vwCl [(h0, .inr (2, [.ref q7, .ref q15, .ref q22, .ref q31, .ref q39, .ref q46, .int 0, .ref q55, .int 0, .ref q63, .int 0, .null, .null, .null, .null, .null])), (q7, ai cI 8 (fun _ => 0)), (q15, ai cI 8 (fun _ => 0)), (q22, aq cN 5 (fun _ => none)), (q31, ai cI 8 (fun _ => 0)), (q39, ai cI 8 (fun _ => 0)), (q46, aq cN 5 (fun _ => none)), (q55, ai cI 20 (fun _ => 0)), (q63, ai cI 60 (fun _ => 0))] H := hP
  have hD : va_D A [(h0, .inr (2, [.ref q7, .ref q15, .ref q22, .ref q31, .ref q39, .ref q46, .int 0, .ref q55, .int 0, .ref q63, .int 0, .null, .null, .null, .null, .null])), (q7, ai cI 8 (fun _ => 0)), (q15, ai cI 8 (fun _ => 0)), (q22, aq cN 5 (fun _ => none)), (q31, ai cI 8 (fun _ => 0)), (q39, ai cI 8 (fun _ => 0)), (q46, aq cN 5 (fun _ => none)), (q55, ai cI 20 (fun _ => 0)), (q63, ai cI 60 (fun _ => 0))] := hD
  refine lv_aload_n hx hb dX7_init_68 rfl (lv_at hl 0 rfl) ?_
  refine lv_iconst (v := (3 : Int32)) hx hb dX7_init_69 (by decide) ?_
  refine lv_bipush (v := (60 : Int32)) hx hb dX7_init_70 (by decide) ?_
  refine k_newM hx hb hown (hts (.classLink RX7 37 "[[I") (by decide +kernel)) hN.2.2.2.2.2.2 (hts (.arrayClass .int) (by decide +kernel)) hK 3 0 rfl rfl hP hD hS hA (Nat.le_of_ble_eq_true rfl) (Nat.le_of_ble_eq_true rfl) dX7_init_72 (fun q72 r72 s72 t72 H hP hD hS => ?_)
  have hP : va_P D vwCl [(h0, .inr (2, [.ref q7, .ref q15, .ref q22, .ref q31, .ref q39, .ref q46, .int 0, .ref q55, .int 0, .ref q63, .int 0, .null, .null, .null, .null, .null])), (q7, ai cI 8 (fun _ => 0)), (q15, ai cI 8 (fun _ => 0)), (q22, aq cN 5 (fun _ => none)), (q31, ai cI 8 (fun _ => 0)), (q39, ai cI 8 (fun _ => 0)), (q46, aq cN 5 (fun _ => none)), (q55, ai cI 20 (fun _ => 0)), (q63, ai cI 60 (fun _ => 0)), (q72, .inl (cR, 3, .inr (.inr (.inr (.inr (fun i => if i = 0 then some r72 else if i = 1 then some s72 else if i = 2 then some t72 else none)))))), (r72, ai cI 60 (fun _ => 0)), (s72, ai cI 60 (fun _ => 0)), (t72, ai cI 60 (fun _ => 0))] H := hP
  have hD : va_D A [(h0, .inr (2, [.ref q7, .ref q15, .ref q22, .ref q31, .ref q39, .ref q46, .int 0, .ref q55, .int 0, .ref q63, .int 0, .null, .null, .null, .null, .null])), (q7, ai cI 8 (fun _ => 0)), (q15, ai cI 8 (fun _ => 0)), (q22, aq cN 5 (fun _ => none)), (q31, ai cI 8 (fun _ => 0)), (q39, ai cI 8 (fun _ => 0)), (q46, aq cN 5 (fun _ => none)), (q55, ai cI 20 (fun _ => 0)), (q63, ai cI 60 (fun _ => 0)), (q72, .inl (cR, 3, .inr (.inr (.inr (.inr (fun i => if i = 0 then some r72 else if i = 1 then some s72 else if i = 2 then some t72 else none)))))), (r72, ai cI 60 (fun _ => 0)), (s72, ai cI 60 (fun _ => 0)), (t72, ai cI 60 (fun _ => 0))] := hD
  refine va_putF (D := D) (ci := 2) (v := .ref q72) (ty := .array (.array .int)) (C := RX7) (T := TX7) (N := 16) hx hb hts hi9 tyX7 tyX7_ok nmX7 hown hK hP hD hS 0 rfl rfl 11 (by decide) (hts (.fieldLink RX7 39 "SternBrocotExplorer" "arrays" "[[I") (by decide +kernel)) (fun _ h9 => h9) (by decide +kernel) hnm (by decide +kernel) (by decide +kernel) rfl rfl (Nat.le_of_ble_eq_true rfl) dX7_init_76 (fun H locs hP hD hS => ?_)
  have hP : va_P D vwCl [(h0, .inr (2, [.ref q7, .ref q15, .ref q22, .ref q31, .ref q39, .ref q46, .int 0, .ref q55, .int 0, .ref q63, .int 0, .ref q72, .null, .null, .null, .null])), (q7, ai cI 8 (fun _ => 0)), (q15, ai cI 8 (fun _ => 0)), (q22, aq cN 5 (fun _ => none)), (q31, ai cI 8 (fun _ => 0)), (q39, ai cI 8 (fun _ => 0)), (q46, aq cN 5 (fun _ => none)), (q55, ai cI 20 (fun _ => 0)), (q63, ai cI 60 (fun _ => 0)), (q72, .inl (cR, 3, .inr (.inr (.inr (.inr (fun i => if i = 0 then some r72 else if i = 1 then some s72 else if i = 2 then some t72 else none)))))), (r72, ai cI 60 (fun _ => 0)), (s72, ai cI 60 (fun _ => 0)), (t72, ai cI 60 (fun _ => 0))] H := hP
  have hD : va_D A [(h0, .inr (2, [.ref q7, .ref q15, .ref q22, .ref q31, .ref q39, .ref q46, .int 0, .ref q55, .int 0, .ref q63, .int 0, .ref q72, .null, .null, .null, .null])), (q7, ai cI 8 (fun _ => 0)), (q15, ai cI 8 (fun _ => 0)), (q22, aq cN 5 (fun _ => none)), (q31, ai cI 8 (fun _ => 0)), (q39, ai cI 8 (fun _ => 0)), (q46, aq cN 5 (fun _ => none)), (q55, ai cI 20 (fun _ => 0)), (q63, ai cI 60 (fun _ => 0)), (q72, .inl (cR, 3, .inr (.inr (.inr (.inr (fun i => if i = 0 then some r72 else if i = 1 then some s72 else if i = 2 then some t72 else none)))))), (r72, ai cI 60 (fun _ => 0)), (s72, ai cI 60 (fun _ => 0)), (t72, ai cI 60 (fun _ => 0))] := hD
  refine lv_aload_n hx hb dX7_init_79 rfl (lv_at hl 0 rfl) ?_
  refine lv_iconst (v := (3 : Int32)) hx hb dX7_init_80 (by decide) ?_
  refine k_newI hx hb (hts (.arrayClass .int) (by decide +kernel)) hK 0 rfl hP hD hS hA 3 (by decide) (by decide) (by decide) (Nat.le_of_ble_eq_true rfl) (Nat.le_of_ble_eq_true rfl) dX7_init_81 (fun q81 H hP hD hS => ?_)
  have hP : va_P D vwCl [(h0, .inr (2, [.ref q7, .ref q15, .ref q22, .ref q31, .ref q39, .ref q46, .int 0, .ref q55, .int 0, .ref q63, .int 0, .ref q72, .null, .null, .null, .null])), (q7, ai cI 8 (fun _ => 0)), (q15, ai cI 8 (fun _ => 0)), (q22, aq cN 5 (fun _ => none)), (q31, ai cI 8 (fun _ => 0)), (q39, ai cI 8 (fun _ => 0)), (q46, aq cN 5 (fun _ => none)), (q55, ai cI 20 (fun _ => 0)), (q63, ai cI 60 (fun _ => 0)), (q72, .inl (cR, 3, .inr (.inr (.inr (.inr (fun i => if i = 0 then some r72 else if i = 1 then some s72 else if i = 2 then some t72 else none)))))), (r72, ai cI 60 (fun _ => 0)), (s72, ai cI 60 (fun _ => 0)), (t72, ai cI 60 (fun _ => 0)), (q81, ai cI 3 (fun _ => 0))] H := hP
  have hD : va_D A [(h0, .inr (2, [.ref q7, .ref q15, .ref q22, .ref q31, .ref q39, .ref q46, .int 0, .ref q55, .int 0, .ref q63, .int 0, .ref q72, .null, .null, .null, .null])), (q7, ai cI 8 (fun _ => 0)), (q15, ai cI 8 (fun _ => 0)), (q22, aq cN 5 (fun _ => none)), (q31, ai cI 8 (fun _ => 0)), (q39, ai cI 8 (fun _ => 0)), (q46, aq cN 5 (fun _ => none)), (q55, ai cI 20 (fun _ => 0)), (q63, ai cI 60 (fun _ => 0)), (q72, .inl (cR, 3, .inr (.inr (.inr (.inr (fun i => if i = 0 then some r72 else if i = 1 then some s72 else if i = 2 then some t72 else none)))))), (r72, ai cI 60 (fun _ => 0)), (s72, ai cI 60 (fun _ => 0)), (t72, ai cI 60 (fun _ => 0)), (q81, ai cI 3 (fun _ => 0))] := hD
  refine va_putF (D := D) (ci := 2) (v := .ref q81) (ty := .array .int) (C := RX7) (T := TX7) (N := 16) hx hb hts hi9 tyX7 tyX7_ok nmX7 hown hK hP hD hS 0 rfl rfl 12 (by decide) (hts (.fieldLink RX7 42 "SternBrocotExplorer" "arraySizes" "[I") (by decide +kernel)) (fun _ h9 => h9) (by decide +kernel) hnm (by decide +kernel) (by decide +kernel) rfl rfl (Nat.le_of_ble_eq_true rfl) dX7_init_83 (fun H locs hP hD hS => ?_)
  have hP : va_P D vwCl [(h0, .inr (2, [.ref q7, .ref q15, .ref q22, .ref q31, .ref q39, .ref q46, .int 0, .ref q55, .int 0, .ref q63, .int 0, .ref q72, .ref q81, .null, .null, .null])), (q7, ai cI 8 (fun _ => 0)), (q15, ai cI 8 (fun _ => 0)), (q22, aq cN 5 (fun _ => none)), (q31, ai cI 8 (fun _ => 0)), (q39, ai cI 8 (fun _ => 0)), (q46, aq cN 5 (fun _ => none)), (q55, ai cI 20 (fun _ => 0)), (q63, ai cI 60 (fun _ => 0)), (q72, .inl (cR, 3, .inr (.inr (.inr (.inr (fun i => if i = 0 then some r72 else if i = 1 then some s72 else if i = 2 then some t72 else none)))))), (r72, ai cI 60 (fun _ => 0)), (s72, ai cI 60 (fun _ => 0)), (t72, ai cI 60 (fun _ => 0)), (q81, ai cI 3 (fun _ => 0))] H := hP
  have hD : va_D A [(h0, .inr (2, [.ref q7, .ref q15, .ref q22, .ref q31, .ref q39, .ref q46, .int 0, .ref q55, .int 0, .ref q63, .int 0, .ref q72, .ref q81, .null, .null, .null])), (q7, ai cI 8 (fun _ => 0)), (q15, ai cI 8 (fun _ => 0)), (q22, aq cN 5 (fun _ => none)), (q31, ai cI 8 (fun _ => 0)), (q39, ai cI 8 (fun _ => 0)), (q46, aq cN 5 (fun _ => none)), (q55, ai cI 20 (fun _ => 0)), (q63, ai cI 60 (fun _ => 0)), (q72, .inl (cR, 3, .inr (.inr (.inr (.inr (fun i => if i = 0 then some r72 else if i = 1 then some s72 else if i = 2 then some t72 else none)))))), (r72, ai cI 60 (fun _ => 0)), (s72, ai cI 60 (fun _ => 0)), (t72, ai cI 60 (fun _ => 0)), (q81, ai cI 3 (fun _ => 0))] := hD
  refine lv_aload_n hx hb dX7_init_86 rfl (lv_at hl 0 rfl) ?_
  refine va_new (ci := 0) (fs := [.null, .int 0, .long 0, .long 0, .long 0, .long 0]) (C := RX1) (T := TX1) (N := 6) hx hb hts (fun w h => List.mem_cons_of_mem _ (List.mem_append_left _ (List.mem_append_right _ h))) tyX1 tyX1_ok hown (hts (.classLink RX7 45 RX1) (by decide +kernel)) (hts (.instantiable RX1 6) (by decide +kernel)) (hts (.initialized RX1) (by decide +kernel)) hK hP hD hS hA rfl (fun j hj => by rcases (show j = 0 ∨ j = 1 ∨ j = 2 ∨ j = 3 ∨ j = 4 ∨ j = 5 by omega) with rfl | rfl | rfl | rfl | rfl | rfl <;> rfl) (Nat.le_of_ble_eq_true rfl) (Nat.le_of_ble_eq_true rfl) dX7_init_87 (fun q87 H hP hD hS => ?_)
  have hP : va_P D vwCl [(h0, .inr (2, [.ref q7, .ref q15, .ref q22, .ref q31, .ref q39, .ref q46, .int 0, .ref q55, .int 0, .ref q63, .int 0, .ref q72, .ref q81, .null, .null, .null])), (q7, ai cI 8 (fun _ => 0)), (q15, ai cI 8 (fun _ => 0)), (q22, aq cN 5 (fun _ => none)), (q31, ai cI 8 (fun _ => 0)), (q39, ai cI 8 (fun _ => 0)), (q46, aq cN 5 (fun _ => none)), (q55, ai cI 20 (fun _ => 0)), (q63, ai cI 60 (fun _ => 0)), (q72, .inl (cR, 3, .inr (.inr (.inr (.inr (fun i => if i = 0 then some r72 else if i = 1 then some s72 else if i = 2 then some t72 else none)))))), (r72, ai cI 60 (fun _ => 0)), (s72, ai cI 60 (fun _ => 0)), (t72, ai cI 60 (fun _ => 0)), (q81, ai cI 3 (fun _ => 0)), (q87, .inr (0, [.null, .int 0, .long 0, .long 0, .long 0, .long 0]))] H := hP
  have hD : va_D A [(h0, .inr (2, [.ref q7, .ref q15, .ref q22, .ref q31, .ref q39, .ref q46, .int 0, .ref q55, .int 0, .ref q63, .int 0, .ref q72, .ref q81, .null, .null, .null])), (q7, ai cI 8 (fun _ => 0)), (q15, ai cI 8 (fun _ => 0)), (q22, aq cN 5 (fun _ => none)), (q31, ai cI 8 (fun _ => 0)), (q39, ai cI 8 (fun _ => 0)), (q46, aq cN 5 (fun _ => none)), (q55, ai cI 20 (fun _ => 0)), (q63, ai cI 60 (fun _ => 0)), (q72, .inl (cR, 3, .inr (.inr (.inr (.inr (fun i => if i = 0 then some r72 else if i = 1 then some s72 else if i = 2 then some t72 else none)))))), (r72, ai cI 60 (fun _ => 0)), (s72, ai cI 60 (fun _ => 0)), (t72, ai cI 60 (fun _ => 0)), (q81, ai cI 3 (fun _ => 0)), (q87, .inr (0, [.null, .int 0, .long 0, .long 0, .long 0, .long 0]))] := hD
  refine lv_dup hx hb dX7_init_90 rfl ?_
  refine kcW (wc := [(q87, .inr (0, [.null, .int 0, .long 0, .long 0, .long 0, .long 0]))]) (wr := [(h0, .inr (2, [.ref q7, .ref q15, .ref q22, .ref q31, .ref q39, .ref q46, .int 0, .ref q55, .int 0, .ref q63, .int 0, .ref q72, .ref q81, .null, .null, .null])), (q7, ai cI 8 (fun _ => 0)), (q15, ai cI 8 (fun _ => 0)), (q22, aq cN 5 (fun _ => none)), (q31, ai cI 8 (fun _ => 0)), (q39, ai cI 8 (fun _ => 0)), (q46, aq cN 5 (fun _ => none)), (q55, ai cI 20 (fun _ => 0)), (q63, ai cI 60 (fun _ => 0)), (q72, .inl (cR, 3, .inr (.inr (.inr (.inr (fun i => if i = 0 then some r72 else if i = 1 then some s72 else if i = 2 then some t72 else none)))))), (r72, ai cI 60 (fun _ => 0)), (s72, ai cI 60 (fun _ => 0)), (t72, ai cI 60 (fun _ => 0)), (q81, ai cI 3 (fun _ => 0))]) hP hD hS hA [14] [0, 1, 2, 3, 4, 5, 6, 7, 8, 9, 10, 11, 12, 13] rfl rfl ⟨rfl, rfl, by decide⟩ (fun hPc hDc => va_runIN (As := []) (rest := [.ref q87, .ref h0]) C0 (c1_init l D cI cJ cN cR H.size q87) ⟨va_cnB 0 hts gX7_init_X1_init_n47 rfl rfl rfl hN.2.2.2.1 (hts (.initialized RX1) (by decide +kernel)) nm_X1_init ⟨Nat.le_of_ble_eq_true rfl, Nat.le_of_ble_eq_true rfl⟩, rfl, hts (.instanceMethod yX1_init) (by decide +kernel)⟩ ⟨kP_blind, kP_at hPc hDc hK hN⟩ rfl rfl hl.1 rfl (lv_room (Nat.le_of_ble_eq_true rfl)) dX7_init_91 ⟨Nat.le_of_ble_eq_true rfl, Nat.le_of_ble_eq_true rfl⟩) (fun u91 H locs hw9 hP hD hS => ?_)
  have hP : va_P D vwCl [(h0, .inr (2, [.ref q7, .ref q15, .ref q22, .ref q31, .ref q39, .ref q46, .int 0, .ref q55, .int 0, .ref q63, .int 0, .ref q72, .ref q81, .null, .null, .null])), (q7, ai cI 8 (fun _ => 0)), (q15, ai cI 8 (fun _ => 0)), (q22, aq cN 5 (fun _ => none)), (q31, ai cI 8 (fun _ => 0)), (q39, ai cI 8 (fun _ => 0)), (q46, aq cN 5 (fun _ => none)), (q55, ai cI 20 (fun _ => 0)), (q63, ai cI 60 (fun _ => 0)), (q72, .inl (cR, 3, .inr (.inr (.inr (.inr (fun i => if i = 0 then some r72 else if i = 1 then some s72 else if i = 2 then some t72 else none)))))), (r72, ai cI 60 (fun _ => 0)), (s72, ai cI 60 (fun _ => 0)), (t72, ai cI 60 (fun _ => 0)), (q81, ai cI 3 (fun _ => 0)), (q87, o1 u91 0 0 0 0 0), (u91, ai cI 64 (fun _ => 0))] H := hP
  have hD : va_D A [(h0, .inr (2, [.ref q7, .ref q15, .ref q22, .ref q31, .ref q39, .ref q46, .int 0, .ref q55, .int 0, .ref q63, .int 0, .ref q72, .ref q81, .null, .null, .null])), (q7, ai cI 8 (fun _ => 0)), (q15, ai cI 8 (fun _ => 0)), (q22, aq cN 5 (fun _ => none)), (q31, ai cI 8 (fun _ => 0)), (q39, ai cI 8 (fun _ => 0)), (q46, aq cN 5 (fun _ => none)), (q55, ai cI 20 (fun _ => 0)), (q63, ai cI 60 (fun _ => 0)), (q72, .inl (cR, 3, .inr (.inr (.inr (.inr (fun i => if i = 0 then some r72 else if i = 1 then some s72 else if i = 2 then some t72 else none)))))), (r72, ai cI 60 (fun _ => 0)), (s72, ai cI 60 (fun _ => 0)), (t72, ai cI 60 (fun _ => 0)), (q81, ai cI 3 (fun _ => 0)), (q87, o1 u91 0 0 0 0 0), (u91, ai cI 64 (fun _ => 0))] := hD
  refine va_putF (D := D) (ci := 2) (v := .ref q87) (ty := .object "SternBrocotExplorer$Expansion") (C := RX7) (T := TX7) (N := 16) hx hb hts hi9 tyX7 tyX7_ok nmX7 hown hK hP hD hS 0 rfl rfl 13 (by decide) (hts (.fieldLink RX7 48 "SternBrocotExplorer" "expansion" "LSternBrocotExplorer$Expansion;") (by decide +kernel)) (fun _ h9 => h9) (by decide +kernel) hnm (by decide +kernel) (by decide +kernel) rfl rfl (Nat.le_of_ble_eq_true rfl) dX7_init_94 (fun H locs hP hD hS => ?_)
  have hP : va_P D vwCl [(h0, .inr (2, [.ref q7, .ref q15, .ref q22, .ref q31, .ref q39, .ref q46, .int 0, .ref q55, .int 0, .ref q63, .int 0, .ref q72, .ref q81, .ref q87, .null, .null])), (q7, ai cI 8 (fun _ => 0)), (q15, ai cI 8 (fun _ => 0)), (q22, aq cN 5 (fun _ => none)), (q31, ai cI 8 (fun _ => 0)), (q39, ai cI 8 (fun _ => 0)), (q46, aq cN 5 (fun _ => none)), (q55, ai cI 20 (fun _ => 0)), (q63, ai cI 60 (fun _ => 0)), (q72, .inl (cR, 3, .inr (.inr (.inr (.inr (fun i => if i = 0 then some r72 else if i = 1 then some s72 else if i = 2 then some t72 else none)))))), (r72, ai cI 60 (fun _ => 0)), (s72, ai cI 60 (fun _ => 0)), (t72, ai cI 60 (fun _ => 0)), (q81, ai cI 3 (fun _ => 0)), (q87, o1 u91 0 0 0 0 0), (u91, ai cI 64 (fun _ => 0))] H := hP
  have hD : va_D A [(h0, .inr (2, [.ref q7, .ref q15, .ref q22, .ref q31, .ref q39, .ref q46, .int 0, .ref q55, .int 0, .ref q63, .int 0, .ref q72, .ref q81, .ref q87, .null, .null])), (q7, ai cI 8 (fun _ => 0)), (q15, ai cI 8 (fun _ => 0)), (q22, aq cN 5 (fun _ => none)), (q31, ai cI 8 (fun _ => 0)), (q39, ai cI 8 (fun _ => 0)), (q46, aq cN 5 (fun _ => none)), (q55, ai cI 20 (fun _ => 0)), (q63, ai cI 60 (fun _ => 0)), (q72, .inl (cR, 3, .inr (.inr (.inr (.inr (fun i => if i = 0 then some r72 else if i = 1 then some s72 else if i = 2 then some t72 else none)))))), (r72, ai cI 60 (fun _ => 0)), (s72, ai cI 60 (fun _ => 0)), (t72, ai cI 60 (fun _ => 0)), (q81, ai cI 3 (fun _ => 0)), (q87, o1 u91 0 0 0 0 0), (u91, ai cI 64 (fun _ => 0))] := hD
  refine lv_aload_n hx hb dX7_init_97 rfl (lv_at hl 0 rfl) ?_
  refine va_new (ci := 0) (fs := [.null, .int 0, .long 0, .long 0, .long 0, .long 0]) (C := RX1) (T := TX1) (N := 6) hx hb hts (fun w h => List.mem_cons_of_mem _ (List.mem_append_left _ (List.mem_append_right _ h))) tyX1 tyX1_ok hown (hts (.classLink RX7 45 RX1) (by decide +kernel)) (hts (.instantiable RX1 6) (by decide +kernel)) (hts (.initialized RX1) (by decide +kernel)) hK hP hD hS hA rfl (fun j hj => by rcases (show j = 0 ∨ j = 1 ∨ j = 2 ∨ j = 3 ∨ j = 4 ∨ j = 5 by omega) with rfl | rfl | rfl | rfl | rfl | rfl <;> rfl) (Nat.le_of_ble_eq_true rfl) (Nat.le_of_ble_eq_true rfl) dX7_init_98 (fun q98 H hP hD hS => ?_)
  have hP : va_P D vwCl [(h0, .inr (2, [.ref q7, .ref q15, .ref q22, .ref q31, .ref q39, .ref q46, .int 0, .ref q55, .int 0, .ref q63, .int 0, .ref q72, .ref q81, .ref q87, .null, .null])), (q7, ai cI 8 (fun _ => 0)), (q15, ai cI 8 (fun _ => 0)), (q22, aq cN 5 (fun _ => none)), (q31, ai cI 8 (fun _ => 0)), (q39, ai cI 8 (fun _ => 0)), (q46, aq cN 5 (fun _ => none)), (q55, ai cI 20 (fun _ => 0)), (q63, ai cI 60 (fun _ => 0)), (q72, .inl (cR, 3, .inr (.inr (.inr (.inr (fun i => if i = 0 then some r72 else if i = 1 then some s72 else if i = 2 then some t72 else none)))))), (r72, ai cI 60 (fun _ => 0)), (s72, ai cI 60 (fun _ => 0)), (t72, ai cI 60 (fun _ => 0)), (q81, ai cI 3 (fun _ => 0)), (q87, o1 u91 0 0 0 0 0), (u91, ai cI 64 (fun _ => 0)), (q98, .inr (0, [.null, .int 0, .long 0, .long 0, .long 0, .long 0]))] H := hP
  have hD : va_D A [(h0, .inr (2, [.ref q7, .ref q15, .ref q22, .ref q31, .ref q39, .ref q46, .int 0, .ref q55, .int 0, .ref q63, .int 0, .ref q72, .ref q81, .ref q87, .null, .null])), (q7, ai cI 8 (fun _ => 0)), (q15, ai cI 8 (fun _ => 0)), (q22, aq cN 5 (fun _ => none)), (q31, ai cI 8 (fun _ => 0)), (q39, ai cI 8 (fun _ => 0)), (q46, aq cN 5 (fun _ => none)), (q55, ai cI 20 (fun _ => 0)), (q63, ai cI 60 (fun _ => 0)), (q72, .inl (cR, 3, .inr (.inr (.inr (.inr (fun i => if i = 0 then some r72 else if i = 1 then some s72 else if i = 2 then some t72 else none)))))), (r72, ai cI 60 (fun _ => 0)), (s72, ai cI 60 (fun _ => 0)), (t72, ai cI 60 (fun _ => 0)), (q81, ai cI 3 (fun _ => 0)), (q87, o1 u91 0 0 0 0 0), (u91, ai cI 64 (fun _ => 0)), (q98, .inr (0, [.null, .int 0, .long 0, .long 0, .long 0, .long 0]))] := hD
  refine lv_dup hx hb dX7_init_101 rfl ?_
  refine kcW (wc := [(q98, .inr (0, [.null, .int 0, .long 0, .long 0, .long 0, .long 0]))]) (wr := [(h0, .inr (2, [.ref q7, .ref q15, .ref q22, .ref q31, .ref q39, .ref q46, .int 0, .ref q55, .int 0, .ref q63, .int 0, .ref q72, .ref q81, .ref q87, .null, .null])), (q7, ai cI 8 (fun _ => 0)), (q15, ai cI 8 (fun _ => 0)), (q22, aq cN 5 (fun _ => none)), (q31, ai cI 8 (fun _ => 0)), (q39, ai cI 8 (fun _ => 0)), (q46, aq cN 5 (fun _ => none)), (q55, ai cI 20 (fun _ => 0)), (q63, ai cI 60 (fun _ => 0)), (q72, .inl (cR, 3, .inr (.inr (.inr (.inr (fun i => if i = 0 then some r72 else if i = 1 then some s72 else if i = 2 then some t72 else none)))))), (r72, ai cI 60 (fun _ => 0)), (s72, ai cI 60 (fun _ => 0)), (t72, ai cI 60 (fun _ => 0)), (q81, ai cI 3 (fun _ => 0)), (q87, o1 u91 0 0 0 0 0), (u91, ai cI 64 (fun _ => 0))]) hP hD hS hA [16] [0, 1, 2, 3, 4, 5, 6, 7, 8, 9, 10, 11, 12, 13, 14, 15] rfl rfl ⟨rfl, rfl, by decide⟩ (fun hPc hDc => va_runIN (As := []) (rest := [.ref q98, .ref h0]) C0 (c1_init l D cI cJ cN cR H.size q98) ⟨va_cnB 0 hts gX7_init_X1_init_n47 rfl rfl rfl hN.2.2.2.1 (hts (.initialized RX1) (by decide +kernel)) nm_X1_init ⟨Nat.le_of_ble_eq_true rfl, Nat.le_of_ble_eq_true rfl⟩, rfl, hts (.instanceMethod yX1_init) (by decide +kernel)⟩ ⟨kP_blind, kP_at hPc hDc hK hN⟩ rfl rfl hl.1 rfl (lv_room (Nat.le_of_ble_eq_true rfl)) dX7_init_102 ⟨Nat.le_of_ble_eq_true rfl, Nat.le_of_ble_eq_true rfl⟩) (fun u102 H locs hw9 hP hD hS => ?_)
  have hP : va_P D vwCl [(h0, .inr (2, [.ref q7, .ref q15, .ref q22, .ref q31, .ref q39, .ref q46, .int 0, .ref q55, .int 0, .ref q63, .int 0, .ref q72, .ref q81, .ref q87, .null, .null])), (q7, ai cI 8 (fun _ => 0)), (q15, ai cI 8 (fun _ => 0)), (q22, aq cN 5 (fun _ => none)), (q31, ai cI 8 (fun _ => 0)), (q39, ai cI 8 (fun _ => 0)), (q46, aq cN 5 (fun _ => none)), (q55, ai cI 20 (fun _ => 0)), (q63, ai cI 60 (fun _ => 0)), (q72, .inl (cR, 3, .inr (.inr (.inr (.inr (fun i => if i = 0 then some r72 else if i = 1 then some s72 else if i = 2 then some t72 else none)))))), (r72, ai cI 60 (fun _ => 0)), (s72, ai cI 60 (fun _ => 0)), (t72, ai cI 60 (fun _ => 0)), (q81, ai cI 3 (fun _ => 0)), (q87, o1 u91 0 0 0 0 0), (u91, ai cI 64 (fun _ => 0)), (q98, o1 u102 0 0 0 0 0), (u102, ai cI 64 (fun _ => 0))] H := hP
  have hD : va_D A [(h0, .inr (2, [.ref q7, .ref q15, .ref q22, .ref q31, .ref q39, .ref q46, .int 0, .ref q55, .int 0, .ref q63, .int 0, .ref q72, .ref q81, .ref q87, .null, .null])), (q7, ai cI 8 (fun _ => 0)), (q15, ai cI 8 (fun _ => 0)), (q22, aq cN 5 (fun _ => none)), (q31, ai cI 8 (fun _ => 0)), (q39, ai cI 8 (fun _ => 0)), (q46, aq cN 5 (fun _ => none)), (q55, ai cI 20 (fun _ => 0)), (q63, ai cI 60 (fun _ => 0)), (q72, .inl (cR, 3, .inr (.inr (.inr (.inr (fun i => if i = 0 then some r72 else if i = 1 then some s72 else if i = 2 then some t72 else none)))))), (r72, ai cI 60 (fun _ => 0)), (s72, ai cI 60 (fun _ => 0)), (t72, ai cI 60 (fun _ => 0)), (q81, ai cI 3 (fun _ => 0)), (q87, o1 u91 0 0 0 0 0), (u91, ai cI 64 (fun _ => 0)), (q98, o1 u102 0 0 0 0 0), (u102, ai cI 64 (fun _ => 0))] := hD
  refine va_putF (D := D) (ci := 2) (v := .ref q98) (ty := .object "SternBrocotExplorer$Expansion") (C := RX7) (T := TX7) (N := 16) hx hb hts hi9 tyX7 tyX7_ok nmX7 hown hK hP hD hS 0 rfl rfl 14 (by decide) (hts (.fieldLink RX7 52 "SternBrocotExplorer" "otherExpansion" "LSternBrocotExplorer$Expansion;") (by decide +kernel)) (fun _ h9 => h9) (by decide +kernel) hnm (by decide +kernel) (by decide +kernel) rfl rfl (Nat.le_of_ble_eq_true rfl) dX7_init_105 (fun H locs hP hD hS => ?_)
  have hP : va_P D vwCl [(h0, .inr (2, [.ref q7, .ref q15, .ref q22, .ref q31, .ref q39, .ref q46, .int 0, .ref q55, .int 0, .ref q63, .int 0, .ref q72, .ref q81, .ref q87, .ref q98, .null])), (q7, ai cI 8 (fun _ => 0)), (q15, ai cI 8 (fun _ => 0)), (q22, aq cN 5 (fun _ => none)), (q31, ai cI 8 (fun _ => 0)), (q39, ai cI 8 (fun _ => 0)), (q46, aq cN 5 (fun _ => none)), (q55, ai cI 20 (fun _ => 0)), (q63, ai cI 60 (fun _ => 0)), (q72, .inl (cR, 3, .inr (.inr (.inr (.inr (fun i => if i = 0 then some r72 else if i = 1 then some s72 else if i = 2 then some t72 else none)))))), (r72, ai cI 60 (fun _ => 0)), (s72, ai cI 60 (fun _ => 0)), (t72, ai cI 60 (fun _ => 0)), (q81, ai cI 3 (fun _ => 0)), (q87, o1 u91 0 0 0 0 0), (u91, ai cI 64 (fun _ => 0)), (q98, o1 u102 0 0 0 0 0), (u102, ai cI 64 (fun _ => 0))] H := hP
  have hD : va_D A [(h0, .inr (2, [.ref q7, .ref q15, .ref q22, .ref q31, .ref q39, .ref q46, .int 0, .ref q55, .int 0, .ref q63, .int 0, .ref q72, .ref q81, .ref q87, .ref q98, .null])), (q7, ai cI 8 (fun _ => 0)), (q15, ai cI 8 (fun _ => 0)), (q22, aq cN 5 (fun _ => none)), (q31, ai cI 8 (fun _ => 0)), (q39, ai cI 8 (fun _ => 0)), (q46, aq cN 5 (fun _ => none)), (q55, ai cI 20 (fun _ => 0)), (q63, ai cI 60 (fun _ => 0)), (q72, .inl (cR, 3, .inr (.inr (.inr (.inr (fun i => if i = 0 then some r72 else if i = 1 then some s72 else if i = 2 then some t72 else none)))))), (r72, ai cI 60 (fun _ => 0)), (s72, ai cI 60 (fun _ => 0)), (t72, ai cI 60 (fun _ => 0)), (q81, ai cI 3 (fun _ => 0)), (q87, o1 u91 0 0 0 0 0), (u91, ai cI 64 (fun _ => 0)), (q98, o1 u102 0 0 0 0 0), (u102, ai cI 64 (fun _ => 0))] := hD
  refine lv_aload_n hx hb dX7_init_108 rfl (lv_at hl 0 rfl) ?_
  refine va_new (ci := 1) (fs := [.null, .null, .null, .null, .int 0]) (C := RX4) (T := TX4) (N := 5) hx hb hts (fun w h => List.mem_cons_of_mem _ (List.mem_append_right _ h)) tyX4 tyX4_ok hown (hts (.classLink RX7 55 RX4) (by decide +kernel)) (hts (.instantiable RX4 5) (by decide +kernel)) (hts (.initialized RX4) (by decide +kernel)) hK hP hD hS hA rfl (fun j hj => by rcases (show j = 0 ∨ j = 1 ∨ j = 2 ∨ j = 3 ∨ j = 4 by omega) with rfl | rfl | rfl | rfl | rfl <;> rfl) (Nat.le_of_ble_eq_true rfl) (Nat.le_of_ble_eq_true rfl) dX7_init_109 (fun q109 H hP hD hS => ?_)
  have hP : va_P D vwCl [(h0, .inr (2, [.ref q7, .ref q15, .ref q22, .ref q31, .ref q39, .ref q46, .int 0, .ref q55, .int 0, .ref q63, .int 0, .ref q72, .ref q81, .ref q87, .ref q98, .null])), (q7, ai cI 8 (fun _ => 0)), (q15, ai cI 8 (fun _ => 0)), (q22, aq cN 5 (fun _ => none)), (q31, ai cI 8 (fun _ => 0)), (q39, ai cI 8 (fun _ => 0)), (q46, aq cN 5 (fun _ => none)), (q55, ai cI 20 (fun _ => 0)), (q63, ai cI 60 (fun _ => 0)), (q72, .inl (cR, 3, .inr (.inr (.inr (.inr (fun i => if i = 0 then some r72 else if i = 1 then some s72 else if i = 2 then some t72 else none)))))), (r72, ai cI 60 (fun _ => 0)), (s72, ai cI 60 (fun _ => 0)), (t72, ai cI 60 (fun _ => 0)), (q81, ai cI 3 (fun _ => 0)), (q87, o1 u91 0 0 0 0 0), (u91, ai cI 64 (fun _ => 0)), (q98, o1 u102 0 0 0 0 0), (u102, ai cI 64 (fun _ => 0)), (q109, .inr (1, [.null, .null, .null, .null, .int 0]))] H := hP
  have hD : va_D A [(h0, .inr (2, [.ref q7, .ref q15, .ref q22, .ref q31, .ref q39, .ref q46, .int 0, .ref q55, .int 0, .ref q63, .int 0, .ref q72, .ref q81, .ref q87, .ref q98, .null])), (q7, ai cI 8 (fun _ => 0)), (q15, ai cI 8 (fun _ => 0)), (q22, aq cN 5 (fun _ => none)), (q31, ai cI 8 (fun _ => 0)), (q39, ai cI 8 (fun _ => 0)), (q46, aq cN 5 (fun _ => none)), (q55, ai cI 20 (fun _ => 0)), (q63, ai cI 60 (fun _ => 0)), (q72, .inl (cR, 3, .inr (.inr (.inr (.inr (fun i => if i = 0 then some r72 else if i = 1 then some s72 else if i = 2 then some t72 else none)))))), (r72, ai cI 60 (fun _ => 0)), (s72, ai cI 60 (fun _ => 0)), (t72, ai cI 60 (fun _ => 0)), (q81, ai cI 3 (fun _ => 0)), (q87, o1 u91 0 0 0 0 0), (u91, ai cI 64 (fun _ => 0)), (q98, o1 u102 0 0 0 0 0), (u102, ai cI 64 (fun _ => 0)), (q109, .inr (1, [.null, .null, .null, .null, .int 0]))] := hD
  refine lv_dup hx hb dX7_init_112 rfl ?_
  refine kcW (wc := [(q109, .inr (1, [.null, .null, .null, .null, .int 0]))]) (wr := [(h0, .inr (2, [.ref q7, .ref q15, .ref q22, .ref q31, .ref q39, .ref q46, .int 0, .ref q55, .int 0, .ref q63, .int 0, .ref q72, .ref q81, .ref q87, .ref q98, .null])), (q7, ai cI 8 (fun _ => 0)), (q15, ai cI 8 (fun _ => 0)), (q22, aq cN 5 (fun _ => none)), (q31, ai cI 8 (fun _ => 0)), (q39, ai cI 8 (fun _ => 0)), (q46, aq cN 5 (fun _ => none)), (q55, ai cI 20 (fun _ => 0)), (q63, ai cI 60 (fun _ => 0)), (q72, .inl (cR, 3, .inr (.inr (.inr (.inr (fun i => if i = 0 then some r72 else if i = 1 then some s72 else if i = 2 then some t72 else none)))))), (r72, ai cI 60 (fun _ => 0)), (s72, ai cI 60 (fun _ => 0)), (t72, ai cI 60 (fun _ => 0)), (q81, ai cI 3 (fun _ => 0)), (q87, o1 u91 0 0 0 0 0), (u91, ai cI 64 (fun _ => 0)), (q98, o1 u102 0 0 0 0 0), (u102, ai cI 64 (fun _ => 0))]) hP hD hS hA [18] [0, 1, 2, 3, 4, 5, 6, 7, 8, 9, 10, 11, 12, 13, 14, 15, 16, 17] rfl rfl ⟨rfl, rfl, by decide⟩ (fun hPc hDc => va_runIN (As := []) (rest := [.ref q109, .ref h0]) C0 (c4_init l D cI cJ cN cR H.size q109) ⟨va_cnB 0 hts gX7_init_X4_init_n57 rfl rfl rfl hN.2.2.2.2.1 (hts (.initialized RX4) (by decide +kernel)) nm_X4_init ⟨Nat.le_of_ble_eq_true rfl, Nat.le_of_ble_eq_true rfl⟩, rfl, hts (.instanceMethod yX4_init) (by decide +kernel)⟩ ⟨kP_blind, kP_at hPc hDc hK hN⟩ rfl rfl hl.1 rfl (lv_room (Nat.le_of_ble_eq_true rfl)) dX7_init_113 ⟨Nat.le_of_ble_eq_true rfl, Nat.le_of_ble_eq_true rfl⟩) (fun ⟨u113, v113, w113, z113⟩ H locs hw9 hP hD hS => ?_)
  have hP : va_P D vwCl [(h0, .inr (2, [.ref q7, .ref q15, .ref q22, .ref q31, .ref q39, .ref q46, .int 0, .ref q55, .int 0, .ref q63, .int 0, .ref q72, .ref q81, .ref q87, .ref q98, .null])), (q7, ai cI 8 (fun _ => 0)), (q15, ai cI 8 (fun _ => 0)), (q22, aq cN 5 (fun _ => none)), (q31, ai cI 8 (fun _ => 0)), (q39, ai cI 8 (fun _ => 0)), (q46, aq cN 5 (fun _ => none)), (q55, ai cI 20 (fun _ => 0)), (q63, ai cI 60 (fun _ => 0)), (q72, .inl (cR, 3, .inr (.inr (.inr (.inr (fun i => if i = 0 then some r72 else if i = 1 then some s72 else if i = 2 then some t72 else none)))))), (r72, ai cI 60 (fun _ => 0)), (s72, ai cI 60 (fun _ => 0)), (t72, ai cI 60 (fun _ => 0)), (q81, ai cI 3 (fun _ => 0)), (q87, o1 u91 0 0 0 0 0), (u91, ai cI 64 (fun _ => 0)), (q98, o1 u102 0 0 0 0 0), (u102, ai cI 64 (fun _ => 0)), (q109, o4 u113 v113 w113 z113 0), (u113, ai cI 720 (fun _ => 0)), (v113, ai cI 720 (fun _ => 0)), (w113, ai cI 720 (fun _ => 0)), (z113, ai cI 160 (fun _ => 0))] H := hP
  have hD : va_D A [(h0, .inr (2, [.ref q7, .ref q15, .ref q22, .ref q31, .ref q39, .ref q46, .int 0, .ref q55, .int 0, .ref q63, .int 0, .ref q72, .ref q81, .ref q87, .ref q98, .null])), (q7, ai cI 8 (fun _ => 0)), (q15, ai cI 8 (fun _ => 0)), (q22, aq cN 5 (fun _ => none)), (q31, ai cI 8 (fun _ => 0)), (q39, ai cI 8 (fun _ => 0)), (q46, aq cN 5 (fun _ => none)), (q55, ai cI 20 (fun _ => 0)), (q63, ai cI 60 (fun _ => 0)), (q72, .inl (cR, 3, .inr (.inr (.inr (.inr (fun i => if i = 0 then some r72 else if i = 1 then some s72 else if i = 2 then some t72 else none)))))), (r72, ai cI 60 (fun _ => 0)), (s72, ai cI 60 (fun _ => 0)), (t72, ai cI 60 (fun _ => 0)), (q81, ai cI 3 (fun _ => 0)), (q87, o1 u91 0 0 0 0 0), (u91, ai cI 64 (fun _ => 0)), (q98, o1 u102 0 0 0 0 0), (u102, ai cI 64 (fun _ => 0)), (q109, o4 u113 v113 w113 z113 0), (u113, ai cI 720 (fun _ => 0)), (v113, ai cI 720 (fun _ => 0)), (w113, ai cI 720 (fun _ => 0)), (z113, ai cI 160 (fun _ => 0))] := hD
  refine va_putF (D := D) (ci := 2) (v := .ref q109) (ty := .object "SternBrocotExplorer$Ranking") (C := RX7) (T := TX7) (N := 16) hx hb hts hi9 tyX7 tyX7_ok nmX7 hown hK hP hD hS 0 rfl rfl 15 (by decide) (hts (.fieldLink RX7 58 "SternBrocotExplorer" "ranking" "LSternBrocotExplorer$Ranking;") (by decide +kernel)) (fun _ h9 => h9) (by decide +kernel) hnm (by decide +kernel) (by decide +kernel) rfl rfl (Nat.le_of_ble_eq_true rfl) dX7_init_116 (fun H locs hP hD hS => ?_)
  have hP : va_P D vwCl [(h0, .inr (2, [.ref q7, .ref q15, .ref q22, .ref q31, .ref q39, .ref q46, .int 0, .ref q55, .int 0, .ref q63, .int 0, .ref q72, .ref q81, .ref q87, .ref q98, .ref q109])), (q7, ai cI 8 (fun _ => 0)), (q15, ai cI 8 (fun _ => 0)), (q22, aq cN 5 (fun _ => none)), (q31, ai cI 8 (fun _ => 0)), (q39, ai cI 8 (fun _ => 0)), (q46, aq cN 5 (fun _ => none)), (q55, ai cI 20 (fun _ => 0)), (q63, ai cI 60 (fun _ => 0)), (q72, .inl (cR, 3, .inr (.inr (.inr (.inr (fun i => if i = 0 then some r72 else if i = 1 then some s72 else if i = 2 then some t72 else none)))))), (r72, ai cI 60 (fun _ => 0)), (s72, ai cI 60 (fun _ => 0)), (t72, ai cI 60 (fun _ => 0)), (q81, ai cI 3 (fun _ => 0)), (q87, o1 u91 0 0 0 0 0), (u91, ai cI 64 (fun _ => 0)), (q98, o1 u102 0 0 0 0 0), (u102, ai cI 64 (fun _ => 0)), (q109, o4 u113 v113 w113 z113 0), (u113, ai cI 720 (fun _ => 0)), (v113, ai cI 720 (fun _ => 0)), (w113, ai cI 720 (fun _ => 0)), (z113, ai cI 160 (fun _ => 0))] H := hP
  have hD : va_D A [(h0, .inr (2, [.ref q7, .ref q15, .ref q22, .ref q31, .ref q39, .ref q46, .int 0, .ref q55, .int 0, .ref q63, .int 0, .ref q72, .ref q81, .ref q87, .ref q98, .ref q109])), (q7, ai cI 8 (fun _ => 0)), (q15, ai cI 8 (fun _ => 0)), (q22, aq cN 5 (fun _ => none)), (q31, ai cI 8 (fun _ => 0)), (q39, ai cI 8 (fun _ => 0)), (q46, aq cN 5 (fun _ => none)), (q55, ai cI 20 (fun _ => 0)), (q63, ai cI 60 (fun _ => 0)), (q72, .inl (cR, 3, .inr (.inr (.inr (.inr (fun i => if i = 0 then some r72 else if i = 1 then some s72 else if i = 2 then some t72 else none)))))), (r72, ai cI 60 (fun _ => 0)), (s72, ai cI 60 (fun _ => 0)), (t72, ai cI 60 (fun _ => 0)), (q81, ai cI 3 (fun _ => 0)), (q87, o1 u91 0 0 0 0 0), (u91, ai cI 64 (fun _ => 0)), (q98, o1 u102 0 0 0 0 0), (u102, ai cI 64 (fun _ => 0)), (q109, o4 u113 v113 w113 z113 0), (u113, ai cI 720 (fun _ => 0)), (v113, ai cI 720 (fun _ => 0)), (w113, ai cI 720 (fun _ => 0)), (z113, ai cI 160 (fun _ => 0))] := hD
  refine lv_iconst (v := (0 : Int32)) hx hb dX7_init_119 (by decide) ?_
  refine lv_istore_n (lv' := [(1, .int (0 : Int32)), (0, .ref h0)]) hx hb dX7_init_120 rfl hl (by decide) rfl (fun ls hl => ?_)
  refine lv_iload_n hx hb dX7_init_121 rfl (lv_at hl 0 rfl) ?_
  refine lv_bipush (v := (8 : Int32)) hx hb dX7_init_122 (by decide) ?_
  refine lv_icmp_ge (tgt := 147) hx hb dX7_init_124 (by decide) (fun k => absurd k (by decide)) (fun k => ?_)
  refine lv_aload_n hx hb dX7_init_127 rfl (lv_at hl 1 rfl) ?_
  refine va_get (D := D) (ci := 2) (v := .ref q7) (C := RX7) (T := TX7) (N := 16) hx hb hts hi9 hown hK hP 0 rfl rfl 0 (by decide) (hts (.fieldLink RX7 9 "SternBrocotExplorer" "tops" "[I") (by decide +kernel)) (fun _ h9 => h9) rfl dX7_init_128 ?_
  refine lv_iload_n hx hb dX7_init_131 rfl (lv_at hl 0 rfl) ?_
  refine lv_iconst (v := (1 : Int32)) hx hb dX7_init_132 (by decide) ?_
  refine va_iast hx hb hK hP hD hS 1 0 rfl rfl (by unfold vp_in; decide) dX7_init_133 (fun H locs hP hD hS => ?_)
  have hP : va_P D vwCl [(h0, .inr (2, [.ref q7, .ref q15, .ref q22, .ref q31, .ref q39, .ref q46, .int 0, .ref q55, .int 0, .ref q63, .int 0, .ref q72, .ref q81, .ref q87, .ref q98, .ref q109])), (q7, ai cI 8 (upd (fun _ => 0) (0 : Int32).toNatClampNeg (1 : Int32))), (q15, ai cI 8 (fun _ => 0)), (q22, aq cN 5 (fun _ => none)), (q31, ai cI 8 (fun _ => 0)), (q39, ai cI 8 (fun _ => 0)), (q46, aq cN 5 (fun _ => none)), (q55, ai cI 20 (fun _ => 0)), (q63, ai cI 60 (fun _ => 0)), (q72, .inl (cR, 3, .inr (.inr (.inr (.inr (fun i => if i = 0 then some r72 else if i = 1 then some s72 else if i = 2 then some t72 else none)))))), (r72, ai cI 60 (fun _ => 0)), (s72, ai cI 60 (fun _ => 0)), (t72, ai cI 60 (fun _ => 0)), (q81, ai cI 3 (fun _ => 0)), (q87, o1 u91 0 0 0 0 0), (u91, ai cI 64 (fun _ => 0)), (q98, o1 u102 0 0 0 0 0), (u102, ai cI 64 (fun _ => 0)), (q109, o4 u113 v113 w113 z113 0), (u113, ai cI 720 (fun _ => 0)), (v113, ai cI 720 (fun _ => 0)), (w113, ai cI 720 (fun _ => 0)), (z113, ai cI 160 (fun _ => 0))] H := hP
  have hD : va_D A [(h0, .inr (2, [.ref q7, .ref q15, .ref q22, .ref q31, .ref q39, .ref q46, .int 0, .ref q55, .int 0, .ref q63, .int 0, .ref q72, .ref q81, .ref q87, .ref q98, .ref q109])), (q7, ai cI 8 (upd (fun _ => 0) (0 : Int32).toNatClampNeg (1 : Int32))), (q15, ai cI 8 (fun _ => 0)), (q22, aq cN 5 (fun _ => none)), (q31, ai cI 8 (fun _ => 0)), (q39, ai cI 8 (fun _ => 0)), (q46, aq cN 5 (fun _ => none)), (q55, ai cI 20 (fun _ => 0)), (q63, ai cI 60 (fun _ => 0)), (q72, .inl (cR, 3, .inr (.inr (.inr (.inr (fun i => if i = 0 then some r72 else if i = 1 then some s72 else if i = 2 then some t72 else none)))))), (r72, ai cI 60 (fun _ => 0)), (s72, ai cI 60 (fun _ => 0)), (t72, ai cI 60 (fun _ => 0)), (q81, ai cI 3 (fun _ => 0)), (q87, o1 u91 0 0 0 0 0), (u91, ai cI 64 (fun _ => 0)), (q98, o1 u102 0 0 0 0 0), (u102, ai cI 64 (fun _ => 0)), (q109, o4 u113 v113 w113 z113 0), (u113, ai cI 720 (fun _ => 0)), (v113, ai cI 720 (fun _ => 0)), (w113, ai cI 720 (fun _ => 0)), (z113, ai cI 160 (fun _ => 0))] := hD
  refine lv_aload_n hx hb dX7_init_134 rfl (lv_at hl 1 rfl) ?_
  refine va_get (D := D) (ci := 2) (v := .ref q15) (C := RX7) (T := TX7) (N := 16) hx hb hts hi9 hown hK hP 0 rfl rfl 1 (by decide) (hts (.fieldLink RX7 13 "SternBrocotExplorer" "bottoms" "[I") (by decide +kernel)) (fun _ h9 => h9) rfl dX7_init_135 ?_
  refine lv_iload_n hx hb dX7_init_138 rfl (lv_at hl 0 rfl) ?_
  refine lv_iconst (v := (1 : Int32)) hx hb dX7_init_139 (by decide) ?_
  refine va_iast hx hb hK hP hD hS 2 0 rfl rfl (by unfold vp_in; decide) dX7_init_140 (fun H locs hP hD hS => ?_)
  have hP : va_P D vwCl [(h0, .inr (2, [.ref q7, .ref q15, .ref q22, .ref q31, .ref q39, .ref q46, .int 0, .ref q55, .int 0, .ref q63, .int 0, .ref q72, .ref q81, .ref q87, .ref q98, .ref q109])), (q7, ai cI 8 (upd (fun _ => 0) (0 : Int32).toNatClampNeg (1 : Int32))), (q15, ai cI 8 (upd (fun _ => 0) (0 : Int32).toNatClampNeg (1 : Int32))), (q22, aq cN 5 (fun _ => none)), (q31, ai cI 8 (fun _ => 0)), (q39, ai cI 8 (fun _ => 0)), (q46, aq cN 5 (fun _ => none)), (q55, ai cI 20 (fun _ => 0)), (q63, ai cI 60 (fun _ => 0)), (q72, .inl (cR, 3, .inr (.inr (.inr (.inr (fun i => if i = 0 then some r72 else if i = 1 then some s72 else if i = 2 then some t72 else none)))))), (r72, ai cI 60 (fun _ => 0)), (s72, ai cI 60 (fun _ => 0)), (t72, ai cI 60 (fun _ => 0)), (q81, ai cI 3 (fun _ => 0)), (q87, o1 u91 0 0 0 0 0), (u91, ai cI 64 (fun _ => 0)), (q98, o1 u102 0 0 0 0 0), (u102, ai cI 64 (fun _ => 0)), (q109, o4 u113 v113 w113 z113 0), (u113, ai cI 720 (fun _ => 0)), (v113, ai cI 720 (fun _ => 0)), (w113, ai cI 720 (fun _ => 0)), (z113, ai cI 160 (fun _ => 0))] H := hP
  have hD : va_D A [(h0, .inr (2, [.ref q7, .ref q15, .ref q22, .ref q31, .ref q39, .ref q46, .int 0, .ref q55, .int 0, .ref q63, .int 0, .ref q72, .ref q81, .ref q87, .ref q98, .ref q109])), (q7, ai cI 8 (upd (fun _ => 0) (0 : Int32).toNatClampNeg (1 : Int32))), (q15, ai cI 8 (upd (fun _ => 0) (0 : Int32).toNatClampNeg (1 : Int32))), (q22, aq cN 5 (fun _ => none)), (q31, ai cI 8 (fun _ => 0)), (q39, ai cI 8 (fun _ => 0)), (q46, aq cN 5 (fun _ => none)), (q55, ai cI 20 (fun _ => 0)), (q63, ai cI 60 (fun _ => 0)), (q72, .inl (cR, 3, .inr (.inr (.inr (.inr (fun i => if i = 0 then some r72 else if i = 1 then some s72 else if i = 2 then some t72 else none)))))), (r72, ai cI 60 (fun _ => 0)), (s72, ai cI 60 (fun _ => 0)), (t72, ai cI 60 (fun _ => 0)), (q81, ai cI 3 (fun _ => 0)), (q87, o1 u91 0 0 0 0 0), (u91, ai cI 64 (fun _ => 0)), (q98, o1 u102 0 0 0 0 0), (u102, ai cI 64 (fun _ => 0)), (q109, o4 u113 v113 w113 z113 0), (u113, ai cI 720 (fun _ => 0)), (v113, ai cI 720 (fun _ => 0)), (w113, ai cI 720 (fun _ => 0)), (z113, ai cI 160 (fun _ => 0))] := hD
  refine lv_iinc (v := (1 : Int32)) (lv' := [(1, .int (1 : Int32)), (0, .ref h0)]) hx hb dX7_init_141 hl (k := 0) rfl (by decide) (by decide) rfl (fun ls hl => ?_)
  refine lv_goto (tgt := 121) hx hb dX7_init_144 (by decide) ?_
  refine lv_iload_n hx hb dX7_init_121 rfl (lv_at hl 0 rfl) ?_
  refine lv_bipush (v := (8 : Int32)) hx hb dX7_init_122 (by decide) ?_
  refine lv_icmp_ge (tgt := 147) hx hb dX7_init_124 (by decide) (fun k => absurd k (by decide)) (fun k => ?_)
  refine lv_aload_n hx hb dX7_init_127 rfl (lv_at hl 1 rfl) ?_
  refine va_get (D := D) (ci := 2) (v := .ref q7) (C := RX7) (T := TX7) (N := 16) hx hb hts hi9 hown hK hP 0 rfl rfl 0 (by decide) (hts (.fieldLink RX7 9 "SternBrocotExplorer" "tops" "[I") (by decide +kernel)) (fun _ h9 => h9) rfl dX7_init_128 ?_
  refine lv_iload_n hx hb dX7_init_131 rfl (lv_at hl 0 rfl) ?_
  refine lv_iconst (v := (1 : Int32)) hx hb dX7_init_132 (by decide) ?_
  refine va_iast hx hb hK hP hD hS 1 0 rfl rfl (by unfold vp_in; decide) dX7_init_133 (fun H locs hP hD hS => ?_)
  have hP : va_P D vwCl [(h0, .inr (2, [.ref q7, .ref q15, .ref q22, .ref q31, .ref q39, .ref q46, .int 0, .ref q55, .int 0, .ref q63, .int 0, .ref q72, .ref q81, .ref q87, .ref q98, .ref q109])), (q7, ai cI 8 (upd (upd (fun _ => 0) (0 : Int32).toNatClampNeg (1 : Int32)) (1 : Int32).toNatClampNeg (1 : Int32))), (q15, ai cI 8 (upd (fun _ => 0) (0 : Int32).toNatClampNeg (1 : Int32))), (q22, aq cN 5 (fun _ => none)), (q31, ai cI 8 (fun _ => 0)), (q39, ai cI 8 (fun _ => 0)), (q46, aq cN 5 (fun _ => none)), (q55, ai cI 20 (fun _ => 0)), (q63, ai cI 60 (fun _ => 0)), (q72, .inl (cR, 3, .inr (.inr (.inr (.inr (fun i => if i = 0 then some r72 else if i = 1 then some s72 else if i = 2 then some t72 else none)))))), (r72, ai cI 60 (fun _ => 0)), (s72, ai cI 60 (fun _ => 0)), (t72, ai cI 60 (fun _ => 0)), (q81, ai cI 3 (fun _ => 0)), (q87, o1 u91 0 0 0 0 0), (u91, ai cI 64 (fun _ => 0)), (q98, o1 u102 0 0 0 0 0), (u102, ai cI 64 (fun _ => 0)), (q109, o4 u113 v113 w113 z113 0), (u113, ai cI 720 (fun _ => 0)), (v113, ai cI 720 (fun _ => 0)), (w113, ai cI 720 (fun _ => 0)), (z113, ai cI 160 (fun _ => 0))] H := hP
  have hD : va_D A [(h0, .inr (2, [.ref q7, .ref q15, .ref q22, .ref q31, .ref q39, .ref q46, .int 0, .ref q55, .int 0, .ref q63, .int 0, .ref q72, .ref q81, .ref q87, .ref q98, .ref q109])), (q7, ai cI 8 (upd (upd (fun _ => 0) (0 : Int32).toNatClampNeg (1 : Int32)) (1 : Int32).toNatClampNeg (1 : Int32))), (q15, ai cI 8 (upd (fun _ => 0) (0 : Int32).toNatClampNeg (1 : Int32))), (q22, aq cN 5 (fun _ => none)), (q31, ai cI 8 (fun _ => 0)), (q39, ai cI 8 (fun _ => 0)), (q46, aq cN 5 (fun _ => none)), (q55, ai cI 20 (fun _ => 0)), (q63, ai cI 60 (fun _ => 0)), (q72, .inl (cR, 3, .inr (.inr (.inr (.inr (fun i => if i = 0 then some r72 else if i = 1 then some s72 else if i = 2 then some t72 else none)))))), (r72, ai cI 60 (fun _ => 0)), (s72, ai cI 60 (fun _ => 0)), (t72, ai cI 60 (fun _ => 0)), (q81, ai cI 3 (fun _ => 0)), (q87, o1 u91 0 0 0 0 0), (u91, ai cI 64 (fun _ => 0)), (q98, o1 u102 0 0 0 0 0), (u102, ai cI 64 (fun _ => 0)), (q109, o4 u113 v113 w113 z113 0), (u113, ai cI 720 (fun _ => 0)), (v113, ai cI 720 (fun _ => 0)), (w113, ai cI 720 (fun _ => 0)), (z113, ai cI 160 (fun _ => 0))] := hD
  refine lv_aload_n hx hb dX7_init_134 rfl (lv_at hl 1 rfl) ?_
  refine va_get (D := D) (ci := 2) (v := .ref q15) (C := RX7) (T := TX7) (N := 16) hx hb hts hi9 hown hK hP 0 rfl rfl 1 (by decide) (hts (.fieldLink RX7 13 "SternBrocotExplorer" "bottoms" "[I") (by decide +kernel)) (fun _ h9 => h9) rfl dX7_init_135 ?_
  refine lv_iload_n hx hb dX7_init_138 rfl (lv_at hl 0 rfl) ?_
  refine lv_iconst (v := (1 : Int32)) hx hb dX7_init_139 (by decide) ?_
  refine va_iast hx hb hK hP hD hS 2 0 rfl rfl (by unfold vp_in; decide) dX7_init_140 (fun H locs hP hD hS => ?_)
  have hP : va_P D vwCl [(h0, .inr (2, [.ref q7, .ref q15, .ref q22, .ref q31, .ref q39, .ref q46, .int 0, .ref q55, .int 0, .ref q63, .int 0, .ref q72, .ref q81, .ref q87, .ref q98, .ref q109])), (q7, ai cI 8 (upd (upd (fun _ => 0) (0 : Int32).toNatClampNeg (1 : Int32)) (1 : Int32).toNatClampNeg (1 : Int32))), (q15, ai cI 8 (upd (upd (fun _ => 0) (0 : Int32).toNatClampNeg (1 : Int32)) (1 : Int32).toNatClampNeg (1 : Int32))), (q22, aq cN 5 (fun _ => none)), (q31, ai cI 8 (fun _ => 0)), (q39, ai cI 8 (fun _ => 0)), (q46, aq cN 5 (fun _ => none)), (q55, ai cI 20 (fun _ => 0)), (q63, ai cI 60 (fun _ => 0)), (q72, .inl (cR, 3, .inr (.inr (.inr (.inr (fun i => if i = 0 then some r72 else if i = 1 then some s72 else if i = 2 then some t72 else none)))))), (r72, ai cI 60 (fun _ => 0)), (s72, ai cI 60 (fun _ => 0)), (t72, ai cI 60 (fun _ => 0)), (q81, ai cI 3 (fun _ => 0)), (q87, o1 u91 0 0 0 0 0), (u91, ai cI 64 (fun _ => 0)), (q98, o1 u102 0 0 0 0 0), (u102, ai cI 64 (fun _ => 0)), (q109, o4 u113 v113 w113 z113 0), (u113, ai cI 720 (fun _ => 0)), (v113, ai cI 720 (fun _ => 0)), (w113, ai cI 720 (fun _ => 0)), (z113, ai cI 160 (fun _ => 0))] H := hP
  have hD : va_D A [(h0, .inr (2, [.ref q7, .ref q15, .ref q22, .ref q31, .ref q39, .ref q46, .int 0, .ref q55, .int 0, .ref q63, .int 0, .ref q72, .ref q81, .ref q87, .ref q98, .ref q109])), (q7, ai cI 8 (upd (upd (fun _ => 0) (0 : Int32).toNatClampNeg (1 : Int32)) (1 : Int32).toNatClampNeg (1 : Int32))), (q15, ai cI 8 (upd (upd (fun _ => 0) (0 : Int32).toNatClampNeg (1 : Int32)) (1 : Int32).toNatClampNeg (1 : Int32))), (q22, aq cN 5 (fun _ => none)), (q31, ai cI 8 (fun _ => 0)), (q39, ai cI 8 (fun _ => 0)), (q46, aq cN 5 (fun _ => none)), (q55, ai cI 20 (fun _ => 0)), (q63, ai cI 60 (fun _ => 0)), (q72, .inl (cR, 3, .inr (.inr (.inr (.inr (fun i => if i = 0 then some r72 else if i = 1 then some s72 else if i = 2 then some t72 else none)))))), (r72, ai cI 60 (fun _ => 0)), (s72, ai cI 60 (fun _ => 0)), (t72, ai cI 60 (fun _ => 0)), (q81, ai cI 3 (fun _ => 0)), (q87, o1 u91 0 0 0 0 0), (u91, ai cI 64 (fun _ => 0)), (q98, o1 u102 0 0 0 0 0), (u102, ai cI 64 (fun _ => 0)), (q109, o4 u113 v113 w113 z113 0), (u113, ai cI 720 (fun _ => 0)), (v113, ai cI 720 (fun _ => 0)), (w113, ai cI 720 (fun _ => 0)), (z113, ai cI 160 (fun _ => 0))] := hD
  refine lv_iinc (v := (2 : Int32)) (lv' := [(1, .int (2 : Int32)), (0, .ref h0)]) hx hb dX7_init_141 hl (k := 0) rfl (by decide) (by decide) rfl (fun ls hl => ?_)
  refine lv_goto (tgt := 121) hx hb dX7_init_144 (by decide) ?_
  refine lv_iload_n hx hb dX7_init_121 rfl (lv_at hl 0 rfl) ?_
  refine lv_bipush (v := (8 : Int32)) hx hb dX7_init_122 (by decide) ?_
  refine lv_icmp_ge (tgt := 147) hx hb dX7_init_124 (by decide) (fun k => absurd k (by decide)) (fun k => ?_)
  refine lv_aload_n hx hb dX7_init_127 rfl (lv_at hl 1 rfl) ?_
  refine va_get (D := D) (ci := 2) (v := .ref q7) (C := RX7) (T := TX7) (N := 16) hx hb hts hi9 hown hK hP 0 rfl rfl 0 (by decide) (hts (.fieldLink RX7 9 "SternBrocotExplorer" "tops" "[I") (by decide +kernel)) (fun _ h9 => h9) rfl dX7_init_128 ?_
  refine lv_iload_n hx hb dX7_init_131 rfl (lv_at hl 0 rfl) ?_
  refine lv_iconst (v := (1 : Int32)) hx hb dX7_init_132 (by decide) ?_
  refine va_iast hx hb hK hP hD hS 1 0 rfl rfl (by unfold vp_in; decide) dX7_init_133 (fun H locs hP hD hS => ?_)
  have hP : va_P D vwCl [(h0, .inr (2, [.ref q7, .ref q15, .ref q22, .ref q31, .ref q39, .ref q46, .int 0, .ref q55, .int 0, .ref q63, .int 0, .ref q72, .ref q81, .ref q87, .ref q98, .ref q109])), (q7, ai cI 8 (upd (upd (upd (fun _ => 0) (0 : Int32).toNatClampNeg (1 : Int32)) (1 : Int32).toNatClampNeg (1 : Int32)) (2 : Int32).toNatClampNeg (1 : Int32))), (q15, ai cI 8 (upd (upd (fun _ => 0) (0 : Int32).toNatClampNeg (1 : Int32)) (1 : Int32).toNatClampNeg (1 : Int32))), (q22, aq cN 5 (fun _ => none)), (q31, ai cI 8 (fun _ => 0)), (q39, ai cI 8 (fun _ => 0)), (q46, aq cN 5 (fun _ => none)), (q55, ai cI 20 (fun _ => 0)), (q63, ai cI 60 (fun _ => 0)), (q72, .inl (cR, 3, .inr (.inr (.inr (.inr (fun i => if i = 0 then some r72 else if i = 1 then some s72 else if i = 2 then some t72 else none)))))), (r72, ai cI 60 (fun _ => 0)), (s72, ai cI 60 (fun _ => 0)), (t72, ai cI 60 (fun _ => 0)), (q81, ai cI 3 (fun _ => 0)), (q87, o1 u91 0 0 0 0 0), (u91, ai cI 64 (fun _ => 0)), (q98, o1 u102 0 0 0 0 0), (u102, ai cI 64 (fun _ => 0)), (q109, o4 u113 v113 w113 z113 0), (u113, ai cI 720 (fun _ => 0)), (v113, ai cI 720 (fun _ => 0)), (w113, ai cI 720 (fun _ => 0)), (z113, ai cI 160 (fun _ => 0))] H := hP
  have hD : va_D A [(h0, .inr (2, [.ref q7, .ref q15, .ref q22, .ref q31, .ref q39, .ref q46, .int 0, .ref q55, .int 0, .ref q63, .int 0, .ref q72, .ref q81, .ref q87, .ref q98, .ref q109])), (q7, ai cI 8 (upd (upd (upd (fun _ => 0) (0 : Int32).toNatClampNeg (1 : Int32)) (1 : Int32).toNatClampNeg (1 : Int32)) (2 : Int32).toNatClampNeg (1 : Int32))), (q15, ai cI 8 (upd (upd (fun _ => 0) (0 : Int32).toNatClampNeg (1 : Int32)) (1 : Int32).toNatClampNeg (1 : Int32))), (q22, aq cN 5 (fun _ => none)), (q31, ai cI 8 (fun _ => 0)), (q39, ai cI 8 (fun _ => 0)), (q46, aq cN 5 (fun _ => none)), (q55, ai cI 20 (fun _ => 0)), (q63, ai cI 60 (fun _ => 0)), (q72, .inl (cR, 3, .inr (.inr (.inr (.inr (fun i => if i = 0 then some r72 else if i = 1 then some s72 else if i = 2 then some t72 else none)))))), (r72, ai cI 60 (fun _ => 0)), (s72, ai cI 60 (fun _ => 0)), (t72, ai cI 60 (fun _ => 0)), (q81, ai cI 3 (fun _ => 0)), (q87, o1 u91 0 0 0 0 0), (u91, ai cI 64 (fun _ => 0)), (q98, o1 u102 0 0 0 0 0), (u102, ai cI 64 (fun _ => 0)), (q109, o4 u113 v113 w113 z113 0), (u113, ai cI 720 (fun _ => 0)), (v113, ai cI 720 (fun _ => 0)), (w113, ai cI 720 (fun _ => 0)), (z113, ai cI 160 (fun _ => 0))] := hD
  refine lv_aload_n hx hb dX7_init_134 rfl (lv_at hl 1 rfl) ?_
  refine va_get (D := D) (ci := 2) (v := .ref q15) (C := RX7) (T := TX7) (N := 16) hx hb hts hi9 hown hK hP 0 rfl rfl 1 (by decide) (hts (.fieldLink RX7 13 "SternBrocotExplorer" "bottoms" "[I") (by decide +kernel)) (fun _ h9 => h9) rfl dX7_init_135 ?_
  refine lv_iload_n hx hb dX7_init_138 rfl (lv_at hl 0 rfl) ?_
  refine lv_iconst (v := (1 : Int32)) hx hb dX7_init_139 (by decide) ?_
  refine va_iast hx hb hK hP hD hS 2 0 rfl rfl (by unfold vp_in; decide) dX7_init_140 (fun H locs hP hD hS => ?_)
  have hP : va_P D vwCl [(h0, .inr (2, [.ref q7, .ref q15, .ref q22, .ref q31, .ref q39, .ref q46, .int 0, .ref q55, .int 0, .ref q63, .int 0, .ref q72, .ref q81, .ref q87, .ref q98, .ref q109])), (q7, ai cI 8 (upd (upd (upd (fun _ => 0) (0 : Int32).toNatClampNeg (1 : Int32)) (1 : Int32).toNatClampNeg (1 : Int32)) (2 : Int32).toNatClampNeg (1 : Int32))), (q15, ai cI 8 (upd (upd (upd (fun _ => 0) (0 : Int32).toNatClampNeg (1 : Int32)) (1 : Int32).toNatClampNeg (1 : Int32)) (2 : Int32).toNatClampNeg (1 : Int32))), (q22, aq cN 5 (fun _ => none)), (q31, ai cI 8 (fun _ => 0)), (q39, ai cI 8 (fun _ => 0)), (q46, aq cN 5 (fun _ => none)), (q55, ai cI 20 (fun _ => 0)), (q63, ai cI 60 (fun _ => 0)), (q72, .inl (cR, 3, .inr (.inr (.inr (.inr (fun i => if i = 0 then some r72 else if i = 1 then some s72 else if i = 2 then some t72 else none)))))), (r72, ai cI 60 (fun _ => 0)), (s72, ai cI 60 (fun _ => 0)), (t72, ai cI 60 (fun _ => 0)), (q81, ai cI 3 (fun _ => 0)), (q87, o1 u91 0 0 0 0 0), (u91, ai cI 64 (fun _ => 0)), (q98, o1 u102 0 0 0 0 0), (u102, ai cI 64 (fun _ => 0)), (q109, o4 u113 v113 w113 z113 0), (u113, ai cI 720 (fun _ => 0)), (v113, ai cI 720 (fun _ => 0)), (w113, ai cI 720 (fun _ => 0)), (z113, ai cI 160 (fun _ => 0))] H := hP
  have hD : va_D A [(h0, .inr (2, [.ref q7, .ref q15, .ref q22, .ref q31, .ref q39, .ref q46, .int 0, .ref q55, .int 0, .ref q63, .int 0, .ref q72, .ref q81, .ref q87, .ref q98, .ref q109])), (q7, ai cI 8 (upd (upd (upd (fun _ => 0) (0 : Int32).toNatClampNeg (1 : Int32)) (1 : Int32).toNatClampNeg (1 : Int32)) (2 : Int32).toNatClampNeg (1 : Int32))), (q15, ai cI 8 (upd (upd (upd (fun _ => 0) (0 : Int32).toNatClampNeg (1 : Int32)) (1 : Int32).toNatClampNeg (1 : Int32)) (2 : Int32).toNatClampNeg (1 : Int32))), (q22, aq cN 5 (fun _ => none)), (q31, ai cI 8 (fun _ => 0)), (q39, ai cI 8 (fun _ => 0)), (q46, aq cN 5 (fun _ => none)), (q55, ai cI 20 (fun _ => 0)), (q63, ai cI 60 (fun _ => 0)), (q72, .inl (cR, 3, .inr (.inr (.inr (.inr (fun i => if i = 0 then some r72 else if i = 1 then some s72 else if i = 2 then some t72 else none)))))), (r72, ai cI 60 (fun _ => 0)), (s72, ai cI 60 (fun _ => 0)), (t72, ai cI 60 (fun _ => 0)), (q81, ai cI 3 (fun _ => 0)), (q87, o1 u91 0 0 0 0 0), (u91, ai cI 64 (fun _ => 0)), (q98, o1 u102 0 0 0 0 0), (u102, ai cI 64 (fun _ => 0)), (q109, o4 u113 v113 w113 z113 0), (u113, ai cI 720 (fun _ => 0)), (v113, ai cI 720 (fun _ => 0)), (w113, ai cI 720 (fun _ => 0)), (z113, ai cI 160 (fun _ => 0))] := hD
  refine lv_iinc (v := (3 : Int32)) (lv' := [(1, .int (3 : Int32)), (0, .ref h0)]) hx hb dX7_init_141 hl (k := 0) rfl (by decide) (by decide) rfl (fun ls hl => ?_)
  refine lv_goto (tgt := 121) hx hb dX7_init_144 (by decide) ?_
  refine lv_iload_n hx hb dX7_init_121 rfl (lv_at hl 0 rfl) ?_
  refine lv_bipush (v := (8 : Int32)) hx hb dX7_init_122 (by decide) ?_
  refine lv_icmp_ge (tgt := 147) hx hb dX7_init_124 (by decide) (fun k => absurd k (by decide)) (fun k => ?_)
  refine lv_aload_n hx hb dX7_init_127 rfl (lv_at hl 1 rfl) ?_
  refine va_get (D := D) (ci := 2) (v := .ref q7) (C := RX7) (T := TX7) (N := 16) hx hb hts hi9 hown hK hP 0 rfl rfl 0 (by decide) (hts (.fieldLink RX7 9 "SternBrocotExplorer" "tops" "[I") (by decide +kernel)) (fun _ h9 => h9) rfl dX7_init_128 ?_
  refine lv_iload_n hx hb dX7_init_131 rfl (lv_at hl 0 rfl) ?_
  refine lv_iconst (v := (1 : Int32)) hx hb dX7_init_132 (by decide) ?_
  refine va_iast hx hb hK hP hD hS 1 0 rfl rfl (by unfold vp_in; decide) dX7_init_133 (fun H locs hP hD hS => ?_)
  have hP : va_P D vwCl [(h0, .inr (2, [.ref q7, .ref q15, .ref q22, .ref q31, .ref q39, .ref q46, .int 0, .ref q55, .int 0, .ref q63, .int 0, .ref q72, .ref q81, .ref q87, .ref q98, .ref q109])), (q7, ai cI 8 (upd (upd (upd (upd (fun _ => 0) (0 : Int32).toNatClampNeg (1 : Int32)) (1 : Int32).toNatClampNeg (1 : Int32)) (2 : Int32).toNatClampNeg (1 : Int32)) (3 : Int32).toNatClampNeg (1 : Int32))), (q15, ai cI 8 (upd (upd (upd (fun _ => 0) (0 : Int32).toNatClampNeg (1 : Int32)) (1 : Int32).toNatClampNeg (1 : Int32)) (2 : Int32).toNatClampNeg (1 : Int32))), (q22, aq cN 5 (fun _ => none)), (q31, ai cI 8 (fun _ => 0)), (q39, ai cI 8 (fun _ => 0)), (q46, aq cN 5 (fun _ => none)), (q55, ai cI 20 (fun _ => 0)), (q63, ai cI 60 (fun _ => 0)), (q72, .inl (cR, 3, .inr (.inr (.inr (.inr (fun i => if i = 0 then some r72 else if i = 1 then some s72 else if i = 2 then some t72 else none)))))), (r72, ai cI 60 (fun _ => 0)), (s72, ai cI 60 (fun _ => 0)), (t72, ai cI 60 (fun _ => 0)), (q81, ai cI 3 (fun _ => 0)), (q87, o1 u91 0 0 0 0 0), (u91, ai cI 64 (fun _ => 0)), (q98, o1 u102 0 0 0 0 0), (u102, ai cI 64 (fun _ => 0)), (q109, o4 u113 v113 w113 z113 0), (u113, ai cI 720 (fun _ => 0)), (v113, ai cI 720 (fun _ => 0)), (w113, ai cI 720 (fun _ => 0)), (z113, ai cI 160 (fun _ => 0))] H := hP
  have hD : va_D A [(h0, .inr (2, [.ref q7, .ref q15, .ref q22, .ref q31, .ref q39, .ref q46, .int 0, .ref q55, .int 0, .ref q63, .int 0, .ref q72, .ref q81, .ref q87, .ref q98, .ref q109])), (q7, ai cI 8 (upd (upd (upd (upd (fun _ => 0) (0 : Int32).toNatClampNeg (1 : Int32)) (1 : Int32).toNatClampNeg (1 : Int32)) (2 : Int32).toNatClampNeg (1 : Int32)) (3 : Int32).toNatClampNeg (1 : Int32))), (q15, ai cI 8 (upd (upd (upd (fun _ => 0) (0 : Int32).toNatClampNeg (1 : Int32)) (1 : Int32).toNatClampNeg (1 : Int32)) (2 : Int32).toNatClampNeg (1 : Int32))), (q22, aq cN 5 (fun _ => none)), (q31, ai cI 8 (fun _ => 0)), (q39, ai cI 8 (fun _ => 0)), (q46, aq cN 5 (fun _ => none)), (q55, ai cI 20 (fun _ => 0)), (q63, ai cI 60 (fun _ => 0)), (q72, .inl (cR, 3, .inr (.inr (.inr (.inr (fun i => if i = 0 then some r72 else if i = 1 then some s72 else if i = 2 then some t72 else none)))))), (r72, ai cI 60 (fun _ => 0)), (s72, ai cI 60 (fun _ => 0)), (t72, ai cI 60 (fun _ => 0)), (q81, ai cI 3 (fun _ => 0)), (q87, o1 u91 0 0 0 0 0), (u91, ai cI 64 (fun _ => 0)), (q98, o1 u102 0 0 0 0 0), (u102, ai cI 64 (fun _ => 0)), (q109, o4 u113 v113 w113 z113 0), (u113, ai cI 720 (fun _ => 0)), (v113, ai cI 720 (fun _ => 0)), (w113, ai cI 720 (fun _ => 0)), (z113, ai cI 160 (fun _ => 0))] := hD
  refine lv_aload_n hx hb dX7_init_134 rfl (lv_at hl 1 rfl) ?_
  refine va_get (D := D) (ci := 2) (v := .ref q15) (C := RX7) (T := TX7) (N := 16) hx hb hts hi9 hown hK hP 0 rfl rfl 1 (by decide) (hts (.fieldLink RX7 13 "SternBrocotExplorer" "bottoms" "[I") (by decide +kernel)) (fun _ h9 => h9) rfl dX7_init_135 ?_
  refine lv_iload_n hx hb dX7_init_138 rfl (lv_at hl 0 rfl) ?_
  refine lv_iconst (v := (1 : Int32)) hx hb dX7_init_139 (by decide) ?_
  refine va_iast hx hb hK hP hD hS 2 0 rfl rfl (by unfold vp_in; decide) dX7_init_140 (fun H locs hP hD hS => ?_)
  have hP : va_P D vwCl [(h0, .inr (2, [.ref q7, .ref q15, .ref q22, .ref q31, .ref q39, .ref q46, .int 0, .ref q55, .int 0, .ref q63, .int 0, .ref q72, .ref q81, .ref q87, .ref q98, .ref q109])), (q7, ai cI 8 (upd (upd (upd (upd (fun _ => 0) (0 : Int32).toNatClampNeg (1 : Int32)) (1 : Int32).toNatClampNeg (1 : Int32)) (2 : Int32).toNatClampNeg (1 : Int32)) (3 : Int32).toNatClampNeg (1 : Int32))), (q15, ai cI 8 (upd (upd (upd (upd (fun _ => 0) (0 : Int32).toNatClampNeg (1 : Int32)) (1 : Int32).toNatClampNeg (1 : Int32)) (2 : Int32).toNatClampNeg (1 : Int32)) (3 : Int32).toNatClampNeg (1 : Int32))), (q22, aq cN 5 (fun _ => none)), (q31, ai cI 8 (fun _ => 0)), (q39, ai cI 8 (fun _ => 0)), (q46, aq cN 5 (fun _ => none)), (q55, ai cI 20 (fun _ => 0)), (q63, ai cI 60 (fun _ => 0)), (q72, .inl (cR, 3, .inr (.inr (.inr (.inr (fun i => if i = 0 then some r72 else if i = 1 then some s72 else if i = 2 then some t72 else none)))))), (r72, ai cI 60 (fun _ => 0)), (s72, ai cI 60 (fun _ => 0)), (t72, ai cI 60 (fun _ => 0)), (q81, ai cI 3 (fun _ => 0)), (q87, o1 u91 0 0 0 0 0), (u91, ai cI 64 (fun _ => 0)), (q98, o1 u102 0 0 0 0 0), (u102, ai cI 64 (fun _ => 0)), (q109, o4 u113 v113 w113 z113 0), (u113, ai cI 720 (fun _ => 0)), (v113, ai cI 720 (fun _ => 0)), (w113, ai cI 720 (fun _ => 0)), (z113, ai cI 160 (fun _ => 0))] H := hP
  have hD : va_D A [(h0, .inr (2, [.ref q7, .ref q15, .ref q22, .ref q31, .ref q39, .ref q46, .int 0, .ref q55, .int 0, .ref q63, .int 0, .ref q72, .ref q81, .ref q87, .ref q98, .ref q109])), (q7, ai cI 8 (upd (upd (upd (upd (fun _ => 0) (0 : Int32).toNatClampNeg (1 : Int32)) (1 : Int32).toNatClampNeg (1 : Int32)) (2 : Int32).toNatClampNeg (1 : Int32)) (3 : Int32).toNatClampNeg (1 : Int32))), (q15, ai cI 8 (upd (upd (upd (upd (fun _ => 0) (0 : Int32).toNatClampNeg (1 : Int32)) (1 : Int32).toNatClampNeg (1 : Int32)) (2 : Int32).toNatClampNeg (1 : Int32)) (3 : Int32).toNatClampNeg (1 : Int32))), (q22, aq cN 5 (fun _ => none)), (q31, ai cI 8 (fun _ => 0)), (q39, ai cI 8 (fun _ => 0)), (q46, aq cN 5 (fun _ => none)), (q55, ai cI 20 (fun _ => 0)), (q63, ai cI 60 (fun _ => 0)), (q72, .inl (cR, 3, .inr (.inr (.inr (.inr (fun i => if i = 0 then some r72 else if i = 1 then some s72 else if i = 2 then some t72 else none)))))), (r72, ai cI 60 (fun _ => 0)), (s72, ai cI 60 (fun _ => 0)), (t72, ai cI 60 (fun _ => 0)), (q81, ai cI 3 (fun _ => 0)), (q87, o1 u91 0 0 0 0 0), (u91, ai cI 64 (fun _ => 0)), (q98, o1 u102 0 0 0 0 0), (u102, ai cI 64 (fun _ => 0)), (q109, o4 u113 v113 w113 z113 0), (u113, ai cI 720 (fun _ => 0)), (v113, ai cI 720 (fun _ => 0)), (w113, ai cI 720 (fun _ => 0)), (z113, ai cI 160 (fun _ => 0))] := hD
  refine lv_iinc (v := (4 : Int32)) (lv' := [(1, .int (4 : Int32)), (0, .ref h0)]) hx hb dX7_init_141 hl (k := 0) rfl (by decide) (by decide) rfl (fun ls hl => ?_)
  refine lv_goto (tgt := 121) hx hb dX7_init_144 (by decide) ?_
  refine lv_iload_n hx hb dX7_init_121 rfl (lv_at hl 0 rfl) ?_
  refine lv_bipush (v := (8 : Int32)) hx hb dX7_init_122 (by decide) ?_
  refine lv_icmp_ge (tgt := 147) hx hb dX7_init_124 (by decide) (fun k => absurd k (by decide)) (fun k => ?_)
  refine lv_aload_n hx hb dX7_init_127 rfl (lv_at hl 1 rfl) ?_
  refine va_get (D := D) (ci := 2) (v := .ref q7) (C := RX7) (T := TX7) (N := 16) hx hb hts hi9 hown hK hP 0 rfl rfl 0 (by decide) (hts (.fieldLink RX7 9 "SternBrocotExplorer" "tops" "[I") (by decide +kernel)) (fun _ h9 => h9) rfl dX7_init_128 ?_
  refine lv_iload_n hx hb dX7_init_131 rfl (lv_at hl 0 rfl) ?_
  refine lv_iconst (v := (1 : Int32)) hx hb dX7_init_132 (by decide) ?_
  refine va_iast hx hb hK hP hD hS 1 0 rfl rfl (by unfold vp_in; decide) dX7_init_133 (fun H locs hP hD hS => ?_)
  have hP : va_P D vwCl [(h0, .inr (2, [.ref q7, .ref q15, .ref q22, .ref q31, .ref q39, .ref q46, .int 0, .ref q55, .int 0, .ref q63, .int 0, .ref q72, .ref q81, .ref q87, .ref q98, .ref q109])), (q7, ai cI 8 (upd (upd (upd (upd (upd (fun _ => 0) (0 : Int32).toNatClampNeg (1 : Int32)) (1 : Int32).toNatClampNeg (1 : Int32)) (2 : Int32).toNatClampNeg (1 : Int32)) (3 : Int32).toNatClampNeg (1 : Int32)) (4 : Int32).toNatClampNeg (1 : Int32))), (q15, ai cI 8 (upd (upd (upd (upd (fun _ => 0) (0 : Int32).toNatClampNeg (1 : Int32)) (1 : Int32).toNatClampNeg (1 : Int32)) (2 : Int32).toNatClampNeg (1 : Int32)) (3 : Int32).toNatClampNeg (1 : Int32))), (q22, aq cN 5 (fun _ => none)), (q31, ai cI 8 (fun _ => 0)), (q39, ai cI 8 (fun _ => 0)), (q46, aq cN 5 (fun _ => none)), (q55, ai cI 20 (fun _ => 0)), (q63, ai cI 60 (fun _ => 0)), (q72, .inl (cR, 3, .inr (.inr (.inr (.inr (fun i => if i = 0 then some r72 else if i = 1 then some s72 else if i = 2 then some t72 else none)))))), (r72, ai cI 60 (fun _ => 0)), (s72, ai cI 60 (fun _ => 0)), (t72, ai cI 60 (fun _ => 0)), (q81, ai cI 3 (fun _ => 0)), (q87, o1 u91 0 0 0 0 0), (u91, ai cI 64 (fun _ => 0)), (q98, o1 u102 0 0 0 0 0), (u102, ai cI 64 (fun _ => 0)), (q109, o4 u113 v113 w113 z113 0), (u113, ai cI 720 (fun _ => 0)), (v113, ai cI 720 (fun _ => 0)), (w113, ai cI 720 (fun _ => 0)), (z113, ai cI 160 (fun _ => 0))] H := hP
  have hD : va_D A [(h0, .inr (2, [.ref q7, .ref q15, .ref q22, .ref q31, .ref q39, .ref q46, .int 0, .ref q55, .int 0, .ref q63, .int 0, .ref q72, .ref q81, .ref q87, .ref q98, .ref q109])), (q7, ai cI 8 (upd (upd (upd (upd (upd (fun _ => 0) (0 : Int32).toNatClampNeg (1 : Int32)) (1 : Int32).toNatClampNeg (1 : Int32)) (2 : Int32).toNatClampNeg (1 : Int32)) (3 : Int32).toNatClampNeg (1 : Int32)) (4 : Int32).toNatClampNeg (1 : Int32))), (q15, ai cI 8 (upd (upd (upd (upd (fun _ => 0) (0 : Int32).toNatClampNeg (1 : Int32)) (1 : Int32).toNatClampNeg (1 : Int32)) (2 : Int32).toNatClampNeg (1 : Int32)) (3 : Int32).toNatClampNeg (1 : Int32))), (q22, aq cN 5 (fun _ => none)), (q31, ai cI 8 (fun _ => 0)), (q39, ai cI 8 (fun _ => 0)), (q46, aq cN 5 (fun _ => none)), (q55, ai cI 20 (fun _ => 0)), (q63, ai cI 60 (fun _ => 0)), (q72, .inl (cR, 3, .inr (.inr (.inr (.inr (fun i => if i = 0 then some r72 else if i = 1 then some s72 else if i = 2 then some t72 else none)))))), (r72, ai cI 60 (fun _ => 0)), (s72, ai cI 60 (fun _ => 0)), (t72, ai cI 60 (fun _ => 0)), (q81, ai cI 3 (fun _ => 0)), (q87, o1 u91 0 0 0 0 0), (u91, ai cI 64 (fun _ => 0)), (q98, o1 u102 0 0 0 0 0), (u102, ai cI 64 (fun _ => 0)), (q109, o4 u113 v113 w113 z113 0), (u113, ai cI 720 (fun _ => 0)), (v113, ai cI 720 (fun _ => 0)), (w113, ai cI 720 (fun _ => 0)), (z113, ai cI 160 (fun _ => 0))] := hD
  refine lv_aload_n hx hb dX7_init_134 rfl (lv_at hl 1 rfl) ?_
  refine va_get (D := D) (ci := 2) (v := .ref q15) (C := RX7) (T := TX7) (N := 16) hx hb hts hi9 hown hK hP 0 rfl rfl 1 (by decide) (hts (.fieldLink RX7 13 "SternBrocotExplorer" "bottoms" "[I") (by decide +kernel)) (fun _ h9 => h9) rfl dX7_init_135 ?_
  refine lv_iload_n hx hb dX7_init_138 rfl (lv_at hl 0 rfl) ?_
  refine lv_iconst (v := (1 : Int32)) hx hb dX7_init_139 (by decide) ?_
  refine va_iast hx hb hK hP hD hS 2 0 rfl rfl (by unfold vp_in; decide) dX7_init_140 (fun H locs hP hD hS => ?_)
  have hP : va_P D vwCl [(h0, .inr (2, [.ref q7, .ref q15, .ref q22, .ref q31, .ref q39, .ref q46, .int 0, .ref q55, .int 0, .ref q63, .int 0, .ref q72, .ref q81, .ref q87, .ref q98, .ref q109])), (q7, ai cI 8 (upd (upd (upd (upd (upd (fun _ => 0) (0 : Int32).toNatClampNeg (1 : Int32)) (1 : Int32).toNatClampNeg (1 : Int32)) (2 : Int32).toNatClampNeg (1 : Int32)) (3 : Int32).toNatClampNeg (1 : Int32)) (4 : Int32).toNatClampNeg (1 : Int32))), (q15, ai cI 8 (upd (upd (upd (upd (upd (fun _ => 0) (0 : Int32).toNatClampNeg (1 : Int32)) (1 : Int32).toNatClampNeg (1 : Int32)) (2 : Int32).toNatClampNeg (1 : Int32)) (3 : Int32).toNatClampNeg (1 : Int32)) (4 : Int32).toNatClampNeg (1 : Int32))), (q22, aq cN 5 (fun _ => none)), (q31, ai cI 8 (fun _ => 0)), (q39, ai cI 8 (fun _ => 0)), (q46, aq cN 5 (fun _ => none)), (q55, ai cI 20 (fun _ => 0)), (q63, ai cI 60 (fun _ => 0)), (q72, .inl (cR, 3, .inr (.inr (.inr (.inr (fun i => if i = 0 then some r72 else if i = 1 then some s72 else if i = 2 then some t72 else none)))))), (r72, ai cI 60 (fun _ => 0)), (s72, ai cI 60 (fun _ => 0)), (t72, ai cI 60 (fun _ => 0)), (q81, ai cI 3 (fun _ => 0)), (q87, o1 u91 0 0 0 0 0), (u91, ai cI 64 (fun _ => 0)), (q98, o1 u102 0 0 0 0 0), (u102, ai cI 64 (fun _ => 0)), (q109, o4 u113 v113 w113 z113 0), (u113, ai cI 720 (fun _ => 0)), (v113, ai cI 720 (fun _ => 0)), (w113, ai cI 720 (fun _ => 0)), (z113, ai cI 160 (fun _ => 0))] H := hP
  have hD : va_D A [(h0, .inr (2, [.ref q7, .ref q15, .ref q22, .ref q31, .ref q39, .ref q46, .int 0, .ref q55, .int 0, .ref q63, .int 0, .ref q72, .ref q81, .ref q87, .ref q98, .ref q109])), (q7, ai cI 8 (upd (upd (upd (upd (upd (fun _ => 0) (0 : Int32).toNatClampNeg (1 : Int32)) (1 : Int32).toNatClampNeg (1 : Int32)) (2 : Int32).toNatClampNeg (1 : Int32)) (3 : Int32).toNatClampNeg (1 : Int32)) (4 : Int32).toNatClampNeg (1 : Int32))), (q15, ai cI 8 (upd (upd (upd (upd (upd (fun _ => 0) (0 : Int32).toNatClampNeg (1 : Int32)) (1 : Int32).toNatClampNeg (1 : Int32)) (2 : Int32).toNatClampNeg (1 : Int32)) (3 : Int32).toNatClampNeg (1 : Int32)) (4 : Int32).toNatClampNeg (1 : Int32))), (q22, aq cN 5 (fun _ => none)), (q31, ai cI 8 (fun _ => 0)), (q39, ai cI 8 (fun _ => 0)), (q46, aq cN 5 (fun _ => none)), (q55, ai cI 20 (fun _ => 0)), (q63, ai cI 60 (fun _ => 0)), (q72, .inl (cR, 3, .inr (.inr (.inr (.inr (fun i => if i = 0 then some r72 else if i = 1 then some s72 else if i = 2 then some t72 else none)))))), (r72, ai cI 60 (fun _ => 0)), (s72, ai cI 60 (fun _ => 0)), (t72, ai cI 60 (fun _ => 0)), (q81, ai cI 3 (fun _ => 0)), (q87, o1 u91 0 0 0 0 0), (u91, ai cI 64 (fun _ => 0)), (q98, o1 u102 0 0 0 0 0), (u102, ai cI 64 (fun _ => 0)), (q109, o4 u113 v113 w113 z113 0), (u113, ai cI 720 (fun _ => 0)), (v113, ai cI 720 (fun _ => 0)), (w113, ai cI 720 (fun _ => 0)), (z113, ai cI 160 (fun _ => 0))] := hD
  refine lv_iinc (v := (5 : Int32)) (lv' := [(1, .int (5 : Int32)), (0, .ref h0)]) hx hb dX7_init_141 hl (k := 0) rfl (by decide) (by decide) rfl (fun ls hl => ?_)
  refine lv_goto (tgt := 121) hx hb dX7_init_144 (by decide) ?_
  refine lv_iload_n hx hb dX7_init_121 rfl (lv_at hl 0 rfl) ?_
  refine lv_bipush (v := (8 : Int32)) hx hb dX7_init_122 (by decide) ?_
  refine lv_icmp_ge (tgt := 147) hx hb dX7_init_124 (by decide) (fun k => absurd k (by decide)) (fun k => ?_)
  refine lv_aload_n hx hb dX7_init_127 rfl (lv_at hl 1 rfl) ?_
  refine va_get (D := D) (ci := 2) (v := .ref q7) (C := RX7) (T := TX7) (N := 16) hx hb hts hi9 hown hK hP 0 rfl rfl 0 (by decide) (hts (.fieldLink RX7 9 "SternBrocotExplorer" "tops" "[I") (by decide +kernel)) (fun _ h9 => h9) rfl dX7_init_128 ?_
  refine lv_iload_n hx hb dX7_init_131 rfl (lv_at hl 0 rfl) ?_
  refine lv_iconst (v := (1 : Int32)) hx hb dX7_init_132 (by decide) ?_
  refine va_iast hx hb hK hP hD hS 1 0 rfl rfl (by unfold vp_in; decide) dX7_init_133 (fun H locs hP hD hS => ?_)
  have hP : va_P D vwCl [(h0, .inr (2, [.ref q7, .ref q15, .ref q22, .ref q31, .ref q39, .ref q46, .int 0, .ref q55, .int 0, .ref q63, .int 0, .ref q72, .ref q81, .ref q87, .ref q98, .ref q109])), (q7, ai cI 8 (upd (upd (upd (upd (upd (upd (fun _ => 0) (0 : Int32).toNatClampNeg (1 : Int32)) (1 : Int32).toNatClampNeg (1 : Int32)) (2 : Int32).toNatClampNeg (1 : Int32)) (3 : Int32).toNatClampNeg (1 : Int32)) (4 : Int32).toNatClampNeg (1 : Int32)) (5 : Int32).toNatClampNeg (1 : Int32))), (q15, ai cI 8 (upd (upd (upd (upd (upd (fun _ => 0) (0 : Int32).toNatClampNeg (1 : Int32)) (1 : Int32).toNatClampNeg (1 : Int32)) (2 : Int32).toNatClampNeg (1 : Int32)) (3 : Int32).toNatClampNeg (1 : Int32)) (4 : Int32).toNatClampNeg (1 : Int32))), (q22, aq cN 5 (fun _ => none)), (q31, ai cI 8 (fun _ => 0)), (q39, ai cI 8 (fun _ => 0)), (q46, aq cN 5 (fun _ => none)), (q55, ai cI 20 (fun _ => 0)), (q63, ai cI 60 (fun _ => 0)), (q72, .inl (cR, 3, .inr (.inr (.inr (.inr (fun i => if i = 0 then some r72 else if i = 1 then some s72 else if i = 2 then some t72 else none)))))), (r72, ai cI 60 (fun _ => 0)), (s72, ai cI 60 (fun _ => 0)), (t72, ai cI 60 (fun _ => 0)), (q81, ai cI 3 (fun _ => 0)), (q87, o1 u91 0 0 0 0 0), (u91, ai cI 64 (fun _ => 0)), (q98, o1 u102 0 0 0 0 0), (u102, ai cI 64 (fun _ => 0)), (q109, o4 u113 v113 w113 z113 0), (u113, ai cI 720 (fun _ => 0)), (v113, ai cI 720 (fun _ => 0)), (w113, ai cI 720 (fun _ => 0)), (z113, ai cI 160 (fun _ => 0))] H := hP
  have hD : va_D A [(h0, .inr (2, [.ref q7, .ref q15, .ref q22, .ref q31, .ref q39, .ref q46, .int 0, .ref q55, .int 0, .ref q63, .int 0, .ref q72, .ref q81, .ref q87, .ref q98, .ref q109])), (q7, ai cI 8 (upd (upd (upd (upd (upd (upd (fun _ => 0) (0 : Int32).toNatClampNeg (1 : Int32)) (1 : Int32).toNatClampNeg (1 : Int32)) (2 : Int32).toNatClampNeg (1 : Int32)) (3 : Int32).toNatClampNeg (1 : Int32)) (4 : Int32).toNatClampNeg (1 : Int32)) (5 : Int32).toNatClampNeg (1 : Int32))), (q15, ai cI 8 (upd (upd (upd (upd (upd (fun _ => 0) (0 : Int32).toNatClampNeg (1 : Int32)) (1 : Int32).toNatClampNeg (1 : Int32)) (2 : Int32).toNatClampNeg (1 : Int32)) (3 : Int32).toNatClampNeg (1 : Int32)) (4 : Int32).toNatClampNeg (1 : Int32))), (q22, aq cN 5 (fun _ => none)), (q31, ai cI 8 (fun _ => 0)), (q39, ai cI 8 (fun _ => 0)), (q46, aq cN 5 (fun _ => none)), (q55, ai cI 20 (fun _ => 0)), (q63, ai cI 60 (fun _ => 0)), (q72, .inl (cR, 3, .inr (.inr (.inr (.inr (fun i => if i = 0 then some r72 else if i = 1 then some s72 else if i = 2 then some t72 else none)))))), (r72, ai cI 60 (fun _ => 0)), (s72, ai cI 60 (fun _ => 0)), (t72, ai cI 60 (fun _ => 0)), (q81, ai cI 3 (fun _ => 0)), (q87, o1 u91 0 0 0 0 0), (u91, ai cI 64 (fun _ => 0)), (q98, o1 u102 0 0 0 0 0), (u102, ai cI 64 (fun _ => 0)), (q109, o4 u113 v113 w113 z113 0), (u113, ai cI 720 (fun _ => 0)), (v113, ai cI 720 (fun _ => 0)), (w113, ai cI 720 (fun _ => 0)), (z113, ai cI 160 (fun _ => 0))] := hD
  refine lv_aload_n hx hb dX7_init_134 rfl (lv_at hl 1 rfl) ?_
  refine va_get (D := D) (ci := 2) (v := .ref q15) (C := RX7) (T := TX7) (N := 16) hx hb hts hi9 hown hK hP 0 rfl rfl 1 (by decide) (hts (.fieldLink RX7 13 "SternBrocotExplorer" "bottoms" "[I") (by decide +kernel)) (fun _ h9 => h9) rfl dX7_init_135 ?_
  refine lv_iload_n hx hb dX7_init_138 rfl (lv_at hl 0 rfl) ?_
  refine lv_iconst (v := (1 : Int32)) hx hb dX7_init_139 (by decide) ?_
  refine va_iast hx hb hK hP hD hS 2 0 rfl rfl (by unfold vp_in; decide) dX7_init_140 (fun H locs hP hD hS => ?_)
  have hP : va_P D vwCl [(h0, .inr (2, [.ref q7, .ref q15, .ref q22, .ref q31, .ref q39, .ref q46, .int 0, .ref q55, .int 0, .ref q63, .int 0, .ref q72, .ref q81, .ref q87, .ref q98, .ref q109])), (q7, ai cI 8 (upd (upd (upd (upd (upd (upd (fun _ => 0) (0 : Int32).toNatClampNeg (1 : Int32)) (1 : Int32).toNatClampNeg (1 : Int32)) (2 : Int32).toNatClampNeg (1 : Int32)) (3 : Int32).toNatClampNeg (1 : Int32)) (4 : Int32).toNatClampNeg (1 : Int32)) (5 : Int32).toNatClampNeg (1 : Int32))), (q15, ai cI 8 (upd (upd (upd (upd (upd (upd (fun _ => 0) (0 : Int32).toNatClampNeg (1 : Int32)) (1 : Int32).toNatClampNeg (1 : Int32)) (2 : Int32).toNatClampNeg (1 : Int32)) (3 : Int32).toNatClampNeg (1 : Int32)) (4 : Int32).toNatClampNeg (1 : Int32)) (5 : Int32).toNatClampNeg (1 : Int32))), (q22, aq cN 5 (fun _ => none)), (q31, ai cI 8 (fun _ => 0)), (q39, ai cI 8 (fun _ => 0)), (q46, aq cN 5 (fun _ => none)), (q55, ai cI 20 (fun _ => 0)), (q63, ai cI 60 (fun _ => 0)), (q72, .inl (cR, 3, .inr (.inr (.inr (.inr (fun i => if i = 0 then some r72 else if i = 1 then some s72 else if i = 2 then some t72 else none)))))), (r72, ai cI 60 (fun _ => 0)), (s72, ai cI 60 (fun _ => 0)), (t72, ai cI 60 (fun _ => 0)), (q81, ai cI 3 (fun _ => 0)), (q87, o1 u91 0 0 0 0 0), (u91, ai cI 64 (fun _ => 0)), (q98, o1 u102 0 0 0 0 0), (u102, ai cI 64 (fun _ => 0)), (q109, o4 u113 v113 w113 z113 0), (u113, ai cI 720 (fun _ => 0)), (v113, ai cI 720 (fun _ => 0)), (w113, ai cI 720 (fun _ => 0)), (z113, ai cI 160 (fun _ => 0))] H := hP
  have hD : va_D A [(h0, .inr (2, [.ref q7, .ref q15, .ref q22, .ref q31, .ref q39, .ref q46, .int 0, .ref q55, .int 0, .ref q63, .int 0, .ref q72, .ref q81, .ref q87, .ref q98, .ref q109])), (q7, ai cI 8 (upd (upd (upd (upd (upd (upd (fun _ => 0) (0 : Int32).toNatClampNeg (1 : Int32)) (1 : Int32).toNatClampNeg (1 : Int32)) (2 : Int32).toNatClampNeg (1 : Int32)) (3 : Int32).toNatClampNeg (1 : Int32)) (4 : Int32).toNatClampNeg (1 : Int32)) (5 : Int32).toNatClampNeg (1 : Int32))), (q15, ai cI 8 (upd (upd (upd (upd (upd (upd (fun _ => 0) (0 : Int32).toNatClampNeg (1 : Int32)) (1 : Int32).toNatClampNeg (1 : Int32)) (2 : Int32).toNatClampNeg (1 : Int32)) (3 : Int32).toNatClampNeg (1 : Int32)) (4 : Int32).toNatClampNeg (1 : Int32)) (5 : Int32).toNatClampNeg (1 : Int32))), (q22, aq cN 5 (fun _ => none)), (q31, ai cI 8 (fun _ => 0)), (q39, ai cI 8 (fun _ => 0)), (q46, aq cN 5 (fun _ => none)), (q55, ai cI 20 (fun _ => 0)), (q63, ai cI 60 (fun _ => 0)), (q72, .inl (cR, 3, .inr (.inr (.inr (.inr (fun i => if i = 0 then some r72 else if i = 1 then some s72 else if i = 2 then some t72 else none)))))), (r72, ai cI 60 (fun _ => 0)), (s72, ai cI 60 (fun _ => 0)), (t72, ai cI 60 (fun _ => 0)), (q81, ai cI 3 (fun _ => 0)), (q87, o1 u91 0 0 0 0 0), (u91, ai cI 64 (fun _ => 0)), (q98, o1 u102 0 0 0 0 0), (u102, ai cI 64 (fun _ => 0)), (q109, o4 u113 v113 w113 z113 0), (u113, ai cI 720 (fun _ => 0)), (v113, ai cI 720 (fun _ => 0)), (w113, ai cI 720 (fun _ => 0)), (z113, ai cI 160 (fun _ => 0))] := hD
  refine lv_iinc (v := (6 : Int32)) (lv' := [(1, .int (6 : Int32)), (0, .ref h0)]) hx hb dX7_init_141 hl (k := 0) rfl (by decide) (by decide) rfl (fun ls hl => ?_)
  refine lv_goto (tgt := 121) hx hb dX7_init_144 (by decide) ?_
  refine lv_iload_n hx hb dX7_init_121 rfl (lv_at hl 0 rfl) ?_
  refine lv_bipush (v := (8 : Int32)) hx hb dX7_init_122 (by decide) ?_
  refine lv_icmp_ge (tgt := 147) hx hb dX7_init_124 (by decide) (fun k => absurd k (by decide)) (fun k => ?_)
  refine lv_aload_n hx hb dX7_init_127 rfl (lv_at hl 1 rfl) ?_
  refine va_get (D := D) (ci := 2) (v := .ref q7) (C := RX7) (T := TX7) (N := 16) hx hb hts hi9 hown hK hP 0 rfl rfl 0 (by decide) (hts (.fieldLink RX7 9 "SternBrocotExplorer" "tops" "[I") (by decide +kernel)) (fun _ h9 => h9) rfl dX7_init_128 ?_
  refine lv_iload_n hx hb dX7_init_131 rfl (lv_at hl 0 rfl) ?_
  refine lv_iconst (v := (1 : Int32)) hx hb dX7_init_132 (by decide) ?_
  refine va_iast hx hb hK hP hD hS 1 0 rfl rfl (by unfold vp_in; decide) dX7_init_133 (fun H locs hP hD hS => ?_)
  have hP : va_P D vwCl [(h0, .inr (2, [.ref q7, .ref q15, .ref q22, .ref q31, .ref q39, .ref q46, .int 0, .ref q55, .int 0, .ref q63, .int 0, .ref q72, .ref q81, .ref q87, .ref q98, .ref q109])), (q7, ai cI 8 (upd (upd (upd (upd (upd (upd (upd (fun _ => 0) (0 : Int32).toNatClampNeg (1 : Int32)) (1 : Int32).toNatClampNeg (1 : Int32)) (2 : Int32).toNatClampNeg (1 : Int32)) (3 : Int32).toNatClampNeg (1 : Int32)) (4 : Int32).toNatClampNeg (1 : Int32)) (5 : Int32).toNatClampNeg (1 : Int32)) (6 : Int32).toNatClampNeg (1 : Int32))), (q15, ai cI 8 (upd (upd (upd (upd (upd (upd (fun _ => 0) (0 : Int32).toNatClampNeg (1 : Int32)) (1 : Int32).toNatClampNeg (1 : Int32)) (2 : Int32).toNatClampNeg (1 : Int32)) (3 : Int32).toNatClampNeg (1 : Int32)) (4 : Int32).toNatClampNeg (1 : Int32)) (5 : Int32).toNatClampNeg (1 : Int32))), (q22, aq cN 5 (fun _ => none)), (q31, ai cI 8 (fun _ => 0)), (q39, ai cI 8 (fun _ => 0)), (q46, aq cN 5 (fun _ => none)), (q55, ai cI 20 (fun _ => 0)), (q63, ai cI 60 (fun _ => 0)), (q72, .inl (cR, 3, .inr (.inr (.inr (.inr (fun i => if i = 0 then some r72 else if i = 1 then some s72 else if i = 2 then some t72 else none)))))), (r72, ai cI 60 (fun _ => 0)), (s72, ai cI 60 (fun _ => 0)), (t72, ai cI 60 (fun _ => 0)), (q81, ai cI 3 (fun _ => 0)), (q87, o1 u91 0 0 0 0 0), (u91, ai cI 64 (fun _ => 0)), (q98, o1 u102 0 0 0 0 0), (u102, ai cI 64 (fun _ => 0)), (q109, o4 u113 v113 w113 z113 0), (u113, ai cI 720 (fun _ => 0)), (v113, ai cI 720 (fun _ => 0)), (w113, ai cI 720 (fun _ => 0)), (z113, ai cI 160 (fun _ => 0))] H := hP
  have hD : va_D A [(h0, .inr (2, [.ref q7, .ref q15, .ref q22, .ref q31, .ref q39, .ref q46, .int 0, .ref q55, .int 0, .ref q63, .int 0, .ref q72, .ref q81, .ref q87, .ref q98, .ref q109])), (q7, ai cI 8 (upd (upd (upd (upd (upd (upd (upd (fun _ => 0) (0 : Int32).toNatClampNeg (1 : Int32)) (1 : Int32).toNatClampNeg (1 : Int32)) (2 : Int32).toNatClampNeg (1 : Int32)) (3 : Int32).toNatClampNeg (1 : Int32)) (4 : Int32).toNatClampNeg (1 : Int32)) (5 : Int32).toNatClampNeg (1 : Int32)) (6 : Int32).toNatClampNeg (1 : Int32))), (q15, ai cI 8 (upd (upd (upd (upd (upd (upd (fun _ => 0) (0 : Int32).toNatClampNeg (1 : Int32)) (1 : Int32).toNatClampNeg (1 : Int32)) (2 : Int32).toNatClampNeg (1 : Int32)) (3 : Int32).toNatClampNeg (1 : Int32)) (4 : Int32).toNatClampNeg (1 : Int32)) (5 : Int32).toNatClampNeg (1 : Int32))), (q22, aq cN 5 (fun _ => none)), (q31, ai cI 8 (fun _ => 0)), (q39, ai cI 8 (fun _ => 0)), (q46, aq cN 5 (fun _ => none)), (q55, ai cI 20 (fun _ => 0)), (q63, ai cI 60 (fun _ => 0)), (q72, .inl (cR, 3, .inr (.inr (.inr (.inr (fun i => if i = 0 then some r72 else if i = 1 then some s72 else if i = 2 then some t72 else none)))))), (r72, ai cI 60 (fun _ => 0)), (s72, ai cI 60 (fun _ => 0)), (t72, ai cI 60 (fun _ => 0)), (q81, ai cI 3 (fun _ => 0)), (q87, o1 u91 0 0 0 0 0), (u91, ai cI 64 (fun _ => 0)), (q98, o1 u102 0 0 0 0 0), (u102, ai cI 64 (fun _ => 0)), (q109, o4 u113 v113 w113 z113 0), (u113, ai cI 720 (fun _ => 0)), (v113, ai cI 720 (fun _ => 0)), (w113, ai cI 720 (fun _ => 0)), (z113, ai cI 160 (fun _ => 0))] := hD
  refine lv_aload_n hx hb dX7_init_134 rfl (lv_at hl 1 rfl) ?_
  refine va_get (D := D) (ci := 2) (v := .ref q15) (C := RX7) (T := TX7) (N := 16) hx hb hts hi9 hown hK hP 0 rfl rfl 1 (by decide) (hts (.fieldLink RX7 13 "SternBrocotExplorer" "bottoms" "[I") (by decide +kernel)) (fun _ h9 => h9) rfl dX7_init_135 ?_
  refine lv_iload_n hx hb dX7_init_138 rfl (lv_at hl 0 rfl) ?_
  refine lv_iconst (v := (1 : Int32)) hx hb dX7_init_139 (by decide) ?_
  refine va_iast hx hb hK hP hD hS 2 0 rfl rfl (by unfold vp_in; decide) dX7_init_140 (fun H locs hP hD hS => ?_)
  have hP : va_P D vwCl [(h0, .inr (2, [.ref q7, .ref q15, .ref q22, .ref q31, .ref q39, .ref q46, .int 0, .ref q55, .int 0, .ref q63, .int 0, .ref q72, .ref q81, .ref q87, .ref q98, .ref q109])), (q7, ai cI 8 (upd (upd (upd (upd (upd (upd (upd (fun _ => 0) (0 : Int32).toNatClampNeg (1 : Int32)) (1 : Int32).toNatClampNeg (1 : Int32)) (2 : Int32).toNatClampNeg (1 : Int32)) (3 : Int32).toNatClampNeg (1 : Int32)) (4 : Int32).toNatClampNeg (1 : Int32)) (5 : Int32).toNatClampNeg (1 : Int32)) (6 : Int32).toNatClampNeg (1 : Int32))), (q15, ai cI 8 (upd (upd (upd (upd (upd (upd (upd (fun _ => 0) (0 : Int32).toNatClampNeg (1 : Int32)) (1 : Int32).toNatClampNeg (1 : Int32)) (2 : Int32).toNatClampNeg (1 : Int32)) (3 : Int32).toNatClampNeg (1 : Int32)) (4 : Int32).toNatClampNeg (1 : Int32)) (5 : Int32).toNatClampNeg (1 : Int32)) (6 : Int32).toNatClampNeg (1 : Int32))), (q22, aq cN 5 (fun _ => none)), (q31, ai cI 8 (fun _ => 0)), (q39, ai cI 8 (fun _ => 0)), (q46, aq cN 5 (fun _ => none)), (q55, ai cI 20 (fun _ => 0)), (q63, ai cI 60 (fun _ => 0)), (q72, .inl (cR, 3, .inr (.inr (.inr (.inr (fun i => if i = 0 then some r72 else if i = 1 then some s72 else if i = 2 then some t72 else none)))))), (r72, ai cI 60 (fun _ => 0)), (s72, ai cI 60 (fun _ => 0)), (t72, ai cI 60 (fun _ => 0)), (q81, ai cI 3 (fun _ => 0)), (q87, o1 u91 0 0 0 0 0), (u91, ai cI 64 (fun _ => 0)), (q98, o1 u102 0 0 0 0 0), (u102, ai cI 64 (fun _ => 0)), (q109, o4 u113 v113 w113 z113 0), (u113, ai cI 720 (fun _ => 0)), (v113, ai cI 720 (fun _ => 0)), (w113, ai cI 720 (fun _ => 0)), (z113, ai cI 160 (fun _ => 0))] H := hP
  have hD : va_D A [(h0, .inr (2, [.ref q7, .ref q15, .ref q22, .ref q31, .ref q39, .ref q46, .int 0, .ref q55, .int 0, .ref q63, .int 0, .ref q72, .ref q81, .ref q87, .ref q98, .ref q109])), (q7, ai cI 8 (upd (upd (upd (upd (upd (upd (upd (fun _ => 0) (0 : Int32).toNatClampNeg (1 : Int32)) (1 : Int32).toNatClampNeg (1 : Int32)) (2 : Int32).toNatClampNeg (1 : Int32)) (3 : Int32).toNatClampNeg (1 : Int32)) (4 : Int32).toNatClampNeg (1 : Int32)) (5 : Int32).toNatClampNeg (1 : Int32)) (6 : Int32).toNatClampNeg (1 : Int32))), (q15, ai cI 8 (upd (upd (upd (upd (upd (upd (upd (fun _ => 0) (0 : Int32).toNatClampNeg (1 : Int32)) (1 : Int32).toNatClampNeg (1 : Int32)) (2 : Int32).toNatClampNeg (1 : Int32)) (3 : Int32).toNatClampNeg (1 : Int32)) (4 : Int32).toNatClampNeg (1 : Int32)) (5 : Int32).toNatClampNeg (1 : Int32)) (6 : Int32).toNatClampNeg (1 : Int32))), (q22, aq cN 5 (fun _ => none)), (q31, ai cI 8 (fun _ => 0)), (q39, ai cI 8 (fun _ => 0)), (q46, aq cN 5 (fun _ => none)), (q55, ai cI 20 (fun _ => 0)), (q63, ai cI 60 (fun _ => 0)), (q72, .inl (cR, 3, .inr (.inr (.inr (.inr (fun i => if i = 0 then some r72 else if i = 1 then some s72 else if i = 2 then some t72 else none)))))), (r72, ai cI 60 (fun _ => 0)), (s72, ai cI 60 (fun _ => 0)), (t72, ai cI 60 (fun _ => 0)), (q81, ai cI 3 (fun _ => 0)), (q87, o1 u91 0 0 0 0 0), (u91, ai cI 64 (fun _ => 0)), (q98, o1 u102 0 0 0 0 0), (u102, ai cI 64 (fun _ => 0)), (q109, o4 u113 v113 w113 z113 0), (u113, ai cI 720 (fun _ => 0)), (v113, ai cI 720 (fun _ => 0)), (w113, ai cI 720 (fun _ => 0)), (z113, ai cI 160 (fun _ => 0))] := hD
  refine lv_iinc (v := (7 : Int32)) (lv' := [(1, .int (7 : Int32)), (0, .ref h0)]) hx hb dX7_init_141 hl (k := 0) rfl (by decide) (by decide) rfl (fun ls hl => ?_)
  refine lv_goto (tgt := 121) hx hb dX7_init_144 (by decide) ?_
  refine lv_iload_n hx hb dX7_init_121 rfl (lv_at hl 0 rfl) ?_
  refine lv_bipush (v := (8 : Int32)) hx hb dX7_init_122 (by decide) ?_
  refine lv_icmp_ge (tgt := 147) hx hb dX7_init_124 (by decide) (fun k => absurd k (by decide)) (fun k => ?_)
  refine lv_aload_n hx hb dX7_init_127 rfl (lv_at hl 1 rfl) ?_
  refine va_get (D := D) (ci := 2) (v := .ref q7) (C := RX7) (T := TX7) (N := 16) hx hb hts hi9 hown hK hP 0 rfl rfl 0 (by decide) (hts (.fieldLink RX7 9 "SternBrocotExplorer" "tops" "[I") (by decide +kernel)) (fun _ h9 => h9) rfl dX7_init_128 ?_
  refine lv_iload_n hx hb dX7_init_131 rfl (lv_at hl 0 rfl) ?_
  refine lv_iconst (v := (1 : Int32)) hx hb dX7_init_132 (by decide) ?_
  refine va_iast hx hb hK hP hD hS 1 0 rfl rfl (by unfold vp_in; decide) dX7_init_133 (fun H locs hP hD hS => ?_)
  have hP : va_P D vwCl [(h0, .inr (2, [.ref q7, .ref q15, .ref q22, .ref q31, .ref q39, .ref q46, .int 0, .ref q55, .int 0, .ref q63, .int 0, .ref q72, .ref q81, .ref q87, .ref q98, .ref q109])), (q7, ai cI 8 (upd (upd (upd (upd (upd (upd (upd (upd (fun _ => 0) (0 : Int32).toNatClampNeg (1 : Int32)) (1 : Int32).toNatClampNeg (1 : Int32)) (2 : Int32).toNatClampNeg (1 : Int32)) (3 : Int32).toNatClampNeg (1 : Int32)) (4 : Int32).toNatClampNeg (1 : Int32)) (5 : Int32).toNatClampNeg (1 : Int32)) (6 : Int32).toNatClampNeg (1 : Int32)) (7 : Int32).toNatClampNeg (1 : Int32))), (q15, ai cI 8 (upd (upd (upd (upd (upd (upd (upd (fun _ => 0) (0 : Int32).toNatClampNeg (1 : Int32)) (1 : Int32).toNatClampNeg (1 : Int32)) (2 : Int32).toNatClampNeg (1 : Int32)) (3 : Int32).toNatClampNeg (1 : Int32)) (4 : Int32).toNatClampNeg (1 : Int32)) (5 : Int32).toNatClampNeg (1 : Int32)) (6 : Int32).toNatClampNeg (1 : Int32))), (q22, aq cN 5 (fun _ => none)), (q31, ai cI 8 (fun _ => 0)), (q39, ai cI 8 (fun _ => 0)), (q46, aq cN 5 (fun _ => none)), (q55, ai cI 20 (fun _ => 0)), (q63, ai cI 60 (fun _ => 0)), (q72, .inl (cR, 3, .inr (.inr (.inr (.inr (fun i => if i = 0 then some r72 else if i = 1 then some s72 else if i = 2 then some t72 else none)))))), (r72, ai cI 60 (fun _ => 0)), (s72, ai cI 60 (fun _ => 0)), (t72, ai cI 60 (fun _ => 0)), (q81, ai cI 3 (fun _ => 0)), (q87, o1 u91 0 0 0 0 0), (u91, ai cI 64 (fun _ => 0)), (q98, o1 u102 0 0 0 0 0), (u102, ai cI 64 (fun _ => 0)), (q109, o4 u113 v113 w113 z113 0), (u113, ai cI 720 (fun _ => 0)), (v113, ai cI 720 (fun _ => 0)), (w113, ai cI 720 (fun _ => 0)), (z113, ai cI 160 (fun _ => 0))] H := hP
  have hD : va_D A [(h0, .inr (2, [.ref q7, .ref q15, .ref q22, .ref q31, .ref q39, .ref q46, .int 0, .ref q55, .int 0, .ref q63, .int 0, .ref q72, .ref q81, .ref q87, .ref q98, .ref q109])), (q7, ai cI 8 (upd (upd (upd (upd (upd (upd (upd (upd (fun _ => 0) (0 : Int32).toNatClampNeg (1 : Int32)) (1 : Int32).toNatClampNeg (1 : Int32)) (2 : Int32).toNatClampNeg (1 : Int32)) (3 : Int32).toNatClampNeg (1 : Int32)) (4 : Int32).toNatClampNeg (1 : Int32)) (5 : Int32).toNatClampNeg (1 : Int32)) (6 : Int32).toNatClampNeg (1 : Int32)) (7 : Int32).toNatClampNeg (1 : Int32))), (q15, ai cI 8 (upd (upd (upd (upd (upd (upd (upd (fun _ => 0) (0 : Int32).toNatClampNeg (1 : Int32)) (1 : Int32).toNatClampNeg (1 : Int32)) (2 : Int32).toNatClampNeg (1 : Int32)) (3 : Int32).toNatClampNeg (1 : Int32)) (4 : Int32).toNatClampNeg (1 : Int32)) (5 : Int32).toNatClampNeg (1 : Int32)) (6 : Int32).toNatClampNeg (1 : Int32))), (q22, aq cN 5 (fun _ => none)), (q31, ai cI 8 (fun _ => 0)), (q39, ai cI 8 (fun _ => 0)), (q46, aq cN 5 (fun _ => none)), (q55, ai cI 20 (fun _ => 0)), (q63, ai cI 60 (fun _ => 0)), (q72, .inl (cR, 3, .inr (.inr (.inr (.inr (fun i => if i = 0 then some r72 else if i = 1 then some s72 else if i = 2 then some t72 else none)))))), (r72, ai cI 60 (fun _ => 0)), (s72, ai cI 60 (fun _ => 0)), (t72, ai cI 60 (fun _ => 0)), (q81, ai cI 3 (fun _ => 0)), (q87, o1 u91 0 0 0 0 0), (u91, ai cI 64 (fun _ => 0)), (q98, o1 u102 0 0 0 0 0), (u102, ai cI 64 (fun _ => 0)), (q109, o4 u113 v113 w113 z113 0), (u113, ai cI 720 (fun _ => 0)), (v113, ai cI 720 (fun _ => 0)), (w113, ai cI 720 (fun _ => 0)), (z113, ai cI 160 (fun _ => 0))] := hD
  refine lv_aload_n hx hb dX7_init_134 rfl (lv_at hl 1 rfl) ?_
  refine va_get (D := D) (ci := 2) (v := .ref q15) (C := RX7) (T := TX7) (N := 16) hx hb hts hi9 hown hK hP 0 rfl rfl 1 (by decide) (hts (.fieldLink RX7 13 "SternBrocotExplorer" "bottoms" "[I") (by decide +kernel)) (fun _ h9 => h9) rfl dX7_init_135 ?_
  refine lv_iload_n hx hb dX7_init_138 rfl (lv_at hl 0 rfl) ?_
  refine lv_iconst (v := (1 : Int32)) hx hb dX7_init_139 (by decide) ?_
  refine va_iast hx hb hK hP hD hS 2 0 rfl rfl (by unfold vp_in; decide) dX7_init_140 (fun H locs hP hD hS => ?_)
  have hP : va_P D vwCl [(h0, .inr (2, [.ref q7, .ref q15, .ref q22, .ref q31, .ref q39, .ref q46, .int 0, .ref q55, .int 0, .ref q63, .int 0, .ref q72, .ref q81, .ref q87, .ref q98, .ref q109])), (q7, ai cI 8 (upd (upd (upd (upd (upd (upd (upd (upd (fun _ => 0) (0 : Int32).toNatClampNeg (1 : Int32)) (1 : Int32).toNatClampNeg (1 : Int32)) (2 : Int32).toNatClampNeg (1 : Int32)) (3 : Int32).toNatClampNeg (1 : Int32)) (4 : Int32).toNatClampNeg (1 : Int32)) (5 : Int32).toNatClampNeg (1 : Int32)) (6 : Int32).toNatClampNeg (1 : Int32)) (7 : Int32).toNatClampNeg (1 : Int32))), (q15, ai cI 8 (upd (upd (upd (upd (upd (upd (upd (upd (fun _ => 0) (0 : Int32).toNatClampNeg (1 : Int32)) (1 : Int32).toNatClampNeg (1 : Int32)) (2 : Int32).toNatClampNeg (1 : Int32)) (3 : Int32).toNatClampNeg (1 : Int32)) (4 : Int32).toNatClampNeg (1 : Int32)) (5 : Int32).toNatClampNeg (1 : Int32)) (6 : Int32).toNatClampNeg (1 : Int32)) (7 : Int32).toNatClampNeg (1 : Int32))), (q22, aq cN 5 (fun _ => none)), (q31, ai cI 8 (fun _ => 0)), (q39, ai cI 8 (fun _ => 0)), (q46, aq cN 5 (fun _ => none)), (q55, ai cI 20 (fun _ => 0)), (q63, ai cI 60 (fun _ => 0)), (q72, .inl (cR, 3, .inr (.inr (.inr (.inr (fun i => if i = 0 then some r72 else if i = 1 then some s72 else if i = 2 then some t72 else none)))))), (r72, ai cI 60 (fun _ => 0)), (s72, ai cI 60 (fun _ => 0)), (t72, ai cI 60 (fun _ => 0)), (q81, ai cI 3 (fun _ => 0)), (q87, o1 u91 0 0 0 0 0), (u91, ai cI 64 (fun _ => 0)), (q98, o1 u102 0 0 0 0 0), (u102, ai cI 64 (fun _ => 0)), (q109, o4 u113 v113 w113 z113 0), (u113, ai cI 720 (fun _ => 0)), (v113, ai cI 720 (fun _ => 0)), (w113, ai cI 720 (fun _ => 0)), (z113, ai cI 160 (fun _ => 0))] H := hP
  have hD : va_D A [(h0, .inr (2, [.ref q7, .ref q15, .ref q22, .ref q31, .ref q39, .ref q46, .int 0, .ref q55, .int 0, .ref q63, .int 0, .ref q72, .ref q81, .ref q87, .ref q98, .ref q109])), (q7, ai cI 8 (upd (upd (upd (upd (upd (upd (upd (upd (fun _ => 0) (0 : Int32).toNatClampNeg (1 : Int32)) (1 : Int32).toNatClampNeg (1 : Int32)) (2 : Int32).toNatClampNeg (1 : Int32)) (3 : Int32).toNatClampNeg (1 : Int32)) (4 : Int32).toNatClampNeg (1 : Int32)) (5 : Int32).toNatClampNeg (1 : Int32)) (6 : Int32).toNatClampNeg (1 : Int32)) (7 : Int32).toNatClampNeg (1 : Int32))), (q15, ai cI 8 (upd (upd (upd (upd (upd (upd (upd (upd (fun _ => 0) (0 : Int32).toNatClampNeg (1 : Int32)) (1 : Int32).toNatClampNeg (1 : Int32)) (2 : Int32).toNatClampNeg (1 : Int32)) (3 : Int32).toNatClampNeg (1 : Int32)) (4 : Int32).toNatClampNeg (1 : Int32)) (5 : Int32).toNatClampNeg (1 : Int32)) (6 : Int32).toNatClampNeg (1 : Int32)) (7 : Int32).toNatClampNeg (1 : Int32))), (q22, aq cN 5 (fun _ => none)), (q31, ai cI 8 (fun _ => 0)), (q39, ai cI 8 (fun _ => 0)), (q46, aq cN 5 (fun _ => none)), (q55, ai cI 20 (fun _ => 0)), (q63, ai cI 60 (fun _ => 0)), (q72, .inl (cR, 3, .inr (.inr (.inr (.inr (fun i => if i = 0 then some r72 else if i = 1 then some s72 else if i = 2 then some t72 else none)))))), (r72, ai cI 60 (fun _ => 0)), (s72, ai cI 60 (fun _ => 0)), (t72, ai cI 60 (fun _ => 0)), (q81, ai cI 3 (fun _ => 0)), (q87, o1 u91 0 0 0 0 0), (u91, ai cI 64 (fun _ => 0)), (q98, o1 u102 0 0 0 0 0), (u102, ai cI 64 (fun _ => 0)), (q109, o4 u113 v113 w113 z113 0), (u113, ai cI 720 (fun _ => 0)), (v113, ai cI 720 (fun _ => 0)), (w113, ai cI 720 (fun _ => 0)), (z113, ai cI 160 (fun _ => 0))] := hD
  refine lv_iinc (v := (8 : Int32)) (lv' := [(1, .int (8 : Int32)), (0, .ref h0)]) hx hb dX7_init_141 hl (k := 0) rfl (by decide) (by decide) rfl (fun ls hl => ?_)
  refine lv_goto (tgt := 121) hx hb dX7_init_144 (by decide) ?_
  refine lv_iload_n hx hb dX7_init_121 rfl (lv_at hl 0 rfl) ?_
  refine lv_bipush (v := (8 : Int32)) hx hb dX7_init_122 (by decide) ?_
  refine lv_icmp_ge (tgt := 147) hx hb dX7_init_124 (by decide) (fun k => ?_) (fun k => absurd (by decide) k)
  refine lv_iconst (v := (0 : Int32)) hx hb dX7_init_147 (by decide) ?_
  refine lv_istore_n (lv' := [(1, .int (0 : Int32)), (0, .ref h0)]) hx hb dX7_init_148 rfl hl (by decide) rfl (fun ls hl => ?_)
  refine lv_iload_n hx hb dX7_init_149 rfl (lv_at hl 0 rfl) ?_
  refine lv_iconst (v := (3 : Int32)) hx hb dX7_init_150 (by decide) ?_
  refine lv_icmp_ge (tgt := 167) hx hb dX7_init_151 (by decide) (fun k => absurd k (by decide)) (fun k => ?_)
  refine lv_aload_n hx hb dX7_init_154 rfl (lv_at hl 1 rfl) ?_
  refine va_get (D := D) (ci := 2) (v := .ref q81) (C := RX7) (T := TX7) (N := 16) hx hb hts hi9 hown hK hP 0 rfl rfl 12 (by decide) (hts (.fieldLink RX7 42 "SternBrocotExplorer" "arraySizes" "[I") (by decide +kernel)) (fun _ h9 => h9) rfl dX7_init_155 ?_
  refine lv_iload_n hx hb dX7_init_158 rfl (lv_at hl 0 rfl) ?_
  refine lv_iconst (v := (-1 : Int32)) hx hb dX7_init_159 (by decide) ?_
  refine va_iast hx hb hK hP hD hS 13 0 rfl rfl (by unfold vp_in; decide) dX7_init_160 (fun H locs hP hD hS => ?_)
  have hP : va_P D vwCl [(h0, .inr (2, [.ref q7, .ref q15, .ref q22, .ref q31, .ref q39, .ref q46, .int 0, .ref q55, .int 0, .ref q63, .int 0, .ref q72, .ref q81, .ref q87, .ref q98, .ref q109])), (q7, ai cI 8 (upd (upd (upd (upd (upd (upd (upd (upd (fun _ => 0) (0 : Int32).toNatClampNeg (1 : Int32)) (1 : Int32).toNatClampNeg (1 : Int32)) (2 : Int32).toNatClampNeg (1 : Int32)) (3 : Int32).toNatClampNeg (1 : Int32)) (4 : Int32).toNatClampNeg (1 : Int32)) (5 : Int32).toNatClampNeg (1 : Int32)) (6 : Int32).toNatClampNeg (1 : Int32)) (7 : Int32).toNatClampNeg (1 : Int32))), (q15, ai cI 8 (upd (upd (upd (upd (upd (upd (upd (upd (fun _ => 0) (0 : Int32).toNatClampNeg (1 : Int32)) (1 : Int32).toNatClampNeg (1 : Int32)) (2 : Int32).toNatClampNeg (1 : Int32)) (3 : Int32).toNatClampNeg (1 : Int32)) (4 : Int32).toNatClampNeg (1 : Int32)) (5 : Int32).toNatClampNeg (1 : Int32)) (6 : Int32).toNatClampNeg (1 : Int32)) (7 : Int32).toNatClampNeg (1 : Int32))), (q22, aq cN 5 (fun _ => none)), (q31, ai cI 8 (fun _ => 0)), (q39, ai cI 8 (fun _ => 0)), (q46, aq cN 5 (fun _ => none)), (q55, ai cI 20 (fun _ => 0)), (q63, ai cI 60 (fun _ => 0)), (q72, .inl (cR, 3, .inr (.inr (.inr (.inr (fun i => if i = 0 then some r72 else if i = 1 then some s72 else if i = 2 then some t72 else none)))))), (r72, ai cI 60 (fun _ => 0)), (s72, ai cI 60 (fun _ => 0)), (t72, ai cI 60 (fun _ => 0)), (q81, ai cI 3 (upd (fun _ => 0) (0 : Int32).toNatClampNeg (-1 : Int32))), (q87, o1 u91 0 0 0 0 0), (u91, ai cI 64 (fun _ => 0)), (q98, o1 u102 0 0 0 0 0), (u102, ai cI 64 (fun _ => 0)), (q109, o4 u113 v113 w113 z113 0), (u113, ai cI 720 (fun _ => 0)), (v113, ai cI 720 (fun _ => 0)), (w113, ai cI 720 (fun _ => 0)), (z113, ai cI 160 (fun _ => 0))] H := hP
  have hD : va_D A [(h0, .inr (2, [.ref q7, .ref q15, .ref q22, .ref q31, .ref q39, .ref q46, .int 0, .ref q55, .int 0, .ref q63, .int 0, .ref q72, .ref q81, .ref q87, .ref q98, .ref q109])), (q7, ai cI 8 (upd (upd (upd (upd (upd (upd (upd (upd (fun _ => 0) (0 : Int32).toNatClampNeg (1 : Int32)) (1 : Int32).toNatClampNeg (1 : Int32)) (2 : Int32).toNatClampNeg (1 : Int32)) (3 : Int32).toNatClampNeg (1 : Int32)) (4 : Int32).toNatClampNeg (1 : Int32)) (5 : Int32).toNatClampNeg (1 : Int32)) (6 : Int32).toNatClampNeg (1 : Int32)) (7 : Int32).toNatClampNeg (1 : Int32))), (q15, ai cI 8 (upd (upd (upd (upd (upd (upd (upd (upd (fun _ => 0) (0 : Int32).toNatClampNeg (1 : Int32)) (1 : Int32).toNatClampNeg (1 : Int32)) (2 : Int32).toNatClampNeg (1 : Int32)) (3 : Int32).toNatClampNeg (1 : Int32)) (4 : Int32).toNatClampNeg (1 : Int32)) (5 : Int32).toNatClampNeg (1 : Int32)) (6 : Int32).toNatClampNeg (1 : Int32)) (7 : Int32).toNatClampNeg (1 : Int32))), (q22, aq cN 5 (fun _ => none)), (q31, ai cI 8 (fun _ => 0)), (q39, ai cI 8 (fun _ => 0)), (q46, aq cN 5 (fun _ => none)), (q55, ai cI 20 (fun _ => 0)), (q63, ai cI 60 (fun _ => 0)), (q72, .inl (cR, 3, .inr (.inr (.inr (.inr (fun i => if i = 0 then some r72 else if i = 1 then some s72 else if i = 2 then some t72 else none)))))), (r72, ai cI 60 (fun _ => 0)), (s72, ai cI 60 (fun _ => 0)), (t72, ai cI 60 (fun _ => 0)), (q81, ai cI 3 (upd (fun _ => 0) (0 : Int32).toNatClampNeg (-1 : Int32))), (q87, o1 u91 0 0 0 0 0), (u91, ai cI 64 (fun _ => 0)), (q98, o1 u102 0 0 0 0 0), (u102, ai cI 64 (fun _ => 0)), (q109, o4 u113 v113 w113 z113 0), (u113, ai cI 720 (fun _ => 0)), (v113, ai cI 720 (fun _ => 0)), (w113, ai cI 720 (fun _ => 0)), (z113, ai cI 160 (fun _ => 0))] := hD
  refine lv_iinc (v := (1 : Int32)) (lv' := [(1, .int (1 : Int32)), (0, .ref h0)]) hx hb dX7_init_161 hl (k := 0) rfl (by decide) (by decide) rfl (fun ls hl => ?_)
  refine lv_goto (tgt := 149) hx hb dX7_init_164 (by decide) ?_
  refine lv_iload_n hx hb dX7_init_149 rfl (lv_at hl 0 rfl) ?_
  refine lv_iconst (v := (3 : Int32)) hx hb dX7_init_150 (by decide) ?_
  refine lv_icmp_ge (tgt := 167) hx hb dX7_init_151 (by decide) (fun k => absurd k (by decide)) (fun k => ?_)
  refine lv_aload_n hx hb dX7_init_154 rfl (lv_at hl 1 rfl) ?_
  refine va_get (D := D) (ci := 2) (v := .ref q81) (C := RX7) (T := TX7) (N := 16) hx hb hts hi9 hown hK hP 0 rfl rfl 12 (by decide) (hts (.fieldLink RX7 42 "SternBrocotExplorer" "arraySizes" "[I") (by decide +kernel)) (fun _ h9 => h9) rfl dX7_init_155 ?_
  refine lv_iload_n hx hb dX7_init_158 rfl (lv_at hl 0 rfl) ?_
  refine lv_iconst (v := (-1 : Int32)) hx hb dX7_init_159 (by decide) ?_
  refine va_iast hx hb hK hP hD hS 13 0 rfl rfl (by unfold vp_in; decide) dX7_init_160 (fun H locs hP hD hS => ?_)
  have hP : va_P D vwCl [(h0, .inr (2, [.ref q7, .ref q15, .ref q22, .ref q31, .ref q39, .ref q46, .int 0, .ref q55, .int 0, .ref q63, .int 0, .ref q72, .ref q81, .ref q87, .ref q98, .ref q109])), (q7, ai cI 8 (upd (upd (upd (upd (upd (upd (upd (upd (fun _ => 0) (0 : Int32).toNatClampNeg (1 : Int32)) (1 : Int32).toNatClampNeg (1 : Int32)) (2 : Int32).toNatClampNeg (1 : Int32)) (3 : Int32).toNatClampNeg (1 : Int32)) (4 : Int32).toNatClampNeg (1 : Int32)) (5 : Int32).toNatClampNeg (1 : Int32)) (6 : Int32).toNatClampNeg (1 : Int32)) (7 : Int32).toNatClampNeg (1 : Int32))), (q15, ai cI 8 (upd (upd (upd (upd (upd (upd (upd (upd (fun _ => 0) (0 : Int32).toNatClampNeg (1 : Int32)) (1 : Int32).toNatClampNeg (1 : Int32)) (2 : Int32).toNatClampNeg (1 : Int32)) (3 : Int32).toNatClampNeg (1 : Int32)) (4 : Int32).toNatClampNeg (1 : Int32)) (5 : Int32).toNatClampNeg (1 : Int32)) (6 : Int32).toNatClampNeg (1 : Int32)) (7 : Int32).toNatClampNeg (1 : Int32))), (q22, aq cN 5 (fun _ => none)), (q31, ai cI 8 (fun _ => 0)), (q39, ai cI 8 (fun _ => 0)), (q46, aq cN 5 (fun _ => none)), (q55, ai cI 20 (fun _ => 0)), (q63, ai cI 60 (fun _ => 0)), (q72, .inl (cR, 3, .inr (.inr (.inr (.inr (fun i => if i = 0 then some r72 else if i = 1 then some s72 else if i = 2 then some t72 else none)))))), (r72, ai cI 60 (fun _ => 0)), (s72, ai cI 60 (fun _ => 0)), (t72, ai cI 60 (fun _ => 0)), (q81, ai cI 3 (upd (upd (fun _ => 0) (0 : Int32).toNatClampNeg (-1 : Int32)) (1 : Int32).toNatClampNeg (-1 : Int32))), (q87, o1 u91 0 0 0 0 0), (u91, ai cI 64 (fun _ => 0)), (q98, o1 u102 0 0 0 0 0), (u102, ai cI 64 (fun _ => 0)), (q109, o4 u113 v113 w113 z113 0), (u113, ai cI 720 (fun _ => 0)), (v113, ai cI 720 (fun _ => 0)), (w113, ai cI 720 (fun _ => 0)), (z113, ai cI 160 (fun _ => 0))] H := hP
  have hD : va_D A [(h0, .inr (2, [.ref q7, .ref q15, .ref q22, .ref q31, .ref q39, .ref q46, .int 0, .ref q55, .int 0, .ref q63, .int 0, .ref q72, .ref q81, .ref q87, .ref q98, .ref q109])), (q7, ai cI 8 (upd (upd (upd (upd (upd (upd (upd (upd (fun _ => 0) (0 : Int32).toNatClampNeg (1 : Int32)) (1 : Int32).toNatClampNeg (1 : Int32)) (2 : Int32).toNatClampNeg (1 : Int32)) (3 : Int32).toNatClampNeg (1 : Int32)) (4 : Int32).toNatClampNeg (1 : Int32)) (5 : Int32).toNatClampNeg (1 : Int32)) (6 : Int32).toNatClampNeg (1 : Int32)) (7 : Int32).toNatClampNeg (1 : Int32))), (q15, ai cI 8 (upd (upd (upd (upd (upd (upd (upd (upd (fun _ => 0) (0 : Int32).toNatClampNeg (1 : Int32)) (1 : Int32).toNatClampNeg (1 : Int32)) (2 : Int32).toNatClampNeg (1 : Int32)) (3 : Int32).toNatClampNeg (1 : Int32)) (4 : Int32).toNatClampNeg (1 : Int32)) (5 : Int32).toNatClampNeg (1 : Int32)) (6 : Int32).toNatClampNeg (1 : Int32)) (7 : Int32).toNatClampNeg (1 : Int32))), (q22, aq cN 5 (fun _ => none)), (q31, ai cI 8 (fun _ => 0)), (q39, ai cI 8 (fun _ => 0)), (q46, aq cN 5 (fun _ => none)), (q55, ai cI 20 (fun _ => 0)), (q63, ai cI 60 (fun _ => 0)), (q72, .inl (cR, 3, .inr (.inr (.inr (.inr (fun i => if i = 0 then some r72 else if i = 1 then some s72 else if i = 2 then some t72 else none)))))), (r72, ai cI 60 (fun _ => 0)), (s72, ai cI 60 (fun _ => 0)), (t72, ai cI 60 (fun _ => 0)), (q81, ai cI 3 (upd (upd (fun _ => 0) (0 : Int32).toNatClampNeg (-1 : Int32)) (1 : Int32).toNatClampNeg (-1 : Int32))), (q87, o1 u91 0 0 0 0 0), (u91, ai cI 64 (fun _ => 0)), (q98, o1 u102 0 0 0 0 0), (u102, ai cI 64 (fun _ => 0)), (q109, o4 u113 v113 w113 z113 0), (u113, ai cI 720 (fun _ => 0)), (v113, ai cI 720 (fun _ => 0)), (w113, ai cI 720 (fun _ => 0)), (z113, ai cI 160 (fun _ => 0))] := hD
  refine lv_iinc (v := (2 : Int32)) (lv' := [(1, .int (2 : Int32)), (0, .ref h0)]) hx hb dX7_init_161 hl (k := 0) rfl (by decide) (by decide) rfl (fun ls hl => ?_)
  refine lv_goto (tgt := 149) hx hb dX7_init_164 (by decide) ?_
  refine lv_iload_n hx hb dX7_init_149 rfl (lv_at hl 0 rfl) ?_
  refine lv_iconst (v := (3 : Int32)) hx hb dX7_init_150 (by decide) ?_
  refine lv_icmp_ge (tgt := 167) hx hb dX7_init_151 (by decide) (fun k => absurd k (by decide)) (fun k => ?_)
  refine lv_aload_n hx hb dX7_init_154 rfl (lv_at hl 1 rfl) ?_
  refine va_get (D := D) (ci := 2) (v := .ref q81) (C := RX7) (T := TX7) (N := 16) hx hb hts hi9 hown hK hP 0 rfl rfl 12 (by decide) (hts (.fieldLink RX7 42 "SternBrocotExplorer" "arraySizes" "[I") (by decide +kernel)) (fun _ h9 => h9) rfl dX7_init_155 ?_
  refine lv_iload_n hx hb dX7_init_158 rfl (lv_at hl 0 rfl) ?_
  refine lv_iconst (v := (-1 : Int32)) hx hb dX7_init_159 (by decide) ?_
  refine va_iast hx hb hK hP hD hS 13 0 rfl rfl (by unfold vp_in; decide) dX7_init_160 (fun H locs hP hD hS => ?_)
  have hP : va_P D vwCl [(h0, .inr (2, [.ref q7, .ref q15, .ref q22, .ref q31, .ref q39, .ref q46, .int 0, .ref q55, .int 0, .ref q63, .int 0, .ref q72, .ref q81, .ref q87, .ref q98, .ref q109])), (q7, ai cI 8 (upd (upd (upd (upd (upd (upd (upd (upd (fun _ => 0) (0 : Int32).toNatClampNeg (1 : Int32)) (1 : Int32).toNatClampNeg (1 : Int32)) (2 : Int32).toNatClampNeg (1 : Int32)) (3 : Int32).toNatClampNeg (1 : Int32)) (4 : Int32).toNatClampNeg (1 : Int32)) (5 : Int32).toNatClampNeg (1 : Int32)) (6 : Int32).toNatClampNeg (1 : Int32)) (7 : Int32).toNatClampNeg (1 : Int32))), (q15, ai cI 8 (upd (upd (upd (upd (upd (upd (upd (upd (fun _ => 0) (0 : Int32).toNatClampNeg (1 : Int32)) (1 : Int32).toNatClampNeg (1 : Int32)) (2 : Int32).toNatClampNeg (1 : Int32)) (3 : Int32).toNatClampNeg (1 : Int32)) (4 : Int32).toNatClampNeg (1 : Int32)) (5 : Int32).toNatClampNeg (1 : Int32)) (6 : Int32).toNatClampNeg (1 : Int32)) (7 : Int32).toNatClampNeg (1 : Int32))), (q22, aq cN 5 (fun _ => none)), (q31, ai cI 8 (fun _ => 0)), (q39, ai cI 8 (fun _ => 0)), (q46, aq cN 5 (fun _ => none)), (q55, ai cI 20 (fun _ => 0)), (q63, ai cI 60 (fun _ => 0)), (q72, .inl (cR, 3, .inr (.inr (.inr (.inr (fun i => if i = 0 then some r72 else if i = 1 then some s72 else if i = 2 then some t72 else none)))))), (r72, ai cI 60 (fun _ => 0)), (s72, ai cI 60 (fun _ => 0)), (t72, ai cI 60 (fun _ => 0)), (q81, ai cI 3 (upd (upd (upd (fun _ => 0) (0 : Int32).toNatClampNeg (-1 : Int32)) (1 : Int32).toNatClampNeg (-1 : Int32)) (2 : Int32).toNatClampNeg (-1 : Int32))), (q87, o1 u91 0 0 0 0 0), (u91, ai cI 64 (fun _ => 0)), (q98, o1 u102 0 0 0 0 0), (u102, ai cI 64 (fun _ => 0)), (q109, o4 u113 v113 w113 z113 0), (u113, ai cI 720 (fun _ => 0)), (v113, ai cI 720 (fun _ => 0)), (w113, ai cI 720 (fun _ => 0)), (z113, ai cI 160 (fun _ => 0))] H := hP
  have hD : va_D A [(h0, .inr (2, [.ref q7, .ref q15, .ref q22, .ref q31, .ref q39, .ref q46, .int 0, .ref q55, .int 0, .ref q63, .int 0, .ref q72, .ref q81, .ref q87, .ref q98, .ref q109])), (q7, ai cI 8 (upd (upd (upd (upd (upd (upd (upd (upd (fun _ => 0) (0 : Int32).toNatClampNeg (1 : Int32)) (1 : Int32).toNatClampNeg (1 : Int32)) (2 : Int32).toNatClampNeg (1 : Int32)) (3 : Int32).toNatClampNeg (1 : Int32)) (4 : Int32).toNatClampNeg (1 : Int32)) (5 : Int32).toNatClampNeg (1 : Int32)) (6 : Int32).toNatClampNeg (1 : Int32)) (7 : Int32).toNatClampNeg (1 : Int32))), (q15, ai cI 8 (upd (upd (upd (upd (upd (upd (upd (upd (fun _ => 0) (0 : Int32).toNatClampNeg (1 : Int32)) (1 : Int32).toNatClampNeg (1 : Int32)) (2 : Int32).toNatClampNeg (1 : Int32)) (3 : Int32).toNatClampNeg (1 : Int32)) (4 : Int32).toNatClampNeg (1 : Int32)) (5 : Int32).toNatClampNeg (1 : Int32)) (6 : Int32).toNatClampNeg (1 : Int32)) (7 : Int32).toNatClampNeg (1 : Int32))), (q22, aq cN 5 (fun _ => none)), (q31, ai cI 8 (fun _ => 0)), (q39, ai cI 8 (fun _ => 0)), (q46, aq cN 5 (fun _ => none)), (q55, ai cI 20 (fun _ => 0)), (q63, ai cI 60 (fun _ => 0)), (q72, .inl (cR, 3, .inr (.inr (.inr (.inr (fun i => if i = 0 then some r72 else if i = 1 then some s72 else if i = 2 then some t72 else none)))))), (r72, ai cI 60 (fun _ => 0)), (s72, ai cI 60 (fun _ => 0)), (t72, ai cI 60 (fun _ => 0)), (q81, ai cI 3 (upd (upd (upd (fun _ => 0) (0 : Int32).toNatClampNeg (-1 : Int32)) (1 : Int32).toNatClampNeg (-1 : Int32)) (2 : Int32).toNatClampNeg (-1 : Int32))), (q87, o1 u91 0 0 0 0 0), (u91, ai cI 64 (fun _ => 0)), (q98, o1 u102 0 0 0 0 0), (u102, ai cI 64 (fun _ => 0)), (q109, o4 u113 v113 w113 z113 0), (u113, ai cI 720 (fun _ => 0)), (v113, ai cI 720 (fun _ => 0)), (w113, ai cI 720 (fun _ => 0)), (z113, ai cI 160 (fun _ => 0))] := hD
  refine lv_iinc (v := (3 : Int32)) (lv' := [(1, .int (3 : Int32)), (0, .ref h0)]) hx hb dX7_init_161 hl (k := 0) rfl (by decide) (by decide) rfl (fun ls hl => ?_)
  refine lv_goto (tgt := 149) hx hb dX7_init_164 (by decide) ?_
  refine lv_iload_n hx hb dX7_init_149 rfl (lv_at hl 0 rfl) ?_
  refine lv_iconst (v := (3 : Int32)) hx hb dX7_init_150 (by decide) ?_
  refine lv_icmp_ge (tgt := 167) hx hb dX7_init_151 (by decide) (fun k => ?_) (fun k => absurd (by decide) k)
  obtain ⟨hP, hD⟩ := k_sub (ws' := [(h0, .inr (2, [.ref q7, .ref q15, .ref q22, .ref q31, .ref q39, .ref q46, .int 0, .ref q55, .int 0, .ref q63, .int 0, .ref q72, .ref q81, .ref q87, .ref q98, .ref q109])), (q7, ai cI 8 (upd (upd (upd (upd (upd (upd (upd (upd (fun _ => 0) (0 : Int32).toNatClampNeg (1 : Int32)) (1 : Int32).toNatClampNeg (1 : Int32)) (2 : Int32).toNatClampNeg (1 : Int32)) (3 : Int32).toNatClampNeg (1 : Int32)) (4 : Int32).toNatClampNeg (1 : Int32)) (5 : Int32).toNatClampNeg (1 : Int32)) (6 : Int32).toNatClampNeg (1 : Int32)) (7 : Int32).toNatClampNeg (1 : Int32))), (q15, ai cI 8 (upd (upd (upd (upd (upd (upd (upd (upd (fun _ => 0) (0 : Int32).toNatClampNeg (1 : Int32)) (1 : Int32).toNatClampNeg (1 : Int32)) (2 : Int32).toNatClampNeg (1 : Int32)) (3 : Int32).toNatClampNeg (1 : Int32)) (4 : Int32).toNatClampNeg (1 : Int32)) (5 : Int32).toNatClampNeg (1 : Int32)) (6 : Int32).toNatClampNeg (1 : Int32)) (7 : Int32).toNatClampNeg (1 : Int32))), (q22, aq cN 5 (fun _ => none)), (q31, ai cI 8 (fun _ => 0)), (q39, ai cI 8 (fun _ => 0)), (q46, aq cN 5 (fun _ => none)), (q55, ai cI 20 (fun _ => 0)), (q63, ai cI 60 (fun _ => 0)), (q72, .inl (cR, 3, .inr (.inr (.inr (.inr (fun i => if i = 0 then some r72 else if i = 1 then some s72 else if i = 2 then some t72 else none)))))), (q81, ai cI 3 (upd (upd (upd (fun _ => 0) (0 : Int32).toNatClampNeg (-1 : Int32)) (1 : Int32).toNatClampNeg (-1 : Int32)) (2 : Int32).toNatClampNeg (-1 : Int32))), (q87, o1 u91 0 0 0 0 0), (q98, o1 u102 0 0 0 0 0), (q109, o4 u113 v113 w113 z113 0), (u91, ai cI 64 (fun _ => 0)), (u102, ai cI 64 (fun _ => 0)), (u113, ai cI 720 (fun _ => 0)), (v113, ai cI 720 (fun _ => 0)), (w113, ai cI 720 (fun _ => 0)), (z113, ai cI 160 (fun _ => 0)), (r72, ai cI 60 (fun _ => 0)), (s72, ai cI 60 (fun _ => 0)), (t72, ai cI 60 (fun _ => 0))]) hP hD [0, 1, 2, 3, 4, 5, 6, 7, 8, 9, 13, 14, 16, 18, 15, 17, 19, 20, 21, 22, 10, 11, 12] rfl rfl
  exact RET _ _ (fun k => [h0, q7, q15, q22, q31, q39, q46, 0, q55, 0, q63, 0, q72, q81, q87, q98, q109, u91, u102, u113, v113, w113, z113, r72, s72, t72].getD k 0) _ _ rfl hP hD hS dX7_init_167
end
section
/-! THE CLAIM OUT OF ONE WALK OF THE LAW'S BODY. Your part is whole_start (and what it stands on); all else here is the same for every law, but numbers. -/
def R_law : String := "SternBrocotExplorerLaw"
def lw_P (b : Addr) (xs : List Int32) (args : Array Value) (s : State) : Prop := args = #[.ref b] ∧ s.IntsAt b xs ∧ xs.length ≤ 260 ∧ (Jvm.Cond.and given_1 narrow_1).before args s = true
def lw_Q (_ : Array Value) (s : State) (o : Outcome) (t : State) : Prop := o = .returned (some (.int 1)) ∧ Framed s o t [] 600000 7302249
def lw_Z (below : List Frame) (a : Array Value) (s : State) : State → Prop := fun t => ∃ o, t.status = .running ∧ Ended t below o ∧ lw_Q a s o t
/-- the law's own end, with 1 on the stack, nothing written that was there before, its room as the claim has it -/
theorem lw_ret {p : Program} {l : Launch} {e : Env} {s : State} {m : MethodId} {below : List Frame} {meth : Method} {c : Code} {b : Nat} (hx : p.tables.exec = Jvm.exec) (hb : c.code = code) (hr : meth.sig.returnType = ret) (hlocks : meth.locks = false) {pc : Nat} {H : Heap} {ls : Array Slot} (hdg : decode code pc = .ok (.ireturn, 1)) : W p l e room_1 s m #[Value.ref b] below meth c H [] 600000 7302249 (lw_Z below #[Value.ref b] s) (F0 m pc ls [.int 1]) := by
  intro T hT X
  obtain ⟨fs, hret, hrun, hended, hW, hframe⟩ := X.leave (v := some (.int 1)) (hlocks := hlocks) (fun h => by rw [hr] at h; cases h)
  have hmeth' : T.vm.method? m = some meth := X.method'
  refine ⟨T.setFrames fs, ?_, .returned (some (.int 1)), hrun, hended, rfl, ⟨_, rfl⟩, hW, hframe⟩
  jvm_step X.here [X.here.top, hx, hb, hdg, hmeth', hr, ret, narrow_b1]
  (try refine ⟨rfl, ?_⟩); (try refine ⟨rfl, ?_⟩)
  first | (intro acts; rw [hret _ acts rfl rfl rfl]) | rw [hret _ _ rfl rfl rfl]
  exact Steps.refl _
/-- what holds at the law's entry: the machine, the code, the tables' words (any of lw_tbl by 'hts w (by decide +kernel)'), the script of L ints xs at the cell b, what the Statement gives of the start (any of its parts by flat_of_before) -/
def lw_At (p : Program) (s : State) (m : MethodId) (meth : Method) (c : Code) (b L : Nat) (xs : Nat → Int32) : Prop :=
  p.tables.exec = Jvm.exec ∧ c.code = code ∧ meth.sig.returnType = ret ∧ c.maxLocals = 5 ∧ s.vm.findClass R_law = some m.cls ∧ (∀ w ∈ lw_tbl, w.before #[Value.ref b] s = true) ∧ va_X b L xs s s.heap ∧ b < s.heap.size ∧ meth.locks = false ∧ (Jvm.Cond.and given_1 narrow_1).before #[Value.ref b] s = true
end
section
def good (a b : Int32) : Prop := 1 ≤ a.toInt ∧ a.toInt ≤ 1000000 ∧ 1 ≤ b.toInt ∧ b.toInt ≤ 1000000 ∧ Nat.gcd a.toInt.toNat b.toInt.toNat = 1
theorem n_toInt {k : Nat} (h : k < 2147483648) : (Int32.ofNat k).toInt = (k : Int) := Int32.toInt_ofNat_of_lt h
theorem l_add {a b : Int64} (h1 : -9223372036854775808 ≤ a.toInt + b.toInt) (h2 : a.toInt + b.toInt ≤ 9223372036854775807) : (a + b).toInt = a.toInt + b.toInt := by
  rw [Int64.toInt_add]; exact Int.bmod_eq_of_le (by omega) (by omega)
theorem l_sub {a b : Int64} (h1 : -9223372036854775808 ≤ a.toInt - b.toInt) (h2 : a.toInt - b.toInt ≤ 9223372036854775807) : (a - b).toInt = a.toInt - b.toInt := by
  rw [Int64.toInt_sub]; exact Int.bmod_eq_of_le (by omega) (by omega)
theorem l_mul {a b : Int64} (h1 : -9223372036854775808 ≤ a.toInt * b.toInt) (h2 : a.toInt * b.toInt ≤ 9223372036854775807) : (a * b).toInt = a.toInt * b.toInt := by
  rw [Int64.toInt_mul]; exact Int.bmod_eq_of_le (by omega) (by omega)
theorem i_add {a b : Int32} (h1 : -2147483648 ≤ a.toInt + b.toInt) (h2 : a.toInt + b.toInt ≤ 2147483647) : (a + b).toInt = a.toInt + b.toInt := by
  rw [Int32.toInt_add]; exact Int.bmod_eq_of_le (by omega) (by omega)
theorem i_sub {a b : Int32} (h1 : -2147483648 ≤ a.toInt - b.toInt) (h2 : a.toInt - b.toInt ≤ 2147483647) : (a - b).toInt = a.toInt - b.toInt := by
  rw [Int32.toInt_sub]; exact Int.bmod_eq_of_le (by omega) (by omega)
theorem i_mul {a b : Int32} (h1 : -2147483648 ≤ a.toInt * b.toInt) (h2 : a.toInt * b.toInt ≤ 2147483647) : (a * b).toInt = a.toInt * b.toInt := by
  rw [Int32.toInt_mul]; exact Int.bmod_eq_of_le (by omega) (by omega)
theorem l_range (a : Int64) : -9223372036854775808 ≤ a.toInt ∧ a.toInt ≤ 9223372036854775807 := by
  have h1 := Int64.le_toInt a; have h2 := Int64.toInt_lt a
  constructor <;> omega
theorem i_range (a : Int32) : -2147483648 ≤ a.toInt ∧ a.toInt ≤ 2147483647 := by
  have h1 := Int32.le_toInt a; have h2 := Int32.toInt_lt a
  constructor <;> omega
theorem div_le_self' {a b : Int} (ha : 0 ≤ a) (hb : 0 < b) : a / b ≤ a := Int.ediv_le_self b ha
theorem l_div {a b : Int64} (ha : 0 ≤ a.toInt) (hb : 0 < b.toInt) : (a / b).toInt = a.toInt / b.toInt := by
  have hr := l_range a
  have h0 : 0 ≤ a.toInt / b.toInt := Int.ediv_nonneg ha (by omega)
  have h1 : a.toInt / b.toInt ≤ a.toInt := div_le_self' ha hb
  rw [Int64.toInt_div, Int.tdiv_eq_ediv_of_nonneg ha]
  exact Int.bmod_eq_of_le (by omega) (by omega)
theorem l_rem {a b : Int64} (ha : 0 ≤ a.toInt) (hb : 0 < b.toInt) : (a - (a / b) * b).toInt = a.toInt % b.toInt := by
  have hr := l_range a
  have e := l_div ha hb
  have h0 : 0 ≤ a.toInt / b.toInt := Int.ediv_nonneg ha (by omega)
  have hm : a.toInt / b.toInt * b.toInt ≤ a.toInt := Int.ediv_mul_le _ (by omega)
  have hn : 0 ≤ a.toInt / b.toInt * b.toInt := Int.mul_nonneg h0 (by omega)
  have e2 : ((a / b) * b).toInt = a.toInt / b.toInt * b.toInt := by rw [l_mul (by rw [e]; omega) (by rw [e]; omega), e]
  have h3 : a.toInt % b.toInt = a.toInt - a.toInt / b.toInt * b.toInt := by rw [Int.emod_def, Int.mul_comm]
  rw [l_sub (by rw [e2]; omega) (by rw [e2]; omega), e2, h3]
theorem i_div {a b : Int32} (ha : 0 ≤ a.toInt) (hb : 0 < b.toInt) : (a / b).toInt = a.toInt / b.toInt := by
  have hr := i_range a
  have h0 : 0 ≤ a.toInt / b.toInt := Int.ediv_nonneg ha (by omega)
  have h1 : a.toInt / b.toInt ≤ a.toInt := div_le_self' ha hb
  rw [Int32.toInt_div, Int.tdiv_eq_ediv_of_nonneg ha]
  exact Int.bmod_eq_of_le (by omega) (by omega)
theorem i_rem {a b : Int32} (ha : 0 ≤ a.toInt) (hb : 0 < b.toInt) : (a - (a / b) * b).toInt = a.toInt % b.toInt := by
  have hr := i_range a
  have e := i_div ha hb
  have h0 : 0 ≤ a.toInt / b.toInt := Int.ediv_nonneg ha (by omega)
  have hm : a.toInt / b.toInt * b.toInt ≤ a.toInt := Int.ediv_mul_le _ (by omega)
  have hn : 0 ≤ a.toInt / b.toInt * b.toInt := Int.mul_nonneg h0 (by omega)
  have e2 : ((a / b) * b).toInt = a.toInt / b.toInt * b.toInt := by rw [i_mul (by rw [e]; omega) (by rw [e]; omega), e]
  have h3 : a.toInt % b.toInt = a.toInt - a.toInt / b.toInt * b.toInt := by rw [Int.emod_def, Int.mul_comm]
  rw [i_sub (by rw [e2]; omega) (by rw [e2]; omega), e2, h3]
theorem l_i {a : Int64} (h1 : -2147483648 ≤ a.toInt) (h2 : a.toInt ≤ 2147483647) : a.toInt32.toInt = a.toInt := by
  rw [Int64.toInt_toInt32]; exact Int.bmod_eq_of_le (by omega) (by omega)
theorem i_ext {a b : Int32} (h : a.toInt = b.toInt) : a = b := Int32.toInt_inj.mp h
theorem l_ext {a b : Int64} (h : a.toInt = b.toInt) : a = b := Int64.toInt_inj.mp h
theorem l_eq {a b : Int64} : a = b ↔ a.toInt = b.toInt := Int64.toInt_inj.symm
theorem i_lt {a b : Int32} : a < b ↔ a.toInt < b.toInt := Int32.lt_iff_toInt_lt
theorem i_le {a b : Int32} : a ≤ b ↔ a.toInt ≤ b.toInt := Int32.le_iff_toInt_le
theorem l_lt {a b : Int64} : a < b ↔ a.toInt < b.toInt := Int64.lt_iff_toInt_lt
theorem l_le {a b : Int64} : a ≤ b ↔ a.toInt ≤ b.toInt := Int64.le_iff_toInt_le
theorem clamp {v : Int32} (h : 0 ≤ v.toInt) : (v.toNatClampNeg : Int) = v.toInt := by
  show ((v.toInt.toNat : Nat) : Int) = v.toInt
  omega
theorem vin {v : Int32} {n : Nat} (h1 : 0 ≤ v.toInt) (h2 : v.toInt < n) : vp_in v n := by
  unfold vp_in
  rintro (h | h)
  · have := i_lt.mp h
    have h0 : (0 : Int32).toInt = 0 := rfl
    omega
  · have := clamp h1
    omega
def isR (v : Int32) : Prop := 0 ≤ v.toInt ∧ v.toInt < 8
theorem r7y {v : Int32} (h : isR v) (post : Int32 → Prop) : w7_isRegister v post = post 1 := by
  have h8 : (8 : Int32).toInt = 8 := rfl
  have h0 : (0 : Int32).toInt = 0 := rfl
  unfold isR at h
  unfold w7_isRegister
  rw [i_lt, i_le, h8, h0]
  have a : ¬ v.toInt < 0 := by omega
  have b : ¬ (8 : Int) ≤ v.toInt := by omega
  simp only [a, b, false_implies, true_and, not_false_eq_true, true_implies]
theorem r7n {v : Int32} (h : ¬ isR v) (post : Int32 → Prop) : w7_isRegister v post = post 0 := by
  have h8 : (8 : Int32).toInt = 8 := rfl
  have h0 : (0 : Int32).toInt = 0 := rfl
  unfold isR at h
  unfold w7_isRegister
  rw [i_lt, i_le, h8, h0]
  by_cases a : v.toInt < 0
  · simp only [a, true_implies, not_true_eq_false, false_implies, and_true]
  · have b : (8 : Int) ≤ v.toInt := by omega
    simp only [a, b, false_implies, true_and, not_false_eq_true, true_implies, not_true_eq_false, and_true]
theorem n7y {a lo hi : Int32} (h : lo.toInt ≤ a.toInt ∧ a.toInt ≤ hi.toInt) (post : Int32 → Prop) : w7_isIn a lo hi post = post 1 := by
  unfold w7_isIn
  rw [i_lt, i_lt]
  have b : ¬ a.toInt < lo.toInt := by omega
  have c : ¬ hi.toInt < a.toInt := by omega
  simp only [b, c, false_implies, true_and, not_false_eq_true, true_implies]
theorem n7n {a lo hi : Int32} (h : ¬ (lo.toInt ≤ a.toInt ∧ a.toInt ≤ hi.toInt)) (post : Int32 → Prop) : w7_isIn a lo hi post = post 0 := by
  unfold w7_isIn
  rw [i_lt, i_lt]
  by_cases b : a.toInt < lo.toInt
  · simp only [b, true_implies, not_true_eq_false, false_implies, and_true]
  · have c : hi.toInt < a.toInt := by omega
    simp only [b, c, false_implies, true_and, not_false_eq_true, true_implies, not_true_eq_false, and_true]
theorem b01 : ((1 : Int32) = 0) = False := eq_false (by decide)
theorem b00 : ((0 : Int32) = 0) = True := eq_true rfl
theorem isR.vin {v : Int32} (h : isR v) : vp_in v 8 := CSternBrocotExplorerLaw_law_r5028_2541a0.vin h.1 h.2
theorem isR.lt {v : Int32} (h : isR v) : v.toNatClampNeg < 8 := by have := clamp h.1; have := h.2; omega
/-- so many steps suffice -/
def eN : Nat → Nat → Nat → Prop
  | 0, _, b => b = 0
  | n + 1, a, b => b = 0 ∨ eN n b (a % b)
theorem eN_log (k : Nat) : ∀ a b : Nat, b < 2 ^ k → eN (2 * k) a b := by
  induction k with
  | zero => intro a b h; exact (by omega : b = 0)
  | succ k ih =>
    intro a b h
    show eN (2 * k + 1 + 1) a b
    by_cases hb : b = 0
    · exact Or.inl hb
    refine Or.inr ?_
    have hr : a % b < b := Nat.mod_lt _ (by omega)
    by_cases hr0 : a % b = 0
    · exact Or.inl hr0
    refine Or.inr (ih _ _ ?_)
    have h2 : b % (a % b) < a % b := Nat.mod_lt _ (by omega)
    rw [Nat.pow_succ] at h
    by_cases h3 : a % b < 2 ^ k
    · omega
    · have h4 : b % (a % b) = b - a % b := by
        rw [Nat.mod_eq_sub_mod (by omega)]
        exact Nat.mod_eq_of_lt (by omega)
      omega
theorem gcd7_L {post : Int64 → Prop} : ∀ (n : Nat) (a b : Int64) (k : Int32), 0 ≤ a.toInt → 0 ≤ b.toInt → eN n a.toInt.toNat b.toInt.toNat → 0 ≤ k.toInt → k.toInt + n < 1000 →
    (∀ r : Int64, r.toInt = (Nat.gcd a.toInt.toNat b.toInt.toNat : Int) → post r) → w7_gcd_L9 post (n + 1) a b k := by
  intro n
  induction n with
  | zero =>
    intro a b k ha hb he hk hn hp
    rw [w7_gcd_L9]
    have h1 : (1000 : Int32).toInt = 1000 := rfl
    have h0 : (0 : Int64).toInt = 0 := rfl
    have he : b.toInt.toNat = 0 := he
    refine ⟨fun h => absurd (i_le.mp h) (by omega), fun _ => ⟨fun _ => hp _ ?_, fun h => absurd (l_le.mpr (by omega)) h⟩⟩
    rw [he, Nat.gcd_zero_right]; omega
  | succ n ih =>
    intro a b k ha hb he hk hn hp
    rw [w7_gcd_L9]
    have h1 : (1000 : Int32).toInt = 1000 := rfl
    have h0 : (0 : Int64).toInt = 0 := rfl
    have g1 : (1 : Int32).toInt = 1 := rfl
    refine ⟨fun h => absurd (i_le.mp h) (by omega), fun _ => ⟨fun h => hp _ ?_, fun h => ⟨fun h2 => h (by rw [h2]; exact l_le.mpr (Int.le_refl _)), fun x hx y hy => ?_⟩⟩⟩
    · have := l_le.mp h
      rw [show b.toInt.toNat = 0 by omega, Nat.gcd_zero_right]; omega
    · have hb0 : 0 < b.toInt := by
        have : ¬ b.toInt ≤ 0 := fun q => h (l_le.mpr (by omega))
        omega
      have hx1 : x.toInt = a.toInt % b.toInt := by rw [hx, l_rem ha hb0]
      have hx2 : x.toInt.toNat = a.toInt.toNat % b.toInt.toNat := by rw [hx1, Int.toNat_emod ha hb]
      have hy1 : y.toInt = k.toInt + 1 := by rw [hy, i_add (by omega) (by omega)]; rfl
      refine ih b x y hb (by rw [hx1]; exact Int.emod_nonneg _ (by omega)) ?_ (by omega) (by omega) (fun r hr => hp r ?_)
      · rcases he with he | he
        · omega
        · rw [hx2]; exact he
      · rw [hr, hx2, Nat.gcd_comm, ← Nat.gcd_rec, Nat.gcd_comm]
theorem gcd7 {a b : Int64} (ha : 0 ≤ a.toInt) (hb : 0 ≤ b.toInt) {post : Int64 → Prop} (hp : ∀ r : Int64, r.toInt = (Nat.gcd a.toInt.toNat b.toInt.toNat : Int) → post r) : w7_gcd a b post := by
  unfold w7_gcd
  have hr := l_range b
  exact ⟨_, gcd7_L (2 * 63) a b 0 ha hb (eN_log 63 _ _ (by omega)) (by decide) (by decide) hp⟩
def sg (p q : Int) : Int := (Nat.gcd p.toNat q.toNat : Int)
abbrev stOk (p q : Int) : Prop := p / sg p q ≤ 1000000 ∧ q / sg p q ≤ 1000000
def stR (p q : Int) : Int32 := if stOk p q then 1 else -3
def stF (f : Nat → Int32) (v : Int32) (p q x : Int) : Nat → Int32 := if stOk p q then upd f v.toNatClampNeg (Int32.ofInt (x / sg p q)) else f
theorem sg_pos {p q : Int} (hp : 0 < p) : 0 < sg p q := by
  unfold sg
  have : 0 < Nat.gcd p.toNat q.toNat := Nat.gcd_pos_of_pos_left _ (by omega)
  omega
theorem sg_dvd_left {p q : Int} (hp : 0 < p) : sg p q ∣ p := by
  unfold sg
  have h := Int.natCast_dvd_natCast.mpr (Nat.gcd_dvd_left p.toNat q.toNat)
  rwa [show ((p.toNat : Nat) : Int) = p by omega] at h
theorem sg_dvd_right {p q : Int} (hq : 0 < q) : sg p q ∣ q := by
  unfold sg
  have h := Int.natCast_dvd_natCast.mpr (Nat.gcd_dvd_right p.toNat q.toNat)
  rwa [show ((q.toNat : Nat) : Int) = q by omega] at h
theorem i_ofInt {x : Int} (h1 : -2147483648 ≤ x) (h2 : x ≤ 2147483647) : (Int32.ofInt x).toInt = x := by
  rw [Int32.toInt_ofInt]
  show Int.bmod x 4294967296 = x
  exact Int.bmod_eq_of_le (by omega) (by omega)
theorem l_to_ofInt {a : Int64} (h1 : -2147483648 ≤ a.toInt) (h2 : a.toInt ≤ 2147483647) : a.toInt32 = Int32.ofInt a.toInt := i_ext (by rw [l_i h1 h2, i_ofInt h1 h2])
theorem s7_store {f g : Nat → Int32} {v : Int32} {P Q : Int64} (hv : isR v) (hP : 0 < P.toInt) (hQ : 0 < Q.toInt) {post : Int32 → (Nat → Int32) → (Nat → Int32) → Prop} (h : post (stR P.toInt Q.toInt) (stF f v P.toInt Q.toInt P.toInt) (stF g v P.toInt Q.toInt Q.toInt)) : w7_store f g v P Q post := by
  unfold w7_store
  refine gcd7 (by omega) (by omega) (fun r hr => ?_)
  have hs : r.toInt = sg P.toInt Q.toInt := hr
  have hr0 : 0 < r.toInt := by rw [hs]; exact sg_pos hP
  have h0 : (0 : Int64).toInt = 0 := rfl
  have h6 : (1000000 : Int64).toInt = 1000000 := rfl
  have hle : ¬ r ≤ 0 := fun q => by have := l_le.mp q; omega
  have hne : ¬ r = 0 := fun q => by rw [q] at hr0; omega
  unfold w7_quotient
  simp only [hle, hne, false_implies, not_false_eq_true, true_implies, true_and]
  have e1 := l_div (a := P) (b := r) (by omega) hr0
  have e2 := l_div (a := Q) (b := r) (by omega) hr0
  rw [l_lt, l_le, h6, e1, e2, hs]
  have p1 : 0 ≤ P.toInt / sg P.toInt Q.toInt := Int.ediv_nonneg (by omega) (by omega)
  have p2 : 0 ≤ Q.toInt / sg P.toInt Q.toInt := Int.ediv_nonneg (by omega) (by omega)
  by_cases hk : stOk P.toInt Q.toInt
  · have k1 := hk.1
    have k2 := hk.2
    simp only [stR, stF, if_pos hk] at h
    refine ⟨fun q => absurd q (by omega), fun _ => ⟨fun _ => ⟨hv.vin, hv.vin, ?_⟩, fun q => absurd k2 q⟩⟩
    rw [l_to_ofInt (by rw [e1, hs]; omega) (by rw [e1, hs]; omega), l_to_ofInt (by rw [e2, hs]; omega) (by rw [e2, hs]; omega), e1, e2, hs]
    exact h
  · simp only [stR, stF, if_neg hk] at h
    by_cases k1 : P.toInt / sg P.toInt Q.toInt ≤ 1000000
    · have k2 : ¬ Q.toInt / sg P.toInt Q.toInt ≤ 1000000 := fun q => hk ⟨k1, q⟩
      exact ⟨fun q => absurd q (by omega), fun _ => ⟨fun q => absurd q k2, fun _ => h⟩⟩
    · exact ⟨fun _ => h, fun q => absurd q (by omega)⟩
theorem upd_eq (f : Nat → Int32) (k : Nat) (x : Int32) : upd f k x k = x := if_pos rfl
theorem upd_ne (f : Nat → Int32) {k j : Nat} (x : Int32) (h : ¬ j = k) : upd f k x j = f j := if_neg h
theorem st_good {p q : Int} (hp : 0 < p) (hq : 0 < q) (hk : stOk p q) : good (Int32.ofInt (p / sg p q)) (Int32.ofInt (q / sg p q)) := by
  have hg := sg_pos (q := q) hp
  have d1 : 1 ≤ p / sg p q := by
    have := Int.ediv_pos_of_pos_of_dvd hp (by omega) (sg_dvd_left (q := q) hp)
    omega
  have d2 : 1 ≤ q / sg p q := by
    have := Int.ediv_pos_of_pos_of_dvd hq (by omega) (sg_dvd_right (p := p) hq)
    omega
  have k1 := hk.1
  have k2 := hk.2
  have e1 := i_ofInt (x := p / sg p q) (by omega) (by omega)
  have e2 := i_ofInt (x := q / sg p q) (by omega) (by omega)
  refine ⟨by omega, by omega, by omega, by omega, ?_⟩
  rw [e1, e2]
  have n1 : p / sg p q = ((p.toNat / Nat.gcd p.toNat q.toNat : Nat) : Int) := by
    unfold sg; rw [Int.natCast_ediv, Int.toNat_of_nonneg (by omega)]
  have n2 : q / sg p q = ((q.toNat / Nat.gcd p.toNat q.toNat : Nat) : Int) := by
    unfold sg; rw [Int.natCast_ediv, Int.toNat_of_nonneg (by omega)]
  rw [n1, n2, Int.toNat_natCast, Int.toNat_natCast]
  exact Nat.gcd_div_gcd_div_gcd_of_pos_left (by omega)
theorem t64 (v : Int32) : v.toInt64.toInt = v.toInt := Int32.toInt_toInt64 v
theorem m_pos {a b : Int} (ha : 1 ≤ a) (hA : a ≤ 1000000) (hb : 1 ≤ b) (hB : b ≤ 1000000) : 1 ≤ a * b ∧ a * b ≤ 1000000000000 := by
  have h1 := Int.mul_le_mul hA hB (by omega) (by omega)
  have h2 := Int.mul_le_mul ha hb (by omega) (by omega)
  constructor <;> omega
theorem ofN_1 (n : Nat) : Int32.ofNat n + 1 = Int32.ofNat (n + 1) := (Int32.ofNat_add n 1).symm
theorem nxt {i x : Int32} {k : Nat} (h : i.toInt = (k : Int)) (hk : k < 1000000) (e : x = i + 1) : x.toInt = ((k + 1 : Nat) : Int) := by
  have l1 : (1 : Int32).toInt = 1 := rfl
  rw [e, i_add (by omega) (by omega), l1, h]; rfl
theorem natc {i : Int32} {k : Nat} (h : i.toInt = (k : Int)) : i.toNatClampNeg = k := by
  have := clamp (v := i) (by omega)
  omega
def rs (a b : Nat) : Nat → Nat
  | 0 => a
  | 1 => b
  | n + 2 => rs a b n % rs a b (n + 1)
theorem rs_shift (a b : Nat) : ∀ i, rs a b (i + 1) = rs b (a % b) i
  | 0 => rfl
  | 1 => rfl
  | n + 2 => by
    show rs a b (n + 1) % rs a b (n + 2) = rs b (a % b) n % rs b (a % b) (n + 1)
    rw [rs_shift a b n, rs_shift a b (n + 1)]
/-- the i-th term -/
def tm (a b i : Nat) : Nat := rs a b i / rs a b (i + 1)
/-- a / b has N terms -/
def CFx (a b N : Nat) : Prop := (∀ i, i < N → 0 < rs a b (i + 1)) ∧ rs a b (N + 1) = 0
theorem CFx_of_eN : ∀ (n a b : Nat), eN n a b → ∃ N, N ≤ n ∧ CFx a b N := by
  intro n
  induction n with
  | zero => intro a b h; exact ⟨0, Nat.le_refl _, fun i hi => absurd hi (by omega), h⟩
  | succ n ih =>
    intro a b h
    by_cases hb : b = 0
    · exact ⟨0, Nat.zero_le _, fun i hi => absurd hi (by omega), hb⟩
    · rcases h with h | h
      · exact absurd h hb
      obtain ⟨N, h1, h2, h3⟩ := ih _ _ h
      refine ⟨N + 1, by omega, fun i hi => ?_, ?_⟩
      · cases i with
        | zero => show 0 < b; omega
        | succ i => rw [rs_shift]; exact h2 i (by omega)
      · rw [rs_shift]; exact h3
theorem rs_rec (a b i : Nat) : rs a b i = tm a b i * rs a b (i + 1) + rs a b (i + 2) := by
  have h := Nat.div_add_mod (rs a b i) (rs a b (i + 1))
  rw [Nat.mul_comm] at h
  exact h.symm
theorem rs_lt {a b N : Nat} (h : CFx a b N) {i : Nat} (hi : i < N) : rs a b (i + 2) < rs a b (i + 1) := Nat.mod_lt _ (h.1 i hi)
theorem rs_gcd (a b : Nat) : ∀ i, Nat.gcd (rs a b i) (rs a b (i + 1)) = Nat.gcd a b
  | 0 => rfl
  | n + 1 => by
    rw [← rs_gcd a b n]
    show Nat.gcd (rs a b (n + 1)) (rs a b n % rs a b (n + 1)) = _
    rw [Nat.gcd_comm (rs a b (n + 1)), ← Nat.gcd_rec, Nat.gcd_comm]
/-- a reduced fraction's expansion -/
def CF (a b N : Nat) : Prop := CFx a b N ∧ 1 ≤ N ∧ N ≤ 40 ∧ rs a b N = 1 ∧ 1 ≤ a ∧ a ≤ 1000000 ∧ 1 ≤ b ∧ b ≤ 1000000
theorem CF_of {a b : Nat} (ha : 1 ≤ a) (hA : a ≤ 1000000) (hb : 1 ≤ b) (hB : b ≤ 1000000) (hg : Nat.gcd a b = 1) : ∃ N, CF a b N := by
  obtain ⟨N, h1, h2⟩ := CFx_of_eN _ a b (eN_log 20 a b (by omega))
  refine ⟨N, h2, ?_, by omega, ?_, ha, hA, hb, hB⟩
  · rcases Nat.eq_zero_or_pos N with h | h
    · rw [h] at h2; have : b = 0 := h2.2; omega
    · exact h
  · have := rs_gcd a b N
    rw [h2.2, Nat.gcd_zero_right, hg] at this
    exact this
theorem CF_good {a b : Int32} (h : good a b) : ∃ N, CF a.toInt.toNat b.toInt.toNat N := by
  obtain ⟨h1, h2, h3, h4, h5⟩ := h
  exact CF_of (by omega) (by omega) (by omega) (by omega) h5
theorem rs_le {a b N : Nat} (h : CF a b N) : ∀ i, i ≤ N + 1 → rs a b i ≤ 1000000
  | 0, _ => h.2.2.2.2.2.1
  | 1, _ => h.2.2.2.2.2.2.2
  | i + 2, hi => by
    have := rs_lt h.1 (i := i) (by omega)
    have := rs_le h (i + 1) (by omega)
    omega
theorem tm_le {a b N : Nat} (h : CF a b N) {i : Nat} (hi : i < N) : tm a b i ≤ 1000000 := Nat.le_trans (Nat.div_le_self _ _) (rs_le h i (by omega))
/-- every term but the first is positive -/
theorem tm_pos {a b N : Nat} (h : CF a b N) {i : Nat} (h0 : 0 < i) (hi : i < N) : 1 ≤ tm a b i := by
  obtain ⟨j, rfl⟩ : ∃ j, i = j + 1 := ⟨i - 1, by omega⟩
  have h1 := rs_lt h.1 (i := j) (by omega)
  have h2 := h.1.1 (j + 1) hi
  show 1 ≤ rs a b (j + 1) / rs a b (j + 2)
  exact Nat.div_pos (Nat.le_of_lt h1) h2
/-- the last term is at least 2, but for 1 itself -/
theorem tm_last {a b N : Nat} (h : CF a b N) (hN : 2 ≤ N) : 2 ≤ tm a b (N - 1) := by
  obtain ⟨j, rfl⟩ : ∃ j, N = j + 2 := ⟨N - 2, by omega⟩
  show 2 ≤ rs a b (j + 1) / rs a b (j + 2)
  have h1 : rs a b (j + 2) = 1 := h.2.2.2.1
  have h2 := rs_lt h.1 (i := j) (by omega)
  rw [h1] at h2 ⊢
  omega
theorem tm_last1 {a b N : Nat} (h : CF a b N) : 1 ≤ tm a b (N - 1) := by
  rcases Nat.lt_or_ge N 2 with q | q
  · have hN : N = 1 := by have := h.2.1; omega
    subst hN
    show 1 ≤ rs a b 0 / rs a b 1
    have h1 : rs a b 1 = 1 := h.2.2.2.1
    rw [h1, Nat.div_one]
    exact h.2.2.2.2.1
  · have := tm_last h q; omega
/-- the length of the i-th run, among them perhaps one of no steps: the first -/
def rr (a b N i : Nat) : Nat := if i = N - 1 then tm a b i - 1 else tm a b i
theorem rr_pos {a b N : Nat} (h : CF a b N) {i : Nat} (h0 : 0 < i) (hi : i < N) : 1 ≤ rr a b N i := by
  unfold rr
  by_cases q : i = N - 1
  · rw [if_pos q, q]
    have := tm_last h (by omega)
    omega
  · rw [if_neg q]; exact tm_pos h h0 hi
theorem rr_le {a b N : Nat} (h : CF a b N) {i : Nat} (hi : i < N) : rr a b N i ≤ 1000000 := by
  have := tm_le h hi
  unfold rr
  split <;> omega
/-- arrays that hold the terms -/
def IsT (a b N : Nat) (f : Nat → Int32) : Prop := ∀ i, i < N → (f i).toInt = (tm a b i : Int)
theorem i_pos {v : Int32} {k : Nat} (h : v.toInt = (k : Int)) (hk : 0 < k) : ¬ v ≤ 0 ∧ ¬ v = 0 := by
  have h0 : (0 : Int32).toInt = 0 := rfl
  exact ⟨fun q => by have := i_le.mp q; omega, fun q => by rw [q] at h; omega⟩
theorem i_divmod {x y : Int32} {a b : Nat} (hx : x.toInt = (a : Int)) (hy : y.toInt = (b : Int)) (hb : 0 < b) : (x / y).toInt = ((a / b : Nat) : Int) ∧ (x - (x / y) * y).toInt = ((a % b : Nat) : Int) := by
  constructor
  · rw [i_div (by omega) (by omega), hx, hy, Int.natCast_ediv]
  · rw [i_rem (by omega) (by omega), hx, hy, Int.natCast_emod]
theorem ex7_L {a b N : Nat} (h : CF a b N) {post : Int32 → (Nat → Int32) → Prop} (hp : ∀ f, IsT a b N f → post (Int32.ofNat N) f) : ∀ (n k : Nat) (x y i : Int32) (f : Nat → Int32), k + n = N → x.toInt = (rs a b k : Int) → y.toInt = (rs a b (k + 1) : Int) → i.toInt = (k : Int) → (∀ j, j < k → (f j).toInt = (tm a b j : Int)) → w1_expand_L13 post (n + 1) x y i (Int32.ofNat k) f := by
  have l64 : (64 : Int32).toInt = 64 := rfl
  have l0 : (0 : Int32).toInt = 0 := rfl
  have l1 : (1 : Int32).toInt = 1 := rfl
  have hN := h.2.2.1
  intro n
  induction n with
  | zero =>
    intro k x y i f hk hx hy hi hf
    obtain rfl : k = N := by omega
    rw [w1_expand_L13]
    refine ⟨fun q => absurd (i_le.mp q) (by omega), fun _ => ⟨fun _ => hp f hf, fun q => absurd (i_le.mpr ?_) q⟩⟩
    rw [hy, h.1.2, l0]; exact Int.le_refl _
  | succ n ih =>
    intro k x y i f hk hx hy hi hf
    rw [w1_expand_L13]
    obtain ⟨hle, hne⟩ := i_pos hy (h.1.1 k (by omega))
    obtain ⟨e1, e2⟩ := i_divmod hx hy (h.1.1 k (by omega))
    have hsz : (Int32.ofNat k).toInt = (k : Int) := n_toInt (by omega)
    refine ⟨fun q => absurd (i_le.mp q) (by omega), fun _ => ⟨fun q => absurd q hle, fun _ => ⟨hne, ?_⟩⟩⟩
    unfold w1_append
    refine ⟨fun q => absurd (i_le.mp q) (by omega), fun _ => ⟨vin (by omega) (by omega), fun s es => ⟨hne, fun z ez j ej => ?_⟩⟩⟩
    rw [ofN_1] at es
    rw [es, natc hsz]
    refine ih (k + 1) y z j _ (by omega) hy (by rw [ez, e2]; rfl) (nxt hi (by omega) ej) (fun q hq => ?_)
    by_cases hqk : q = k
    · subst hqk
      rw [upd_eq]; exact e1
    · rw [upd_ne _ _ hqk]; exact hf q (by omega)
theorem s1_expand {a b N : Nat} (h : CF a b N) {x y s : Int32} {f : Nat → Int32} (hx : x.toInt = (a : Int)) (hy : y.toInt = (b : Int)) {post : Int32 → (Nat → Int32) → Prop} (hp : ∀ f, IsT a b N f → post (Int32.ofNat N) f) : w1_expand s f x y post :=
  ⟨_, ex7_L h hp N 0 x y 0 f (by omega) hx hy rfl (fun j hj => absurd hj (by omega))⟩
def sumN (f : Nat → Nat) : Nat → Nat
  | 0 => 0
  | n + 1 => sumN f n + f n
theorem sumN_le {f : Nat → Nat} {C : Nat} : ∀ {n : Nat}, (∀ i, i < n → f i ≤ C) → sumN f n ≤ C * n := by
  intro n
  induction n with
  | zero => intro _; exact Nat.zero_le _
  | succ n ih =>
    intro h
    have h1 := ih (fun i hi => h i (by omega))
    have h2 := h n (by omega)
    show sumN f n + f n ≤ C * (n + 1)
    rw [Nat.mul_succ]; omega
theorem sumN_mono {f : Nat → Nat} {m n : Nat} (h : m ≤ n) : sumN f m ≤ sumN f n := by
  induction n with
  | zero => have : m = 0 := by omega
            subst this; exact Nat.le_refl _
  | succ n ih =>
    by_cases q : m = n + 1
    · subst q; exact Nat.le_refl _
    · have := ih (by omega)
      show sumN f m ≤ sumN f n + f n
      omega
/-- the depth -/
def dep (a b N : Nat) : Nat := sumN (rr a b N) N
theorem dep_le {a b N : Nat} (h : CF a b N) {k : Nat} (hk : k ≤ N) : sumN (rr a b N) k ≤ 40000000 := by
  have h1 := sumN_le (f := rr a b N) (C := 1000000) (n := k) (fun i hi => rr_le h (by omega))
  have h2 := h.2.2.1
  omega
theorem szm1 {N : Nat} (h1 : 1 ≤ N) (h2 : N ≤ 1000) : (Int32.ofNat N - 1).toInt = (N : Int) - 1 := by
  have l1 : (1 : Int32).toInt = 1 := rfl
  have e : (Int32.ofNat N).toInt = (N : Int) := n_toInt (by omega)
  rw [i_sub (by omega) (by omega), e, l1]
theorem s1_at {N : Nat} {f : Nat → Int32} {v : Int32} {k : Nat} (hN : N ≤ 64) (hv : v.toInt = (k : Int)) (hk : k < N) {post : Int32 → Prop} (h : post (f k)) : w1_at (Int32.ofNat N) f v post := by
  have l0 : (0 : Int32).toInt = 0 := rfl
  have e : (Int32.ofNat N).toInt = (N : Int) := n_toInt (by omega)
  unfold w1_at
  refine ⟨fun q => absurd (i_lt.mp q) (by omega), fun _ => ⟨fun q => absurd (i_le.mp q) (by omega), fun _ => ⟨vin (by omega) (by omega), ?_⟩⟩⟩
  rw [natc hv]; exact h
theorem s1_runAt {a b N : Nat} (h : CF a b N) {f : Nat → Int32} (hf : IsT a b N f) {v : Int32} {k : Nat} (hv : v.toInt = (k : Int)) (hk : k < N) {post : Int32 → Prop} (hp : ∀ r : Int32, r.toInt = (rr a b N k : Int) → post r) : w1_runAt (Int32.ofNat N) f v post := by
  have hN := h.2.2.1
  have l1 : (1 : Int32).toInt = 1 := rfl
  have e1 := szm1 (N := N) h.2.1 (by omega)
  have ht := hf k hk
  have htl := tm_le h hk
  unfold w1_runAt
  refine ⟨fun q => s1_at (by omega) hv hk (hp _ ?_), fun q => s1_at (by omega) hv hk (hp _ ?_)⟩
  · have hne : ¬ k = N - 1 := fun z => q (i_ext (by rw [hv, e1]; omega))
    rw [ht, rr, if_neg hne]
  · have he : k = N - 1 := by
      have := congrArg Int32.toInt q
      rw [hv, e1] at this; omega
    have h2 := tm_last1 h
    rw [← he] at h2
    rw [i_sub (by omega) (by omega), ht, l1, rr, if_pos he]; omega
theorem sc7_L {a b N : Nat} (h : CF a b N) {f : Nat → Int32} (hf : IsT a b N f) {post : Int32 → Prop} (hp : ∀ r : Int32, r.toInt = (dep a b N : Int) → post r) : ∀ (n k : Nat) (acc i : Int32), k + n = N → acc.toInt = (sumN (rr a b N) k : Int) → i.toInt = (k : Int) → w1_stepCount_L4 (Int32.ofNat N) f post (n + 1) acc i := by
  have hN := h.2.2.1
  have e : (Int32.ofNat N).toInt = (N : Int) := n_toInt (by omega)
  intro n
  induction n with
  | zero =>
    intro k acc i hk ha hi
    obtain rfl : k = N := by omega
    rw [w1_stepCount_L4]
    exact ⟨fun _ => hp _ ha, fun q => absurd (i_le.mpr (by omega)) q⟩
  | succ n ih =>
    intro k acc i hk ha hi
    rw [w1_stepCount_L4]
    refine ⟨fun q => absurd (i_le.mp q) (by omega), fun _ => s1_runAt h hf hi (by omega) (fun r hr x ex j ej => ?_)⟩
    have b1 := dep_le h (k := k + 1) (by omega)
    have b2 : sumN (rr a b N) (k + 1) = sumN (rr a b N) k + rr a b N k := rfl
    refine ih (k + 1) x j (by omega) ?_ (nxt hi (by omega) ej)
    rw [ex, i_add (by omega) (by omega), ha, hr, b2]; omega
theorem s1_stepCount {a b N : Nat} (h : CF a b N) {f : Nat → Int32} (hf : IsT a b N f) {post : Int32 → Prop} (hp : ∀ r : Int32, r.toInt = (dep a b N : Int) → post r) : w1_stepCount (Int32.ofNat N) f post := ⟨_, sc7_L h hf hp N 0 0 0 (by omega) rfl rfl⟩
theorem sumN_shift (f : Nat → Nat) : ∀ n, sumN f (n + 1) = f 0 + sumN (fun i => f (i + 1)) n
  | 0 => by show 0 + f 0 = f 0 + 0; omega
  | n + 1 => by
    show sumN f (n + 1) + f (n + 1) = f 0 + (sumN (fun i => f (i + 1)) n + f (n + 1))
    rw [sumN_shift f n]; omega
/-- the rule that makes each numerator and denominator out of the two before it -/
def kk2 (t : Nat → Nat) (x y : Nat) : Nat → Nat
  | 0 => x
  | 1 => y
  | n + 2 => t n * kk2 t x y (n + 1) + kk2 t x y n
theorem kk2_congr {t u : Nat → Nat} {x y : Nat} : ∀ n, (∀ i, i + 1 < n → t i = u i) → kk2 t x y n = kk2 u x y n
  | 0, _ => rfl
  | 1, _ => rfl
  | n + 2, h => by
    show t n * kk2 t x y (n + 1) + kk2 t x y n = u n * kk2 u x y (n + 1) + kk2 u x y n
    rw [h n (by omega), kk2_congr (n + 1) (fun i hi => h i (by omega)), kk2_congr n (fun i hi => h i (by omega))]
/-- numerators and denominators, of k terms at place k + 1 -/
def cA (a b k : Nat) : Nat := kk2 (tm a b) 0 1 k
def cB (a b k : Nat) : Nat := kk2 (tm a b) 1 0 k
theorem cA_rec (a b k : Nat) : cA a b (k + 2) = tm a b k * cA a b (k + 1) + cA a b k := rfl
theorem cB_rec (a b k : Nat) : cB a b (k + 2) = tm a b k * cB a b (k + 1) + cB a b k := rfl
theorem cA_rs (a b : Nat) : ∀ k, a = cA a b (k + 1) * rs a b k + cA a b k * rs a b (k + 1)
  | 0 => by show a = 1 * a + 0 * b; omega
  | k + 1 => by
    have h := cA_rs a b k
    show a = cA a b (k + 2) * rs a b (k + 1) + cA a b (k + 1) * rs a b (k + 2)
    rw [cA_rec]
    have e := rs_rec a b k
    have e2 : cA a b (k + 1) * rs a b k = cA a b (k + 1) * (tm a b k * rs a b (k + 1)) + cA a b (k + 1) * rs a b (k + 2) := by
      rw [← Nat.mul_add, ← e]
    have e3 : (tm a b k * cA a b (k + 1) + cA a b k) * rs a b (k + 1) = cA a b (k + 1) * (tm a b k * rs a b (k + 1)) + cA a b k * rs a b (k + 1) := by
      rw [Nat.add_mul, Nat.mul_comm (tm a b k), Nat.mul_assoc]
    rw [e3]
    omega
theorem cB_rs (a b : Nat) : ∀ k, b = cB a b (k + 1) * rs a b k + cB a b k * rs a b (k + 1)
  | 0 => by show b = 0 * a + 1 * b; omega
  | k + 1 => by
    have h := cB_rs a b k
    show b = cB a b (k + 2) * rs a b (k + 1) + cB a b (k + 1) * rs a b (k + 2)
    rw [cB_rec]
    have e := rs_rec a b k
    have e2 : cB a b (k + 1) * rs a b k = cB a b (k + 1) * (tm a b k * rs a b (k + 1)) + cB a b (k + 1) * rs a b (k + 2) := by
      rw [← Nat.mul_add, ← e]
    have e3 : (tm a b k * cB a b (k + 1) + cB a b k) * rs a b (k + 1) = cB a b (k + 1) * (tm a b k * rs a b (k + 1)) + cB a b k * rs a b (k + 1) := by
      rw [Nat.add_mul, Nat.mul_comm (tm a b k), Nat.mul_assoc]
    rw [e3]
    omega
theorem rs_pos {a b N : Nat} (h : CF a b N) : ∀ {k}, k ≤ N → 1 ≤ rs a b k
  | 0, _ => h.2.2.2.2.1
  | k + 1, hk => h.1.1 k (by omega)
theorem cA_le {a b N : Nat} (h : CF a b N) {k : Nat} (hk : k ≤ N + 1) : cA a b k ≤ a := by
  cases k with
  | zero => exact Nat.zero_le _
  | succ k =>
    have e := cA_rs a b k
    have hp := rs_pos h (k := k) (by omega)
    have : cA a b (k + 1) * 1 ≤ cA a b (k + 1) * rs a b k := Nat.mul_le_mul_left _ hp
    omega
theorem cB_le {a b N : Nat} (h : CF a b N) {k : Nat} (hk : k ≤ N + 1) : cB a b k ≤ b := by
  cases k with
  | zero => exact h.2.2.2.2.2.2.1
  | succ k =>
    have e := cB_rs a b k
    have hp := rs_pos h (k := k) (by omega)
    have : cB a b (k + 1) * 1 ≤ cB a b (k + 1) * rs a b k := Nat.mul_le_mul_left _ hp
    omega
theorem cA_end {a b N : Nat} (h : CF a b N) : cA a b (N + 1) = a := by
  have e := cA_rs a b N
  rw [h.1.2, h.2.2.2.1] at e; omega
theorem cB_end {a b N : Nat} (h : CF a b N) : cB a b (N + 1) = b := by
  have e := cB_rs a b N
  rw [h.1.2, h.2.2.2.1] at e; omega
/-- the determinant of neighbours -/
theorem cdet (a b : Nat) : ∀ k, (cA a b (k + 1) : Int) * cB a b k - (cA a b k : Int) * cB a b (k + 1) = if k % 2 = 0 then 1 else -1
  | 0 => rfl
  | k + 1 => by
    have h := cdet a b k
    rw [cA_rec, cB_rec]
    have e : ((tm a b k * cA a b (k + 1) + cA a b k : Nat) : Int) * (cB a b (k + 1) : Int) - (cA a b (k + 1) : Int) * ((tm a b k * cB a b (k + 1) + cB a b k : Nat) : Int) = -((cA a b (k + 1) : Int) * cB a b k - (cA a b k : Int) * cB a b (k + 1)) := by
      push_cast
      grind
    rw [e, h]
    by_cases q : k % 2 = 0
    · rw [if_pos q, if_neg (by omega)]
    · rw [if_neg q, if_pos (by omega)]; rfl
theorem cA_pos {a b N : Nat} (h : CF a b N) : ∀ {k}, 2 ≤ k → k ≤ N + 1 → (1 ≤ cA a b (k + 1 - 1) ∨ k = 2) ∧ 1 ≤ cB a b k
  | 0, h1, _ => absurd h1 (by omega)
  | 1, h1, _ => absurd h1 (by omega)
  | 2, _, _ => ⟨Or.inr rfl, by show 1 ≤ tm a b 0 * 0 + 1; omega⟩
  | 3, _, hk => by
    refine ⟨Or.inl ?_, ?_⟩
    · show 1 ≤ tm a b 1 * cA a b 2 + 1; omega
    · have := tm_pos h (i := 1) (by omega) (by omega)
      have h2 : cB a b 2 = 1 := by show tm a b 0 * 0 + 1 = 1; omega
      show 1 ≤ tm a b 1 * cB a b 2 + 0
      rw [h2]; omega
  | k + 4, _, hk => by
    obtain ⟨h1, h2⟩ := cA_pos h (k := k + 3) (by omega) (by omega)
    have ht := tm_pos h (i := k + 2) (by omega) (by omega)
    rcases h1 with h1 | h1
    · refine ⟨Or.inl ?_, ?_⟩
      · show 1 ≤ tm a b (k + 2) * cA a b (k + 3) + cA a b (k + 2)
        have h1' : 1 ≤ cA a b (k + 3) := h1
        have := Nat.mul_le_mul ht h1'
        omega
      · show 1 ≤ tm a b (k + 2) * cB a b (k + 3) + cB a b (k + 2)
        have := Nat.mul_le_mul ht h2
        omega
    · omega
theorem lbr_L {N : Nat} {f : Nat → Int32} {t : Nat → Nat} (hf : ∀ i, i < N → (f i).toInt = (t i : Int)) (ht : ∀ i, i < N → t i ≤ 1000000) {v : Int32} {last : Nat} (hv : v.toInt = (last : Int) - 1) (hl : last ≤ N) (hN : N ≤ 64) {x y : Nat} (hb : ∀ k, k ≤ last + 1 → kk2 t x y k ≤ 2000000000000) {post : Int64 → Prop} (hp : ∀ r : Int64, r.toInt = (kk2 t x y (last + 1) : Int) → post r) : ∀ (n k : Nat) (X Y : Int64) (i : Int32), k + n = last → X.toInt = (kk2 t x y k : Int) → Y.toInt = (kk2 t x y (k + 1) : Int) → i.toInt = (k : Int) → w1_lastByRule_L17 (Int32.ofNat N) f v post (n + 1) X Y i := by
  have hNi : (Int32.ofNat N).toInt = (N : Int) := n_toInt (by omega)
  intro n
  induction n with
  | zero =>
    intro k X Y i hk hX hY hi
    obtain rfl : k = last := by omega
    rw [w1_lastByRule_L17]
    exact ⟨fun _ => hp Y hY, fun z => absurd (i_lt.mpr (by omega)) z⟩
  | succ n ih =>
    intro k X Y i hk hX hY hi
    rw [w1_lastByRule_L17]
    refine ⟨fun z => absurd (i_lt.mp z) (by omega), fun _ => ⟨fun z => absurd (i_le.mp z) (by omega), fun _ => ⟨vin (by omega) (by omega), fun Z eZ j ej => ih (k + 1) Y Z j (by omega) hY ?_ (nxt hi (by omega) ej)⟩⟩⟩
    rw [natc hi] at eZ
    have h1 := hb (k + 1) (by omega)
    have h2 := hb (k + 2) (by omega)
    have h3 := hb k (by omega)
    have hrec : kk2 t x y (k + 2) = t k * kk2 t x y (k + 1) + kk2 t x y k := rfl
    have hft := hf k (by omega)
    have hc : ((t k * kk2 t x y (k + 1) : Nat) : Int) = (t k : Int) * (kk2 t x y (k + 1) : Int) := Int.natCast_mul _ _
    have e1 : ((f k).toInt64 * Y).toInt = ((t k * kk2 t x y (k + 1) : Nat) : Int) := by rw [l_mul (by rw [t64, hft, hY, ← hc]; omega) (by rw [t64, hft, hY, ← hc]; omega), t64, hft, hY, hc]
    rw [eZ, l_add (by rw [e1, hX]; omega) (by rw [e1, hX]; omega), e1, hX, hrec]; omega
theorem s1_last {N : Nat} {f : Nat → Int32} {t : Nat → Nat} (hf : ∀ i, i < N → (f i).toInt = (t i : Int)) (ht : ∀ i, i < N → t i ≤ 1000000) {v : Int32} {last : Nat} (hv : v.toInt = (last : Int) - 1) (hl : last ≤ N) (hN : N ≤ 64) {x y : Nat} {X Y : Int64} (hX : X.toInt = (x : Int)) (hY : Y.toInt = (y : Int)) (hb : ∀ k, k ≤ last + 1 → kk2 t x y k ≤ 2000000000000) {post : Int64 → Prop} (hp : ∀ r : Int64, r.toInt = (kk2 t x y (last + 1) : Int) → post r) : w1_lastByRule (Int32.ofNat N) f v X Y post := by
  unfold w1_lastByRule
  have lm : (-1 : Int32).toInt = -1 := rfl
  exact ⟨fun _ => ⟨_, lbr_L hf ht hv hl hN hb hp last 0 X Y 0 (by omega) hX hY rfl⟩, fun z => absurd (i_le.mpr (by omega)) z⟩
def oA (a b k m : Nat) : Nat := cA a b k + m * cA a b (k + 1)
def oB (a b k m : Nat) : Nat := cB a b k + m * cB a b (k + 1)
def sLA (a b k m : Nat) : Nat := if k % 2 = 0 then oA a b k m else cA a b (k + 1)
def sLB (a b k m : Nat) : Nat := if k % 2 = 0 then oB a b k m else cB a b (k + 1)
def sRA (a b k m : Nat) : Nat := if k % 2 = 0 then cA a b (k + 1) else oA a b k m
def sRB (a b k m : Nat) : Nat := if k % 2 = 0 then cB a b (k + 1) else oB a b k m
theorem s_sum (a b k m : Nat) : sLA a b k m + sRA a b k m = oA a b k (m + 1) ∧ sLB a b k m + sRB a b k m = oB a b k (m + 1) := by
  unfold sLA sRA sLB sRB oA oB
  rw [Nat.add_mul, Nat.add_mul, Nat.one_mul, Nat.one_mul]
  split <;> constructor <;> omega
theorem s_det (a b k m : Nat) : (sRA a b k m : Int) * sLB a b k m - (sLA a b k m : Int) * sRB a b k m = 1 := by
  have h := cdet a b k
  unfold sLA sRA sLB sRB oA oB
  split
  · rename_i q
    rw [if_pos q] at h
    push_cast
    grind
  · rename_i q
    rw [if_neg q] at h
    push_cast
    grind
theorem rr_lastN {a b N : Nat} (h : CF a b N) : rr a b N (N - 1) = tm a b (N - 1) - 1 ∧ oA a b (N - 1) (rr a b N (N - 1) + 1) = a ∧ oB a b (N - 1) (rr a b N (N - 1) + 1) = b := by
  have e : rr a b N (N - 1) = tm a b (N - 1) - 1 := if_pos rfl
  have h1 := tm_last1 h
  obtain ⟨j, rfl⟩ : ∃ j, N = j + 1 := ⟨N - 1, by have := h.2.1; omega⟩
  rw [show j + 1 - 1 = j from rfl] at e h1 ⊢
  refine ⟨e, ?_, ?_⟩
  · have := cA_end h
    rw [show j + 1 + 1 = j + 2 from rfl, cA_rec] at this
    unfold oA
    rw [e, show tm a b j - 1 + 1 = tm a b j by omega]; omega
  · have := cB_end h
    rw [show j + 1 + 1 = j + 2 from rfl, cB_rec] at this
    unfold oB
    rw [e, show tm a b j - 1 + 1 = tm a b j by omega]; omega
theorem oA_mono {a b k m n : Nat} (h : m ≤ n) : oA a b k m ≤ oA a b k n ∧ oB a b k m ≤ oB a b k n := by
  unfold oA oB
  have h1 := Nat.mul_le_mul_right (cA a b (k + 1)) h
  have h2 := Nat.mul_le_mul_right (cB a b (k + 1)) h
  constructor <;> omega
/-- where the depth lies: the run, and the steps in it -/
def cutF (f : Nat → Nat) : Nat → Nat → Nat → Option (Nat × Nat)
  | 0, _, _ => none
  | n + 1, k, left => if left ≤ f k then some (k, left) else cutF f n (k + 1) (left - f k)
theorem cutF_some {f : Nat → Nat} : ∀ (n k left : Nat), 1 ≤ n → left ≤ sumN (fun i => f (k + i)) n → ∃ j m, cutF f n k left = some (j, m) ∧ k ≤ j ∧ j < k + n ∧ m ≤ f j := by
  intro n
  induction n with
  | zero => intro k left h; exact absurd h (by omega)
  | succ n ih =>
    intro k left _ h
    rw [cutF]
    by_cases q : left ≤ f k
    · exact ⟨k, left, if_pos q, by omega, by omega, q⟩
    · rw [if_neg q]
      rw [sumN_shift] at h
      have e : (fun i => f (k + (i + 1))) = (fun i => f (k + 1 + i)) := by
        funext i; rw [show k + (i + 1) = k + 1 + i by omega]
      simp only [Nat.add_zero] at h
      rw [e] at h
      have hn : 1 ≤ n := by
        cases n with
        | zero => exact absurd (show left ≤ f k by have : sumN (fun i => f (k + 1 + i)) 0 = 0 := rfl; omega) q
        | succ n => omega
      obtain ⟨j, m, h1, h2, h3, h4⟩ := ih (k + 1) (left - f k) hn (by omega)
      exact ⟨j, m, h1, by omega, by omega, h4⟩
theorem s7_st {f g : Nat → Int32} {v : Int32} {P Q : Int64} {p q : Int} (hv : isR v) (eP : P.toInt = p) (eQ : Q.toInt = q) (hP : 0 < p) (hQ : 0 < q) {post : Int32 → (Nat → Int32) → (Nat → Int32) → Prop} (h : post (stR p q) (stF f v p q p) (stF g v p q q)) : w7_store f g v P Q post := by
  subst eP; subst eQ; exact s7_store hv hP hQ h
theorem cutF_full {f : Nat → Nat} : ∀ (n k : Nat), (∀ j, k < j → j < k + n + 1 → 1 ≤ f j) → cutF f (n + 1) k (sumN (fun i => f (k + i)) (n + 1)) = some (k + n, f (k + n)) := by
  intro n
  induction n with
  | zero =>
    intro k _
    have e : sumN (fun i => f (k + i)) (0 + 1) = f k := by
      show 0 + f (k + 0) = f k
      rw [Nat.zero_add, Nat.add_zero]
    rw [e, cutF, if_pos (Nat.le_refl _)]; rfl
  | succ n ih =>
    intro k h
    have hsh : sumN (fun i => f (k + i)) (n + 1 + 1) = f k + sumN (fun i => f (k + 1 + i)) (n + 1) := by
      rw [sumN_shift]
      have e : (fun i => f (k + (i + 1))) = (fun i => f (k + 1 + i)) := by
        funext i; rw [show k + (i + 1) = k + 1 + i by omega]
      rw [e]; rfl
    have h1 := ih (k + 1) (fun j h2 h3 => h j (by omega) (by omega))
    have hpos : 1 ≤ sumN (fun i => f (k + 1 + i)) (n + 1) := by
      rw [sumN_shift]
      have := h (k + 1) (by omega) (by omega)
      simp only [Nat.add_zero]; omega
    rw [hsh, cutF, if_neg (by omega), Nat.add_sub_cancel_left, h1, show k + 1 + n = k + (n + 1) by omega]
theorem cut_dep {a b N : Nat} (h : CF a b N) : cutF (rr a b N) N 0 (dep a b N) = some (N - 1, rr a b N (N - 1)) := by
  obtain ⟨n, rfl⟩ : ∃ n, N = n + 1 := ⟨N - 1, by have := h.2.1; omega⟩
  have := cutF_full (f := rr a b (n + 1)) n 0 (fun j h1 h2 => rr_pos h h1 (by omega))
  simp only [Nat.zero_add] at this
  rw [show n + 1 - 1 = n from rfl]
  exact this
theorem l_zero {x : Int64} {p : Nat} (h : x.toInt = (p : Int)) : x = 0 ↔ p = 0 := by
  have l0 : (0 : Int64).toInt = 0 := rfl
  constructor
  · intro q; rw [q, l0] at h; omega
  · intro q; exact l_ext (by omega)
theorem tm_half {a b N : Nat} (h : CF a b N) {j : Nat} (hj : j + 1 < N) : tm a b j ≤ 500000 := by
  have h1 := rs_rec a b j
  have h2 := rs_le h j (by omega)
  have h3 := rs_lt h.1 (i := j) (by omega)
  have h4 := rs_pos h (k := j + 2) (by omega)
  have h5 := Nat.mul_le_mul_left (tm a b j) (show 2 ≤ rs a b (j + 1) by omega)
  omega
theorem rr_succ {a b N : Nat} (h : CF a b N) {j m : Nat} (hj : j < N) (hm : m ≤ rr a b N j) : m + 1 ≤ 1000000 := by
  by_cases q : j = N - 1
  · have e : rr a b N j = tm a b j - 1 := if_pos q
    have h1 := tm_last1 h
    have h2 := tm_le h hj
    rw [← q] at h1
    omega
  · have e : rr a b N j = tm a b j := if_neg q
    have := tm_half h (j := j) (by omega)
    omega
theorem oA_le {a b N : Nat} (h : CF a b N) {k m : Nat} (hk : k ≤ N) (hm : m ≤ 1000000) : oA a b k m ≤ 1000001000000 ∧ oB a b k m ≤ 1000001000000 := by
  have hA1 := cA_le h (k := k + 1) (by omega)
  have hB1 := cB_le h (k := k + 1) (by omega)
  have hA0 := cA_le h (k := k) (by omega)
  have hB0 := cB_le h (k := k) (by omega)
  have ha := h.2.2.2.2
  have pA := Nat.mul_le_mul hm (show cA a b (k + 1) ≤ 1000000 by omega)
  have pB := Nat.mul_le_mul hm (show cB a b (k + 1) ≤ 1000000 by omega)
  unfold oA oB
  constructor <;> omega
theorem s_pos (a b k m : Nat) : 1 ≤ sRA a b k m ∧ 1 ≤ sLB a b k m := by
  have h := s_det a b k m
  have c1 : ((sLA a b k m * sRB a b k m : Nat) : Int) = (sLA a b k m : Int) * (sRB a b k m : Int) := Int.natCast_mul _ _
  constructor
  · rcases Nat.eq_zero_or_pos (sRA a b k m) with z | z
    · rw [z] at h; simp only [Int.natCast_zero, Int.zero_mul] at h; omega
    · exact z
  · rcases Nat.eq_zero_or_pos (sLB a b k m) with z | z
    · rw [z] at h; simp only [Int.natCast_zero, Int.mul_zero] at h; omega
    · exact z
theorem oA_pos (a b k m : Nat) : 1 ≤ oA a b k (m + 1) ∧ 1 ≤ oB a b k (m + 1) := by
  obtain ⟨h1, h2⟩ := s_sum a b k m
  obtain ⟨h3, h4⟩ := s_pos a b k m
  omega
def cutT (a b j m i : Nat) : Nat := if i = j then m + 1 else tm a b i
theorem kk_cut {a b j m x y : Nat} {k : Nat} (hk : k ≤ j + 1) : kk2 (cutT a b j m) x y k = kk2 (tm a b) x y k := kk2_congr k (fun i hi => if_neg (by omega))
theorem kk_cut2 {a b j m : Nat} : kk2 (cutT a b j m) 0 1 (j + 2) = oA a b j (m + 1) ∧ kk2 (cutT a b j m) 1 0 (j + 2) = oB a b j (m + 1) := by
  have e : cutT a b j m j = m + 1 := if_pos rfl
  constructor
  · show cutT a b j m j * kk2 (cutT a b j m) 0 1 (j + 1) + kk2 (cutT a b j m) 0 1 j = _
    rw [kk_cut (Nat.le_refl _), kk_cut (by omega), e]
    unfold oA cA; omega
  · show cutT a b j m j * kk2 (cutT a b j m) 1 0 (j + 1) + kk2 (cutT a b j m) 1 0 j = _
    rw [kk_cut (Nat.le_refl _), kk_cut (by omega), e]
    unfold oB cB; omega
theorem s1_cutConv {a b N : Nat} (h : CF a b N) {f : Nat → Int32} (hf : IsT a b N f) {j m : Nat} (hj : j < N) (hm : m ≤ rr a b N j) {x : Int32} (hx : x.toInt = ((m + 1 : Nat) : Int)) {v : Int32} (hv : v.toInt = (j : Int)) : (∀ post : Int64 → Prop, (∀ r : Int64, r.toInt = (oA a b j (m + 1) : Int) → post r) → w1_convergentTop (Int32.ofNat (j + 1)) (upd f j x) v post) ∧ (∀ post : Int64 → Prop, (∀ r : Int64, r.toInt = (oB a b j (m + 1) : Int) → post r) → w1_convergentBottom (Int32.ofNat (j + 1)) (upd f j x) v post) := by
  have hN := h.2.2.1
  have hm1 := rr_succ h hj hm
  have ha := h.2.2.2.2
  have e1 : ∀ i, i < j + 1 → (upd f j x i).toInt = (cutT a b j m i : Int) := by
    intro i hi
    unfold cutT
    by_cases q : i = j
    · rw [if_pos q, q, upd_eq, hx]
    · rw [if_neg q, upd_ne f x q, hf i (by omega)]
  have e2 : ∀ i, i < j + 1 → cutT a b j m i ≤ 1000000 := by
    intro i hi
    unfold cutT
    split
    · exact hm1
    · exact tm_le h (by omega)
  obtain ⟨o1, o2⟩ := oA_le h (k := j) (by omega) hm1
  obtain ⟨k1, k2⟩ := kk_cut2 (a := a) (b := b) (j := j) (m := m)
  have l0 : (0 : Int64).toInt = ((0 : Nat) : Int) := rfl
  have l1 : (1 : Int64).toInt = ((1 : Nat) : Int) := rfl
  constructor
  · intro post hp
    unfold w1_convergentTop
    refine s1_last e1 e2 (last := j + 1) (by rw [hv]; omega) (Nat.le_refl _) (by omega) l0 l1 (fun k hk => ?_) (fun r hr => hp r (by rw [hr, k1]))
    by_cases q : k = j + 2
    · rw [q, k1]; omega
    · rw [kk_cut (by omega)]
      have := cA_le h (k := k) (by omega)
      unfold cA at this; omega
  · intro post hp
    unfold w1_convergentBottom
    refine s1_last e1 e2 (last := j + 1) (by rw [hv]; omega) (Nat.le_refl _) (by omega) l1 l0 (fun k hk => ?_) (fun r hr => hp r (by rw [hr, k2]))
    by_cases q : k = j + 2
    · rw [q, k2]; omega
    · rw [kk_cut (by omega)]
      have := cB_le h (k := k) (by omega)
      unfold cB at this; omega
theorem ct7_L {a b N : Nat} (h : CF a b N) {f : Nat → Int32} (hf : IsT a b N f) {post : Int32 → (Nat → Int32) → Prop} : ∀ (n k left : Nat) (v i : Int32), k + n = N → v.toInt = (left : Int) → i.toInt = (k : Int) → 1 ≤ n → left ≤ sumN (fun i => rr a b N (k + i)) n → (∀ j m x, cutF (rr a b N) n k left = some (j, m) → j < N → m ≤ rr a b N j → x.toInt = ((m + 1 : Nat) : Int) → post (Int32.ofNat (j + 1)) (upd f j x)) → w1_cutToDepth_L4 (Int32.ofNat N) f post (n + 1) v i := by
  have hN := h.2.2.1
  have l1 : (1 : Int32).toInt = 1 := rfl
  have hNi : (Int32.ofNat N).toInt = (N : Int) := n_toInt (by omega)
  intro n
  induction n with
  | zero => intro k left v i _ _ _ h1; exact absurd h1 (by omega)
  | succ n ih =>
    intro k left v i hk hv hi _ hsum hp
    have hsh : sumN (fun i => rr a b N (k + i)) (n + 1) = rr a b N k + sumN (fun i => rr a b N (k + 1 + i)) n := by
      rw [sumN_shift]
      have e : (fun i => rr a b N (k + (i + 1))) = (fun i => rr a b N (k + 1 + i)) := by
        funext i; rw [show k + (i + 1) = k + 1 + i by omega]
      rw [e]; rfl
    rw [hsh] at hsum
    have hvr := i_range v
    rw [w1_cutToDepth_L4]
    refine ⟨fun q => absurd (i_le.mp q) (by omega), fun _ => s1_runAt h hf hi (by omega) (fun r hr => ⟨fun q x ex j ej => ?_, fun q => ⟨vin (by omega) (by omega), fun s es => ?_⟩⟩)⟩
    · have q := i_lt.mp q
      have hn : 1 ≤ n := by
        cases n with
        | zero => exact absurd hsum (by have : sumN (fun i => rr a b N (k + 1 + i)) 0 = 0 := rfl; omega)
        | succ n => omega
      refine ih (k + 1) (left - rr a b N k) x j (by omega) (by rw [ex, i_sub (by omega) (by omega), hv, hr]; omega) (nxt hi (by omega) ej) hn (by omega) (fun j m x hc => hp j m x ?_)
      rw [cutF, if_neg (by omega)]; exact hc
    · have q : ¬ r.toInt < v.toInt := fun w => q (i_lt.mpr w)
      have e : s = Int32.ofNat (k + 1) := i_ext (by rw [nxt hi (by omega) es, n_toInt (by omega)])
      have hmk := rr_succ h (j := k) (m := left) (by omega) (by omega)
      rw [e, natc hi]
      refine hp k left _ ?_ (by omega) (by omega) ?_
      · rw [cutF, if_pos (by omega)]
      · rw [i_add (by omega) (by omega), hv, l1]; omega
theorem s1_cut {a b N : Nat} (h : CF a b N) {f : Nat → Int32} (hf : IsT a b N f) {v : Int32} {left : Nat} (hv : v.toInt = (left : Int)) (hl : left ≤ dep a b N) {post : Int32 → (Nat → Int32) → Prop} (hp : ∀ j m x, cutF (rr a b N) N 0 left = some (j, m) → j < N → m ≤ rr a b N j → x.toInt = ((m + 1 : Nat) : Int) → post (Int32.ofNat (j + 1)) (upd f j x)) : w1_cutToDepth (Int32.ofNat N) f v post := by
  have hN1 := h.2.1
  refine ⟨N + 1, ct7_L h hf N 0 left v 0 (by omega) hv rfl hN1 ?_ hp⟩
  simp only [Nat.zero_add]
  exact hl
theorem sz_of {j : Nat} (h : j < 64) : (Int32.ofNat (j + 1) - 1).toInt = (j : Int) := by
  rw [szm1 (by omega) (by omega)]; omega
/-- cut there, and store -/
theorem s7_cutStore {a b N : Nat} (h : CF a b N) {f : Nat → Int32} (hf : IsT a b N f) {j m : Nat} (hj : j < N) (hm : m ≤ rr a b N j) {x : Int32} (hx : x.toInt = ((m + 1 : Nat) : Int)) {t u : Nat → Int32} {v : Int32} (hv : isR v) {post : Int32 → (Nat → Int32) → (Nat → Int32) → Prop} (hp : post (stR (oA a b j (m + 1)) (oB a b j (m + 1))) (stF t v (oA a b j (m + 1)) (oB a b j (m + 1)) (oA a b j (m + 1))) (stF u v (oA a b j (m + 1)) (oB a b j (m + 1)) (oB a b j (m + 1)))) : w1_size (Int32.ofNat (j + 1)) (fun r51 => w7_storeConvergent t u (Int32.ofNat (j + 1)) (upd f j x) v (r51 - 1) post) := by
  have hN := h.2.2.1
  obtain ⟨c1, c2⟩ := s1_cutConv h hf hj hm hx (v := Int32.ofNat (j + 1) - 1) (sz_of (by omega))
  obtain ⟨p1, p2⟩ := oA_pos a b j m
  unfold w1_size w7_storeConvergent
  exact c1 _ (fun P hP => c2 _ (fun Q hQ => s7_st hv hP hQ (by omega) (by omega) hp))
/-- how deep two paths go together, from term k on -/
def com (f g : Nat → Nat) (n1 n2 : Nat) : Nat → Nat → Nat
  | 0, _ => 0
  | n + 1, k => if k < n1 ∧ k < n2 then (if f k = g k then f k + com f g n1 n2 n (k + 1) else min (f k) (g k)) else 0
theorem com_le {f g : Nat → Nat} {n1 n2 : Nat} : ∀ (n k : Nat), com f g n1 n2 n k ≤ sumN (fun i => f (k + i)) (n1 - k) ∧ com f g n1 n2 n k ≤ sumN (fun i => g (k + i)) (n2 - k) := by
  intro n
  induction n with
  | zero => intro k; exact ⟨Nat.zero_le _, Nat.zero_le _⟩
  | succ n ih =>
    intro k
    rw [com]
    by_cases q : k < n1 ∧ k < n2
    · rw [if_pos q]
      have e1 : ∀ f : Nat → Nat, ∀ n1, k < n1 → sumN (fun i => f (k + i)) (n1 - k) = f k + sumN (fun i => f (k + 1 + i)) (n1 - (k + 1)) := by
        intro f n1 hk
        rw [show n1 - k = (n1 - (k + 1)) + 1 by omega, sumN_shift]
        have e : (fun i => f (k + (i + 1))) = (fun i => f (k + 1 + i)) := by
          funext i; rw [show k + (i + 1) = k + 1 + i by omega]
        rw [e]; rfl
      rw [e1 f n1 q.1, e1 g n2 q.2]
      obtain ⟨i1, i2⟩ := ih (k + 1)
      split
      · constructor <;> omega
      · constructor <;> omega
    · rw [if_neg q]; exact ⟨Nat.zero_le _, Nat.zero_le _⟩
theorem com_cut {a b N c d M : Nat} (h : CF a b N) (h2 : CF c d M) : ∀ (n k : Nat), k < N → k < M → ∃ j m, cutF (rr a b N) (N - k) k (com (rr a b N) (rr c d M) N M n k) = some (j, m) ∧ cutF (rr c d M) (M - k) k (com (rr a b N) (rr c d M) N M n k) = some (j, m) ∧ j < N ∧ j < M ∧ m ≤ rr a b N j ∧ m ≤ rr c d M j ∧ ∀ i, k ≤ i → i < j → tm a b i = tm c d i := by
  intro n
  induction n with
  | zero =>
    intro k k1 k2
    refine ⟨k, 0, ?_, ?_, k1, k2, Nat.zero_le _, Nat.zero_le _, fun i h1 h2 => absurd h1 (by omega)⟩
    · rw [show N - k = N - k - 1 + 1 by omega, cutF]; exact if_pos (Nat.zero_le _)
    · rw [show M - k = M - k - 1 + 1 by omega, cutF]; exact if_pos (Nat.zero_le _)
  | succ n ih =>
    intro k k1 k2
    rw [com, if_pos ⟨k1, k2⟩, show N - k = N - (k + 1) + 1 by omega, cutF, show M - k = M - (k + 1) + 1 by omega, cutF]
    by_cases q : rr a b N k = rr c d M k
    · rw [if_pos q]
      by_cases w : com (rr a b N) (rr c d M) N M n (k + 1) = 0
      · rw [w]
        exact ⟨k, rr a b N k + 0, if_pos (by omega), if_pos (by omega), k1, k2, by omega, by omega, fun i h1 h2 => absurd h1 (by omega)⟩
      · have hk : k + 1 < N ∧ k + 1 < M := by
          cases n with
          | zero => exact absurd rfl w
          | succ n =>
            rw [com] at w
            by_cases y : k + 1 < N ∧ k + 1 < M
            · exact y
            · rw [if_neg y] at w; exact absurd rfl w
        obtain ⟨j, m, c1, c2, c3, c4, c5, c6, c7⟩ := ih (k + 1) hk.1 hk.2
        refine ⟨j, m, ?_, ?_, c3, c4, c5, c6, fun i g1 g2 => ?_⟩
        · rw [if_neg (by omega), Nat.add_sub_cancel_left]; exact c1
        · rw [if_neg (by omega), q, Nat.add_sub_cancel_left]; exact c2
        · by_cases y : i = k
          · have e1 : rr a b N k = tm a b k := if_neg (by omega)
            have e2 : rr c d M k = tm c d k := if_neg (by omega)
            rw [y, ← e1, ← e2, q]
          · exact c7 i (by omega) g2
    · rw [if_neg q]
      exact ⟨k, min (rr a b N k) (rr c d M k), if_pos (by omega), if_pos (by omega), k1, k2, by omega, by omega, fun i h1 h2 => absurd h1 (by omega)⟩
theorem cA_congr {a b c d j : Nat} (h : ∀ i, i < j → tm a b i = tm c d i) : ∀ k, k ≤ j + 1 → cA a b k = cA c d k ∧ cB a b k = cB c d k := fun k hk => ⟨kk2_congr k (fun i hi => h i (by omega)), kk2_congr k (fun i hi => h i (by omega))⟩
theorem oA_congr {a b c d j m : Nat} (h : ∀ i, i < j → tm a b i = tm c d i) : oA a b j m = oA c d j m ∧ oB a b j m = oB c d j m := by
  obtain ⟨h1, h2⟩ := cA_congr h j (by omega)
  obtain ⟨h3, h4⟩ := cA_congr h (j + 1) (by omega)
  unfold oA oB
  rw [h1, h2, h3, h4]; exact ⟨rfl, rfl⟩
theorem com_small {f g : Nat → Nat} {n1 n2 C : Nat} (h : ∀ i, i < n1 → f i ≤ C) (n k : Nat) (hk : k = 0) : com f g n1 n2 n k ≤ C * n1 := by
  have := (com_le (f := f) (g := g) (n1 := n1) (n2 := n2) n k).1
  subst hk
  simp only [Nat.zero_add, Nat.sub_zero] at this
  exact Nat.le_trans this (sumN_le h)
theorem cs7_L {a b N c d M : Nat} (h : CF a b N) (h2 : CF c d M) {f g : Nat → Int32} (hf : IsT a b N f) (hg : IsT c d M g) {post : Int32 → Prop} : ∀ (n k acc : Nat) (v i : Int32), k + n = N → v.toInt = (acc : Int) → i.toInt = (k : Int) → acc + com (rr a b N) (rr c d M) N M n k ≤ 1000000000 → (∀ r : Int32, r.toInt = ((acc + com (rr a b N) (rr c d M) N M n k : Nat) : Int) → post r) → w1_commonSteps_L4 (Int32.ofNat N) f (Int32.ofNat M) g post (n + 1) v i := by
  have hN := h.2.2.1
  have hM := h2.2.2.1
  have hNi : (Int32.ofNat N).toInt = (N : Int) := n_toInt (by omega)
  have hMi : (Int32.ofNat M).toInt = (M : Int) := n_toInt (by omega)
  intro n
  induction n with
  | zero =>
    intro k acc v i hk hv hi hb hp
    rw [w1_commonSteps_L4]
    exact ⟨fun _ => hp v (by rw [hv]; rfl), fun q => absurd (i_le.mpr (by omega)) q⟩
  | succ n ih =>
    intro k acc v i hk hv hi hb hp
    rw [w1_commonSteps_L4]
    rw [com] at hb hp
    refine ⟨fun q => absurd (i_le.mp q) (by omega), fun _ => ⟨fun q => hp v ?_, fun q => ?_⟩⟩
    · have q := i_le.mp q
      rw [if_neg (by omega), hv]; rfl
    have q : ¬ (Int32.ofNat M).toInt ≤ i.toInt := fun w => q (i_le.mpr w)
    rw [if_pos (by omega)] at hb hp
    refine s1_runAt h hf hi (by omega) (fun r hr => s1_runAt h2 hg hi (by omega) (fun s hs => ⟨fun w x ex => ⟨fun y j ej => ?_, fun y => ?_⟩, fun w x ex => ⟨fun y j ej => ?_, fun y => ?_⟩⟩))
    · have e : rr a b N k = rr c d M k := by have := congrArg Int32.toInt y; omega
      rw [if_pos e] at hb hp
      refine ih (k + 1) (acc + rr a b N k) x j (by omega) ?_ (nxt hi (by omega) ej) (by omega) (fun r hr => hp r (by rw [hr]; congr 1; omega))
      rw [ex, i_add (by omega) (by omega), hv, hs]; omega
    · have w := i_le.mp w
      have e : ¬ rr a b N k = rr c d M k := fun z => y (i_ext (by omega))
      rw [if_neg e] at hb hp
      refine hp x ?_
      rw [ex, i_add (by omega) (by omega), hv, hs]; omega
    · have w : ¬ s.toInt ≤ r.toInt := fun z => w (i_le.mpr z)
      have := congrArg Int32.toInt y
      omega
    · have w : ¬ s.toInt ≤ r.toInt := fun z => w (i_le.mpr z)
      have e : ¬ rr a b N k = rr c d M k := by omega
      rw [if_neg e] at hb hp
      refine hp x ?_
      rw [ex, i_add (by omega) (by omega), hv, hr]; omega

theorem nl_add {X Y : Int64} {x y : Nat} (hX : X.toInt = (x : Int)) (hY : Y.toInt = (y : Int)) (h : x + y ≤ 9223372036854775807) : (X + Y).toInt = ((x + y : Nat) : Int) := by
  rw [l_add (by omega) (by omega), hX, hY]; omega
theorem nl_sub {X Y : Int64} {x y : Nat} (hX : X.toInt = (x : Int)) (hY : Y.toInt = (y : Int)) (h : y ≤ x) : (X - Y).toInt = ((x - y : Nat) : Int) := by
  have := l_range X
  rw [l_sub (by omega) (by omega), hX, hY]; omega
theorem nl_mul {X Y : Int64} {x y : Nat} (hX : X.toInt = (x : Int)) (hY : Y.toInt = (y : Int)) (h : x * y ≤ 9223372036854775807) : (X * Y).toInt = ((x * y : Nat) : Int) := by
  have c : ((x * y : Nat) : Int) = (x : Int) * (y : Int) := Int.natCast_mul _ _
  rw [l_mul (by rw [hX, hY, ← c]; omega) (by rw [hX, hY, ← c]; omega), hX, hY, c]
theorem nl_div {X Y : Int64} {x y : Nat} (hX : X.toInt = (x : Int)) (hY : Y.toInt = (y : Int)) (h : 0 < y) : (X / Y).toInt = ((x / y : Nat) : Int) := by
  rw [l_div (by omega) (by omega), hX, hY, Int.natCast_ediv]
theorem nl_lt {X Y : Int64} {x y : Nat} (hX : X.toInt = (x : Int)) (hY : Y.toInt = (y : Int)) : X < Y ↔ x < y := by rw [l_lt, hX, hY]; omega
theorem nl_le {X Y : Int64} {x y : Nat} (hX : X.toInt = (x : Int)) (hY : Y.toInt = (y : Int)) : X ≤ Y ↔ x ≤ y := by rw [l_le, hX, hY]; omega
theorem nl_eq {X Y : Int64} {x y : Nat} (hX : X.toInt = (x : Int)) (hY : Y.toInt = (y : Int)) : X = Y ↔ x = y := by rw [l_eq, hX, hY]; omega
theorem mul_lt3 {a b k : Nat} (h : a < b) (hk : 0 < k) : a * k < b * k := by
  have e : (a + 1) * k ≤ b * k := Nat.mul_le_mul_right k h
  rw [Nat.add_mul, Nat.one_mul] at e; omega
theorem nb_cross {p q a b c d : Nat} (h1 : a * q < p * b) (h2 : p * d < c * q) : a * d < c * b := by
  rcases Nat.lt_or_ge (a * d) (c * b) with h | h
  · exact h
  · exfalso
    have hb : 0 < b := by
      rcases Nat.eq_zero_or_pos b with z | z
      · rw [z, Nat.mul_zero] at h1; omega
      · exact z
    have e1 := Nat.mul_le_mul_left q h
    have e2 := Nat.mul_le_mul_right d (Nat.le_of_lt h1)
    have e3 := mul_lt3 h2 hb
    have n1 : q * (c * b) = c * q * b := by ac_rfl
    have n2 : q * (a * d) = a * q * d := by ac_rfl
    have n3 : p * d * b = p * b * d := by ac_rfl
    omega
theorem cop_det {a b c d : Nat} (h : c * b = a * d + 1) : Nat.gcd a b = 1 ∧ Nat.gcd c d = 1 := by
  constructor
  · have g1 : Nat.gcd a b ∣ c * b := Nat.dvd_trans (Nat.gcd_dvd_right a b) (Nat.dvd_mul_left b c)
    have g2 : Nat.gcd a b ∣ a * d := Nat.dvd_trans (Nat.gcd_dvd_left a b) (Nat.dvd_mul_right a d)
    rw [h] at g1
    exact Nat.dvd_one.mp ((Nat.dvd_add_right g2).mp g1)
  · have g1 : Nat.gcd c d ∣ c * b := Nat.dvd_trans (Nat.gcd_dvd_left c d) (Nat.dvd_mul_right c b)
    have g2 : Nat.gcd c d ∣ a * d := Nat.dvd_trans (Nat.gcd_dvd_right c d) (Nat.dvd_mul_left d a)
    rw [h] at g1
    exact Nat.dvd_one.mp ((Nat.dvd_add_right g2).mp g1)
theorem cop_eq {a b c d : Nat} (h1 : Nat.gcd a b = 1) (h2 : Nat.gcd c d = 1) (h : a * d = c * b) (hb : 0 < b) : a = c ∧ b = d := by
  have k1 : Nat.Coprime b a := by rw [Nat.coprime_iff_gcd_eq_one, Nat.gcd_comm]; exact h1
  have k2 : Nat.Coprime d c := by rw [Nat.coprime_iff_gcd_eq_one, Nat.gcd_comm]; exact h2
  have d1 : b ∣ d := k1.dvd_of_dvd_mul_left (by rw [h]; exact Nat.dvd_mul_left b c)
  have d2 : d ∣ b := k2.dvd_of_dvd_mul_left (by rw [← h]; exact Nat.dvd_mul_left d a)
  have e : b = d := Nat.dvd_antisymm d1 d2
  subst e
  exact ⟨Nat.eq_of_mul_eq_mul_right hb h, rfl⟩
theorem q7_y {P Q : Int64} {post : Int64 → Prop} (hQ : 0 < Q.toInt) (hp : post (P / Q)) : w7_quotient P Q post := by
  have l0 : (0 : Int64).toInt = 0 := rfl
  unfold w7_quotient
  exact ⟨fun z => absurd (l_le.mp z) (by omega), fun _ => ⟨fun z => by rw [z, l0] at hQ; omega, hp⟩⟩
/-- m / n lies strictly between p / q and r / s, and what else lies there has no smaller parts -/
def SM (p q r s m n : Nat) : Prop := p * n < m * q ∧ m * s < r * n ∧ ∀ x y, p * y < x * q → x * s < r * y → m ≤ x ∧ n ≤ y
theorem sm_uniq {p q r s m n m2 n2 : Nat} (h : SM p q r s m n) (k : SM p q r s m2 n2) : m = m2 ∧ n = n2 := by
  have h1 := h.2.2 m2 n2 k.1 k.2.1
  have h2 := k.2.2 m n h.1 h.2.1
  omega
theorem sm_pos {p q r s m n : Nat} (h : SM p q r s m n) : 1 ≤ m ∧ 1 ≤ n := by
  obtain ⟨h1, h2, _⟩ := h
  constructor
  · rcases Nat.eq_zero_or_pos m with z | z
    · rw [z, Nat.zero_mul] at h1; omega
    · exact z
  · rcases Nat.eq_zero_or_pos n with z | z
    · rw [z, Nat.mul_zero] at h2; omega
    · exact z
theorem sm_le {p q r s m n : Nat} (hc : p * s < r * q) (h : SM p q r s m n) : m ≤ p + r ∧ n ≤ q + s := by
  refine h.2.2 (p + r) (q + s) ?_ ?_
  · rw [Nat.mul_add, Nat.add_mul]; omega
  · rw [Nat.mul_add, Nat.add_mul]; omega
theorem cross_l {p q a b c d : Nat} (h1 : a * q ≤ p * b) (h2 : p * d < c * q) (hb : 0 < b) : a * d < c * b := by
  rcases Nat.lt_or_ge (a * d) (c * b) with h | h
  · exact h
  · exfalso
    have e1 := Nat.mul_le_mul_left q h
    have e2 := Nat.mul_le_mul_right d h1
    have e3 := mul_lt3 h2 hb
    have n1 : q * (c * b) = c * q * b := by ac_rfl
    have n2 : q * (a * d) = a * q * d := by ac_rfl
    have n3 : p * d * b = p * b * d := by ac_rfl
    omega
theorem cross_r {p q a b c d : Nat} (h1 : a * q < p * b) (h2 : p * d ≤ c * q) (hc : 0 < c) : a * d < c * b := by
  have hb : 0 < b := by
    rcases Nat.eq_zero_or_pos b with z | z
    · rw [z, Nat.mul_zero] at h1; omega
    · exact z
  rcases Nat.lt_or_ge (a * d) (c * b) with h | h
  · exact h
  · exfalso
    rcases Nat.eq_zero_or_pos d with z | z
    · have := Nat.mul_le_mul (show 1 ≤ c from hc) (show 1 ≤ b from hb)
      rw [z, Nat.mul_zero] at h; omega
    have e1 := Nat.mul_le_mul_left q h
    have e2 := mul_lt3 h1 z
    have e3 := Nat.mul_le_mul_right b h2
    have n1 : q * (c * b) = c * q * b := by ac_rfl
    have n2 : q * (a * d) = a * q * d := by ac_rfl
    have n3 : p * d * b = p * b * d := by ac_rfl
    omega
theorem sb_min {p q r s A B C D x y : Nat} (h1 : A * q ≤ p * B) (h2 : r * D ≤ C * s) (h3 : C * B = A * D + 1) (hx : p * y < x * q) (hy : x * s < r * y) : A + C ≤ x ∧ B + D ≤ y := by
  have hB : 0 < B := by
    rcases Nat.eq_zero_or_pos B with z | z
    · rw [z, Nat.mul_zero] at h3; omega
    · exact z
  have hC : 0 < C := by
    rcases Nat.eq_zero_or_pos C with z | z
    · rw [z, Nat.zero_mul] at h3; omega
    · exact z
  have k1 := cross_l h1 hx hB
  have k2 := cross_r hy h2 hC
  obtain ⟨u, hu⟩ : ∃ u, C * y = x * D + u := ⟨C * y - x * D, by omega⟩
  obtain ⟨w, hw⟩ : ∃ w, x * B = A * y + w := ⟨x * B - A * y, by omega⟩
  have hu' : (C : Int) * y = x * D + u := by exact_mod_cast hu
  have hw' : (x : Int) * B = A * y + w := by exact_mod_cast hw
  have h3' : (C : Int) * B = A * D + 1 := by exact_mod_cast h3
  have eu : (u : Int) = C * y - x * D := by omega
  have ew : (w : Int) = x * B - A * y := by omega
  have ex : x = A * u + C * w := by
    have : (x : Int) = A * u + C * w := by rw [eu, ew]; grind
    exact_mod_cast this
  have ey : y = B * u + D * w := by
    have : (y : Int) = B * u + D * w := by rw [eu, ew]; grind
    exact_mod_cast this
  have hu1 : 1 ≤ u := by omega
  have hw1 : 1 ≤ w := by omega
  have m1 := Nat.mul_le_mul_left A hu1
  have m2 := Nat.mul_le_mul_left C hw1
  have m3 := Nat.mul_le_mul_left B hu1
  have m4 := Nat.mul_le_mul_left D hw1
  omega
/-- one term -/
theorem sm_step {w b d e g m n : Nat} (hb : 0 < b) (h : SM d g b e m n) : SM (w * b + e) b (w * d + g) d (w * m + n) m := by
  obtain ⟨h1, h2, h3⟩ := h
  have c1 : (w * b + e) * m = w * b * m + e * m := Nat.add_mul _ _ _
  have c2 : (w * m + n) * b = w * m * b + n * b := Nat.add_mul _ _ _
  have c3 : (w * m + n) * d = w * m * d + n * d := Nat.add_mul _ _ _
  have c4 : (w * d + g) * m = w * d * m + g * m := Nat.add_mul _ _ _
  have d1 : w * b * m = w * m * b := by ac_rfl
  have d2 : w * d * m = w * m * d := by ac_rfl
  have d3 := Nat.mul_comm e m
  have d4 := Nat.mul_comm n b
  have d5 := Nat.mul_comm g m
  have d6 := Nat.mul_comm n d
  refine ⟨by omega, by omega, fun x y hx hy => ?_⟩
  have f1 : (w * b + e) * y = w * y * b + e * y := by rw [Nat.add_mul, show w * b * y = w * y * b by ac_rfl]
  have f2 : (w * d + g) * y = w * y * d + g * y := by rw [Nat.add_mul, show w * d * y = w * y * d by ac_rfl]
  have hz : w * y < x := by
    rcases Nat.lt_or_ge (w * y) x with z | z
    · exact z
    · have := Nat.mul_le_mul_right b z; omega
  obtain ⟨z, rfl⟩ : ∃ z, x = w * y + z := ⟨x - w * y, by omega⟩
  have f7 : (w * y + z) * b = w * y * b + z * b := Nat.add_mul _ _ _
  have f8 : (w * y + z) * d = w * y * d + z * d := Nat.add_mul _ _ _
  have f3 := Nat.mul_comm e y
  have f4 := Nat.mul_comm z b
  have f5 := Nat.mul_comm g y
  have f6 := Nat.mul_comm z d
  obtain ⟨g1, g2⟩ := h3 y z (by omega) (by omega)
  exact ⟨Nat.add_le_add (Nat.mul_le_mul_left w g1) g2, g1⟩
theorem sm_last {w a b c d : Nat} (hb : 0 < b) (hw1 : w * b ≤ a) (hw2 : a < (w + 1) * b) (hc : (w + 1) * d < c) : SM a b c d (w + 1) 1 := by
  refine ⟨by omega, by omega, fun x y hx hy => ?_⟩
  have hy1 : 1 ≤ y := by
    rcases Nat.eq_zero_or_pos y with z | z
    · rw [z, Nat.mul_zero] at hy; omega
    · exact z
  refine ⟨?_, hy1⟩
  rcases Nat.lt_or_ge w x with z | z
  · exact z
  · exfalso
    have e1 := Nat.mul_le_mul_right b z
    have e2 := Nat.mul_le_mul_left a hy1
    omega
theorem kk2_mono {t : Nat → Nat} {N x y : Nat} (ht : ∀ i, 1 ≤ i → i < N → 1 ≤ t i) : ∀ n k, 2 ≤ k → k + n = N + 1 → kk2 t x y k ≤ kk2 t x y (N + 1) := by
  intro n
  induction n with
  | zero => intro k h1 h2; rw [show k = N + 1 by omega]; exact Nat.le_refl _
  | succ n ih =>
    intro k h1 h2
    refine Nat.le_trans ?_ (ih (k + 1) (by omega) (by omega))
    obtain ⟨j, rfl⟩ : ∃ j, k = j + 2 := ⟨k - 2, by omega⟩
    show kk2 t x y (j + 2) ≤ t (j + 1) * kk2 t x y (j + 2) + kk2 t x y (j + 1)
    have := Nat.mul_le_mul_right (kk2 t x y (j + 2)) (ht (j + 1) (by omega) (by omega))
    omega
theorem bs1_L {p q r s : Nat} {post : Int32 → (Nat → Int32) → Prop} (hp : ∀ (N : Nat) (f : Nat → Int32) (t : Nat → Nat), 1 ≤ N → N ≤ 60 → (∀ i, i < N → (f i).toInt = (t i : Int)) → (∀ i, 1 ≤ i → i < N → 1 ≤ t i) → (∀ i, i < N → t i ≤ 1000000) → SM p q r s (kk2 t 0 1 (N + 1)) (kk2 t 1 0 (N + 1)) → post (Int32.ofNat N) f) : ∀ (n k i j a b c d : Nat) (t : Nat → Nat) (X1 X2 X3 X4 : Int64) (v : Int32) (f : Nat → Int32), X1.toInt = (a : Int) → X2.toInt = (b : Int) → X3.toInt = (c : Int) → X4.toInt = (d : Int) → v.toInt = (k : Int) → k + n ≤ 50 → i + j ≤ n → b < 2 ^ i → (c ≤ (a / b + 1) * d → c - a / b * d < 2 ^ j) → 1 ≤ a → 1 ≤ b → a * d < c * b → a ≤ 1000000 → b ≤ 1000000 → c ≤ 1000000 → d ≤ 1000000 → (d = 0 → a + 1 ≤ 1000000) → (1 ≤ k → b ≤ a) → (∀ i, i < k → (f i).toInt = (t i : Int)) → (∀ i, 1 ≤ i → i < k → 1 ≤ t i) → (∀ i, i < k → t i ≤ 1000000) → (∀ m n, SM a b c d m n → SM p q r s (kk2 t 0 1 (k + 1) * m + kk2 t 0 1 k * n) (kk2 t 1 0 (k + 1) * m + kk2 t 1 0 k * n)) → w1_becomeSimplestBetween_L25 post (n + 1) X1 X2 X3 X4 v (Int32.ofNat k) f := by
  have o1 : (1 : Int64).toInt = ((1 : Nat) : Int) := rfl
  have l1 : (1 : Int32).toInt = 1 := rfl
  have l64 : (64 : Int32).toInt = 64 := rfl
  intro n
  induction n with
  | zero =>
    intro k i j a b c d t X1 X2 X3 X4 v f _ _ _ _ _ _ hij hb _ _ hb1
    obtain rfl : i = 0 := by omega
    exact absurd hb (by rw [Nat.pow_zero]; omega)
  | succ n ih =>
    intro k i j a b c d t X1 X2 X3 X4 v f e1 e2 e3 e4 hv hkn hij hb hj ha1 hb1 hcr ha hb2 hc hd hd0 hba hf ht1 ht2 hS
    have hi : 1 ≤ i := by
      rcases Nat.eq_zero_or_pos i with z | z
      · rw [z, Nat.pow_zero] at hb; omega
      · exact z
    rw [w1_becomeSimplestBetween_L25]
    refine ⟨fun z => absurd (i_le.mp z) (by omega), fun _ => q7_y (by omega) ?_⟩
    have tw : (X1 / X2).toInt = ((a / b : Nat) : Int) := nl_div e1 e2 hb1
    have dl := Nat.div_le_self a b
    have dm := Nat.div_mul_le_self a b
    have da := Nat.div_add_mod a b
    have dlt := Nat.mod_lt a (show b > 0 from hb1)
    have dc := Nat.mul_comm b (a / b)
    have d1 : (a / b + 1) * b = a / b * b + b := by rw [Nat.add_mul, Nat.one_mul]
    have d2 : (a / b + 1) * d = a / b * d + d := by rw [Nat.add_mul, Nat.one_mul]
    have hw1 : 1 ≤ k → 1 ≤ a / b := fun z => Nat.div_pos (hba z) hb1
    generalize a / b = w at *
    have bw := Nat.mul_le_mul (show w + 1 ≤ 1000001 by omega) hd
    have bw2 := Nat.mul_le_mul (show w ≤ 1000000 by omega) hd
    have t1 : ((X1 / X2 + 1) * X4).toInt = (((w + 1) * d : Nat) : Int) := nl_mul (nl_add tw o1 (by omega)) e4 (by omega)
    have hwi : ((X1 / X2).toInt32).toInt = (w : Int) := by rw [l_i (by omega) (by omega), tw]
    have hsz : (Int32.ofNat k).toInt = (k : Int) := n_toInt (by omega)
    have hcd : w * d < c := by
      rcases Nat.lt_or_ge (w * d) c with z | z
      · exact z
      · exfalso
        have m1 := Nat.mul_le_mul_right b z
        have m2 := Nat.mul_le_mul_right d dm
        have n1 : w * d * b = w * b * d := by ac_rfl
        omega
    refine ⟨fun z => ?_, fun z => ?_⟩
    · have z := (nl_le e3 t1).mp z
      have hd1 : 1 ≤ d := by omega
      obtain ⟨e, he⟩ : ∃ e, a = w * b + e := ⟨a - w * b, by omega⟩
      obtain ⟨g, hg⟩ : ∃ g, c = w * d + g := ⟨c - w * d, by omega⟩
      unfold w1_append
      refine ⟨fun y => absurd (i_le.mp y) (by omega), fun _ => ⟨vin (by omega) (by omega), fun s es Y eY Z eZ u eu => ?_⟩⟩
      rw [ofN_1] at es
      rw [es, natc hsz]
      have tY : Y.toInt = (e : Int) := by rw [eY, nl_sub e1 (nl_mul tw e2 (by omega)) (by omega)]; omega
      have tZ : Z.toInt = (g : Int) := by rw [eZ, nl_sub e3 (nl_mul tw e4 (by omega)) (by omega)]; omega
      have hj := hj z
      have h2 : 2 ^ i = 2 * 2 ^ (i - 1) := by
        obtain ⟨i', rfl⟩ : ∃ i', i = i' + 1 := ⟨i - 1, by omega⟩
        rw [Nat.pow_succ, show i' + 1 - 1 = i' from rfl, Nat.mul_comm]
      have hg1 : 1 ≤ g := by omega
      have hw' : 1 ≤ d / g := Nat.div_pos (by omega) hg1
      refine ih (k + 1) j (i - 1) d g b e (fun x => if x = k then w else t x) X4 Z X2 Y u _ e4 tZ e2 tY (nxt hv (by omega) eu) (by omega) (by omega) (by omega) ?_ hd1 hg1 ?_ hd (by omega) hb2 (by omega) ?_ (fun _ => by omega) ?_ ?_ ?_ ?_
      · intro y
        have m1 := Nat.mul_le_mul_right e hw'
        have y' : (d / g + 1) * e = d / g * e + e := by rw [Nat.add_mul, Nat.one_mul]
        omega
      · rw [he, hg, Nat.add_mul, Nat.add_mul, show w * b * d = w * d * b by ac_rfl] at hcr
        have n1 := Nat.mul_comm d e
        have n2 := Nat.mul_comm b g
        omega
      · intro y
        have hwp : 1 ≤ w := by
          rcases Nat.eq_zero_or_pos w with x | x
          · rw [x, Nat.zero_mul] at he; omega
          · exact x
        have := Nat.mul_le_mul_right d hwp
        omega
      · intro x hx
        by_cases q1 : x = k
        · rw [q1, upd_eq, if_pos rfl]; exact hwi
        · rw [upd_ne _ _ q1, if_neg q1]; exact hf x (by omega)
      · intro x hx1 hx
        by_cases q1 : x = k
        · rw [if_pos q1]; exact hw1 (by omega)
        · rw [if_neg q1]; exact ht1 x hx1 (by omega)
      · intro x hx
        by_cases q1 : x = k
        · rw [if_pos q1]; omega
        · rw [if_neg q1]; exact ht2 x (by omega)
      · intro m n hmn
        have h5 := hS (w * m + n) m (by rw [he, hg]; exact sm_step hb1 hmn)
        have c0 : ∀ x y, kk2 (fun x => if x = k then w else t x) x y (k + 1) = kk2 t x y (k + 1) := fun x y => kk2_congr (k + 1) (fun i hi => if_neg (by omega))
        have c1 : ∀ x y, kk2 (fun x => if x = k then w else t x) x y (k + 1 + 1) = w * kk2 t x y (k + 1) + kk2 t x y k := fun x y => by
          show (if k = k then w else t k) * kk2 (fun x => if x = k then w else t x) x y (k + 1) + kk2 (fun x => if x = k then w else t x) x y k = _
          rw [if_pos rfl, c0, kk2_congr k (fun i hi => if_neg (by omega))]
        rw [c0, c0, c1, c1]
        have q1 : ∀ A B : Nat, (w * A + B) * m + A * n = A * (w * m + n) + B * m := fun A B => by
          rw [Nat.add_mul, Nat.mul_add, show w * A * m = A * (w * m) by ac_rfl]; omega
        rw [q1, q1]
        exact h5
    · have z : (w + 1) * d < c := by
        have : ¬ c ≤ (w + 1) * d := fun y => z ((nl_le e3 t1).mpr y)
        omega
      have hwl : w + 1 ≤ 1000000 := by
        rcases Nat.eq_zero_or_pos d with y | y
        · have := hd0 y; omega
        · have := Nat.mul_le_mul_left (w + 1) (show 1 ≤ d from y)
          omega
      unfold w1_append
      refine ⟨fun y => absurd (i_le.mp y) (by omega), fun _ => ⟨vin (by omega) (by omega), fun s es => ?_⟩⟩
      rw [ofN_1] at es
      rw [es, natc hsz]
      refine hp (k + 1) _ (fun x => if x = k then w + 1 else t x) (by omega) (by omega) ?_ ?_ ?_ ?_
      · intro x hx
        by_cases q1 : x = k
        · rw [q1, upd_eq, if_pos rfl, i_add (by omega) (by omega), hwi, l1]; push_cast; rfl
        · rw [upd_ne _ _ q1, if_neg q1]; exact hf x (by omega)
      · intro x hx1 hx
        by_cases q1 : x = k
        · rw [if_pos q1]; omega
        · rw [if_neg q1]; exact ht1 x hx1 (by omega)
      · intro x hx
        by_cases q1 : x = k
        · rw [if_pos q1]; exact hwl
        · rw [if_neg q1]; exact ht2 x (by omega)
      · have h5 := hS (w + 1) 1 (sm_last hb1 dm (by omega) z)
        have c0 : ∀ x y, kk2 (fun x => if x = k then w + 1 else t x) x y (k + 1) = kk2 t x y (k + 1) := fun x y => kk2_congr (k + 1) (fun i hi => if_neg (by omega))
        have c1 : ∀ x y, kk2 (fun x => if x = k then w + 1 else t x) x y (k + 1 + 1) = kk2 t x y (k + 1) * (w + 1) + kk2 t x y k * 1 := fun x y => by
          show (if k = k then w + 1 else t k) * kk2 (fun x => if x = k then w + 1 else t x) x y (k + 1) + kk2 (fun x => if x = k then w + 1 else t x) x y k = _
          rw [if_pos rfl, c0, kk2_congr k (fun i hi => if_neg (by omega)), Nat.mul_one, Nat.mul_comm]
        rw [c1, c1]
        exact h5
theorem s1_simplest {p q r s : Nat} (hp1 : 1 ≤ p) (hq1 : 1 ≤ q) (hs1 : 1 ≤ s) (hp2 : p ≤ 1000000) (hq2 : q ≤ 1000000) (hr2 : r ≤ 1000000) (hs2 : s ≤ 1000000) (hc : p * s < r * q) {sz : Int32} {f : Nat → Int32} {x1 x2 x3 x4 : Int32} (e1 : x1.toInt = (p : Int)) (e2 : x2.toInt = (q : Int)) (e3 : x3.toInt = (r : Int)) (e4 : x4.toInt = (s : Int)) {post : Int32 → (Nat → Int32) → Prop} (hp : ∀ (N : Nat) (f : Nat → Int32) (t : Nat → Nat), 1 ≤ N → N ≤ 60 → (∀ i, i < N → (f i).toInt = (t i : Int)) → (∀ i, 1 ≤ i → i < N → 1 ≤ t i) → (∀ i, i < N → t i ≤ 1000000) → SM p q r s (kk2 t 0 1 (N + 1)) (kk2 t 1 0 (N + 1)) → post (Int32.ofNat N) f) : w1_becomeSimplestBetween sz f x1 x2 x3 x4 post := by
  unfold w1_becomeSimplestBetween
  intro X1 E1 X2 E2 X3 E3 X4 E4
  refine ⟨40 + 1, bs1_L hp 40 0 20 20 p q r s (fun _ => 0) X1 X2 X3 X4 0 f (by rw [E1, t64, e1]) (by rw [E2, t64, e2]) (by rw [E3, t64, e3]) (by rw [E4, t64, e4]) rfl (by omega) (by omega) (by omega) (fun z => ?_) hp1 hq1 hc hp2 hq2 hr2 hs2 (fun z => by omega) (fun z => by omega) (fun i hi => absurd hi (by omega)) (fun i _ hi => absurd hi (by omega)) (fun i hi => absurd hi (by omega)) (fun m n hmn => ?_)⟩
  · rw [Nat.add_mul, Nat.one_mul] at z
    show r - p / q * s < 1048576
    omega
  · show SM p q r s (1 * m + 0 * n) (0 * m + 1 * n)
    rw [Nat.one_mul, Nat.zero_mul, Nat.zero_mul, Nat.one_mul, Nat.add_zero, Nat.zero_add]
    exact hmn
theorem s7_conv {N : Nat} {f : Nat → Int32} {t : Nat → Nat} (hN1 : 1 ≤ N) (hN : N ≤ 60) (hf : ∀ i, i < N → (f i).toInt = (t i : Int)) (ht1 : ∀ i, 1 ≤ i → i < N → 1 ≤ t i) (ht2 : ∀ i, i < N → t i ≤ 1000000) {m n : Nat} (hm : kk2 t 0 1 (N + 1) = m) (hn : kk2 t 1 0 (N + 1) = n) (hm1 : 1 ≤ m) (hn1 : 1 ≤ n) (hm2 : m ≤ 2000000000000) (hn2 : n ≤ 2000000000000) {tp bo : Nat → Int32} {v : Int32} (hv : isR v) {post : Int32 → (Nat → Int32) → (Nat → Int32) → Prop} (hp : post (stR m n) (stF tp v m n m) (stF bo v m n n)) : w7_storeConvergent tp bo (Int32.ofNat N) f v (Int32.ofNat N - 1) post := by
  have e1 : (Int32.ofNat N - 1).toInt = (N : Int) - 1 := szm1 hN1 (by omega)
  have l0 : (0 : Int64).toInt = ((0 : Nat) : Int) := rfl
  have l1 : (1 : Int64).toInt = ((1 : Nat) : Int) := rfl
  have hb : ∀ x y, x ≤ 1 → y ≤ 1 → kk2 t x y (N + 1) ≤ 2000000000000 → ∀ k, k ≤ N + 1 → kk2 t x y k ≤ 2000000000000 := by
    intro x y hx hy hl k hk
    rcases Nat.lt_or_ge k 2 with z | z
    · rcases (show k = 0 ∨ k = 1 by omega) with w | w
      · rw [w]; show x ≤ _; omega
      · rw [w]; show y ≤ _; omega
    · exact Nat.le_trans (kk2_mono ht1 (N + 1 - k) k z (by omega)) hl
  unfold w7_storeConvergent w1_convergentTop w1_convergentBottom
  refine s1_last hf ht2 e1 (Nat.le_refl _) (by omega) l0 l1 (hb 0 1 (by omega) (by omega) (by omega)) (fun P hP => s1_last hf ht2 e1 (Nat.le_refl _) (by omega) l1 l0 (hb 1 0 (by omega) (by omega) (by omega)) (fun Q hQ => ?_))
  rw [hm] at hP
  rw [hn] at hQ
  exact s7_st hv hP hQ (by omega) (by omega) hp
end
section
/-! two fractions, neither on the path of the other: their common ancestor is the simplest one between them -/
theorem com_cut2 {a b N c d M : Nat} (h : CF a b N) (h2 : CF c d M) : ∀ (n k : Nat), k < N → k < M → N ≤ k + n → ∃ j m, cutF (rr a b N) (N - k) k (com (rr a b N) (rr c d M) N M n k) = some (j, m) ∧ k ≤ j ∧ j < N ∧ j < M ∧ (∀ i, k ≤ i → i < j → tm a b i = tm c d i) ∧ com (rr a b N) (rr c d M) N M n k = sumN (fun i => tm a b (k + i)) (j - k) + m ∧ ((rr a b N j = m ∧ rr c d M j = m ∧ (j + 1 = N ∨ j + 1 = M)) ∨ (rr a b N j = m ∧ m < rr c d M j) ∨ (rr c d M j = m ∧ m < rr a b N j)) := by
  intro n
  induction n with
  | zero => intro k k1 k2 k3; exact absurd k3 (by omega)
  | succ n ih =>
    intro k k1 k2 k3
    rw [com, if_pos ⟨k1, k2⟩, show N - k = N - (k + 1) + 1 by omega, cutF]
    by_cases q : rr a b N k = rr c d M k
    · rw [if_pos q]
      by_cases w : com (rr a b N) (rr c d M) N M n (k + 1) = 0
      · rw [w]
        refine ⟨k, rr a b N k + 0, if_pos (by omega), Nat.le_refl _, k1, k2, fun i h1 h2 => absurd h1 (by omega), ?_, Or.inl ⟨by omega, by omega, ?_⟩⟩
        · rw [Nat.sub_self]
          show _ = 0 + _
          omega
        · rcases Nat.lt_or_ge (k + 1) N with x | x
          · rcases Nat.lt_or_ge (k + 1) M with y | y
            · exfalso
              obtain ⟨n', rfl⟩ : ∃ n', n = n' + 1 := ⟨n - 1, by omega⟩
              rw [com, if_pos ⟨x, y⟩] at w
              have p1 := rr_pos h (i := k + 1) (by omega) x
              have p2 := rr_pos h2 (i := k + 1) (by omega) y
              split at w <;> omega
            · right; omega
          · left; omega
      · have hk : k + 1 < N ∧ k + 1 < M := by
          cases n with
          | zero => exact absurd rfl w
          | succ n =>
            rw [com] at w
            by_cases y : k + 1 < N ∧ k + 1 < M
            · exact y
            · rw [if_neg y] at w; exact absurd rfl w
        obtain ⟨j, m, c1, c2, c3, c4, c5, c6, c7⟩ := ih (k + 1) hk.1 hk.2 (by omega)
        have e1 : rr a b N k = tm a b k := if_neg (by omega)
        have e2 : rr c d M k = tm c d k := if_neg (by omega)
        refine ⟨j, m, ?_, by omega, c3, c4, fun i g1 g2 => ?_, ?_, c7⟩
        · rw [if_neg (by omega), Nat.add_sub_cancel_left]; exact c1
        · by_cases y : i = k
          · rw [y, ← e1, ← e2, q]
          · exact c5 i (by omega) g2
        · rw [c6, show j - k = (j - (k + 1)) + 1 by omega, sumN_shift, e1]
          have e : (fun i => tm a b (k + (i + 1))) = (fun i => tm a b (k + 1 + i)) := by
            funext i; rw [show k + (i + 1) = k + 1 + i by omega]
          rw [e]; simp only [Nat.add_zero]; omega
    · rw [if_neg q]
      refine ⟨k, min (rr a b N k) (rr c d M k), if_pos (by omega), Nat.le_refl _, k1, k2, fun i h1 h2 => absurd h1 (by omega), ?_, ?_⟩
      · rw [Nat.sub_self]
        show _ = 0 + _
        omega
      · rcases Nat.lt_or_ge (rr a b N k) (rr c d M k) with x | x
        · exact Or.inr (Or.inl ⟨by omega, by omega⟩)
        · exact Or.inr (Or.inr ⟨by omega, by omega⟩)
theorem kk2_front (t : Nat → Nat) : ∀ n : Nat, (kk2 t 0 1 (n + 2) = t 0 * kk2 (fun i => t (i + 1)) 0 1 (n + 1) + kk2 (fun i => t (i + 1)) 1 0 (n + 1) ∧ kk2 t 1 0 (n + 2) = kk2 (fun i => t (i + 1)) 0 1 (n + 1)) ∧ (kk2 t 0 1 (n + 3) = t 0 * kk2 (fun i => t (i + 1)) 0 1 (n + 2) + kk2 (fun i => t (i + 1)) 1 0 (n + 2) ∧ kk2 t 1 0 (n + 3) = kk2 (fun i => t (i + 1)) 0 1 (n + 2)) := by
  intro n
  induction n with
  | zero =>
    refine ⟨⟨?_, ?_⟩, ?_, ?_⟩
    · show t 0 * 1 + 0 = t 0 * 1 + 0; rfl
    · show t 0 * 0 + 1 = 1; omega
    · show t 1 * (t 0 * 1 + 0) + 1 = t 0 * (t 1 * 1 + 0) + (t 1 * 0 + 1)
      have := Nat.mul_comm (t 0) (t 1)
      simp only [Nat.mul_one, Nat.add_zero, Nat.mul_zero, Nat.zero_add]; omega
    · show t 1 * (t 0 * 0 + 1) + 0 = t 1 * 1 + 0
      rw [Nat.mul_zero, Nat.zero_add]
  | succ n ih =>
    obtain ⟨⟨a1, a2⟩, b1, b2⟩ := ih
    refine ⟨⟨b1, b2⟩, ?_, ?_⟩
    · show t (n + 2) * kk2 t 0 1 (n + 3) + kk2 t 0 1 (n + 2) = t 0 * (t (n + 2) * kk2 (fun i => t (i + 1)) 0 1 (n + 2) + kk2 (fun i => t (i + 1)) 0 1 (n + 1)) + (t (n + 2) * kk2 (fun i => t (i + 1)) 1 0 (n + 2) + kk2 (fun i => t (i + 1)) 1 0 (n + 1))
      rw [a1, b1]
      have e := Nat.mul_left_comm (t (n + 2)) (t 0) (kk2 (fun i => t (i + 1)) 0 1 (n + 2))
      rw [Nat.mul_add, Nat.mul_add, e]; omega
    · show t (n + 2) * kk2 t 1 0 (n + 3) + kk2 t 1 0 (n + 2) = t (n + 2) * kk2 (fun i => t (i + 1)) 0 1 (n + 2) + kk2 (fun i => t (i + 1)) 0 1 (n + 1)
      rw [a2, b2]
/-- the terms are those of the fraction that they make -/
theorem kk2_cf : ∀ (n : Nat) (t : Nat → Nat), (∀ i, 1 ≤ i → i < n + 1 → 1 ≤ t i) → (1 ≤ n → 2 ≤ t n) → 1 ≤ t n → CFx (kk2 t 0 1 (n + 2)) (kk2 t 1 0 (n + 2)) (n + 1) ∧ rs (kk2 t 0 1 (n + 2)) (kk2 t 1 0 (n + 2)) (n + 1) = 1 ∧ (∀ i, i < n + 1 → tm (kk2 t 0 1 (n + 2)) (kk2 t 1 0 (n + 2)) i = t i) := by
  intro n
  induction n with
  | zero =>
    intro t h1 h2 h3
    have e1 : kk2 t 0 1 (0 + 2) = t 0 := by show t 0 * 1 + 0 = t 0; omega
    have e2 : kk2 t 1 0 (0 + 2) = 1 := by show t 0 * 0 + 1 = 1; omega
    rw [e1, e2]
    refine ⟨⟨fun i hi => ?_, ?_⟩, rfl, fun i hi => ?_⟩
    · obtain rfl : i = 0 := by omega
      exact Nat.one_pos
    · show t 0 % 1 = 0
      exact Nat.mod_one _
    · obtain rfl : i = 0 := by omega
      show t 0 / 1 = t 0
      exact Nat.div_one _
  | succ n ih =>
    intro t h1 h2 h3
    obtain ⟨⟨f1, f2⟩, -⟩ := kk2_front t (n + 1)
    obtain ⟨g1, g2, g3⟩ := ih (fun i => t (i + 1)) (fun i _ hi => h1 (i + 1) (by omega) (by omega)) (fun _ => h2 (by omega)) (by have := h2 (by omega); show 1 ≤ t (n + 1); omega)
    rw [show n + 1 + 2 = n + 3 from rfl] at f1 f2 ⊢
    rw [show n + 1 + 1 = n + 2 from rfl] at f1 f2 ⊢
    rw [f1, f2]
    generalize kk2 (fun i => t (i + 1)) 0 1 (n + 2) = p at *
    generalize kk2 (fun i => t (i + 1)) 1 0 (n + 2) = q at *
    have r0 : rs p q 0 = p := rfl
    have r1 : rs p q 1 = q := rfl
    have hqp : q < p := by
      have k0 := g3 0 (by omega)
      have k1 := rs_rec p q 0
      rw [r0, r1, k0] at k1
      have hq : 0 < q := by have := g1.1 0 (by omega); rw [r1] at this; exact this
      rcases Nat.eq_zero_or_pos n with z | z
      · subst z
        have e : q = 1 := g2
        have := h2 (by omega)
        have t1 : t (0 + 1) = t 1 := rfl
        rw [e] at k1
        simp only [Nat.mul_one] at k1
        omega
      · have p2 : 0 < rs p q (0 + 2) := g1.1 1 (by omega)
        have t1 := h1 1 (by omega) (by omega)
        have m1 := Nat.mul_le_mul_right q (show 1 ≤ t (0 + 1) from t1)
        omega
    have hmod : (t 0 * p + q) % p = q := by
      rw [Nat.add_comm, Nat.add_mul_mod_self_right, Nat.mod_eq_of_lt hqp]
    have hdiv : (t 0 * p + q) / p = t 0 := by
      rw [Nat.add_comm, Nat.add_mul_div_right _ _ (by omega), Nat.div_eq_of_lt hqp, Nat.zero_add]
    have hs : ∀ i, rs (t 0 * p + q) p (i + 1) = rs p q i := fun i => by rw [rs_shift, hmod]
    refine ⟨⟨fun i hi => ?_, ?_⟩, ?_, fun i hi => ?_⟩
    · rw [hs]
      cases i with
      | zero => rw [r0]; omega
      | succ i => exact g1.1 i (by omega)
    · rw [hs]; exact g1.2
    · rw [hs]; exact g2
    · cases i with
      | zero => exact hdiv
      | succ i =>
        show rs (t 0 * p + q) p (i + 1) / rs (t 0 * p + q) p (i + 1 + 1) = _
        rw [hs, hs]
        exact g3 i (by omega)
theorem sumN_congr {f g : Nat → Nat} : ∀ {n : Nat}, (∀ i, i < n → f i = g i) → sumN f n = sumN g n := by
  intro n
  induction n with
  | zero => intro _; rfl
  | succ n ih =>
    intro h
    show sumN f n + f n = sumN g n + g n
    rw [ih (fun i hi => h i (by omega)), h n (by omega)]
theorem anc_cf {a b N : Nat} (h : CF a b N) {j m : Nat} (hj : j < N) (hm : 1 ≤ j → 1 ≤ m) (hA : oA a b j (m + 1) ≤ 1000000) (hB : oB a b j (m + 1) ≤ 1000000) : CF (oA a b j (m + 1)) (oB a b j (m + 1)) (j + 1) ∧ dep (oA a b j (m + 1)) (oB a b j (m + 1)) (j + 1) = sumN (tm a b) j + m := by
  obtain ⟨k1, k2⟩ := kk_cut2 (a := a) (b := b) (j := j) (m := m)
  obtain ⟨p1, p2⟩ := oA_pos a b j m
  have cj : cutT a b j m j = m + 1 := if_pos rfl
  have hN := h.2.2.1
  obtain ⟨g1, g2, g3⟩ := kk2_cf j (cutT a b j m) (fun i h1 h2 => by
    unfold cutT
    split
    · omega
    · exact tm_pos h (by omega) (by omega)) (fun z => by rw [cj]; have := hm z; omega) (by rw [cj]; omega)
  rw [k1, k2] at g1 g2 g3
  refine ⟨⟨g1, by omega, by omega, g2, p1, hA, p2, hB⟩, ?_⟩
  show sumN (rr _ _ (j + 1)) j + rr _ _ (j + 1) j = _
  have e1 : rr (oA a b j (m + 1)) (oB a b j (m + 1)) (j + 1) j = m := by
    show (if j = j + 1 - 1 then _ else _) = m
    rw [if_pos (by omega), g3 j (by omega), cj]; omega
  have e2 : sumN (rr (oA a b j (m + 1)) (oB a b j (m + 1)) (j + 1)) j = sumN (tm a b) j := sumN_congr (fun i hi => by
    show (if i = j + 1 - 1 then _ else _) = _
    rw [if_neg (by omega), g3 i (by omega)]
    exact if_neg (by omega))
  rw [e1, e2]
/-- one of the two goes on to this side of the ancestor, the other one to that side -/
theorem side_core {P Q A B w g y z : Nat} (hd : P * B = A * Q + 1) (hg : 0 < g) (hz : 0 < z) : ((w + g) * A + w * P) * (y * (B + Q) + z * Q) < (y * (A + P) + z * P) * ((w + g) * B + w * Q) ∧ SM ((w + g) * A + w * P) ((w + g) * B + w * Q) (y * (A + P) + z * P) (y * (B + Q) + z * Q) (A + P) (B + Q) := by
  have hd' : (P : Int) * B = A * Q + 1 := by exact_mod_cast hd
  have e1 : (A + P) * ((w + g) * B + w * Q) = ((w + g) * A + w * P) * (B + Q) + g := by
    have : ((A : Int) + P) * ((w + g) * B + w * Q) = ((w + g) * A + w * P) * (B + Q) + g := by grind
    exact_mod_cast this
  have e2 : (y * (A + P) + z * P) * (B + Q) = (A + P) * (y * (B + Q) + z * Q) + z := by
    have : ((y : Int) * (A + P) + z * P) * (B + Q) = (A + P) * (y * (B + Q) + z * Q) + z := by grind
    exact_mod_cast this
  have e3 : ((w + g) * A + w * P) * B = A * ((w + g) * B + w * Q) + w := by
    have : (((w : Int) + g) * A + w * P) * B = A * ((w + g) * B + w * Q) + w := by grind
    exact_mod_cast this
  have e4 : P * (y * (B + Q) + z * Q) = (y * (A + P) + z * P) * Q + y := by
    have : (P : Int) * (y * (B + Q) + z * Q) = (y * (A + P) + z * P) * Q + y := by grind
    exact_mod_cast this
  have s1 : ((w + g) * A + w * P) * (B + Q) < (A + P) * ((w + g) * B + w * Q) := by omega
  have s2 : (A + P) * (y * (B + Q) + z * Q) < (y * (A + P) + z * P) * (B + Q) := by omega
  exact ⟨nb_cross s1 s2, s1, s2, fun x y' hx hy' => sb_min (by omega) (by omega) hd hx hy'⟩
theorem side_core2 {P Q A B w g y z : Nat} (hd : A * Q = P * B + 1) (hg : 0 < g) (hz : 0 < z) : (y * (A + P) + z * P) * ((w + g) * B + w * Q) < ((w + g) * A + w * P) * (y * (B + Q) + z * Q) ∧ SM (y * (A + P) + z * P) (y * (B + Q) + z * Q) ((w + g) * A + w * P) ((w + g) * B + w * Q) (A + P) (B + Q) := by
  have hd' : (A : Int) * Q = P * B + 1 := by exact_mod_cast hd
  have e1 : ((w + g) * A + w * P) * (B + Q) = (A + P) * ((w + g) * B + w * Q) + g := by
    have : (((w : Int) + g) * A + w * P) * (B + Q) = (A + P) * ((w + g) * B + w * Q) + g := by grind
    exact_mod_cast this
  have e2 : (A + P) * (y * (B + Q) + z * Q) = (y * (A + P) + z * P) * (B + Q) + z := by
    have : ((A : Int) + P) * (y * (B + Q) + z * Q) = (y * (A + P) + z * P) * (B + Q) + z := by grind
    exact_mod_cast this
  have e3 : A * ((w + g) * B + w * Q) = ((w + g) * A + w * P) * B + w := by
    have : (A : Int) * ((w + g) * B + w * Q) = ((w + g) * A + w * P) * B + w := by grind
    exact_mod_cast this
  have e4 : (y * (A + P) + z * P) * Q = P * (y * (B + Q) + z * Q) + y := by
    have : ((y : Int) * (A + P) + z * P) * Q = P * (y * (B + Q) + z * Q) + y := by grind
    exact_mod_cast this
  have s1 : (A + P) * ((w + g) * B + w * Q) < ((w + g) * A + w * P) * (B + Q) := by omega
  have s2 : (y * (A + P) + z * P) * (B + Q) < (A + P) * (y * (B + Q) + z * Q) := by omega
  refine ⟨nb_cross s2 s1, s2, s1, fun x y' hx hy' => ?_⟩
  have := sb_min (A := P) (B := Q) (C := A) (D := B) (by omega) (by omega) hd hx hy'
  omega
/-- the path of a / b ends its run j at m steps, that of c / d goes on -/
theorem anc_side {a b N c d M j m : Nat} (h : CF a b N) (h2 : CF c d M) (hj : j + 1 < N) (hj2 : j < M) (ht : ∀ i, i < j → tm a b i = tm c d i) (h3 : tm a b j = m) (h4 : m + 1 ≤ tm c d j) (hne : ¬ oA a b j (m + 1) * d = oB a b j (m + 1) * c) : (a * d < c * b ∧ SM a b c d (oA a b j (m + 1)) (oB a b j (m + 1))) ∨ (c * b < a * d ∧ SM c d a b (oA a b j (m + 1)) (oB a b j (m + 1))) := by
  obtain ⟨q1, q2⟩ := cA_congr ht (j + 1) (by omega)
  obtain ⟨q3, q4⟩ := cA_congr ht j (by omega)
  have a1 := cA_rs a b j
  have b1 := cB_rs a b j
  have c1 := cA_rs c d j
  have d1 := cB_rs c d j
  rw [← q1, ← q3] at c1
  rw [← q2, ← q4] at d1
  have u1 := rs_rec a b j
  have u2 := rs_rec c d j
  have u3 := rs_lt h.1 (i := j) (by omega)
  rw [h3] at u1
  obtain ⟨g, hg⟩ : ∃ g, rs a b (j + 1) = rs a b (j + 2) + g := ⟨rs a b (j + 1) - rs a b (j + 2), by omega⟩
  have m1 := Nat.mul_le_mul_right (rs c d (j + 1)) h4
  obtain ⟨z, hz⟩ : ∃ z, rs c d j = (m + 1) * rs c d (j + 1) + z := ⟨rs c d j - (m + 1) * rs c d (j + 1), by omega⟩
  have dt := cdet a b j
  have oa : oA a b j (m + 1) = oA a b j m + cA a b (j + 1) := by unfold oA; rw [Nat.add_mul, Nat.one_mul]; omega
  have ob : oB a b j (m + 1) = oB a b j m + cB a b (j + 1) := by unfold oB; rw [Nat.add_mul, Nat.one_mul]; omega
  have eA : oA a b j m = cA a b j + m * cA a b (j + 1) := rfl
  have eB : oB a b j m = cB a b j + m * cB a b (j + 1) := rfl
  rw [oa, ob] at hne ⊢
  rw [u1, hg] at a1 b1
  rw [hz] at c1 d1
  generalize oA a b j m = A at *
  generalize oB a b j m = B at *
  generalize cA a b (j + 1) = P at *
  generalize cB a b (j + 1) = Q at *
  generalize cA a b j = P1 at *
  generalize cB a b j = Q1 at *
  generalize rs a b (j + 2) = w at *
  generalize rs c d (j + 1) = y at *
  have ea : a = (w + g) * A + w * P := by
    rw [a1, eA]
    have : ((P : Int) * (m * (w + g) + w) + P1 * (w + g)) = (w + g) * (P1 + m * P) + w * P := by grind
    exact_mod_cast this
  have eb : b = (w + g) * B + w * Q := by
    rw [b1, eB]
    have : ((Q : Int) * (m * (w + g) + w) + Q1 * (w + g)) = (w + g) * (Q1 + m * Q) + w * Q := by grind
    exact_mod_cast this
  have ec : c = y * (A + P) + z * P := by
    rw [c1, eA]
    have : ((P : Int) * ((m + 1) * y + z) + P1 * y) = y * (P1 + m * P + P) + z * P := by grind
    exact_mod_cast this
  have ed : d = y * (B + Q) + z * Q := by
    rw [d1, eB]
    have : ((Q : Int) * ((m + 1) * y + z) + Q1 * y) = y * (Q1 + m * Q + Q) + z * Q := by grind
    exact_mod_cast this
  have hz1 : 0 < z := by
    rcases Nat.eq_zero_or_pos z with x | x
    · exfalso
      refine hne ?_
      rw [ec, ed, x, Nat.zero_mul, Nat.zero_mul, Nat.add_zero, Nat.add_zero, Nat.mul_left_comm, Nat.mul_left_comm (B + Q), Nat.mul_comm (A + P)]
    · exact x
  rw [ea, eb, ec, ed]
  rcases Nat.lt_or_ge 0 (j % 2) with x | x
  · rw [if_neg (by omega)] at dt
    refine Or.inr (side_core2 ?_ (by omega) hz1)
    have : (A : Int) * Q = P * B + 1 := by
      rw [eA, eB]; push_cast; grind
    exact_mod_cast this
  · rw [if_pos (by omega)] at dt
    refine Or.inl (side_core ?_ (by omega) hz1)
    have : (P : Int) * B = A * Q + 1 := by
      rw [eA, eB]; push_cast; grind
    exact_mod_cast this
theorem anc_le {a b N j m : Nat} (h : CF a b N) (hj : j < N) (hm : m ≤ rr a b N j) : oA a b j (m + 1) ≤ a ∧ oB a b j (m + 1) ≤ b := by
  rcases Nat.lt_or_ge (j + 1) N with x | x
  · have e : rr a b N j = tm a b j := if_neg (by omega)
    have a1 := cA_rs a b (j + 1)
    have b1 := cB_rs a b (j + 1)
    have r1 := rs_pos h (k := j + 1) (by omega)
    have r2 := rs_pos h (k := j + 2) (by omega)
    have a2 := Nat.mul_le_mul_left (cA a b (j + 2)) r1
    have a3 := Nat.mul_le_mul_left (cA a b (j + 1)) r2
    have b2 := Nat.mul_le_mul_left (cB a b (j + 2)) r1
    have b3 := Nat.mul_le_mul_left (cB a b (j + 1)) r2
    have m1 := Nat.mul_le_mul_right (cA a b (j + 1)) (show m ≤ tm a b j by omega)
    have m2 := Nat.mul_le_mul_right (cB a b (j + 1)) (show m ≤ tm a b j by omega)
    have k1 := cA_rec a b j
    have k2 := cB_rec a b j
    rw [show j + 1 + 1 = j + 2 from rfl] at a1 b1 
    unfold oA oB
    rw [Nat.add_mul, Nat.one_mul, Nat.add_mul, Nat.one_mul]
    constructor <;> omega
  · obtain rfl : j = N - 1 := by omega
    obtain ⟨_, h1, h2⟩ := rr_lastN h
    obtain ⟨h3, h4⟩ := oA_mono (a := a) (b := b) (k := N - 1) (show m + 1 ≤ rr a b N (N - 1) + 1 by omega)
    omega
theorem anc_cop (a b j m : Nat) : Nat.gcd (oA a b j (m + 1)) (oB a b j (m + 1)) = 1 := by
  have dt := s_det a b j m
  obtain ⟨s1, s2⟩ := s_sum a b j m
  rw [← s1, ← s2]
  have dt2 : (sRA a b j m + 0) * sLB a b j m = sLA a b j m * sRB a b j m + 1 := by
    have : (sRA a b j m : Int) * sLB a b j m = (sLA a b j m : Int) * sRB a b j m + 1 := by omega
    rw [Nat.add_zero]; exact_mod_cast this
  rw [Nat.add_zero] at dt2
  exact (cop_det (a := sLA a b j m) (b := sLB a b j m) (by rw [Nat.add_mul, Nat.mul_add]; omega)).2
theorem dep_lt {c d M j m : Nat} (h2 : CF c d M) (hj : j < M) (h : m < rr c d M j) : sumN (rr c d M) j + m < dep c d M := by
  have h1 : sumN (rr c d M) (j + 1) ≤ dep c d M := sumN_mono (by omega)
  have h3 : sumN (rr c d M) (j + 1) = sumN (rr c d M) j + rr c d M j := rfl
  omega
theorem dep_lt2 {a b N j m : Nat} (h : CF a b N) (hj : j + 1 < N) (hm : rr a b N j = m) : sumN (rr a b N) j + m < dep a b N := by
  have h1 : sumN (rr a b N) (j + 2) ≤ dep a b N := sumN_mono (by omega)
  have h3 : sumN (rr a b N) (j + 2) = sumN (rr a b N) j + rr a b N j + rr a b N (j + 1) := rfl
  have h4 := rr_pos h (i := j + 1) (by omega) hj
  omega
theorem sum_rr {a b N j : Nat} (hj : j < N) : sumN (rr a b N) j = sumN (tm a b) j := sumN_congr (fun i hi => if_neg (by omega))
theorem anc_main {a b N c d M : Nat} (h : CF a b N) (h2 : CF c d M) : ∃ j m, cutF (rr a b N) N 0 (com (rr a b N) (rr c d M) N M N 0) = some (j, m) ∧ oA a b j (m + 1) ≤ 1000000 ∧ oB a b j (m + 1) ≤ 1000000 ∧ (oA a b j (m + 1) * b = oB a b j (m + 1) * a ∨ oA a b j (m + 1) * d = oB a b j (m + 1) * c ∨ (∃ K, CF (oA a b j (m + 1)) (oB a b j (m + 1)) K ∧ dep (oA a b j (m + 1)) (oB a b j (m + 1)) K = com (rr a b N) (rr c d M) N M N 0 ∧ com (rr a b N) (rr c d M) N M N 0 < dep a b N ∧ com (rr a b N) (rr c d M) N M N 0 < dep c d M ∧ ((a * d < c * b ∧ SM a b c d (oA a b j (m + 1)) (oB a b j (m + 1))) ∨ (c * b < a * d ∧ SM c d a b (oA a b j (m + 1)) (oB a b j (m + 1)))))) := by
  have hN1 := h.2.1
  have hM1 := h2.2.1
  have ha := h.2.2.2.2
  obtain ⟨j, m, c1, -, c3, c4, c5, c6, c7⟩ := com_cut2 h h2 N 0 (by omega) (by omega) (by omega)
  rw [Nat.sub_zero] at c1 c6
  simp only [Nat.zero_add] at c6
  have c6 : com (rr a b N) (rr c d M) N M N 0 = sumN (tm a b) j + m := c6
  have ht : ∀ i, i < j → tm a b i = tm c d i := fun i hi => c5 i (by omega) hi
  obtain ⟨oe1, oe2⟩ := oA_congr (m := m + 1) ht
  have hmr : m ≤ rr a b N j ∧ m ≤ rr c d M j := by omega
  obtain ⟨l1, l2⟩ := anc_le h c3 hmr.1
  refine ⟨j, m, c1, by omega, by omega, ?_⟩
  -- at the end of one of them
  have endA : rr a b N j = m → j + 1 = N → oA a b j (m + 1) * b = oB a b j (m + 1) * a := fun e1 e2 => by
    obtain ⟨_, g1, g2⟩ := rr_lastN h
    rw [show N - 1 = j by omega, e1] at g1 g2
    rw [g1, g2, Nat.mul_comm]
  have endC : rr c d M j = m → j + 1 = M → oA a b j (m + 1) * d = oB a b j (m + 1) * c := fun e1 e2 => by
    obtain ⟨_, g1, g2⟩ := rr_lastN h2
    rw [show M - 1 = j by omega, e1] at g1 g2
    rw [oe1, oe2, g1, g2, Nat.mul_comm]
  have hsum : sumN (tm a b) j = sumN (tm c d) j := sumN_congr ht
  by_cases n1 : oA a b j (m + 1) * b = oB a b j (m + 1) * a
  · exact Or.inl n1
  by_cases n2 : oA a b j (m + 1) * d = oB a b j (m + 1) * c
  · exact Or.inr (Or.inl n2)
  have hmj : 1 ≤ j → 1 ≤ m := fun z => by
    have p1 := rr_pos h (i := j) (by omega) c3
    have p2 := rr_pos h2 (i := j) (by omega) c4
    omega
  obtain ⟨k1, k2⟩ := anc_cf h c3 hmj (by omega) (by omega)
  refine Or.inr (Or.inr ⟨j + 1, k1, by rw [k2, c6], ?_⟩)
  rcases c7 with ⟨e1, e2, e3⟩ | ⟨e1, e2⟩ | ⟨e1, e2⟩
  · rcases e3 with e3 | e3
    · exact absurd (endA e1 e3) n1
    · exact absurd (endC e2 e3) n2
  · have x : j + 1 < N := by
      have : ¬ j + 1 = N := fun q => n1 (endA e1 q)
      omega
    have f1 : tm a b j = m := by rw [← e1]; exact (if_neg (by omega)).symm
    have f2 : m + 1 ≤ tm c d j := by
      have : rr c d M j ≤ tm c d j := by
        unfold rr; split <;> omega
      omega
    have d1 := dep_lt2 h x e1
    have d2 := dep_lt h2 c4 e2
    rw [sum_rr c3] at d1
    rw [sum_rr c4] at d2
    exact ⟨by omega, by omega, anc_side h h2 x c4 ht f1 f2 n2⟩
  · have x : j + 1 < M := by
      have : ¬ j + 1 = M := fun q => n2 (endC e1 q)
      omega
    have f1 : tm c d j = m := by rw [← e1]; exact (if_neg (by omega)).symm
    have f2 : m + 1 ≤ tm a b j := by
      have : rr a b N j ≤ tm a b j := by
        unfold rr; split <;> omega
      omega
    have d1 := dep_lt2 h2 x e1
    have d2 := dep_lt h c3 e2
    rw [sum_rr c4] at d1
    rw [sum_rr c3] at d2
    have s := anc_side h2 h x c3 (fun i hi => (ht i hi).symm) f1 f2 (by rw [← oe1, ← oe2]; exact n1)
    rw [← oe1, ← oe2] at s
    exact ⟨by omega, by omega, s.symm⟩
end
section
/-! the five calls of the law, in numbers -/
def rg (t b : Nat → Int32) (i A B : Nat) : Prop := (t i).toInt = (A : Int) ∧ (b i).toInt = (B : Int)
theorem rg_ne {t b : Nat → Int32} {i A B k : Nat} {p q : Int32} (h : rg t b i A B) (hk : ¬ i = k) : rg (upd t k p) (upd b k q) i A B := by
  unfold rg
  rw [upd_ne _ _ hk, upd_ne _ _ hk]; exact h
theorem rg_eq {t b : Nat → Int32} {k A B : Nat} {p q : Int32} (h1 : p.toInt = (A : Int)) (h2 : q.toInt = (B : Int)) : rg (upd t k p) (upd b k q) k A B := by
  unfold rg
  rw [upd_eq, upd_eq]; exact ⟨h1, h2⟩
theorem sg_one {p q : Nat} (hg : Nat.gcd p q = 1) : sg (p : Int) (q : Int) = 1 := by
  unfold sg; rw [Int.toNat_natCast, Int.toNat_natCast, hg]; rfl
theorem st_cop {p q : Nat} (hp : p ≤ 1000000) (hq : q ≤ 1000000) (hg : Nat.gcd p q = 1) : stR (p : Int) (q : Int) = 1 ∧ ∀ (f : Nat → Int32) (v : Int32) (x : Int), stF f v p q x = upd f v.toNatClampNeg (Int32.ofInt x) := by
  have e := sg_one hg
  have hk : stOk (p : Int) (q : Int) := by
    unfold stOk
    rw [e, Int.ediv_one, Int.ediv_one]; omega
  refine ⟨if_pos hk, fun f v x => ?_⟩
  unfold stF
  rw [if_pos hk, e, Int.ediv_one]
theorem p_set {t b : Nat → Int32} {v x y : Int32} (hv : isR v) (hx : 1 ≤ x.toInt ∧ x.toInt ≤ 1000000) (hy : 1 ≤ y.toInt ∧ y.toInt ≤ 1000000) {post : Int32 → (Nat → Int32) → (Nat → Int32) → Prop} (hp : ∀ (A B N : Nat) (p q : Int32), CF A B N → p.toInt = (A : Int) → q.toInt = (B : Int) → post 1 (upd t v.toNatClampNeg p) (upd b v.toNatClampNeg q)) : w7_set t b v x y post := by
  unfold w7_set
  have a2 : (1 : Int32).toInt ≤ x.toInt ∧ x.toInt ≤ (1000000 : Int32).toInt := hx
  have a3 : (1 : Int32).toInt ≤ y.toInt ∧ y.toInt ≤ (1000000 : Int32).toInt := hy
  simp only [r7y hv, n7y a2, n7y a3, b01, b00, false_implies, true_implies, not_true_eq_false, not_false_eq_true, true_and, and_true]
  have p2 : 0 < x.toInt64.toInt := by rw [t64]; omega
  have p3 : 0 < y.toInt64.toInt := by rw [t64]; omega
  refine s7_store hv p2 p3 ?_
  have hg := sg_pos (q := y.toInt64.toInt) p2
  have hk : stOk x.toInt64.toInt y.toInt64.toInt := by
    have d1 := div_le_self' (a := x.toInt64.toInt) (by omega) hg
    have d2 := div_le_self' (a := y.toInt64.toInt) (by omega) hg
    rw [t64] at d1 d2
    unfold stOk
    rw [t64, t64] at *
    omega
  have gd := st_good p2 p3 hk
  obtain ⟨N, hC⟩ := CF_good gd
  unfold stR stF
  rw [if_pos hk, if_pos hk, if_pos hk]
  refine hp _ _ N _ _ hC ?_ ?_
  · have := gd.1; omega
  · have := gd.2.2.1; omega
theorem CF.pos {a b N : Nat} (h : CF a b N) : 1 ≤ a ∧ a ≤ 1000000 ∧ 1 ≤ b ∧ b ≤ 1000000 := h.2.2.2.2
theorem p_cross {t b : Nat → Int32} {v w : Int32} {A B C D : Nat} (h1 : rg t b v.toNatClampNeg A B) (h2 : rg t b w.toNatClampNeg C D) (hA : A ≤ 1000000) (hB : B ≤ 1000000) (hC : C ≤ 1000000) (hD : D ≤ 1000000) : ((t v.toNatClampNeg).toInt64 * (b w.toNatClampNeg).toInt64 - (b v.toNatClampNeg).toInt64 * (t w.toNatClampNeg).toInt64).toInt = ((A * D : Nat) : Int) - ((C * B : Nat) : Int) := by
  have m1 := Nat.mul_le_mul hA hD
  have m2 := Nat.mul_le_mul hB hC
  have a1 := nl_mul (X := (t v.toNatClampNeg).toInt64) (Y := (b w.toNatClampNeg).toInt64) (by rw [t64, h1.1]) (by rw [t64, h2.2]) (by omega : A * D ≤ _)
  have a2 := nl_mul (X := (b v.toNatClampNeg).toInt64) (Y := (t w.toNatClampNeg).toInt64) (by rw [t64, h1.2]) (by rw [t64, h2.1]) (by omega : B * C ≤ _)
  rw [l_sub (by omega) (by omega), a1, a2, Nat.mul_comm B C]
theorem p_compare {t b : Nat → Int32} {v w : Int32} (hv : isR v) (hw : isR w) {A B C D : Nat} (h1 : rg t b v.toNatClampNeg A B) (h2 : rg t b w.toNatClampNeg C D) (hA : A ≤ 1000000) (hB : B ≤ 1000000) (hC : C ≤ 1000000) (hD : D ≤ 1000000) {post : Int32 → Prop} (hp : ∀ r : Int32, (r = 0 ↔ A * D < C * B) → (r = 1 ↔ A * D = C * B) → post r) : w7_compare t b v w post := by
  unfold w7_compare w7_crossDifference
  simp only [r7y hv, r7y hw, b01, b00, false_implies, true_implies, not_true_eq_false, not_false_eq_true, true_and, and_true]
  have tx := p_cross h1 h2 hA hB hC hD
  have l0 : (0 : Int64).toInt = 0 := rfl
  generalize (t v.toNatClampNeg).toInt64 * (b w.toNatClampNeg).toInt64 - (b v.toNatClampNeg).toInt64 * (t w.toNatClampNeg).toInt64 = X at *
  refine ⟨hv.vin, hw.vin, hv.vin, hw.vin, fun z => ⟨fun y => hp 2 ?_ ?_, fun y => hp 1 ?_ ?_⟩, fun z => hp 0 ?_ ?_⟩
  · have z := l_le.mp z
    exact ⟨fun q => absurd q (by decide), fun q => by omega⟩
  · have y : ¬ X.toInt = 0 := fun q => y (l_eq.mpr (by omega))
    exact ⟨fun q => absurd q (by decide), fun q => by omega⟩
  · have y := congrArg Int64.toInt y
    exact ⟨fun q => absurd q (by decide), fun q => by omega⟩
  · have y := congrArg Int64.toInt y
    exact ⟨fun _ => by omega, fun _ => rfl⟩
  · have z : ¬ (0 : Int64).toInt ≤ X.toInt := fun q => z (l_le.mpr q)
    exact ⟨fun _ => by omega, fun _ => rfl⟩
  · have z : ¬ (0 : Int64).toInt ≤ X.toInt := fun q => z (l_le.mpr q)
    exact ⟨fun q => absurd q (by decide), fun q => by omega⟩
theorem p_depth {t b : Nat → Int32} {es : Int32} {et : Nat → Int32} {v : Int32} (hv : isR v) {A B N : Nat} (hC : CF A B N) (h : rg t b v.toNatClampNeg A B) {post : Int32 → Int32 → (Nat → Int32) → Prop} (hp : ∀ (r es2 : Int32) (et2 : Nat → Int32), r.toInt = (dep A B N : Int) → post r es2 et2) : w7_depth t b es et v post := by
  unfold w7_depth w7_expand
  simp only [r7y hv, b01, b00, false_implies, true_implies, not_true_eq_false, not_false_eq_true, true_and, and_true]
  exact ⟨hv.vin, hv.vin, s1_expand hC h.1 h.2 (fun f hf => s1_stepCount hC hf (fun r hr => hp r _ _ hr))⟩
def ancF (A B N C D M P Q r : Nat) : Prop := P * B = Q * A ∨ P * D = Q * C ∨ (∃ K, CF P Q K ∧ dep P Q K = r ∧ r < dep A B N ∧ r < dep C D M ∧ ((A * D < C * B ∧ SM A B C D P Q) ∨ (C * B < A * D ∧ SM C D A B P Q)))
theorem p_common {t b : Nat → Int32} {es os : Int32} {et ot : Nat → Int32} {u v w : Int32} (hu : isR u) (hv : isR v) (hw : isR w) {A B N C D M : Nat} (hC : CF A B N) (hD : CF C D M) (h1 : rg t b v.toNatClampNeg A B) (h2 : rg t b w.toNatClampNeg C D) {post : Int32 → (Nat → Int32) → (Nat → Int32) → Int32 → Int32 → (Nat → Int32) → (Nat → Int32) → Prop} (hp : ∀ (r : Int32) (n P Q : Nat) (p q es2 os2 : Int32) (et2 ot2 : Nat → Int32), r.toInt = (n : Int) → p.toInt = (P : Int) → q.toInt = (Q : Int) → P ≤ 1000000 → Q ≤ 1000000 → Nat.gcd P Q = 1 → ancF A B N C D M P Q n → post r (upd t u.toNatClampNeg p) (upd b u.toNatClampNeg q) es2 os2 et2 ot2) : w7_commonAncestor t b es os et ot u v w post := by
  unfold w7_commonAncestor w7_expand
  simp only [r7y hu, r7y hv, r7y hw, b01, b00, false_implies, true_implies, not_true_eq_false, not_false_eq_true, true_and, and_true]
  have hN := hC.2.2.1
  obtain ⟨j, m, c1, a1, a2, hF⟩ := anc_main hC hD
  have hle := com_le (f := rr A B N) (g := rr C D M) (n1 := N) (n2 := M) N 0
  simp only [Nat.zero_add, Nat.sub_zero] at hle
  have hle1 : com (rr A B N) (rr C D M) N M N 0 ≤ dep A B N := hle.1
  have hd1 : dep A B N ≤ 40000000 := dep_le hC (Nat.le_refl _)
  refine ⟨hv.vin, hv.vin, s1_expand hC h1.1 h1.2 (fun f hf => ⟨hw.vin, hw.vin, s1_expand hD h2.1 h2.2 (fun g hg => ⟨N + 1, ?_⟩)⟩)⟩
  refine cs7_L hC hD hf hg N 0 0 0 0 (by omega) rfl rfl (by omega) (fun r hr => ?_)
  rw [Nat.zero_add] at hr
  refine s1_cut hC hf hr hle1 (fun j' m' x hc hj hm hx => ?_)
  rw [c1] at hc
  cases hc
  obtain ⟨s1, s2⟩ := st_cop a1 a2 (anc_cop A B j m)
  refine s7_cutStore hC hf hj hm hx hu ?_
  rw [s2, s2]
  exact hp r _ _ _ _ _ _ _ _ _ hr (i_ofInt (by omega) (by omega)) (i_ofInt (by omega) (by omega)) a1 a2 (anc_cop A B j m) hF
theorem p_simplest {t b : Nat → Int32} {es : Int32} {et : Nat → Int32} {u v w : Int32} (hu : isR u) (hv : isR v) (hw : isR w) {p q r s N M : Nat} (hC : CF p q N) (hD : CF r s M) (h1 : rg t b v.toNatClampNeg p q) (h2 : rg t b w.toNatClampNeg r s) (hcr : p * s < r * q) {m n : Nat} (hS : SM p q r s m n) (hm : m ≤ 1000000) (hn : n ≤ 1000000) (hg : Nat.gcd m n = 1) {post : Int32 → (Nat → Int32) → (Nat → Int32) → Int32 → (Nat → Int32) → Prop} (hp : ∀ (x y es2 : Int32) (et2 : Nat → Int32), x.toInt = (m : Int) → y.toInt = (n : Int) → post 1 (upd t u.toNatClampNeg x) (upd b u.toNatClampNeg y) es2 et2) : w7_simplestBetween t b es et u v w post := by
  unfold w7_simplestBetween w7_crossDifference w1_size
  simp only [r7y hu, r7y hv, r7y hw, b01, b00, false_implies, true_implies, not_true_eq_false, not_false_eq_true, true_and, and_true]
  have hb := hC.pos
  have hd := hD.pos
  have o0 : (0 : Int64).toInt = 0 := rfl
  have tx := p_cross h1 h2 hb.2.1 hb.2.2.2 hd.2.1 hd.2.2.2
  generalize (t v.toNatClampNeg).toInt64 * (b w.toNatClampNeg).toInt64 - (b v.toNatClampNeg).toInt64 * (t w.toNatClampNeg).toInt64 = X at *
  refine ⟨hv.vin, hw.vin, hv.vin, hw.vin, fun _ => ?_, fun z => absurd (l_lt.mpr (by omega)) z⟩
  refine ⟨hv.vin, hv.vin, hw.vin, hw.vin, s1_simplest (by omega) (by omega) (by omega) (by omega) (by omega) (by omega) (by omega) hcr h1.1 h1.2 h2.1 h2.2 (fun K f t2 k1 k2 k3 k4 k5 hS2 => ?_)⟩
  obtain ⟨e1, e2⟩ := sm_uniq hS2 hS
  obtain ⟨g1, g2⟩ := sm_pos hS
  obtain ⟨s1, s2⟩ := st_cop hm hn hg
  refine s7_conv k1 k2 k3 k4 k5 e1 e2 g1 g2 (by omega) (by omega) hu ?_
  rw [s1, s2, s2]
  exact hp _ _ _ _ (i_ofInt (by omega) (by omega)) (i_ofInt (by omega) (by omega))
end
section
/-! static methods over the script: one shape for those that read it alone, one for the one that fills a register -/
def kX (b L : Nat) (xs : Nat → Int32) (av : List Value) : Array Value → State → Prop := va_Pc av (fun U => va_X b L xs U U.heap ∧ b < U.heap.size)
def kF (D : va_G) (tys : List (ClassId × FieldType)) (sz : Nat) (av : List Value) (wc : va_W) (b L : Nat) (xs : Nat → Int32) : Array Value → State → Prop := va_Pc av (fun U => U.heap.size = sz ∧ va_P D vwCl wc U.heap ∧ va_K D vwCl tys U ∧ va_D (fun _ => True) wc ∧ kN U ∧ va_X b L xs U U.heap ∧ b < U.heap.size)
section KX
variable {l : Launch} {y : MethodName} {ws ws' : List Cond} {cc : ByteArray} {maxL : Nat} {rm : Room} {D : va_G} {tys : List (ClassId × FieldType)} {sz : Nat} {av : List Value} {wc : va_W} {mc ms : Nat} {b L : Nat} {xs : Nat → Int32}
theorem kX_blind : FrameBlind (kX b L xs av) := fun a U g mk q => ⟨q.1, va_X.moved (u := U) (U := U.calling g mk a) (Vm.Alike.refl U.vm) q.2.1, q.2.2⟩
theorem kX_at {s : State} {H : Heap} (hX : va_X b L xs s H) (hbl : b < H.size) : ∀ U : State, U.heap = H → s.WarmedH U.vm → kX b L xs av av.toArray U := fun U hU hW => ⟨rfl, by rw [hU]; exact va_X.moved hW.alike hX, by rw [hU]; exact hbl⟩
theorem kF_blind : FrameBlind (kF D tys sz av wc b L xs) := fun a U g mk q => ⟨q.1, q.2.1, q.2.2.1, va_K.moved (u := U) (U := U.calling g mk a) (Vm.Alike.refl U.vm) q.2.2.2.1, q.2.2.2.2.1, kN.same (u := U) (U := U.calling g mk a) rfl q.2.2.2.2.2.1, va_X.moved (u := U) (U := U.calling g mk a) (Vm.Alike.refl U.vm) q.2.2.2.2.2.2.1, q.2.2.2.2.2.2.2⟩
theorem kF_at {s : State} {H : Heap} {A : Nat → Prop} (hP : va_P D vwCl wc H) (hD : va_D A wc) (hK : va_K D vwCl tys s) (hN : kN s) (hX : va_X b L xs s H) (hbl : b < H.size) : ∀ U : State, U.heap = H → s.WarmedH U.vm → kF D tys H.size av wc b L xs av.toArray U := fun U hU hW => ⟨rfl, by rw [hU], by rw [hU]; exact hP, va_K.moved hW.alike hK, hD.weaken (fun _ _ _ _ => trivial), hN.moved hW, by rw [hU]; exact va_X.moved hW.alike hX, by rw [hU]; exact hbl⟩
theorem kMetXI {post : Int32 → Prop} (hy : plainName y.cls = true) (hw : ws = Cond.code y cc maxL (some .int) :: ws') (hlen : (lg_sl av).length ≤ maxL)
    (body : ∀ (p : Program) (e : Env) (s : State) (m : MethodId) (args : Array Value) (below : List Frame) (meth : Method) (c : Code) (H : Heap) (ls : Array Slot) (Q : State → Prop), CallFix p m c cc maxL s args ws y.cls → va_X b L xs s H → b < H.size → lv_has ls maxL (lv_args 0 av) →
      (∀ (pc : Nat) (ls : Array Slot) (r : Int32), post r → decode cc pc = .ok (.ireturn, 1) → W p l e rm s m args below meth c H [] 0 0 Q (F0 m pc ls [.int r])) →
      W p l e rm s m args below meth c H [] 0 0 Q (F0 m 0 ls [])) : Met l y ws rm (kX b L xs av) (vp_Si post) 0 0 (fun _ => False) := by
  refine Met.ofW (cc := cc) (maxL := maxL) (ret := some .int) hy hw ?_
  intro p e s m args below meth c s₁ B hml hv
  obtain ⟨rfl, hX, hbl⟩ := hv
  have hlocks := B.notSynchronized
  have hown : s.vm.findClass y.cls = some m.cls := findClass_of_methodNamed B.named
  rw [lg_entry_eq]
  refine body p e s m _ below meth c s.heap _ _ ⟨B.exec, B.bytes, hml, hown, atoms_spec (ws := ws) B.pre⟩ hX hbl (lv_entry av hlen) ?_
  intro pc ls r hpost hdg
  exact W.iret (v := r) B.exec B.bytes B.returns (fun t ht hW => ⟨r, rfl, hpost, ht⟩) (fun _ h => by cases h) hdg
theorem kMetFZ {S : Type} {post : Int32 → S → Prop} {wB : S → va_W} (hy : plainName y.cls = true) (hw : ws = Cond.code y cc maxL (some .boolean) :: ws') (hlen : (lg_sl av).length ≤ maxL)
    (body : ∀ (p : Program) (e : Env) (s : State) (m : MethodId) (args : Array Value) (below : List Frame) (meth : Method) (c : Code) (H : Heap) (ls : Array Slot) (A : Nat → Prop) (Q : State → Prop), CallFix p m c cc maxL s args ws y.cls → va_K D vwCl tys s → kN s → va_P D vwCl wc H → va_D A wc → va_S A H H [] → (∀ q, H.size ≤ q → A q) → va_X b L xs s H → b < H.size → lv_has ls maxL (lv_args 0 av) →
      (∀ (pc : Nat) (ls : Array Slot) (r : Int32) (u : S) (H1 : Heap) (locs : List Loc), narrow .boolean (.int r) = .int r → post r u → va_P D vwCl (wB u) H1 → va_D A (wB u) → va_S A H H1 locs → decode cc pc = .ok (.ireturn, 1) → W p l e rm s m args below meth c H1 locs mc ms Q (F0 m pc ls [.int r])) →
      W p l e rm s m args below meth c H [] 0 0 Q (F0 m 0 ls [])) : Met l y ws rm (kF D tys sz av wc b L xs) (kQi D wc sz post wB) mc ms (va_A wc sz) := by
  refine Met.ofW (cc := cc) (maxL := maxL) (ret := some .boolean) hy hw ?_
  intro p e s m args below meth c s₁ B hml hv
  obtain ⟨rfl, hsz, hP, hK, hD0, hN, hX, hbl⟩ := hv
  have hlocks := B.notSynchronized
  have hown : s.vm.findClass y.cls = some m.cls := findClass_of_methodNamed B.named
  subst hsz
  have hD := hD0.self (sz := s.heap.size)
  rw [lg_entry_eq]
  refine body p e s m _ below meth c s.heap _ (va_A wc s.heap.size) _ ⟨B.exec, B.bytes, hml, hown, atoms_spec (ws := ws) B.pre⟩ hK hN hP hD va_S.rf (fun q h => Or.inr h) hX hbl (lv_entry av hlen) ?_
  intro pc ls r u H1 locs hnb hpost hP1 hD1 hS1 hdg
  exact W.zret (v := r) B.exec B.bytes B.returns hnb (fun t ht hW => ⟨⟨r, u, rfl, hpost, by show va_P _ _ _ t.heap; rw [ht]; exact hP1, hD1⟩, hS1.F ht⟩) hS1.2.2 hdg
end KX
section KXC
variable {p : Program} {l : Launch} {e : Env} {R : Room} {s : State} {m : MethodId} {args : Array Value} {below : List Frame} {meth : Method} {c : Code} {H : Heap} {locs : List Loc} {cells slots : Nat} {Q : State → Prop}
variable {y : MethodName} {bytes cc : ByteArray} {maxL nL mc ms index : Nat} {ret : Option FieldType} {ws ws' : List Cond} {rm : Room} {Qc : Array Value → State → Outcome → State → Prop} {free : Addr → Prop} {Ts : List Cond} {own : String} {As rest st0 : List Value} {pc : Nat} {ls : Array Slot} {D : va_G} {tys : List (ClassId × FieldType)} {wc : va_W} {A : Nat → Prop} {b L : Nat} {xs : Nat → Int32}
theorem oSX (S : CallFix p m c cc nL s args Ts own) (hX : va_X b L xs s H) (hbl : b < H.size) (hM : Met l y ws rm (kX b L xs As) Qc mc ms free) (n : Nat) (hG : GoodIn Ts (va_wsS own index y ws)) (hw : ws = Cond.code y bytes maxL ret :: ws') (hrc : rm.cells = mc ∧ rm.slots = ms) (hd : kNm y n) (hR : rm.frames + 1 ≤ R.frames ∧ 8 + (maxL + 11) + rm.locals ≤ R.locals)
    (hn : As.length = n) (hsize : ls.size = nL) (hst : st0 = As.reverse ++ rest) (hW : (rest.map fun v => v.category).sum ≤ 8) (hdg : decode cc pc = .ok (.invokestatic index, 3)) (hf : cells + mc ≤ R.cells ∧ slots + ms ≤ R.slots) : CallRun p l e R s m args below meth c H locs cells slots mc ms (F0 m pc ls st0) rest (Qc As.toArray) free :=
  (va_runS (As := As) (rest := rest) S hM (va_cwS n S.2.2.2.2 hG hw hrc.1 hrc.2 hd hR) ⟨kX_blind, kX_at hX hbl⟩ rfl hn hsize hst (lv_room hW) hdg hf).run
theorem rSF (S : CallFix p m c cc nL s args Ts own) (hK : va_K D vwCl tys s) (hN : kN s) (hX : va_X b L xs s H) (hbl : b < H.size) (hM : Met l y ws rm (kF D tys H.size As wc b L xs) Qc mc ms free) (n : Nat) (hG : GoodIn Ts (va_wsS own index y ws)) (hw : ws = Cond.code y bytes maxL ret :: ws') (hrc : rm.cells = mc ∧ rm.slots = ms) (hd : kNm y n) (hR : rm.frames + 1 ≤ R.frames ∧ 8 + (maxL + 11) + rm.locals ≤ R.locals)
    (hn : As.length = n) (hsize : ls.size = nL) (hst : st0 = As.reverse ++ rest) (hW : (rest.map fun v => v.category).sum ≤ 8) (hdg : decode cc pc = .ok (.invokestatic index, 3)) (hf : cells + mc ≤ R.cells ∧ slots + ms ≤ R.slots)
    (hPc : va_P D vwCl wc H) (hDc : va_D A wc) : va_Run p l e R s m args below meth c H locs cells slots mc ms (F0 m pc ls st0) rest (Qc As.toArray) free :=
  va_runS (As := As) (rest := rest) S hM (va_cwS n S.2.2.2.2 hG hw hrc.1 hrc.2 hd hR) ⟨kF_blind, kF_at hPc hDc hK hN hX hbl⟩ rfl hn hsize hst (lv_room hW) hdg hf
end KXC
theorem ushr3 (x : Int32) : 0 ≤ (x.toUInt32 >>> ((3 : Int32).toUInt32 &&& Int32.toUInt32 31)).toInt32.toInt := by
  have h3 : ((3 : Int32).toUInt32 &&& Int32.toUInt32 31) = 3 := by decide
  rw [h3]
  generalize x.toUInt32 = u
  have h1 : (u >>> 3).toNat = u.toNat / 8 := by
    rw [UInt32.toNat_shiftRight]
    show u.toNat >>> 3 = _
    rw [Nat.shiftRight_eq_div_pow]
  have h2 : u.toNat < 4294967296 := u.toNat_lt
  have h4 : (u >>> 3).toInt32.toInt = (u >>> 3).toBitVec.toInt := rfl
  have h5 : (u >>> 3).toBitVec.toNat = (u >>> 3).toNat := rfl
  rw [h4, BitVec.toInt_eq_toNat_of_lt (by rw [h5]; omega)]
  omega
theorem n_toI {k : Nat} (h : k < 2147483648) : (Int32.ofNat k).toInt = (k : Int) := Int32.toInt_ofNat_of_lt h
theorem n_inX {k L : Nat} (h : k < L) (hL : k < 2147483648) : vp_in (Int32.ofNat k) L := vin (by rw [n_toI hL]; omega) (by rw [n_toI hL]; omega)
end
section
/-! the law's own small methods -/
abbrev rmL_stirred : Room := { frames := 0, cells := 0, slots := 0, locals := 0 }
theorem nmL_stirred : kNm yL_stirred 1 := by decide +kernel
set_option maxHeartbeats 4000000 in
set_option maxRecDepth 100000 in
theorem kL_stirred (l : Launch) (b L : Nat) (xs : Nat → Int32)  (hL : L ≤ 1000) : Met l yL_stirred wsL_stirred rmL_stirred (kX b L xs [.ref b]) (vp_Si (fun _ => True)) 0 0 (fun _ => False) := by
  refine kMetXI (cc := cL_stirred) (maxL := 6) (by decide +kernel) rfl (Nat.le_of_ble_eq_true rfl) ?_
  intro p e s m args below meth c H ls Q C0 hX hbl hl RET
  obtain ⟨hx, hb, hml, hown, hts⟩ := id C0
  have hl : lv_has ls 6 [(0, .ref b)] := hl
  have EXIT : ∀ (h : Int32) (ls : Array Slot), lv_has ls 6 [(1, .int h)] → W p l e rmL_stirred s m args below meth c H [] 0 0 Q (F0 m 39 ls []) := by
    intro h ls hl
    refine lv_iload_n hx hb dL_stirred_39 rfl (lv_at hl 0 rfl) ?_
    refine lv_iload_n hx hb dL_stirred_40 rfl (lv_at hl 0 rfl) ?_
    refine lv_bipush (v := (15 : Int32)) hx hb dL_stirred_41 (by decide) ?_
    refine lv_iushr hx hb dL_stirred_43 rfl ?_
    refine lv_topi (fun x43 ex43 => ?_)
    refine lv_ixor hx hb dL_stirred_44 ?_
    refine lv_topi (fun x44 ex44 => ?_)
    refine lv_istore_n (lv' := [(1, .int x44)]) hx hb dL_stirred_45 rfl hl (by decide) rfl (fun ls hl => ?_)
    refine lv_iload_n hx hb dL_stirred_46 rfl (lv_at hl 0 rfl) ?_
    refine lv_iconst (v := (3 : Int32)) hx hb dL_stirred_47 (by decide) ?_
    refine lv_iand hx hb dL_stirred_48 ?_
    refine lv_topi (fun x48 ex48 => ?_)
    refine lv_if_ne (tgt := 56) hx hb dL_stirred_49 (by decide) (fun k49 => ?_) (fun k49 => ?_)
    · refine lv_iload_n hx hb dL_stirred_56 rfl (lv_at hl 0 rfl) ?_
      exact RET _ _ _ trivial dL_stirred_57
    · refine lv_iconst (v := (0 : Int32)) hx hb dL_stirred_52 (by decide) ?_
      refine lv_goto (tgt := 57) hx hb dL_stirred_53 (by decide) ?_
      exact RET _ _ _ trivial dL_stirred_57
  have LOOP : ∀ (n k : Nat) (h : Int32) (ls : Array Slot), k + n = L → lv_has ls 6 [(0, .ref b), (1, .int h), (2, .ref b), (3, .int (Int32.ofNat L)), (4, .int (Int32.ofNat k))] → W p l e rmL_stirred s m args below meth c H [] 0 0 Q (F0 m 13 ls []) := by
    intro n
    induction n with
    | zero =>
      intro k h ls hk hl
      refine lv_iload hx hb dL_stirred_13 (lv_at hl 4 rfl) ?_
      refine lv_iload_n hx hb dL_stirred_15 rfl (lv_at hl 3 rfl) ?_
      refine lv_icmp_ge (tgt := 39) hx hb dL_stirred_16 (by decide) (fun k16 => ?_) (fun k16 => ?_)
      · exact EXIT h ls (lv_sub hl [1] rfl)
      · exact absurd (i_le.mpr (by rw [n_toI (by omega), n_toI (by omega)]; omega)) k16
    | succ n ih =>
      intro k h ls hk hl
      refine lv_iload hx hb dL_stirred_13 (lv_at hl 4 rfl) ?_
      refine lv_iload_n hx hb dL_stirred_15 rfl (lv_at hl 3 rfl) ?_
      refine lv_icmp_ge (tgt := 39) hx hb dL_stirred_16 (by decide) (fun k16 => ?_) (fun k16 => ?_)
      · exact EXIT h ls (lv_sub hl [1] rfl)
      · refine lv_aload_n hx hb dL_stirred_19 rfl (lv_at hl 2 rfl) ?_
        refine lv_iload hx hb dL_stirred_20 (lv_at hl 4 rfl) ?_
        have hkL : k < L := by omega
        refine va_sld hx hb hX hbl (A := fun _ => False) id va_S.rf (n_inX hkL (by omega)) dL_stirred_22 ?_
        refine lv_topi (fun x22 ex22 => ?_)
        refine lv_istore (lv' := [(5, .int x22), (0, .ref b), (1, .int h), (2, .ref b), (3, .int (Int32.ofNat L)), (4, .int (Int32.ofNat k))]) hx hb dL_stirred_23 hl (by decide) rfl (fun ls hl => ?_)
        refine lv_iload_n hx hb dL_stirred_25 rfl (lv_at hl 2 rfl) ?_
        refine lv_iload hx hb dL_stirred_26 (lv_at hl 0 rfl) ?_
        refine lv_ixor hx hb dL_stirred_28 ?_
        refine lv_topi (fun x28 ex28 => ?_)
        refine lv_ldc (v := (16777619 : Int32)) hx hb hown (hts (.constant RL 7 (16777619)) (by decide +kernel)) dL_stirred_29 ?_
        refine lv_imul hx hb dL_stirred_31 ?_
        refine lv_topi (fun x31 ex31 => ?_)
        refine lv_istore_n (lv' := [(1, .int x31), (5, .int x22), (0, .ref b), (2, .ref b), (3, .int (Int32.ofNat L)), (4, .int (Int32.ofNat k))]) hx hb dL_stirred_32 rfl hl (by decide) rfl (fun ls hl => ?_)
        obtain ⟨x33, ex33⟩ : ∃ z : Int32, z = (Int32.ofNat k) + (1 : Int32) := ⟨_, rfl⟩
        refine lv_iinc (v := x33) (lv' := [(4, .int x33), (1, .int x31), (5, .int x22), (0, .ref b), (2, .ref b), (3, .int (Int32.ofNat L))]) hx hb dL_stirred_33 hl (k := 5) rfl (by rw [ex33]; rfl) (by decide) rfl (fun ls hl => ?_)
        refine lv_goto (tgt := 13) hx hb dL_stirred_36 (by decide) ?_
        have ek : x33 = Int32.ofNat (k + 1) := by rw [ex33]; exact (Int32.ofNat_add _ _).symm
        subst ek
        exact ih (k + 1) _ ls (by omega) (lv_sub hl [3, 1, 4, 5, 0] rfl)
  refine lv_aload_n hx hb dL_stirred_0 rfl (lv_at hl 0 rfl) ?_
  refine va_slen hx hb hX hbl (A := fun _ => False) id va_S.rf dL_stirred_1 ?_
  refine lv_iconst (v := (5 : Int32)) hx hb dL_stirred_2 (by decide) ?_
  refine lv_iadd hx hb dL_stirred_3 ?_
  refine lv_topi (fun x3 ex3 => ?_)
  refine lv_istore_n (lv' := [(1, .int x3), (0, .ref b)]) hx hb dL_stirred_4 rfl hl (by decide) rfl (fun ls hl => ?_)
  refine lv_aload_n hx hb dL_stirred_5 rfl (lv_at hl 1 rfl) ?_
  refine lv_astore_n (lv' := [(2, .ref b), (1, .int x3), (0, .ref b)]) hx hb dL_stirred_6 rfl hl (by decide) rfl (fun ls hl => ?_)
  refine lv_aload_n hx hb dL_stirred_7 rfl (lv_at hl 0 rfl) ?_
  refine va_slen hx hb hX hbl (A := fun _ => False) id va_S.rf dL_stirred_8 ?_
  refine lv_topi (fun x9 ex9 => ?_)
  refine lv_istore_n (lv' := [(3, .int x9), (2, .ref b), (1, .int x3), (0, .ref b)]) hx hb dL_stirred_9 rfl hl (by decide) rfl (fun ls hl => ?_)
  refine lv_iconst (v := (0 : Int32)) hx hb dL_stirred_10 (by decide) ?_
  refine lv_istore (lv' := [(4, .int (0 : Int32)), (3, .int x9), (2, .ref b), (1, .int x3), (0, .ref b)]) hx hb dL_stirred_11 hl (by decide) rfl (fun ls hl => ?_)
  subst ex9
  exact LOOP L 0 _ ls (by omega) (lv_sub hl [4, 3, 2, 1, 0] rfl)
abbrev rmL_cell : Room := { frames := 1, cells := 0, slots := 0, locals := 25 }
theorem nmL_cell : kNm yL_cell 2 := by decide +kernel
set_option maxHeartbeats 4000000 in
set_option maxRecDepth 100000 in
theorem kL_cell (l : Launch) (b L : Nat) (xs : Nat → Int32) (v1 : Int32) (hL : L ≤ 1000) (h1 : 0 ≤ v1.toInt) : Met l yL_cell wsL_cell rmL_cell (kX b L xs [.ref b, .int v1]) (vp_Si (fun _ => True)) 0 0 (fun _ => False) := by
  refine kMetXI (cc := cL_cell) (maxL := 3) (by decide +kernel) rfl (Nat.le_of_ble_eq_true rfl) ?_
  intro p e s m args below meth c H ls Q C0 hX hbl hl RET
  obtain ⟨hx, hb, hml, hown, hts⟩ := id C0
  have hl : lv_has ls 3 [(0, .ref b), (1, .int v1)] := hl
  refine lv_aload_n hx hb dL_cell_0 rfl (lv_at hl 0 rfl) ?_
  refine vp_callSi (oSX (As := [.ref b]) (rest := []) C0 hX hbl (kL_stirred l b L xs hL) 1 gL_cell_L_stirred rfl ⟨rfl, rfl⟩ nmL_stirred ⟨Nat.le_of_ble_eq_true rfl, Nat.le_of_ble_eq_true rfl⟩ rfl hl.1 rfl (Nat.le_of_ble_eq_true rfl) dL_cell_1 ⟨Nat.le_of_ble_eq_true rfl, Nat.le_of_ble_eq_true rfl⟩) (fun r1 hr1 => ?_)
  refine lv_istore_n (lv' := [(2, .int r1), (0, .ref b), (1, .int v1)]) hx hb dL_cell_4 rfl hl (by decide) rfl (fun ls hl => ?_)
  refine lv_iload_n hx hb dL_cell_5 rfl (lv_at hl 0 rfl) ?_
  refine lv_if_ne (tgt := 30) hx hb dL_cell_6 (by decide) (fun k6 => ?_) (fun k6 => ?_)
  · refine lv_iload_n hx hb dL_cell_30 rfl (lv_at hl 0 rfl) ?_
    refine lv_ldc (v := (40503 : Int32)) hx hb hown (hts (.constant RL 14 (40503)) (by decide +kernel)) dL_cell_31 ?_
    refine lv_iload_n hx hb dL_cell_33 rfl (lv_at hl 2 rfl) ?_
    refine lv_imul hx hb dL_cell_34 ?_
    refine lv_topi (fun x34 ex34 => ?_)
    refine lv_ixor hx hb dL_cell_35 ?_
    refine lv_topi (fun x35 ex35 => ?_)
    refine lv_ldc (v := (739982445 : Int32)) hx hb hown (hts (.constant RL 15 (739982445)) (by decide +kernel)) dL_cell_36 ?_
    refine lv_imul hx hb dL_cell_38 ?_
    refine lv_topi (fun x38 ex38 => ?_)
    refine lv_istore_n (lv' := [(2, .int x38), (0, .ref b), (1, .int v1)]) hx hb dL_cell_39 rfl hl (by decide) rfl (fun ls hl => ?_)
    refine lv_iload_n hx hb dL_cell_40 rfl (lv_at hl 0 rfl) ?_
    refine lv_iload_n hx hb dL_cell_41 rfl (lv_at hl 0 rfl) ?_
    refine lv_bipush (v := (12 : Int32)) hx hb dL_cell_42 (by decide) ?_
    refine lv_iushr hx hb dL_cell_44 rfl ?_
    refine lv_topi (fun x44 ex44 => ?_)
    refine lv_ixor hx hb dL_cell_45 ?_
    refine lv_topi (fun x45 ex45 => ?_)
    refine lv_ldc (v := (695872825 : Int32)) hx hb hown (hts (.constant RL 16 (695872825)) (by decide +kernel)) dL_cell_46 ?_
    refine lv_imul hx hb dL_cell_48 ?_
    refine lv_topi (fun x48 ex48 => ?_)
    refine lv_istore_n (lv' := [(2, .int x48), (0, .ref b), (1, .int v1)]) hx hb dL_cell_49 rfl hl (by decide) rfl (fun ls hl => ?_)
    refine lv_iload_n hx hb dL_cell_50 rfl (lv_at hl 0 rfl) ?_
    refine lv_iload_n hx hb dL_cell_51 rfl (lv_at hl 0 rfl) ?_
    refine lv_bipush (v := (15 : Int32)) hx hb dL_cell_52 (by decide) ?_
    refine lv_iushr hx hb dL_cell_54 rfl ?_
    refine lv_topi (fun x54 ex54 => ?_)
    refine lv_ixor hx hb dL_cell_55 ?_
    refine lv_topi (fun x55 ex55 => ?_)
    exact RET _ _ _ trivial dL_cell_56
  · refine lv_iload_n hx hb dL_cell_9 rfl (lv_at hl 2 rfl) ?_
    refine lv_aload_n hx hb dL_cell_10 rfl (lv_at hl 1 rfl) ?_
    refine va_slen hx hb hX hbl (A := fun _ => False) id va_S.rf dL_cell_11 ?_
    refine lv_icmp_ge (tgt := 21) hx hb dL_cell_12 (by decide) (fun k12 => ?_) (fun k12 => ?_)
    · refine lv_sipush (v := (6007 : Int32)) hx hb dL_cell_21 (by decide) ?_
      refine lv_iload_n hx hb dL_cell_24 rfl (lv_at hl 2 rfl) ?_
      refine lv_imul hx hb dL_cell_25 ?_
      refine lv_topi (fun x25 ex25 => ?_)
      refine lv_bipush (v := (41 : Int32)) hx hb dL_cell_26 (by decide) ?_
      refine lv_iadd hx hb dL_cell_28 ?_
      refine lv_topi (fun x28 ex28 => ?_)
      exact RET _ _ _ trivial dL_cell_29
    · refine lv_aload_n hx hb dL_cell_15 rfl (lv_at hl 1 rfl) ?_
      refine lv_iload_n hx hb dL_cell_16 rfl (lv_at hl 2 rfl) ?_
      have hv : v1.toInt < L := by have q := i_lt.mp (Int32.not_le.mp k12); rw [n_toI (by omega)] at q; exact q
      refine va_sld hx hb hX hbl (A := fun _ => False) id va_S.rf (vin h1 hv) dL_cell_17 ?_
      refine lv_topi (fun x17 ex17 => ?_)
      refine lv_goto (tgt := 29) hx hb dL_cell_18 (by decide) ?_
      exact RET _ _ _ trivial dL_cell_29
abbrev rmL_some : Room := { frames := 2, cells := 0, slots := 0, locals := 47 }
theorem nmL_some : kNm yL_some 3 := by decide +kernel
set_option maxHeartbeats 4000000 in
set_option maxRecDepth 100000 in
theorem kL_some (l : Launch) (b L : Nat) (xs : Nat → Int32) (v1 : Int32) (v2 : Int32) (hL : L ≤ 1000) (h1 : 0 ≤ v1.toInt) (h2 : 0 < v2.toInt) : Met l yL_some wsL_some rmL_some (kX b L xs [.ref b, .int v1, .int v2]) (vp_Si (fun r => 0 ≤ r.toInt ∧ r.toInt < v2.toInt)) 0 0 (fun _ => False) := by
  refine kMetXI (cc := cL_some) (maxL := 3) (by decide +kernel) rfl (Nat.le_of_ble_eq_true rfl) ?_
  intro p e s m args below meth c H ls Q C0 hX hbl hl RET
  obtain ⟨hx, hb, hml, hown, hts⟩ := id C0
  have hl : lv_has ls 3 [(0, .ref b), (1, .int v1), (2, .int v2)] := hl
  refine lv_aload_n hx hb dL_some_0 rfl (lv_at hl 0 rfl) ?_
  refine lv_iload_n hx hb dL_some_1 rfl (lv_at hl 1 rfl) ?_
  refine vp_callSi (oSX (As := [.ref b, .int v1]) (rest := []) C0 hX hbl (kL_cell l b L xs v1 hL h1) 2 gL_some_L_cell rfl ⟨rfl, rfl⟩ nmL_cell ⟨Nat.le_of_ble_eq_true rfl, Nat.le_of_ble_eq_true rfl⟩ rfl hl.1 rfl (Nat.le_of_ble_eq_true rfl) dL_some_2 ⟨Nat.le_of_ble_eq_true rfl, Nat.le_of_ble_eq_true rfl⟩) (fun r2 hr2 => ?_)
  refine lv_iconst (v := (3 : Int32)) hx hb dL_some_5 (by decide) ?_
  refine lv_iushr hx hb dL_some_6 rfl ?_
  refine lv_topi (fun x6 ex6 => ?_)
  refine lv_iload_n hx hb dL_some_7 rfl (lv_at hl 2 rfl) ?_
  have h6 : 0 ≤ x6.toInt := by rw [ex6]; exact ushr3 r2
  refine lv_irem hx hb dL_some_8 (fun q => by rw [q] at h2; exact absurd h2 (by decide)) ?_
  have h8 := i_rem h6 h2
  exact RET _ _ _ ⟨by rw [h8]; exact Int.emod_nonneg _ (by omega), by rw [h8]; exact Int.emod_lt_of_pos _ h2⟩ dL_some_9
abbrev rmL_size : Room := { frames := 3, cells := 0, slots := 0, locals := 69 }
theorem nmL_size : kNm yL_size 2 := by decide +kernel
set_option maxHeartbeats 4000000 in
set_option maxRecDepth 100000 in
theorem kL_size (l : Launch) (b L : Nat) (xs : Nat → Int32) (v1 : Int32) (hL : L ≤ 1000) (h1 : 0 ≤ v1.toInt) (h2 : v1.toInt < 1000) : Met l yL_size wsL_size rmL_size (kX b L xs [.ref b, .int v1]) (vp_Si (fun r => 1 ≤ r.toInt ∧ r.toInt ≤ 1000000)) 0 0 (fun _ => False) := by
  refine kMetXI (cc := cL_size) (maxL := 3) (by decide +kernel) rfl (Nat.le_of_ble_eq_true rfl) ?_
  intro p e s m args below meth c H ls Q C0 hX hbl hl RET
  obtain ⟨hx, hb, hml, hown, hts⟩ := id C0
  have hl : lv_has ls 3 [(0, .ref b), (1, .int v1)] := hl
  have l1 : (1 : Int32).toInt = 1 := rfl
  refine lv_aload_n hx hb dL_size_0 rfl (lv_at hl 0 rfl) ?_
  refine lv_iload_n hx hb dL_size_1 rfl (lv_at hl 1 rfl) ?_
  refine lv_iconst (v := (1 : Int32)) hx hb dL_size_2 (by decide) ?_
  refine lv_iadd hx hb dL_size_3 ?_
  refine lv_topi (fun x3 ex3 => ?_)
  refine lv_iconst (v := (4 : Int32)) hx hb dL_size_4 (by decide) ?_
  have h3 : 0 ≤ x3.toInt := by rw [ex3, i_add (by omega) (by omega)]; omega
  refine vp_callSi (oSX (As := [.ref b, .int x3, .int (4 : Int32)]) (rest := []) C0 hX hbl (kL_some l b L xs x3 (4 : Int32) hL h3 (by decide)) 3 gL_size_L_some rfl ⟨rfl, rfl⟩ nmL_some ⟨Nat.le_of_ble_eq_true rfl, Nat.le_of_ble_eq_true rfl⟩ rfl hl.1 rfl (Nat.le_of_ble_eq_true rfl) dL_size_5 ⟨Nat.le_of_ble_eq_true rfl, Nat.le_of_ble_eq_true rfl⟩) (fun r5 hr5 => ?_)
  have FIN : ∀ (n : Int32) (ls : Array Slot), 0 < n.toInt → n.toInt ≤ 1000000 → ls.size = 3 → W p l e rmL_size s m args below meth c H [] 0 0 Q (F0 m 44 ls [.int n, .int v1, .ref b, .int (1 : Int32)]) := by
    intro n ls hn hn2 hsz
    refine vp_callSi (oSX (As := [.ref b, .int v1, .int n]) (rest := [.int (1 : Int32)]) C0 hX hbl (kL_some l b L xs v1 n hL h1 hn) 3 gL_size_L_some rfl ⟨rfl, rfl⟩ nmL_some ⟨Nat.le_of_ble_eq_true rfl, Nat.le_of_ble_eq_true rfl⟩ rfl hsz rfl (Nat.le_of_ble_eq_true rfl) dL_size_44 ⟨Nat.le_of_ble_eq_true rfl, Nat.le_of_ble_eq_true rfl⟩) (fun r44 hr44 => ?_)
    refine lv_iadd hx hb dL_size_47 ?_
    have h9 : ((1 : Int32) + r44).toInt = 1 + r44.toInt := by rw [i_add (by omega) (by omega), l1]
    exact RET _ _ _ ⟨by rw [h9]; omega, by rw [h9]; omega⟩ dL_size_48
  refine lv_istore_n (lv' := [(2, .int r5), (0, .ref b), (1, .int v1)]) hx hb dL_size_8 rfl hl (by decide) rfl (fun ls hl => ?_)
  refine lv_iconst (v := (1 : Int32)) hx hb dL_size_9 (by decide) ?_
  refine lv_aload_n hx hb dL_size_10 rfl (lv_at hl 1 rfl) ?_
  refine lv_iload_n hx hb dL_size_11 rfl (lv_at hl 2 rfl) ?_
  refine lv_iload_n hx hb dL_size_12 rfl (lv_at hl 0 rfl) ?_
  refine lv_if_ne (tgt := 21) hx hb dL_size_13 (by decide) (fun k13 => ?_) (fun k13 => ?_)
  · refine lv_iload_n hx hb dL_size_21 rfl (lv_at hl 0 rfl) ?_
    refine lv_iconst (v := (1 : Int32)) hx hb dL_size_22 (by decide) ?_
    refine lv_icmp_ne (tgt := 31) hx hb dL_size_23 (by decide) (fun k23 => ?_) (fun k23 => ?_)
    · refine lv_iload_n hx hb dL_size_31 rfl (lv_at hl 0 rfl) ?_
      refine lv_iconst (v := (2 : Int32)) hx hb dL_size_32 (by decide) ?_
      refine lv_icmp_ne (tgt := 42) hx hb dL_size_33 (by decide) (fun k33 => ?_) (fun k33 => ?_)
      · refine lv_ldc (v := (1000000 : Int32)) hx hb hown (hts (.constant RL 25 (1000000)) (by decide +kernel)) dL_size_42 ?_
        exact FIN _ ls (by decide) (by decide) hl.1
      · refine lv_sipush (v := (900 : Int32)) hx hb dL_size_36 (by decide) ?_
        refine lv_goto (tgt := 44) hx hb dL_size_39 (by decide) ?_
        exact FIN _ ls (by decide) (by decide) hl.1
    · refine lv_bipush (v := (40 : Int32)) hx hb dL_size_26 (by decide) ?_
      refine lv_goto (tgt := 44) hx hb dL_size_28 (by decide) ?_
      exact FIN _ ls (by decide) (by decide) hl.1
  · refine lv_bipush (v := (6 : Int32)) hx hb dL_size_16 (by decide) ?_
    refine lv_goto (tgt := 44) hx hb dL_size_18 (by decide) ?_
    exact FIN _ ls (by decide) (by decide) hl.1
end
section
/-! fills: a register gets a fraction -/
abbrev LW3 (cI : ClassId) (rf : Nat → Nat) (tp bo : Nat → Int32) : va_W := [((rf 0), o7 rf 0 0 0), ((rf 1), ai cI 8 tp), ((rf 2), ai cI 8 bo)]
def fillP (tp bo : Nat → Int32) (v1 r : Int32) (u : (Nat → Int32) × (Nat → Int32)) : Prop := r = 1 ∧ ∃ (A B N : Nat) (p q : Int32), CF A B N ∧ p.toInt = (A : Int) ∧ q.toInt = (B : Int) ∧ u = (upd tp v1.toNatClampNeg p, upd bo v1.toNatClampNeg q)
abbrev rmL_fills : Room := { frames := 4, cells := 0, slots := 0, locals := 91 }
theorem nmL_fills : kNm yL_fills 4 := by decide +kernel
set_option maxHeartbeats 4000000 in
set_option maxRecDepth 100000 in
theorem kL_fills (l : Launch) (D : va_G) (cI cJ cN cR : ClassId) (rf : Nat → Nat) (sz b L : Nat) (xs : Nat → Int32) (tp bo : Nat → Int32) (v1 v3 : Int32) (hL : L ≤ 1000) (hv : isR v1) (h1 : 0 ≤ v3.toInt) (h2 : v3.toInt < 900) : Met l yL_fills wsL_fills rmL_fills (kF D (kT cI cJ cN cR) sz [.ref (rf 0), .int v1, .ref b, .int v3] (LW3 cI rf tp bo) b L xs) (kQi D (LW3 cI rf tp bo) sz (fun (r : Int32) (u : (Nat → Int32) × (Nat → Int32)) => narrow .boolean (.int r) = .int r ∧ fillP tp bo v1 r u) (fun (u : (Nat → Int32) × (Nat → Int32)) => LW3 cI rf u.1 u.2)) 0 0 (va_A (LW3 cI rf tp bo) sz) := by
  refine kMetFZ (cc := cL_fills) (maxL := 4) (by decide +kernel) rfl (Nat.le_of_ble_eq_true rfl) ?_
  intro p e s m args below meth c H0 ls A Q C0 hK hN hP hD hS hA hX hbl hl RET
  obtain ⟨hx, hb, hml, hown, hts⟩ := id C0
  have l2 : (2 : Int32).toInt = 2 := rfl
  have hl : lv_has ls 4 [(0, .ref (rf 0)), (1, .int v1), (2, .ref b), (3, .int v3)] := hl
  refine lv_aload_n hx hb dL_fills_0 rfl (lv_at hl 0 rfl) ?_
  refine lv_iload_n hx hb dL_fills_1 rfl (lv_at hl 1 rfl) ?_
  refine lv_aload_n hx hb dL_fills_2 rfl (lv_at hl 2 rfl) ?_
  refine lv_iload_n hx hb dL_fills_3 rfl (lv_at hl 3 rfl) ?_
  refine vp_callSi (oSX (As := [.ref b, .int v3]) (rest := [.int v1, .ref (rf 0)]) C0 hX hbl (kL_size l b L xs v3 hL h1 (by omega)) 2 gL_fills_L_size rfl ⟨rfl, rfl⟩ nmL_size ⟨Nat.le_of_ble_eq_true rfl, Nat.le_of_ble_eq_true rfl⟩ rfl hl.1 rfl (Nat.le_of_ble_eq_true rfl) dL_fills_4 ⟨Nat.le_of_ble_eq_true rfl, Nat.le_of_ble_eq_true rfl⟩) (fun r4 hr4 => ?_)
  refine lv_aload_n hx hb dL_fills_7 rfl (lv_at hl 2 rfl) ?_
  refine lv_iload_n hx hb dL_fills_8 rfl (lv_at hl 3 rfl) ?_
  refine lv_iconst (v := (2 : Int32)) hx hb dL_fills_9 (by decide) ?_
  refine lv_iadd hx hb dL_fills_10 ?_
  refine lv_topi (fun x10 ex10 => ?_)
  have h10 : x10.toInt = v3.toInt + 2 := by rw [ex10, i_add (by omega) (by omega), l2]
  refine vp_callSi (oSX (As := [.ref b, .int x10]) (rest := [.int r4, .int v1, .ref (rf 0)]) C0 hX hbl (kL_size l b L xs x10 hL (by omega) (by omega)) 2 gL_fills_L_size rfl ⟨rfl, rfl⟩ nmL_size ⟨Nat.le_of_ble_eq_true rfl, Nat.le_of_ble_eq_true rfl⟩ rfl hl.1 rfl (Nat.le_of_ble_eq_true rfl) dL_fills_11 ⟨Nat.le_of_ble_eq_true rfl, Nat.le_of_ble_eq_true rfl⟩) (fun r11 hr11 => ?_)
  refine kcI (wc := LW3 cI rf tp bo) (wr := []) hP hD hS hA [0, 1, 2] [] rfl rfl ⟨rfl, rfl, by decide⟩ (fun hPc hDc => rV (As := [.int v1, .int r4, .int r11]) (rest := []) C0 hK hN (c7_set l D cI cJ cN cR rf H0.size 0 0 0 tp bo v1 r4 r11 (fun r a c => fillP tp bo v1 r (a, c)) (p_set hv hr4 hr11 (fun A B N p q h1 h2 h3 => ⟨rfl, A, B, N, p, q, h1, h2, h3, rfl⟩))) 3 gL_fills_X7_set rfl ⟨rfl, rfl⟩ nm7_set ⟨Nat.le_of_ble_eq_true rfl, Nat.le_of_ble_eq_true rfl⟩ (q0 := 0) rfl rfl rfl rfl hl.1 rfl (Nat.le_of_ble_eq_true rfl) dL_fills_14 ⟨Nat.le_of_ble_eq_true rfl, Nat.le_of_ble_eq_true rfl⟩ hPc hDc) (fun r14 u14 H locs hw hP hD hS => ?_)
  have hw : fillP tp bo v1 r14 u14 := hw
  have hP : va_P D vwCl (LW3 cI rf u14.1 u14.2) H := hP
  have hD : va_D A (LW3 cI rf u14.1 u14.2) := hD
  refine lv_iconst (v := (1 : Int32)) hx hb dL_fills_17 (by decide) ?_
  refine lv_icmp_ne (tgt := 25) hx hb dL_fills_18 (by decide) (fun k18 => ?_) (fun k18 => ?_)
  · exact absurd hw.1 k18
  · refine lv_iconst (v := (1 : Int32)) hx hb dL_fills_21 (by decide) ?_
    refine lv_goto (tgt := 26) hx hb dL_fills_22 (by decide) ?_
    refine RET _ _ (1 : Int32) u14 _ _ rfl ?_ hP hD hS dL_fills_26
    rw [hw.1] at hw; exact ⟨rfl, hw⟩
end
section
/-! the law's loop -/
abbrev LW (cI : ClassId) (rf : Nat → Nat) (tp bo : Nat → Int32) (es os : Int32) (et ot : Nat → Int32) : va_W := [((rf 0), o7 rf 0 0 0), ((rf 1), ai cI 8 tp), ((rf 2), ai cI 8 bo), ((rf 14), o1 (rf 17) es 0 0 0 0), ((rf 15), o1 (rf 18) os 0 0 0 0), ((rf 17), ai cI 64 et), ((rf 18), ai cI 64 ot)]
abbrev LWr (cI : ClassId) (rf : Nat → Nat) (es os : Int32) (et ot : Nat → Int32) : va_W := [((rf 14), o1 (rf 17) es 0 0 0 0), ((rf 15), o1 (rf 18) os 0 0 0 0), ((rf 17), ai cI 64 et), ((rf 18), ai cI 64 ot)]
abbrev LWe (cI : ClassId) (rf : Nat → Nat) (tp bo : Nat → Int32) (es : Int32) (et : Nat → Int32) : va_W := [((rf 0), o7 rf 0 0 0), ((rf 1), ai cI 8 tp), ((rf 2), ai cI 8 bo), ((rf 14), o1 (rf 17) es 0 0 0 0), ((rf 17), ai cI 64 et)]
abbrev LWo (cI : ClassId) (rf : Nat → Nat) (os : Int32) (ot : Nat → Int32) : va_W := [((rf 15), o1 (rf 18) os 0 0 0 0), ((rf 18), ai cI 64 ot)]
def lwAt (p : Program) (l : Launch) (e : Env) (s : State) (m : MethodId) (b : Nat) (below : List Frame) (meth : Method) (c : Code) (D : va_G) (cI : ClassId) (rf : Nat → Nat) (i : Int32) (pc : Nat) : Prop := ∀ (tp bo : Nat → Int32) (es os : Int32) (et ot : Nat → Int32) (H : Heap) (locs : List Loc) (ls : Array Slot), va_P D vwCl (LW cI rf tp bo es os et ot) H → va_D (fun q : Nat => s.heap.size ≤ q) (LW cI rf tp bo es os et ot) → va_S (fun q : Nat => s.heap.size ≤ q) s.heap H locs → lv_has ls 5 [(0, .ref b), (1, .ref (rf 0)), (2, .int i)] → W p l e room_1 s m #[Value.ref b] below meth c H locs 23 2789 (lw_Z below #[Value.ref b] s) (F0 m pc ls [])
set_option maxHeartbeats 8000000 in
set_option maxRecDepth 100000 in
theorem law_tail {p : Program} {e : Env} {s : State} {m : MethodId} {below : List Frame} {meth : Method} {c : Code} {l : Launch} {D : va_G} {cI cJ cN cR : ClassId} {rf : Nat → Nat} {b L : Nat} {xs : Nat → Int32} (C0 : lw_At p s m meth c b L xs) (hK : va_K D vwCl (kT cI cJ cN cR) s) (hN : kN s) (hL : L ≤ 260) {i d lo : Int32} (NEXT : lwAt p l e s m b below meth c D cI rf i 148) {A B N C E M P Q K n : Nat} (hC : CF A B N) (hE : CF C E M) (hQ : CF P Q K) (hd : d.toInt = (n : Int)) (hn : dep P Q K = n) (hn1 : n < dep A B N) (hn2 : n < dep C E M) (tp bo : Nat → Int32) (es os : Int32) (et ot : Nat → Int32) (H : Heap) (locs : List Loc) (ls : Array Slot) (g0 : rg tp bo (0 : Int32).toNatClampNeg A B) (g1 : rg tp bo (1 : Int32).toNatClampNeg C E) (g2 : rg tp bo (2 : Int32).toNatClampNeg P Q) (g3 : rg tp bo (3 : Int32).toNatClampNeg P Q) (hP : va_P D vwCl (LW cI rf tp bo es os et ot) H) (hD : va_D (fun q : Nat => s.heap.size ≤ q) (LW cI rf tp bo es os et ot)) (hS : va_S (fun q : Nat => s.heap.size ≤ q) s.heap H locs) (hl : lv_has ls 5 [(4, .int d), (3, .int lo), (2, .int i), (1, .ref (rf 0)), (0, .ref b)]) : W p l e room_1 s m #[Value.ref b] below meth c H locs 23 2789 (lw_Z below #[Value.ref b] s) (F0 m 102 ls [.int (1 : Int32)]) := by
  obtain ⟨hx, hb, hr, hml, hown, hts0, hX, hbl, hlocks, hgv⟩ := id C0
  have hts : ∀ w ∈ wsL_law, w.before #[Value.ref b] s = true := fun w h => hts0 w (wsL_law_in w h)
  have S : CallFix p m c code 5 s #[.ref b] wsL_law RL := ⟨hx, hb, hml, hown, hts⟩
  have hA : ∀ q : Nat, s.heap.size ≤ q → (fun q : Nat => s.heap.size ≤ q) q := fun _ h => h
  have hbA : ¬ (fun q : Nat => s.heap.size ≤ q) b := Nat.not_le.mpr hbl
  have pq := hQ.pos
  refine lv_iconst (v := (1 : Int32)) hx hb dL_law_102 (by decide) ?_
  refine lv_icmp_ne (tgt := 146) hx hb dL_law_103 (by decide) (fun k103 => ?_) (fun k103 => ?_)
  · exact absurd rfl k103
  · refine lv_aload_n hx hb dL_law_106 rfl (lv_at hl 3 rfl) ?_
    refine lv_iconst (v := (2 : Int32)) hx hb dL_law_107 (by decide) ?_
    refine lv_iconst (v := (3 : Int32)) hx hb dL_law_108 (by decide) ?_
    refine kcRI (wc := LW3 cI rf tp bo) hP [0, 1, 2] rfl (fun hPc => oV (As := [.int (2 : Int32), .int (3 : Int32)]) (rest := []) S hK hN (c7_compare l D cI cJ cN cR rf 0 0 0 tp bo (2 : Int32) (3 : Int32) (fun r => (r = 0 ↔ P * Q < P * Q) ∧ (r = 1 ↔ P * Q = P * Q)) (p_compare (by unfold isR; decide) (by unfold isR; decide) g2 g3 pq.2.1 pq.2.2.2 pq.2.1 pq.2.2.2 (fun r x y => ⟨x, y⟩))) 2 gL_law_X7_compare rfl ⟨rfl, rfl⟩ nm7_compare ⟨Nat.le_of_ble_eq_true rfl, Nat.le_of_ble_eq_true rfl⟩ (q0 := 0) rfl rfl rfl rfl hl.1 rfl (Nat.le_of_ble_eq_true rfl) dL_law_109 ⟨Nat.le_of_ble_eq_true rfl, Nat.le_of_ble_eq_true rfl⟩ hPc) (fun r109 hr109 => ?_)
    refine lv_iconst (v := (1 : Int32)) hx hb dL_law_112 (by decide) ?_
    refine lv_icmp_ne (tgt := 146) hx hb dL_law_113 (by decide) (fun k113 => ?_) (fun k113 => ?_)
    · exact absurd (hr109.2.mpr rfl) k113
    · refine lv_aload_n hx hb dL_law_116 rfl (lv_at hl 3 rfl) ?_
      refine lv_iconst (v := (3 : Int32)) hx hb dL_law_117 (by decide) ?_
      refine kcI (wc := LWe cI rf tp bo es et) (wr := LWo cI rf os ot) hP hD hS hA [0, 1, 2, 3, 5] [4, 6] rfl rfl ⟨rfl, rfl, by decide⟩ (fun hPc hDc => rV (As := [.int (3 : Int32)]) (rest := []) S hK hN (c7_depth l D cI cJ cN cR rf H.size 0 0 0 tp bo es 0 0 0 0 et (3 : Int32) (fun (r es2 : Int32) (et2 : Nat → Int32) => r.toInt = (dep P Q K : Int)) (p_depth (by unfold isR; decide) hQ g3 (fun r _ _ h => h))) 1 gL_law_X7_depth rfl ⟨rfl, rfl⟩ nm7_depth ⟨Nat.le_of_ble_eq_true rfl, Nat.le_of_ble_eq_true rfl⟩ (q0 := 0) rfl rfl rfl rfl hl.1 rfl (Nat.le_of_ble_eq_true rfl) dL_law_118 ⟨Nat.le_of_ble_eq_true rfl, Nat.le_of_ble_eq_true rfl⟩ hPc hDc) (fun r118 u118 H locs hw hP hD hS => ?_)
      have hr118 : r118.toInt = (dep P Q K : Int) := hw
      clear hw
      obtain ⟨hP, hD⟩ := k_sub (ws' := LW cI rf tp bo u118.1 os u118.2 ot) hP hD [2, 3, 4, 5, 0, 6, 1] rfl rfl
      refine lv_iload hx hb dL_law_121 (lv_at hl 0 rfl) ?_
      refine lv_icmp_ne (tgt := 146) hx hb dL_law_123 (by decide) (fun k123 => ?_) (fun k123 => ?_)
      · exact absurd (i_ext (by omega)) k123
      · refine lv_iload hx hb dL_law_126 (lv_at hl 0 rfl) ?_
        refine lv_aload_n hx hb dL_law_128 rfl (lv_at hl 3 rfl) ?_
        refine lv_iconst (v := (0 : Int32)) hx hb dL_law_129 (by decide) ?_
        refine kcI (wc := LWe cI rf tp bo u118.1 u118.2) (wr := LWo cI rf os ot) hP hD hS hA [0, 1, 2, 3, 5] [4, 6] rfl rfl ⟨rfl, rfl, by decide⟩ (fun hPc hDc => rV (As := [.int (0 : Int32)]) (rest := [.int d]) S hK hN (c7_depth l D cI cJ cN cR rf H.size 0 0 0 tp bo u118.1 0 0 0 0 u118.2 (0 : Int32) (fun (r es2 : Int32) (et2 : Nat → Int32) => r.toInt = (dep A B N : Int)) (p_depth (by unfold isR; decide) hC g0 (fun r _ _ h => h))) 1 gL_law_X7_depth rfl ⟨rfl, rfl⟩ nm7_depth ⟨Nat.le_of_ble_eq_true rfl, Nat.le_of_ble_eq_true rfl⟩ (q0 := 0) rfl rfl rfl rfl hl.1 rfl (Nat.le_of_ble_eq_true rfl) dL_law_130 ⟨Nat.le_of_ble_eq_true rfl, Nat.le_of_ble_eq_true rfl⟩ hPc hDc) (fun r130 u130 H locs hw hP hD hS => ?_)
        have hr130 : r130.toInt = (dep A B N : Int) := hw
        clear hw
        obtain ⟨hP, hD⟩ := k_sub (ws' := LW cI rf tp bo u130.1 os u130.2 ot) hP hD [2, 3, 4, 5, 0, 6, 1] rfl rfl
        refine lv_icmp_ge (tgt := 146) hx hb dL_law_133 (by decide) (fun k133 => ?_) (fun k133 => ?_)
        · exact absurd (i_le.mp k133) (by omega)
        · refine lv_iload hx hb dL_law_136 (lv_at hl 0 rfl) ?_
          refine lv_aload_n hx hb dL_law_138 rfl (lv_at hl 3 rfl) ?_
          refine lv_iconst (v := (1 : Int32)) hx hb dL_law_139 (by decide) ?_
          refine kcI (wc := LWe cI rf tp bo u130.1 u130.2) (wr := LWo cI rf os ot) hP hD hS hA [0, 1, 2, 3, 5] [4, 6] rfl rfl ⟨rfl, rfl, by decide⟩ (fun hPc hDc => rV (As := [.int (1 : Int32)]) (rest := [.int d]) S hK hN (c7_depth l D cI cJ cN cR rf H.size 0 0 0 tp bo u130.1 0 0 0 0 u130.2 (1 : Int32) (fun (r es2 : Int32) (et2 : Nat → Int32) => r.toInt = (dep C E M : Int)) (p_depth (by unfold isR; decide) hE g1 (fun r _ _ h => h))) 1 gL_law_X7_depth rfl ⟨rfl, rfl⟩ nm7_depth ⟨Nat.le_of_ble_eq_true rfl, Nat.le_of_ble_eq_true rfl⟩ (q0 := 0) rfl rfl rfl rfl hl.1 rfl (Nat.le_of_ble_eq_true rfl) dL_law_140 ⟨Nat.le_of_ble_eq_true rfl, Nat.le_of_ble_eq_true rfl⟩ hPc hDc) (fun r140 u140 H locs hw hP hD hS => ?_)
          have hr140 : r140.toInt = (dep C E M : Int) := hw
          clear hw
          obtain ⟨hP, hD⟩ := k_sub (ws' := LW cI rf tp bo u140.1 os u140.2 ot) hP hD [2, 3, 4, 5, 0, 6, 1] rfl rfl
          refine lv_icmp_lt (tgt := 148) hx hb dL_law_143 (by decide) (fun k143 => ?_) (fun k143 => ?_)
          · exact NEXT tp bo u140.1 os u140.2 ot H locs ls hP hD hS (lv_sub hl [4, 3, 2] rfl)
          · exact absurd (i_lt.mpr (by omega)) k143
set_option maxHeartbeats 8000000 in
set_option maxRecDepth 100000 in
theorem law_mid {p : Program} {e : Env} {s : State} {m : MethodId} {below : List Frame} {meth : Method} {c : Code} {l : Launch} {D : va_G} {cI cJ cN cR : ClassId} {rf : Nat → Nat} {b L : Nat} {xs : Nat → Int32} (C0 : lw_At p s m meth c b L xs) (hK : va_K D vwCl (kT cI cJ cN cR) s) (hN : kN s) (hL : L ≤ 260) {i lo : Int32} (NEXT : lwAt p l e s m b below meth c D cI rf i 148) {A B N C E M : Nat} (hC : CF A B N) (hE : CF C E M) (hlo : (lo = 0 ∧ A * E < C * B) ∨ (lo = 1 ∧ ¬ A * E < C * B)) (tp bo : Nat → Int32) (es os : Int32) (et ot : Nat → Int32) (H : Heap) (locs : List Loc) (ls : Array Slot) (g0 : rg tp bo (0 : Int32).toNatClampNeg A B) (g1 : rg tp bo (1 : Int32).toNatClampNeg C E) (hP : va_P D vwCl (LW cI rf tp bo es os et ot) H) (hD : va_D (fun q : Nat => s.heap.size ≤ q) (LW cI rf tp bo es os et ot)) (hS : va_S (fun q : Nat => s.heap.size ≤ q) s.heap H locs) (hl : lv_has ls 5 [(2, .int i), (1, .ref (rf 0)), (0, .ref b)]) : W p l e room_1 s m #[Value.ref b] below meth c H locs 23 2789 (lw_Z below #[Value.ref b] s) (F0 m 60 ls [.int lo]) := by
  obtain ⟨hx, hb, hr, hml, hown, hts0, hX, hbl, hlocks, hgv⟩ := id C0
  have hts : ∀ w ∈ wsL_law, w.before #[Value.ref b] s = true := fun w h => hts0 w (wsL_law_in w h)
  have S : CallFix p m c code 5 s #[.ref b] wsL_law RL := ⟨hx, hb, hml, hown, hts⟩
  have hA : ∀ q : Nat, s.heap.size ≤ q → (fun q : Nat => s.heap.size ≤ q) q := fun _ h => h
  have hbA : ¬ (fun q : Nat => s.heap.size ≤ q) b := Nat.not_le.mpr hbl
  have bC := hC.pos
  have bE := hE.pos
  refine lv_istore_n (lv' := [(3, .int lo), (2, .int i), (1, .ref (rf 0)), (0, .ref b)]) hx hb dL_law_60 rfl hl (by decide) rfl (fun ls hl => ?_)
  refine lv_aload_n hx hb dL_law_61 rfl (lv_at hl 2 rfl) ?_
  refine lv_iconst (v := (2 : Int32)) hx hb dL_law_62 (by decide) ?_
  refine lv_iconst (v := (0 : Int32)) hx hb dL_law_63 (by decide) ?_
  refine lv_iconst (v := (1 : Int32)) hx hb dL_law_64 (by decide) ?_
  refine kcI (wc := LW cI rf tp bo es os et ot) (wr := []) hP hD hS hA [0, 1, 2, 3, 4, 5, 6] [] rfl rfl ⟨rfl, rfl, by decide⟩ (fun hPc hDc => rV (As := [.int (2 : Int32), .int (0 : Int32), .int (1 : Int32)]) (rest := []) S hK hN (c7_commonAncestor l D cI cJ cN cR rf H.size 0 0 0 tp bo es 0 0 0 0 os 0 0 0 0 et ot (2 : Int32) (0 : Int32) (1 : Int32) (fun (r : Int32) (t2 b2 : Nat → Int32) (_ _ : Int32) (_ _ : Nat → Int32) => ∃ (n P Q : Nat) (p q : Int32), r.toInt = (n : Int) ∧ p.toInt = (P : Int) ∧ q.toInt = (Q : Int) ∧ P ≤ 1000000 ∧ Q ≤ 1000000 ∧ Nat.gcd P Q = 1 ∧ ancF A B N C E M P Q n ∧ t2 = upd tp (2 : Int32).toNatClampNeg p ∧ b2 = upd bo (2 : Int32).toNatClampNeg q) (p_common (by unfold isR; decide) (by unfold isR; decide) (by unfold isR; decide) hC hE g0 g1 (fun r n P Q p q _ _ _ _ h1 h2 h3 h4 h5 h6 h7 => ⟨n, P, Q, p, q, h1, h2, h3, h4, h5, h6, h7, rfl, rfl⟩))) 3 gL_law_X7_commonAncestor rfl ⟨rfl, rfl⟩ nm7_commonAncestor ⟨Nat.le_of_ble_eq_true rfl, Nat.le_of_ble_eq_true rfl⟩ (q0 := 0) rfl rfl rfl rfl hl.1 rfl (Nat.le_of_ble_eq_true rfl) dL_law_65 ⟨Nat.le_of_ble_eq_true rfl, Nat.le_of_ble_eq_true rfl⟩ hPc hDc) (fun r65 u65 H locs hw hP hD hS => ?_)
  obtain ⟨t2, b2, es2, os2, et2, ot2⟩ := u65
  obtain ⟨n, P, Q, p65, q65, hn, hp, hq, hP6, hQ6, hg, hF, et9, eb9⟩ := hw
  have et9 : t2 = upd tp (2 : Int32).toNatClampNeg p65 := et9
  have eb9 : b2 = upd bo (2 : Int32).toNatClampNeg q65 := eb9
  subst et9
  subst eb9
  have hP : va_P D vwCl (LW cI rf (upd tp (2 : Int32).toNatClampNeg p65) (upd bo (2 : Int32).toNatClampNeg q65) es2 os2 et2 ot2) H := hP
  have hD : va_D (fun q : Nat => s.heap.size ≤ q) (LW cI rf (upd tp (2 : Int32).toNatClampNeg p65) (upd bo (2 : Int32).toNatClampNeg q65) es2 os2 et2 ot2) := hD
  have g0 : rg (upd tp (2 : Int32).toNatClampNeg p65) (upd bo (2 : Int32).toNatClampNeg q65) (0 : Int32).toNatClampNeg A B := rg_ne g0 (by decide)
  have g1 : rg (upd tp (2 : Int32).toNatClampNeg p65) (upd bo (2 : Int32).toNatClampNeg q65) (1 : Int32).toNatClampNeg C E := rg_ne g1 (by decide)
  have g2 : rg (upd tp (2 : Int32).toNatClampNeg p65) (upd bo (2 : Int32).toNatClampNeg q65) (2 : Int32).toNatClampNeg P Q := rg_eq hp hq
  refine lv_istore (lv' := [(4, .int r65), (3, .int lo), (2, .int i), (1, .ref (rf 0)), (0, .ref b)]) hx hb dL_law_68 hl (by decide) rfl (fun ls hl => ?_)
  refine lv_aload_n hx hb dL_law_70 rfl (lv_at hl 3 rfl) ?_
  refine lv_iconst (v := (2 : Int32)) hx hb dL_law_71 (by decide) ?_
  refine lv_iconst (v := (0 : Int32)) hx hb dL_law_72 (by decide) ?_
  refine kcRI (wc := LW3 cI rf (upd tp (2 : Int32).toNatClampNeg p65) (upd bo (2 : Int32).toNatClampNeg q65)) hP [0, 1, 2] rfl (fun hPc => oV (As := [.int (2 : Int32), .int (0 : Int32)]) (rest := []) S hK hN (c7_compare l D cI cJ cN cR rf 0 0 0 (upd tp (2 : Int32).toNatClampNeg p65) (upd bo (2 : Int32).toNatClampNeg q65) (2 : Int32) (0 : Int32) (fun r => (r = 0 ↔ P * B < A * Q) ∧ (r = 1 ↔ P * B = A * Q)) (p_compare (by unfold isR; decide) (by unfold isR; decide) g2 g0 hP6 hQ6 bC.2.1 bC.2.2.2 (fun r x y => ⟨x, y⟩))) 2 gL_law_X7_compare rfl ⟨rfl, rfl⟩ nm7_compare ⟨Nat.le_of_ble_eq_true rfl, Nat.le_of_ble_eq_true rfl⟩ (q0 := 0) rfl rfl rfl rfl hl.1 rfl (Nat.le_of_ble_eq_true rfl) dL_law_73 ⟨Nat.le_of_ble_eq_true rfl, Nat.le_of_ble_eq_true rfl⟩ hPc) (fun r73 hr73 => ?_)
  refine lv_iconst (v := (1 : Int32)) hx hb dL_law_76 (by decide) ?_
  refine lv_icmp_eq (tgt := 148) hx hb dL_law_77 (by decide) (fun k77 => ?_) (fun k77 => ?_)
  · exact NEXT (upd tp (2 : Int32).toNatClampNeg p65) (upd bo (2 : Int32).toNatClampNeg q65) es2 os2 et2 ot2 H locs ls hP hD hS (lv_sub hl [4, 3, 2] rfl)
  · refine lv_aload_n hx hb dL_law_80 rfl (lv_at hl 3 rfl) ?_
    refine lv_iconst (v := (2 : Int32)) hx hb dL_law_81 (by decide) ?_
    refine lv_iconst (v := (1 : Int32)) hx hb dL_law_82 (by decide) ?_
    refine kcRI (wc := LW3 cI rf (upd tp (2 : Int32).toNatClampNeg p65) (upd bo (2 : Int32).toNatClampNeg q65)) hP [0, 1, 2] rfl (fun hPc => oV (As := [.int (2 : Int32), .int (1 : Int32)]) (rest := []) S hK hN (c7_compare l D cI cJ cN cR rf 0 0 0 (upd tp (2 : Int32).toNatClampNeg p65) (upd bo (2 : Int32).toNatClampNeg q65) (2 : Int32) (1 : Int32) (fun r => (r = 0 ↔ P * E < C * Q) ∧ (r = 1 ↔ P * E = C * Q)) (p_compare (by unfold isR; decide) (by unfold isR; decide) g2 g1 hP6 hQ6 bE.2.1 bE.2.2.2 (fun r x y => ⟨x, y⟩))) 2 gL_law_X7_compare rfl ⟨rfl, rfl⟩ nm7_compare ⟨Nat.le_of_ble_eq_true rfl, Nat.le_of_ble_eq_true rfl⟩ (q0 := 0) rfl rfl rfl rfl hl.1 rfl (Nat.le_of_ble_eq_true rfl) dL_law_83 ⟨Nat.le_of_ble_eq_true rfl, Nat.le_of_ble_eq_true rfl⟩ hPc) (fun r83 hr83 => ?_)
    refine lv_iconst (v := (1 : Int32)) hx hb dL_law_86 (by decide) ?_
    refine lv_icmp_ne (tgt := 93) hx hb dL_law_87 (by decide) (fun k87 => ?_) (fun k87 => ?_)
    · rcases hF with h9 | h9 | ⟨K, hQ, hn0, hn1, hn2, hF⟩
      · exact absurd (hr73.2.mpr (by rw [h9, Nat.mul_comm])) k77
      · exact absurd (hr83.2.mpr (by rw [h9, Nat.mul_comm])) k87
      rcases hlo with ⟨rfl, hlt⟩ | ⟨rfl, hlt⟩
      · have hF : SM A B C E P Q := by
          rcases hF with ⟨h8, h9⟩ | ⟨h8, h9⟩
          · exact h9
          · omega
        refine lv_aload_n hx hb dL_law_93 rfl (lv_at hl 3 rfl) ?_
        refine lv_iconst (v := (3 : Int32)) hx hb dL_law_94 (by decide) ?_
        refine lv_iload_n hx hb dL_law_95 rfl (lv_at hl 1 rfl) ?_
        refine lv_iconst (v := (1 : Int32)) hx hb dL_law_96 (by decide) ?_
        refine lv_iload_n hx hb dL_law_97 rfl (lv_at hl 1 rfl) ?_
        refine lv_isub hx hb dL_law_98 ?_
        refine lv_topi (fun x98 ex98 => ?_)
        have q98 : x98 = (1 : Int32) := by rw [ex98]; decide
        subst q98
        refine kcI (wc := LWe cI rf (upd tp (2 : Int32).toNatClampNeg p65) (upd bo (2 : Int32).toNatClampNeg q65) es2 et2) (wr := LWo cI rf os2 ot2) hP hD hS hA [0, 1, 2, 3, 5] [4, 6] rfl rfl ⟨rfl, rfl, by decide⟩ (fun hPc hDc => rV (As := [.int (3 : Int32), .int (0 : Int32), .int (1 : Int32)]) (rest := []) S hK hN (c7_simplestBetween l D cI cJ cN cR rf H.size 0 0 0 (upd tp (2 : Int32).toNatClampNeg p65) (upd bo (2 : Int32).toNatClampNeg q65) es2 0 0 0 0 et2 (3 : Int32) (0 : Int32) (1 : Int32) (fun (r : Int32) (t2 b2 : Nat → Int32) (_ : Int32) (_ : Nat → Int32) => r = 1 ∧ ∃ (p q : Int32), p.toInt = (P : Int) ∧ q.toInt = (Q : Int) ∧ t2 = upd (upd tp (2 : Int32).toNatClampNeg p65) (3 : Int32).toNatClampNeg p ∧ b2 = upd (upd bo (2 : Int32).toNatClampNeg q65) (3 : Int32).toNatClampNeg q) (p_simplest (by unfold isR; decide) (by unfold isR; decide) (by unfold isR; decide) hC hE g0 g1 hlt hF hP6 hQ6 hg (fun p q _ _ h1 h2 => ⟨rfl, p, q, h1, h2, rfl, rfl⟩))) 3 gL_law_X7_simplestBetween rfl ⟨rfl, rfl⟩ nm7_simplestBetween ⟨Nat.le_of_ble_eq_true rfl, Nat.le_of_ble_eq_true rfl⟩ (q0 := 0) rfl rfl rfl rfl hl.1 rfl (Nat.le_of_ble_eq_true rfl) dL_law_99 ⟨Nat.le_of_ble_eq_true rfl, Nat.le_of_ble_eq_true rfl⟩ hPc hDc) (fun r99 u99 H locs hw hP hD hS => ?_)
        obtain ⟨t3, b3, es3, et3⟩ := u99
        obtain ⟨hr99, p99, q99, hp9, hq9, et9, eb9⟩ := hw
        have hr99 : r99 = 1 := hr99
        have et9 : t3 = upd (upd tp (2 : Int32).toNatClampNeg p65) (3 : Int32).toNatClampNeg p99 := et9
        have eb9 : b3 = upd (upd bo (2 : Int32).toNatClampNeg q65) (3 : Int32).toNatClampNeg q99 := eb9
        subst et9
        subst eb9
        subst hr99
        obtain ⟨hP, hD⟩ := k_sub (ws' := LW cI rf (upd (upd tp (2 : Int32).toNatClampNeg p65) (3 : Int32).toNatClampNeg p99) (upd (upd bo (2 : Int32).toNatClampNeg q65) (3 : Int32).toNatClampNeg q99) es3 os2 et3 ot2) hP hD [2, 3, 4, 5, 0, 6, 1] rfl rfl
        exact law_tail C0 hK hN hL NEXT hC hE hQ hn hn0 hn1 hn2 (upd (upd tp (2 : Int32).toNatClampNeg p65) (3 : Int32).toNatClampNeg p99) (upd (upd bo (2 : Int32).toNatClampNeg q65) (3 : Int32).toNatClampNeg q99) es3 os2 et3 ot2 H locs ls (rg_ne g0 (by decide)) (rg_ne g1 (by decide)) (rg_ne g2 (by decide)) (rg_eq hp9 hq9) hP hD hS (lv_sub hl [0, 1, 2, 3, 4] rfl)
      · have hF : C * B < A * E ∧ SM C E A B P Q := by
          rcases hF with ⟨h8, h9⟩ | ⟨h8, h9⟩
          · exact absurd h8 hlt
          · exact ⟨h8, h9⟩
        refine lv_aload_n hx hb dL_law_93 rfl (lv_at hl 3 rfl) ?_
        refine lv_iconst (v := (3 : Int32)) hx hb dL_law_94 (by decide) ?_
        refine lv_iload_n hx hb dL_law_95 rfl (lv_at hl 1 rfl) ?_
        refine lv_iconst (v := (1 : Int32)) hx hb dL_law_96 (by decide) ?_
        refine lv_iload_n hx hb dL_law_97 rfl (lv_at hl 1 rfl) ?_
        refine lv_isub hx hb dL_law_98 ?_
        refine lv_topi (fun x98 ex98 => ?_)
        have q98 : x98 = (0 : Int32) := by rw [ex98]; decide
        subst q98
        refine kcI (wc := LWe cI rf (upd tp (2 : Int32).toNatClampNeg p65) (upd bo (2 : Int32).toNatClampNeg q65) es2 et2) (wr := LWo cI rf os2 ot2) hP hD hS hA [0, 1, 2, 3, 5] [4, 6] rfl rfl ⟨rfl, rfl, by decide⟩ (fun hPc hDc => rV (As := [.int (3 : Int32), .int (1 : Int32), .int (0 : Int32)]) (rest := []) S hK hN (c7_simplestBetween l D cI cJ cN cR rf H.size 0 0 0 (upd tp (2 : Int32).toNatClampNeg p65) (upd bo (2 : Int32).toNatClampNeg q65) es2 0 0 0 0 et2 (3 : Int32) (1 : Int32) (0 : Int32) (fun (r : Int32) (t2 b2 : Nat → Int32) (_ : Int32) (_ : Nat → Int32) => r = 1 ∧ ∃ (p q : Int32), p.toInt = (P : Int) ∧ q.toInt = (Q : Int) ∧ t2 = upd (upd tp (2 : Int32).toNatClampNeg p65) (3 : Int32).toNatClampNeg p ∧ b2 = upd (upd bo (2 : Int32).toNatClampNeg q65) (3 : Int32).toNatClampNeg q) (p_simplest (by unfold isR; decide) (by unfold isR; decide) (by unfold isR; decide) hE hC g1 g0 hF.1 hF.2 hP6 hQ6 hg (fun p q _ _ h1 h2 => ⟨rfl, p, q, h1, h2, rfl, rfl⟩))) 3 gL_law_X7_simplestBetween rfl ⟨rfl, rfl⟩ nm7_simplestBetween ⟨Nat.le_of_ble_eq_true rfl, Nat.le_of_ble_eq_true rfl⟩ (q0 := 0) rfl rfl rfl rfl hl.1 rfl (Nat.le_of_ble_eq_true rfl) dL_law_99 ⟨Nat.le_of_ble_eq_true rfl, Nat.le_of_ble_eq_true rfl⟩ hPc hDc) (fun r99 u99 H locs hw hP hD hS => ?_)
        obtain ⟨t3, b3, es3, et3⟩ := u99
        obtain ⟨hr99, p99, q99, hp9, hq9, et9, eb9⟩ := hw
        have hr99 : r99 = 1 := hr99
        have et9 : t3 = upd (upd tp (2 : Int32).toNatClampNeg p65) (3 : Int32).toNatClampNeg p99 := et9
        have eb9 : b3 = upd (upd bo (2 : Int32).toNatClampNeg q65) (3 : Int32).toNatClampNeg q99 := eb9
        subst et9
        subst eb9
        subst hr99
        obtain ⟨hP, hD⟩ := k_sub (ws' := LW cI rf (upd (upd tp (2 : Int32).toNatClampNeg p65) (3 : Int32).toNatClampNeg p99) (upd (upd bo (2 : Int32).toNatClampNeg q65) (3 : Int32).toNatClampNeg q99) es3 os2 et3 ot2) hP hD [2, 3, 4, 5, 0, 6, 1] rfl rfl
        exact law_tail C0 hK hN hL NEXT hC hE hQ hn hn0 hn1 hn2 (upd (upd tp (2 : Int32).toNatClampNeg p65) (3 : Int32).toNatClampNeg p99) (upd (upd bo (2 : Int32).toNatClampNeg q65) (3 : Int32).toNatClampNeg q99) es3 os2 et3 ot2 H locs ls (rg_ne g0 (by decide)) (rg_ne g1 (by decide)) (rg_ne g2 (by decide)) (rg_eq hp9 hq9) hP hD hS (lv_sub hl [0, 1, 2, 3, 4] rfl)
    · refine lv_goto (tgt := 148) hx hb dL_law_90 (by decide) ?_
      exact NEXT (upd tp (2 : Int32).toNatClampNeg p65) (upd bo (2 : Int32).toNatClampNeg q65) es2 os2 et2 ot2 H locs ls hP hD hS (lv_sub hl [4, 3, 2] rfl)
set_option maxHeartbeats 8000000 in
set_option maxRecDepth 100000 in
theorem law_body {p : Program} {e : Env} {s : State} {m : MethodId} {below : List Frame} {meth : Method} {c : Code} {l : Launch} {D : va_G} {cI cJ cN cR : ClassId} {rf : Nat → Nat} {b L : Nat} {xs : Nat → Int32} (C0 : lw_At p s m meth c b L xs) (hK : va_K D vwCl (kT cI cJ cN cR) s) (hN : kN s) (hL : L ≤ 260) {i : Int32} {k : Nat} (hi : i.toInt = (k : Int)) (hk : k < 14) (NEXT : lwAt p l e s m b below meth c D cI rf i 148) (tp bo : Nat → Int32) (es os : Int32) (et ot : Nat → Int32) (H : Heap) (locs : List Loc) (ls : Array Slot) (hP : va_P D vwCl (LW cI rf tp bo es os et ot) H) (hD : va_D (fun q : Nat => s.heap.size ≤ q) (LW cI rf tp bo es os et ot)) (hS : va_S (fun q : Nat => s.heap.size ≤ q) s.heap H locs) (hl : lv_has ls 5 [(2, .int i), (1, .ref (rf 0)), (0, .ref b)]) : W p l e room_1 s m #[Value.ref b] below meth c H locs 23 2789 (lw_Z below #[Value.ref b] s) (F0 m 16 ls []) := by
  obtain ⟨hx, hb, hr, hml, hown, hts0, hX, hbl, hlocks, hgv⟩ := id C0
  have hts : ∀ w ∈ wsL_law, w.before #[Value.ref b] s = true := fun w h => hts0 w (wsL_law_in w h)
  have S : CallFix p m c code 5 s #[.ref b] wsL_law RL := ⟨hx, hb, hml, hown, hts⟩
  have hA : ∀ q : Nat, s.heap.size ≤ q → (fun q : Nat => s.heap.size ≤ q) q := fun _ h => h
  have hbA : ¬ (fun q : Nat => s.heap.size ≤ q) b := Nat.not_le.mpr hbl
  have l8 : (8 : Int32).toInt = 8 := rfl
  have l4 : (4 : Int32).toInt = 4 := rfl
  refine lv_aload_n hx hb dL_law_16 rfl (lv_at hl 1 rfl) ?_
  refine lv_iconst (v := (0 : Int32)) hx hb dL_law_17 (by decide) ?_
  refine lv_aload_n hx hb dL_law_18 rfl (lv_at hl 2 rfl) ?_
  refine lv_bipush (v := (8 : Int32)) hx hb dL_law_19 (by decide) ?_
  refine lv_iload_n hx hb dL_law_21 rfl (lv_at hl 0 rfl) ?_
  refine lv_imul hx hb dL_law_22 ?_
  refine lv_topi (fun x22 ex22 => ?_)
  have h22 : x22.toInt = 8 * (k : Int) := by rw [ex22, i_mul (by rw [l8]; omega) (by rw [l8]; omega), l8, hi]
  have hXH : va_X b L xs s H := hX.kept (hS.2.1 b hbl hbA)
  have hblH : b < H.size := Nat.lt_of_lt_of_le hbl hS.1
  refine kcI (wc := LW3 cI rf tp bo) (wr := LWr cI rf es os et ot) hP hD hS hA [0, 1, 2] [3, 4, 5, 6] rfl rfl ⟨rfl, rfl, by decide⟩ (fun hPc hDc => rSF (As := [.ref (rf 0), .int (0 : Int32), .ref b, .int x22]) (rest := []) S hK hN hXH hblH (kL_fills l D cI cJ cN cR rf H.size b L xs tp bo (0 : Int32) x22 (by omega) (by unfold isR; decide) (by omega) (by omega)) 4 gL_law_L_fills rfl ⟨rfl, rfl⟩ nmL_fills ⟨Nat.le_of_ble_eq_true rfl, Nat.le_of_ble_eq_true rfl⟩ rfl hl.1 rfl (Nat.le_of_ble_eq_true rfl) dL_law_23 ⟨Nat.le_of_ble_eq_true rfl, Nat.le_of_ble_eq_true rfl⟩ hPc hDc) (fun r23 u23 H locs hw hP hD hS => ?_)
  obtain ⟨_, hr23, A, B, N, p23, q23, hCA, hp23, hq23, rfl⟩ := hw
  obtain ⟨hP, hD⟩ := k_sub (ws' := LW cI rf (upd tp (0 : Int32).toNatClampNeg p23) (upd bo (0 : Int32).toNatClampNeg q23) es os et ot) hP hD [4, 5, 6, 0, 1, 2, 3] rfl rfl
  refine lv_if_eq (tgt := 44) hx hb dL_law_26 (by decide) (fun k26 => ?_) (fun k26 => ?_)
  · exact absurd (hr23.symm.trans k26) (by decide)
  · refine lv_aload_n hx hb dL_law_29 rfl (lv_at hl 1 rfl) ?_
    refine lv_iconst (v := (1 : Int32)) hx hb dL_law_30 (by decide) ?_
    refine lv_aload_n hx hb dL_law_31 rfl (lv_at hl 2 rfl) ?_
    refine lv_bipush (v := (8 : Int32)) hx hb dL_law_32 (by decide) ?_
    refine lv_iload_n hx hb dL_law_34 rfl (lv_at hl 0 rfl) ?_
    refine lv_imul hx hb dL_law_35 ?_
    refine lv_topi (fun x35 ex35 => ?_)
    refine lv_iconst (v := (4 : Int32)) hx hb dL_law_36 (by decide) ?_
    refine lv_iadd hx hb dL_law_37 ?_
    refine lv_topi (fun x37 ex37 => ?_)
    have h35 : x35.toInt = 8 * (k : Int) := by rw [ex35, i_mul (by rw [l8]; omega) (by rw [l8]; omega), l8, hi]
    have h37 : x37.toInt = 8 * (k : Int) + 4 := by rw [ex37, i_add (by omega) (by omega), l4, h35]
    have hXH : va_X b L xs s H := hX.kept (hS.2.1 b hbl hbA)
    have hblH : b < H.size := Nat.lt_of_lt_of_le hbl hS.1
    refine kcI (wc := LW3 cI rf (upd tp (0 : Int32).toNatClampNeg p23) (upd bo (0 : Int32).toNatClampNeg q23)) (wr := LWr cI rf es os et ot) hP hD hS hA [0, 1, 2] [3, 4, 5, 6] rfl rfl ⟨rfl, rfl, by decide⟩ (fun hPc hDc => rSF (As := [.ref (rf 0), .int (1 : Int32), .ref b, .int x37]) (rest := []) S hK hN hXH hblH (kL_fills l D cI cJ cN cR rf H.size b L xs (upd tp (0 : Int32).toNatClampNeg p23) (upd bo (0 : Int32).toNatClampNeg q23) (1 : Int32) x37 (by omega) (by unfold isR; decide) (by omega) (by omega)) 4 gL_law_L_fills rfl ⟨rfl, rfl⟩ nmL_fills ⟨Nat.le_of_ble_eq_true rfl, Nat.le_of_ble_eq_true rfl⟩ rfl hl.1 rfl (Nat.le_of_ble_eq_true rfl) dL_law_38 ⟨Nat.le_of_ble_eq_true rfl, Nat.le_of_ble_eq_true rfl⟩ hPc hDc) (fun r38 u38 H locs hw hP hD hS => ?_)
    obtain ⟨_, hr38, C, E, M, p38, q38, hCC, hp38, hq38, rfl⟩ := hw
    obtain ⟨hP, hD⟩ := k_sub (ws' := LW cI rf (upd (upd tp (0 : Int32).toNatClampNeg p23) (1 : Int32).toNatClampNeg p38) (upd (upd bo (0 : Int32).toNatClampNeg q23) (1 : Int32).toNatClampNeg q38) es os et ot) hP hD [4, 5, 6, 0, 1, 2, 3] rfl rfl
    refine lv_if_ne (tgt := 46) hx hb dL_law_41 (by decide) (fun k41 => ?_) (fun k41 => ?_)
    · have g1 : rg (upd (upd tp (0 : Int32).toNatClampNeg p23) (1 : Int32).toNatClampNeg p38) (upd (upd bo (0 : Int32).toNatClampNeg q23) (1 : Int32).toNatClampNeg q38) (1 : Int32).toNatClampNeg C E := rg_eq hp38 hq38
      have g0 : rg (upd (upd tp (0 : Int32).toNatClampNeg p23) (1 : Int32).toNatClampNeg p38) (upd (upd bo (0 : Int32).toNatClampNeg q23) (1 : Int32).toNatClampNeg q38) (0 : Int32).toNatClampNeg A B := rg_ne (rg_eq hp23 hq23) (by decide)
      have bC := hCA.pos
      have bE := hCC.pos
      refine lv_aload_n hx hb dL_law_46 rfl (lv_at hl 1 rfl) ?_
      refine lv_iconst (v := (0 : Int32)) hx hb dL_law_47 (by decide) ?_
      refine lv_iconst (v := (1 : Int32)) hx hb dL_law_48 (by decide) ?_
      refine kcRI (wc := LW3 cI rf (upd (upd tp (0 : Int32).toNatClampNeg p23) (1 : Int32).toNatClampNeg p38) (upd (upd bo (0 : Int32).toNatClampNeg q23) (1 : Int32).toNatClampNeg q38)) hP [0, 1, 2] rfl (fun hPc => oV (As := [.int (0 : Int32), .int (1 : Int32)]) (rest := []) S hK hN (c7_compare l D cI cJ cN cR rf 0 0 0 (upd (upd tp (0 : Int32).toNatClampNeg p23) (1 : Int32).toNatClampNeg p38) (upd (upd bo (0 : Int32).toNatClampNeg q23) (1 : Int32).toNatClampNeg q38) (0 : Int32) (1 : Int32) (fun r => (r = 0 ↔ A * E < C * B) ∧ (r = 1 ↔ A * E = C * B)) (p_compare (by unfold isR; decide) (by unfold isR; decide) g0 g1 bC.2.1 bC.2.2.2 bE.2.1 bE.2.2.2 (fun r x y => ⟨x, y⟩))) 2 gL_law_X7_compare rfl ⟨rfl, rfl⟩ nm7_compare ⟨Nat.le_of_ble_eq_true rfl, Nat.le_of_ble_eq_true rfl⟩ (q0 := 0) rfl rfl rfl rfl hl.1 rfl (Nat.le_of_ble_eq_true rfl) dL_law_49 ⟨Nat.le_of_ble_eq_true rfl, Nat.le_of_ble_eq_true rfl⟩ hPc) (fun r49 hr49 => ?_)
      refine lv_if_ne (tgt := 59) hx hb dL_law_52 (by decide) (fun k52 => ?_) (fun k52 => ?_)
      · refine lv_iconst (v := (1 : Int32)) hx hb dL_law_59 (by decide) ?_
        exact law_mid C0 hK hN hL NEXT hCA hCC (Or.inr ⟨rfl, fun z => k52 (hr49.1.mpr z)⟩) (upd (upd tp (0 : Int32).toNatClampNeg p23) (1 : Int32).toNatClampNeg p38) (upd (upd bo (0 : Int32).toNatClampNeg q23) (1 : Int32).toNatClampNeg q38) es os et ot H locs ls g0 g1 hP hD hS (lv_sub hl [0, 1, 2] rfl)
      · refine lv_iconst (v := (0 : Int32)) hx hb dL_law_55 (by decide) ?_
        refine lv_goto (tgt := 60) hx hb dL_law_56 (by decide) ?_
        exact law_mid C0 hK hN hL NEXT hCA hCC (Or.inl ⟨rfl, hr49.1.mp k52⟩) (upd (upd tp (0 : Int32).toNatClampNeg p23) (1 : Int32).toNatClampNeg p38) (upd (upd bo (0 : Int32).toNatClampNeg q23) (1 : Int32).toNatClampNeg q38) es os et ot H locs ls g0 g1 hP hD hS (lv_sub hl [0, 1, 2] rfl)
    · exact absurd (hr38.symm.trans k41) (by decide)
set_option maxHeartbeats 8000000 in
set_option maxRecDepth 100000 in
theorem law_loop {p : Program} {e : Env} {s : State} {m : MethodId} {below : List Frame} {meth : Method} {c : Code} {l : Launch} {D : va_G} {cI cJ cN cR : ClassId} {rf : Nat → Nat} {b L : Nat} {xs : Nat → Int32} (C0 : lw_At p s m meth c b L xs) (hK : va_K D vwCl (kT cI cJ cN cR) s) (hN : kN s) (hL : L ≤ 260) : ∀ (n k : Nat) (i : Int32), k + n = 14 → i.toInt = (k : Int) → lwAt p l e s m b below meth c D cI rf i 10 := by
  intro n
  induction n with
  | zero =>
    intro k i hk hi tp bo es os et ot H locs ls hP hD hS hl
    obtain ⟨hx, hb, hr, hml, hown, hts0, hX, hbl, hlocks, hgv⟩ := id C0
    have l14 : (14 : Int32).toInt = 14 := rfl
    refine lv_iload_n hx hb dL_law_10 rfl (lv_at hl 2 rfl) ?_
    refine lv_bipush (v := (14 : Int32)) hx hb dL_law_11 (by decide) ?_
    refine lv_icmp_ge (tgt := 154) hx hb dL_law_13 (by decide) (fun k13 => ?_) (fun k13 => ?_)
    · refine lv_iconst (v := (1 : Int32)) hx hb dL_law_154 (by decide) ?_
      refine va_forget (fun q hq => hS.2.2 q hq) ?_
      refine W.widen (k := 600000) (n := 7302249) (by omega) (by omega) ?_
      exact lw_ret hx hb hr hlocks dL_law_155
    · exact absurd (i_le.mpr (by omega)) k13
  | succ n ih =>
    intro k i hk hi tp bo es os et ot H locs ls hP hD hS hl
    obtain ⟨hx, hb, hr, hml, hown, hts0, hX, hbl, hlocks, hgv⟩ := id C0
    have l14 : (14 : Int32).toInt = 14 := rfl
    refine lv_iload_n hx hb dL_law_10 rfl (lv_at hl 2 rfl) ?_
    refine lv_bipush (v := (14 : Int32)) hx hb dL_law_11 (by decide) ?_
    refine lv_icmp_ge (tgt := 154) hx hb dL_law_13 (by decide) (fun k13 => ?_) (fun k13 => ?_)
    · exact absurd (i_le.mp k13) (by omega)
    · have NEXT : lwAt p l e s m b below meth c D cI rf i 148 := by
        intro tp bo es os et ot H locs ls hP hD hS hl
        have l1 : (1 : Int32).toInt = 1 := rfl
        obtain ⟨x148, ex148⟩ : ∃ z : Int32, z = i + (1 : Int32) := ⟨_, rfl⟩
        refine lv_iinc (v := x148) (lv' := [(2, .int x148), (0, .ref b), (1, .ref (rf 0))]) hx hb dL_law_148 hl (k := 2) rfl (by rw [ex148]; rfl) (by decide) rfl (fun ls hl => ?_)
        refine lv_goto (tgt := 10) hx hb dL_law_151 (by decide) ?_
        exact ih (k + 1) x148 (by omega) (by rw [ex148, i_add (by omega) (by omega), l1, hi]; omega) tp bo es os et ot H locs ls hP hD hS (lv_sub hl [1, 2, 0] rfl)
      exact law_body C0 hK hN hL hi (by omega) NEXT tp bo es os et ot H locs ls hP hD hS (lv_sub hl [2, 1, 0] rfl)
end
section
/-! the law's start -/
theorem k_tys {args : Array Value} {s : State} (h1 : (Cond.arrayClass .int).before args s = true) (h3 : va_AO "SternBrocotExplorer$Node" s) (h4 : va_AOA .int s) : ∃ cI cN cR : ClassId, ∀ (k : Nat) (q : ClassId × FieldType), (kT cI cI cN cR)[k]? = some q → ArrOfT s q.1 q.2 ∧ va_RA s q.1 q.2 := by
  obtain ⟨cI, kI, pI, a1, a2, a3⟩ := Cond.arrayClass_spec h1
  obtain ⟨pN, cN, kN, e1, -, e3, e4, e5⟩ := Cond.arrayOver_spec h3
  obtain ⟨pR, cR, kR, f1, -, f3, f4, f5⟩ := arrayOverA_spec h4
  refine ⟨cI, cN, cR, fun k q hq => ?_⟩
  match k, hq with
  | 0, hq => cases hq; exact ⟨fun n z => ⟨(fun k h => by cases h), kI, a2, pI, a3⟩, a1⟩
  | 1, hq => cases hq; exact ⟨fun n z => ⟨(fun k h => by cases h), kI, a2, pI, a3⟩, a1⟩
  | 2, hq => cases hq; exact ⟨fun n z => ⟨(fun k h => by cases h), kN, e3, pN, e4⟩, kN, pN, e3, e4, e1, e5⟩
  | 3, hq => cases hq; exact ⟨fun n z => ⟨(fun k h => by cases h), kR, f3, pR, f4⟩, f5⟩
  | k + 4, hq => simp [kT] at hq
theorem nmL_X7_init : kNm yX7_init 0 := by decide +kernel
set_option maxHeartbeats 8000000 in
set_option maxRecDepth 100000 in
theorem whole_start0 {p : Program} {e : Env} {s : State} {m : MethodId} {below : List Frame} {meth : Method} {c : Code} (l : Launch) {b L : Nat} {xs : Nat → Int32} (hL : L ≤ 260) (C0 : lw_At p s m meth c b L xs) : W p l e room_1 s m #[Value.ref b] below meth c s.heap [] 0 0 (lw_Z below #[Value.ref b] s) (entryFrame m ([Value.ref b] : List Value).toArray 5) := by
  obtain ⟨hx, hb, hr, hml, hown, hts0, hX, hbl, hlocks, hgv⟩ := id C0
  have hts : ∀ w ∈ wsL_law, w.before #[Value.ref b] s = true := fun w h => hts0 w (wsL_law_in w h)
  have hA : ∀ q : Nat, s.heap.size ≤ q → (fun q : Nat => s.heap.size ≤ q) q := fun _ h => h
  obtain ⟨kX1, iX1, hKnX1⟩ := u_known (C := RX1) (T := TX1) (N := 6) (n := 6) hts0 inX1 (hts0 (.instantiable RX1 6) (by decide +kernel))
  obtain ⟨kX4, iX4, hKnX4⟩ := u_known (C := RX4) (T := TX4) (N := 5) (n := 5) hts0 inX4 (hts0 (.instantiable RX4 5) (by decide +kernel))
  obtain ⟨kX7, iX7, hKnX7⟩ := u_known (C := RX7) (T := TX7) (N := 16) (n := 16) hts0 inX7 (hts0 (.instantiable RX7 16) (by decide +kernel))
  obtain ⟨dC, dI, hKc⟩ : ∃ (dC : Nat → ClassId) (dI : Nat → Nat → Nat), ∀ (k : Nat) (q : vw_C), vwCl[k]? = some q → u_Kn s q.1 q.2.1 q.2.2 (dC k) (dI k) := by
    refine ⟨fun k => if k = 0 then kX1 else if k = 1 then kX4 else kX7, fun k => if k = 0 then iX1 else if k = 1 then iX4 else iX7, ?_⟩
    intro k q hq
    match k, hq with
    | 0, hq => cases hq; exact hKnX1
    | 1, hq => cases hq; exact hKnX4
    | 2, hq => cases hq; exact hKnX7
    | k + 3, hq => simp [vwCl] at hq
  have hAO : va_AO "SternBrocotExplorer$Node" s := va_AO.of (hts0 (.arrayOver (.object "SternBrocotExplorer$Node")) (by decide +kernel))
  have hAOA : va_AOA .int s := va_AOA.of (hts0 (.arrayOver (.array .int)) (by decide +kernel))
  have hN : kN s := ⟨va_Nw.of rfl (hts0 (.methodLinkNest RX1 23 yX7_quotient RX7) (by decide +kernel)), fun q hq => (by cases hq), fun q hq => (by cases hq), va_Nw.of rfl (hts0 (.methodLinkNest RX7 47 yX1_init RX7) (by decide +kernel)), va_Nw.of rfl (hts0 (.methodLinkNest RX7 57 yX4_init RX7) (by decide +kernel)), hAO, hAOA⟩
  obtain ⟨cI, cN, cR, hTY⟩ := k_tys (hts0 (.arrayClass .int) (by decide +kernel)) hAO hAOA
  have hS : va_S (fun q : Nat => s.heap.size ≤ q) s.heap s.heap [] := va_S.rf
  have hK : va_K (dC, dI) vwCl (kT cI cI cN cR) s := ⟨hKc, hTY⟩
  have hP : va_P (dC, dI) vwCl [] s.heap := fun k q h => by simp at h
  have hD : va_D (fun q : Nat => s.heap.size ≤ q) [] := ⟨fun i j p q h => by simp at h, fun k q h => by simp at h⟩
  have S : CallFix p m c code 5 s #[.ref b] wsL_law RL := ⟨hx, hb, hml, hown, hts⟩
  have hl := lv_entry ([.ref b]) (n := 5) (Nat.le_of_ble_eq_true rfl)
  rw [lg_entry_eq]
  generalize (lg_sl ([.ref b]) ++ List.replicate (5 - (lg_sl ([.ref b])).length) Slot.unset).toArray = ls at hl ⊢
  have hl : lv_has ls 5 [(0, .ref b)] := hl
  refine va_new (ci := 2) (fs := [.null, .null, .null, .null, .null, .null, .int 0, .null, .int 0, .null, .int 0, .null, .null, .null, .null, .null]) (C := RX7) (T := TX7) (N := 16) hx hb hts inlX7 tyX7 tyX7_ok hown (hts (.classLink RL 30 RX7) (by decide +kernel)) (hts (.instantiable RX7 16) (by decide +kernel)) (hts (.initialized RX7) (by decide +kernel)) hK hP hD hS hA rfl (fun j hj => by rcases (show j = 0 ∨ j = 1 ∨ j = 2 ∨ j = 3 ∨ j = 4 ∨ j = 5 ∨ j = 6 ∨ j = 7 ∨ j = 8 ∨ j = 9 ∨ j = 10 ∨ j = 11 ∨ j = 12 ∨ j = 13 ∨ j = 14 ∨ j = 15 by omega) with rfl | rfl | rfl | rfl | rfl | rfl | rfl | rfl | rfl | rfl | rfl | rfl | rfl | rfl | rfl | rfl <;> rfl) (Nat.le_of_ble_eq_true rfl) (Nat.le_of_ble_eq_true rfl) dL_law_0 (fun q7 H hP hD hS => ?_)
  refine lv_dup hx hb dL_law_3 rfl ?_
  refine kcW (wc := [(q7, .inr (2, [.null, .null, .null, .null, .null, .null, .int 0, .null, .int 0, .null, .int 0, .null, .null, .null, .null, .null]))]) (wr := []) hP hD hS hA [0] [] rfl rfl ⟨rfl, rfl, by decide⟩ (fun hPc hDc => va_runI (As := []) (rest := [.ref q7]) S (c7_init l (dC, dI) cI cI cN cR H.size q7) (cwI 0 hts gL_law_X7_init rfl rfl rfl (hts (.initialized RX7) (by decide +kernel)) (hts (.methodLink RL 35 yX7_init) (by decide +kernel)) (hts (.instanceMethod yX7_init) (by decide +kernel)) rfl nmL_X7_init ⟨Nat.le_of_ble_eq_true rfl, Nat.le_of_ble_eq_true rfl⟩) ⟨kP_blind, kP_at hPc hDc hK hN⟩ rfl rfl hl.1 rfl (lv_room (Nat.le_of_ble_eq_true rfl)) dL_law_4 ⟨Nat.le_of_ble_eq_true rfl, Nat.le_of_ble_eq_true rfl⟩) (fun r7 H locs hu hP9 hD9 hS9 => ?_)
  clear hP hD hS
  subst hu
  have hS := hS9
  have hP : va_P (dC, dI) vwCl [((r7 0), o7 r7 0 0 0), ((r7 1), ai cI 8 (upd (upd (upd (upd (upd (upd (upd (upd (fun _ => 0) (0 : Int32).toNatClampNeg (1 : Int32)) (1 : Int32).toNatClampNeg (1 : Int32)) (2 : Int32).toNatClampNeg (1 : Int32)) (3 : Int32).toNatClampNeg (1 : Int32)) (4 : Int32).toNatClampNeg (1 : Int32)) (5 : Int32).toNatClampNeg (1 : Int32)) (6 : Int32).toNatClampNeg (1 : Int32)) (7 : Int32).toNatClampNeg (1 : Int32))), ((r7 2), ai cI 8 (upd (upd (upd (upd (upd (upd (upd (upd (fun _ => 0) (0 : Int32).toNatClampNeg (1 : Int32)) (1 : Int32).toNatClampNeg (1 : Int32)) (2 : Int32).toNatClampNeg (1 : Int32)) (3 : Int32).toNatClampNeg (1 : Int32)) (4 : Int32).toNatClampNeg (1 : Int32)) (5 : Int32).toNatClampNeg (1 : Int32)) (6 : Int32).toNatClampNeg (1 : Int32)) (7 : Int32).toNatClampNeg (1 : Int32))), ((r7 3), aq cN 5 (fun _ => none)), ((r7 4), ai cI 8 (fun _ => 0)), ((r7 5), ai cI 8 (fun _ => 0)), ((r7 6), aq cN 5 (fun _ => none)), ((r7 8), ai cI 20 (fun _ => 0)), ((r7 10), ai cI 60 (fun _ => 0)), ((r7 12), ar cR r7), ((r7 13), ai cI 3 (upd (upd (upd (fun _ => 0) (0 : Int32).toNatClampNeg (-1 : Int32)) (1 : Int32).toNatClampNeg (-1 : Int32)) (2 : Int32).toNatClampNeg (-1 : Int32))), ((r7 14), o1 (r7 17) 0 0 0 0 0), ((r7 15), o1 (r7 18) 0 0 0 0 0), ((r7 16), o4 (r7 19) (r7 20) (r7 21) (r7 22) 0), ((r7 17), ai cI 64 (fun _ => 0)), ((r7 18), ai cI 64 (fun _ => 0)), ((r7 19), ai cI 720 (fun _ => 0)), ((r7 20), ai cI 720 (fun _ => 0)), ((r7 21), ai cI 720 (fun _ => 0)), ((r7 22), ai cI 160 (fun _ => 0)), ((r7 23), ai cI 60 (fun _ => 0)), ((r7 24), ai cI 60 (fun _ => 0)), ((r7 25), ai cI 60 (fun _ => 0))] H := hP9
  have hD : va_D (fun q : Nat => s.heap.size ≤ q) [((r7 0), o7 r7 0 0 0), ((r7 1), ai cI 8 (upd (upd (upd (upd (upd (upd (upd (upd (fun _ => 0) (0 : Int32).toNatClampNeg (1 : Int32)) (1 : Int32).toNatClampNeg (1 : Int32)) (2 : Int32).toNatClampNeg (1 : Int32)) (3 : Int32).toNatClampNeg (1 : Int32)) (4 : Int32).toNatClampNeg (1 : Int32)) (5 : Int32).toNatClampNeg (1 : Int32)) (6 : Int32).toNatClampNeg (1 : Int32)) (7 : Int32).toNatClampNeg (1 : Int32))), ((r7 2), ai cI 8 (upd (upd (upd (upd (upd (upd (upd (upd (fun _ => 0) (0 : Int32).toNatClampNeg (1 : Int32)) (1 : Int32).toNatClampNeg (1 : Int32)) (2 : Int32).toNatClampNeg (1 : Int32)) (3 : Int32).toNatClampNeg (1 : Int32)) (4 : Int32).toNatClampNeg (1 : Int32)) (5 : Int32).toNatClampNeg (1 : Int32)) (6 : Int32).toNatClampNeg (1 : Int32)) (7 : Int32).toNatClampNeg (1 : Int32))), ((r7 3), aq cN 5 (fun _ => none)), ((r7 4), ai cI 8 (fun _ => 0)), ((r7 5), ai cI 8 (fun _ => 0)), ((r7 6), aq cN 5 (fun _ => none)), ((r7 8), ai cI 20 (fun _ => 0)), ((r7 10), ai cI 60 (fun _ => 0)), ((r7 12), ar cR r7), ((r7 13), ai cI 3 (upd (upd (upd (fun _ => 0) (0 : Int32).toNatClampNeg (-1 : Int32)) (1 : Int32).toNatClampNeg (-1 : Int32)) (2 : Int32).toNatClampNeg (-1 : Int32))), ((r7 14), o1 (r7 17) 0 0 0 0 0), ((r7 15), o1 (r7 18) 0 0 0 0 0), ((r7 16), o4 (r7 19) (r7 20) (r7 21) (r7 22) 0), ((r7 17), ai cI 64 (fun _ => 0)), ((r7 18), ai cI 64 (fun _ => 0)), ((r7 19), ai cI 720 (fun _ => 0)), ((r7 20), ai cI 720 (fun _ => 0)), ((r7 21), ai cI 720 (fun _ => 0)), ((r7 22), ai cI 160 (fun _ => 0)), ((r7 23), ai cI 60 (fun _ => 0)), ((r7 24), ai cI 60 (fun _ => 0)), ((r7 25), ai cI 60 (fun _ => 0))] := hD9
  clear hP9 hD9 hS9
  obtain ⟨hP, hD⟩ := k_sub (ws' := LW cI r7 (upd (upd (upd (upd (upd (upd (upd (upd (fun _ => 0) (0 : Int32).toNatClampNeg (1 : Int32)) (1 : Int32).toNatClampNeg (1 : Int32)) (2 : Int32).toNatClampNeg (1 : Int32)) (3 : Int32).toNatClampNeg (1 : Int32)) (4 : Int32).toNatClampNeg (1 : Int32)) (5 : Int32).toNatClampNeg (1 : Int32)) (6 : Int32).toNatClampNeg (1 : Int32)) (7 : Int32).toNatClampNeg (1 : Int32)) (upd (upd (upd (upd (upd (upd (upd (upd (fun _ => 0) (0 : Int32).toNatClampNeg (1 : Int32)) (1 : Int32).toNatClampNeg (1 : Int32)) (2 : Int32).toNatClampNeg (1 : Int32)) (3 : Int32).toNatClampNeg (1 : Int32)) (4 : Int32).toNatClampNeg (1 : Int32)) (5 : Int32).toNatClampNeg (1 : Int32)) (6 : Int32).toNatClampNeg (1 : Int32)) (7 : Int32).toNatClampNeg (1 : Int32)) 0 0 (fun _ => 0) (fun _ => 0)) hP hD [0, 1, 2, 11, 12, 14, 15] rfl rfl
  refine lv_astore_n (lv' := [(1, .ref (r7 0)), (0, .ref b)]) hx hb dL_law_7 rfl hl (by decide) rfl (fun ls hl => ?_)
  refine lv_iconst (v := (0 : Int32)) hx hb dL_law_8 (by decide) ?_
  refine lv_istore_n (lv' := [(2, .int (0 : Int32)), (1, .ref (r7 0)), (0, .ref b)]) hx hb dL_law_9 rfl hl (by decide) rfl (fun ls hl => ?_)
  exact law_loop (D := (dC, dI)) (rf := r7) C0 hK hN hL 14 0 (0 : Int32) rfl rfl (upd (upd (upd (upd (upd (upd (upd (upd (fun _ => 0) (0 : Int32).toNatClampNeg (1 : Int32)) (1 : Int32).toNatClampNeg (1 : Int32)) (2 : Int32).toNatClampNeg (1 : Int32)) (3 : Int32).toNatClampNeg (1 : Int32)) (4 : Int32).toNatClampNeg (1 : Int32)) (5 : Int32).toNatClampNeg (1 : Int32)) (6 : Int32).toNatClampNeg (1 : Int32)) (7 : Int32).toNatClampNeg (1 : Int32)) (upd (upd (upd (upd (upd (upd (upd (upd (fun _ => 0) (0 : Int32).toNatClampNeg (1 : Int32)) (1 : Int32).toNatClampNeg (1 : Int32)) (2 : Int32).toNatClampNeg (1 : Int32)) (3 : Int32).toNatClampNeg (1 : Int32)) (4 : Int32).toNatClampNeg (1 : Int32)) (5 : Int32).toNatClampNeg (1 : Int32)) (6 : Int32).toNatClampNeg (1 : Int32)) (7 : Int32).toNatClampNeg (1 : Int32)) 0 0 (fun _ => 0) (fun _ => 0) H locs ls hP hD hS (lv_sub hl [2, 1, 0] rfl)
end
section
/-- the walk of the law -/
theorem whole_start {p : Program} {e : Env} {s : State} {m : MethodId} {below : List Frame} {meth : Method} {c : Code} (l : Launch) (hflags : l.flags = flags0) {b L : Nat} {xs : Nat → Int32} (hL : L ≤ 260) (C0 : lw_At p s m meth c b L xs) : W p l e room_1 s m #[Value.ref b] below meth c s.heap [] 0 0 (lw_Z below #[Value.ref b] s) (entryFrame m ([Value.ref b] : List Value).toArray 5) :=
  whole_start0 l hL C0
set_option maxHeartbeats 4000000 in
theorem lw_walk (l : Launch) (hflags : l.flags = flags0) (b : Addr) (xs : List Int32) : MetFree l x (headSpec (Jvm.Cond.code x code maxLocals ret :: tables_1) room_1) (lw_P b xs) (fun _ _ _ _ _ => True) lw_Q := by
  refine MetFree.of_bodyS (code := code) (maxLocals := maxLocals) (ret := ret) (by decide) ?_ ?_
  · intro args s m h hn
    obtain ⟨meth, c, h1, h2, h3, h4, h5, h6, -, -⟩ := Cond.code_spec hn (atoms_spec (ws := Jvm.Cond.code x code maxLocals ret :: tables_1) h _ List.mem_cons_self)
    exact ⟨meth, c, h1, h2, h3, h4, h5, h6⟩
  · intro p e s m args below meth c s₁ B hml0 hP _
    obtain ⟨rfl, hx, hbd, hgv⟩ := hP
    obtain ⟨scr, harrAt, hlist, hof, hsmall⟩ := hx
    obtain ⟨hcb, hkn, -, -⟩ := State.arrayAt?_spec harrAt
    have hown : s.vm.findClass R_law = some m.cls := findClass_of_methodNamed B.named
    have hts0 : ∀ c ∈ (Jvm.Cond.code x code maxLocals ret :: tables_1), c.before #[Value.ref b] s = true := atoms_spec (ws := Jvm.Cond.code x code maxLocals ret :: tables_1) B.pre
    have hts : ∀ w ∈ lw_tbl, w.before #[Value.ref b] s = true := k2_hts_sels lw_privs (fun w hw => hts0 w (List.mem_cons_of_mem _ hw)) lw_privs_ok
    have hml : c.maxLocals = 5 := B.maxLocals_eq (hts0 _ List.mem_cons_self)
    have X₀ : Stand p l e room_1 s m #[Value.ref b] below meth c s₁ [] 0 0 := Stand.of_body B
    have hh0 : s₁.heap = s.heap := by rw [B.state]; rfl
    have hsz : scr.slots.size = xs.length := by rw [← Array.length_toList, hlist, List.length_map]
    have hval : ∀ j : Nat, j < xs.length → scr.slots[j]? = some (.int (xs.getD j 0)) := fun j hj => by
      rw [← Array.getElem?_toList, hlist]
      simp [hj]
    have hbl : b < s.heap.size := (Array.getElem?_eq_some_iff.mp hcb).1
    have hX : va_X b xs.length (fun j => xs.getD j 0) s s.heap := ⟨scr, hcb, hof, hkn, hsz, hval⟩
    have K : W p l e room_1 s m #[Value.ref b] below meth c s₁.heap [] 0 0 (lw_Z below #[Value.ref b] s) (entryFrame m ([Value.ref b] : List Value).toArray 5) := by
      rw [hh0]
      exact whole_start l hflags hbd ⟨B.exec, B.bytes, B.returns, hml, hown, hts, hX, hbl, B.notSynchronized, hgv⟩
    obtain ⟨t, a1, o, b1, b2, b3⟩ := K s₁ rfl X₀
    exact ⟨t, o, a1, b1, b2, b3⟩
theorem lw_pre_spec {args : Array Value} {s : State} (h : (Jvm.Cond.and given_1 narrow_1).before args s = true) (hr : rest_1_c.before args s = true) : ∃ (b : Addr) (xs : List Int32), lw_P b xs args s := by
  have hs := flat_of_before _ h
  have hq := flat_of_before _ hr
  have hc : (Cond.count 1).before args s = true := hs _ (by decide +kernel)
  have harr : (Cond.arrayOf (.arg 0) .int).before args s = true := hs _ (by decide +kernel)
  have hle : (Cond.le (.length (.arg 0)) (.int 260)).before args s = true := hs _ (by decide +kernel)
  have hlen : (Cond.isInt (.length (.arg 0))).before args s = true := hq _ (by decide +kernel)
  have hall : (Cond.all (.arg 0) (.isInt (.elem (.arg 0) (.index 0)))).before args s = true := hq _ (by decide +kernel)
  obtain ⟨b, xs, hb, hx⟩ := State.ints_of_pre rfl harr hlen hall
  have hsm : xs.length < 2 ^ 31 := hx.choose_spec.2.2.2
  have hev : (Term.length (.arg 0)).eval args s none [] s = some (.int xs.length.toInt32) := hx.length_eval hb
  have hv := Cond.le_ints hev (show (Term.int 260).eval args s none [] s = some (.int 260) from rfl)
  have hd : xs.length.toInt32 ≤ 260 := by
    simpa [Cond.before, Cond.holds, hv] using hle
  have hN : xs.length ≤ 260 := (Int32.ofNat_le_ofNat hsm (by decide)).mp (show Int32.ofNat xs.length ≤ Int32.ofNat 260 from hd)
  exact ⟨b, xs, Cond.one_arg hc (show args[0]? = some (.ref b) from hb), hx, hN, h⟩
theorem lw_comes (l : Launch) (hflags : l.flags = flags0) : Comes l x (Jvm.Cond.code x code maxLocals ret :: tables_1) room_1 (fun tb e args s => Calls_1 tb e args s ∧ rest_1 tb e args s ∧ Pre_1 tb e args s)
    (fun _ _ args s o t => lw_Q args s o t) := by
  intro p e ha hc hk s m args below hf hfit hheap happ hpre
  obtain ⟨b, xs, hP⟩ := lw_pre_spec hpre.2.2 hpre.2.1
  obtain ⟨k, o, h1, h2, h3, hQ⟩ := lw_walk l hflags b xs p e ha hc hk s m args below hf ((Spec.applies_iff_loose hf).mp happ).1 hP trivial
  exact ⟨k, o, h1, h2, h3, hQ⟩
theorem lw_frame {s t : State} {o : Outcome} {args : Array Value} (h : Framed s o t [] 600000 7302249) :
    Framed s o t (fieldLocs frame_1_writes args s ++ arrayLocs frame_1_arrays args s ++ staticLocs frame_1_statics s) 600000 7302249 := h
theorem lw_limb (L : Cond) (hL : ∀ (args : Array Value) (s t : State), L.after args s (.returned (some (.int 1))) t = true) :
    ArmFor flags0 classFile x code maxLocals ret World_1 tables_1 room_1 Calls_1 rest_1 Pre_1
      (fun tb e a s o t => postC L tb e a s o t ∧ Framed s o t (fieldLocs frame_1_writes a s ++ arrayLocs frame_1_arrays a s ++ staticLocs frame_1_statics s) 600000 7302249) := by
  intro l hflags _ _ p e ha hc hk s m args below hf hfit hheap happ hpre
  obtain ⟨k, o, h1, h2, h3, rfl, hF⟩ := lw_comes l hflags p e ha hc hk s m args below hf hfit hheap happ hpre
  exact ⟨k, _, h1, h2, h3, hL args s _, lw_frame hF⟩
theorem i_vc : Claimed_1_1 ∧ Claimed_1_2 := ⟨lw_limb limb_1_1 (fun args s t => by simp [limb_1_1, Cond.after, Cond.holds, Cond.value]), lw_limb limb_1_2 (fun args s t => Cond.after_iff.mpr (by
  first | (rw [show limb_1_2 = Cond.eq .result (.int 1) from rfl, Cond.eq_ints (x := 1) (y := 1) rfl rfl]; simp; done) | (simp [limb_1_2, Cond.value, Term.eval]; done)))⟩
end
section
theorem zz_last : True := trivial
end
