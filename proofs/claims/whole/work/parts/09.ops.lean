/-! the methods of the class that speak of nodes -/
def kX0 : List Cond := [.fieldLink RX7 18 "SternBrocotExplorer" "slots" "[LSternBrocotExplorer$Node;", .fieldLink RX7 9 "SternBrocotExplorer" "tops" "[I", .fieldLink RX7 13 "SternBrocotExplorer" "bottoms" "[I", .methodLink RX7 218 yX7_isSlot, .static yX7_isSlot, .code yX7_isSlot cX7_isSlot 1 (some .boolean), .methodLink RX7 67 yX7_isIn, .static yX7_isIn, .code yX7_isIn cX7_isIn 3 (some .boolean), .methodLink RX7 62 yX7_isRegister, .static yX7_isRegister, .code yX7_isRegister cX7_isRegister 1 (some .boolean), .methodLink RX7 221 yX7_newNode, .static yX7_newNode, .code yX7_newNode cX7_newNode 3 (some (.object "SternBrocotExplorer$Node")), .methodLink RX7 231 yX7_isOfKind, .static yX7_isOfKind, .code yX7_isOfKind cX7_isOfKind 2 (some .boolean), .initialized RX7, .methodLink RX7 225 yX3_grow, .methodLink RX7 228 yX3_bend, .methodLink RX7 235 yX3_kind, .classLink RX7 16 RX3, .instantiable RX3 3, .classLink RX7 294 RX0, .instantiable RX0 3, .classLink RX7 297 RX6, .instantiable RX6 3, .classLink RX7 300 RX2, .instantiable RX2 3, .classLink RX7 304 RX5, .instantiable RX5 3, .methodLink RX7 292 yX3_init, .methodLink RX7 296 yX0_init, .methodLink RX7 299 yX6_init, .methodLink RX7 302 yX2_init, .methodLink RX7 306 yX5_init]
def kX : List Cond := kX0 ++ (kF ++ wsX70)
theorem kx_fs : Cond.fieldLink RX7 18 "SternBrocotExplorer" "slots" "[LSternBrocotExplorer$Node;" ∈ kX := List.mem_append_left _ (List.mem_of_getElem? (i := 0) rfl)
theorem kx_ft : Cond.fieldLink RX7 9 "SternBrocotExplorer" "tops" "[I" ∈ kX := List.mem_append_left _ (List.mem_of_getElem? (i := 1) rfl)
theorem kx_fb : Cond.fieldLink RX7 13 "SternBrocotExplorer" "bottoms" "[I" ∈ kX := List.mem_append_left _ (List.mem_of_getElem? (i := 2) rfl)
theorem kx_lisSlot : Cond.methodLink RX7 218 yX7_isSlot ∈ kX := List.mem_append_left _ (List.mem_of_getElem? (i := 3) rfl)
theorem kx_sisSlot : Cond.static yX7_isSlot ∈ kX := List.mem_append_left _ (List.mem_of_getElem? (i := 4) rfl)
theorem kx_cisSlot : Cond.code yX7_isSlot cX7_isSlot 1 (some .boolean) ∈ kX := List.mem_append_left _ (List.mem_of_getElem? (i := 5) rfl)
theorem kx_lisIn : Cond.methodLink RX7 67 yX7_isIn ∈ kX := List.mem_append_left _ (List.mem_of_getElem? (i := 6) rfl)
theorem kx_sisIn : Cond.static yX7_isIn ∈ kX := List.mem_append_left _ (List.mem_of_getElem? (i := 7) rfl)
theorem kx_cisIn : Cond.code yX7_isIn cX7_isIn 3 (some .boolean) ∈ kX := List.mem_append_left _ (List.mem_of_getElem? (i := 8) rfl)
theorem kx_lisRegister : Cond.methodLink RX7 62 yX7_isRegister ∈ kX := List.mem_append_left _ (List.mem_of_getElem? (i := 9) rfl)
theorem kx_sisRegister : Cond.static yX7_isRegister ∈ kX := List.mem_append_left _ (List.mem_of_getElem? (i := 10) rfl)
theorem kx_cisRegister : Cond.code yX7_isRegister cX7_isRegister 1 (some .boolean) ∈ kX := List.mem_append_left _ (List.mem_of_getElem? (i := 11) rfl)
theorem kx_lnewNode : Cond.methodLink RX7 221 yX7_newNode ∈ kX := List.mem_append_left _ (List.mem_of_getElem? (i := 12) rfl)
theorem kx_snewNode : Cond.static yX7_newNode ∈ kX := List.mem_append_left _ (List.mem_of_getElem? (i := 13) rfl)
theorem kx_cnewNode : Cond.code yX7_newNode cX7_newNode 3 (some (.object "SternBrocotExplorer$Node")) ∈ kX := List.mem_append_left _ (List.mem_of_getElem? (i := 14) rfl)
theorem kx_lisOfKind : Cond.methodLink RX7 231 yX7_isOfKind ∈ kX := List.mem_append_left _ (List.mem_of_getElem? (i := 15) rfl)
theorem kx_sisOfKind : Cond.static yX7_isOfKind ∈ kX := List.mem_append_left _ (List.mem_of_getElem? (i := 16) rfl)
theorem kx_cisOfKind : Cond.code yX7_isOfKind cX7_isOfKind 2 (some .boolean) ∈ kX := List.mem_append_left _ (List.mem_of_getElem? (i := 17) rfl)
theorem kx_n7 : Cond.initialized RX7 ∈ kX := List.mem_append_left _ (List.mem_of_getElem? (i := 18) rfl)
theorem kx_lg : Cond.methodLink RX7 225 yX3_grow ∈ kX := List.mem_append_left _ (List.mem_of_getElem? (i := 19) rfl)
theorem kx_lb : Cond.methodLink RX7 228 yX3_bend ∈ kX := List.mem_append_left _ (List.mem_of_getElem? (i := 20) rfl)
theorem kx_lk : Cond.methodLink RX7 235 yX3_kind ∈ kX := List.mem_append_left _ (List.mem_of_getElem? (i := 21) rfl)
theorem kx_cX3 : Cond.classLink RX7 16 RX3 ∈ kX := List.mem_append_left _ (List.mem_of_getElem? (i := 22) rfl)
theorem kx_xX3 : Cond.instantiable RX3 3 ∈ kX := List.mem_append_left _ (List.mem_of_getElem? (i := 23) rfl)
theorem kx_cX0 : Cond.classLink RX7 294 RX0 ∈ kX := List.mem_append_left _ (List.mem_of_getElem? (i := 24) rfl)
theorem kx_xX0 : Cond.instantiable RX0 3 ∈ kX := List.mem_append_left _ (List.mem_of_getElem? (i := 25) rfl)
theorem kx_cX6 : Cond.classLink RX7 297 RX6 ∈ kX := List.mem_append_left _ (List.mem_of_getElem? (i := 26) rfl)
theorem kx_xX6 : Cond.instantiable RX6 3 ∈ kX := List.mem_append_left _ (List.mem_of_getElem? (i := 27) rfl)
theorem kx_cX2 : Cond.classLink RX7 300 RX2 ∈ kX := List.mem_append_left _ (List.mem_of_getElem? (i := 28) rfl)
theorem kx_xX2 : Cond.instantiable RX2 3 ∈ kX := List.mem_append_left _ (List.mem_of_getElem? (i := 29) rfl)
theorem kx_cX5 : Cond.classLink RX7 304 RX5 ∈ kX := List.mem_append_left _ (List.mem_of_getElem? (i := 30) rfl)
theorem kx_xX5 : Cond.instantiable RX5 3 ∈ kX := List.mem_append_left _ (List.mem_of_getElem? (i := 31) rfl)
theorem kx_iX3 : Cond.methodLink RX7 292 yX3_init ∈ kX := List.mem_append_left _ (List.mem_of_getElem? (i := 32) rfl)
theorem kx_iX0 : Cond.methodLink RX7 296 yX0_init ∈ kX := List.mem_append_left _ (List.mem_of_getElem? (i := 33) rfl)
theorem kx_iX6 : Cond.methodLink RX7 299 yX6_init ∈ kX := List.mem_append_left _ (List.mem_of_getElem? (i := 34) rfl)
theorem kx_iX2 : Cond.methodLink RX7 302 yX2_init ∈ kX := List.mem_append_left _ (List.mem_of_getElem? (i := 35) rfl)
theorem kx_iX5 : Cond.methodLink RX7 306 yX5_init ∈ kX := List.mem_append_left _ (List.mem_of_getElem? (i := 36) rfl)
theorem kx_F : ∀ w ∈ kF, w ∈ kX := fun w h => List.mem_append_right _ (List.mem_append_left _ h)
theorem kx_7 : ∀ w ∈ wsX70, w ∈ kX := fun w h => List.mem_append_right _ (List.mem_append_right _ h)
theorem kx_all : ∀ w ∈ kX, (w.onTables && w.keeps) = true := by decide +kernel
abbrev kV (y : MethodName) (cc : ByteArray) (n : Nat) (r : Option FieldType) : List Cond := Cond.code y cc n r :: kX
theorem kx_gS {Ts ws : List Cond} (h : ∀ w ∈ kX, w ∈ Ts) {y : MethodName} {idx : Nat} (h1 : Cond.methodLink RX7 idx y ∈ kX) (h2 : Cond.static y ∈ kX) (h3 : Cond.initialized y.cls ∈ kX) (h4 : ∀ w ∈ ws, w ∈ kX) : GoodIn Ts (va_wsS RX7 idx y ws) := fun w hw => by
  have hm : w ∈ kX := by
    rcases List.mem_append.mp hw with hw | hw
    · simp only [List.mem_cons, List.not_mem_nil, or_false] at hw
      rcases hw with rfl | rfl | rfl
      · exact h1
      · exact h2
      · exact h3
    · exact h4 w hw
  exact ⟨h w hm, Or.inl (kx_all w hm)⟩
theorem kx_V {y : MethodName} {cc : ByteArray} {n : Nat} {r : Option FieldType} (hc : Cond.code y cc n r ∈ kX) : ∀ w ∈ kV y cc n r, w ∈ kX := fun w hw => by
  rcases List.mem_cons.mp hw with rfl | h
  · exact hc
  · exact h
theorem kx_1 {c : Cond} (hc : c ∈ kX) : ∀ w ∈ c :: ([] : List Cond), w ∈ kX := fun w hw => by
  rcases List.mem_cons.mp hw with rfl | h
  · exact hc
  · cases h
def nCl (k : Int32) : Nat := if k = 0 then 3 else if k = 1 then 0 else if k = 2 then 6 else if k = 3 then 2 else 5
theorem nCl_cases (k : Int32) : nCl k = 3 ∨ nCl k = 0 ∨ nCl k = 6 ∨ nCl k = 2 ∨ nCl k = 5 := by
  unfold nCl
  split
  · exact Or.inl rfl
  · split
    · exact Or.inr (Or.inl rfl)
    · split
      · exact Or.inr (Or.inr (Or.inl rfl))
      · split
        · exact Or.inr (Or.inr (Or.inr (Or.inl rfl)))
        · exact Or.inr (Or.inr (Or.inr (Or.inr rfl)))
abbrev npl (L : List Nat) (kk tt bb : Nat → Int32) : va_W := va_pl L (fun a => nd (nCl (kk a)) (kk a) (tt a) (bb a))
def kQq {S : Type} (D : va_G) (wc : va_W) (sz : Nat) (post : Option Nat → S → Prop) (wB : S → va_W) := va_Qq post (kB D wc sz wB) (va_A wc sz)
theorem k_anyC {D : va_G} {tys : List (ClassId × FieldType)} {s : State} {H : Heap} {ws : va_W} (hK : va_K D vwCl tys s) (hN : kN s) (hP : va_P D vwCl ws H) {q0 a ci : Nat} {fs : List Value} (he : ws[q0]? = some (a, .inr (ci, fs))) (hci : ci = 3 ∨ ci = 0 ∨ ci = 6 ∨ ci = 2 ∨ ci = 5) : va_Any "SternBrocotExplorer$Node" s H a := by
  have key : ∀ C : String, (C, "SternBrocotExplorer$Node") ∈ kYes → ∀ comp c0 : ClassId, s.vm.findClass "SternBrocotExplorer$Node" = some comp → s.vm.findClass C = some c0 → s.vm.assignable c0 comp = true := by
    intro C hm comp c0 h1 h2
    obtain ⟨c', t', f1, f2, f3⟩ := Cond.castable_spec (va_Nw.use (A := #[]) rfl (hN.2.1 _ hm))
    cases h1.symm.trans f2
    cases h2.symm.trans f1
    exact f3
  rcases hci with rfl | rfl | rfl | rfl | rfl
  · refine va_rAny hK hP he (r := (RX3, TX3, 3)) rfl (fun comp c0 h1 h2 => ?_)
    have hat := (hK.1 3 (RX3, TX3, 3) rfl).2
    have e1 : comp = D.1 3 := Option.some.inj (h1.symm.trans hat.1)
    have e2 : c0 = D.1 3 := Option.some.inj (h2.symm.trans hat.1)
    rw [e1, e2]
    exact va_assign hat
  · exact va_rAny hK hP he (r := (RX0, TX0, 3)) rfl (key RX0 (List.mem_of_getElem? (i := 3) rfl))
  · exact va_rAny hK hP he (r := (RX6, TX6, 3)) rfl (key RX6 (List.mem_of_getElem? (i := 4) rfl))
  · exact va_rAny hK hP he (r := (RX2, TX2, 3)) rfl (key RX2 (List.mem_of_getElem? (i := 5) rfl))
  · exact va_rAny hK hP he (r := (RX5, TX5, 3)) rfl (key RX5 (List.mem_of_getElem? (i := 6) rfl))
theorem k_any {D : va_G} {tys : List (ClassId × FieldType)} {s : State} {H : Heap} {X : va_W} {L : List Nat} {kk tt bb : Nat → Int32} (hK : va_K D vwCl tys s) (hN : kN s) (hP : va_P D vwCl (X ++ npl L kk tt bb) H) {a : Nat} (ha : a ∈ L) : va_Any "SternBrocotExplorer$Node" s H a := by
  obtain ⟨k, hk⟩ := va_pl_get (X := X) (f := fun a => nd (nCl (kk a)) (kk a) (tt a) (bb a)) ha
  exact k_anyC hK hN hP hk (nCl_cases _)
section KAST
variable {p : Program} {l : Launch} {e : Env} {R : Room} {s : State} {m : MethodId} {args : Array Value} {below : List Frame} {meth : Method} {c : Code} {H : Heap} {locs : List Loc} {cells slots : Nat} {Q : State → Prop}
variable {cc : ByteArray} {pc : Nat} {ls : Array Slot} {rest st0 : List Value} {D : va_G} {cl : List vw_C} {A : Nat → Prop} {a : Nat} {tys : List (ClassId × FieldType)} {ws wo wc wr : va_W} {H0 : Heap}
theorem k_ast (hexec : p.tables.exec = Jvm.exec) (hb : c.code = cc) (hK : va_K D cl tys s) (hP : va_P D cl ws H) (hD : va_D A ws) (hS : va_S A H0 H locs) (q0 t0 : Nat) {E : String} {cA : ClassId} {n : Nat} {f : Nat → Option Nat} {o : Option Nat} (ha : ws[q0]? = some (a, .inl (cA, n, .inr (.inr (.inr (.inr f)))))) (ht : tys[t0]? = some (cA, .object E)) (hr : ∀ v, o = some v → va_Any E s H v) {i : Int32} (hin : vp_in i n) (hdg : decode cc pc = .ok (.aastore, 1))
    (kk : ∀ (H1 : Heap) (locs1 : List Loc), va_P D cl (ws.set q0 (a, .inl (cA, n, .inr (.inr (.inr (.inr (va_up f i.toNatClampNeg o))))))) H1 → va_D A (ws.set q0 (a, .inl (cA, n, .inr (.inr (.inr (.inr (va_up f i.toNatClampNeg o))))))) → va_S A H0 H1 locs1 → W p l e R s m args below meth c H1 locs1 cells slots Q (F0 m (pc + 1) ls rest)) : W p l e R s m args below meth c H locs cells slots Q (F0 m pc ls (va_rf o :: .int i :: .ref a :: rest)) := by
  cases o with
  | none => exact va_astqN hexec hb hK hP hD hS q0 t0 ha ht hin hdg kk
  | some v => exact va_astqM hexec hb hK hP hD hS q0 t0 ha ht (hr v rfl) hin hdg kk
theorem kcQ {S : Type} {post : Option Nat → S → Prop} {wB : S → va_W} {mc ms : Nat} {a : Array Value} (hP : va_P D vwCl wo H) (hD : va_D A wo) (hS : va_S A H0 H locs) (hA : ∀ q, H0.size ≤ q → A q) (isC isR : List Nat) (hC : isC.map (fun i => wo[i]?) = wc.map some) (hR : isR.map (fun i => wo[i]?) = wr.map some) (hn : va_nd isC = true ∧ va_nd isR = true ∧ ∀ i ∈ isR, i ∉ isC)
    (hr : va_P D vwCl wc H → va_D A wc → va_Run p l e R s m args below meth c H locs cells slots mc ms (F0 m pc ls st0) rest (kQq D wc H.size post wB a) (va_A wc H.size))
    (kk : ∀ (r : Option Nat) (u : S) (H1 : Heap) (locs1 : List Loc), post r u → va_P D vwCl (wr ++ wB u) H1 → va_D A (wr ++ wB u) → va_S A H0 H1 locs1 → W p l e R s m args below meth c H1 locs1 (cells + mc) (slots + ms) Q (F0 m (pc + 3) ls (va_rf r :: rest))) : W p l e R s m args below meth c H locs cells slots Q (F0 m pc ls st0) := by
  have hF := va_free (wc := wc) hD hS hA isC hC
  refine va_callq (hr (hP.sub isC (k_fm hC)) (hD.sub isC hn.1 hC)) hS (fun q _ h => hF q h) hF (fun r u t H1 locs1 ht hvm hw hB hz1 hk1 hS1 => ?_)
  obtain ⟨hP1, hD1⟩ := hB
  rw [ht] at hP1
  obtain ⟨h1, h2⟩ := va_join hP hD isC isR hC hR hn.2.1 hn.2.2 hk1 hF hP1 hD1
  exact kk r u H1 locs1 hw h1 h2 hS1
end KAST
section KMETQ
variable {l : Launch} {y : MethodName} {ws ws' : List Cond} {cc : ByteArray} {maxL : Nat} {rm : Room} {D : va_G} {tys : List (ClassId × FieldType)} {sz : Nat} {av : List Value} {wc : va_W} {mc ms : Nat}
theorem kMetQ {S : Type} {cn : String} {post : Option Nat → S → Prop} {wB : S → va_W} (hy : plainName y.cls = true) (hw : ws = Cond.code y cc maxL (some (.object cn)) :: ws') (hlen : (lg_sl av).length ≤ maxL)
    (body : ∀ (p : Program) (e : Env) (s : State) (m : MethodId) (args : Array Value) (below : List Frame) (meth : Method) (c : Code) (H : Heap) (ls : Array Slot) (A : Nat → Prop) (Q : State → Prop), CallFix p m c cc maxL s args ws y.cls → va_K D vwCl tys s → kN s → va_P D vwCl wc H → va_D A wc → va_S A H H [] → (∀ q, H.size ≤ q → A q) → lv_has ls maxL (lv_args 0 av) →
      (∀ (pc : Nat) (ls : Array Slot) (r : Option Nat) (u : S) (H1 : Heap) (locs : List Loc), post r u → va_P D vwCl (wB u) H1 → va_D A (wB u) → va_S A H H1 locs → decode cc pc = .ok (.areturn, 1) → W p l e rm s m args below meth c H1 locs mc ms Q (F0 m pc ls [va_rf r])) →
      W p l e rm s m args below meth c H [] 0 0 Q (F0 m 0 ls [])) : Met l y ws rm (kP D tys sz av wc) (kQq D wc sz post wB) mc ms (va_A wc sz) := by
  refine Met.ofW (cc := cc) (maxL := maxL) (ret := some (.object cn)) hy hw ?_
  intro p e s m args below meth c s₁ B hml hv
  obtain ⟨rfl, hsz, hP, hK, hD0, hN⟩ := hv
  have hlocks := B.notSynchronized
  have hown : s.vm.findClass y.cls = some m.cls := findClass_of_methodNamed B.named
  subst hsz
  have hD := hD0.self (sz := s.heap.size)
  rw [lg_entry_eq]
  refine body p e s m _ below meth c s.heap _ (va_A wc s.heap.size) _ ⟨B.exec, B.bytes, hml, hown, atoms_spec (ws := ws) B.pre⟩ hK hN hP hD va_S.rf (fun q h => Or.inr h) (lv_entry av hlen) ?_
  intro pc ls r u H1 locs hpost hP1 hD1 hS1 hdg
  exact W.aret (v := va_rf r) B.exec B.bytes B.returns (Or.inl ⟨cn, rfl⟩) (va_rf_or r) (fun t ht hW => ⟨⟨r, u, rfl, hpost, by show va_P _ _ _ t.heap; rw [ht]; exact hP1, hD1⟩, hS1.F ht⟩) hS1.2.2 hdg
end KMETQ
theorem nm7_newNode : kNm yX7_newNode 3 := by decide +kernel
theorem nm7_isOfKind : kNm yX7_isOfKind 2 := by decide +kernel
theorem nm7_plant : kNm yX7_plant 3 := by decide +kernel
theorem nm7_operate : kNm yX7_operate 3 := by decide +kernel
theorem nm7_castNode : kNm yX7_castNode 2 := by decide +kernel
abbrev rm7_newNode : Room := { frames := 5, cells := 1, slots := 3, locals := 115 }
abbrev rm7_plant : Room := { frames := 6, cells := 1, slots := 3, locals := 137 }
abbrev rm7_isOfKind : Room := { frames := 0, cells := 0, slots := 0, locals := 0 }
abbrev rm7_operate : Room := { frames := 6, cells := 0, slots := 0, locals := 126 }
abbrev rm7_castNode : Room := { frames := 1, cells := 0, slots := 0, locals := 22 }
def w7_newNode (v0 v1 v2 : Int32) (post : Option Nat → va_W → Prop) : Prop :=
  ((v0.toInt < 0 ∨ 4 < v0.toInt) → post none []) ∧ (¬ (v0.toInt < 0 ∨ 4 < v0.toInt) → ∀ q, post (some q) [(q, nd (nCl v0) v0 v1 v2)])
set_option maxHeartbeats 4000000 in
set_option maxRecDepth 100000 in
theorem c7_newNode (l : Launch) (D : va_G) (cI cJ cN cR : ClassId) (sz : Nat) (v0 v1 v2 : Int32) (post : Option Nat → va_W → Prop) (hw : w7_newNode v0 v1 v2 post) : Met l yX7_newNode (kV yX7_newNode cX7_newNode 3 (some (.object "SternBrocotExplorer$Node"))) rm7_newNode (kP D (kT cI cJ cN cR) sz [.int v0, .int v1, .int v2] []) (kQq D [] sz post (fun (u : va_W) => u)) 1 3 (va_A [] sz) := by
  refine kMetQ (cc := cX7_newNode) (maxL := 3) (by decide +kernel) rfl (Nat.le_of_ble_eq_true rfl) ?_
  intro p e s m args below meth c H0 ls A Q C0 hK hN hP hD hS hA hl RET
  obtain ⟨hx, hb, hml, hown, hts⟩ := id C0
  have hl : lv_has ls 3 [(0, .int v0), (1, .int v1), (2, .int v2)] := hl
  have hX : ∀ w ∈ kX, w ∈ kV yX7_newNode cX7_newNode 3 (some (.object "SternBrocotExplorer$Node")) := fun w h => List.mem_cons_of_mem _ h
  have hF : ∀ w ∈ kF, w ∈ kV yX7_newNode cX7_newNode 3 (some (.object "SternBrocotExplorer$Node")) := fun w h => hX w (kx_F w h)
  unfold w7_newNode at hw
  have hP : va_P D vwCl [] H0 := hP
  refine lv_iload_n hx hb dX7_newNode_0 rfl (lv_at hl 0 rfl) ?_
  by_cases ho : v0.toInt < 0 ∨ 4 < v0.toInt
  · have hw := hw.1 ho
    refine lv_tableOut (tgt := 89) hx hb dX7_newNode_1 ho (by decide) ?_
    refine W.widen (k := 1) (n := 3) (by omega) (by omega) ?_
    refine lv_null hx hb dX7_newNode_89 ?_
    exact RET _ _ none [] _ _ hw hP hD hS dX7_newNode_90
  have hw := hw.2 ho
  rcases (show v0.toInt = 0 ∨ v0.toInt = 1 ∨ v0.toInt = 2 ∨ v0.toInt = 3 ∨ v0.toInt = 4 by omega) with h9 | h9 | h9 | h9 | h9
  · have e0 : v0 = (0 : Int32) := Int32.toInt_inj.mp (h9.trans (by decide))
    refine lv_tableIn (tgt := 36) hx hb dX7_newNode_1 (by rw [h9]; decide) (by rw [h9]; decide) (by rw [h9]; rfl) (by decide) ?_
    subst e0
    refine va_new (ci := 3) (fs := [.int 0, .int 0, .int 0]) (C := RX3) (T := TX3) (N := 3) hx hb hts (fun w h => hF w (k_tX3 w h)) tyX3 tyX3_ok hown (hts _ (hX _ kx_cX3)) (hts _ (hX _ kx_xX3)) (hts _ (hF _ k_nX3)) hK hP hD hS hA rfl (fun j hj => by rcases (show j = 0 ∨ j = 1 ∨ j = 2 by omega) with rfl | rfl | rfl <;> rfl) (Nat.le_of_ble_eq_true rfl) (Nat.le_of_ble_eq_true rfl) dX7_newNode_36 (fun q H hP hD hS => ?_)
    have hP : va_P D vwCl [(q, nd 3 0 0 0)] H := hP
    have hD : va_D A [(q, nd 3 0 0 0)] := hD
    refine lv_dup hx hb dX7_newNode_39 rfl ?_
    refine lv_iconst (v := (0 : Int32)) hx hb dX7_newNode_40 (by decide) ?_
    refine lv_iload_n hx hb dX7_newNode_41 rfl (lv_at hl 1 rfl) ?_
    refine lv_iload_n hx hb dX7_newNode_42 rfl (lv_at hl 2 rfl) ?_
    refine kcV (wc := [(q, nd 3 0 0 0)]) (wr := []) hP hD hS hA [0] [] rfl rfl ⟨rfl, rfl, by decide⟩ (fun hPc hDc => k_rI (As := [.int (0 : Int32), .int v1, .int v2]) (rest := [.ref q]) C0 hK hN hF (cF_init3 l D cI cJ cN cR rfl k_tX3 H.size q 0 0 0 (0 : Int32) v1 v2) 3 (hX _ kx_iX3) k_iX3_init k_nX3 k_cX3_init ⟨rfl, rfl⟩ rfl nm_X3_init ⟨Nat.le_of_ble_eq_true rfl, Nat.le_of_ble_eq_true rfl⟩ rfl hl.1 rfl (Nat.le_of_ble_eq_true rfl) dX7_newNode_43 ⟨Nat.le_of_ble_eq_true rfl, Nat.le_of_ble_eq_true rfl⟩ hPc hDc) (fun u H locs hw9 hP hD hS => ?_)
    exact RET _ _ (some q) [(q, nd 3 (0 : Int32) v1 v2)] _ _ (hw q) hP hD hS dX7_newNode_46
  · have e0 : v0 = (1 : Int32) := Int32.toInt_inj.mp (h9.trans (by decide))
    refine lv_tableIn (tgt := 47) hx hb dX7_newNode_1 (by rw [h9]; decide) (by rw [h9]; decide) (by rw [h9]; rfl) (by decide) ?_
    subst e0
    refine va_new (ci := 0) (fs := [.int 0, .int 0, .int 0]) (C := RX0) (T := TX3) (N := 3) hx hb hts (fun w h => hF w (k_tX0 w h)) tyX3 tyX3_ok hown (hts _ (hX _ kx_cX0)) (hts _ (hX _ kx_xX0)) (hts _ (hF _ k_nX0)) hK hP hD hS hA rfl (fun j hj => by rcases (show j = 0 ∨ j = 1 ∨ j = 2 by omega) with rfl | rfl | rfl <;> rfl) (Nat.le_of_ble_eq_true rfl) (Nat.le_of_ble_eq_true rfl) dX7_newNode_47 (fun q H hP hD hS => ?_)
    have hP : va_P D vwCl [(q, nd 0 0 0 0)] H := hP
    have hD : va_D A [(q, nd 0 0 0 0)] := hD
    refine lv_dup hx hb dX7_newNode_50 rfl ?_
    refine lv_iconst (v := (1 : Int32)) hx hb dX7_newNode_51 (by decide) ?_
    refine lv_iload_n hx hb dX7_newNode_52 rfl (lv_at hl 1 rfl) ?_
    refine lv_iload_n hx hb dX7_newNode_53 rfl (lv_at hl 2 rfl) ?_
    refine kcV (wc := [(q, nd 0 0 0 0)]) (wr := []) hP hD hS hA [0] [] rfl rfl ⟨rfl, rfl, by decide⟩ (fun hPc hDc => k_rI (As := [.int (1 : Int32), .int v1, .int v2]) (rest := [.ref q]) C0 hK hN hF (cF_init0 l D cI cJ cN cR rfl k_tX0 H.size q 0 0 0 (1 : Int32) v1 v2) 3 (hX _ kx_iX0) k_iX0_init k_nX0 k_cX0_init ⟨rfl, rfl⟩ rfl nm_X0_init ⟨Nat.le_of_ble_eq_true rfl, Nat.le_of_ble_eq_true rfl⟩ rfl hl.1 rfl (Nat.le_of_ble_eq_true rfl) dX7_newNode_54 ⟨Nat.le_of_ble_eq_true rfl, Nat.le_of_ble_eq_true rfl⟩ hPc hDc) (fun u H locs hw9 hP hD hS => ?_)
    exact RET _ _ (some q) [(q, nd 0 (1 : Int32) v1 v2)] _ _ (hw q) hP hD hS dX7_newNode_57
  · have e0 : v0 = (2 : Int32) := Int32.toInt_inj.mp (h9.trans (by decide))
    refine lv_tableIn (tgt := 58) hx hb dX7_newNode_1 (by rw [h9]; decide) (by rw [h9]; decide) (by rw [h9]; rfl) (by decide) ?_
    subst e0
    refine va_new (ci := 6) (fs := [.int 0, .int 0, .int 0]) (C := RX6) (T := TX3) (N := 3) hx hb hts (fun w h => hF w (k_tX6 w h)) tyX3 tyX3_ok hown (hts _ (hX _ kx_cX6)) (hts _ (hX _ kx_xX6)) (hts _ (hF _ k_nX6)) hK hP hD hS hA rfl (fun j hj => by rcases (show j = 0 ∨ j = 1 ∨ j = 2 by omega) with rfl | rfl | rfl <;> rfl) (Nat.le_of_ble_eq_true rfl) (Nat.le_of_ble_eq_true rfl) dX7_newNode_58 (fun q H hP hD hS => ?_)
    have hP : va_P D vwCl [(q, nd 6 0 0 0)] H := hP
    have hD : va_D A [(q, nd 6 0 0 0)] := hD
    refine lv_dup hx hb dX7_newNode_61 rfl ?_
    refine lv_iconst (v := (2 : Int32)) hx hb dX7_newNode_62 (by decide) ?_
    refine lv_iload_n hx hb dX7_newNode_63 rfl (lv_at hl 1 rfl) ?_
    refine lv_iload_n hx hb dX7_newNode_64 rfl (lv_at hl 2 rfl) ?_
    refine kcV (wc := [(q, nd 6 0 0 0)]) (wr := []) hP hD hS hA [0] [] rfl rfl ⟨rfl, rfl, by decide⟩ (fun hPc hDc => k_rI (As := [.int (2 : Int32), .int v1, .int v2]) (rest := [.ref q]) C0 hK hN hF (cF_init6 l D cI cJ cN cR rfl k_tX6 H.size q 0 0 0 (2 : Int32) v1 v2) 3 (hX _ kx_iX6) k_iX6_init k_nX6 k_cX6_init ⟨rfl, rfl⟩ rfl nm_X6_init ⟨Nat.le_of_ble_eq_true rfl, Nat.le_of_ble_eq_true rfl⟩ rfl hl.1 rfl (Nat.le_of_ble_eq_true rfl) dX7_newNode_65 ⟨Nat.le_of_ble_eq_true rfl, Nat.le_of_ble_eq_true rfl⟩ hPc hDc) (fun u H locs hw9 hP hD hS => ?_)
    exact RET _ _ (some q) [(q, nd 6 (2 : Int32) v1 v2)] _ _ (hw q) hP hD hS dX7_newNode_68
  · have e0 : v0 = (3 : Int32) := Int32.toInt_inj.mp (h9.trans (by decide))
    refine lv_tableIn (tgt := 69) hx hb dX7_newNode_1 (by rw [h9]; decide) (by rw [h9]; decide) (by rw [h9]; rfl) (by decide) ?_
    subst e0
    refine va_new (ci := 2) (fs := [.int 0, .int 0, .int 0]) (C := RX2) (T := TX3) (N := 3) hx hb hts (fun w h => hF w (k_tX2 w h)) tyX3 tyX3_ok hown (hts _ (hX _ kx_cX2)) (hts _ (hX _ kx_xX2)) (hts _ (hF _ k_nX2)) hK hP hD hS hA rfl (fun j hj => by rcases (show j = 0 ∨ j = 1 ∨ j = 2 by omega) with rfl | rfl | rfl <;> rfl) (Nat.le_of_ble_eq_true rfl) (Nat.le_of_ble_eq_true rfl) dX7_newNode_69 (fun q H hP hD hS => ?_)
    have hP : va_P D vwCl [(q, nd 2 0 0 0)] H := hP
    have hD : va_D A [(q, nd 2 0 0 0)] := hD
    refine lv_dup hx hb dX7_newNode_72 rfl ?_
    refine lv_iload_n hx hb dX7_newNode_73 rfl (lv_at hl 1 rfl) ?_
    refine lv_iload_n hx hb dX7_newNode_74 rfl (lv_at hl 2 rfl) ?_
    refine kcV (wc := [(q, nd 2 0 0 0)]) (wr := []) hP hD hS hA [0] [] rfl rfl ⟨rfl, rfl, by decide⟩ (fun hPc hDc => k_rI (As := [.int v1, .int v2]) (rest := [.ref q]) C0 hK hN hF (cF_init2 l D cI cJ cN cR rfl k_tX2 H.size q 0 0 0 0 v1 v2) 2 (hX _ kx_iX2) k_iX2_init k_nX2 k_cX2_init ⟨rfl, rfl⟩ rfl nm_X2_init ⟨Nat.le_of_ble_eq_true rfl, Nat.le_of_ble_eq_true rfl⟩ rfl hl.1 rfl (Nat.le_of_ble_eq_true rfl) dX7_newNode_75 ⟨Nat.le_of_ble_eq_true rfl, Nat.le_of_ble_eq_true rfl⟩ hPc hDc) (fun u H locs hw9 hP hD hS => ?_)
    exact RET _ _ (some q) [(q, nd 2 (3 : Int32) v1 v2)] _ _ (hw q) hP hD hS dX7_newNode_78
  · have e0 : v0 = (4 : Int32) := Int32.toInt_inj.mp (h9.trans (by decide))
    refine lv_tableIn (tgt := 79) hx hb dX7_newNode_1 (by rw [h9]; decide) (by rw [h9]; decide) (by rw [h9]; rfl) (by decide) ?_
    subst e0
    refine va_new (ci := 5) (fs := [.int 0, .int 0, .int 0]) (C := RX5) (T := TX3) (N := 3) hx hb hts (fun w h => hF w (k_tX5 w h)) tyX3 tyX3_ok hown (hts _ (hX _ kx_cX5)) (hts _ (hX _ kx_xX5)) (hts _ (hF _ k_nX5)) hK hP hD hS hA rfl (fun j hj => by rcases (show j = 0 ∨ j = 1 ∨ j = 2 by omega) with rfl | rfl | rfl <;> rfl) (Nat.le_of_ble_eq_true rfl) (Nat.le_of_ble_eq_true rfl) dX7_newNode_79 (fun q H hP hD hS => ?_)
    have hP : va_P D vwCl [(q, nd 5 0 0 0)] H := hP
    have hD : va_D A [(q, nd 5 0 0 0)] := hD
    refine lv_dup hx hb dX7_newNode_82 rfl ?_
    refine lv_iload_n hx hb dX7_newNode_83 rfl (lv_at hl 1 rfl) ?_
    refine lv_iload_n hx hb dX7_newNode_84 rfl (lv_at hl 2 rfl) ?_
    refine kcV (wc := [(q, nd 5 0 0 0)]) (wr := []) hP hD hS hA [0] [] rfl rfl ⟨rfl, rfl, by decide⟩ (fun hPc hDc => k_rI (As := [.int v1, .int v2]) (rest := [.ref q]) C0 hK hN hF (cF_init5 l D cI cJ cN cR rfl k_tX5 H.size q 0 0 0 0 v1 v2) 2 (hX _ kx_iX5) k_iX5_init k_nX5 k_cX5_init ⟨rfl, rfl⟩ rfl nm_X5_init ⟨Nat.le_of_ble_eq_true rfl, Nat.le_of_ble_eq_true rfl⟩ rfl hl.1 rfl (Nat.le_of_ble_eq_true rfl) dX7_newNode_85 ⟨Nat.le_of_ble_eq_true rfl, Nat.le_of_ble_eq_true rfl⟩ hPc hDc) (fun u H locs hw9 hP hD hS => ?_)
    exact RET _ _ (some q) [(q, nd 5 (4 : Int32) v1 v2)] _ _ (hw q) hP hD hS dX7_newNode_88
/-- isOfKind of a node of class ci -/
def kO (ci : Nat) (v : Int32) : Int32 := if v = 0 then 1 else if v = 1 then (if ci = 0 ∨ ci = 6 ∨ ci = 2 then 1 else 0) else if v = 2 then (if ci = 6 ∨ ci = 2 then 1 else 0) else if v = 3 then (if ci = 2 then 1 else 0) else (if ci = 5 then 1 else 0)
set_option maxHeartbeats 4000000 in
set_option maxRecDepth 100000 in
theorem c7_isOfKind_3 (l : Launch) (D : va_G) (cI cJ cN cR : ClassId) (h0 : Nat) (k t b v1 : Int32) : Met l yX7_isOfKind (kV yX7_isOfKind cX7_isOfKind 2 (some .boolean)) rm7_isOfKind (kR D (kT cI cJ cN cR) [.ref h0, .int v1] [(h0, nd 3 k t b)]) (vp_Si (fun r => narrow .boolean (.int r) = .int r ∧ r = kO 3 v1)) 0 0 (fun _ => False) := by
  refine kMetRZ (cc := cX7_isOfKind) (maxL := 2) (by decide +kernel) rfl (Nat.le_of_ble_eq_true rfl) ?_
  intro p e s m args below meth c H ls Q C0 hK hN hP hl RET
  obtain ⟨hx, hb, hml, hown, hts⟩ := id C0
  have hl : lv_has ls 2 [(0, .ref h0), (1, .int v1)] := hl
  have hX : ∀ w ∈ kX, w ∈ kV yX7_isOfKind cX7_isOfKind 2 (some .boolean) := fun w h => List.mem_cons_of_mem _ h
  have hrc := va_recv hK hP (q := (RX3, TX3, 3)) (ci := 3) rfl (q0 := 0) rfl
  refine lv_iload_n hx hb dX7_isOfKind_0 rfl (lv_at hl 1 rfl) ?_
  by_cases ho : v1.toInt < 0 ∨ 3 < v1.toInt
  · have e0 : ¬ v1 = 0 := fun h => by rw [h] at ho; exact absurd ho (by decide)
    have e1 : ¬ v1 = 1 := fun h => by rw [h] at ho; exact absurd ho (by decide)
    have e2 : ¬ v1 = 2 := fun h => by rw [h] at ho; exact absurd ho (by decide)
    have e3 : ¬ v1 = 3 := fun h => by rw [h] at ho; exact absurd ho (by decide)
    have ev : kO 3 v1 = 0 := by unfold kO; rw [if_neg e0, if_neg e1, if_neg e2, if_neg e3]; rfl
    refine lv_tableOut (tgt := 49) hx hb dX7_isOfKind_1 ho (by decide) ?_
    refine lv_aload_n hx hb dX7_isOfKind_49 rfl (lv_at hl 0 rfl) ?_
    refine va_instNo hx hb hown (hts _ (hX _ kx_cX5)) (hN.2.2.1 (RX3, RX5) (List.mem_of_getElem? (i := 3) rfl)) hrc dX7_isOfKind_50 ?_
    exact RET _ _ _ rfl ev.symm dX7_isOfKind_53
  rcases (show v1.toInt = 0 ∨ v1.toInt = 1 ∨ v1.toInt = 2 ∨ v1.toInt = 3 by omega) with h9 | h9 | h9 | h9
  · have e0 : v1 = (0 : Int32) := Int32.toInt_inj.mp (h9.trans (by decide))
    refine lv_tableIn (tgt := 32) hx hb dX7_isOfKind_1 (by rw [h9]; decide) (by rw [h9]; decide) (by rw [h9]; rfl) (by decide) ?_
    subst e0
    refine lv_iconst (v := (1 : Int32)) hx hb dX7_isOfKind_32 (by decide) ?_
    exact RET _ _ _ rfl rfl dX7_isOfKind_33
  · have e0 : v1 = (1 : Int32) := Int32.toInt_inj.mp (h9.trans (by decide))
    refine lv_tableIn (tgt := 34) hx hb dX7_isOfKind_1 (by rw [h9]; decide) (by rw [h9]; decide) (by rw [h9]; rfl) (by decide) ?_
    subst e0
    refine lv_aload_n hx hb dX7_isOfKind_34 rfl (lv_at hl 0 rfl) ?_
    refine va_instNo hx hb hown (hts _ (hX _ kx_cX0)) (hN.2.2.1 (RX3, RX0) (List.mem_of_getElem? (i := 0) rfl)) hrc dX7_isOfKind_35 ?_
    exact RET _ _ _ rfl rfl dX7_isOfKind_38
  · have e0 : v1 = (2 : Int32) := Int32.toInt_inj.mp (h9.trans (by decide))
    refine lv_tableIn (tgt := 39) hx hb dX7_isOfKind_1 (by rw [h9]; decide) (by rw [h9]; decide) (by rw [h9]; rfl) (by decide) ?_
    subst e0
    refine lv_aload_n hx hb dX7_isOfKind_39 rfl (lv_at hl 0 rfl) ?_
    refine va_instNo hx hb hown (hts _ (hX _ kx_cX6)) (hN.2.2.1 (RX3, RX6) (List.mem_of_getElem? (i := 1) rfl)) hrc dX7_isOfKind_40 ?_
    exact RET _ _ _ rfl rfl dX7_isOfKind_43
  · have e0 : v1 = (3 : Int32) := Int32.toInt_inj.mp (h9.trans (by decide))
    refine lv_tableIn (tgt := 44) hx hb dX7_isOfKind_1 (by rw [h9]; decide) (by rw [h9]; decide) (by rw [h9]; rfl) (by decide) ?_
    subst e0
    refine lv_aload_n hx hb dX7_isOfKind_44 rfl (lv_at hl 0 rfl) ?_
    refine va_instNo hx hb hown (hts _ (hX _ kx_cX2)) (hN.2.2.1 (RX3, RX2) (List.mem_of_getElem? (i := 2) rfl)) hrc dX7_isOfKind_45 ?_
    exact RET _ _ _ rfl rfl dX7_isOfKind_48
set_option maxHeartbeats 4000000 in
set_option maxRecDepth 100000 in
theorem c7_isOfKind_0 (l : Launch) (D : va_G) (cI cJ cN cR : ClassId) (h0 : Nat) (k t b v1 : Int32) : Met l yX7_isOfKind (kV yX7_isOfKind cX7_isOfKind 2 (some .boolean)) rm7_isOfKind (kR D (kT cI cJ cN cR) [.ref h0, .int v1] [(h0, nd 0 k t b)]) (vp_Si (fun r => narrow .boolean (.int r) = .int r ∧ r = kO 0 v1)) 0 0 (fun _ => False) := by
  refine kMetRZ (cc := cX7_isOfKind) (maxL := 2) (by decide +kernel) rfl (Nat.le_of_ble_eq_true rfl) ?_
  intro p e s m args below meth c H ls Q C0 hK hN hP hl RET
  obtain ⟨hx, hb, hml, hown, hts⟩ := id C0
  have hl : lv_has ls 2 [(0, .ref h0), (1, .int v1)] := hl
  have hX : ∀ w ∈ kX, w ∈ kV yX7_isOfKind cX7_isOfKind 2 (some .boolean) := fun w h => List.mem_cons_of_mem _ h
  have hrc := va_recv hK hP (q := (RX0, TX0, 3)) (ci := 0) rfl (q0 := 0) rfl
  refine lv_iload_n hx hb dX7_isOfKind_0 rfl (lv_at hl 1 rfl) ?_
  by_cases ho : v1.toInt < 0 ∨ 3 < v1.toInt
  · have e0 : ¬ v1 = 0 := fun h => by rw [h] at ho; exact absurd ho (by decide)
    have e1 : ¬ v1 = 1 := fun h => by rw [h] at ho; exact absurd ho (by decide)
    have e2 : ¬ v1 = 2 := fun h => by rw [h] at ho; exact absurd ho (by decide)
    have e3 : ¬ v1 = 3 := fun h => by rw [h] at ho; exact absurd ho (by decide)
    have ev : kO 0 v1 = 0 := by unfold kO; rw [if_neg e0, if_neg e1, if_neg e2, if_neg e3]; rfl
    refine lv_tableOut (tgt := 49) hx hb dX7_isOfKind_1 ho (by decide) ?_
    refine lv_aload_n hx hb dX7_isOfKind_49 rfl (lv_at hl 0 rfl) ?_
    refine va_instNo hx hb hown (hts _ (hX _ kx_cX5)) (hN.2.2.1 (RX0, RX5) (List.mem_of_getElem? (i := 6) rfl)) hrc dX7_isOfKind_50 ?_
    exact RET _ _ _ rfl ev.symm dX7_isOfKind_53
  rcases (show v1.toInt = 0 ∨ v1.toInt = 1 ∨ v1.toInt = 2 ∨ v1.toInt = 3 by omega) with h9 | h9 | h9 | h9
  · have e0 : v1 = (0 : Int32) := Int32.toInt_inj.mp (h9.trans (by decide))
    refine lv_tableIn (tgt := 32) hx hb dX7_isOfKind_1 (by rw [h9]; decide) (by rw [h9]; decide) (by rw [h9]; rfl) (by decide) ?_
    subst e0
    refine lv_iconst (v := (1 : Int32)) hx hb dX7_isOfKind_32 (by decide) ?_
    exact RET _ _ _ rfl rfl dX7_isOfKind_33
  · have e0 : v1 = (1 : Int32) := Int32.toInt_inj.mp (h9.trans (by decide))
    refine lv_tableIn (tgt := 34) hx hb dX7_isOfKind_1 (by rw [h9]; decide) (by rw [h9]; decide) (by rw [h9]; rfl) (by decide) ?_
    subst e0
    refine lv_aload_n hx hb dX7_isOfKind_34 rfl (lv_at hl 0 rfl) ?_
    refine va_instS hx hb hown (hts _ (hX _ kx_cX0)) (hK.1 0 (RX0, TX0, 3) rfl).2 hrc dX7_isOfKind_35 ?_
    exact RET _ _ _ rfl rfl dX7_isOfKind_38
  · have e0 : v1 = (2 : Int32) := Int32.toInt_inj.mp (h9.trans (by decide))
    refine lv_tableIn (tgt := 39) hx hb dX7_isOfKind_1 (by rw [h9]; decide) (by rw [h9]; decide) (by rw [h9]; rfl) (by decide) ?_
    subst e0
    refine lv_aload_n hx hb dX7_isOfKind_39 rfl (lv_at hl 0 rfl) ?_
    refine va_instNo hx hb hown (hts _ (hX _ kx_cX6)) (hN.2.2.1 (RX0, RX6) (List.mem_of_getElem? (i := 4) rfl)) hrc dX7_isOfKind_40 ?_
    exact RET _ _ _ rfl rfl dX7_isOfKind_43
  · have e0 : v1 = (3 : Int32) := Int32.toInt_inj.mp (h9.trans (by decide))
    refine lv_tableIn (tgt := 44) hx hb dX7_isOfKind_1 (by rw [h9]; decide) (by rw [h9]; decide) (by rw [h9]; rfl) (by decide) ?_
    subst e0
    refine lv_aload_n hx hb dX7_isOfKind_44 rfl (lv_at hl 0 rfl) ?_
    refine va_instNo hx hb hown (hts _ (hX _ kx_cX2)) (hN.2.2.1 (RX0, RX2) (List.mem_of_getElem? (i := 5) rfl)) hrc dX7_isOfKind_45 ?_
    exact RET _ _ _ rfl rfl dX7_isOfKind_48
set_option maxHeartbeats 4000000 in
set_option maxRecDepth 100000 in
theorem c7_isOfKind_6 (l : Launch) (D : va_G) (cI cJ cN cR : ClassId) (h0 : Nat) (k t b v1 : Int32) : Met l yX7_isOfKind (kV yX7_isOfKind cX7_isOfKind 2 (some .boolean)) rm7_isOfKind (kR D (kT cI cJ cN cR) [.ref h0, .int v1] [(h0, nd 6 k t b)]) (vp_Si (fun r => narrow .boolean (.int r) = .int r ∧ r = kO 6 v1)) 0 0 (fun _ => False) := by
  refine kMetRZ (cc := cX7_isOfKind) (maxL := 2) (by decide +kernel) rfl (Nat.le_of_ble_eq_true rfl) ?_
  intro p e s m args below meth c H ls Q C0 hK hN hP hl RET
  obtain ⟨hx, hb, hml, hown, hts⟩ := id C0
  have hl : lv_has ls 2 [(0, .ref h0), (1, .int v1)] := hl
  have hX : ∀ w ∈ kX, w ∈ kV yX7_isOfKind cX7_isOfKind 2 (some .boolean) := fun w h => List.mem_cons_of_mem _ h
  have hrc := va_recv hK hP (q := (RX6, TX6, 3)) (ci := 6) rfl (q0 := 0) rfl
  refine lv_iload_n hx hb dX7_isOfKind_0 rfl (lv_at hl 1 rfl) ?_
  by_cases ho : v1.toInt < 0 ∨ 3 < v1.toInt
  · have e0 : ¬ v1 = 0 := fun h => by rw [h] at ho; exact absurd ho (by decide)
    have e1 : ¬ v1 = 1 := fun h => by rw [h] at ho; exact absurd ho (by decide)
    have e2 : ¬ v1 = 2 := fun h => by rw [h] at ho; exact absurd ho (by decide)
    have e3 : ¬ v1 = 3 := fun h => by rw [h] at ho; exact absurd ho (by decide)
    have ev : kO 6 v1 = 0 := by unfold kO; rw [if_neg e0, if_neg e1, if_neg e2, if_neg e3]; rfl
    refine lv_tableOut (tgt := 49) hx hb dX7_isOfKind_1 ho (by decide) ?_
    refine lv_aload_n hx hb dX7_isOfKind_49 rfl (lv_at hl 0 rfl) ?_
    refine va_instNo hx hb hown (hts _ (hX _ kx_cX5)) (hN.2.2.1 (RX6, RX5) (List.mem_of_getElem? (i := 8) rfl)) hrc dX7_isOfKind_50 ?_
    exact RET _ _ _ rfl ev.symm dX7_isOfKind_53
  rcases (show v1.toInt = 0 ∨ v1.toInt = 1 ∨ v1.toInt = 2 ∨ v1.toInt = 3 by omega) with h9 | h9 | h9 | h9
  · have e0 : v1 = (0 : Int32) := Int32.toInt_inj.mp (h9.trans (by decide))
    refine lv_tableIn (tgt := 32) hx hb dX7_isOfKind_1 (by rw [h9]; decide) (by rw [h9]; decide) (by rw [h9]; rfl) (by decide) ?_
    subst e0
    refine lv_iconst (v := (1 : Int32)) hx hb dX7_isOfKind_32 (by decide) ?_
    exact RET _ _ _ rfl rfl dX7_isOfKind_33
  · have e0 : v1 = (1 : Int32) := Int32.toInt_inj.mp (h9.trans (by decide))
    refine lv_tableIn (tgt := 34) hx hb dX7_isOfKind_1 (by rw [h9]; decide) (by rw [h9]; decide) (by rw [h9]; rfl) (by decide) ?_
    subst e0
    refine lv_aload_n hx hb dX7_isOfKind_34 rfl (lv_at hl 0 rfl) ?_
    refine va_instY hx hb hown (hts _ (hX _ kx_cX0)) (hN.2.1 (RX6, RX0) (List.mem_of_getElem? (i := 0) rfl)) hrc dX7_isOfKind_35 ?_
    exact RET _ _ _ rfl rfl dX7_isOfKind_38
  · have e0 : v1 = (2 : Int32) := Int32.toInt_inj.mp (h9.trans (by decide))
    refine lv_tableIn (tgt := 39) hx hb dX7_isOfKind_1 (by rw [h9]; decide) (by rw [h9]; decide) (by rw [h9]; rfl) (by decide) ?_
    subst e0
    refine lv_aload_n hx hb dX7_isOfKind_39 rfl (lv_at hl 0 rfl) ?_
    refine va_instS hx hb hown (hts _ (hX _ kx_cX6)) (hK.1 6 (RX6, TX6, 3) rfl).2 hrc dX7_isOfKind_40 ?_
    exact RET _ _ _ rfl rfl dX7_isOfKind_43
  · have e0 : v1 = (3 : Int32) := Int32.toInt_inj.mp (h9.trans (by decide))
    refine lv_tableIn (tgt := 44) hx hb dX7_isOfKind_1 (by rw [h9]; decide) (by rw [h9]; decide) (by rw [h9]; rfl) (by decide) ?_
    subst e0
    refine lv_aload_n hx hb dX7_isOfKind_44 rfl (lv_at hl 0 rfl) ?_
    refine va_instNo hx hb hown (hts _ (hX _ kx_cX2)) (hN.2.2.1 (RX6, RX2) (List.mem_of_getElem? (i := 7) rfl)) hrc dX7_isOfKind_45 ?_
    exact RET _ _ _ rfl rfl dX7_isOfKind_48
set_option maxHeartbeats 4000000 in
set_option maxRecDepth 100000 in
theorem c7_isOfKind_2 (l : Launch) (D : va_G) (cI cJ cN cR : ClassId) (h0 : Nat) (k t b v1 : Int32) : Met l yX7_isOfKind (kV yX7_isOfKind cX7_isOfKind 2 (some .boolean)) rm7_isOfKind (kR D (kT cI cJ cN cR) [.ref h0, .int v1] [(h0, nd 2 k t b)]) (vp_Si (fun r => narrow .boolean (.int r) = .int r ∧ r = kO 2 v1)) 0 0 (fun _ => False) := by
  refine kMetRZ (cc := cX7_isOfKind) (maxL := 2) (by decide +kernel) rfl (Nat.le_of_ble_eq_true rfl) ?_
  intro p e s m args below meth c H ls Q C0 hK hN hP hl RET
  obtain ⟨hx, hb, hml, hown, hts⟩ := id C0
  have hl : lv_has ls 2 [(0, .ref h0), (1, .int v1)] := hl
  have hX : ∀ w ∈ kX, w ∈ kV yX7_isOfKind cX7_isOfKind 2 (some .boolean) := fun w h => List.mem_cons_of_mem _ h
  have hrc := va_recv hK hP (q := (RX2, TX2, 3)) (ci := 2) rfl (q0 := 0) rfl
  refine lv_iload_n hx hb dX7_isOfKind_0 rfl (lv_at hl 1 rfl) ?_
  by_cases ho : v1.toInt < 0 ∨ 3 < v1.toInt
  · have e0 : ¬ v1 = 0 := fun h => by rw [h] at ho; exact absurd ho (by decide)
    have e1 : ¬ v1 = 1 := fun h => by rw [h] at ho; exact absurd ho (by decide)
    have e2 : ¬ v1 = 2 := fun h => by rw [h] at ho; exact absurd ho (by decide)
    have e3 : ¬ v1 = 3 := fun h => by rw [h] at ho; exact absurd ho (by decide)
    have ev : kO 2 v1 = 0 := by unfold kO; rw [if_neg e0, if_neg e1, if_neg e2, if_neg e3]; rfl
    refine lv_tableOut (tgt := 49) hx hb dX7_isOfKind_1 ho (by decide) ?_
    refine lv_aload_n hx hb dX7_isOfKind_49 rfl (lv_at hl 0 rfl) ?_
    refine va_instNo hx hb hown (hts _ (hX _ kx_cX5)) (hN.2.2.1 (RX2, RX5) (List.mem_of_getElem? (i := 9) rfl)) hrc dX7_isOfKind_50 ?_
    exact RET _ _ _ rfl ev.symm dX7_isOfKind_53
  rcases (show v1.toInt = 0 ∨ v1.toInt = 1 ∨ v1.toInt = 2 ∨ v1.toInt = 3 by omega) with h9 | h9 | h9 | h9
  · have e0 : v1 = (0 : Int32) := Int32.toInt_inj.mp (h9.trans (by decide))
    refine lv_tableIn (tgt := 32) hx hb dX7_isOfKind_1 (by rw [h9]; decide) (by rw [h9]; decide) (by rw [h9]; rfl) (by decide) ?_
    subst e0
    refine lv_iconst (v := (1 : Int32)) hx hb dX7_isOfKind_32 (by decide) ?_
    exact RET _ _ _ rfl rfl dX7_isOfKind_33
  · have e0 : v1 = (1 : Int32) := Int32.toInt_inj.mp (h9.trans (by decide))
    refine lv_tableIn (tgt := 34) hx hb dX7_isOfKind_1 (by rw [h9]; decide) (by rw [h9]; decide) (by rw [h9]; rfl) (by decide) ?_
    subst e0
    refine lv_aload_n hx hb dX7_isOfKind_34 rfl (lv_at hl 0 rfl) ?_
    refine va_instY hx hb hown (hts _ (hX _ kx_cX0)) (hN.2.1 (RX2, RX0) (List.mem_of_getElem? (i := 1) rfl)) hrc dX7_isOfKind_35 ?_
    exact RET _ _ _ rfl rfl dX7_isOfKind_38
  · have e0 : v1 = (2 : Int32) := Int32.toInt_inj.mp (h9.trans (by decide))
    refine lv_tableIn (tgt := 39) hx hb dX7_isOfKind_1 (by rw [h9]; decide) (by rw [h9]; decide) (by rw [h9]; rfl) (by decide) ?_
    subst e0
    refine lv_aload_n hx hb dX7_isOfKind_39 rfl (lv_at hl 0 rfl) ?_
    refine va_instY hx hb hown (hts _ (hX _ kx_cX6)) (hN.2.1 (RX2, RX6) (List.mem_of_getElem? (i := 2) rfl)) hrc dX7_isOfKind_40 ?_
    exact RET _ _ _ rfl rfl dX7_isOfKind_43
  · have e0 : v1 = (3 : Int32) := Int32.toInt_inj.mp (h9.trans (by decide))
    refine lv_tableIn (tgt := 44) hx hb dX7_isOfKind_1 (by rw [h9]; decide) (by rw [h9]; decide) (by rw [h9]; rfl) (by decide) ?_
    subst e0
    refine lv_aload_n hx hb dX7_isOfKind_44 rfl (lv_at hl 0 rfl) ?_
    refine va_instS hx hb hown (hts _ (hX _ kx_cX2)) (hK.1 2 (RX2, TX2, 3) rfl).2 hrc dX7_isOfKind_45 ?_
    exact RET _ _ _ rfl rfl dX7_isOfKind_48
set_option maxHeartbeats 4000000 in
set_option maxRecDepth 100000 in
theorem c7_isOfKind_5 (l : Launch) (D : va_G) (cI cJ cN cR : ClassId) (h0 : Nat) (k t b v1 : Int32) : Met l yX7_isOfKind (kV yX7_isOfKind cX7_isOfKind 2 (some .boolean)) rm7_isOfKind (kR D (kT cI cJ cN cR) [.ref h0, .int v1] [(h0, nd 5 k t b)]) (vp_Si (fun r => narrow .boolean (.int r) = .int r ∧ r = kO 5 v1)) 0 0 (fun _ => False) := by
  refine kMetRZ (cc := cX7_isOfKind) (maxL := 2) (by decide +kernel) rfl (Nat.le_of_ble_eq_true rfl) ?_
  intro p e s m args below meth c H ls Q C0 hK hN hP hl RET
  obtain ⟨hx, hb, hml, hown, hts⟩ := id C0
  have hl : lv_has ls 2 [(0, .ref h0), (1, .int v1)] := hl
  have hX : ∀ w ∈ kX, w ∈ kV yX7_isOfKind cX7_isOfKind 2 (some .boolean) := fun w h => List.mem_cons_of_mem _ h
  have hrc := va_recv hK hP (q := (RX5, TX5, 3)) (ci := 5) rfl (q0 := 0) rfl
  refine lv_iload_n hx hb dX7_isOfKind_0 rfl (lv_at hl 1 rfl) ?_
  by_cases ho : v1.toInt < 0 ∨ 3 < v1.toInt
  · have e0 : ¬ v1 = 0 := fun h => by rw [h] at ho; exact absurd ho (by decide)
    have e1 : ¬ v1 = 1 := fun h => by rw [h] at ho; exact absurd ho (by decide)
    have e2 : ¬ v1 = 2 := fun h => by rw [h] at ho; exact absurd ho (by decide)
    have e3 : ¬ v1 = 3 := fun h => by rw [h] at ho; exact absurd ho (by decide)
    have ev : kO 5 v1 = 1 := by unfold kO; rw [if_neg e0, if_neg e1, if_neg e2, if_neg e3]; rfl
    refine lv_tableOut (tgt := 49) hx hb dX7_isOfKind_1 ho (by decide) ?_
    refine lv_aload_n hx hb dX7_isOfKind_49 rfl (lv_at hl 0 rfl) ?_
    refine va_instS hx hb hown (hts _ (hX _ kx_cX5)) (hK.1 5 (RX5, TX5, 3) rfl).2 hrc dX7_isOfKind_50 ?_
    exact RET _ _ _ rfl ev.symm dX7_isOfKind_53
  rcases (show v1.toInt = 0 ∨ v1.toInt = 1 ∨ v1.toInt = 2 ∨ v1.toInt = 3 by omega) with h9 | h9 | h9 | h9
  · have e0 : v1 = (0 : Int32) := Int32.toInt_inj.mp (h9.trans (by decide))
    refine lv_tableIn (tgt := 32) hx hb dX7_isOfKind_1 (by rw [h9]; decide) (by rw [h9]; decide) (by rw [h9]; rfl) (by decide) ?_
    subst e0
    refine lv_iconst (v := (1 : Int32)) hx hb dX7_isOfKind_32 (by decide) ?_
    exact RET _ _ _ rfl rfl dX7_isOfKind_33
  · have e0 : v1 = (1 : Int32) := Int32.toInt_inj.mp (h9.trans (by decide))
    refine lv_tableIn (tgt := 34) hx hb dX7_isOfKind_1 (by rw [h9]; decide) (by rw [h9]; decide) (by rw [h9]; rfl) (by decide) ?_
    subst e0
    refine lv_aload_n hx hb dX7_isOfKind_34 rfl (lv_at hl 0 rfl) ?_
    refine va_instNo hx hb hown (hts _ (hX _ kx_cX0)) (hN.2.2.1 (RX5, RX0) (List.mem_of_getElem? (i := 10) rfl)) hrc dX7_isOfKind_35 ?_
    exact RET _ _ _ rfl rfl dX7_isOfKind_38
  · have e0 : v1 = (2 : Int32) := Int32.toInt_inj.mp (h9.trans (by decide))
    refine lv_tableIn (tgt := 39) hx hb dX7_isOfKind_1 (by rw [h9]; decide) (by rw [h9]; decide) (by rw [h9]; rfl) (by decide) ?_
    subst e0
    refine lv_aload_n hx hb dX7_isOfKind_39 rfl (lv_at hl 0 rfl) ?_
    refine va_instNo hx hb hown (hts _ (hX _ kx_cX6)) (hN.2.2.1 (RX5, RX6) (List.mem_of_getElem? (i := 11) rfl)) hrc dX7_isOfKind_40 ?_
    exact RET _ _ _ rfl rfl dX7_isOfKind_43
  · have e0 : v1 = (3 : Int32) := Int32.toInt_inj.mp (h9.trans (by decide))
    refine lv_tableIn (tgt := 44) hx hb dX7_isOfKind_1 (by rw [h9]; decide) (by rw [h9]; decide) (by rw [h9]; rfl) (by decide) ?_
    subst e0
    refine lv_aload_n hx hb dX7_isOfKind_44 rfl (lv_at hl 0 rfl) ?_
    refine va_instNo hx hb hown (hts _ (hX _ kx_cX2)) (hN.2.2.1 (RX5, RX2) (List.mem_of_getElem? (i := 12) rfl)) hrc dX7_isOfKind_45 ?_
    exact RET _ _ _ rfl rfl dX7_isOfKind_48
theorem c7_isOfKind (l : Launch) (D : va_G) (cI cJ cN cR : ClassId) (ci h0 : Nat) (hci : ci = 3 ∨ ci = 0 ∨ ci = 6 ∨ ci = 2 ∨ ci = 5) (k t b v1 : Int32) : Met l yX7_isOfKind (kV yX7_isOfKind cX7_isOfKind 2 (some .boolean)) rm7_isOfKind (kR D (kT cI cJ cN cR) [.ref h0, .int v1] [(h0, nd ci k t b)]) (vp_Si (fun r => narrow .boolean (.int r) = .int r ∧ r = kO ci v1)) 0 0 (fun _ => False) := by
  rcases hci with rfl | rfl | rfl | rfl | rfl
  · exact c7_isOfKind_3 l D cI cJ cN cR h0 k t b v1
  · exact c7_isOfKind_0 l D cI cJ cN cR h0 k t b v1
  · exact c7_isOfKind_6 l D cI cJ cN cR h0 k t b v1
  · exact c7_isOfKind_2 l D cI cJ cN cR h0 k t b v1
  · exact c7_isOfKind_5 l D cI cJ cN cR h0 k t b v1
def nGrow (ci : Nat) (x t : Int32) : Int32 := if ci = 3 then fG3 x t else if ci = 0 ∨ ci = 6 then fG0 x t else if ci = 2 then fG2 x t else fG5 x t
def nBend (ci : Nat) (x t b : Int32) : Int32 := if ci = 6 then fG0 x t * 3 - b + b else if ci = 2 then fG2 (fG2 x t) t * 3 - b + b else nGrow ci x t * 3 - b
def w7_castNode (L : List Nat) (kk : Nat → Int32) (f_slots : Nat → Option Nat) (v1 v2 : Int32) (post : Int32 → Prop) : Prop :=
  w7_isSlot v1 (fun r1 => (r1 = 0 → post (-1 : Int32)) ∧ (¬ r1 = 0 → w7_isIn v2 (0 : Int32) (4 : Int32) (fun r2 => (r2 = 0 → post (-1 : Int32)) ∧ (¬ r2 = 0 → vp_in v1 5 ∧ (f_slots v1.toNatClampNeg = none → post (-11 : Int32)) ∧ ∀ a, f_slots v1.toNatClampNeg = some a → a ∈ L ∧ (kO (nCl (kk a)) v2 = 0 → post (-12 : Int32)) ∧ (¬ kO (nCl (kk a)) v2 = 0 → post (kk a))))))
def w7_operate (L : List Nat) (kk tt bb : Nat → Int32) (f_slots : Nat → Option Nat) (v1 v2 v3 : Int32) (post : Int32 → Prop) : Prop :=
  w7_isSlot v1 (fun r1 => (r1 = 0 → post (0 : Int32)) ∧ (¬ r1 = 0 → w7_isIn v2 (0 : Int32) (1 : Int32) (fun r2 => (r2 = 0 → post (0 : Int32)) ∧ (¬ r2 = 0 → vp_in v1 5 ∧ (f_slots v1.toNatClampNeg = none → post (0 : Int32)) ∧ ∀ a, f_slots v1.toNatClampNeg = some a → a ∈ L ∧ (v2 = 0 → post (nGrow (nCl (kk a)) v3 (tt a))) ∧ (¬ v2 = 0 → post (nBend (nCl (kk a)) v3 (tt a) (bb a)))))))
def w7_plant (f_tops f_bottoms : Nat → Int32) (f_slots : Nat → Option Nat) (v1 v2 v3 : Int32) (post : Int32 → (Nat → Option Nat) → va_W → Prop) : Prop :=
  w7_isSlot v1 (fun r1 => (r1 = 0 → post (-1 : Int32) f_slots []) ∧ (¬ r1 = 0 → w7_isIn v2 (-1 : Int32) (4 : Int32) (fun r2 => (r2 = 0 → post (-1 : Int32) f_slots []) ∧ (¬ r2 = 0 → w7_isRegister v3 (fun r3 => (r3 = 0 → post (-1 : Int32) f_slots []) ∧ (¬ r3 = 0 → vp_in v1 5 ∧ vp_in v3 8 ∧ w7_newNode v2 (f_tops v3.toNatClampNeg) (f_bottoms v3.toNatClampNeg) (fun r u => (f_slots v1.toNatClampNeg = none → post (0 : Int32) (va_up f_slots v1.toNatClampNeg r) u) ∧ (∀ a, f_slots v1.toNatClampNeg = some a → post (1 : Int32) (va_up f_slots v1.toNatClampNeg r) u))))))))
set_option maxHeartbeats 4000000 in
set_option maxRecDepth 100000 in
theorem c7_castNode (l : Launch) (D : va_G) (cI cJ cN cR : ClassId) (rf : Nat → Nat) (f_hasSnapshot f_termListSize f_textSize : Int32) (f_slots : Nat → Option Nat) (L : List Nat) (kk tt bb : Nat → Int32) (v1 v2 : Int32) (post : Int32 → Prop) (hw : w7_castNode L kk f_slots v1 v2 post) : Met l yX7_castNode (kV yX7_castNode cX7_castNode 4 (some .int)) rm7_castNode (kR D (kT cI cJ cN cR) [.ref (rf 0), .int v1, .int v2] ([((rf 0), o7 rf f_hasSnapshot f_termListSize f_textSize), ((rf 3), aq cN 5 f_slots)] ++ npl L kk tt bb)) (vp_Si post) 0 0 (fun _ => False) := by
  refine kMetRI (cc := cX7_castNode) (maxL := 4) (by decide +kernel) rfl (Nat.le_of_ble_eq_true rfl) ?_
  intro p e s m args below meth c H ls Q C0 hK hN hP hl RET
  obtain ⟨hx, hb, hml, hown, hts⟩ := id C0
  have hl : lv_has ls 4 [(0, .ref (rf 0)), (1, .int v1), (2, .int v2)] := hl
  have hX : ∀ w ∈ kX, w ∈ kV yX7_castNode cX7_castNode 4 (some .int) := fun w h => List.mem_cons_of_mem _ h
  unfold w7_castNode at hw
  refine lv_iload_n hx hb dX7_castNode_0 rfl (lv_at hl 1 rfl) ?_
  refine kcRI (wc := []) hP [] rfl (fun hPc => oS (As := [.int v1]) (rest := []) C0 hK hN (c7_isSlot l D cI cJ cN cR   v1 _ hw) 1 (kx_gS hX kx_lisSlot kx_sisSlot kx_n7 (kx_1 kx_cisSlot)) rfl ⟨rfl, rfl⟩ nm7_isSlot ⟨Nat.le_of_ble_eq_true rfl, Nat.le_of_ble_eq_true rfl⟩ rfl hl.1 rfl (Nat.le_of_ble_eq_true rfl) dX7_castNode_1 ⟨Nat.le_of_ble_eq_true rfl, Nat.le_of_ble_eq_true rfl⟩ hPc) (fun r1 hw => ?_)
  obtain ⟨nb1, hw⟩ := hw
  refine lv_if_eq (tgt := 16) hx hb dX7_castNode_4 (by decide) (fun k => ?_) (fun k => ?_)
  · have hw := hw.1 k
    refine lv_iconst (v := (-1 : Int32)) hx hb dX7_castNode_16 (by decide) ?_
    exact RET _ _ _ hw dX7_castNode_17
  have hw := hw.2 k
  refine lv_iload_n hx hb dX7_castNode_7 rfl (lv_at hl 2 rfl) ?_
  refine lv_iconst (v := (0 : Int32)) hx hb dX7_castNode_8 (by decide) ?_
  refine lv_iconst (v := (4 : Int32)) hx hb dX7_castNode_9 (by decide) ?_
  refine kcRI (wc := []) hP [] rfl (fun hPc => oS (As := [.int v2, .int (0 : Int32), .int (4 : Int32)]) (rest := []) C0 hK hN (c7_isIn l D cI cJ cN cR   v2 (0 : Int32) (4 : Int32) _ hw) 3 (kx_gS hX kx_lisIn kx_sisIn kx_n7 (kx_1 kx_cisIn)) rfl ⟨rfl, rfl⟩ nm7_isIn ⟨Nat.le_of_ble_eq_true rfl, Nat.le_of_ble_eq_true rfl⟩ rfl hl.1 rfl (Nat.le_of_ble_eq_true rfl) dX7_castNode_10 ⟨Nat.le_of_ble_eq_true rfl, Nat.le_of_ble_eq_true rfl⟩ hPc) (fun r2 hw => ?_)
  obtain ⟨nb2, hw⟩ := hw
  refine lv_if_ne (tgt := 18) hx hb dX7_castNode_13 (by decide) (fun k => ?_) (fun k => ?_)
  rotate_left
  · have hw := hw.1 k
    refine lv_iconst (v := (-1 : Int32)) hx hb dX7_castNode_16 (by decide) ?_
    exact RET _ _ _ hw dX7_castNode_17
  obtain ⟨hin, hw⟩ := hw.2 k
  refine lv_aload_n hx hb dX7_castNode_18 rfl (lv_at hl 0 rfl) ?_
  refine va_get (D := D) (ci := 7) (v := .ref (rf 3)) (C := RX7) (T := TX7) (N := 16) hx hb hts (fun w h => hX w (kx_7 w h)) hown hK hP 0 rfl rfl 2 (by decide) (hts _ (hX _ kx_fs)) (fun _ h9 => h9) rfl dX7_castNode_19 ?_
  refine lv_iload_n hx hb dX7_castNode_22 rfl (lv_at hl 1 rfl) ?_
  refine va_aldq hx hb hK hP 1 2 rfl rfl hin dX7_castNode_23 ?_
  rcases hq : f_slots v1.toNatClampNeg with _ | a
  · have hw := hw.1 hq
    refine lv_astore_nN (lv' := [(3, .null), (0, .ref (rf 0)), (1, .int v1), (2, .int v2)]) hx hb dX7_castNode_24 rfl hl (by decide) rfl (fun ls hl => ?_)
    refine lv_aload_nN hx hb dX7_castNode_25 rfl (lv_at hl 0 rfl) ?_
    refine lv_ifnonnullN hx hb dX7_castNode_26 ?_
    refine lv_bipush (v := (-11 : Int32)) hx hb dX7_castNode_29 (by decide) ?_
    exact RET _ _ _ hw dX7_castNode_31
  obtain ⟨ha, hw⟩ := hw.2 a hq
  refine lv_astore_n (lv' := [(3, .ref a), (0, .ref (rf 0)), (1, .int v1), (2, .int v2)]) hx hb dX7_castNode_24 rfl hl (by decide) rfl (fun ls hl => ?_)
  refine lv_aload_n hx hb dX7_castNode_25 rfl (lv_at hl 0 rfl) ?_
  refine lv_ifnonnull (tgt := 32) hx hb dX7_castNode_26 (by decide) ?_
  refine lv_aload_n hx hb dX7_castNode_32 rfl (lv_at hl 0 rfl) ?_
  refine lv_iload_n hx hb dX7_castNode_33 rfl (lv_at hl 3 rfl) ?_
  obtain ⟨ka, hka⟩ := va_pl_get (X := [((rf 0), o7 rf f_hasSnapshot f_termListSize f_textSize), ((rf 3), aq cN 5 f_slots)]) (f := fun a => nd (nCl (kk a)) (kk a) (tt a) (bb a)) ha
  have hC9 : [ka].map (fun i => ([((rf 0), o7 rf f_hasSnapshot f_termListSize f_textSize), ((rf 3), aq cN 5 f_slots)] ++ npl L kk tt bb)[i]?) = [((a : Nat), (nd (nCl (kk a)) (kk a) (tt a) (bb a) : va_E))].map some := congrArg (fun z => [z]) hka
  refine kcRI (wc := [((a : Nat), nd (nCl (kk a)) (kk a) (tt a) (bb a))]) hP [ka] hC9 (fun hPc => oS (As := [.ref a, .int v2]) (rest := []) C0 hK hN (c7_isOfKind l D cI cJ cN cR (nCl (kk a)) a (nCl_cases _) (kk a) (tt a) (bb a) v2) 2 (kx_gS hX kx_lisOfKind kx_sisOfKind kx_n7 (kx_V kx_cisOfKind)) rfl ⟨rfl, rfl⟩ nm7_isOfKind ⟨Nat.le_of_ble_eq_true rfl, Nat.le_of_ble_eq_true rfl⟩ rfl hl.1 rfl (Nat.le_of_ble_eq_true rfl) dX7_castNode_34 ⟨Nat.le_of_ble_eq_true rfl, Nat.le_of_ble_eq_true rfl⟩ hPc) (fun r4 hr4 => ?_)
  obtain ⟨nb4, hr4⟩ := hr4
  refine lv_if_eq (tgt := 47) hx hb dX7_castNode_37 (by decide) (fun k => ?_) (fun k => ?_)
  · have hw := hw.1 (hr4.symm.trans k)
    refine lv_bipush (v := (-12 : Int32)) hx hb dX7_castNode_47 (by decide) ?_
    exact RET _ _ _ hw dX7_castNode_49
  have hw := hw.2 (fun h => k (hr4.trans h))
  refine lv_aload_n hx hb dX7_castNode_40 rfl (lv_at hl 0 rfl) ?_
  have FIN : ∀ r5 : Int32, r5 = kk a → W p l e rm7_castNode s m args below meth c H [] 0 0 Q (F0 m (41 + 3) ls [.int r5]) := fun r5 h5 => by
    refine lv_goto (tgt := 49) hx hb dX7_castNode_44 (by decide) ?_
    exact RET _ _ _ (by rw [h5]; exact hw) dX7_castNode_49
  rcases nCl_cases (kk a) with hci | hci | hci | hci | hci
  · rw [hci] at hC9
    exact kcRI (wc := [((a : Nat), nd 3 (kk a) (tt a) (bb a))]) hP [ka] hC9 (fun hPc => k_oU (rest := []) C0 hK hN (cF_kind l D cI cJ cN cR rfl k_tX3 a (kk a) (tt a) (bb a) 0 0) 0 (C := RX3) (k_CU hts (fun w h => hX w (kx_F w h)) (hX _ kx_lk) k_s33k k_iX3_kind k_cX3_kind k_vkX3 k_iX3_kind k_nX3 k_cX3_kind ⟨rfl, rfl⟩ nm_X3_kind ⟨Nat.le_of_ble_eq_true rfl, Nat.le_of_ble_eq_true rfl⟩) (q0 := 0) rfl (r := (RX3, TX3, 3)) rfl rfl rfl hl.1 rfl (Nat.le_of_ble_eq_true rfl) dX7_castNode_41 ⟨Nat.le_of_ble_eq_true rfl, Nat.le_of_ble_eq_true rfl⟩ hPc) FIN
  · rw [hci] at hC9
    exact kcRI (wc := [((a : Nat), nd 0 (kk a) (tt a) (bb a))]) hP [ka] hC9 (fun hPc => k_oU (rest := []) C0 hK hN (cF_kind l D cI cJ cN cR rfl k_tX0 a (kk a) (tt a) (bb a) 0 0) 0 (C := RX0) (k_CU hts (fun w h => hX w (kx_F w h)) (hX _ kx_lk) k_s33k k_iX3_kind k_cX3_kind k_vkX0 k_iX3_kind k_nX3 k_cX3_kind ⟨rfl, rfl⟩ nm_X3_kind ⟨Nat.le_of_ble_eq_true rfl, Nat.le_of_ble_eq_true rfl⟩) (q0 := 0) rfl (r := (RX0, TX0, 3)) rfl rfl rfl hl.1 rfl (Nat.le_of_ble_eq_true rfl) dX7_castNode_41 ⟨Nat.le_of_ble_eq_true rfl, Nat.le_of_ble_eq_true rfl⟩ hPc) FIN
  · rw [hci] at hC9
    exact kcRI (wc := [((a : Nat), nd 6 (kk a) (tt a) (bb a))]) hP [ka] hC9 (fun hPc => k_oU (rest := []) C0 hK hN (cF_kind l D cI cJ cN cR rfl k_tX6 a (kk a) (tt a) (bb a) 0 0) 0 (C := RX6) (k_CU hts (fun w h => hX w (kx_F w h)) (hX _ kx_lk) k_s33k k_iX3_kind k_cX3_kind k_vkX6 k_iX3_kind k_nX3 k_cX3_kind ⟨rfl, rfl⟩ nm_X3_kind ⟨Nat.le_of_ble_eq_true rfl, Nat.le_of_ble_eq_true rfl⟩) (q0 := 0) rfl (r := (RX6, TX6, 3)) rfl rfl rfl hl.1 rfl (Nat.le_of_ble_eq_true rfl) dX7_castNode_41 ⟨Nat.le_of_ble_eq_true rfl, Nat.le_of_ble_eq_true rfl⟩ hPc) FIN
  · rw [hci] at hC9
    exact kcRI (wc := [((a : Nat), nd 2 (kk a) (tt a) (bb a))]) hP [ka] hC9 (fun hPc => k_oU (rest := []) C0 hK hN (cF_kind l D cI cJ cN cR rfl k_tX2 a (kk a) (tt a) (bb a) 0 0) 0 (C := RX2) (k_CU hts (fun w h => hX w (kx_F w h)) (hX _ kx_lk) k_s33k k_iX3_kind k_cX3_kind k_vkX2 k_iX3_kind k_nX3 k_cX3_kind ⟨rfl, rfl⟩ nm_X3_kind ⟨Nat.le_of_ble_eq_true rfl, Nat.le_of_ble_eq_true rfl⟩) (q0 := 0) rfl (r := (RX2, TX2, 3)) rfl rfl rfl hl.1 rfl (Nat.le_of_ble_eq_true rfl) dX7_castNode_41 ⟨Nat.le_of_ble_eq_true rfl, Nat.le_of_ble_eq_true rfl⟩ hPc) FIN
  · rw [hci] at hC9
    exact kcRI (wc := [((a : Nat), nd 5 (kk a) (tt a) (bb a))]) hP [ka] hC9 (fun hPc => k_oU (rest := []) C0 hK hN (cF_kind l D cI cJ cN cR rfl k_tX5 a (kk a) (tt a) (bb a) 0 0) 0 (C := RX5) (k_CU hts (fun w h => hX w (kx_F w h)) (hX _ kx_lk) k_s33k k_iX3_kind k_cX3_kind k_vkX5 k_iX3_kind k_nX3 k_cX3_kind ⟨rfl, rfl⟩ nm_X3_kind ⟨Nat.le_of_ble_eq_true rfl, Nat.le_of_ble_eq_true rfl⟩) (q0 := 0) rfl (r := (RX5, TX5, 3)) rfl rfl rfl hl.1 rfl (Nat.le_of_ble_eq_true rfl) dX7_castNode_41 ⟨Nat.le_of_ble_eq_true rfl, Nat.le_of_ble_eq_true rfl⟩ hPc) FIN
set_option maxHeartbeats 4000000 in
set_option maxRecDepth 100000 in
theorem c7_operate (l : Launch) (D : va_G) (cI cJ cN cR : ClassId) (rf : Nat → Nat) (f_hasSnapshot f_termListSize f_textSize : Int32) (f_slots : Nat → Option Nat) (L : List Nat) (kk tt bb : Nat → Int32) (v1 v2 v3 : Int32) (post : Int32 → Prop) (hw : w7_operate L kk tt bb f_slots v1 v2 v3 post) : Met l yX7_operate (kV yX7_operate cX7_operate 5 (some .int)) rm7_operate (kR D (kT cI cJ cN cR) [.ref (rf 0), .int v1, .int v2, .int v3] ([((rf 0), o7 rf f_hasSnapshot f_termListSize f_textSize), ((rf 3), aq cN 5 f_slots)] ++ npl L kk tt bb)) (vp_Si post) 0 0 (fun _ => False) := by
  refine kMetRI (cc := cX7_operate) (maxL := 5) (by decide +kernel) rfl (Nat.le_of_ble_eq_true rfl) ?_
  intro p e s m args below meth c H ls Q C0 hK hN hP hl RET
  obtain ⟨hx, hb, hml, hown, hts⟩ := id C0
  have hl : lv_has ls 5 [(0, .ref (rf 0)), (1, .int v1), (2, .int v2), (3, .int v3)] := hl
  have hX : ∀ w ∈ kX, w ∈ kV yX7_operate cX7_operate 5 (some .int) := fun w h => List.mem_cons_of_mem _ h
  unfold w7_operate at hw
  refine lv_iload_n hx hb dX7_operate_0 rfl (lv_at hl 1 rfl) ?_
  refine kcRI (wc := []) hP [] rfl (fun hPc => oS (As := [.int v1]) (rest := []) C0 hK hN (c7_isSlot l D cI cJ cN cR   v1 _ hw) 1 (kx_gS hX kx_lisSlot kx_sisSlot kx_n7 (kx_1 kx_cisSlot)) rfl ⟨rfl, rfl⟩ nm7_isSlot ⟨Nat.le_of_ble_eq_true rfl, Nat.le_of_ble_eq_true rfl⟩ rfl hl.1 rfl (Nat.le_of_ble_eq_true rfl) dX7_operate_1 ⟨Nat.le_of_ble_eq_true rfl, Nat.le_of_ble_eq_true rfl⟩ hPc) (fun r1 hw => ?_)
  obtain ⟨nb1, hw⟩ := hw
  refine lv_if_eq (tgt := 16) hx hb dX7_operate_4 (by decide) (fun k => ?_) (fun k => ?_)
  · have hw := hw.1 k
    refine lv_iconst (v := (0 : Int32)) hx hb dX7_operate_16 (by decide) ?_
    exact RET _ _ _ hw dX7_operate_17
  have hw := hw.2 k
  refine lv_iload_n hx hb dX7_operate_7 rfl (lv_at hl 2 rfl) ?_
  refine lv_iconst (v := (0 : Int32)) hx hb dX7_operate_8 (by decide) ?_
  refine lv_iconst (v := (1 : Int32)) hx hb dX7_operate_9 (by decide) ?_
  refine kcRI (wc := []) hP [] rfl (fun hPc => oS (As := [.int v2, .int (0 : Int32), .int (1 : Int32)]) (rest := []) C0 hK hN (c7_isIn l D cI cJ cN cR   v2 (0 : Int32) (1 : Int32) _ hw) 3 (kx_gS hX kx_lisIn kx_sisIn kx_n7 (kx_1 kx_cisIn)) rfl ⟨rfl, rfl⟩ nm7_isIn ⟨Nat.le_of_ble_eq_true rfl, Nat.le_of_ble_eq_true rfl⟩ rfl hl.1 rfl (Nat.le_of_ble_eq_true rfl) dX7_operate_10 ⟨Nat.le_of_ble_eq_true rfl, Nat.le_of_ble_eq_true rfl⟩ hPc) (fun r2 hw => ?_)
  obtain ⟨nb2, hw⟩ := hw
  refine lv_if_ne (tgt := 18) hx hb dX7_operate_13 (by decide) (fun k => ?_) (fun k => ?_)
  rotate_left
  · have hw := hw.1 k
    refine lv_iconst (v := (0 : Int32)) hx hb dX7_operate_16 (by decide) ?_
    exact RET _ _ _ hw dX7_operate_17
  obtain ⟨hin, hw⟩ := hw.2 k
  refine lv_aload_n hx hb dX7_operate_18 rfl (lv_at hl 0 rfl) ?_
  refine va_get (D := D) (ci := 7) (v := .ref (rf 3)) (C := RX7) (T := TX7) (N := 16) hx hb hts (fun w h => hX w (kx_7 w h)) hown hK hP 0 rfl rfl 2 (by decide) (hts _ (hX _ kx_fs)) (fun _ h9 => h9) rfl dX7_operate_19 ?_
  refine lv_iload_n hx hb dX7_operate_22 rfl (lv_at hl 1 rfl) ?_
  refine va_aldq hx hb hK hP 1 2 rfl rfl hin dX7_operate_23 ?_
  rcases hq : f_slots v1.toNatClampNeg with _ | a
  · have hw := hw.1 hq
    refine lv_astoreN (lv' := [(4, .null), (0, .ref (rf 0)), (1, .int v1), (2, .int v2), (3, .int v3)]) hx hb dX7_operate_24 hl (by decide) rfl (fun ls hl => ?_)
    refine lv_aloadN hx hb dX7_operate_26 (lv_at hl 0 rfl) ?_
    refine lv_ifnonnullN hx hb dX7_operate_28 ?_
    refine lv_iconst (v := (0 : Int32)) hx hb dX7_operate_31 (by decide) ?_
    exact RET _ _ _ hw dX7_operate_32
  obtain ⟨ha, hw⟩ := hw.2 a hq
  refine lv_astore (lv' := [(4, .ref a), (0, .ref (rf 0)), (1, .int v1), (2, .int v2), (3, .int v3)]) hx hb dX7_operate_24 hl (by decide) rfl (fun ls hl => ?_)
  refine lv_aload hx hb dX7_operate_26 (lv_at hl 0 rfl) ?_
  refine lv_ifnonnull (tgt := 33) hx hb dX7_operate_28 (by decide) ?_
  refine lv_iload_n hx hb dX7_operate_33 rfl (lv_at hl 3 rfl) ?_
  obtain ⟨ka, hka⟩ := va_pl_get (X := [((rf 0), o7 rf f_hasSnapshot f_termListSize f_textSize), ((rf 3), aq cN 5 f_slots)]) (f := fun a => nd (nCl (kk a)) (kk a) (tt a) (bb a)) ha
  have hC9 : [ka].map (fun i => ([((rf 0), o7 rf f_hasSnapshot f_termListSize f_textSize), ((rf 3), aq cN 5 f_slots)] ++ npl L kk tt bb)[i]?) = [((a : Nat), (nd (nCl (kk a)) (kk a) (tt a) (bb a) : va_E))].map some := congrArg (fun z => [z]) hka
  refine lv_if_ne (tgt := 46) hx hb dX7_operate_34 (by decide) (fun k => ?_) (fun k => ?_)
  · have hw := hw.2 k
    refine lv_aload hx hb dX7_operate_46 (lv_at hl 0 rfl) ?_
    refine lv_iload_n hx hb dX7_operate_48 rfl (lv_at hl 4 rfl) ?_
    have FIN : ∀ r5 : Int32, r5 = nBend (nCl (kk a)) v3 (tt a) (bb a) → W p l e rm7_operate s m args below meth c H [] 0 0 Q (F0 m (49 + 3) ls [.int r5]) := fun r5 h5 => RET _ _ _ (by rw [h5]; exact hw) dX7_operate_52
    rcases nCl_cases (kk a) with hci | hci | hci | hci | hci
    · rw [hci] at hC9 FIN
      exact kcRI (wc := [((a : Nat), nd 3 (kk a) (tt a) (bb a))]) hP [ka] hC9 (fun hPc => k_oU (As := [.int v3]) (rest := []) C0 hK hN (cF_b3_3 l D cI cJ cN cR a (kk a) (tt a) (bb a) v3) 1 (C := RX3) (k_CU hts (fun w h => hX w (kx_F w h)) (hX _ kx_lb) k_s33b k_iX3_bend k_cX3_bend k_vbX3 k_iX3_bend k_nX3 k_cX3_bend ⟨rfl, rfl⟩ nm_X3_bend ⟨Nat.le_of_ble_eq_true rfl, Nat.le_of_ble_eq_true rfl⟩) (q0 := 0) rfl (r := (RX3, TX3, 3)) rfl rfl rfl hl.1 rfl (Nat.le_of_ble_eq_true rfl) dX7_operate_49 ⟨Nat.le_of_ble_eq_true rfl, Nat.le_of_ble_eq_true rfl⟩ hPc) FIN
    · rw [hci] at hC9 FIN
      exact kcRI (wc := [((a : Nat), nd 0 (kk a) (tt a) (bb a))]) hP [ka] hC9 (fun hPc => k_oU (As := [.int v3]) (rest := []) C0 hK hN (cF_b3_0 l D cI cJ cN cR a (kk a) (tt a) (bb a) v3) 1 (C := RX0) (k_CU hts (fun w h => hX w (kx_F w h)) (hX _ kx_lb) k_s33b k_iX3_bend k_cX3_bend k_vbX0 k_iX3_bend k_nX3 k_cX3_bend ⟨rfl, rfl⟩ nm_X3_bend ⟨Nat.le_of_ble_eq_true rfl, Nat.le_of_ble_eq_true rfl⟩) (q0 := 0) rfl (r := (RX0, TX0, 3)) rfl rfl rfl hl.1 rfl (Nat.le_of_ble_eq_true rfl) dX7_operate_49 ⟨Nat.le_of_ble_eq_true rfl, Nat.le_of_ble_eq_true rfl⟩ hPc) FIN
    · rw [hci] at hC9 FIN
      exact kcRI (wc := [((a : Nat), nd 6 (kk a) (tt a) (bb a))]) hP [ka] hC9 (fun hPc => k_oU (As := [.int v3]) (rest := []) C0 hK hN (cF_b6_6 l D cI cJ cN cR a (kk a) (tt a) (bb a) v3) 1 (C := RX6) (k_CU hts (fun w h => hX w (kx_F w h)) (hX _ kx_lb) k_s33b k_iX3_bend k_cX3_bend k_vbX6 k_iX6_bend k_nX6 k_cX6_bend ⟨rfl, rfl⟩ nm_X3_bend ⟨Nat.le_of_ble_eq_true rfl, Nat.le_of_ble_eq_true rfl⟩) (q0 := 0) rfl (r := (RX6, TX6, 3)) rfl rfl rfl hl.1 rfl (Nat.le_of_ble_eq_true rfl) dX7_operate_49 ⟨Nat.le_of_ble_eq_true rfl, Nat.le_of_ble_eq_true rfl⟩ hPc) FIN
    · rw [hci] at hC9 FIN
      exact kcRI (wc := [((a : Nat), nd 2 (kk a) (tt a) (bb a))]) hP [ka] hC9 (fun hPc => k_oU (As := [.int v3]) (rest := []) C0 hK hN (cF_b2_2 l D cI cJ cN cR a (kk a) (tt a) (bb a) v3) 1 (C := RX2) (k_CU hts (fun w h => hX w (kx_F w h)) (hX _ kx_lb) k_s33b k_iX3_bend k_cX3_bend k_vbX2 k_iX2_bend k_nX2 k_cX2_bend ⟨rfl, rfl⟩ nm_X3_bend ⟨Nat.le_of_ble_eq_true rfl, Nat.le_of_ble_eq_true rfl⟩) (q0 := 0) rfl (r := (RX2, TX2, 3)) rfl rfl rfl hl.1 rfl (Nat.le_of_ble_eq_true rfl) dX7_operate_49 ⟨Nat.le_of_ble_eq_true rfl, Nat.le_of_ble_eq_true rfl⟩ hPc) FIN
    · rw [hci] at hC9 FIN
      exact kcRI (wc := [((a : Nat), nd 5 (kk a) (tt a) (bb a))]) hP [ka] hC9 (fun hPc => k_oU (As := [.int v3]) (rest := []) C0 hK hN (cF_b3_5 l D cI cJ cN cR a (kk a) (tt a) (bb a) v3) 1 (C := RX5) (k_CU hts (fun w h => hX w (kx_F w h)) (hX _ kx_lb) k_s33b k_iX3_bend k_cX3_bend k_vbX5 k_iX3_bend k_nX3 k_cX3_bend ⟨rfl, rfl⟩ nm_X3_bend ⟨Nat.le_of_ble_eq_true rfl, Nat.le_of_ble_eq_true rfl⟩) (q0 := 0) rfl (r := (RX5, TX5, 3)) rfl rfl rfl hl.1 rfl (Nat.le_of_ble_eq_true rfl) dX7_operate_49 ⟨Nat.le_of_ble_eq_true rfl, Nat.le_of_ble_eq_true rfl⟩ hPc) FIN
  have hw := hw.1 k
  refine lv_aload hx hb dX7_operate_37 (lv_at hl 0 rfl) ?_
  refine lv_iload_n hx hb dX7_operate_39 rfl (lv_at hl 4 rfl) ?_
  have FIN : ∀ r5 : Int32, r5 = nGrow (nCl (kk a)) v3 (tt a) → W p l e rm7_operate s m args below meth c H [] 0 0 Q (F0 m (40 + 3) ls [.int r5]) := fun r5 h5 => by
    refine lv_goto (tgt := 52) hx hb dX7_operate_43 (by decide) ?_
    exact RET _ _ _ (by rw [h5]; exact hw) dX7_operate_52
  rcases nCl_cases (kk a) with hci | hci | hci | hci | hci
  · rw [hci] at hC9 FIN
    exact kcRI (wc := [((a : Nat), nd 3 (kk a) (tt a) (bb a))]) hP [ka] hC9 (fun hPc => k_oU (As := [.int v3]) (rest := []) C0 hK hN (cF_grow3 l D cI cJ cN cR rfl k_tX3 a (kk a) (tt a) (bb a) v3 0) 1 (C := RX3) (k_CU hts (fun w h => hX w (kx_F w h)) (hX _ kx_lg) k_s33g k_iX3_grow k_cX3_grow k_vgX3 k_iX3_grow k_nX3 k_cX3_grow ⟨rfl, rfl⟩ nm_X3_grow ⟨Nat.le_of_ble_eq_true rfl, Nat.le_of_ble_eq_true rfl⟩) (q0 := 0) rfl (r := (RX3, TX3, 3)) rfl rfl rfl hl.1 rfl (Nat.le_of_ble_eq_true rfl) dX7_operate_40 ⟨Nat.le_of_ble_eq_true rfl, Nat.le_of_ble_eq_true rfl⟩ hPc) FIN
  · rw [hci] at hC9 FIN
    exact kcRI (wc := [((a : Nat), nd 0 (kk a) (tt a) (bb a))]) hP [ka] hC9 (fun hPc => k_oU (As := [.int v3]) (rest := []) C0 hK hN (cF_grow0 l D cI cJ cN cR rfl k_tX0 a (kk a) (tt a) (bb a) v3 0) 1 (C := RX0) (k_CU hts (fun w h => hX w (kx_F w h)) (hX _ kx_lg) k_s33g k_iX3_grow k_cX3_grow k_vgX0 k_iX0_grow k_nX0 k_cX0_grow ⟨rfl, rfl⟩ nm_X3_grow ⟨Nat.le_of_ble_eq_true rfl, Nat.le_of_ble_eq_true rfl⟩) (q0 := 0) rfl (r := (RX0, TX0, 3)) rfl rfl rfl hl.1 rfl (Nat.le_of_ble_eq_true rfl) dX7_operate_40 ⟨Nat.le_of_ble_eq_true rfl, Nat.le_of_ble_eq_true rfl⟩ hPc) FIN
  · rw [hci] at hC9 FIN
    exact kcRI (wc := [((a : Nat), nd 6 (kk a) (tt a) (bb a))]) hP [ka] hC9 (fun hPc => k_oU (As := [.int v3]) (rest := []) C0 hK hN (cF_grow0 l D cI cJ cN cR rfl k_tX6 a (kk a) (tt a) (bb a) v3 0) 1 (C := RX6) (k_CU hts (fun w h => hX w (kx_F w h)) (hX _ kx_lg) k_s33g k_iX3_grow k_cX3_grow k_vgX6 k_iX0_grow k_nX0 k_cX0_grow ⟨rfl, rfl⟩ nm_X3_grow ⟨Nat.le_of_ble_eq_true rfl, Nat.le_of_ble_eq_true rfl⟩) (q0 := 0) rfl (r := (RX6, TX6, 3)) rfl rfl rfl hl.1 rfl (Nat.le_of_ble_eq_true rfl) dX7_operate_40 ⟨Nat.le_of_ble_eq_true rfl, Nat.le_of_ble_eq_true rfl⟩ hPc) FIN
  · rw [hci] at hC9 FIN
    exact kcRI (wc := [((a : Nat), nd 2 (kk a) (tt a) (bb a))]) hP [ka] hC9 (fun hPc => k_oU (As := [.int v3]) (rest := []) C0 hK hN (cF_grow2 l D cI cJ cN cR rfl k_tX2 a (kk a) (tt a) (bb a) v3 0) 1 (C := RX2) (k_CU hts (fun w h => hX w (kx_F w h)) (hX _ kx_lg) k_s33g k_iX3_grow k_cX3_grow k_vgX2 k_iX2_grow k_nX2 k_cX2_grow ⟨rfl, rfl⟩ nm_X3_grow ⟨Nat.le_of_ble_eq_true rfl, Nat.le_of_ble_eq_true rfl⟩) (q0 := 0) rfl (r := (RX2, TX2, 3)) rfl rfl rfl hl.1 rfl (Nat.le_of_ble_eq_true rfl) dX7_operate_40 ⟨Nat.le_of_ble_eq_true rfl, Nat.le_of_ble_eq_true rfl⟩ hPc) FIN
  · rw [hci] at hC9 FIN
    exact kcRI (wc := [((a : Nat), nd 5 (kk a) (tt a) (bb a))]) hP [ka] hC9 (fun hPc => k_oU (As := [.int v3]) (rest := []) C0 hK hN (cF_grow5 l D cI cJ cN cR rfl k_tX5 a (kk a) (tt a) (bb a) v3 0) 1 (C := RX5) (k_CU hts (fun w h => hX w (kx_F w h)) (hX _ kx_lg) k_s33g k_iX3_grow k_cX3_grow k_vgX5 k_iX5_grow k_nX5 k_cX5_grow ⟨rfl, rfl⟩ nm_X3_grow ⟨Nat.le_of_ble_eq_true rfl, Nat.le_of_ble_eq_true rfl⟩) (q0 := 0) rfl (r := (RX5, TX5, 3)) rfl rfl rfl hl.1 rfl (Nat.le_of_ble_eq_true rfl) dX7_operate_40 ⟨Nat.le_of_ble_eq_true rfl, Nat.le_of_ble_eq_true rfl⟩ hPc) FIN
set_option maxHeartbeats 4000000 in
set_option maxRecDepth 100000 in
theorem c7_plant (l : Launch) (D : va_G) (cI cJ cN cR : ClassId) (rf : Nat → Nat) (sz : Nat) (f_hasSnapshot f_termListSize f_textSize : Int32) (f_tops f_bottoms : Nat → Int32) (f_slots : Nat → Option Nat) (v1 v2 v3 : Int32) (post : Int32 → (Nat → Option Nat) → va_W → Prop) (hw : w7_plant f_tops f_bottoms f_slots v1 v2 v3 post) : Met l yX7_plant (kV yX7_plant cX7_plant 5 (some .int)) rm7_plant (kP D (kT cI cJ cN cR) sz [.ref (rf 0), .int v1, .int v2, .int v3] [((rf 0), o7 rf f_hasSnapshot f_termListSize f_textSize), ((rf 1), ai cI 8 f_tops), ((rf 2), ai cI 8 f_bottoms), ((rf 3), aq cN 5 f_slots)]) (kQi D [((rf 0), o7 rf f_hasSnapshot f_termListSize f_textSize), ((rf 1), ai cI 8 f_tops), ((rf 2), ai cI 8 f_bottoms), ((rf 3), aq cN 5 f_slots)] sz (fun (r : Int32) (u : (Nat → Option Nat) × va_W) => post r u.1 u.2) (fun (u : (Nat → Option Nat) × va_W) => [((rf 0), o7 rf f_hasSnapshot f_termListSize f_textSize), ((rf 1), ai cI 8 f_tops), ((rf 2), ai cI 8 f_bottoms), ((rf 3), aq cN 5 u.1)] ++ u.2)) 1 3 (va_A [((rf 0), o7 rf f_hasSnapshot f_termListSize f_textSize), ((rf 1), ai cI 8 f_tops), ((rf 2), ai cI 8 f_bottoms), ((rf 3), aq cN 5 f_slots)] sz) := by
  refine kMetI (cc := cX7_plant) (maxL := 5) (by decide +kernel) rfl (Nat.le_of_ble_eq_true rfl) ?_
  intro p e s m args below meth c H0 ls A Q C0 hK hN hP hD hS hA hl RET
  obtain ⟨hx, hb, hml, hown, hts⟩ := id C0
  have hl : lv_has ls 5 [(0, .ref (rf 0)), (1, .int v1), (2, .int v2), (3, .int v3)] := hl
  have hX : ∀ w ∈ kX, w ∈ kV yX7_plant cX7_plant 5 (some .int) := fun w h => List.mem_cons_of_mem _ h
  unfold w7_plant at hw
  have hP : va_P D vwCl [((rf 0), o7 rf f_hasSnapshot f_termListSize f_textSize), ((rf 1), ai cI 8 f_tops), ((rf 2), ai cI 8 f_bottoms), ((rf 3), aq cN 5 f_slots)] H0 := hP
  have BAD : post (-1 : Int32) f_slots [] → W p l e rm7_plant s m args below meth c H0 [] 0 0 Q (F0 m 23 ls []) := fun hw => by
    refine lv_iconst (v := (-1 : Int32)) hx hb dX7_plant_23 (by decide) ?_
    refine W.widen (k := 1) (n := 3) (by omega) (by omega) ?_
    exact RET _ _ _ (f_slots, []) _ _ hw hP hD hS dX7_plant_24
  refine lv_iload_n hx hb dX7_plant_0 rfl (lv_at hl 1 rfl) ?_
  refine kcRI (wc := []) hP [] rfl (fun hPc => oS (As := [.int v1]) (rest := []) C0 hK hN (c7_isSlot l D cI cJ cN cR   v1 _ hw) 1 (kx_gS hX kx_lisSlot kx_sisSlot kx_n7 (kx_1 kx_cisSlot)) rfl ⟨rfl, rfl⟩ nm7_isSlot ⟨Nat.le_of_ble_eq_true rfl, Nat.le_of_ble_eq_true rfl⟩ rfl hl.1 rfl (Nat.le_of_ble_eq_true rfl) dX7_plant_1 ⟨Nat.le_of_ble_eq_true rfl, Nat.le_of_ble_eq_true rfl⟩ hPc) (fun r1 hw => ?_)
  obtain ⟨nb1, hw⟩ := hw
  refine lv_if_eq (tgt := 23) hx hb dX7_plant_4 (by decide) (fun k => BAD (hw.1 k)) (fun k => ?_)
  have hw := hw.2 k
  refine lv_iload_n hx hb dX7_plant_7 rfl (lv_at hl 2 rfl) ?_
  refine lv_iconst (v := (-1 : Int32)) hx hb dX7_plant_8 (by decide) ?_
  refine lv_iconst (v := (4 : Int32)) hx hb dX7_plant_9 (by decide) ?_
  refine kcRI (wc := []) hP [] rfl (fun hPc => oS (As := [.int v2, .int (-1 : Int32), .int (4 : Int32)]) (rest := []) C0 hK hN (c7_isIn l D cI cJ cN cR   v2 (-1 : Int32) (4 : Int32) _ hw) 3 (kx_gS hX kx_lisIn kx_sisIn kx_n7 (kx_1 kx_cisIn)) rfl ⟨rfl, rfl⟩ nm7_isIn ⟨Nat.le_of_ble_eq_true rfl, Nat.le_of_ble_eq_true rfl⟩ rfl hl.1 rfl (Nat.le_of_ble_eq_true rfl) dX7_plant_10 ⟨Nat.le_of_ble_eq_true rfl, Nat.le_of_ble_eq_true rfl⟩ hPc) (fun r2 hw => ?_)
  obtain ⟨nb2, hw⟩ := hw
  refine lv_if_eq (tgt := 23) hx hb dX7_plant_13 (by decide) (fun k => BAD (hw.1 k)) (fun k => ?_)
  have hw := hw.2 k
  refine lv_iload_n hx hb dX7_plant_16 rfl (lv_at hl 3 rfl) ?_
  refine kcRI (wc := []) hP [] rfl (fun hPc => oS (As := [.int v3]) (rest := []) C0 hK hN (c7_isRegister l D cI cJ cN cR   v3 _ hw) 1 (kx_gS hX kx_lisRegister kx_sisRegister kx_n7 (kx_1 kx_cisRegister)) rfl ⟨rfl, rfl⟩ nm7_isRegister ⟨Nat.le_of_ble_eq_true rfl, Nat.le_of_ble_eq_true rfl⟩ rfl hl.1 rfl (Nat.le_of_ble_eq_true rfl) dX7_plant_17 ⟨Nat.le_of_ble_eq_true rfl, Nat.le_of_ble_eq_true rfl⟩ hPc) (fun r3 hw => ?_)
  obtain ⟨nb3, hw⟩ := hw
  refine lv_if_ne (tgt := 25) hx hb dX7_plant_20 (by decide) (fun k => ?_) (fun k => BAD (hw.1 k))
  obtain ⟨hin, hin3, hw⟩ := hw.2 k
  refine lv_aload_n hx hb dX7_plant_25 rfl (lv_at hl 0 rfl) ?_
  refine va_get (D := D) (ci := 7) (v := .ref (rf 3)) (C := RX7) (T := TX7) (N := 16) hx hb hts (fun w h => hX w (kx_7 w h)) hown hK hP 0 rfl rfl 2 (by decide) (hts _ (hX _ kx_fs)) (fun _ h9 => h9) rfl dX7_plant_26 ?_
  refine lv_iload_n hx hb dX7_plant_29 rfl (lv_at hl 1 rfl) ?_
  refine va_aldq hx hb hK hP 3 2 rfl rfl hin dX7_plant_30 ?_
  have REST : ∀ (hd : Int32), (w7_newNode v2 (f_tops v3.toNatClampNeg) (f_bottoms v3.toNatClampNeg) (fun r u => post hd (va_up f_slots v1.toNatClampNeg r) u)) → W p l e rm7_plant s m args below meth c H0 [] 0 0 Q (F0 m 39 ls [.int hd]) := by
    intro hd hw
    refine lv_istore (lv' := [(4, .int hd), (0, .ref (rf 0)), (1, .int v1), (2, .int v2), (3, .int v3)]) hx hb dX7_plant_39 hl (by decide) rfl (fun ls hl => ?_)
    refine lv_aload_n hx hb dX7_plant_41 rfl (lv_at hl 1 rfl) ?_
    refine va_get (D := D) (ci := 7) (v := .ref (rf 3)) (C := RX7) (T := TX7) (N := 16) hx hb hts (fun w h => hX w (kx_7 w h)) hown hK hP 0 rfl rfl 2 (by decide) (hts _ (hX _ kx_fs)) (fun _ h9 => h9) rfl dX7_plant_42 ?_
    refine lv_iload_n hx hb dX7_plant_45 rfl (lv_at hl 2 rfl) ?_
    refine lv_iload_n hx hb dX7_plant_46 rfl (lv_at hl 3 rfl) ?_
    refine lv_aload_n hx hb dX7_plant_47 rfl (lv_at hl 1 rfl) ?_
    refine va_get (D := D) (ci := 7) (v := .ref (rf 1)) (C := RX7) (T := TX7) (N := 16) hx hb hts (fun w h => hX w (kx_7 w h)) hown hK hP 0 rfl rfl 0 (by decide) (hts _ (hX _ kx_ft)) (fun _ h9 => h9) rfl dX7_plant_48 ?_
    refine lv_iload_n hx hb dX7_plant_51 rfl (lv_at hl 4 rfl) ?_
    refine va_iald hx hb hK hP 1 0 rfl rfl hin3 dX7_plant_52 ?_
    refine lv_aload_n hx hb dX7_plant_53 rfl (lv_at hl 1 rfl) ?_
    refine va_get (D := D) (ci := 7) (v := .ref (rf 2)) (C := RX7) (T := TX7) (N := 16) hx hb hts (fun w h => hX w (kx_7 w h)) hown hK hP 0 rfl rfl 1 (by decide) (hts _ (hX _ kx_fb)) (fun _ h9 => h9) rfl dX7_plant_54 ?_
    refine lv_iload_n hx hb dX7_plant_57 rfl (lv_at hl 4 rfl) ?_
    refine va_iald hx hb hK hP 2 0 rfl rfl hin3 dX7_plant_58 ?_
    refine kcQ (wc := []) (wr := [((rf 0), o7 rf f_hasSnapshot f_termListSize f_textSize), ((rf 1), ai cI 8 f_tops), ((rf 2), ai cI 8 f_bottoms), ((rf 3), aq cN 5 f_slots)]) hP hD hS hA [] [0, 1, 2, 3] rfl rfl ⟨rfl, rfl, by decide⟩ (fun hPc hDc => rS (As := [.int v2, .int (f_tops v3.toNatClampNeg), .int (f_bottoms v3.toNatClampNeg)]) (rest := [.int v1, .ref (rf 3)]) C0 hK hN (c7_newNode l D cI cJ cN cR H0.size v2 (f_tops v3.toNatClampNeg) (f_bottoms v3.toNatClampNeg) (fun r u => post hd (va_up f_slots v1.toNatClampNeg r) u ∧ ((r = none ∧ u = []) ∨ ∃ q ci k t b, r = some q ∧ u = [(q, nd ci k t b)] ∧ (ci = 3 ∨ ci = 0 ∨ ci = 6 ∨ ci = 2 ∨ ci = 5))) ?_) 3 (kx_gS hX kx_lnewNode kx_snewNode kx_n7 (kx_V kx_cnewNode)) rfl ⟨rfl, rfl⟩ nm7_newNode ⟨Nat.le_of_ble_eq_true rfl, Nat.le_of_ble_eq_true rfl⟩ rfl hl.1 rfl (Nat.le_of_ble_eq_true rfl) dX7_plant_59 ⟨Nat.le_of_ble_eq_true rfl, Nat.le_of_ble_eq_true rfl⟩ hPc hDc) (fun r u H locs hw hP hD hS => ?_)
    · exact ⟨fun h => ⟨hw.1 h, Or.inl ⟨rfl, rfl⟩⟩, fun h q => ⟨hw.2 h q, Or.inr ⟨q, _, _, _, _, rfl, rfl, nCl_cases _⟩⟩⟩
    obtain ⟨hw, hru⟩ := hw
    have hany : ∀ v, r = some v → va_Any "SternBrocotExplorer$Node" s H v := fun v hv => by
      rcases hru with ⟨h1, -⟩ | ⟨q, ci, k, t, b, h1, h2, h3⟩
      · rw [h1] at hv; cases hv
      · rw [h1] at hv; cases hv
        subst h2
        exact k_anyC hK hN hP (q0 := 4) (fs := [.int k, .int t, .int b]) rfl h3
    refine k_ast hx hb hK hP hD hS 3 2 rfl rfl hany hin dX7_plant_62 (fun H locs hP hD hS => ?_)
    refine lv_iload hx hb dX7_plant_63 (lv_at hl 0 rfl) ?_
    exact RET _ _ _ (va_up f_slots v1.toNatClampNeg r, u) _ _ hw hP hD hS dX7_plant_65
  rcases hq : f_slots v1.toNatClampNeg with _ | a
  · refine lv_ifnonnullN hx hb dX7_plant_31 ?_
    refine lv_iconst (v := (0 : Int32)) hx hb dX7_plant_34 (by decide) ?_
    refine lv_goto (tgt := 39) hx hb dX7_plant_35 (by decide) ?_
    exact REST 0 ⟨fun h => (hw.1 h).1 hq, fun h q => (hw.2 h q).1 hq⟩
  · refine lv_ifnonnull (tgt := 38) hx hb dX7_plant_31 (by decide) ?_
    refine lv_iconst (v := (1 : Int32)) hx hb dX7_plant_38 (by decide) ?_
    exact REST 1 ⟨fun h => (hw.1 h).2 a hq, fun h q => (hw.2 h q).2 a hq⟩
