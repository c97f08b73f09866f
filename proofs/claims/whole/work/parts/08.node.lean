/-! the nodes: one list of words for the family, and contracts for a receiver of any of the five classes -/
theorem nm_X5_init : kNm yX5_init 2 := by decide +kernel
theorem nm_X2_init : kNm yX2_init 2 := by decide +kernel
theorem nm_X6_init : kNm yX6_init 3 := by decide +kernel
theorem nm_X0_init : kNm yX0_init 3 := by decide +kernel
theorem nm_X3_init : kNm yX3_init 3 := by decide +kernel
theorem nm_X3_kind : kNm yX3_kind 0 := by decide +kernel
theorem nm_X2_bend : kNm yX2_bend 1 := by decide +kernel
theorem nm_X6_bend : kNm yX6_bend 1 := by decide +kernel
theorem nm_X3_bend : kNm yX3_bend 1 := by decide +kernel
theorem nm_X5_grow : kNm yX5_grow 1 := by decide +kernel
theorem nm_X2_grow : kNm yX2_grow 1 := by decide +kernel
theorem nm_X0_grow : kNm yX0_grow 1 := by decide +kernel
theorem nm_X3_grow : kNm yX3_grow 1 := by decide +kernel
abbrev nd (ci : Nat) (k t b : Int32) : va_E := .inr (ci, [.int k, .int t, .int b])
def kF0 : List Cond := [.code yX3_init cX3_init 4 none, .code yX0_init cX0_init 4 none, .code yX6_init cX6_init 4 none, .code yX2_init cX2_init 3 none, .code yX5_init cX5_init 3 none, .code yX3_kind cX3_kind 1 (some .int), .code yX3_grow cX3_grow 2 (some .int), .code yX0_grow cX0_grow 2 (some .int), .code yX2_grow cX2_grow 2 (some .int), .code yX5_grow cX5_grow 2 (some .int), .code yX3_bend cX3_bend 2 (some .int), .code yX6_bend cX6_bend 2 (some .int), .code yX2_bend cX2_bend 2 (some .int), .code objectInit ⟨#[0xb1]⟩ 1 none, .instanceMethod objectInit, .methodLink RX3 1 objectInit, .instanceMethod yX3_init, .instanceMethod yX0_init, .instanceMethod yX6_init, .instanceMethod yX2_init, .instanceMethod yX5_init, .instanceMethod yX3_kind, .instanceMethod yX3_grow, .instanceMethod yX0_grow, .instanceMethod yX2_grow, .instanceMethod yX5_grow, .instanceMethod yX3_bend, .instanceMethod yX6_bend, .instanceMethod yX2_bend, .initialized RX3, .initialized RX0, .initialized RX6, .initialized RX2, .initialized RX5, .methodLink RX0 1 yX3_init, .methodLink RX6 1 yX0_init, .methodLink RX2 3 yX6_init, .methodLink RX5 3 yX3_init, .methodLink RX0 7 yX3_grow, .methodLink RX2 9 ⟨RX6, "grow", "(I)I"⟩, .methodLink RX5 9 yX3_grow, .methodLink RX2 13 yX2_grow, .methodLink RX2 16 yX6_bend, .methodLink RX6 7 ⟨RX0, "bend", "(I)I"⟩, .methodLink RX3 19 yX3_grow, .sameMethod RX3 RX3 "grow" "(I)I", .sameMethod RX6 RX0 "grow" "(I)I", .sameMethod RX3 RX3 "bend" "(I)I", .sameMethod RX0 RX3 "bend" "(I)I", .sameMethod RX6 RX6 "bend" "(I)I", .sameMethod RX3 RX3 "kind" "()I", .superclass RX0 RX3, .superclass RX6 RX0, .superclass RX2 RX6, .superclass RX5 RX3, .selects RX3 yX3_grow yX3_grow, .selects RX3 yX3_bend yX3_bend, .selects RX3 yX3_kind yX3_kind, .selects RX0 yX3_grow yX0_grow, .selects RX0 yX3_bend yX3_bend, .selects RX0 yX3_kind yX3_kind, .selects RX6 yX3_grow yX0_grow, .selects RX6 yX3_bend yX6_bend, .selects RX6 yX3_kind yX3_kind, .selects RX2 yX3_grow yX2_grow, .selects RX2 yX3_bend yX2_bend, .selects RX2 yX3_kind yX3_kind, .selects RX5 yX3_grow yX5_grow, .selects RX5 yX3_bend yX3_bend, .selects RX5 yX3_kind yX3_kind, .selects RX2 yX2_grow yX2_grow, .fieldLink RX3 7 "SternBrocotExplorer$Node" "kind" "I", .fieldLink RX3 13 "SternBrocotExplorer$Node" "top" "I", .fieldLink RX3 16 "SternBrocotExplorer$Node" "bottom" "I", .fieldLink RX6 11 "SternBrocotExplorer$Twig" "bottom" "I", .sameField "SternBrocotExplorer$Twig" "SternBrocotExplorer$Node" "bottom" "I"]
def kF : List Cond := kF0 ++ (u_ws RX3 TX3 3 ++ (u_ws RX0 TX3 3 ++ (u_ws RX6 TX3 3 ++ (u_ws RX2 TX3 3 ++ u_ws RX5 TX3 3))))
theorem k_cX3_init : Cond.code yX3_init cX3_init 4 none ∈ kF := List.mem_append_left _ (List.mem_of_getElem? (i := 0) rfl)
theorem k_cX0_init : Cond.code yX0_init cX0_init 4 none ∈ kF := List.mem_append_left _ (List.mem_of_getElem? (i := 1) rfl)
theorem k_cX6_init : Cond.code yX6_init cX6_init 4 none ∈ kF := List.mem_append_left _ (List.mem_of_getElem? (i := 2) rfl)
theorem k_cX2_init : Cond.code yX2_init cX2_init 3 none ∈ kF := List.mem_append_left _ (List.mem_of_getElem? (i := 3) rfl)
theorem k_cX5_init : Cond.code yX5_init cX5_init 3 none ∈ kF := List.mem_append_left _ (List.mem_of_getElem? (i := 4) rfl)
theorem k_cX3_kind : Cond.code yX3_kind cX3_kind 1 (some .int) ∈ kF := List.mem_append_left _ (List.mem_of_getElem? (i := 5) rfl)
theorem k_cX3_grow : Cond.code yX3_grow cX3_grow 2 (some .int) ∈ kF := List.mem_append_left _ (List.mem_of_getElem? (i := 6) rfl)
theorem k_cX0_grow : Cond.code yX0_grow cX0_grow 2 (some .int) ∈ kF := List.mem_append_left _ (List.mem_of_getElem? (i := 7) rfl)
theorem k_cX2_grow : Cond.code yX2_grow cX2_grow 2 (some .int) ∈ kF := List.mem_append_left _ (List.mem_of_getElem? (i := 8) rfl)
theorem k_cX5_grow : Cond.code yX5_grow cX5_grow 2 (some .int) ∈ kF := List.mem_append_left _ (List.mem_of_getElem? (i := 9) rfl)
theorem k_cX3_bend : Cond.code yX3_bend cX3_bend 2 (some .int) ∈ kF := List.mem_append_left _ (List.mem_of_getElem? (i := 10) rfl)
theorem k_cX6_bend : Cond.code yX6_bend cX6_bend 2 (some .int) ∈ kF := List.mem_append_left _ (List.mem_of_getElem? (i := 11) rfl)
theorem k_cX2_bend : Cond.code yX2_bend cX2_bend 2 (some .int) ∈ kF := List.mem_append_left _ (List.mem_of_getElem? (i := 12) rfl)
theorem k_cobj : Cond.code objectInit ⟨#[0xb1]⟩ 1 none ∈ kF := List.mem_append_left _ (List.mem_of_getElem? (i := 13) rfl)
theorem k_iobj : Cond.instanceMethod objectInit ∈ kF := List.mem_append_left _ (List.mem_of_getElem? (i := 14) rfl)
theorem k_lobj : Cond.methodLink RX3 1 objectInit ∈ kF := List.mem_append_left _ (List.mem_of_getElem? (i := 15) rfl)
theorem k_iX3_init : Cond.instanceMethod yX3_init ∈ kF := List.mem_append_left _ (List.mem_of_getElem? (i := 16) rfl)
theorem k_iX0_init : Cond.instanceMethod yX0_init ∈ kF := List.mem_append_left _ (List.mem_of_getElem? (i := 17) rfl)
theorem k_iX6_init : Cond.instanceMethod yX6_init ∈ kF := List.mem_append_left _ (List.mem_of_getElem? (i := 18) rfl)
theorem k_iX2_init : Cond.instanceMethod yX2_init ∈ kF := List.mem_append_left _ (List.mem_of_getElem? (i := 19) rfl)
theorem k_iX5_init : Cond.instanceMethod yX5_init ∈ kF := List.mem_append_left _ (List.mem_of_getElem? (i := 20) rfl)
theorem k_iX3_kind : Cond.instanceMethod yX3_kind ∈ kF := List.mem_append_left _ (List.mem_of_getElem? (i := 21) rfl)
theorem k_iX3_grow : Cond.instanceMethod yX3_grow ∈ kF := List.mem_append_left _ (List.mem_of_getElem? (i := 22) rfl)
theorem k_iX0_grow : Cond.instanceMethod yX0_grow ∈ kF := List.mem_append_left _ (List.mem_of_getElem? (i := 23) rfl)
theorem k_iX2_grow : Cond.instanceMethod yX2_grow ∈ kF := List.mem_append_left _ (List.mem_of_getElem? (i := 24) rfl)
theorem k_iX5_grow : Cond.instanceMethod yX5_grow ∈ kF := List.mem_append_left _ (List.mem_of_getElem? (i := 25) rfl)
theorem k_iX3_bend : Cond.instanceMethod yX3_bend ∈ kF := List.mem_append_left _ (List.mem_of_getElem? (i := 26) rfl)
theorem k_iX6_bend : Cond.instanceMethod yX6_bend ∈ kF := List.mem_append_left _ (List.mem_of_getElem? (i := 27) rfl)
theorem k_iX2_bend : Cond.instanceMethod yX2_bend ∈ kF := List.mem_append_left _ (List.mem_of_getElem? (i := 28) rfl)
theorem k_nX3 : Cond.initialized RX3 ∈ kF := List.mem_append_left _ (List.mem_of_getElem? (i := 29) rfl)
theorem k_nX0 : Cond.initialized RX0 ∈ kF := List.mem_append_left _ (List.mem_of_getElem? (i := 30) rfl)
theorem k_nX6 : Cond.initialized RX6 ∈ kF := List.mem_append_left _ (List.mem_of_getElem? (i := 31) rfl)
theorem k_nX2 : Cond.initialized RX2 ∈ kF := List.mem_append_left _ (List.mem_of_getElem? (i := 32) rfl)
theorem k_nX5 : Cond.initialized RX5 ∈ kF := List.mem_append_left _ (List.mem_of_getElem? (i := 33) rfl)
theorem k_l0i : Cond.methodLink RX0 1 yX3_init ∈ kF := List.mem_append_left _ (List.mem_of_getElem? (i := 34) rfl)
theorem k_l6i : Cond.methodLink RX6 1 yX0_init ∈ kF := List.mem_append_left _ (List.mem_of_getElem? (i := 35) rfl)
theorem k_l2i : Cond.methodLink RX2 3 yX6_init ∈ kF := List.mem_append_left _ (List.mem_of_getElem? (i := 36) rfl)
theorem k_l5i : Cond.methodLink RX5 3 yX3_init ∈ kF := List.mem_append_left _ (List.mem_of_getElem? (i := 37) rfl)
theorem k_l0g : Cond.methodLink RX0 7 yX3_grow ∈ kF := List.mem_append_left _ (List.mem_of_getElem? (i := 38) rfl)
theorem k_l2g : Cond.methodLink RX2 9 ⟨RX6, "grow", "(I)I"⟩ ∈ kF := List.mem_append_left _ (List.mem_of_getElem? (i := 39) rfl)
theorem k_l5g : Cond.methodLink RX5 9 yX3_grow ∈ kF := List.mem_append_left _ (List.mem_of_getElem? (i := 40) rfl)
theorem k_l2v : Cond.methodLink RX2 13 yX2_grow ∈ kF := List.mem_append_left _ (List.mem_of_getElem? (i := 41) rfl)
theorem k_l2b : Cond.methodLink RX2 16 yX6_bend ∈ kF := List.mem_append_left _ (List.mem_of_getElem? (i := 42) rfl)
theorem k_l6b : Cond.methodLink RX6 7 ⟨RX0, "bend", "(I)I"⟩ ∈ kF := List.mem_append_left _ (List.mem_of_getElem? (i := 43) rfl)
theorem k_l3g : Cond.methodLink RX3 19 yX3_grow ∈ kF := List.mem_append_left _ (List.mem_of_getElem? (i := 44) rfl)
theorem k_s33g : Cond.sameMethod RX3 RX3 "grow" "(I)I" ∈ kF := List.mem_append_left _ (List.mem_of_getElem? (i := 45) rfl)
theorem k_s60g : Cond.sameMethod RX6 RX0 "grow" "(I)I" ∈ kF := List.mem_append_left _ (List.mem_of_getElem? (i := 46) rfl)
theorem k_s33b : Cond.sameMethod RX3 RX3 "bend" "(I)I" ∈ kF := List.mem_append_left _ (List.mem_of_getElem? (i := 47) rfl)
theorem k_s03b : Cond.sameMethod RX0 RX3 "bend" "(I)I" ∈ kF := List.mem_append_left _ (List.mem_of_getElem? (i := 48) rfl)
theorem k_s66b : Cond.sameMethod RX6 RX6 "bend" "(I)I" ∈ kF := List.mem_append_left _ (List.mem_of_getElem? (i := 49) rfl)
theorem k_s33k : Cond.sameMethod RX3 RX3 "kind" "()I" ∈ kF := List.mem_append_left _ (List.mem_of_getElem? (i := 50) rfl)
theorem k_u03 : Cond.superclass RX0 RX3 ∈ kF := List.mem_append_left _ (List.mem_of_getElem? (i := 51) rfl)
theorem k_u60 : Cond.superclass RX6 RX0 ∈ kF := List.mem_append_left _ (List.mem_of_getElem? (i := 52) rfl)
theorem k_u26 : Cond.superclass RX2 RX6 ∈ kF := List.mem_append_left _ (List.mem_of_getElem? (i := 53) rfl)
theorem k_u53 : Cond.superclass RX5 RX3 ∈ kF := List.mem_append_left _ (List.mem_of_getElem? (i := 54) rfl)
theorem k_vgX3 : Cond.selects RX3 yX3_grow yX3_grow ∈ kF := List.mem_append_left _ (List.mem_of_getElem? (i := 55) rfl)
theorem k_vbX3 : Cond.selects RX3 yX3_bend yX3_bend ∈ kF := List.mem_append_left _ (List.mem_of_getElem? (i := 56) rfl)
theorem k_vkX3 : Cond.selects RX3 yX3_kind yX3_kind ∈ kF := List.mem_append_left _ (List.mem_of_getElem? (i := 57) rfl)
theorem k_vgX0 : Cond.selects RX0 yX3_grow yX0_grow ∈ kF := List.mem_append_left _ (List.mem_of_getElem? (i := 58) rfl)
theorem k_vbX0 : Cond.selects RX0 yX3_bend yX3_bend ∈ kF := List.mem_append_left _ (List.mem_of_getElem? (i := 59) rfl)
theorem k_vkX0 : Cond.selects RX0 yX3_kind yX3_kind ∈ kF := List.mem_append_left _ (List.mem_of_getElem? (i := 60) rfl)
theorem k_vgX6 : Cond.selects RX6 yX3_grow yX0_grow ∈ kF := List.mem_append_left _ (List.mem_of_getElem? (i := 61) rfl)
theorem k_vbX6 : Cond.selects RX6 yX3_bend yX6_bend ∈ kF := List.mem_append_left _ (List.mem_of_getElem? (i := 62) rfl)
theorem k_vkX6 : Cond.selects RX6 yX3_kind yX3_kind ∈ kF := List.mem_append_left _ (List.mem_of_getElem? (i := 63) rfl)
theorem k_vgX2 : Cond.selects RX2 yX3_grow yX2_grow ∈ kF := List.mem_append_left _ (List.mem_of_getElem? (i := 64) rfl)
theorem k_vbX2 : Cond.selects RX2 yX3_bend yX2_bend ∈ kF := List.mem_append_left _ (List.mem_of_getElem? (i := 65) rfl)
theorem k_vkX2 : Cond.selects RX2 yX3_kind yX3_kind ∈ kF := List.mem_append_left _ (List.mem_of_getElem? (i := 66) rfl)
theorem k_vgX5 : Cond.selects RX5 yX3_grow yX5_grow ∈ kF := List.mem_append_left _ (List.mem_of_getElem? (i := 67) rfl)
theorem k_vbX5 : Cond.selects RX5 yX3_bend yX3_bend ∈ kF := List.mem_append_left _ (List.mem_of_getElem? (i := 68) rfl)
theorem k_vkX5 : Cond.selects RX5 yX3_kind yX3_kind ∈ kF := List.mem_append_left _ (List.mem_of_getElem? (i := 69) rfl)
theorem k_v22g : Cond.selects RX2 yX2_grow yX2_grow ∈ kF := List.mem_append_left _ (List.mem_of_getElem? (i := 70) rfl)
theorem k_fk : Cond.fieldLink RX3 7 "SternBrocotExplorer$Node" "kind" "I" ∈ kF := List.mem_append_left _ (List.mem_of_getElem? (i := 71) rfl)
theorem k_ft : Cond.fieldLink RX3 13 "SternBrocotExplorer$Node" "top" "I" ∈ kF := List.mem_append_left _ (List.mem_of_getElem? (i := 72) rfl)
theorem k_fb : Cond.fieldLink RX3 16 "SternBrocotExplorer$Node" "bottom" "I" ∈ kF := List.mem_append_left _ (List.mem_of_getElem? (i := 73) rfl)
theorem k_f6 : Cond.fieldLink RX6 11 "SternBrocotExplorer$Twig" "bottom" "I" ∈ kF := List.mem_append_left _ (List.mem_of_getElem? (i := 74) rfl)
theorem k_f6s : Cond.sameField "SternBrocotExplorer$Twig" "SternBrocotExplorer$Node" "bottom" "I" ∈ kF := List.mem_append_left _ (List.mem_of_getElem? (i := 75) rfl)
theorem k_all : ∀ w ∈ kF, (w.onTables && w.keeps) = true := by decide +kernel
theorem k_tX3 : ∀ w ∈ u_ws RX3 TX3 3, w ∈ kF := fun w h => List.mem_append_right _ (List.mem_append_left _ h)
theorem k_tX0 : ∀ w ∈ u_ws RX0 TX3 3, w ∈ kF := fun w h => List.mem_append_right _ (List.mem_append_right _ (List.mem_append_left _ h))
theorem k_tX6 : ∀ w ∈ u_ws RX6 TX3 3, w ∈ kF := fun w h => List.mem_append_right _ (List.mem_append_right _ (List.mem_append_right _ (List.mem_append_left _ h)))
theorem k_tX2 : ∀ w ∈ u_ws RX2 TX3 3, w ∈ kF := fun w h => List.mem_append_right _ (List.mem_append_right _ (List.mem_append_right _ (List.mem_append_right _ (List.mem_append_left _ h))))
theorem k_tX5 : ∀ w ∈ u_ws RX5 TX3 3, w ∈ kF := fun w h => List.mem_append_right _ (List.mem_append_right _ (List.mem_append_right _ (List.mem_append_right _ (List.mem_append_right _ h))))
abbrev kW (y : MethodName) (cc : ByteArray) (n : Nat) (r : Option FieldType) : List Cond := Cond.code y cc n r :: kF
theorem k_good {Ts : List Cond} (h : ∀ w ∈ kF, w ∈ Ts) {y : MethodName} {cc : ByteArray} {n : Nat} {r : Option FieldType} (hc : Cond.code y cc n r ∈ kF) : GoodIn Ts (kW y cc n r) := fun w hw => by
  have hm : w ∈ kF := by
    rcases List.mem_cons.mp hw with rfl | h
    · exact hc
    · exact h
  exact ⟨h w hm, Or.inl (k_all w hm)⟩
abbrev rmF (n : Nat) : Room := { frames := n, cells := 0, slots := 0, locals := 21 * n }
abbrev rmI (n : Nat) : Room := { frames := n, cells := 0, slots := 0, locals := 23 * n }
section KNODE
variable {p : Program} {l : Launch} {e : Env} {R : Room} {s : State} {m : MethodId} {args : Array Value} {below : List Frame} {meth : Method} {c : Code} {H : Heap} {locs : List Loc} {cells slots : Nat} {Q : State → Prop} {pc : Nat} {ls : Array Slot} {rest st0 : List Value}
theorem k_CU {own C : String} {index n maxL : Nat} {x y : MethodName} {bytes : ByteArray} {ret : Option FieldType} {rm : Room} {Ts : List Cond} (ht : ∀ w ∈ Ts, w.before args s = true) (hF : ∀ w ∈ kF, w ∈ Ts) (hl : Cond.methodLink own index x ∈ Ts) (hs : Cond.sameMethod x.cls x.cls x.name x.desc ∈ kF) (hix : Cond.instanceMethod x ∈ kF) {b0 : ByteArray} {m0 : Nat} {r0 : Option FieldType} (hcx : Cond.code x b0 m0 r0 ∈ kF) (hsel : Cond.selects C x y ∈ kF) (hiy : Cond.instanceMethod y ∈ kF) (hini : Cond.initialized y.cls ∈ kF) (hcy : Cond.code y bytes maxL ret ∈ kF) (hrm : rm.cells = 0 ∧ rm.slots = 0) (hd : kNm x n) (hR : rm.frames + 1 ≤ R.frames ∧ 8 + (maxL + 11) + rm.locals ≤ R.locals) : va_CU R s args own C x.cls index x y bytes maxL ret (kW y bytes maxL ret) rm 0 0 n := by
  have hG := k_good hF hcy
  refine ⟨⟨hrm.1, hrm.2, hR.1, hR.2, pay_in ht hG, List.mem_cons_self⟩, ht _ (hF _ hcy), ht _ (hF _ hini), ⟨hd.1, hd.2.1⟩, fun sig h => ?_, ht _ hl, ht _ (hF _ hs), va_Decl.of (ht _ (hF _ hix)) (ht _ (hF _ hcx)), ht _ (hF _ hsel), ht _ (hF _ hiy)⟩
  have h2 := hd.2.2
  rw [h] at h2
  exact (Option.some.inj h2).symm
variable {cc : ByteArray} {nL mc ms : Nat} {Ts : List Cond} {own : String} {D : va_G} {tys : List (ClassId × FieldType)} {wc : va_W} {y : MethodName} {bytes : ByteArray} {maxL : Nat} {ret : Option FieldType} {ws : List Cond} {rm : Room} {Qc : Array Value → State → Outcome → State → Prop} {free : Addr → Prop} {b index : Nat} {As : List Value}
/-- a virtual call on a receiver of known class: methods that only read -/
theorem k_oU (S : CallFix p m c cc nL s args Ts own) (hK : va_K D vwCl tys s) (hN : kN s) (hM : Met l y ws rm (kR D tys (.ref b :: As) wc) Qc 0 0 free) (n : Nat) {C : String} {x : MethodName} (cw : va_CU R s args own C x.cls index x y bytes maxL ret ws rm 0 0 n)
    {ci q0 : Nat} {fs : List Value} {r : vw_C} (he : wc[q0]? = some (b, .inr (ci, fs))) (hc : vwCl[ci]? = some r) (hC : r.1 = C) (hn : As.length = n) (hsize : ls.size = nL) (hst : st0 = As.reverse ++ .ref b :: rest) (hW : (rest.map fun v => v.category).sum ≤ 8) (hdg : decode cc pc = .ok (.invokevirtual index, 3)) (hf : cells + 0 ≤ R.cells ∧ slots + 0 ≤ R.slots)
    (hPc : va_P D vwCl wc H) : CallRun p l e R s m args below meth c H locs cells slots 0 0 (F0 m pc ls st0) rest (Qc (Value.ref b :: As).toArray) free :=
  (va_runU (As := As) (rest := rest) S hM cw ⟨kR_blind, hC ▸ va_recv hK hPc hc he, kR_at hPc hK hN⟩ rfl hn hsize hst (lv_room hW) hdg hf).run
theorem k_sub1 {D1 C : String} (hup : D1 = C ∨ (Cond.superclass D1 C).before args s = true) : ∀ (ps r0 : ClassId), s.vm.findClass D1 = some ps → s.vm.findClass C = some r0 → s.vm.isSubclass ps r0 = true := by
  intro ps r0 h1 h2
  rcases hup with rfl | hup
  · cases h1.symm.trans h2
    simp [Vm.isSubclass, Vm.isSubclassAux]
  · obtain ⟨q, k, kq, hq, hk, hkq, hsuper, -⟩ := Cond.superclass_spec h1 hup
    cases hq.symm.trans h2
    have hlt : ps < s.vm.classes.size := (Array.getElem?_eq_some_iff.mp hk).1
    obtain ⟨j, hj⟩ : ∃ j, s.vm.classes.size = j + 1 := ⟨s.vm.classes.size - 1, (Nat.succ_pred_eq_of_pos (Nat.lt_of_le_of_lt (Nat.zero_le _) hlt)).symm⟩
    simp [Vm.isSubclass, Vm.isSubclassAux, hj, hk, hsuper]
/-- super.m(..) where m stands in the superclass or in the one above it -/
theorem k_callSX {T : State} (X : Stand p l e R s m args below meth c T locs cells slots) (hexec : p.tables.exec = Jvm.exec) {own D1 : String}
    (hown : s.vm.findClass own = some m.cls) (hlink : (Cond.methodLink own index ⟨D1, y.name, y.desc⟩).before args s = true) (hsame : (Cond.sameMethod D1 y.cls y.name y.desc).before args s = true) (hsup : (Cond.superclass own D1).before args s = true)
    (hup : D1 = y.cls ∨ (Cond.superclass D1 y.cls).before args s = true) (hinst : (Cond.instanceMethod y).before args s = true) (hcode : (Cond.code y bytes maxL ret).before args s = true) (hno : y.name ≠ "<init>")
    {W : Nat} {Pre : Pt → Array Value → Prop} {Post : Pt → Array Value → Option Value → Pt → Prop} (hK : Back l R p e below s args y 3 W Pre Post)
    {b : Addr} {cellB : Cell} {kB : Class} (hcell : T.heap[b]? = some cellB) (hobj : cellB.vm.isStatics = false) (hkB : s.vm.classes[cellB.cls]? = some kB)
    {g : JFrame} (hg : g.method = m) (hsize : g.locals.size = c.maxLocals) {argsL rest : List Value} (hlen : ∀ sig, parseMethodDescriptor y.desc = some sig → argsL.length = sig.parameters.length)
    (hstack : g.stack = argsL.reverse ++ .ref b :: rest) (hW : 2 * g.monitorRoom + (rest.map fun v => v.category).sum ≤ W) (hdg : decode c.code g.pc = .ok (.invokespecial index, 3))
    (hpre : ∀ vm₁, s.WarmedH vm₁ → Pre ⟨T.setVm vm₁, locs, cells, slots⟩ (Value.ref b :: argsL).toArray) :
    ∃ (v : Option Value) (vm₁ : Vm) (B : Pt), s.WarmedH vm₁ ∧ Stand p l e R s m args below meth c B.U B.locs B.cells B.slots ∧ Post ⟨T.setVm vm₁, locs, cells, slots⟩ (Value.ref b :: argsL).toArray v B ∧
      ∀ target, Steps p.tables e below (B.U.setTop { g with pc := g.pc + 3, stack := v.toList ++ rest }) target → Steps p.tables e below (T.setTop g) target := by
  obtain ⟨mk, methM, hnamed, hmethM, hstM, habM⟩ := Cond.instanceMethod_spec hinst
  obtain ⟨methM', cM, hmethM', -, -, -, -, -, -, hsigM⟩ := Cond.code_spec hnamed hcode
  cases hmethM.symm.trans hmethM'
  obtain ⟨ps, dk, kp, hps, hdk, hkp, hsuper, -, -, hnid⟩ := Cond.superclass_spec hown hsup
  have hn : s.methodNamed? ⟨y.cls, y.name, y.desc⟩ = some mk := hnamed
  have hsub : s.vm.isSubclass ps mk.cls = true := k_sub1 hup ps mk.cls hps (findClass_of_methodNamed hnamed)
  obtain ⟨vm₁, X₁, hstep₁⟩ := X.invokespecialUp hexec (x := ⟨D1, y.name, y.desc⟩) hown hlink hsame hn hmethM hstM habM hno hdk hnid hps hsuper hsub (a := b) (cell := cellB) hcell
    (fun z h => by rw [h] at hobj; cases hobj) hkB (g := g) hg (argsL := argsL) (rest := rest) (hlen _ hsigM) hstack hdg
  obtain ⟨v, B, X', hpost, hsteps⟩ := hK m meth c ⟨T.setVm vm₁, locs, cells, slots⟩ { g with stack := rest } (.invokespecial index) mk (Value.ref b :: argsL).toArray X₁ hg hsize hdg hW (X₁.named hnamed) (hpre vm₁ X₁.warmed)
  exact ⟨v, vm₁, B, X₁.warmed, X', hpost, fun target h => hstep₁ _ (by rw [doInvoke_state]; exact hsteps.trans h)⟩
theorem k_runSX {Pc : Array Value → State → Prop} {C D1 : String} {cC : ClassId} {n : Nat} {g : JFrame} (hat : ClassAt s C cC) (S : CallFix p m c cc nL s args Ts own) (hM : Met l y ws rm Pc Qc mc ms free) (hrc : rm.cells = mc) (hrs : rm.slots = ms) (hR : rm.frames + 1 ≤ R.frames ∧ 8 + (maxL + 11) + rm.locals ≤ R.locals) (hws : ∀ w ∈ ws, ∀ (a' : Array Value) (U : State), s.WarmedH U.vm → w.before a' U = true) (hcw : Cond.code y bytes maxL ret ∈ ws)
    (hl1 : (Cond.methodLink own index ⟨D1, y.name, y.desc⟩).before args s = true) (hl2 : (Cond.sameMethod D1 y.cls y.name y.desc).before args s = true) (hl3 : (Cond.superclass own D1).before args s = true) (hup : D1 = y.cls ∨ (Cond.superclass D1 y.cls).before args s = true) (hl4 : (Cond.instanceMethod y).before args s = true) (hini : (Cond.initialized y.cls).before args s = true) (hcode : (Cond.code y bytes maxL ret).before args s = true) (hno : y.name ≠ "<init>") (hlen : ∀ sig, parseMethodDescriptor y.desc = some sig → n = sig.parameters.length) (hp : PreV s H C b Pc As)
    (hg : g.method = m) (hn : As.length = n) (hsize : g.locals.size = nL) (hstack : g.stack = As.reverse ++ .ref b :: rest) (hW : 2 * g.monitorRoom + (rest.map fun v => v.category).sum ≤ 8) (hdg : decode cc g.pc = .ok (.invokespecial index, 3)) (hf : cells + mc ≤ R.cells ∧ slots + ms ≤ R.slots) :
    va_Run p l e R s m args below meth c H locs cells slots mc ms g rest (Qc (Value.ref b :: As).toArray) (free) := by
  have hK : Back l R p e below s args y 3 8 (PreOf R mc ms Pc) (PostOf Qc mc ms free) := back_of (bytes := bytes) (maxL := maxL) (ret := ret) hM hp.1 hrc hrs hR.1 hR.2 hws hcw (fun a' U hW => word_at hW (Or.inl (by first | rfl | simp [Cond.onTables, Cond.keeps, Cond.steady])) hini)
  obtain ⟨hx, hb, hml, ho, -⟩ := S
  obtain ⟨-, ⟨cellB, hcB, hoB, hclB⟩, hPc⟩ := hp
  obtain ⟨hfc, kB, hkB, -⟩ := hat
  cases hfc.symm.trans hclB
  intro T hT X
  obtain ⟨v, vm₁, ⟨U', l2, c2, s2⟩, hW₁, X', ⟨g', mk, t, L, e1, e2, hq, h1, hL, h2, h3⟩, st⟩ := k_callSX X hx (bytes := bytes) (maxL := maxL) (ret := ret) ho hl1 hl2 hl3 hup hl4 hcode hno hK (by rw [hT]; exact hcB) hoB hkB hg (hsize.trans hml.symm) (argsL := As) (rest := rest) (fun sig h => hn.trans (hlen sig h)) hstack hW (by rw [hb]; exact hdg)
    (fun vm₁ hW₁ => ⟨hf.1, hf.2, hPc (T.setVm vm₁) hT hW₁⟩)
  dsimp only [Pt.U, Pt.locs, Pt.cells, Pt.slots] at X' e1 e2 h1 h2 h3 st
  subst h1; subst h2; subst h3
  exact ⟨v, (T.setVm vm₁).calling g' mk (Value.ref b :: As).toArray, t, U', L, hT, X', hL, e1, e2, hq, st⟩
theorem k_oSX (S : CallFix p m c cc nL s args Ts own) (hK9 : va_K D vwCl tys s) (hN : kN s) (hF : ∀ w ∈ kF, w ∈ Ts) (hM : Met l y (kW y bytes maxL ret) rm (kR D tys (.ref b :: As) wc) Qc 0 0 free) (n : Nat) (D1 : String) (hl : Cond.methodLink own index ⟨D1, y.name, y.desc⟩ ∈ kF) (hs : Cond.sameMethod D1 y.cls y.name y.desc ∈ kF) (hsup : Cond.superclass own D1 ∈ kF) (hup : D1 = y.cls ∨ Cond.superclass D1 y.cls ∈ kF) (hi : Cond.instanceMethod y ∈ kF) (hini : Cond.initialized y.cls ∈ kF) (hcy : Cond.code y bytes maxL ret ∈ kF) (hrm : rm.cells = 0 ∧ rm.slots = 0) (hno : y.name ≠ "<init>") (hd : kNm y n) (hR : rm.frames + 1 ≤ R.frames ∧ 8 + (maxL + 11) + rm.locals ≤ R.locals)
    {ci q0 : Nat} {fs : List Value} {r : vw_C} (he : wc[q0]? = some (b, .inr (ci, fs))) (hc : vwCl[ci]? = some r) (hn : As.length = n) (hsize : ls.size = nL) (hst : st0 = As.reverse ++ .ref b :: rest) (hW : (rest.map fun v => v.category).sum ≤ 8) (hdg : decode cc pc = .ok (.invokespecial index, 3)) (hf : cells + 0 ≤ R.cells ∧ slots + 0 ≤ R.slots)
    (hPc : va_P D vwCl wc H) : CallRun p l e R s m args below meth c H locs cells slots 0 0 (F0 m pc ls st0) rest (Qc (Value.ref b :: As).toArray) free := by
  have hts := S.2.2.2.2
  have hlen : ∀ sig, parseMethodDescriptor y.desc = some sig → n = sig.parameters.length := fun sig h => by
    have h2 := hd.2.2
    rw [h] at h2
    exact (Option.some.inj h2).symm
  exact (k_runSX (bytes := bytes) (maxL := maxL) (ret := ret) (As := As) (rest := rest) (hK9.1 ci _ hc).2 S hM hrm.1 hrm.2 hR (pay_in hts (k_good hF hcy)) List.mem_cons_self (hts _ (hF _ hl)) (hts _ (hF _ hs)) (hts _ (hF _ hsup)) (hup.imp id (fun h => hts _ (hF _ h))) (hts _ (hF _ hi)) (hts _ (hF _ hini)) (hts _ (hF _ hcy)) hno hlen ⟨kR_blind, va_recv hK9 hPc hc he, kR_at hPc hK9 hN⟩ rfl hn hsize hst (lv_room hW) hdg hf).run
/-- a constructor -/
theorem k_rI {A : Nat → Prop} (S : CallFix p m c cc nL s args Ts own) (hK : va_K D vwCl tys s) (hN : kN s) (hF : ∀ w ∈ kF, w ∈ Ts) (hM : Met l y (kW y bytes maxL none) rm (kP D tys H.size (.ref b :: As) wc) Qc mc ms free) (n : Nat) (hl : Cond.methodLink own index y ∈ Ts) (hin : Cond.instanceMethod y ∈ kF) (hini : Cond.initialized y.cls ∈ kF) (hcy : Cond.code y bytes maxL none ∈ kF) (hrm : rm.cells = mc ∧ rm.slots = ms) (hy1 : y.name = "<init>") (hd : kNm y n) (hR : rm.frames + 1 ≤ R.frames ∧ 8 + (maxL + 11) + rm.locals ≤ R.locals)
    (hn : As.length = n) (hsize : ls.size = nL) (hst : st0 = As.reverse ++ .ref b :: rest) (hW : (rest.map fun v => v.category).sum ≤ 8) (hdg : decode cc pc = .ok (.invokespecial index, 3)) (hf : cells + mc ≤ R.cells ∧ slots + ms ≤ R.slots)
    (hPc : va_P D vwCl wc H) (hDc : va_D A wc) : va_Run p l e R s m args below meth c H locs cells slots mc ms (F0 m pc ls st0) rest (Qc (Value.ref b :: As).toArray) free :=
  va_runI (As := As) (rest := rest) S hM (cwI n S.2.2.2.2 (k_good hF hcy) rfl hrm.1 hrm.2 (S.2.2.2.2 _ (hF _ hini)) (S.2.2.2.2 _ hl) (S.2.2.2.2 _ (hF _ hin)) hy1 hd hR) ⟨kP_blind, kP_at hPc hDc hK hN⟩ rfl hn hsize hst (lv_room hW) hdg hf
end KNODE
section KMETC
variable {l : Launch} {y : MethodName} {ws ws' : List Cond} {cc : ByteArray} {maxL : Nat} {rm : Room} {D : va_G} {tys : List (ClassId × FieldType)} {sz : Nat} {av : List Value} {wc : va_W} {mc ms : Nat}
/-- a constructor's code: as kMetV, with the method's name -/
theorem kMetC {S : Type} {post : S → Prop} {wB : S → va_W} (hy : plainName y.cls = true) (hw : ws = Cond.code y cc maxL none :: ws') (hlen : (lg_sl av).length ≤ maxL)
    (body : ∀ (p : Program) (e : Env) (s : State) (m : MethodId) (args : Array Value) (below : List Frame) (meth : Method) (c : Code) (H : Heap) (ls : Array Slot) (A : Nat → Prop) (Q : State → Prop), meth.name = y.name → CallFix p m c cc maxL s args ws y.cls → va_K D vwCl tys s → kN s → va_P D vwCl wc H → va_D A wc → va_S A H H [] → (∀ q, H.size ≤ q → A q) → lv_has ls maxL (lv_args 0 av) →
      (∀ (pc : Nat) (ls : Array Slot) (u : S) (H1 : Heap) (locs : List Loc), post u → va_P D vwCl (wB u) H1 → va_D A (wB u) → va_S A H H1 locs → decode cc pc = .ok (.return_, 1) → W p l e rm s m args below meth c H1 locs mc ms Q (F0 m pc ls [])) →
      W p l e rm s m args below meth c H [] 0 0 Q (F0 m 0 ls [])) : Met l y ws rm (kP D tys sz av wc) (kQv D wc sz post wB) mc ms (va_A wc sz) := by
  refine Met.ofW (cc := cc) (maxL := maxL) (ret := none) hy hw ?_
  intro p e s m args below meth c s₁ B hml hv
  obtain ⟨rfl, hsz, hP, hK, hD0, hN⟩ := hv
  have hlocks := B.notSynchronized
  have hown : s.vm.findClass y.cls = some m.cls := findClass_of_methodNamed B.named
  subst hsz
  have hD := hD0.self (sz := s.heap.size)
  rw [lg_entry_eq]
  refine body p e s m _ below meth c s.heap _ (va_A wc s.heap.size) _ (name_of_methodNamed B.named B.method).1 ⟨B.exec, B.bytes, hml, hown, atoms_spec (ws := ws) B.pre⟩ hK hN hP hD va_S.rf (fun q h => Or.inr h) (lv_entry av hlen) ?_
  intro pc ls u H1 locs hpost hP1 hD1 hS1 hdg
  exact W.vret B.exec B.bytes B.returns (fun t ht hW => ⟨⟨u, rfl, hpost, by show va_P _ _ _ t.heap; rw [ht]; exact hP1, hD1⟩, hS1.F ht⟩) hS1.2.2 hdg
end KMETC
section KFAM
set_option maxHeartbeats 4000000 in
set_option maxRecDepth 100000 in
theorem cF_kind (l : Launch) (D : va_G) (cI cJ cN cR : ClassId) {ci : Nat} {C : String} (hc : vwCl[ci]? = some (C, TX3, 3)) (hi : ∀ w ∈ u_ws C TX3 3, w ∈ kF) (h0 : Nat) (k t b v1 : Int32) (n : Nat) : Met l yX3_kind (kW yX3_kind cX3_kind 1 (some .int)) (rmF n) (kR D (kT cI cJ cN cR) [.ref h0] [(h0, nd ci k t b)]) (vp_Si (fun r => r = k)) 0 0 (fun _ => False) := by
  refine kMetRI (cc := cX3_kind) (maxL := 1) (by decide +kernel) rfl (Nat.le_of_ble_eq_true rfl) ?_
  intro p e s m args below meth c H ls Q C0 hK hN hP hl RET
  obtain ⟨hx, hb, hml, hown, hts⟩ := id C0
  have hl : lv_has ls 1 [(0, .ref h0)] := hl
  have hF : ∀ w ∈ kF, w ∈ kW yX3_kind cX3_kind 1 (some .int) := fun w h => List.mem_cons_of_mem _ h
  refine lv_aload_n hx hb dX3_kind_0 rfl (lv_at hl 0 rfl) ?_
  refine va_get (D := D) (ci := ci) (v := .int k) (C := C) (T := TX3) (N := 3) hx hb hts (fun w h => hF w (hi w h)) hown hK hP 0 rfl hc 0 (by decide) (hts _ (hF _ k_fk)) (fun _ h9 => h9) rfl dX3_kind_1 ?_
  exact RET _ _ _ rfl dX3_kind_4
set_option maxHeartbeats 4000000 in
set_option maxRecDepth 100000 in
theorem cF_grow3 (l : Launch) (D : va_G) (cI cJ cN cR : ClassId) {ci : Nat} {C : String} (hc : vwCl[ci]? = some (C, TX3, 3)) (hi : ∀ w ∈ u_ws C TX3 3, w ∈ kF) (h0 : Nat) (k t b v1 : Int32) (n : Nat) : Met l yX3_grow (kW yX3_grow cX3_grow 2 (some .int)) (rmF n) (kR D (kT cI cJ cN cR) [.ref h0, .int v1] [(h0, nd ci k t b)]) (vp_Si (fun r => r = v1 + t)) 0 0 (fun _ => False) := by
  refine kMetRI (cc := cX3_grow) (maxL := 2) (by decide +kernel) rfl (Nat.le_of_ble_eq_true rfl) ?_
  intro p e s m args below meth c H ls Q C0 hK hN hP hl RET
  obtain ⟨hx, hb, hml, hown, hts⟩ := id C0
  have hl : lv_has ls 2 [(0, .ref h0), (1, .int v1)] := hl
  have hF : ∀ w ∈ kF, w ∈ kW yX3_grow cX3_grow 2 (some .int) := fun w h => List.mem_cons_of_mem _ h
  refine lv_iload_n hx hb dX3_grow_0 rfl (lv_at hl 1 rfl) ?_
  refine lv_aload_n hx hb dX3_grow_1 rfl (lv_at hl 0 rfl) ?_
  refine va_get (D := D) (ci := ci) (v := .int t) (C := C) (T := TX3) (N := 3) hx hb hts (fun w h => hF w (hi w h)) hown hK hP 0 rfl hc 1 (by decide) (hts _ (hF _ k_ft)) (fun _ h9 => h9) rfl dX3_grow_2 ?_
  refine lv_iadd hx hb dX3_grow_5 ?_
  exact RET _ _ _ rfl dX3_grow_6
set_option maxHeartbeats 4000000 in
set_option maxRecDepth 100000 in
theorem cF_grow0 (l : Launch) (D : va_G) (cI cJ cN cR : ClassId) {ci : Nat} {C : String} (hc : vwCl[ci]? = some (C, TX3, 3)) (hi : ∀ w ∈ u_ws C TX3 3, w ∈ kF) (h0 : Nat) (k t b v1 : Int32) (n : Nat) : Met l yX0_grow (kW yX0_grow cX0_grow 2 (some .int)) (rmF (n + 1)) (kR D (kT cI cJ cN cR) [.ref h0, .int v1] [(h0, nd ci k t b)]) (vp_Si (fun r => r = v1 * 2 + t)) 0 0 (fun _ => False) := by
  refine kMetRI (cc := cX0_grow) (maxL := 2) (by decide +kernel) rfl (Nat.le_of_ble_eq_true rfl) ?_
  intro p e s m args below meth c H ls Q C0 hK hN hP hl RET
  obtain ⟨hx, hb, hml, hown, hts⟩ := id C0
  have hl : lv_has ls 2 [(0, .ref h0), (1, .int v1)] := hl
  have hF : ∀ w ∈ kF, w ∈ kW yX0_grow cX0_grow 2 (some .int) := fun w h => List.mem_cons_of_mem _ h
  refine lv_aload_n hx hb dX0_grow_0 rfl (lv_at hl 0 rfl) ?_
  refine lv_iload_n hx hb dX0_grow_1 rfl (lv_at hl 1 rfl) ?_
  refine lv_iconst (v := (2 : Int32)) hx hb dX0_grow_2 (by decide) ?_
  refine lv_imul hx hb dX0_grow_3 ?_
  refine kcRI (wc := [(h0, nd ci k t b)]) hP [0] rfl (fun hPc => k_oSX (rest := []) C0 hK hN hF (cF_grow3 l D cI cJ cN cR hc hi h0 k t b (v1 * 2) n) 1 RX3 k_l0g k_s33g k_u03 (Or.inl rfl) k_iX3_grow k_nX3 k_cX3_grow ⟨rfl, rfl⟩ (by decide +kernel) nm_X3_grow ⟨by show n + 1 ≤ n + 1; exact Nat.le_refl _, by show 8 + (2 + 11) + 21 * n ≤ 21 * (n + 1); omega⟩ (q0 := 0) rfl hc rfl hl.1 rfl (Nat.le_of_ble_eq_true rfl) dX0_grow_4 ⟨Nat.le_of_ble_eq_true rfl, Nat.le_of_ble_eq_true rfl⟩ hPc) (fun r hw => ?_)
  subst hw
  exact RET _ _ _ rfl dX0_grow_7
set_option maxHeartbeats 4000000 in
set_option maxRecDepth 100000 in
theorem cF_grow2 (l : Launch) (D : va_G) (cI cJ cN cR : ClassId) {ci : Nat} {C : String} (hc : vwCl[ci]? = some (C, TX3, 3)) (hi : ∀ w ∈ u_ws C TX3 3, w ∈ kF) (h0 : Nat) (k t b v1 : Int32) (n : Nat) : Met l yX2_grow (kW yX2_grow cX2_grow 2 (some .int)) (rmF (n + 2)) (kR D (kT cI cJ cN cR) [.ref h0, .int v1] [(h0, nd ci k t b)]) (vp_Si (fun r => r = (v1 * 2 + t) ^^^ 5)) 0 0 (fun _ => False) := by
  refine kMetRI (cc := cX2_grow) (maxL := 2) (by decide +kernel) rfl (Nat.le_of_ble_eq_true rfl) ?_
  intro p e s m args below meth c H ls Q C0 hK hN hP hl RET
  obtain ⟨hx, hb, hml, hown, hts⟩ := id C0
  have hl : lv_has ls 2 [(0, .ref h0), (1, .int v1)] := hl
  have hF : ∀ w ∈ kF, w ∈ kW yX2_grow cX2_grow 2 (some .int) := fun w h => List.mem_cons_of_mem _ h
  refine lv_aload_n hx hb dX2_grow_0 rfl (lv_at hl 0 rfl) ?_
  refine lv_iload_n hx hb dX2_grow_1 rfl (lv_at hl 1 rfl) ?_
  refine kcRI (wc := [(h0, nd ci k t b)]) hP [0] rfl (fun hPc => k_oSX (rest := []) C0 hK hN hF (cF_grow0 l D cI cJ cN cR hc hi h0 k t b v1 n) 1 RX6 k_l2g k_s60g k_u26 (Or.inr k_u60) k_iX0_grow k_nX0 k_cX0_grow ⟨rfl, rfl⟩ (by decide +kernel) nm_X0_grow ⟨by show (n + 1) + 1 ≤ (n + 1) + 1; exact Nat.le_refl _, by show 8 + (2 + 11) + 21 * (n + 1) ≤ 21 * ((n + 1) + 1); omega⟩ (q0 := 0) rfl hc rfl hl.1 rfl (Nat.le_of_ble_eq_true rfl) dX2_grow_2 ⟨Nat.le_of_ble_eq_true rfl, Nat.le_of_ble_eq_true rfl⟩ hPc) (fun r hw => ?_)
  subst hw
  refine lv_iconst (v := (5 : Int32)) hx hb dX2_grow_5 (by decide) ?_
  refine lv_ixor hx hb dX2_grow_6 ?_
  exact RET _ _ _ rfl dX2_grow_7
set_option maxHeartbeats 4000000 in
set_option maxRecDepth 100000 in
theorem cF_grow5 (l : Launch) (D : va_G) (cI cJ cN cR : ClassId) {ci : Nat} {C : String} (hc : vwCl[ci]? = some (C, TX3, 3)) (hi : ∀ w ∈ u_ws C TX3 3, w ∈ kF) (h0 : Nat) (k t b v1 : Int32) (n : Nat) : Met l yX5_grow (kW yX5_grow cX5_grow 2 (some .int)) (rmF (n + 1)) (kR D (kT cI cJ cN cR) [.ref h0, .int v1] [(h0, nd ci k t b)]) (vp_Si (fun r => r = 0 - (v1 + t))) 0 0 (fun _ => False) := by
  refine kMetRI (cc := cX5_grow) (maxL := 2) (by decide +kernel) rfl (Nat.le_of_ble_eq_true rfl) ?_
  intro p e s m args below meth c H ls Q C0 hK hN hP hl RET
  obtain ⟨hx, hb, hml, hown, hts⟩ := id C0
  have hl : lv_has ls 2 [(0, .ref h0), (1, .int v1)] := hl
  have hF : ∀ w ∈ kF, w ∈ kW yX5_grow cX5_grow 2 (some .int) := fun w h => List.mem_cons_of_mem _ h
  refine lv_iconst (v := (0 : Int32)) hx hb dX5_grow_0 (by decide) ?_
  refine lv_aload_n hx hb dX5_grow_1 rfl (lv_at hl 0 rfl) ?_
  refine lv_iload_n hx hb dX5_grow_2 rfl (lv_at hl 1 rfl) ?_
  refine kcRI (wc := [(h0, nd ci k t b)]) hP [0] rfl (fun hPc => k_oSX (rest := [.int (0 : Int32)]) C0 hK hN hF (cF_grow3 l D cI cJ cN cR hc hi h0 k t b v1 n) 1 RX3 k_l5g k_s33g k_u53 (Or.inl rfl) k_iX3_grow k_nX3 k_cX3_grow ⟨rfl, rfl⟩ (by decide +kernel) nm_X3_grow ⟨by show n + 1 ≤ n + 1; exact Nat.le_refl _, by show 8 + (2 + 11) + 21 * n ≤ 21 * (n + 1); omega⟩ (q0 := 0) rfl hc rfl hl.1 rfl (Nat.le_of_ble_eq_true rfl) dX5_grow_3 ⟨Nat.le_of_ble_eq_true rfl, Nat.le_of_ble_eq_true rfl⟩ hPc) (fun r hw => ?_)
  subst hw
  refine lv_isub hx hb dX5_grow_6 ?_
  exact RET _ _ _ rfl dX5_grow_7
set_option maxHeartbeats 4000000 in
set_option maxRecDepth 100000 in
theorem cF_bend3 (l : Launch) (D : va_G) (cI cJ cN cR : ClassId) {ci : Nat} {C : String} (hc : vwCl[ci]? = some (C, TX3, 3)) (hi : ∀ w ∈ u_ws C TX3 3, w ∈ kF) (h0 : Nat) (k t b v1 : Int32) (g : Int32) {yg : MethodName} {bg : ByteArray} (hsel : Cond.selects C yX3_grow yg ∈ kF) (hiy : Cond.instanceMethod yg ∈ kF) (hini : Cond.initialized yg.cls ∈ kF) (hcy : Cond.code yg bg 2 (some .int) ∈ kF) (hM : Met l yg (kW yg bg 2 (some .int)) (rmF 2) (kR D (kT cI cJ cN cR) [.ref h0, .int v1] [(h0, nd ci k t b)]) (vp_Si (fun r => r = g)) 0 0 (fun _ => False)) : Met l yX3_bend (kW yX3_bend cX3_bend 2 (some .int)) (rmF 3) (kR D (kT cI cJ cN cR) [.ref h0, .int v1] [(h0, nd ci k t b)]) (vp_Si (fun r => r = g * 3 - b)) 0 0 (fun _ => False) := by
  refine kMetRI (cc := cX3_bend) (maxL := 2) (by decide +kernel) rfl (Nat.le_of_ble_eq_true rfl) ?_
  intro p e s m args below meth c H ls Q C0 hK hN hP hl RET
  obtain ⟨hx, hb, hml, hown, hts⟩ := id C0
  have hl : lv_has ls 2 [(0, .ref h0), (1, .int v1)] := hl
  have hF : ∀ w ∈ kF, w ∈ kW yX3_bend cX3_bend 2 (some .int) := fun w h => List.mem_cons_of_mem _ h
  refine lv_aload_n hx hb dX3_bend_0 rfl (lv_at hl 0 rfl) ?_
  refine lv_iload_n hx hb dX3_bend_1 rfl (lv_at hl 1 rfl) ?_
  refine kcRI (wc := [(h0, nd ci k t b)]) hP [0] rfl (fun hPc => k_oU (rest := []) C0 hK hN hM 1 (k_CU hts hF (hF _ k_l3g) k_s33g k_iX3_grow k_cX3_grow hsel hiy hini hcy ⟨rfl, rfl⟩ nm_X3_grow ⟨Nat.le_of_ble_eq_true rfl, Nat.le_of_ble_eq_true rfl⟩) (q0 := 0) rfl hc rfl rfl hl.1 rfl (Nat.le_of_ble_eq_true rfl) dX3_bend_2 ⟨Nat.le_of_ble_eq_true rfl, Nat.le_of_ble_eq_true rfl⟩ hPc) (fun r hw => ?_)
  subst hw
  refine lv_iconst (v := (3 : Int32)) hx hb dX3_bend_5 (by decide) ?_
  refine lv_imul hx hb dX3_bend_6 ?_
  refine lv_aload_n hx hb dX3_bend_7 rfl (lv_at hl 0 rfl) ?_
  refine va_get (D := D) (ci := ci) (v := .int b) (C := C) (T := TX3) (N := 3) hx hb hts (fun w h => hF w (hi w h)) hown hK hP 0 rfl hc 2 (by decide) (hts _ (hF _ k_fb)) (fun _ h9 => h9) rfl dX3_bend_8 ?_
  refine lv_isub hx hb dX3_bend_11 ?_
  exact RET _ _ _ rfl dX3_bend_12
set_option maxHeartbeats 4000000 in
set_option maxRecDepth 100000 in
theorem cF_bend6 (l : Launch) (D : va_G) (cI cJ cN cR : ClassId) {ci : Nat} {C : String} (hc : vwCl[ci]? = some (C, TX3, 3)) (hi : ∀ w ∈ u_ws C TX3 3, w ∈ kF) (h0 : Nat) (k t b v1 : Int32) (g : Int32) (hM : Met l yX3_bend (kW yX3_bend cX3_bend 2 (some .int)) (rmF 3) (kR D (kT cI cJ cN cR) [.ref h0, .int v1] [(h0, nd ci k t b)]) (vp_Si (fun r => r = g)) 0 0 (fun _ => False)) : Met l yX6_bend (kW yX6_bend cX6_bend 2 (some .int)) (rmF 4) (kR D (kT cI cJ cN cR) [.ref h0, .int v1] [(h0, nd ci k t b)]) (vp_Si (fun r => r = g + b)) 0 0 (fun _ => False) := by
  refine kMetRI (cc := cX6_bend) (maxL := 2) (by decide +kernel) rfl (Nat.le_of_ble_eq_true rfl) ?_
  intro p e s m args below meth c H ls Q C0 hK hN hP hl RET
  obtain ⟨hx, hb, hml, hown, hts⟩ := id C0
  have hl : lv_has ls 2 [(0, .ref h0), (1, .int v1)] := hl
  have hF : ∀ w ∈ kF, w ∈ kW yX6_bend cX6_bend 2 (some .int) := fun w h => List.mem_cons_of_mem _ h
  refine lv_aload_n hx hb dX6_bend_0 rfl (lv_at hl 0 rfl) ?_
  refine lv_iload_n hx hb dX6_bend_1 rfl (lv_at hl 1 rfl) ?_
  refine kcRI (wc := [(h0, nd ci k t b)]) hP [0] rfl (fun hPc => k_oSX (rest := []) C0 hK hN hF hM 1 RX0 k_l6b k_s03b k_u60 (Or.inr k_u03) k_iX3_bend k_nX3 k_cX3_bend ⟨rfl, rfl⟩ (by decide +kernel) nm_X3_bend ⟨by show 3 + 1 ≤ 3 + 1; exact Nat.le_refl _, by show 8 + (2 + 11) + 21 * 3 ≤ 21 * (3 + 1); omega⟩ (q0 := 0) rfl hc rfl hl.1 rfl (Nat.le_of_ble_eq_true rfl) dX6_bend_2 ⟨Nat.le_of_ble_eq_true rfl, Nat.le_of_ble_eq_true rfl⟩ hPc) (fun r hw => ?_)
  subst hw
  refine lv_aload_n hx hb dX6_bend_5 rfl (lv_at hl 0 rfl) ?_
  refine va_get (D := D) (ci := ci) (v := .int b) (C := C) (T := TX3) (N := 3) hx hb hts (fun w h => hF w (hi w h)) hown hK hP 0 rfl hc 2 (by decide) (hts _ (hF _ k_f6)) (fun x ho => u_same (hts _ (hF _ k_f6s)) x ho) rfl dX6_bend_6 ?_
  refine lv_iadd hx hb dX6_bend_9 ?_
  exact RET _ _ _ rfl dX6_bend_10
end KFAM
section KFAM2
variable (l : Launch) (D : va_G) (cI cJ cN cR : ClassId) (h0 : Nat) (k t b v1 : Int32)
abbrev fG3 (x t : Int32) : Int32 := x + t
abbrev fG0 (x t : Int32) : Int32 := x * 2 + t
abbrev fG2 (x t : Int32) : Int32 := (x * 2 + t) ^^^ 5
abbrev fG5 (x t : Int32) : Int32 := 0 - (x + t)
theorem cF_b3_3 : Met l yX3_bend (kW yX3_bend cX3_bend 2 (some .int)) (rmF 3) (kR D (kT cI cJ cN cR) [.ref h0, .int v1] [(h0, nd 3 k t b)]) (vp_Si (fun r => r = fG3 v1 t * 3 - b)) 0 0 (fun _ => False) := cF_bend3 l D cI cJ cN cR rfl k_tX3 h0 k t b v1 (fG3 v1 t) k_vgX3 k_iX3_grow k_nX3 k_cX3_grow (cF_grow3 l D cI cJ cN cR rfl k_tX3 h0 k t b v1 2)
theorem cF_b3_0 : Met l yX3_bend (kW yX3_bend cX3_bend 2 (some .int)) (rmF 3) (kR D (kT cI cJ cN cR) [.ref h0, .int v1] [(h0, nd 0 k t b)]) (vp_Si (fun r => r = fG0 v1 t * 3 - b)) 0 0 (fun _ => False) := cF_bend3 l D cI cJ cN cR rfl k_tX0 h0 k t b v1 (fG0 v1 t) k_vgX0 k_iX0_grow k_nX0 k_cX0_grow (cF_grow0 l D cI cJ cN cR rfl k_tX0 h0 k t b v1 1)
theorem cF_b3_5 : Met l yX3_bend (kW yX3_bend cX3_bend 2 (some .int)) (rmF 3) (kR D (kT cI cJ cN cR) [.ref h0, .int v1] [(h0, nd 5 k t b)]) (vp_Si (fun r => r = fG5 v1 t * 3 - b)) 0 0 (fun _ => False) := cF_bend3 l D cI cJ cN cR rfl k_tX5 h0 k t b v1 (fG5 v1 t) k_vgX5 k_iX5_grow k_nX5 k_cX5_grow (cF_grow5 l D cI cJ cN cR rfl k_tX5 h0 k t b v1 1)
theorem cF_b3_6 : Met l yX3_bend (kW yX3_bend cX3_bend 2 (some .int)) (rmF 3) (kR D (kT cI cJ cN cR) [.ref h0, .int v1] [(h0, nd 6 k t b)]) (vp_Si (fun r => r = fG0 v1 t * 3 - b)) 0 0 (fun _ => False) := cF_bend3 l D cI cJ cN cR rfl k_tX6 h0 k t b v1 (fG0 v1 t) k_vgX6 k_iX0_grow k_nX0 k_cX0_grow (cF_grow0 l D cI cJ cN cR rfl k_tX6 h0 k t b v1 1)
theorem cF_b3_2 : Met l yX3_bend (kW yX3_bend cX3_bend 2 (some .int)) (rmF 3) (kR D (kT cI cJ cN cR) [.ref h0, .int v1] [(h0, nd 2 k t b)]) (vp_Si (fun r => r = fG2 v1 t * 3 - b)) 0 0 (fun _ => False) := cF_bend3 l D cI cJ cN cR rfl k_tX2 h0 k t b v1 (fG2 v1 t) k_vgX2 k_iX2_grow k_nX2 k_cX2_grow (cF_grow2 l D cI cJ cN cR rfl k_tX2 h0 k t b v1 0)
theorem cF_b6_6 : Met l yX6_bend (kW yX6_bend cX6_bend 2 (some .int)) (rmF 4) (kR D (kT cI cJ cN cR) [.ref h0, .int v1] [(h0, nd 6 k t b)]) (vp_Si (fun r => r = (fG0 v1 t * 3 - b) + b)) 0 0 (fun _ => False) := cF_bend6 l D cI cJ cN cR rfl k_tX6 h0 k t b v1 _ (cF_b3_6 l D cI cJ cN cR h0 k t b v1)
theorem cF_b6_2 : Met l yX6_bend (kW yX6_bend cX6_bend 2 (some .int)) (rmF 4) (kR D (kT cI cJ cN cR) [.ref h0, .int v1] [(h0, nd 2 k t b)]) (vp_Si (fun r => r = (fG2 v1 t * 3 - b) + b)) 0 0 (fun _ => False) := cF_bend6 l D cI cJ cN cR rfl k_tX2 h0 k t b v1 _ (cF_b3_2 l D cI cJ cN cR h0 k t b v1)
set_option maxHeartbeats 4000000 in
set_option maxRecDepth 100000 in
theorem cF_b2_2 : Met l yX2_bend (kW yX2_bend cX2_bend 2 (some .int)) (rmF 5) (kR D (kT cI cJ cN cR) [.ref h0, .int v1] [(h0, nd 2 k t b)]) (vp_Si (fun r => r = (fG2 (fG2 v1 t) t * 3 - b) + b)) 0 0 (fun _ => False) := by
  refine kMetRI (cc := cX2_bend) (maxL := 2) (by decide +kernel) rfl (Nat.le_of_ble_eq_true rfl) ?_
  intro p e s m args below meth c H ls Q C0 hK hN hP hl RET
  obtain ⟨hx, hb, hml, hown, hts⟩ := id C0
  have hl : lv_has ls 2 [(0, .ref h0), (1, .int v1)] := hl
  have hF : ∀ w ∈ kF, w ∈ kW yX2_bend cX2_bend 2 (some .int) := fun w h => List.mem_cons_of_mem _ h
  refine lv_aload_n hx hb dX2_bend_0 rfl (lv_at hl 0 rfl) ?_
  refine lv_aload_n hx hb dX2_bend_1 rfl (lv_at hl 0 rfl) ?_
  refine lv_iload_n hx hb dX2_bend_2 rfl (lv_at hl 1 rfl) ?_
  have hGV : GoodIn (kW yX2_bend cX2_bend 2 (some .int)) (wsV RX2 13 yX2_grow.cls yX2_grow (kW yX2_grow cX2_grow 2 (some .int))) := goodIn_app (fun w h => by
    simp only [List.mem_cons, List.not_mem_nil, or_false] at h
    rcases h with rfl | rfl | rfl | rfl
    all_goals exact ⟨hF _ (by first | exact k_l2v | exact k_iX2_grow | exact k_v22g | exact k_nX2), Or.inl rfl⟩) (k_good hF k_cX2_grow)
  refine kcRI (wc := [(h0, nd 2 k t b)]) hP [0] rfl (fun hPc => oV (rest := [.ref h0]) C0 hK hN (cF_grow2 l D cI cJ cN cR rfl k_tX2 h0 k t b v1 0) 1 hGV rfl ⟨rfl, rfl⟩ nm_X2_grow ⟨Nat.le_of_ble_eq_true rfl, Nat.le_of_ble_eq_true rfl⟩ (q0 := 0) rfl rfl rfl rfl hl.1 rfl (Nat.le_of_ble_eq_true rfl) dX2_bend_3 ⟨Nat.le_of_ble_eq_true rfl, Nat.le_of_ble_eq_true rfl⟩ hPc) (fun r hw => ?_)
  subst hw
  refine kcRI (wc := [(h0, nd 2 k t b)]) hP [0] rfl (fun hPc => k_oSX (rest := []) C0 hK hN hF (cF_b6_2 l D cI cJ cN cR h0 k t b (fG2 v1 t)) 1 RX6 k_l2b k_s66b k_u26 (Or.inl rfl) k_iX6_bend k_nX6 k_cX6_bend ⟨rfl, rfl⟩ (by decide +kernel) nm_X6_bend ⟨by show 4 + 1 ≤ 4 + 1; exact Nat.le_refl _, by show 8 + (2 + 11) + 21 * 4 ≤ 21 * (4 + 1); omega⟩ (q0 := 0) rfl rfl rfl hl.1 rfl (Nat.le_of_ble_eq_true rfl) dX2_bend_6 ⟨Nat.le_of_ble_eq_true rfl, Nat.le_of_ble_eq_true rfl⟩ hPc) (fun r hw => ?_)
  subst hw
  exact RET _ _ _ rfl dX2_bend_9
end KFAM2
section KCON
set_option maxHeartbeats 4000000 in
set_option maxRecDepth 100000 in
theorem cF_init3 (l : Launch) (D : va_G) (cI cJ cN cR : ClassId) {ci : Nat} {C : String} (hc : vwCl[ci]? = some (C, TX3, 3)) (hi : ∀ w ∈ u_ws C TX3 3, w ∈ kF) (sz h0 : Nat) (k0 t0 b0 k t b : Int32) : Met l yX3_init (kW yX3_init cX3_init 4 none) (rmI 1) (kP D (kT cI cJ cN cR) sz [.ref h0, .int k, .int t, .int b] [(h0, nd ci k0 t0 b0)]) (kQv D [(h0, nd ci k0 t0 b0)] sz (fun _ => True) (fun (_ : Unit) => [(h0, nd ci k t b)])) 0 0 (va_A [(h0, nd ci k0 t0 b0)] sz) := by
  refine kMetC (cc := cX3_init) (maxL := 4) (by decide +kernel) rfl (Nat.le_of_ble_eq_true rfl) ?_
  intro p e s m args below meth c H0 ls A Q hnm C0 hK hN hP hD hS hA hl RET
  obtain ⟨hx, hb, hml, hown, hts⟩ := id C0
  have hl : lv_has ls 4 [(0, .ref h0), (1, .int k), (2, .int t), (3, .int b)] := hl
  have hF : ∀ w ∈ kF, w ∈ kW yX3_init cX3_init 4 none := fun w h => List.mem_cons_of_mem _ h
  refine lv_aload_n hx hb dX3_init_0 rfl (lv_at hl 0 rfl) ?_
  refine W.objInit hx hb hown (hts _ (hF _ k_lobj)) (hts _ (hF _ k_iobj)) (hts _ (hF _ k_cobj)) rfl (by rw [hml]; exact hl.1) rfl dX3_init_1 (Nat.le_of_ble_eq_true rfl) (Nat.le_of_ble_eq_true rfl) ?_
  refine W.eq (g2 := F0 m 4 ls []) rfl ?_
  refine lv_aload_n hx hb dX3_init_4 rfl (lv_at hl 0 rfl) ?_
  refine lv_iload_n hx hb dX3_init_5 rfl (lv_at hl 1 rfl) ?_
  refine va_putF (D := D) (ci := ci) (v := .int k) (ty := .int) (C := C) (T := TX3) (N := 3) hx hb hts (fun w h => hF w (hi w h)) tyX3 tyX3_ok nmX3 hown hK hP hD hS 0 rfl hc 0 (by decide) (hts _ (hF _ k_fk)) (fun _ h9 => h9) (by decide +kernel) hnm (by decide +kernel) (by decide +kernel) rfl rfl (Nat.le_of_ble_eq_true rfl) dX3_init_6 (fun H locs hP hD hS => ?_)
  have hP : va_P D vwCl [(h0, nd ci k t0 b0)] H := hP
  have hD : va_D A [(h0, nd ci k t0 b0)] := hD
  refine lv_aload_n hx hb dX3_init_9 rfl (lv_at hl 0 rfl) ?_
  refine lv_iload_n hx hb dX3_init_10 rfl (lv_at hl 2 rfl) ?_
  refine va_putF (D := D) (ci := ci) (v := .int t) (ty := .int) (C := C) (T := TX3) (N := 3) hx hb hts (fun w h => hF w (hi w h)) tyX3 tyX3_ok nmX3 hown hK hP hD hS 0 rfl hc 1 (by decide) (hts _ (hF _ k_ft)) (fun _ h9 => h9) (by decide +kernel) hnm (by decide +kernel) (by decide +kernel) rfl rfl (Nat.le_of_ble_eq_true rfl) dX3_init_11 (fun H locs hP hD hS => ?_)
  have hP : va_P D vwCl [(h0, nd ci k t b0)] H := hP
  have hD : va_D A [(h0, nd ci k t b0)] := hD
  refine lv_aload_n hx hb dX3_init_14 rfl (lv_at hl 0 rfl) ?_
  refine lv_iload_n hx hb dX3_init_15 rfl (lv_at hl 3 rfl) ?_
  refine va_putF (D := D) (ci := ci) (v := .int b) (ty := .int) (C := C) (T := TX3) (N := 3) hx hb hts (fun w h => hF w (hi w h)) tyX3 tyX3_ok nmX3 hown hK hP hD hS 0 rfl hc 2 (by decide) (hts _ (hF _ k_fb)) (fun _ h9 => h9) (by decide +kernel) hnm (by decide +kernel) (by decide +kernel) rfl rfl (Nat.le_of_ble_eq_true rfl) dX3_init_16 (fun H locs hP hD hS => ?_)
  have hP : va_P D vwCl [(h0, nd ci k t b)] H := hP
  have hD : va_D A [(h0, nd ci k t b)] := hD
  exact RET _ _ () _ _ trivial hP hD hS dX3_init_19
set_option maxHeartbeats 4000000 in
set_option maxRecDepth 100000 in
theorem cF_init0 (l : Launch) (D : va_G) (cI cJ cN cR : ClassId) {ci : Nat} {C : String} (hc : vwCl[ci]? = some (C, TX3, 3)) (hi : ∀ w ∈ u_ws C TX3 3, w ∈ kF) (sz h0 : Nat) (k0 t0 b0 k t b : Int32) : Met l yX0_init (kW yX0_init cX0_init 4 none) (rmI 2) (kP D (kT cI cJ cN cR) sz [.ref h0, .int k, .int t, .int b] [(h0, nd ci k0 t0 b0)]) (kQv D [(h0, nd ci k0 t0 b0)] sz (fun _ => True) (fun (_ : Unit) => [(h0, nd ci k t b)])) 0 0 (va_A [(h0, nd ci k0 t0 b0)] sz) := by
  refine kMetC (cc := cX0_init) (maxL := 4) (by decide +kernel) rfl (Nat.le_of_ble_eq_true rfl) ?_
  intro p e s m args below meth c H0 ls A Q hnm C0 hK hN hP hD hS hA hl RET
  obtain ⟨hx, hb, hml, hown, hts⟩ := id C0
  have hl : lv_has ls 4 [(0, .ref h0), (1, .int k), (2, .int t), (3, .int b)] := hl
  have hF : ∀ w ∈ kF, w ∈ kW yX0_init cX0_init 4 none := fun w h => List.mem_cons_of_mem _ h
  refine lv_aload_n hx hb dX0_init_0 rfl (lv_at hl 0 rfl) ?_
  refine lv_iload_n hx hb dX0_init_1 rfl (lv_at hl 1 rfl) ?_
  refine lv_iload_n hx hb dX0_init_2 rfl (lv_at hl 2 rfl) ?_
  refine lv_iload_n hx hb dX0_init_3 rfl (lv_at hl 3 rfl) ?_
  refine kcV (wc := [(h0, nd ci k0 t0 b0)]) (wr := []) hP hD hS hA [0] [] rfl rfl ⟨rfl, rfl, by decide⟩ (fun hPc hDc => k_rI (As := [.int k, .int t, .int b]) (rest := []) C0 hK hN hF (cF_init3 l D cI cJ cN cR hc hi H0.size h0 k0 t0 b0 k t b) 3 (hF _ k_l0i) k_iX3_init k_nX3 k_cX3_init ⟨rfl, rfl⟩ rfl nm_X3_init ⟨Nat.le_of_ble_eq_true rfl, Nat.le_of_ble_eq_true rfl⟩ rfl hl.1 rfl (Nat.le_of_ble_eq_true rfl) dX0_init_4 ⟨Nat.le_of_ble_eq_true rfl, Nat.le_of_ble_eq_true rfl⟩ hPc hDc) (fun u H locs hw hP hD hS => ?_)
  have hP : va_P D vwCl [(h0, nd ci k t b)] H := hP
  have hD : va_D A [(h0, nd ci k t b)] := hD
  exact RET _ _ () _ _ trivial hP hD hS dX0_init_7
set_option maxHeartbeats 4000000 in
set_option maxRecDepth 100000 in
theorem cF_init6 (l : Launch) (D : va_G) (cI cJ cN cR : ClassId) {ci : Nat} {C : String} (hc : vwCl[ci]? = some (C, TX3, 3)) (hi : ∀ w ∈ u_ws C TX3 3, w ∈ kF) (sz h0 : Nat) (k0 t0 b0 k t b : Int32) : Met l yX6_init (kW yX6_init cX6_init 4 none) (rmI 3) (kP D (kT cI cJ cN cR) sz [.ref h0, .int k, .int t, .int b] [(h0, nd ci k0 t0 b0)]) (kQv D [(h0, nd ci k0 t0 b0)] sz (fun _ => True) (fun (_ : Unit) => [(h0, nd ci k t b)])) 0 0 (va_A [(h0, nd ci k0 t0 b0)] sz) := by
  refine kMetC (cc := cX6_init) (maxL := 4) (by decide +kernel) rfl (Nat.le_of_ble_eq_true rfl) ?_
  intro p e s m args below meth c H0 ls A Q hnm C0 hK hN hP hD hS hA hl RET
  obtain ⟨hx, hb, hml, hown, hts⟩ := id C0
  have hl : lv_has ls 4 [(0, .ref h0), (1, .int k), (2, .int t), (3, .int b)] := hl
  have hF : ∀ w ∈ kF, w ∈ kW yX6_init cX6_init 4 none := fun w h => List.mem_cons_of_mem _ h
  refine lv_aload_n hx hb dX6_init_0 rfl (lv_at hl 0 rfl) ?_
  refine lv_iload_n hx hb dX6_init_1 rfl (lv_at hl 1 rfl) ?_
  refine lv_iload_n hx hb dX6_init_2 rfl (lv_at hl 2 rfl) ?_
  refine lv_iload_n hx hb dX6_init_3 rfl (lv_at hl 3 rfl) ?_
  refine kcV (wc := [(h0, nd ci k0 t0 b0)]) (wr := []) hP hD hS hA [0] [] rfl rfl ⟨rfl, rfl, by decide⟩ (fun hPc hDc => k_rI (As := [.int k, .int t, .int b]) (rest := []) C0 hK hN hF (cF_init0 l D cI cJ cN cR hc hi H0.size h0 k0 t0 b0 k t b) 3 (hF _ k_l6i) k_iX0_init k_nX0 k_cX0_init ⟨rfl, rfl⟩ rfl nm_X0_init ⟨Nat.le_of_ble_eq_true rfl, Nat.le_of_ble_eq_true rfl⟩ rfl hl.1 rfl (Nat.le_of_ble_eq_true rfl) dX6_init_4 ⟨Nat.le_of_ble_eq_true rfl, Nat.le_of_ble_eq_true rfl⟩ hPc hDc) (fun u H locs hw hP hD hS => ?_)
  have hP : va_P D vwCl [(h0, nd ci k t b)] H := hP
  have hD : va_D A [(h0, nd ci k t b)] := hD
  exact RET _ _ () _ _ trivial hP hD hS dX6_init_7
set_option maxHeartbeats 4000000 in
set_option maxRecDepth 100000 in
theorem cF_init2 (l : Launch) (D : va_G) (cI cJ cN cR : ClassId) {ci : Nat} {C : String} (hc : vwCl[ci]? = some (C, TX3, 3)) (hi : ∀ w ∈ u_ws C TX3 3, w ∈ kF) (sz h0 : Nat) (k0 t0 b0 k t b : Int32) : Met l yX2_init (kW yX2_init cX2_init 3 none) (rmI 4) (kP D (kT cI cJ cN cR) sz [.ref h0, .int t, .int b] [(h0, nd ci k0 t0 b0)]) (kQv D [(h0, nd ci k0 t0 b0)] sz (fun _ => True) (fun (_ : Unit) => [(h0, nd ci (3 : Int32) t b)])) 0 0 (va_A [(h0, nd ci k0 t0 b0)] sz) := by
  refine kMetC (cc := cX2_init) (maxL := 3) (by decide +kernel) rfl (Nat.le_of_ble_eq_true rfl) ?_
  intro p e s m args below meth c H0 ls A Q hnm C0 hK hN hP hD hS hA hl RET
  obtain ⟨hx, hb, hml, hown, hts⟩ := id C0
  have hl : lv_has ls 3 [(0, .ref h0), (1, .int t), (2, .int b)] := hl
  have hF : ∀ w ∈ kF, w ∈ kW yX2_init cX2_init 3 none := fun w h => List.mem_cons_of_mem _ h
  refine lv_aload_n hx hb dX2_init_0 rfl (lv_at hl 0 rfl) ?_
  refine lv_iconst (v := (3 : Int32)) hx hb dX2_init_1 (by decide) ?_
  refine lv_iload_n hx hb dX2_init_2 rfl (lv_at hl 1 rfl) ?_
  refine lv_iload_n hx hb dX2_init_3 rfl (lv_at hl 2 rfl) ?_
  refine kcV (wc := [(h0, nd ci k0 t0 b0)]) (wr := []) hP hD hS hA [0] [] rfl rfl ⟨rfl, rfl, by decide⟩ (fun hPc hDc => k_rI (As := [.int (3 : Int32), .int t, .int b]) (rest := []) C0 hK hN hF (cF_init6 l D cI cJ cN cR hc hi H0.size h0 k0 t0 b0 (3 : Int32) t b) 3 (hF _ k_l2i) k_iX6_init k_nX6 k_cX6_init ⟨rfl, rfl⟩ rfl nm_X6_init ⟨Nat.le_of_ble_eq_true rfl, Nat.le_of_ble_eq_true rfl⟩ rfl hl.1 rfl (Nat.le_of_ble_eq_true rfl) dX2_init_4 ⟨Nat.le_of_ble_eq_true rfl, Nat.le_of_ble_eq_true rfl⟩ hPc hDc) (fun u H locs hw hP hD hS => ?_)
  have hP : va_P D vwCl [(h0, nd ci (3 : Int32) t b)] H := hP
  have hD : va_D A [(h0, nd ci (3 : Int32) t b)] := hD
  exact RET _ _ () _ _ trivial hP hD hS dX2_init_7
set_option maxHeartbeats 4000000 in
set_option maxRecDepth 100000 in
theorem cF_init5 (l : Launch) (D : va_G) (cI cJ cN cR : ClassId) {ci : Nat} {C : String} (hc : vwCl[ci]? = some (C, TX3, 3)) (hi : ∀ w ∈ u_ws C TX3 3, w ∈ kF) (sz h0 : Nat) (k0 t0 b0 k t b : Int32) : Met l yX5_init (kW yX5_init cX5_init 3 none) (rmI 2) (kP D (kT cI cJ cN cR) sz [.ref h0, .int t, .int b] [(h0, nd ci k0 t0 b0)]) (kQv D [(h0, nd ci k0 t0 b0)] sz (fun _ => True) (fun (_ : Unit) => [(h0, nd ci (4 : Int32) t b)])) 0 0 (va_A [(h0, nd ci k0 t0 b0)] sz) := by
  refine kMetC (cc := cX5_init) (maxL := 3) (by decide +kernel) rfl (Nat.le_of_ble_eq_true rfl) ?_
  intro p e s m args below meth c H0 ls A Q hnm C0 hK hN hP hD hS hA hl RET
  obtain ⟨hx, hb, hml, hown, hts⟩ := id C0
  have hl : lv_has ls 3 [(0, .ref h0), (1, .int t), (2, .int b)] := hl
  have hF : ∀ w ∈ kF, w ∈ kW yX5_init cX5_init 3 none := fun w h => List.mem_cons_of_mem _ h
  refine lv_aload_n hx hb dX5_init_0 rfl (lv_at hl 0 rfl) ?_
  refine lv_iconst (v := (4 : Int32)) hx hb dX5_init_1 (by decide) ?_
  refine lv_iload_n hx hb dX5_init_2 rfl (lv_at hl 1 rfl) ?_
  refine lv_iload_n hx hb dX5_init_3 rfl (lv_at hl 2 rfl) ?_
  refine kcV (wc := [(h0, nd ci k0 t0 b0)]) (wr := []) hP hD hS hA [0] [] rfl rfl ⟨rfl, rfl, by decide⟩ (fun hPc hDc => k_rI (As := [.int (4 : Int32), .int t, .int b]) (rest := []) C0 hK hN hF (cF_init3 l D cI cJ cN cR hc hi H0.size h0 k0 t0 b0 (4 : Int32) t b) 3 (hF _ k_l5i) k_iX3_init k_nX3 k_cX3_init ⟨rfl, rfl⟩ rfl nm_X3_init ⟨Nat.le_of_ble_eq_true rfl, Nat.le_of_ble_eq_true rfl⟩ rfl hl.1 rfl (Nat.le_of_ble_eq_true rfl) dX5_init_4 ⟨Nat.le_of_ble_eq_true rfl, Nat.le_of_ble_eq_true rfl⟩ hPc hDc) (fun u H locs hw hP hD hS => ?_)
  have hP : va_P D vwCl [(h0, nd ci (4 : Int32) t b)] H := hP
  have hD : va_D A [(h0, nd ci (4 : Int32) t b)] := hD
  exact RET _ _ () _ _ trivial hP hD hS dX5_init_7
end KCON
