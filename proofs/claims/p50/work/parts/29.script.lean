/-! static methods over the script: one shape for those that read it alone, one for the one that fills a register -/
def kX (b L : Nat) (xs : Nat → Int32) (av : List Value) : Array Value → State → Prop := va_Pc av (fun U => va_X b L xs U U.heap ∧ b < U.heap.size)
def kF (D : va_G) (tys : List (ClassId × FieldType)) (sz : Nat) (av : List Value) (wc : va_W) (b L : Nat) (xs : Nat → Int32) : Array Value → State → Prop := va_Pc av (fun U => U.heap.size = sz ∧ va_P D vwCl wc U.heap ∧ va_K D vwCl tys U ∧ va_D (fun _ => True) wc ∧ kN U ∧ va_X b L xs U U.heap ∧ b < U.heap.size)
section KX
variable {l : Launch} {y : MethodName} {ws ws' : List Cond} {cc : ByteArray} {maxL : Nat} {rm : Room} {D : va_G} {tys : List (ClassId × FieldType)} {sz : Nat} {av : List Value} {wc : va_W} {mc ms : Nat} {b L : Nat} {xs : Nat → Int32}
theorem kX_blind : FrameBlind (kX b L xs av) := fun a U g mk q => ⟨q.1, va_X.moved (u := U) (U := U.calling g mk a) (Vm.Alike.refl U.vm) q.2.1, q.2.2⟩
theorem kX_at {s : State} {H : Heap} (hX : va_X b L xs s H) (hbl : b < H.size) : ∀ U : State, U.heap = H → s.WarmedH U.vm → kX b L xs av av.toArray U := fun U hU hW => ⟨rfl, by rw [hU]; exact va_X.moved hW.alike hX, by rw [hU]; exact hbl⟩
theorem kF_blind : FrameBlind (kF D tys sz av wc b L xs) := fun a U g mk q => ⟨q.1, q.2.1, q.2.2.1, va_K.moved (u := U) (U := U.calling g mk a) (Vm.Alike.refl U.vm) q.2.2.2.1, q.2.2.2.2.1, kN.same (u := U) (U := U.calling g mk a) rfl q.2.2.2.2.2.1, va_X.moved (u := U) (U := U.calling g mk a) (Vm.Alike.refl U.vm) q.2.2.2.2.2.2.1, q.2.2.2.2.2.2.2⟩
theorem kF_at {s : State} {H : Heap} {A : Nat → Prop} (hP : va_P D vwCl wc H) (hD : va_D A wc) (hK : va_K D vwCl tys s) (hN : kN s) (hX : va_X b L xs s H) (hbl : b < H.size) : ∀ U : State, U.heap = H → s.WarmedH U.vm → kF D tys H.size av wc b L xs av.toArray U := fun U hU hW => ⟨rfl, by rw [hU], by rw [hU]; exact hP, va_K.moved hW.alike hK, hD.weaken (fun _ _ _ _ => trivial), hN.moved hW, by rw [hU]; exact va_X.moved hW.alike hX, by rw [hU]; exact hbl⟩
theorem kMetXI {post : Int32 → Prop} (hy : plainName y.cls = true) (hw : ws = Cond.code y cc maxL (some .int) :: ws') (hlen : (lg_sl av).length ≤ maxL)
    (body : ∀ (p : Program) (e : Env) (s : State) (m : MethodId) (args : Array Value) (below : List Frame) (meth : Method) (c : Code) (H : Heap) (ls : Array Slot) (Q : State → Prop), CallFix p m c cc maxL s args ws y.cls → va_X b L xs s H → b < H.size → lv_has ls maxL (lv_args 0 av) →
      (∀ (pc : Nat) (ls : Array Slot) (r : Int32), post r → decode cc pc = .ok (.ireturn, 1) → W p l e rm s m args below meth c H [] 0 0 Q (F0 m pc ls [.int r])) →
      W p l e rm s m args below meth c H [] 0 0 Q (F0 m 0 ls [])) : Met l y ws rm (kX b L xs av) (vp_Si post) 0 0 (fun _ => False) := by
  refine Met.ofW (cc := cc) (maxL := maxL) (ret := some .int) hy hw ?_
  intro p e s m args below meth c s₁ B hml hv
  obtain ⟨rfl, hX, hbl⟩ := hv
  have hlocks := B.notSynchronized
  have hown : s.vm.findClass y.cls = some m.cls := findClass_of_methodNamed B.named
  rw [lg_entry_eq]
  refine body p e s m _ below meth c s.heap _ _ ⟨B.exec, B.bytes, hml, hown, atoms_spec (ws := ws) B.pre⟩ hX hbl (lv_entry av hlen) ?_
  intro pc ls r hpost hdg
  exact W.iret (v := r) B.exec B.bytes B.returns (fun t ht hW => ⟨r, rfl, hpost, ht⟩) (fun _ h => by cases h) hdg
theorem kMetFZ {S : Type} {post : Int32 → S → Prop} {wB : S → va_W} (hy : plainName y.cls = true) (hw : ws = Cond.code y cc maxL (some .boolean) :: ws') (hlen : (lg_sl av).length ≤ maxL)
    (body : ∀ (p : Program) (e : Env) (s : State) (m : MethodId) (args : Array Value) (below : List Frame) (meth : Method) (c : Code) (H : Heap) (ls : Array Slot) (A : Nat → Prop) (Q : State → Prop), CallFix p m c cc maxL s args ws y.cls → va_K D vwCl tys s → kN s → va_P D vwCl wc H → va_D A wc → va_S A H H [] → (∀ q, H.size ≤ q → A q) → va_X b L xs s H → b < H.size → lv_has ls maxL (lv_args 0 av) →
      (∀ (pc : Nat) (ls : Array Slot) (r : Int32) (u : S) (H1 : Heap) (locs : List Loc), narrow .boolean (.int r) = .int r → post r u → va_P D vwCl (wB u) H1 → va_D A (wB u) → va_S A H H1 locs → decode cc pc = .ok (.ireturn, 1) → W p l e rm s m args below meth c H1 locs mc ms Q (F0 m pc ls [.int r])) →
      W p l e rm s m args below meth c H [] 0 0 Q (F0 m 0 ls [])) : Met l y ws rm (kF D tys sz av wc b L xs) (kQi D wc sz post wB) mc ms (va_A wc sz) := by
  refine Met.ofW (cc := cc) (maxL := maxL) (ret := some .boolean) hy hw ?_
  intro p e s m args below meth c s₁ B hml hv
  obtain ⟨rfl, hsz, hP, hK, hD0, hN, hX, hbl⟩ := hv
  have hlocks := B.notSynchronized
  have hown : s.vm.findClass y.cls = some m.cls := findClass_of_methodNamed B.named
  subst hsz
  have hD := hD0.self (sz := s.heap.size)
  rw [lg_entry_eq]
  refine body p e s m _ below meth c s.heap _ (va_A wc s.heap.size) _ ⟨B.exec, B.bytes, hml, hown, atoms_spec (ws := ws) B.pre⟩ hK hN hP hD va_S.rf (fun q h => Or.inr h) hX hbl (lv_entry av hlen) ?_
  intro pc ls r u H1 locs hnb hpost hP1 hD1 hS1 hdg
  exact W.zret (v := r) B.exec B.bytes B.returns hnb (fun t ht hW => ⟨⟨r, u, rfl, hpost, by show va_P _ _ _ t.heap; rw [ht]; exact hP1, hD1⟩, hS1.F ht⟩) hS1.2.2 hdg
end KX
section KXC
variable {p : Program} {l : Launch} {e : Env} {R : Room} {s : State} {m : MethodId} {args : Array Value} {below : List Frame} {meth : Method} {c : Code} {H : Heap} {locs : List Loc} {cells slots : Nat} {Q : State → Prop}
variable {y : MethodName} {bytes cc : ByteArray} {maxL nL mc ms index : Nat} {ret : Option FieldType} {ws ws' : List Cond} {rm : Room} {Qc : Array Value → State → Outcome → State → Prop} {free : Addr → Prop} {Ts : List Cond} {own : String} {As rest st0 : List Value} {pc : Nat} {ls : Array Slot} {D : va_G} {tys : List (ClassId × FieldType)} {wc : va_W} {A : Nat → Prop} {b L : Nat} {xs : Nat → Int32}
theorem oSX (S : CallFix p m c cc nL s args Ts own) (hX : va_X b L xs s H) (hbl : b < H.size) (hM : Met l y ws rm (kX b L xs As) Qc mc ms free) (n : Nat) (hG : GoodIn Ts (va_wsS own index y ws)) (hw : ws = Cond.code y bytes maxL ret :: ws') (hrc : rm.cells = mc ∧ rm.slots = ms) (hd : kNm y n) (hR : rm.frames + 1 ≤ R.frames ∧ 8 + (maxL + 11) + rm.locals ≤ R.locals)
    (hn : As.length = n) (hsize : ls.size = nL) (hst : st0 = As.reverse ++ rest) (hW : (rest.map fun v => v.category).sum ≤ 8) (hdg : decode cc pc = .ok (.invokestatic index, 3)) (hf : cells + mc ≤ R.cells ∧ slots + ms ≤ R.slots) : CallRun p l e R s m args below meth c H locs cells slots mc ms (F0 m pc ls st0) rest (Qc As.toArray) free :=
  (va_runS (As := As) (rest := rest) S hM (va_cwS n S.2.2.2.2 hG hw hrc.1 hrc.2 hd hR) ⟨kX_blind, kX_at hX hbl⟩ rfl hn hsize hst (lv_room hW) hdg hf).run
theorem rSF (S : CallFix p m c cc nL s args Ts own) (hK : va_K D vwCl tys s) (hN : kN s) (hX : va_X b L xs s H) (hbl : b < H.size) (hM : Met l y ws rm (kF D tys H.size As wc b L xs) Qc mc ms free) (n : Nat) (hG : GoodIn Ts (va_wsS own index y ws)) (hw : ws = Cond.code y bytes maxL ret :: ws') (hrc : rm.cells = mc ∧ rm.slots = ms) (hd : kNm y n) (hR : rm.frames + 1 ≤ R.frames ∧ 8 + (maxL + 11) + rm.locals ≤ R.locals)
    (hn : As.length = n) (hsize : ls.size = nL) (hst : st0 = As.reverse ++ rest) (hW : (rest.map fun v => v.category).sum ≤ 8) (hdg : decode cc pc = .ok (.invokestatic index, 3)) (hf : cells + mc ≤ R.cells ∧ slots + ms ≤ R.slots)
    (hPc : va_P D vwCl wc H) (hDc : va_D A wc) : va_Run p l e R s m args below meth c H locs cells slots mc ms (F0 m pc ls st0) rest (Qc As.toArray) free :=
  va_runS (As := As) (rest := rest) S hM (va_cwS n S.2.2.2.2 hG hw hrc.1 hrc.2 hd hR) ⟨kF_blind, kF_at hPc hDc hK hN hX hbl⟩ rfl hn hsize hst (lv_room hW) hdg hf
end KXC
theorem ushr3 (x : Int32) : 0 ≤ (x.toUInt32 >>> ((3 : Int32).toUInt32 &&& Int32.toUInt32 31)).toInt32.toInt := by
  have h3 : ((3 : Int32).toUInt32 &&& Int32.toUInt32 31) = 3 := by decide
  rw [h3]
  generalize x.toUInt32 = u
  have h1 : (u >>> 3).toNat = u.toNat / 8 := by
    rw [UInt32.toNat_shiftRight]
    show u.toNat >>> 3 = _
    rw [Nat.shiftRight_eq_div_pow]
  have h2 : u.toNat < 4294967296 := u.toNat_lt
  have h4 : (u >>> 3).toInt32.toInt = (u >>> 3).toBitVec.toInt := rfl
  have h5 : (u >>> 3).toBitVec.toNat = (u >>> 3).toNat := rfl
  rw [h4, BitVec.toInt_eq_toNat_of_lt (by rw [h5]; omega)]
  omega
theorem n_toI {k : Nat} (h : k < 2147483648) : (Int32.ofNat k).toInt = (k : Int) := Int32.toInt_ofNat_of_lt h
theorem n_inX {k L : Nat} (h : k < L) (hL : k < 2147483648) : vp_in (Int32.ofNat k) L := vin (by rw [n_toI hL]; omega) (by rw [n_toI hL]; omega)
