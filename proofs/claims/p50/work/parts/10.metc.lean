/-! constructors: as kMetV, with the name that a final field asks for -/
section KMETC
variable {l : Launch} {y : MethodName} {ws ws' : List Cond} {cc : ByteArray} {maxL : Nat} {rm : Room} {D : va_G} {tys : List (ClassId × FieldType)} {sz : Nat} {av : List Value} {wc : va_W} {mc ms : Nat}
theorem kMetC {S : Type} {post : S → Prop} {wB : S → va_W} (hy : plainName y.cls = true) (hw : ws = Cond.code y cc maxL none :: ws') (hlen : (lg_sl av).length ≤ maxL)
    (body : ∀ (p : Program) (e : Env) (s : State) (m : MethodId) (args : Array Value) (below : List Frame) (meth : Method) (c : Code) (H : Heap) (ls : Array Slot) (A : Nat → Prop) (Q : State → Prop), meth.name = y.name → CallFix p m c cc maxL s args ws y.cls → va_K D vwCl tys s → kN s → va_P D vwCl wc H → va_D A wc → va_S A H H [] → (∀ q, H.size ≤ q → A q) → lv_has ls maxL (lv_args 0 av) →
      (∀ (pc : Nat) (ls : Array Slot) (u : S) (H1 : Heap) (locs : List Loc), post u → va_P D vwCl (wB u) H1 → va_D A (wB u) → va_S A H H1 locs → decode cc pc = .ok (.return_, 1) → W p l e rm s m args below meth c H1 locs mc ms Q (F0 m pc ls [])) →
      W p l e rm s m args below meth c H [] 0 0 Q (F0 m 0 ls [])) : Met l y ws rm (kP D tys sz av wc) (kQv D wc sz post wB) mc ms (va_A wc sz) := by
  refine Met.ofW (cc := cc) (maxL := maxL) (ret := none) hy hw ?_
  intro p e s m args below meth c s₁ B hml hv
  obtain ⟨rfl, hsz, hP, hK, hD0, hN⟩ := hv
  have hlocks := B.notSynchronized
  have hown : s.vm.findClass y.cls = some m.cls := findClass_of_methodNamed B.named
  subst hsz
  have hD := hD0.self (sz := s.heap.size)
  rw [lg_entry_eq]
  refine body p e s m _ below meth c s.heap _ (va_A wc s.heap.size) _ (name_of_methodNamed B.named B.method).1 ⟨B.exec, B.bytes, hml, hown, atoms_spec (ws := ws) B.pre⟩ hK hN hP hD va_S.rf (fun q h => Or.inr h) (lv_entry av hlen) ?_
  intro pc ls u H1 locs hpost hP1 hD1 hS1 hdg
  exact W.vret B.exec B.bytes B.returns (fun t ht hW => ⟨⟨u, rfl, hpost, by show va_P _ _ _ t.heap; rw [ht]; exact hP1, hD1⟩, hS1.F ht⟩) hS1.2.2 hdg
end KMETC
