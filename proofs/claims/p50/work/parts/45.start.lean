/-! the law's start -/
theorem k_tys {args : Array Value} {s : State} (h1 : (Cond.arrayClass .int).before args s = true) (h3 : va_AO "SternBrocotExplorer$Node" s) (h4 : va_AOA .int s) : ∃ cI cN cR : ClassId, ∀ (k : Nat) (q : ClassId × FieldType), (kT cI cI cN cR)[k]? = some q → ArrOfT s q.1 q.2 ∧ va_RA s q.1 q.2 := by
  obtain ⟨cI, kI, pI, a1, a2, a3⟩ := Cond.arrayClass_spec h1
  obtain ⟨pN, cN, kN, e1, -, e3, e4, e5⟩ := Cond.arrayOver_spec h3
  obtain ⟨pR, cR, kR, f1, -, f3, f4, f5⟩ := arrayOverA_spec h4
  refine ⟨cI, cN, cR, fun k q hq => ?_⟩
  match k, hq with
  | 0, hq => cases hq; exact ⟨fun n z => ⟨(fun k h => by cases h), kI, a2, pI, a3⟩, a1⟩
  | 1, hq => cases hq; exact ⟨fun n z => ⟨(fun k h => by cases h), kI, a2, pI, a3⟩, a1⟩
  | 2, hq => cases hq; exact ⟨fun n z => ⟨(fun k h => by cases h), kN, e3, pN, e4⟩, kN, pN, e3, e4, e1, e5⟩
  | 3, hq => cases hq; exact ⟨fun n z => ⟨(fun k h => by cases h), kR, f3, pR, f4⟩, f5⟩
  | k + 4, hq => simp [kT] at hq
theorem nmL_X7_init : kNm yX7_init 0 := by decide +kernel
set_option maxHeartbeats 8000000 in
set_option maxRecDepth 100000 in
theorem whole_start0 {p : Program} {e : Env} {s : State} {m : MethodId} {below : List Frame} {meth : Method} {c : Code} (l : Launch) {b L : Nat} {xs : Nat → Int32} (hL : L ≤ 260) (C0 : lw_At p s m meth c b L xs) : W p l e room_1 s m #[Value.ref b] below meth c s.heap [] 0 0 (lw_Z below #[Value.ref b] s) (entryFrame m ([Value.ref b] : List Value).toArray 5) := by
  obtain ⟨hx, hb, hr, hml, hown, hts0, hX, hbl, hlocks, hgv⟩ := id C0
  have hts : ∀ w ∈ wsL_law, w.before #[Value.ref b] s = true := fun w h => hts0 w (wsL_law_in w h)
  have hA : ∀ q : Nat, s.heap.size ≤ q → (fun q : Nat => s.heap.size ≤ q) q := fun _ h => h
  obtain ⟨kX1, iX1, hKnX1⟩ := u_known (C := RX1) (T := TX1) (N := 6) (n := 6) hts0 inX1 (hts0 (.instantiable RX1 6) (by decide +kernel))
  obtain ⟨kX4, iX4, hKnX4⟩ := u_known (C := RX4) (T := TX4) (N := 5) (n := 5) hts0 inX4 (hts0 (.instantiable RX4 5) (by decide +kernel))
  obtain ⟨kX7, iX7, hKnX7⟩ := u_known (C := RX7) (T := TX7) (N := 16) (n := 16) hts0 inX7 (hts0 (.instantiable RX7 16) (by decide +kernel))
  obtain ⟨dC, dI, hKc⟩ : ∃ (dC : Nat → ClassId) (dI : Nat → Nat → Nat), ∀ (k : Nat) (q : vw_C), vwCl[k]? = some q → u_Kn s q.1 q.2.1 q.2.2 (dC k) (dI k) := by
    refine ⟨fun k => if k = 0 then kX1 else if k = 1 then kX4 else kX7, fun k => if k = 0 then iX1 else if k = 1 then iX4 else iX7, ?_⟩
    intro k q hq
    match k, hq with
    | 0, hq => cases hq; exact hKnX1
    | 1, hq => cases hq; exact hKnX4
    | 2, hq => cases hq; exact hKnX7
    | k + 3, hq => simp [vwCl] at hq
  have hAO : va_AO "SternBrocotExplorer$Node" s := va_AO.of (hts0 (.arrayOver (.object "SternBrocotExplorer$Node")) (by decide +kernel))
  have hAOA : va_AOA .int s := va_AOA.of (hts0 (.arrayOver (.array .int)) (by decide +kernel))
  have hN : kN s := ⟨va_Nw.of rfl (hts0 (.methodLinkNest RX1 23 yX7_quotient RX7) (by decide +kernel)), fun q hq => (by cases hq), fun q hq => (by cases hq), va_Nw.of rfl (hts0 (.methodLinkNest RX7 47 yX1_init RX7) (by decide +kernel)), va_Nw.of rfl (hts0 (.methodLinkNest RX7 57 yX4_init RX7) (by decide +kernel)), hAO, hAOA⟩
  obtain ⟨cI, cN, cR, hTY⟩ := k_tys (hts0 (.arrayClass .int) (by decide +kernel)) hAO hAOA
  have hS : va_S (fun q : Nat => s.heap.size ≤ q) s.heap s.heap [] := va_S.rf
  have hK : va_K (dC, dI) vwCl (kT cI cI cN cR) s := ⟨hKc, hTY⟩
  have hP : va_P (dC, dI) vwCl [] s.heap := fun k q h => by simp at h
  have hD : va_D (fun q : Nat => s.heap.size ≤ q) [] := ⟨fun i j p q h => by simp at h, fun k q h => by simp at h⟩
  have S : CallFix p m c code 5 s #[.ref b] wsL_law RL := ⟨hx, hb, hml, hown, hts⟩
  have hl := lv_entry ([.ref b]) (n := 5) (Nat.le_of_ble_eq_true rfl)
  rw [lg_entry_eq]
  generalize (lg_sl ([.ref b]) ++ List.replicate (5 - (lg_sl ([.ref b])).length) Slot.unset).toArray = ls at hl ⊢
  have hl : lv_has ls 5 [(0, .ref b)] := hl
  refine va_new (ci := 2) (fs := [.null, .null, .null, .null, .null, .null, .int 0, .null, .int 0, .null, .int 0, .null, .null, .null, .null, .null]) (C := RX7) (T := TX7) (N := 16) hx hb hts inlX7 tyX7 tyX7_ok hown (hts (.classLink RL 30 RX7) (by decide +kernel)) (hts (.instantiable RX7 16) (by decide +kernel)) (hts (.initialized RX7) (by decide +kernel)) hK hP hD hS hA rfl (fun j hj => by rcases (show j = 0 ∨ j = 1 ∨ j = 2 ∨ j = 3 ∨ j = 4 ∨ j = 5 ∨ j = 6 ∨ j = 7 ∨ j = 8 ∨ j = 9 ∨ j = 10 ∨ j = 11 ∨ j = 12 ∨ j = 13 ∨ j = 14 ∨ j = 15 by omega) with rfl | rfl | rfl | rfl | rfl | rfl | rfl | rfl | rfl | rfl | rfl | rfl | rfl | rfl | rfl | rfl <;> rfl) (Nat.le_of_ble_eq_true rfl) (Nat.le_of_ble_eq_true rfl) dL_law_0 (fun q7 H hP hD hS => ?_)
  refine lv_dup hx hb dL_law_3 rfl ?_
  refine kcW (wc := [(q7, .inr (2, [.null, .null, .null, .null, .null, .null, .int 0, .null, .int 0, .null, .int 0, .null, .null, .null, .null, .null]))]) (wr := []) hP hD hS hA [0] [] rfl rfl ⟨rfl, rfl, by decide⟩ (fun hPc hDc => va_runI (As := []) (rest := [.ref q7]) S (c7_init l (dC, dI) cI cI cN cR H.size q7) (cwI 0 hts gL_law_X7_init rfl rfl rfl (hts (.initialized RX7) (by decide +kernel)) (hts (.methodLink RL 35 yX7_init) (by decide +kernel)) (hts (.instanceMethod yX7_init) (by decide +kernel)) rfl nmL_X7_init ⟨Nat.le_of_ble_eq_true rfl, Nat.le_of_ble_eq_true rfl⟩) ⟨kP_blind, kP_at hPc hDc hK hN⟩ rfl rfl hl.1 rfl (lv_room (Nat.le_of_ble_eq_true rfl)) dL_law_4 ⟨Nat.le_of_ble_eq_true rfl, Nat.le_of_ble_eq_true rfl⟩) (fun r7 H locs hu hP9 hD9 hS9 => ?_)
  clear hP hD hS
  subst hu
  have hS := hS9
  have hP : va_P (dC, dI) vwCl [((r7 0), o7 r7 0 0 0), ((r7 1), ai cI 8 (upd (upd (upd (upd (upd (upd (upd (upd (fun _ => 0) (0 : Int32).toNatClampNeg (1 : Int32)) (1 : Int32).toNatClampNeg (1 : Int32)) (2 : Int32).toNatClampNeg (1 : Int32)) (3 : Int32).toNatClampNeg (1 : Int32)) (4 : Int32).toNatClampNeg (1 : Int32)) (5 : Int32).toNatClampNeg (1 : Int32)) (6 : Int32).toNatClampNeg (1 : Int32)) (7 : Int32).toNatClampNeg (1 : Int32))), ((r7 2), ai cI 8 (upd (upd (upd (upd (upd (upd (upd (upd (fun _ => 0) (0 : Int32).toNatClampNeg (1 : Int32)) (1 : Int32).toNatClampNeg (1 : Int32)) (2 : Int32).toNatClampNeg (1 : Int32)) (3 : Int32).toNatClampNeg (1 : Int32)) (4 : Int32).toNatClampNeg (1 : Int32)) (5 : Int32).toNatClampNeg (1 : Int32)) (6 : Int32).toNatClampNeg (1 : Int32)) (7 : Int32).toNatClampNeg (1 : Int32))), ((r7 3), aq cN 5 (fun _ => none)), ((r7 4), ai cI 8 (fun _ => 0)), ((r7 5), ai cI 8 (fun _ => 0)), ((r7 6), aq cN 5 (fun _ => none)), ((r7 8), ai cI 20 (fun _ => 0)), ((r7 10), ai cI 60 (fun _ => 0)), ((r7 12), ar cR r7), ((r7 13), ai cI 3 (upd (upd (upd (fun _ => 0) (0 : Int32).toNatClampNeg (-1 : Int32)) (1 : Int32).toNatClampNeg (-1 : Int32)) (2 : Int32).toNatClampNeg (-1 : Int32))), ((r7 14), o1 (r7 17) 0 0 0 0 0), ((r7 15), o1 (r7 18) 0 0 0 0 0), ((r7 16), o4 (r7 19) (r7 20) (r7 21) (r7 22) 0), ((r7 17), ai cI 64 (fun _ => 0)), ((r7 18), ai cI 64 (fun _ => 0)), ((r7 19), ai cI 720 (fun _ => 0)), ((r7 20), ai cI 720 (fun _ => 0)), ((r7 21), ai cI 720 (fun _ => 0)), ((r7 22), ai cI 160 (fun _ => 0)), ((r7 23), ai cI 60 (fun _ => 0)), ((r7 24), ai cI 60 (fun _ => 0)), ((r7 25), ai cI 60 (fun _ => 0))] H := hP9
  have hD : va_D (fun q : Nat => s.heap.size ≤ q) [((r7 0), o7 r7 0 0 0), ((r7 1), ai cI 8 (upd (upd (upd (upd (upd (upd (upd (upd (fun _ => 0) (0 : Int32).toNatClampNeg (1 : Int32)) (1 : Int32).toNatClampNeg (1 : Int32)) (2 : Int32).toNatClampNeg (1 : Int32)) (3 : Int32).toNatClampNeg (1 : Int32)) (4 : Int32).toNatClampNeg (1 : Int32)) (5 : Int32).toNatClampNeg (1 : Int32)) (6 : Int32).toNatClampNeg (1 : Int32)) (7 : Int32).toNatClampNeg (1 : Int32))), ((r7 2), ai cI 8 (upd (upd (upd (upd (upd (upd (upd (upd (fun _ => 0) (0 : Int32).toNatClampNeg (1 : Int32)) (1 : Int32).toNatClampNeg (1 : Int32)) (2 : Int32).toNatClampNeg (1 : Int32)) (3 : Int32).toNatClampNeg (1 : Int32)) (4 : Int32).toNatClampNeg (1 : Int32)) (5 : Int32).toNatClampNeg (1 : Int32)) (6 : Int32).toNatClampNeg (1 : Int32)) (7 : Int32).toNatClampNeg (1 : Int32))), ((r7 3), aq cN 5 (fun _ => none)), ((r7 4), ai cI 8 (fun _ => 0)), ((r7 5), ai cI 8 (fun _ => 0)), ((r7 6), aq cN 5 (fun _ => none)), ((r7 8), ai cI 20 (fun _ => 0)), ((r7 10), ai cI 60 (fun _ => 0)), ((r7 12), ar cR r7), ((r7 13), ai cI 3 (upd (upd (upd (fun _ => 0) (0 : Int32).toNatClampNeg (-1 : Int32)) (1 : Int32).toNatClampNeg (-1 : Int32)) (2 : Int32).toNatClampNeg (-1 : Int32))), ((r7 14), o1 (r7 17) 0 0 0 0 0), ((r7 15), o1 (r7 18) 0 0 0 0 0), ((r7 16), o4 (r7 19) (r7 20) (r7 21) (r7 22) 0), ((r7 17), ai cI 64 (fun _ => 0)), ((r7 18), ai cI 64 (fun _ => 0)), ((r7 19), ai cI 720 (fun _ => 0)), ((r7 20), ai cI 720 (fun _ => 0)), ((r7 21), ai cI 720 (fun _ => 0)), ((r7 22), ai cI 160 (fun _ => 0)), ((r7 23), ai cI 60 (fun _ => 0)), ((r7 24), ai cI 60 (fun _ => 0)), ((r7 25), ai cI 60 (fun _ => 0))] := hD9
  clear hP9 hD9 hS9
  obtain ⟨hP, hD⟩ := k_sub (ws' := LW cI r7 (upd (upd (upd (upd (upd (upd (upd (upd (fun _ => 0) (0 : Int32).toNatClampNeg (1 : Int32)) (1 : Int32).toNatClampNeg (1 : Int32)) (2 : Int32).toNatClampNeg (1 : Int32)) (3 : Int32).toNatClampNeg (1 : Int32)) (4 : Int32).toNatClampNeg (1 : Int32)) (5 : Int32).toNatClampNeg (1 : Int32)) (6 : Int32).toNatClampNeg (1 : Int32)) (7 : Int32).toNatClampNeg (1 : Int32)) (upd (upd (upd (upd (upd (upd (upd (upd (fun _ => 0) (0 : Int32).toNatClampNeg (1 : Int32)) (1 : Int32).toNatClampNeg (1 : Int32)) (2 : Int32).toNatClampNeg (1 : Int32)) (3 : Int32).toNatClampNeg (1 : Int32)) (4 : Int32).toNatClampNeg (1 : Int32)) (5 : Int32).toNatClampNeg (1 : Int32)) (6 : Int32).toNatClampNeg (1 : Int32)) (7 : Int32).toNatClampNeg (1 : Int32)) 0 0 (fun _ => 0) (fun _ => 0)) hP hD [0, 1, 2, 11, 12, 14, 15] rfl rfl
  refine lv_astore_n (lv' := [(1, .ref (r7 0)), (0, .ref b)]) hx hb dL_law_7 rfl hl (by decide) rfl (fun ls hl => ?_)
  refine lv_iconst (v := (0 : Int32)) hx hb dL_law_8 (by decide) ?_
  refine lv_istore_n (lv' := [(2, .int (0 : Int32)), (1, .ref (r7 0)), (0, .ref b)]) hx hb dL_law_9 rfl hl (by decide) rfl (fun ls hl => ?_)
  exact law_loop (D := (dC, dI)) (rf := r7) C0 hK hN hL 14 0 (0 : Int32) rfl rfl (upd (upd (upd (upd (upd (upd (upd (upd (fun _ => 0) (0 : Int32).toNatClampNeg (1 : Int32)) (1 : Int32).toNatClampNeg (1 : Int32)) (2 : Int32).toNatClampNeg (1 : Int32)) (3 : Int32).toNatClampNeg (1 : Int32)) (4 : Int32).toNatClampNeg (1 : Int32)) (5 : Int32).toNatClampNeg (1 : Int32)) (6 : Int32).toNatClampNeg (1 : Int32)) (7 : Int32).toNatClampNeg (1 : Int32)) (upd (upd (upd (upd (upd (upd (upd (upd (fun _ => 0) (0 : Int32).toNatClampNeg (1 : Int32)) (1 : Int32).toNatClampNeg (1 : Int32)) (2 : Int32).toNatClampNeg (1 : Int32)) (3 : Int32).toNatClampNeg (1 : Int32)) (4 : Int32).toNatClampNeg (1 : Int32)) (5 : Int32).toNatClampNeg (1 : Int32)) (6 : Int32).toNatClampNeg (1 : Int32)) (7 : Int32).toNatClampNeg (1 : Int32)) 0 0 (fun _ => 0) (fun _ => 0) H locs ls hP hD hS (lv_sub hl [2, 1, 0] rfl)
