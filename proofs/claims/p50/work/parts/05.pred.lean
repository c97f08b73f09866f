def w7_isRegister  (v0 : Int32) (post : Int32 → Prop) : Prop :=
  ((v0 < 0 → (post (0 : Int32))) ∧ (¬ v0 < 0 → (((8 : Int32) ≤ v0 → (post (0 : Int32))) ∧ (¬ (8 : Int32) ≤ v0 → (post (1 : Int32))))))
def w7_isIn  (v0 : Int32) (v1 : Int32) (v2 : Int32) (post : Int32 → Prop) : Prop :=
  ((v0 < v1 → (post (0 : Int32))) ∧ (¬ v0 < v1 → ((v2 < v0 → (post (0 : Int32))) ∧ (¬ v2 < v0 → (post (1 : Int32))))))
def w7_gcd_L9   (post : Int64 → Prop)  : Nat → Int64 → Int64 → Int32 → Prop
  | 0, _, _, _ => False
  | n9 + 1, v4, v6, v8 =>
  (((1000 : Int32) ≤ v8 → (post v4)) ∧ (¬ (1000 : Int32) ≤ v8 → ((v6 ≤ (0 : Int64) → (post v4)) ∧ (¬ v6 ≤ (0 : Int64) → (¬ v6 = 0 ∧ (∀ x29 : Int64, x29 = (v4 - (v4 / v6) * v6) → (∀ x39 : Int32, x39 = (v8 + (1 : Int32)) → (w7_gcd_L9 post n9 v6 x29 x39))))))))
def w7_gcd  (v0 : Int64) (v2 : Int64) (post : Int64 → Prop) : Prop :=
  (∃ n9 : Nat, w7_gcd_L9 post n9 v0 v2 (0 : Int32))
def w7_quotient  (v0 : Int64) (v2 : Int64) (post : Int64 → Prop) : Prop :=
  ((v2 ≤ (0 : Int64) → (post (0 : Int64))) ∧ (¬ v2 ≤ (0 : Int64) → (¬ v2 = 0 ∧ (post (v0 / v2)))))
def w7_store (f_tops : (Nat → Int32)) (f_bottoms : (Nat → Int32)) (v1 : Int32) (v2 : Int64) (v4 : Int64) (post : Int32 → (Nat → Int32) → (Nat → Int32) → Prop) : Prop :=
  (w7_gcd v2 v4 (fun r3 => (w7_quotient v2 r3 (fun r11 => (w7_quotient v4 r3 (fun r20 => (((1000000 : Int64) < r11 → (post (-3 : Int32) f_tops f_bottoms)) ∧ (¬ (1000000 : Int64) < r11 → ((r20 ≤ (1000000 : Int64) → (vp_in v1 8 ∧ (vp_in v1 8 ∧ (post (1 : Int32) (upd f_tops v1.toNatClampNeg r11.toInt32) (upd f_bottoms v1.toNatClampNeg r20.toInt32))))) ∧ (¬ r20 ≤ (1000000 : Int64) → (post (-3 : Int32) f_tops f_bottoms)))))))))))
def w7_set (f_tops : (Nat → Int32)) (f_bottoms : (Nat → Int32)) (v1 : Int32) (v2 : Int32) (v3 : Int32) (post : Int32 → (Nat → Int32) → (Nat → Int32) → Prop) : Prop :=
  (w7_isRegister v1 (fun r1 => ((r1 = 0 → (post (-1 : Int32) f_tops f_bottoms)) ∧ (¬ r1 = 0 → (w7_isIn v2 (1 : Int32) (1000000 : Int32) (fun r11 => ((r11 = 0 → (post (-1 : Int32) f_tops f_bottoms)) ∧ (¬ r11 = 0 → (w7_isIn v3 (1 : Int32) (1000000 : Int32) (fun r21 => ((¬ r21 = 0 → (w7_store f_tops f_bottoms v1 v2.toInt64 v3.toInt64 (fun r35 f_tops_35 f_bottoms_35 => (post r35 f_tops_35 f_bottoms_35)))) ∧ (r21 = 0 → (post (-1 : Int32) f_tops f_bottoms)))))))))))))
def w7_crossDifference (f_tops : (Nat → Int32)) (f_bottoms : (Nat → Int32)) (v1 : Int32) (v2 : Int32) (post : Int64 → Prop) : Prop :=
  (vp_in v1 8 ∧ (vp_in v2 8 ∧ (vp_in v1 8 ∧ (vp_in v2 8 ∧ (post (((f_tops v1.toNatClampNeg).toInt64 * (f_bottoms v2.toNatClampNeg).toInt64) - ((f_bottoms v1.toNatClampNeg).toInt64 * (f_tops v2.toNatClampNeg).toInt64)))))))
def w7_compare (f_tops : (Nat → Int32)) (f_bottoms : (Nat → Int32)) (v1 : Int32) (v2 : Int32) (post : Int32 → Prop) : Prop :=
  (w7_isRegister v1 (fun r1 => ((r1 = 0 → (post (-1 : Int32))) ∧ (¬ r1 = 0 → (w7_isRegister v2 (fun r8 => ((¬ r8 = 0 → (w7_crossDifference f_tops f_bottoms v1 v2 (fun r19 => (((0 : Int64) ≤ r19 → ((¬ r19 = (0 : Int64) → (post (2 : Int32))) ∧ (r19 = (0 : Int64) → (post (1 : Int32))))) ∧ (¬ (0 : Int64) ≤ r19 → (post (0 : Int32))))))) ∧ (r8 = 0 → (post (-1 : Int32))))))))))
def w1_append (f_size : Int32) (f_terms : (Nat → Int32)) (v1 : Int32) (post : Int32 → (Nat → Int32) → Prop) : Prop :=
  (((64 : Int32) ≤ f_size → (post f_size f_terms)) ∧ (¬ (64 : Int32) ≤ f_size → (vp_in f_size 64 ∧ (∀ x26 : Int32, x26 = (f_size + (1 : Int32)) → (post x26 (upd f_terms f_size.toNatClampNeg v1))))))
def w1_expand_L13   (post : Int32 → (Nat → Int32) → Prop)  : Nat → Int32 → Int32 → Int32 → Int32 → (Nat → Int32) → Prop
  | 0, _, _, _, _, _ => False
  | n13 + 1, v3, v4, v5, f_size, f_terms =>
  (((64 : Int32) ≤ v5 → (post f_size f_terms)) ∧ (¬ (64 : Int32) ≤ v5 → ((v4 ≤ 0 → (post f_size f_terms)) ∧ (¬ v4 ≤ 0 → (¬ v4 = 0 ∧ (w1_append f_size f_terms (v3 / v4) (fun f_size_30 f_terms_30 => (¬ v4 = 0 ∧ (∀ x37 : Int32, x37 = (v3 - (v3 / v4) * v4) → (∀ x46 : Int32, x46 = (v5 + (1 : Int32)) → (w1_expand_L13 post n13 v4 x37 x46 f_size_30 f_terms_30)))))))))))
def w1_expand (f_size : Int32) (f_terms : (Nat → Int32)) (v1 : Int32) (v2 : Int32) (post : Int32 → (Nat → Int32) → Prop) : Prop :=
  (∃ n13 : Nat, w1_expand_L13 post n13 v1 v2 (0 : Int32) (0 : Int32) f_terms)
def w7_expand (f_tops : (Nat → Int32)) (f_bottoms : (Nat → Int32)) (f_E_size : Int32) (f_E_terms : (Nat → Int32)) (v1 : Int32) (post : Int32 → (Nat → Int32) → Prop) : Prop :=
  (vp_in v1 8 ∧ (vp_in v1 8 ∧ (w1_expand f_E_size f_E_terms (f_tops v1.toNatClampNeg) (f_bottoms v1.toNatClampNeg) (fun f_E_size_16 f_E_terms_16 => (post f_E_size_16 f_E_terms_16)))))
def w1_at (f_size : Int32) (f_terms : (Nat → Int32)) (v1 : Int32) (post : Int32 → Prop) : Prop :=
  ((v1 < 0 → (post (0 : Int32))) ∧ (¬ v1 < 0 → ((f_size ≤ v1 → (post (0 : Int32))) ∧ (¬ f_size ≤ v1 → (vp_in v1 64 ∧ (post (f_terms v1.toNatClampNeg)))))))
def w1_runAt (f_size : Int32) (f_terms : (Nat → Int32)) (v1 : Int32) (post : Int32 → Prop) : Prop :=
  ((¬ v1 = (f_size - (1 : Int32)) → (w1_at f_size f_terms v1 (fun r22 => (post r22)))) ∧ (v1 = (f_size - (1 : Int32)) → (w1_at f_size f_terms v1 (fun r12 => (post (r12 - (1 : Int32)))))))
def w1_stepCount_L4 (f_size : Int32) (f_terms : (Nat → Int32))  (post : Int32 → Prop)  : Nat → Int32 → Int32 → Prop
  | 0, _, _ => False
  | n4 + 1, v1, v2 =>
  ((f_size ≤ v2 → (post v1)) ∧ (¬ f_size ≤ v2 → (w1_runAt f_size f_terms v2 (fun r15 => (∀ x19 : Int32, x19 = (v1 + r15) → (∀ x20 : Int32, x20 = (v2 + (1 : Int32)) → (w1_stepCount_L4 f_size f_terms post n4 x19 x20)))))))
def w1_stepCount (f_size : Int32) (f_terms : (Nat → Int32))  (post : Int32 → Prop) : Prop :=
  (∃ n4 : Nat, w1_stepCount_L4 f_size f_terms post n4 (0 : Int32) (0 : Int32))
def w7_depth (f_tops : (Nat → Int32)) (f_bottoms : (Nat → Int32)) (f_E_size : Int32) (f_E_terms : (Nat → Int32)) (v1 : Int32) (post : Int32 → Int32 → (Nat → Int32) → Prop) : Prop :=
  (w7_isRegister v1 (fun r1 => ((r1 = 0 → (post (-1 : Int32) f_E_size f_E_terms)) ∧ (¬ r1 = 0 → (w7_expand f_tops f_bottoms f_E_size f_E_terms v1 (fun f_E_size_9 f_E_terms_9 => (w1_stepCount f_E_size_9 f_E_terms_9 (fun r12 => (post r12 f_E_size_9 f_E_terms_9)))))))))
def w1_commonSteps_L4 (f_size : Int32) (f_terms : (Nat → Int32)) (f_P_size : Int32) (f_P_terms : (Nat → Int32))  (post : Int32 → Prop)  : Nat → Int32 → Int32 → Prop
  | 0, _, _ => False
  | n4 + 1, v2, v3 =>
  ((f_size ≤ v3 → (post v2)) ∧ (¬ f_size ≤ v3 → ((f_P_size ≤ v3 → (post v2)) ∧ (¬ f_P_size ≤ v3 → (w1_runAt f_size f_terms v3 (fun r22 => (w1_runAt f_P_size f_P_terms v3 (fun r29 => ((r29 ≤ r22 → (∀ x50 : Int32, x50 = (v2 + r29) → ((r22 = r29 → (∀ x60 : Int32, x60 = (v3 + (1 : Int32)) → (w1_commonSteps_L4 f_size f_terms f_P_size f_P_terms post n4 x50 x60))) ∧ (¬ r22 = r29 → (post x50))))) ∧ (¬ r29 ≤ r22 → (∀ x50 : Int32, x50 = (v2 + r22) → ((r22 = r29 → (∀ x60 : Int32, x60 = (v3 + (1 : Int32)) → (w1_commonSteps_L4 f_size f_terms f_P_size f_P_terms post n4 x50 x60))) ∧ (¬ r22 = r29 → (post x50))))))))))))))
def w1_commonSteps (f_size : Int32) (f_terms : (Nat → Int32)) (f_P_size : Int32) (f_P_terms : (Nat → Int32))  (post : Int32 → Prop) : Prop :=
  (∃ n4 : Nat, w1_commonSteps_L4 f_size f_terms f_P_size f_P_terms post n4 (0 : Int32) (0 : Int32))
def w1_cutToDepth_L4 (f_size : Int32) (f_terms : (Nat → Int32))  (post : Int32 → (Nat → Int32) → Prop)  : Nat → Int32 → Int32 → Prop
  | 0, _, _ => False
  | n4 + 1, v2, v3 =>
  ((f_size ≤ v3 → (post f_size f_terms)) ∧ (¬ f_size ≤ v3 → (w1_runAt f_size f_terms v3 (fun r14 => ((r14 < v2 → (∀ x46 : Int32, x46 = (v2 - r14) → (∀ x47 : Int32, x47 = (v3 + (1 : Int32)) → (w1_cutToDepth_L4 f_size f_terms post n4 x46 x47)))) ∧ (¬ r14 < v2 → (vp_in v3 64 ∧ (∀ x38 : Int32, x38 = (v3 + (1 : Int32)) → (post x38 (upd f_terms v3.toNatClampNeg (v2 + (1 : Int32))))))))))))
def w1_cutToDepth (f_size : Int32) (f_terms : (Nat → Int32)) (v1 : Int32) (post : Int32 → (Nat → Int32) → Prop) : Prop :=
  (∃ n4 : Nat, w1_cutToDepth_L4 f_size f_terms post n4 v1 (0 : Int32))
def w1_size (f_size : Int32)  (post : Int32 → Prop) : Prop :=
  (post f_size)
def w1_lastByRule_L17 (f_size : Int32) (f_terms : (Nat → Int32)) (v1 : Int32) (post : Int64 → Prop)  : Nat → Int64 → Int64 → Int32 → Prop
  | 0, _, _, _ => False
  | n17 + 1, v6, v8, v10 =>
  ((v1 < v10 → (post v8)) ∧ (¬ v1 < v10 → ((f_size ≤ v10 → (post v8)) ∧ (¬ f_size ≤ v10 → (vp_in v10 64 ∧ (∀ x46 : Int64, x46 = (((f_terms v10.toNatClampNeg).toInt64 * v8) + v6) → (∀ x56 : Int32, x56 = (v10 + (1 : Int32)) → (w1_lastByRule_L17 f_size f_terms v1 post n17 v8 x46 x56))))))))
def w1_lastByRule (f_size : Int32) (f_terms : (Nat → Int32)) (v1 : Int32) (v2 : Int64) (v4 : Int64) (post : Int64 → Prop) : Prop :=
  (((-1 : Int32) ≤ v1 → (∃ n17 : Nat, w1_lastByRule_L17 f_size f_terms v1 post n17 v2 v4 (0 : Int32))) ∧ (¬ (-1 : Int32) ≤ v1 → (post v2)))
def w1_convergentTop (f_size : Int32) (f_terms : (Nat → Int32)) (v1 : Int32) (post : Int64 → Prop) : Prop :=
  (w1_lastByRule f_size f_terms v1 (0 : Int64) (1 : Int64) (fun r4 => (post r4)))
def w1_convergentBottom (f_size : Int32) (f_terms : (Nat → Int32)) (v1 : Int32) (post : Int64 → Prop) : Prop :=
  (w1_lastByRule f_size f_terms v1 (1 : Int64) (0 : Int64) (fun r4 => (post r4)))
def w7_storeConvergent (f_tops : (Nat → Int32)) (f_bottoms : (Nat → Int32)) (f_P_size : Int32) (f_P_terms : (Nat → Int32)) (v1 : Int32) (v3 : Int32) (post : Int32 → (Nat → Int32) → (Nat → Int32) → Prop) : Prop :=
  (w1_convergentTop f_P_size f_P_terms v3 (fun r4 => (w1_convergentBottom f_P_size f_P_terms v3 (fun r9 => (w7_store f_tops f_bottoms v1 r4 r9 (fun r12 f_tops_12 f_bottoms_12 => (post r12 f_tops_12 f_bottoms_12)))))))
def w7_commonAncestor (f_tops : (Nat → Int32)) (f_bottoms : (Nat → Int32)) (f_E_size : Int32) (f_O_size : Int32) (f_E_terms : (Nat → Int32)) (f_O_terms : (Nat → Int32)) (v1 : Int32) (v2 : Int32) (v3 : Int32) (post : Int32 → (Nat → Int32) → (Nat → Int32) → Int32 → Int32 → (Nat → Int32) → (Nat → Int32) → Prop) : Prop :=
  (w7_isRegister v1 (fun r1 => ((r1 = 0 → (post (-1 : Int32) f_tops f_bottoms f_E_size f_O_size f_E_terms f_O_terms)) ∧ (¬ r1 = 0 → (w7_isRegister v2 (fun r8 => ((r8 = 0 → (post (-1 : Int32) f_tops f_bottoms f_E_size f_O_size f_E_terms f_O_terms)) ∧ (¬ r8 = 0 → (w7_isRegister v3 (fun r15 => ((¬ r15 = 0 → (w7_expand f_tops f_bottoms f_E_size f_E_terms v2 (fun f_E_size_25 f_E_terms_25 => (vp_in v3 8 ∧ (vp_in v3 8 ∧ (w1_expand f_O_size f_O_terms (f_tops v3.toNatClampNeg) (f_bottoms v3.toNatClampNeg) (fun f_O_size_46 f_O_terms_46 => (w1_commonSteps f_E_size_25 f_E_terms_25 f_O_size_46 f_O_terms_46 (fun r55 => (w1_cutToDepth f_E_size_25 f_E_terms_25 r55 (fun f_E_size_64 f_E_terms_64 => (w1_size f_E_size_64 (fun r73 => (w7_storeConvergent f_tops f_bottoms f_E_size_64 f_E_terms_64 v1 (r73 - (1 : Int32)) (fun r78 f_tops_78 f_bottoms_78 => (post r55 f_tops_78 f_bottoms_78 f_E_size_64 f_O_size_46 f_E_terms_64 f_O_terms_46)))))))))))))))) ∧ (r15 = 0 → (post (-1 : Int32) f_tops f_bottoms f_E_size f_O_size f_E_terms f_O_terms)))))))))))))
def w1_becomeSimplestBetween_L25   (post : Int32 → (Nat → Int32) → Prop)  : Nat → Int64 → Int64 → Int64 → Int64 → Int32 → Int32 → (Nat → Int32) → Prop
  | 0, _, _, _, _, _, _, _ => False
  | n25 + 1, v5, v7, v9, v11, v13, f_size, f_terms =>
  (((64 : Int32) ≤ v13 → (post f_size f_terms)) ∧ (¬ (64 : Int32) ≤ v13 → (w7_quotient v5 v7 (fun r36 => ((v9 ≤ ((r36 + (1 : Int64)) * v11) → (w1_append f_size f_terms r36.toInt32 (fun f_size_68 f_terms_68 => (∀ x79 : Int64, x79 = (v5 - (r36 * v7)) → (∀ x89 : Int64, x89 = (v9 - (r36 * v11)) → (∀ x107 : Int32, x107 = (v13 + (1 : Int32)) → (w1_becomeSimplestBetween_L25 post n25 v11 x89 v7 x79 x107 f_size_68 f_terms_68))))))) ∧ (¬ v9 ≤ ((r36 + (1 : Int64)) * v11) → (w1_append f_size f_terms (r36.toInt32 + (1 : Int32)) (fun f_size_60 f_terms_60 => (post f_size_60 f_terms_60)))))))))
def w1_becomeSimplestBetween (f_size : Int32) (f_terms : (Nat → Int32)) (v1 : Int32) (v2 : Int32) (v3 : Int32) (v4 : Int32) (post : Int32 → (Nat → Int32) → Prop) : Prop :=
  (∀ x2 : Int64, x2 = v1.toInt64 → (∀ x6 : Int64, x6 = v2.toInt64 → (∀ x10 : Int64, x10 = v3.toInt64 → (∀ x15 : Int64, x15 = v4.toInt64 → (∃ n25 : Nat, w1_becomeSimplestBetween_L25 post n25 x2 x6 x10 x15 (0 : Int32) (0 : Int32) f_terms)))))
def w7_simplestBetween (f_tops : (Nat → Int32)) (f_bottoms : (Nat → Int32)) (f_E_size : Int32) (f_E_terms : (Nat → Int32)) (v1 : Int32) (v2 : Int32) (v3 : Int32) (post : Int32 → (Nat → Int32) → (Nat → Int32) → Int32 → (Nat → Int32) → Prop) : Prop :=
  (w7_isRegister v1 (fun r1 => ((r1 = 0 → (post (-1 : Int32) f_tops f_bottoms f_E_size f_E_terms)) ∧ (¬ r1 = 0 → (w7_isRegister v2 (fun r8 => ((r8 = 0 → (post (-1 : Int32) f_tops f_bottoms f_E_size f_E_terms)) ∧ (¬ r8 = 0 → (w7_isRegister v3 (fun r15 => ((¬ r15 = 0 → (w7_crossDifference f_tops f_bottoms v2 v3 (fun r26 => ((r26 < (0 : Int64) → (vp_in v2 8 ∧ (vp_in v2 8 ∧ (vp_in v3 8 ∧ (vp_in v3 8 ∧ (w1_becomeSimplestBetween f_E_size f_E_terms (f_tops v2.toNatClampNeg) (f_bottoms v2.toNatClampNeg) (f_tops v3.toNatClampNeg) (f_bottoms v3.toNatClampNeg) (fun f_E_size_65 f_E_terms_65 => (w1_size f_E_size_65 (fun r78 => (w7_storeConvergent f_tops f_bottoms f_E_size_65 f_E_terms_65 v1 (r78 - (1 : Int32)) (fun r83 f_tops_83 f_bottoms_83 => (post r83 f_tops_83 f_bottoms_83 f_E_size_65 f_E_terms_65)))))))))))) ∧ (¬ r26 < (0 : Int64) → (post (-2 : Int32) f_tops f_bottoms f_E_size f_E_terms)))))) ∧ (r15 = 0 → (post (-1 : Int32) f_tops f_bottoms f_E_size f_E_terms)))))))))))))
