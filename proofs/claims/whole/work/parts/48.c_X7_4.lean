section
variable {p : Program} {l : Launch} {e : Env} {S : State} {m : MethodId} {args : Array Value} {below : List Frame} {meth : Method} {c : Code} {E : bx_E} {A : Nat → Prop}
abbrev G_X7_digest (p : Program) (l : Launch) (e : Env) (S : State) (m : MethodId) (args : Array Value) (below : List Frame) (meth : Method) (c : Code) (E : bx_E) (A : Nat → Prop) (a : Nat → Nat)  (u : US) (K : Int64 → Prop) (pc : Nat) (lv : List (Nat × Value)) (st : List Value) (ws : va_W) : Prop := bx_S p l e (rmD 3) S m args below meth c 4 E A (MQ below (va_Ql (fun r (_ : Unit) => K r) (fun (_ : Unit) t => bx_B E A (w_U E a u) t) A) args S 0 0 A) 0 0 pc lv st ws
def V_X7_digest_6  (K : Int64 → Prop)  : Nat → US → Int64 → Int32 → Prop
  | 0, _, _, _ => False
  | n + 1, u, x1, x3 => ((10 ≤ x3 → (V_X0_mixInto (fun r1 => K ((31 * ((31 * r1) + u.2.2.2.2.2.2.2.2.1)) + u.2.2.2.2.2.2.2.2.2.1)) u.1 x1)) ∧
 (¬ 10 ≤ x3 → (V_X7_howMany (fun r2 => V_X7_digest_6 K n u ((31 * x1) + (r2 : Int32).toInt64) (x3 + 1)) u x3)))
set_option maxRecDepth 20000 in
set_option maxHeartbeats 4000000 in
theorem t_X7_digest_6 {a : Nat → Nat} {K : Int64 → Prop} (C : bx_C p (rmD 3) S m args meth c cX7_digest 4 yX7_digest.cls (some .long) E A 0 0) (u : US)  : ∀ (n : Nat)  (x1 : Int64) (x3 : Int32), V_X7_digest_6 K n u x1 x3 → G_X7_digest p l e S m args below meth c E A a  u K 6 [(0, .ref (a 0)), (1, .long x1), (3, .int x3)] [] (w_U E a u) := by
  intro n
  induction n with
  | zero =>
    intro x1 x3 hv
    exact False.elim hv
  | succ n ih =>
    intro x1 x3 hv
    unfold V_X7_digest_6 at hv
    refine bx_iload_n C 7 dX7_digest_6 rfl rfl rfl ?_
    refine bx_bipush C 10 9 dX7_digest_7 bp_10 rfl ?_
    refine bx_icmp_ge C 31 12 dX7_digest_9 (by decide) rfl (fun h => ?_) (fun h => ?_)
    · replace hv := hv.1 h
      refine bx_aload_n C 32 dX7_digest_31 rfl rfl rfl ?_
      refine bx_getf (v := .ref (a 1)) C 35 0 0 inX7 rfl (by decide) fl_X7_10 dX7_digest_32 at_U_0 rfl rfl ?_
      refine bx_lload_n C 36 dX7_digest_35 rfl rfl rfl ?_
      refine bx_pVl C 1 at_U_1 rfl 39 fc_X7_280 (k_X0_mixInto l E (fun k => a (1 + k)) _ _ _ hv) dX7_digest_36 ⟨rfl, rfl, Nat.le_of_ble_eq_true rfl, Nat.le_of_ble_eq_true rfl⟩ [1, 2, 3, 4, 5, 6, 7, 8, 9, 10, 11, 12, 13] ps_U_H_1 (by decide) rfl rfl (Nat.le_of_ble_eq_true rfl) rfl (fun r1 hv => ?_)
      refine bx_lstore_n C 40 dX7_digest_39 rfl (by decide) rfl ?_
      refine bx_ldc2 C 43 cs_X7_278 dX7_digest_40 rfl ?_
      refine bx_lload_n C 44 dX7_digest_43 rfl rfl rfl ?_
      refine bx_lmul C 45 dX7_digest_44 rfl ?_
      refine bx_aload_n C 46 dX7_digest_45 rfl rfl rfl ?_
      refine bx_getf (v := .long u.2.2.2.2.2.2.2.2.1) C 49 0 7 inX7 rfl (by decide) fl_X7_261 dX7_digest_46 at_U_0 rfl rfl ?_
      refine bx_ladd C 50 dX7_digest_49 rfl ?_
      refine bx_lstore_n C 51 dX7_digest_50 rfl (by decide) rfl ?_
      refine bx_ldc2 C 54 cs_X7_278 dX7_digest_51 rfl ?_
      refine bx_lload_n C 55 dX7_digest_54 rfl rfl rfl ?_
      refine bx_lmul C 56 dX7_digest_55 rfl ?_
      refine bx_aload_n C 57 dX7_digest_56 rfl rfl rfl ?_
      refine bx_getf (v := .long u.2.2.2.2.2.2.2.2.2.1) C 60 0 8 inX7 rfl (by decide) fl_X7_48 dX7_digest_57 at_U_0 rfl rfl ?_
      refine bx_ladd C 61 dX7_digest_60 rfl ?_
      exact bx_lret C () rfl dX7_digest_61 rfl hv
    · replace hv := hv.2 h
      refine bx_ldc2 C 15 cs_X7_278 dX7_digest_12 rfl ?_
      refine bx_lload_n C 16 dX7_digest_15 rfl rfl rfl ?_
      refine bx_lmul C 17 dX7_digest_16 rfl ?_
      refine bx_aload_n C 18 dX7_digest_17 rfl rfl rfl ?_
      refine bx_iload_n C 19 dX7_digest_18 rfl rfl rfl ?_
      refine bx_pVi C 0 at_U_0 rfl 22 fc_X7_273 (k_X7_howMany l E a _ _ _ hv) dX7_digest_19 ⟨rfl, rfl, Nat.le_of_ble_eq_true rfl, Nat.le_of_ble_eq_true rfl⟩ [0, 1, 2, 3, 4, 5, 6, 7, 8, 9, 10, 11, 12, 13, 14, 15, 16, 17, 18, 19, 20, 21, 22, 23, 24, 25, 26, 27, 28, 29, 30, 31, 32, 33, 34, 35, 36, 37, 38, 39, 40, 41, 42, 43, 44, 45, 46, 47, 48, 49, 50, 51, 52, 53, 54, 55, 56, 57, 58, 59, 60, 61, 62, 63, 64, 65, 66, 67, 68, 69, 70, 71, 72, 73] ps_U_U_0 (by decide) rfl rfl (Nat.le_of_ble_eq_true rfl) rfl (fun r2 hv => ?_)
      refine bx_i2l C 23 dX7_digest_22 rfl ?_
      refine bx_ladd C 24 dX7_digest_23 rfl ?_
      refine bx_lstore_n C 25 dX7_digest_24 rfl (by decide) rfl ?_
      refine bx_iinc C 1 28 dX7_digest_25 rfl (by decide) ic_1 rfl ?_
      refine bx_goto C 6 dX7_digest_28 (by decide) ?_
      exact bx_cut [2, 1, 0] (w_U E a u) rfl rfl (ih  ((31 * x1) + (r2 : Int32).toInt64) (x3 + 1) hv)
def V_X7_digest  (K : Int64 → Prop)  (u : US)  : Prop := ∃ n3, V_X7_digest_6 K n3 u 1699 0
set_option maxRecDepth 20000 in
set_option maxHeartbeats 4000000 in
theorem t_X7_digest_0 {a : Nat → Nat} {K : Int64 → Prop} (C : bx_C p (rmD 3) S m args meth c cX7_digest 4 yX7_digest.cls (some .long) E A 0 0) (u : US)    (hv : V_X7_digest K u ) : G_X7_digest p l e S m args below meth c E A a  u K 0 [(0, .ref (a 0))] [] (w_U E a u) := by
  unfold V_X7_digest at hv
  refine bx_ldc2 C 3 cs_X7_276 dX7_digest_0 rfl ?_
  refine bx_lstore_n C 4 dX7_digest_3 rfl (by decide) rfl ?_
  refine bx_iconst C 0 5 dX7_digest_4 ic_0 rfl ?_
  refine bx_istore_n C 6 dX7_digest_5 rfl (by decide) rfl ?_
  obtain ⟨n3, hv⟩ := hv
  exact bx_cut [2, 1, 0] (w_U E a u) rfl rfl (t_X7_digest_6 C u  n3  1699 0 hv)
theorem k_X7_digest (l : Launch) (E : bx_E) (a : Nat → Nat)  (K : Int64 → Prop) (u : US)  (hv : V_X7_digest  K u ) : bx_Ml l E yX7_digest cX7_digest 4 (some .long) (rmD 3) [.ref (a 0)] (fun (_ : Unit) => w_U E a u) () (fun r (_ : Unit) => K r) :=
  bx_metl (by decide +kernel) (Nat.le_of_ble_eq_true rfl) (fun p e S m below meth c C => t_X7_digest_0 C u  hv)
end
