section
variable {p : Program} {l : Launch} {e : Env} {S : State} {m : MethodId} {args : Array Value} {below : List Frame} {meth : Method} {c : Code} {E : bx_E} {A : Nat → Prop}
abbrev G_X0_reset (p : Program) (l : Launch) (e : Env) (S : State) (m : MethodId) (args : Array Value) (below : List Frame) (meth : Method) (c : Code) (E : bx_E) (A : Nat → Prop) (a : Nat → Nat)  (K : HS → Prop) (pc : Nat) (lv : List (Nat × Value)) (st : List Value) (ws : va_W) : Prop := bx_S p l e (rmD 1) S m args below meth c 2 E A (MQ below (va_Qv K (fun (u : HS) t => bx_B E A (w_H E a u) t) A) args S 0 0 A) 0 0 pc lv st ws
def V_X0_reset_2  (K : HS → Prop)  : Nat → HS → Int32 → Prop
  | 0, _, _ => False
  | n + 1, u, x1 => ((5 ≤ x1 → (V_X4_empty 5 3 15 (fun r1 u2 => (V_X4_empty 6 3 18 (fun r3 u4 => (V_X4_empty 6 4 24 (fun r5 u6 => (V_X4_empty 8 10 80 (fun r7 u8 => K (u.1, u.2.1, u.2.2.1, u.2.2.2.1, 0, 0, 0, 0, u2, u4, u6, u8)) u.2.2.2.2.2.2.2.2.2.2.2 )) u.2.2.2.2.2.2.2.2.2.2.1 )) u.2.2.2.2.2.2.2.2.2.1 )) u.2.2.2.2.2.2.2.2.1 )) ∧
 (¬ 5 ≤ x1 → (vp_in x1 5 ∧ V_X0_reset_2 K n ((upd u.1 (x1 : Int32).toNatClampNeg 0), u.2) (x1 + 1))))
set_option maxRecDepth 20000 in
set_option maxHeartbeats 4000000 in
theorem t_X0_reset_2 {a : Nat → Nat} {K : HS → Prop} (C : bx_C p (rmD 1) S m args meth c cX0_reset 2 yX0_reset.cls none E A 0 0)   : ∀ (n : Nat) (u : HS) (x1 : Int32), V_X0_reset_2 K n u x1 → G_X0_reset p l e S m args below meth c E A a  K 2 [(0, .ref (a 0)), (1, .int x1)] [] (w_H E a u) := by
  intro n
  induction n with
  | zero =>
    intro u x1 hv
    exact False.elim hv
  | succ n ih =>
    intro u x1 hv
    unfold V_X0_reset_2 at hv
    refine bx_iload_n C 3 dX0_reset_2 rfl rfl rfl ?_
    refine bx_iconst C 5 4 dX0_reset_3 ic_5 rfl ?_
    refine bx_icmp_ge C 20 7 dX0_reset_4 (by decide) rfl (fun h => ?_) (fun h => ?_)
    · replace hv := hv.1 h
      refine bx_aload_n C 21 dX0_reset_20 rfl rfl rfl ?_
      refine bx_iconst C 0 22 dX0_reset_21 ic_0 rfl ?_
      refine bx_putf C 25 0 4 (w_H E a (u.1, u.2.1, u.2.2.1, u.2.2.2.1, 0, u.2.2.2.2.2)) inX0 tyX0 tyX0_ok nmX0 rfl (by decide) fl_X0_42 rfl dX0_reset_22 rfl rfl rfl (Nat.le_of_ble_eq_true rfl) rfl rfl ?_
      refine bx_aload_n C 26 dX0_reset_25 rfl rfl rfl ?_
      refine bx_iconst C 0 27 dX0_reset_26 ic_0 rfl ?_
      refine bx_putf C 30 0 5 (w_H E a (u.1, u.2.1, u.2.2.1, u.2.2.2.1, 0, 0, u.2.2.2.2.2.2)) inX0 tyX0 tyX0_ok nmX0 rfl (by decide) fl_X0_46 rfl dX0_reset_27 rfl rfl rfl (Nat.le_of_ble_eq_true rfl) rfl rfl ?_
      refine bx_aload_n C 31 dX0_reset_30 rfl rfl rfl ?_
      refine bx_iconst C 0 32 dX0_reset_31 ic_0 rfl ?_
      refine bx_putf C 35 0 6 (w_H E a (u.1, u.2.1, u.2.2.1, u.2.2.2.1, 0, 0, 0, u.2.2.2.2.2.2.2)) inX0 tyX0 tyX0_ok nmX0 rfl (by decide) fl_X0_49 rfl dX0_reset_32 rfl rfl rfl (Nat.le_of_ble_eq_true rfl) rfl rfl ?_
      refine bx_aload_n C 36 dX0_reset_35 rfl rfl rfl ?_
      refine bx_iconst C 0 37 dX0_reset_36 ic_0 rfl ?_
      refine bx_putf C 40 0 7 (w_H E a (u.1, u.2.1, u.2.2.1, u.2.2.2.1, 0, 0, 0, 0, u.2.2.2.2.2.2.2.2)) inX0 tyX0 tyX0_ok nmX0 rfl (by decide) fl_X0_52 rfl dX0_reset_37 rfl rfl rfl (Nat.le_of_ble_eq_true rfl) rfl rfl ?_
      refine bx_aload_n C 41 dX0_reset_40 rfl rfl rfl ?_
      refine bx_getf (v := .ref (a 5)) C 44 0 8 inX0 rfl (by decide) fl_X0_29 dX0_reset_41 at_H_0 rfl rfl ?_
      refine bx_qVi C 5 at_H_5 rfl 47 fc_X0_55 (k_X4_empty l E (fun k => a (5 + k)) 5 3 15 _ _ hv) dX0_reset_44 ⟨rfl, rfl, Nat.le_of_ble_eq_true rfl, Nat.le_of_ble_eq_true rfl⟩ [5, 6] (fun u2 => w_H E a (u.1, u.2.1, u.2.2.1, u.2.2.2.1, 0, 0, 0, 0, u2, u.2.2.2.2.2.2.2.2.2)) ps_H_T_5 (by decide) ad_T pu_H_T_5 rfl rfl (Nat.le_of_ble_eq_true rfl) rfl (fun r1 u2 hv => ?_)
      refine bx_pop C 48 dX0_reset_47 rfl rfl ?_
      refine bx_aload_n C 49 dX0_reset_48 rfl rfl rfl ?_
      refine bx_getf (v := .ref (a 7)) C 52 0 9 inX0 rfl (by decide) fl_X0_33 dX0_reset_49 at_H_0 rfl rfl ?_
      refine bx_qVi C 7 at_H_7 rfl 55 fc_X0_55 (k_X4_empty l E (fun k => a (7 + k)) 6 3 18 _ _ hv) dX0_reset_52 ⟨rfl, rfl, Nat.le_of_ble_eq_true rfl, Nat.le_of_ble_eq_true rfl⟩ [7, 8] (fun u4 => w_H E a (u.1, u.2.1, u.2.2.1, u.2.2.2.1, 0, 0, 0, 0, u2, u4, u.2.2.2.2.2.2.2.2.2.2)) ps_H_T_7 (by decide) ad_T pu_H_T_7 rfl rfl (Nat.le_of_ble_eq_true rfl) rfl (fun r3 u4 hv => ?_)
      refine bx_pop C 56 dX0_reset_55 rfl rfl ?_
      refine bx_aload_n C 57 dX0_reset_56 rfl rfl rfl ?_
      refine bx_getf (v := .ref (a 9)) C 60 0 10 inX0 rfl (by decide) fl_X0_36 dX0_reset_57 at_H_0 rfl rfl ?_
      refine bx_qVi C 9 at_H_9 rfl 63 fc_X0_55 (k_X4_empty l E (fun k => a (9 + k)) 6 4 24 _ _ hv) dX0_reset_60 ⟨rfl, rfl, Nat.le_of_ble_eq_true rfl, Nat.le_of_ble_eq_true rfl⟩ [9, 10] (fun u6 => w_H E a (u.1, u.2.1, u.2.2.1, u.2.2.2.1, 0, 0, 0, 0, u2, u4, u6, u.2.2.2.2.2.2.2.2.2.2.2)) ps_H_T_9 (by decide) ad_T pu_H_T_9 rfl rfl (Nat.le_of_ble_eq_true rfl) rfl (fun r5 u6 hv => ?_)
      refine bx_pop C 64 dX0_reset_63 rfl rfl ?_
      refine bx_aload_n C 65 dX0_reset_64 rfl rfl rfl ?_
      refine bx_getf (v := .ref (a 11)) C 68 0 11 inX0 rfl (by decide) fl_X0_39 dX0_reset_65 at_H_0 rfl rfl ?_
      refine bx_qVi C 11 at_H_11 rfl 71 fc_X0_55 (k_X4_empty l E (fun k => a (11 + k)) 8 10 80 _ _ hv) dX0_reset_68 ⟨rfl, rfl, Nat.le_of_ble_eq_true rfl, Nat.le_of_ble_eq_true rfl⟩ [11, 12] (fun u8 => w_H E a (u.1, u.2.1, u.2.2.1, u.2.2.2.1, 0, 0, 0, 0, u2, u4, u6, u8)) ps_H_T_11 (by decide) ad_T pu_H_T_11 rfl rfl (Nat.le_of_ble_eq_true rfl) rfl (fun r7 u8 hv => ?_)
      refine bx_pop C 72 dX0_reset_71 rfl rfl ?_
      exact bx_vret C (u.1, u.2.1, u.2.2.1, u.2.2.2.1, 0, 0, 0, 0, u2, u4, u6, u8) rfl dX0_reset_72 rfl hv
    · replace hv := hv.2 h
      refine bx_aload_n C 8 dX0_reset_7 rfl rfl rfl ?_
      refine bx_getf (v := .ref (a 1)) C 11 0 0 inX0 rfl (by decide) fl_X0_9 dX0_reset_8 at_H_0 rfl rfl ?_
      refine bx_iload_n C 12 dX0_reset_11 rfl rfl rfl ?_
      refine bx_iconst C 0 13 dX0_reset_12 ic_0 rfl ?_
      refine bx_iast C 14 1 (w_H E a ((upd u.1 (x1 : Int32).toNatClampNeg 0), u.2)) dX0_reset_13 rfl hv.1 rfl rfl ?_
      replace hv := hv.2
      refine bx_iinc C 1 17 dX0_reset_14 rfl (by decide) ic_1 rfl ?_
      refine bx_goto C 2 dX0_reset_17 (by decide) ?_
      exact bx_cut [1, 0] (w_H E a ((upd u.1 (x1 : Int32).toNatClampNeg 0), u.2)) rfl rfl (ih ((upd u.1 (x1 : Int32).toNatClampNeg 0), u.2) (x1 + 1) hv)
def V_X0_reset  (K : HS → Prop)  (u : HS)  : Prop := ∃ n9, V_X0_reset_2 K n9 u 0
set_option maxRecDepth 20000 in
set_option maxHeartbeats 4000000 in
theorem t_X0_reset_0 {a : Nat → Nat} {K : HS → Prop} (C : bx_C p (rmD 1) S m args meth c cX0_reset 2 yX0_reset.cls none E A 0 0)   (u : HS)  (hv : V_X0_reset K u ) : G_X0_reset p l e S m args below meth c E A a  K 0 [(0, .ref (a 0))] [] (w_H E a u) := by
  unfold V_X0_reset at hv
  refine bx_iconst C 0 1 dX0_reset_0 ic_0 rfl ?_
  refine bx_istore_n C 2 dX0_reset_1 rfl (by decide) rfl ?_
  obtain ⟨n9, hv⟩ := hv
  exact bx_cut [1, 0] (w_H E a u) rfl rfl (t_X0_reset_2 C   n9 u 0 hv)
theorem k_X0_reset (l : Launch) (E : bx_E) (a : Nat → Nat)  (K : HS → Prop) (u : HS)  (hv : V_X0_reset  K u ) : bx_Mv l E yX0_reset cX0_reset 2 none (rmD 1) [.ref (a 0)] (fun (u : HS) => w_H E a u) u K :=
  bx_metv (by decide +kernel) (Nat.le_of_ble_eq_true rfl) (fun p e S m below meth c C => t_X0_reset_0 C u  hv)
abbrev G_X0_takeFrom (p : Program) (l : Launch) (e : Env) (S : State) (m : MethodId) (args : Array Value) (below : List Frame) (meth : Method) (c : Code) (E : bx_E) (A : Nat → Prop) (a : Nat → Nat) (b : Nat → Nat)  (K : HS × HS → Prop) (pc : Nat) (lv : List (Nat × Value)) (st : List Value) (ws : va_W) : Prop := bx_S p l e (rmD 2) S m args below meth c 2 E A (MQ below (va_Qv K (fun (u : HS × HS) t => bx_B E A (w_H E a u.1 ++ w_H E b u.2) t) A) args S 0 0 A) 0 0 pc lv st ws
def V_X0_takeFrom  (K : HS × HS → Prop)  (u : HS × HS)  : Prop := (bx_cin 0 0 5 5 5 ∧ (bx_cin 0 0 7 7 7 ∧ (bx_cin 0 0 7 7 7 ∧ (bx_cin 0 0 7 7 7 ∧ (V_X4_takeFrom 5 3 15 5 3 15 (fun u1 => (V_X4_takeFrom 6 3 18 6 3 18 (fun u2 => (V_X4_takeFrom 6 4 24 6 4 24 (fun u3 => (V_X4_takeFrom 8 10 80 8 10 80 (fun u4 => K (((va_cpy u.2.1 u.1.1 (0 : Int32).toNatClampNeg (0 : Int32).toNatClampNeg (5 : Int32).toNatClampNeg), (va_cpy u.2.2.1 u.1.2.1 (0 : Int32).toNatClampNeg (0 : Int32).toNatClampNeg (7 : Int32).toNatClampNeg), (va_cpy u.2.2.2.1 u.1.2.2.1 (0 : Int32).toNatClampNeg (0 : Int32).toNatClampNeg (7 : Int32).toNatClampNeg), (va_cpy u.2.2.2.2.1 u.1.2.2.2.1 (0 : Int32).toNatClampNeg (0 : Int32).toNatClampNeg (7 : Int32).toNatClampNeg), u.2.2.2.2.2.1, u.2.2.2.2.2.2.1, u.2.2.2.2.2.2.2.1, u.2.2.2.2.2.2.2.2.1, u1.1, u2.1, u3.1, u4.1), (u.2.1, u.2.2.1, u.2.2.2.1, u.2.2.2.2.1, u.2.2.2.2.2.1, u.2.2.2.2.2.2.1, u.2.2.2.2.2.2.2.1, u.2.2.2.2.2.2.2.2.1, u1.2, u2.2, u3.2, u4.2))) (u.1.2.2.2.2.2.2.2.2.2.2.2, u.2.2.2.2.2.2.2.2.2.2.2.2) )) (u.1.2.2.2.2.2.2.2.2.2.2.1, u.2.2.2.2.2.2.2.2.2.2.2.1) )) (u.1.2.2.2.2.2.2.2.2.2.1, u.2.2.2.2.2.2.2.2.2.2.1) )) (u.1.2.2.2.2.2.2.2.2.1, u.2.2.2.2.2.2.2.2.2.1) )))))
set_option maxRecDepth 20000 in
set_option maxHeartbeats 4000000 in
theorem t_X0_takeFrom_0 {a b : Nat → Nat} {K : HS × HS → Prop} (C : bx_C p (rmD 2) S m args meth c cX0_takeFrom 2 yX0_takeFrom.cls none E A 0 0)   (u : HS × HS)  (hv : V_X0_takeFrom K u ) : G_X0_takeFrom p l e S m args below meth c E A a b  K 0 [(0, .ref (a 0)), (1, .ref (b 0))] [] (w_H E a u.1 ++ w_H E b u.2) := by
  unfold V_X0_takeFrom at hv
  refine bx_aload_n C 1 dX0_takeFrom_0 rfl rfl rfl ?_
  refine bx_getf (v := .ref (b 1)) C 4 13 0 inX0 rfl (by decide) fl_X0_9 dX0_takeFrom_1 rfl rfl rfl ?_
  refine bx_iconst C 0 5 dX0_takeFrom_4 ic_0 rfl ?_
  refine bx_aload_n C 6 dX0_takeFrom_5 rfl rfl rfl ?_
  refine bx_getf (v := .ref (a 1)) C 9 0 0 inX0 rfl (by decide) fl_X0_9 dX0_takeFrom_6 rfl rfl rfl ?_
  refine bx_iconst C 0 10 dX0_takeFrom_9 ic_0 rfl ?_
  refine bx_iconst C 5 11 dX0_takeFrom_10 ic_5 rfl ?_
  refine bx_copyi C 14 14 1 (w_H E a ((va_cpy u.2.1 u.1.1 (0 : Int32).toNatClampNeg (0 : Int32).toNatClampNeg (5 : Int32).toNatClampNeg), u.1.2) ++ w_H E b u.2) fa_X0_59 dX0_takeFrom_11 ⟨Nat.le_of_ble_eq_true rfl, Nat.le_of_ble_eq_true rfl⟩ rfl rfl hv.1 rfl rfl ?_
  replace hv := hv.2
  refine bx_aload_n C 15 dX0_takeFrom_14 rfl rfl rfl ?_
  refine bx_getf (v := .ref (b 2)) C 18 13 1 inX0 rfl (by decide) fl_X0_15 dX0_takeFrom_15 rfl rfl rfl ?_
  refine bx_iconst C 0 19 dX0_takeFrom_18 ic_0 rfl ?_
  refine bx_aload_n C 20 dX0_takeFrom_19 rfl rfl rfl ?_
  refine bx_getf (v := .ref (a 2)) C 23 0 1 inX0 rfl (by decide) fl_X0_15 dX0_takeFrom_20 rfl rfl rfl ?_
  refine bx_iconst C 0 24 dX0_takeFrom_23 ic_0 rfl ?_
  refine bx_bipush C 7 26 dX0_takeFrom_24 bp_7 rfl ?_
  refine bx_copyi C 29 15 2 (w_H E a ((va_cpy u.2.1 u.1.1 (0 : Int32).toNatClampNeg (0 : Int32).toNatClampNeg (5 : Int32).toNatClampNeg), (va_cpy u.2.2.1 u.1.2.1 (0 : Int32).toNatClampNeg (0 : Int32).toNatClampNeg (7 : Int32).toNatClampNeg), u.1.2.2) ++ w_H E b u.2) fa_X0_59 dX0_takeFrom_26 ⟨Nat.le_of_ble_eq_true rfl, Nat.le_of_ble_eq_true rfl⟩ rfl rfl hv.1 rfl rfl ?_
  replace hv := hv.2
  refine bx_aload_n C 30 dX0_takeFrom_29 rfl rfl rfl ?_
  refine bx_getf (v := .ref (b 3)) C 33 13 2 inX0 rfl (by decide) fl_X0_18 dX0_takeFrom_30 rfl rfl rfl ?_
  refine bx_iconst C 0 34 dX0_takeFrom_33 ic_0 rfl ?_
  refine bx_aload_n C 35 dX0_takeFrom_34 rfl rfl rfl ?_
  refine bx_getf (v := .ref (a 3)) C 38 0 2 inX0 rfl (by decide) fl_X0_18 dX0_takeFrom_35 rfl rfl rfl ?_
  refine bx_iconst C 0 39 dX0_takeFrom_38 ic_0 rfl ?_
  refine bx_bipush C 7 41 dX0_takeFrom_39 bp_7 rfl ?_
  refine bx_copyi C 44 16 3 (w_H E a ((va_cpy u.2.1 u.1.1 (0 : Int32).toNatClampNeg (0 : Int32).toNatClampNeg (5 : Int32).toNatClampNeg), (va_cpy u.2.2.1 u.1.2.1 (0 : Int32).toNatClampNeg (0 : Int32).toNatClampNeg (7 : Int32).toNatClampNeg), (va_cpy u.2.2.2.1 u.1.2.2.1 (0 : Int32).toNatClampNeg (0 : Int32).toNatClampNeg (7 : Int32).toNatClampNeg), u.1.2.2.2) ++ w_H E b u.2) fa_X0_59 dX0_takeFrom_41 ⟨Nat.le_of_ble_eq_true rfl, Nat.le_of_ble_eq_true rfl⟩ rfl rfl hv.1 rfl rfl ?_
  replace hv := hv.2
  refine bx_aload_n C 45 dX0_takeFrom_44 rfl rfl rfl ?_
  refine bx_getf (v := .ref (b 4)) C 48 13 3 inX0 rfl (by decide) fl_X0_21 dX0_takeFrom_45 rfl rfl rfl ?_
  refine bx_iconst C 0 49 dX0_takeFrom_48 ic_0 rfl ?_
  refine bx_aload_n C 50 dX0_takeFrom_49 rfl rfl rfl ?_
  refine bx_getf (v := .ref (a 4)) C 53 0 3 inX0 rfl (by decide) fl_X0_21 dX0_takeFrom_50 rfl rfl rfl ?_
  refine bx_iconst C 0 54 dX0_takeFrom_53 ic_0 rfl ?_
  refine bx_bipush C 7 56 dX0_takeFrom_54 bp_7 rfl ?_
  refine bx_copyi C 59 17 4 (w_H E a ((va_cpy u.2.1 u.1.1 (0 : Int32).toNatClampNeg (0 : Int32).toNatClampNeg (5 : Int32).toNatClampNeg), (va_cpy u.2.2.1 u.1.2.1 (0 : Int32).toNatClampNeg (0 : Int32).toNatClampNeg (7 : Int32).toNatClampNeg), (va_cpy u.2.2.2.1 u.1.2.2.1 (0 : Int32).toNatClampNeg (0 : Int32).toNatClampNeg (7 : Int32).toNatClampNeg), (va_cpy u.2.2.2.2.1 u.1.2.2.2.1 (0 : Int32).toNatClampNeg (0 : Int32).toNatClampNeg (7 : Int32).toNatClampNeg), u.1.2.2.2.2) ++ w_H E b u.2) fa_X0_59 dX0_takeFrom_56 ⟨Nat.le_of_ble_eq_true rfl, Nat.le_of_ble_eq_true rfl⟩ rfl rfl hv.1 rfl rfl ?_
  replace hv := hv.2
  refine bx_aload_n C 60 dX0_takeFrom_59 rfl rfl rfl ?_
  refine bx_aload_n C 61 dX0_takeFrom_60 rfl rfl rfl ?_
  refine bx_getf (v := .int u.2.2.2.2.2.1) C 64 13 4 inX0 rfl (by decide) fl_X0_42 dX0_takeFrom_61 rfl rfl rfl ?_
  refine bx_putf C 67 0 4 (w_H E a ((va_cpy u.2.1 u.1.1 (0 : Int32).toNatClampNeg (0 : Int32).toNatClampNeg (5 : Int32).toNatClampNeg), (va_cpy u.2.2.1 u.1.2.1 (0 : Int32).toNatClampNeg (0 : Int32).toNatClampNeg (7 : Int32).toNatClampNeg), (va_cpy u.2.2.2.1 u.1.2.2.1 (0 : Int32).toNatClampNeg (0 : Int32).toNatClampNeg (7 : Int32).toNatClampNeg), (va_cpy u.2.2.2.2.1 u.1.2.2.2.1 (0 : Int32).toNatClampNeg (0 : Int32).toNatClampNeg (7 : Int32).toNatClampNeg), u.2.2.2.2.2.1, u.1.2.2.2.2.2) ++ w_H E b u.2) inX0 tyX0 tyX0_ok nmX0 rfl (by decide) fl_X0_42 rfl dX0_takeFrom_64 rfl rfl rfl (Nat.le_of_ble_eq_true rfl) rfl rfl ?_
  refine bx_aload_n C 68 dX0_takeFrom_67 rfl rfl rfl ?_
  refine bx_aload_n C 69 dX0_takeFrom_68 rfl rfl rfl ?_
  refine bx_getf (v := .int u.2.2.2.2.2.2.1) C 72 13 5 inX0 rfl (by decide) fl_X0_46 dX0_takeFrom_69 rfl rfl rfl ?_
  refine bx_putf C 75 0 5 (w_H E a ((va_cpy u.2.1 u.1.1 (0 : Int32).toNatClampNeg (0 : Int32).toNatClampNeg (5 : Int32).toNatClampNeg), (va_cpy u.2.2.1 u.1.2.1 (0 : Int32).toNatClampNeg (0 : Int32).toNatClampNeg (7 : Int32).toNatClampNeg), (va_cpy u.2.2.2.1 u.1.2.2.1 (0 : Int32).toNatClampNeg (0 : Int32).toNatClampNeg (7 : Int32).toNatClampNeg), (va_cpy u.2.2.2.2.1 u.1.2.2.2.1 (0 : Int32).toNatClampNeg (0 : Int32).toNatClampNeg (7 : Int32).toNatClampNeg), u.2.2.2.2.2.1, u.2.2.2.2.2.2.1, u.1.2.2.2.2.2.2) ++ w_H E b u.2) inX0 tyX0 tyX0_ok nmX0 rfl (by decide) fl_X0_46 rfl dX0_takeFrom_72 rfl rfl rfl (Nat.le_of_ble_eq_true rfl) rfl rfl ?_
  refine bx_aload_n C 76 dX0_takeFrom_75 rfl rfl rfl ?_
  refine bx_aload_n C 77 dX0_takeFrom_76 rfl rfl rfl ?_
  refine bx_getf (v := .int u.2.2.2.2.2.2.2.1) C 80 13 6 inX0 rfl (by decide) fl_X0_49 dX0_takeFrom_77 rfl rfl rfl ?_
  refine bx_putf C 83 0 6 (w_H E a ((va_cpy u.2.1 u.1.1 (0 : Int32).toNatClampNeg (0 : Int32).toNatClampNeg (5 : Int32).toNatClampNeg), (va_cpy u.2.2.1 u.1.2.1 (0 : Int32).toNatClampNeg (0 : Int32).toNatClampNeg (7 : Int32).toNatClampNeg), (va_cpy u.2.2.2.1 u.1.2.2.1 (0 : Int32).toNatClampNeg (0 : Int32).toNatClampNeg (7 : Int32).toNatClampNeg), (va_cpy u.2.2.2.2.1 u.1.2.2.2.1 (0 : Int32).toNatClampNeg (0 : Int32).toNatClampNeg (7 : Int32).toNatClampNeg), u.2.2.2.2.2.1, u.2.2.2.2.2.2.1, u.2.2.2.2.2.2.2.1, u.1.2.2.2.2.2.2.2) ++ w_H E b u.2) inX0 tyX0 tyX0_ok nmX0 rfl (by decide) fl_X0_49 rfl dX0_takeFrom_80 rfl rfl rfl (Nat.le_of_ble_eq_true rfl) rfl rfl ?_
  refine bx_aload_n C 84 dX0_takeFrom_83 rfl rfl rfl ?_
  refine bx_aload_n C 85 dX0_takeFrom_84 rfl rfl rfl ?_
  refine bx_getf (v := .int u.2.2.2.2.2.2.2.2.1) C 88 13 7 inX0 rfl (by decide) fl_X0_52 dX0_takeFrom_85 rfl rfl rfl ?_
  refine bx_putf C 91 0 7 (w_H E a ((va_cpy u.2.1 u.1.1 (0 : Int32).toNatClampNeg (0 : Int32).toNatClampNeg (5 : Int32).toNatClampNeg), (va_cpy u.2.2.1 u.1.2.1 (0 : Int32).toNatClampNeg (0 : Int32).toNatClampNeg (7 : Int32).toNatClampNeg), (va_cpy u.2.2.2.1 u.1.2.2.1 (0 : Int32).toNatClampNeg (0 : Int32).toNatClampNeg (7 : Int32).toNatClampNeg), (va_cpy u.2.2.2.2.1 u.1.2.2.2.1 (0 : Int32).toNatClampNeg (0 : Int32).toNatClampNeg (7 : Int32).toNatClampNeg), u.2.2.2.2.2.1, u.2.2.2.2.2.2.1, u.2.2.2.2.2.2.2.1, u.2.2.2.2.2.2.2.2.1, u.1.2.2.2.2.2.2.2.2) ++ w_H E b u.2) inX0 tyX0 tyX0_ok nmX0 rfl (by decide) fl_X0_52 rfl dX0_takeFrom_88 rfl rfl rfl (Nat.le_of_ble_eq_true rfl) rfl rfl ?_
  refine bx_aload_n C 92 dX0_takeFrom_91 rfl rfl rfl ?_
  refine bx_getf (v := .ref (a 5)) C 95 0 8 inX0 rfl (by decide) fl_X0_29 dX0_takeFrom_92 rfl rfl rfl ?_
  refine bx_aload_n C 96 dX0_takeFrom_95 rfl rfl rfl ?_
  refine bx_getf (v := .ref (b 5)) C 99 13 8 inX0 rfl (by decide) fl_X0_29 dX0_takeFrom_96 rfl rfl rfl ?_
  refine bx_qVv C 5 rfl rfl 102 fc_X0_65 (k_X4_takeFrom l E (fun k => a (5 + k)) (fun k => b (5 + k)) 5 3 15 5 3 15 _ _ hv) dX0_takeFrom_99 ⟨rfl, rfl, Nat.le_of_ble_eq_true rfl, Nat.le_of_ble_eq_true rfl⟩ [5, 6, 18, 19] (fun u1 => w_H E a ((va_cpy u.2.1 u.1.1 (0 : Int32).toNatClampNeg (0 : Int32).toNatClampNeg (5 : Int32).toNatClampNeg), (va_cpy u.2.2.1 u.1.2.1 (0 : Int32).toNatClampNeg (0 : Int32).toNatClampNeg (7 : Int32).toNatClampNeg), (va_cpy u.2.2.2.1 u.1.2.2.1 (0 : Int32).toNatClampNeg (0 : Int32).toNatClampNeg (7 : Int32).toNatClampNeg), (va_cpy u.2.2.2.2.1 u.1.2.2.2.1 (0 : Int32).toNatClampNeg (0 : Int32).toNatClampNeg (7 : Int32).toNatClampNeg), u.2.2.2.2.2.1, u.2.2.2.2.2.2.1, u.2.2.2.2.2.2.2.1, u.2.2.2.2.2.2.2.2.1, u1.1, u.1.2.2.2.2.2.2.2.2.2) ++ w_H E b (u.2.1, u.2.2.1, u.2.2.2.1, u.2.2.2.2.1, u.2.2.2.2.2.1, u.2.2.2.2.2.2.1, u.2.2.2.2.2.2.2.1, u.2.2.2.2.2.2.2.2.1, u1.2, u.2.2.2.2.2.2.2.2.2.2)) ps_HH_TT_5_18 (by decide) ad_TT pu_HH_TT_5_18 rfl rfl (Nat.le_of_ble_eq_true rfl) rfl (fun u1 hv => ?_)
  refine bx_aload_n C 103 dX0_takeFrom_102 rfl rfl rfl ?_
  refine bx_getf (v := .ref (a 7)) C 106 0 9 inX0 rfl (by decide) fl_X0_33 dX0_takeFrom_103 rfl rfl rfl ?_
  refine bx_aload_n C 107 dX0_takeFrom_106 rfl rfl rfl ?_
  refine bx_getf (v := .ref (b 7)) C 110 13 9 inX0 rfl (by decide) fl_X0_33 dX0_takeFrom_107 rfl rfl rfl ?_
  refine bx_qVv C 7 rfl rfl 113 fc_X0_65 (k_X4_takeFrom l E (fun k => a (7 + k)) (fun k => b (7 + k)) 6 3 18 6 3 18 _ _ hv) dX0_takeFrom_110 ⟨rfl, rfl, Nat.le_of_ble_eq_true rfl, Nat.le_of_ble_eq_true rfl⟩ [7, 8, 20, 21] (fun u2 => w_H E a ((va_cpy u.2.1 u.1.1 (0 : Int32).toNatClampNeg (0 : Int32).toNatClampNeg (5 : Int32).toNatClampNeg), (va_cpy u.2.2.1 u.1.2.1 (0 : Int32).toNatClampNeg (0 : Int32).toNatClampNeg (7 : Int32).toNatClampNeg), (va_cpy u.2.2.2.1 u.1.2.2.1 (0 : Int32).toNatClampNeg (0 : Int32).toNatClampNeg (7 : Int32).toNatClampNeg), (va_cpy u.2.2.2.2.1 u.1.2.2.2.1 (0 : Int32).toNatClampNeg (0 : Int32).toNatClampNeg (7 : Int32).toNatClampNeg), u.2.2.2.2.2.1, u.2.2.2.2.2.2.1, u.2.2.2.2.2.2.2.1, u.2.2.2.2.2.2.2.2.1, u1.1, u2.1, u.1.2.2.2.2.2.2.2.2.2.2) ++ w_H E b (u.2.1, u.2.2.1, u.2.2.2.1, u.2.2.2.2.1, u.2.2.2.2.2.1, u.2.2.2.2.2.2.1, u.2.2.2.2.2.2.2.1, u.2.2.2.2.2.2.2.2.1, u1.2, u2.2, u.2.2.2.2.2.2.2.2.2.2.2)) ps_HH_TT_7_20 (by decide) ad_TT pu_HH_TT_7_20 rfl rfl (Nat.le_of_ble_eq_true rfl) rfl (fun u2 hv => ?_)
  refine bx_aload_n C 114 dX0_takeFrom_113 rfl rfl rfl ?_
  refine bx_getf (v := .ref (a 9)) C 117 0 10 inX0 rfl (by decide) fl_X0_36 dX0_takeFrom_114 rfl rfl rfl ?_
  refine bx_aload_n C 118 dX0_takeFrom_117 rfl rfl rfl ?_
  refine bx_getf (v := .ref (b 9)) C 121 13 10 inX0 rfl (by decide) fl_X0_36 dX0_takeFrom_118 rfl rfl rfl ?_
  refine bx_qVv C 9 rfl rfl 124 fc_X0_65 (k_X4_takeFrom l E (fun k => a (9 + k)) (fun k => b (9 + k)) 6 4 24 6 4 24 _ _ hv) dX0_takeFrom_121 ⟨rfl, rfl, Nat.le_of_ble_eq_true rfl, Nat.le_of_ble_eq_true rfl⟩ [9, 10, 22, 23] (fun u3 => w_H E a ((va_cpy u.2.1 u.1.1 (0 : Int32).toNatClampNeg (0 : Int32).toNatClampNeg (5 : Int32).toNatClampNeg), (va_cpy u.2.2.1 u.1.2.1 (0 : Int32).toNatClampNeg (0 : Int32).toNatClampNeg (7 : Int32).toNatClampNeg), (va_cpy u.2.2.2.1 u.1.2.2.1 (0 : Int32).toNatClampNeg (0 : Int32).toNatClampNeg (7 : Int32).toNatClampNeg), (va_cpy u.2.2.2.2.1 u.1.2.2.2.1 (0 : Int32).toNatClampNeg (0 : Int32).toNatClampNeg (7 : Int32).toNatClampNeg), u.2.2.2.2.2.1, u.2.2.2.2.2.2.1, u.2.2.2.2.2.2.2.1, u.2.2.2.2.2.2.2.2.1, u1.1, u2.1, u3.1, u.1.2.2.2.2.2.2.2.2.2.2.2) ++ w_H E b (u.2.1, u.2.2.1, u.2.2.2.1, u.2.2.2.2.1, u.2.2.2.2.2.1, u.2.2.2.2.2.2.1, u.2.2.2.2.2.2.2.1, u.2.2.2.2.2.2.2.2.1, u1.2, u2.2, u3.2, u.2.2.2.2.2.2.2.2.2.2.2.2)) ps_HH_TT_9_22 (by decide) ad_TT pu_HH_TT_9_22 rfl rfl (Nat.le_of_ble_eq_true rfl) rfl (fun u3 hv => ?_)
  refine bx_aload_n C 125 dX0_takeFrom_124 rfl rfl rfl ?_
  refine bx_getf (v := .ref (a 11)) C 128 0 11 inX0 rfl (by decide) fl_X0_39 dX0_takeFrom_125 rfl rfl rfl ?_
  refine bx_aload_n C 129 dX0_takeFrom_128 rfl rfl rfl ?_
  refine bx_getf (v := .ref (b 11)) C 132 13 11 inX0 rfl (by decide) fl_X0_39 dX0_takeFrom_129 rfl rfl rfl ?_
  refine bx_qVv C 11 rfl rfl 135 fc_X0_65 (k_X4_takeFrom l E (fun k => a (11 + k)) (fun k => b (11 + k)) 8 10 80 8 10 80 _ _ hv) dX0_takeFrom_132 ⟨rfl, rfl, Nat.le_of_ble_eq_true rfl, Nat.le_of_ble_eq_true rfl⟩ [11, 12, 24, 25] (fun u4 => w_H E a ((va_cpy u.2.1 u.1.1 (0 : Int32).toNatClampNeg (0 : Int32).toNatClampNeg (5 : Int32).toNatClampNeg), (va_cpy u.2.2.1 u.1.2.1 (0 : Int32).toNatClampNeg (0 : Int32).toNatClampNeg (7 : Int32).toNatClampNeg), (va_cpy u.2.2.2.1 u.1.2.2.1 (0 : Int32).toNatClampNeg (0 : Int32).toNatClampNeg (7 : Int32).toNatClampNeg), (va_cpy u.2.2.2.2.1 u.1.2.2.2.1 (0 : Int32).toNatClampNeg (0 : Int32).toNatClampNeg (7 : Int32).toNatClampNeg), u.2.2.2.2.2.1, u.2.2.2.2.2.2.1, u.2.2.2.2.2.2.2.1, u.2.2.2.2.2.2.2.2.1, u1.1, u2.1, u3.1, u4.1) ++ w_H E b (u.2.1, u.2.2.1, u.2.2.2.1, u.2.2.2.2.1, u.2.2.2.2.2.1, u.2.2.2.2.2.2.1, u.2.2.2.2.2.2.2.1, u.2.2.2.2.2.2.2.2.1, u1.2, u2.2, u3.2, u4.2)) ps_HH_TT_11_24 (by decide) ad_TT pu_HH_TT_11_24 rfl rfl (Nat.le_of_ble_eq_true rfl) rfl (fun u4 hv => ?_)
  exact bx_vret C (((va_cpy u.2.1 u.1.1 (0 : Int32).toNatClampNeg (0 : Int32).toNatClampNeg (5 : Int32).toNatClampNeg), (va_cpy u.2.2.1 u.1.2.1 (0 : Int32).toNatClampNeg (0 : Int32).toNatClampNeg (7 : Int32).toNatClampNeg), (va_cpy u.2.2.2.1 u.1.2.2.1 (0 : Int32).toNatClampNeg (0 : Int32).toNatClampNeg (7 : Int32).toNatClampNeg), (va_cpy u.2.2.2.2.1 u.1.2.2.2.1 (0 : Int32).toNatClampNeg (0 : Int32).toNatClampNeg (7 : Int32).toNatClampNeg), u.2.2.2.2.2.1, u.2.2.2.2.2.2.1, u.2.2.2.2.2.2.2.1, u.2.2.2.2.2.2.2.2.1, u1.1, u2.1, u3.1, u4.1), (u.2.1, u.2.2.1, u.2.2.2.1, u.2.2.2.2.1, u.2.2.2.2.2.1, u.2.2.2.2.2.2.1, u.2.2.2.2.2.2.2.1, u.2.2.2.2.2.2.2.2.1, u1.2, u2.2, u3.2, u4.2)) rfl dX0_takeFrom_135 rfl hv
theorem k_X0_takeFrom (l : Launch) (E : bx_E) (a : Nat → Nat) (b : Nat → Nat)  (K : HS × HS → Prop) (u : HS × HS)  (hv : V_X0_takeFrom  K u ) : bx_Mv l E yX0_takeFrom cX0_takeFrom 2 none (rmD 2) [.ref (a 0), .ref (b 0)] (fun (u : HS × HS) => w_H E a u.1 ++ w_H E b u.2) u K :=
  bx_metv (by decide +kernel) (Nat.le_of_ble_eq_true rfl) (fun p e S m below meth c C => t_X0_takeFrom_0 C u  hv)
abbrev G_X0_addSoul (p : Program) (l : Launch) (e : Env) (S : State) (m : MethodId) (args : Array Value) (below : List Frame) (meth : Method) (c : Code) (E : bx_E) (A : Nat → Prop) (a : Nat → Nat)  (K : Int32 → HS → Prop) (pc : Nat) (lv : List (Nat × Value)) (st : List Value) (ws : va_W) : Prop := bx_S p l e (rmD 0) S m args below meth c 3 E A (MQ below (va_Qi K (fun (u : HS) t => bx_B E A (w_H E a u) t) A) args S 0 0 A) 0 0 pc lv st ws
def V_X0_addSoul  (K : Int32 → HS → Prop)  (u : HS) (x1 : Int32) (x2 : Int32) : Prop := ((u.2.2.2.2.1 < 7 → (vp_in u.2.2.2.2.1 7 ∧ (vp_in u.2.2.2.2.1 7 ∧ (vp_in u.2.2.2.2.1 7 ∧ K ((u.2.2.2.2.1 + 1) - 1) (u.1, (upd u.2.1 (u.2.2.2.2.1 : Int32).toNatClampNeg x1), (upd u.2.2.1 (u.2.2.2.2.1 : Int32).toNatClampNeg x2), (upd u.2.2.2.1 (u.2.2.2.2.1 : Int32).toNatClampNeg (-1)), (u.2.2.2.2.1 + 1), u.2.2.2.2.2))))) ∧
 (¬ u.2.2.2.2.1 < 7 → K (-1) u))
set_option maxRecDepth 20000 in
set_option maxHeartbeats 4000000 in
theorem t_X0_addSoul_0 {a : Nat → Nat} {K : Int32 → HS → Prop} (C : bx_C p (rmD 0) S m args meth c cX0_addSoul 3 yX0_addSoul.cls (some .int) E A 0 0)   (u : HS) (x1 : Int32) (x2 : Int32) (hv : V_X0_addSoul K u x1 x2) : G_X0_addSoul p l e S m args below meth c E A a  K 0 [(0, .ref (a 0)), (1, .int x1), (2, .int x2)] [] (w_H E a u) := by
  unfold V_X0_addSoul at hv
  refine bx_aload_n C 1 dX0_addSoul_0 rfl rfl rfl ?_
  refine bx_getf (v := .int u.2.2.2.2.1) C 4 0 4 inX0 rfl (by decide) fl_X0_42 dX0_addSoul_1 at_H_0 rfl rfl ?_
  refine bx_bipush C 7 6 dX0_addSoul_4 bp_7 rfl ?_
  refine bx_icmp_lt C 11 9 dX0_addSoul_6 (by decide) rfl (fun h => ?_) (fun h => ?_)
  · replace hv := hv.1 h
    refine bx_aload_n C 12 dX0_addSoul_11 rfl rfl rfl ?_
    refine bx_getf (v := .ref (a 2)) C 15 0 1 inX0 rfl (by decide) fl_X0_15 dX0_addSoul_12 at_H_0 rfl rfl ?_
    refine bx_aload_n C 16 dX0_addSoul_15 rfl rfl rfl ?_
    refine bx_getf (v := .int u.2.2.2.2.1) C 19 0 4 inX0 rfl (by decide) fl_X0_42 dX0_addSoul_16 at_H_0 rfl rfl ?_
    refine bx_iload_n C 20 dX0_addSoul_19 rfl rfl rfl ?_
    refine bx_iast C 21 2 (w_H E a (u.1, (upd u.2.1 (u.2.2.2.2.1 : Int32).toNatClampNeg x1), u.2.2)) dX0_addSoul_20 rfl hv.1 rfl rfl ?_
    replace hv := hv.2
    refine bx_aload_n C 22 dX0_addSoul_21 rfl rfl rfl ?_
    refine bx_getf (v := .ref (a 3)) C 25 0 2 inX0 rfl (by decide) fl_X0_18 dX0_addSoul_22 at_H_0 rfl rfl ?_
    refine bx_aload_n C 26 dX0_addSoul_25 rfl rfl rfl ?_
    refine bx_getf (v := .int u.2.2.2.2.1) C 29 0 4 inX0 rfl (by decide) fl_X0_42 dX0_addSoul_26 at_H_0 rfl rfl ?_
    refine bx_iload_n C 30 dX0_addSoul_29 rfl rfl rfl ?_
    refine bx_iast C 31 3 (w_H E a (u.1, (upd u.2.1 (u.2.2.2.2.1 : Int32).toNatClampNeg x1), (upd u.2.2.1 (u.2.2.2.2.1 : Int32).toNatClampNeg x2), u.2.2.2)) dX0_addSoul_30 rfl hv.1 rfl rfl ?_
    replace hv := hv.2
    refine bx_aload_n C 32 dX0_addSoul_31 rfl rfl rfl ?_
    refine bx_getf (v := .ref (a 4)) C 35 0 3 inX0 rfl (by decide) fl_X0_21 dX0_addSoul_32 at_H_0 rfl rfl ?_
    refine bx_aload_n C 36 dX0_addSoul_35 rfl rfl rfl ?_
    refine bx_getf (v := .int u.2.2.2.2.1) C 39 0 4 inX0 rfl (by decide) fl_X0_42 dX0_addSoul_36 at_H_0 rfl rfl ?_
    refine bx_iconst C (-1) 40 dX0_addSoul_39 ic_m1 rfl ?_
    refine bx_iast C 41 4 (w_H E a (u.1, (upd u.2.1 (u.2.2.2.2.1 : Int32).toNatClampNeg x1), (upd u.2.2.1 (u.2.2.2.2.1 : Int32).toNatClampNeg x2), (upd u.2.2.2.1 (u.2.2.2.2.1 : Int32).toNatClampNeg (-1)), u.2.2.2.2)) dX0_addSoul_40 rfl hv.1 rfl rfl ?_
    replace hv := hv.2
    refine bx_aload_n C 42 dX0_addSoul_41 rfl rfl rfl ?_
    refine bx_dup C 43 dX0_addSoul_42 rfl rfl ?_
    refine bx_getf (v := .int u.2.2.2.2.1) C 46 0 4 inX0 rfl (by decide) fl_X0_42 dX0_addSoul_43 at_H_0 rfl rfl ?_
    refine bx_iconst C 1 47 dX0_addSoul_46 ic_1 rfl ?_
    refine bx_iadd C 48 dX0_addSoul_47 rfl ?_
    refine bx_putf C 51 0 4 (w_H E a (u.1, (upd u.2.1 (u.2.2.2.2.1 : Int32).toNatClampNeg x1), (upd u.2.2.1 (u.2.2.2.2.1 : Int32).toNatClampNeg x2), (upd u.2.2.2.1 (u.2.2.2.2.1 : Int32).toNatClampNeg (-1)), (u.2.2.2.2.1 + 1), u.2.2.2.2.2)) inX0 tyX0 tyX0_ok nmX0 rfl (by decide) fl_X0_42 rfl dX0_addSoul_48 rfl rfl rfl (Nat.le_of_ble_eq_true rfl) rfl rfl ?_
    refine bx_aload_n C 52 dX0_addSoul_51 rfl rfl rfl ?_
    refine bx_getf (v := .int (u.2.2.2.2.1 + 1)) C 55 0 4 inX0 rfl (by decide) fl_X0_42 dX0_addSoul_52 at_H_0 rfl rfl ?_
    refine bx_iconst C 1 56 dX0_addSoul_55 ic_1 rfl ?_
    refine bx_isub C 57 dX0_addSoul_56 rfl ?_
    exact bx_iret C (u.1, (upd u.2.1 (u.2.2.2.2.1 : Int32).toNatClampNeg x1), (upd u.2.2.1 (u.2.2.2.2.1 : Int32).toNatClampNeg x2), (upd u.2.2.2.1 (u.2.2.2.2.1 : Int32).toNatClampNeg (-1)), (u.2.2.2.2.1 + 1), u.2.2.2.2.2) rfl dX0_addSoul_57 rfl hv
  · replace hv := hv.2 h
    refine bx_iconst C (-1) 10 dX0_addSoul_9 ic_m1 rfl ?_
    exact bx_iret C u rfl dX0_addSoul_10 rfl hv
theorem k_X0_addSoul (l : Launch) (E : bx_E) (a : Nat → Nat)  (K : Int32 → HS → Prop) (u : HS) (x1 : Int32) (x2 : Int32) (hv : V_X0_addSoul  K u x1 x2) : bx_Mi l E yX0_addSoul cX0_addSoul 3 (some .int) (rmD 0) [.ref (a 0), .int x1, .int x2] (fun (u : HS) => w_H E a u) u K :=
  bx_meti (by decide +kernel) (Nat.le_of_ble_eq_true rfl) (fun p e S m below meth c C => t_X0_addSoul_0 C u x1 x2 hv)
abbrev G_X0_isSoul (p : Program) (l : Launch) (e : Env) (S : State) (m : MethodId) (args : Array Value) (below : List Frame) (meth : Method) (c : Code) (E : bx_E) (A : Nat → Prop) (a : Nat → Nat)  (u : HS) (K : Int32 → Prop) (pc : Nat) (lv : List (Nat × Value)) (st : List Value) (ws : va_W) : Prop := bx_S p l e (rmD 1) S m args below meth c 2 E A (MQ below (va_Qi (fun r (_ : Unit) => K r) (fun (_ : Unit) t => bx_B E A (w_H E a u) t) A) args S 0 0 A) 0 0 pc lv st ws
def V_X0_isSoul  (K : Int32 → Prop)  (u : HS) (x1 : Int32) : Prop := (V_X7_within (fun r1 => ((r1 = 0 ∨ r1 = 1) ∧ K r1))  x1 u.2.2.2.2.1)
set_option maxRecDepth 20000 in
set_option maxHeartbeats 4000000 in
theorem t_X0_isSoul_0 {a : Nat → Nat} {K : Int32 → Prop} (C : bx_C p (rmD 1) S m args meth c cX0_isSoul 2 yX0_isSoul.cls (some .boolean) E A 0 0) (u : HS)   (x1 : Int32) (hv : V_X0_isSoul K u x1) : G_X0_isSoul p l e S m args below meth c E A a  u K 0 [(0, .ref (a 0)), (1, .int x1)] [] (w_H E a u) := by
  unfold V_X0_isSoul at hv
  refine bx_iload_n C 1 dX0_isSoul_0 rfl rfl rfl ?_
  refine bx_aload_n C 2 dX0_isSoul_1 rfl rfl rfl ?_
  refine bx_getf (v := .int u.2.2.2.2.1) C 5 0 4 inX0 rfl (by decide) fl_X0_42 dX0_isSoul_2 at_H_0 rfl rfl ?_
  refine bx_pSNi C 8 fc_X0_69 (k_X7_within l E  _ _ _ hv) dX0_isSoul_5 ⟨rfl, rfl, Nat.le_of_ble_eq_true rfl, Nat.le_of_ble_eq_true rfl⟩ [] rfl (by decide) rfl rfl (Nat.le_of_ble_eq_true rfl) rfl (fun r1 hv => ?_)
  exact bx_zret C () rfl dX0_isSoul_8 rfl hv.1 hv.2
theorem k_X0_isSoul (l : Launch) (E : bx_E) (a : Nat → Nat)  (K : Int32 → Prop) (u : HS) (x1 : Int32) (hv : V_X0_isSoul  K u x1) : bx_Mi l E yX0_isSoul cX0_isSoul 2 (some .boolean) (rmD 1) [.ref (a 0), .int x1] (fun (_ : Unit) => w_H E a u) () (fun r (_ : Unit) => K r) :=
  bx_meti (by decide +kernel) (Nat.le_of_ble_eq_true rfl) (fun p e S m below meth c C => t_X0_isSoul_0 C u x1 hv)
abbrev G_X0_sits (p : Program) (l : Launch) (e : Env) (S : State) (m : MethodId) (args : Array Value) (below : List Frame) (meth : Method) (c : Code) (E : bx_E) (A : Nat → Prop) (a : Nat → Nat)  (u : HS) (K : Int32 → Prop) (pc : Nat) (lv : List (Nat × Value)) (st : List Value) (ws : va_W) : Prop := bx_S p l e (rmD 0) S m args below meth c 2 E A (MQ below (va_Qi (fun r (_ : Unit) => K r) (fun (_ : Unit) t => bx_B E A (w_H E a u) t) A) args S 0 0 A) 0 0 pc lv st ws
def V_X0_sits  (K : Int32 → Prop)  (u : HS) (x1 : Int32) : Prop := (vp_in x1 7 ∧ (((u.2.2.2.1 (x1 : Int32).toNatClampNeg) = (-1) → K 0) ∧
 (¬ (u.2.2.2.1 (x1 : Int32).toNatClampNeg) = (-1) → K 1)))
set_option maxRecDepth 20000 in
set_option maxHeartbeats 4000000 in
theorem t_X0_sits_0 {a : Nat → Nat} {K : Int32 → Prop} (C : bx_C p (rmD 0) S m args meth c cX0_sits 2 yX0_sits.cls (some .boolean) E A 0 0) (u : HS)   (x1 : Int32) (hv : V_X0_sits K u x1) : G_X0_sits p l e S m args below meth c E A a  u K 0 [(0, .ref (a 0)), (1, .int x1)] [] (w_H E a u) := by
  unfold V_X0_sits at hv
  refine bx_aload_n C 1 dX0_sits_0 rfl rfl rfl ?_
  refine bx_getf (v := .ref (a 4)) C 4 0 3 inX0 rfl (by decide) fl_X0_21 dX0_sits_1 at_H_0 rfl rfl ?_
  refine bx_iload_n C 5 dX0_sits_4 rfl rfl rfl ?_
  refine bx_iald (f := u.2.2.2.1) C 6 4 dX0_sits_5 at_H_4 hv.1 rfl ?_
  replace hv := hv.2
  refine bx_iconst C (-1) 7 dX0_sits_6 ic_m1 rfl ?_
  refine bx_icmp_eq C 14 10 dX0_sits_7 (by decide) rfl (fun h => ?_) (fun h => ?_)
  · replace hv := hv.1 h
    refine bx_iconst C 0 15 dX0_sits_14 ic_0 rfl ?_
    exact bx_zret C () rfl dX0_sits_15 rfl (Or.inl rfl) hv
  · replace hv := hv.2 h
    refine bx_iconst C 1 11 dX0_sits_10 ic_1 rfl ?_
    refine bx_goto C 15 dX0_sits_11 (by decide) ?_
    exact bx_zret C () rfl dX0_sits_15 rfl (Or.inr rfl) hv
theorem k_X0_sits (l : Launch) (E : bx_E) (a : Nat → Nat)  (K : Int32 → Prop) (u : HS) (x1 : Int32) (hv : V_X0_sits  K u x1) : bx_Mi l E yX0_sits cX0_sits 2 (some .boolean) (rmD 0) [.ref (a 0), .int x1] (fun (_ : Unit) => w_H E a u) () (fun r (_ : Unit) => K r) :=
  bx_meti (by decide +kernel) (Nat.le_of_ble_eq_true rfl) (fun p e S m below meth c C => t_X0_sits_0 C u x1 hv)
abbrev G_X0_howManySit (p : Program) (l : Launch) (e : Env) (S : State) (m : MethodId) (args : Array Value) (below : List Frame) (meth : Method) (c : Code) (E : bx_E) (A : Nat → Prop) (a : Nat → Nat)  (u : HS) (K : Int32 → Prop) (pc : Nat) (lv : List (Nat × Value)) (st : List Value) (ws : va_W) : Prop := bx_S p l e (rmD 1) S m args below meth c 3 E A (MQ below (va_Qi (fun r (_ : Unit) => K r) (fun (_ : Unit) t => bx_B E A (w_H E a u) t) A) args S 0 0 A) 0 0 pc lv st ws
def V_X0_howManySit_4  (K : Int32 → Prop)  : Nat → HS → Int32 → Int32 → Prop
  | 0, _, _, _ => False
  | n + 1, u, x1, x2 => ((u.2.2.2.2.1 ≤ x2 → K x1) ∧
 (¬ u.2.2.2.2.1 ≤ x2 → (V_X0_sits (fun r1 => ((r1 = 0 → V_X0_howManySit_4 K n u x1 (x2 + 1)) ∧
 (¬ r1 = 0 → V_X0_howManySit_4 K n u (x1 + 1) (x2 + 1)))) u x2)))
set_option maxRecDepth 20000 in
set_option maxHeartbeats 4000000 in
theorem t_X0_howManySit_4 {a : Nat → Nat} {K : Int32 → Prop} (C : bx_C p (rmD 1) S m args meth c cX0_howManySit 3 yX0_howManySit.cls (some .int) E A 0 0) (u : HS)  : ∀ (n : Nat)  (x1 : Int32) (x2 : Int32), V_X0_howManySit_4 K n u x1 x2 → G_X0_howManySit p l e S m args below meth c E A a  u K 4 [(0, .ref (a 0)), (1, .int x1), (2, .int x2)] [] (w_H E a u) := by
  intro n
  induction n with
  | zero =>
    intro x1 x2 hv
    exact False.elim hv
  | succ n ih =>
    intro x1 x2 hv
    unfold V_X0_howManySit_4 at hv
    refine bx_iload_n C 5 dX0_howManySit_4 rfl rfl rfl ?_
    refine bx_aload_n C 6 dX0_howManySit_5 rfl rfl rfl ?_
    refine bx_getf (v := .int u.2.2.2.2.1) C 9 0 4 inX0 rfl (by decide) fl_X0_42 dX0_howManySit_6 at_H_0 rfl rfl ?_
    refine bx_icmp_ge C 29 12 dX0_howManySit_9 (by decide) rfl (fun h => ?_) (fun h => ?_)
    · replace hv := hv.1 h
      refine bx_iload_n C 30 dX0_howManySit_29 rfl rfl rfl ?_
      exact bx_iret C () rfl dX0_howManySit_30 rfl hv
    · replace hv := hv.2 h
      refine bx_aload_n C 13 dX0_howManySit_12 rfl rfl rfl ?_
      refine bx_iload_n C 14 dX0_howManySit_13 rfl rfl rfl ?_
      refine bx_pVi C 0 at_H_0 rfl 17 fc_X0_73 (k_X0_sits l E a _ _ _ hv) dX0_howManySit_14 ⟨rfl, rfl, Nat.le_of_ble_eq_true rfl, Nat.le_of_ble_eq_true rfl⟩ [0, 1, 2, 3, 4, 5, 6, 7, 8, 9, 10, 11, 12] ps_H_H_0 (by decide) rfl rfl (Nat.le_of_ble_eq_true rfl) rfl (fun r1 hv => ?_)
      refine bx_if_eq C 23 20 dX0_howManySit_17 (by decide) rfl (fun h => ?_) (fun h => ?_)
      · replace hv := hv.1 h
        refine bx_iinc C 1 26 dX0_howManySit_23 rfl (by decide) ic_1 rfl ?_
        refine bx_goto C 4 dX0_howManySit_26 (by decide) ?_
        exact bx_cut [1, 2, 0] (w_H E a u) rfl rfl (ih  x1 (x2 + 1) hv)
      · replace hv := hv.2 h
        refine bx_iinc C 1 23 dX0_howManySit_20 rfl (by decide) ic_1 rfl ?_
        refine bx_iinc C 1 26 dX0_howManySit_23 rfl (by decide) ic_1 rfl ?_
        refine bx_goto C 4 dX0_howManySit_26 (by decide) ?_
        exact bx_cut [2, 1, 0] (w_H E a u) rfl rfl (ih  (x1 + 1) (x2 + 1) hv)
def V_X0_howManySit  (K : Int32 → Prop)  (u : HS)  : Prop := ∃ n2, V_X0_howManySit_4 K n2 u 0 0
set_option maxRecDepth 20000 in
set_option maxHeartbeats 4000000 in
theorem t_X0_howManySit_0 {a : Nat → Nat} {K : Int32 → Prop} (C : bx_C p (rmD 1) S m args meth c cX0_howManySit 3 yX0_howManySit.cls (some .int) E A 0 0) (u : HS)    (hv : V_X0_howManySit K u ) : G_X0_howManySit p l e S m args below meth c E A a  u K 0 [(0, .ref (a 0))] [] (w_H E a u) := by
  unfold V_X0_howManySit at hv
  refine bx_iconst C 0 1 dX0_howManySit_0 ic_0 rfl ?_
  refine bx_istore_n C 2 dX0_howManySit_1 rfl (by decide) rfl ?_
  refine bx_iconst C 0 3 dX0_howManySit_2 ic_0 rfl ?_
  refine bx_istore_n C 4 dX0_howManySit_3 rfl (by decide) rfl ?_
  obtain ⟨n2, hv⟩ := hv
  exact bx_cut [2, 1, 0] (w_H E a u) rfl rfl (t_X0_howManySit_4 C u  n2  0 0 hv)
theorem k_X0_howManySit (l : Launch) (E : bx_E) (a : Nat → Nat)  (K : Int32 → Prop) (u : HS)  (hv : V_X0_howManySit  K u ) : bx_Mi l E yX0_howManySit cX0_howManySit 3 (some .int) (rmD 1) [.ref (a 0)] (fun (_ : Unit) => w_H E a u) () (fun r (_ : Unit) => K r) :=
  bx_meti (by decide +kernel) (Nat.le_of_ble_eq_true rfl) (fun p e S m below meth c C => t_X0_howManySit_0 C u  hv)
abbrev G_X0_sitterAt (p : Program) (l : Launch) (e : Env) (S : State) (m : MethodId) (args : Array Value) (below : List Frame) (meth : Method) (c : Code) (E : bx_E) (A : Nat → Prop) (a : Nat → Nat)  (u : HS) (K : Int32 → Prop) (pc : Nat) (lv : List (Nat × Value)) (st : List Value) (ws : va_W) : Prop := bx_S p l e (rmD 0) S m args below meth c 3 E A (MQ below (va_Qi (fun r (_ : Unit) => K r) (fun (_ : Unit) t => bx_B E A (w_H E a u) t) A) args S 0 0 A) 0 0 pc lv st ws
def V_X0_sitterAt_2  (K : Int32 → Prop)  : Nat → HS → Int32 → Int32 → Prop
  | 0, _, _, _ => False
  | n + 1, u, x1, x2 => ((u.2.2.2.2.1 ≤ x2 → K (-1)) ∧
 (¬ u.2.2.2.2.1 ≤ x2 → (vp_in x2 7 ∧ ((¬ (u.2.2.2.1 (x2 : Int32).toNatClampNeg) = x1 → V_X0_sitterAt_2 K n u x1 (x2 + 1)) ∧
 ((u.2.2.2.1 (x2 : Int32).toNatClampNeg) = x1 → K x2)))))
set_option maxRecDepth 20000 in
set_option maxHeartbeats 4000000 in
theorem t_X0_sitterAt_2 {a : Nat → Nat} {K : Int32 → Prop} (C : bx_C p (rmD 0) S m args meth c cX0_sitterAt 3 yX0_sitterAt.cls (some .int) E A 0 0) (u : HS)  : ∀ (n : Nat)  (x1 : Int32) (x2 : Int32), V_X0_sitterAt_2 K n u x1 x2 → G_X0_sitterAt p l e S m args below meth c E A a  u K 2 [(0, .ref (a 0)), (1, .int x1), (2, .int x2)] [] (w_H E a u) := by
  intro n
  induction n with
  | zero =>
    intro x1 x2 hv
    exact False.elim hv
  | succ n ih =>
    intro x1 x2 hv
    unfold V_X0_sitterAt_2 at hv
    refine bx_iload_n C 3 dX0_sitterAt_2 rfl rfl rfl ?_
    refine bx_aload_n C 4 dX0_sitterAt_3 rfl rfl rfl ?_
    refine bx_getf (v := .int u.2.2.2.2.1) C 7 0 4 inX0 rfl (by decide) fl_X0_42 dX0_sitterAt_4 at_H_0 rfl rfl ?_
    refine bx_icmp_ge C 28 10 dX0_sitterAt_7 (by decide) rfl (fun h => ?_) (fun h => ?_)
    · replace hv := hv.1 h
      refine bx_iconst C (-1) 29 dX0_sitterAt_28 ic_m1 rfl ?_
      exact bx_iret C () rfl dX0_sitterAt_29 rfl hv
    · replace hv := hv.2 h
      refine bx_aload_n C 11 dX0_sitterAt_10 rfl rfl rfl ?_
      refine bx_getf (v := .ref (a 4)) C 14 0 3 inX0 rfl (by decide) fl_X0_21 dX0_sitterAt_11 at_H_0 rfl rfl ?_
      refine bx_iload_n C 15 dX0_sitterAt_14 rfl rfl rfl ?_
      refine bx_iald (f := u.2.2.2.1) C 16 4 dX0_sitterAt_15 at_H_4 hv.1 rfl ?_
      replace hv := hv.2
      refine bx_iload_n C 17 dX0_sitterAt_16 rfl rfl rfl ?_
      refine bx_icmp_ne C 22 20 dX0_sitterAt_17 (by decide) rfl (fun h => ?_) (fun h => ?_)
      · replace hv := hv.1 h
        refine bx_iinc C 1 25 dX0_sitterAt_22 rfl (by decide) ic_1 rfl ?_
        refine bx_goto C 2 dX0_sitterAt_25 (by decide) ?_
        exact bx_cut [1, 2, 0] (w_H E a u) rfl rfl (ih  x1 (x2 + 1) hv)
      · replace hv := hv.2 h
        refine bx_iload_n C 21 dX0_sitterAt_20 rfl rfl rfl ?_
        exact bx_iret C () rfl dX0_sitterAt_21 rfl hv
def V_X0_sitterAt  (K : Int32 → Prop)  (u : HS) (x1 : Int32) : Prop := ∃ n1, V_X0_sitterAt_2 K n1 u x1 0
set_option maxRecDepth 20000 in
set_option maxHeartbeats 4000000 in
theorem t_X0_sitterAt_0 {a : Nat → Nat} {K : Int32 → Prop} (C : bx_C p (rmD 0) S m args meth c cX0_sitterAt 3 yX0_sitterAt.cls (some .int) E A 0 0) (u : HS)   (x1 : Int32) (hv : V_X0_sitterAt K u x1) : G_X0_sitterAt p l e S m args below meth c E A a  u K 0 [(0, .ref (a 0)), (1, .int x1)] [] (w_H E a u) := by
  unfold V_X0_sitterAt at hv
  refine bx_iconst C 0 1 dX0_sitterAt_0 ic_0 rfl ?_
  refine bx_istore_n C 2 dX0_sitterAt_1 rfl (by decide) rfl ?_
  obtain ⟨n1, hv⟩ := hv
  exact bx_cut [1, 2, 0] (w_H E a u) rfl rfl (t_X0_sitterAt_2 C u  n1  x1 0 hv)
theorem k_X0_sitterAt (l : Launch) (E : bx_E) (a : Nat → Nat)  (K : Int32 → Prop) (u : HS) (x1 : Int32) (hv : V_X0_sitterAt  K u x1) : bx_Mi l E yX0_sitterAt cX0_sitterAt 3 (some .int) (rmD 0) [.ref (a 0), .int x1] (fun (_ : Unit) => w_H E a u) () (fun r (_ : Unit) => K r) :=
  bx_meti (by decide +kernel) (Nat.le_of_ble_eq_true rfl) (fun p e S m below meth c C => t_X0_sitterAt_0 C u x1 hv)
abbrev G_X0_hasCoat (p : Program) (l : Launch) (e : Env) (S : State) (m : MethodId) (args : Array Value) (below : List Frame) (meth : Method) (c : Code) (E : bx_E) (A : Nat → Prop) (a : Nat → Nat)  (u : HS) (K : Int32 → Prop) (pc : Nat) (lv : List (Nat × Value)) (st : List Value) (ws : va_W) : Prop := bx_S p l e (rmD 1) S m args below meth c 2 E A (MQ below (va_Qi (fun r (_ : Unit) => K r) (fun (_ : Unit) t => bx_B E A (w_H E a u) t) A) args S 0 0 A) 0 0 pc lv st ws
def V_X0_hasCoat  (K : Int32 → Prop)  (u : HS) (x1 : Int32) : Prop := (V_X7_has (fun r1 => ((r1 = 0 ∨ r1 = 1) ∧ K r1))  u.2.2.2.2.2.1 x1)
set_option maxRecDepth 20000 in
set_option maxHeartbeats 4000000 in
theorem t_X0_hasCoat_0 {a : Nat → Nat} {K : Int32 → Prop} (C : bx_C p (rmD 1) S m args meth c cX0_hasCoat 2 yX0_hasCoat.cls (some .boolean) E A 0 0) (u : HS)   (x1 : Int32) (hv : V_X0_hasCoat K u x1) : G_X0_hasCoat p l e S m args below meth c E A a  u K 0 [(0, .ref (a 0)), (1, .int x1)] [] (w_H E a u) := by
  unfold V_X0_hasCoat at hv
  refine bx_aload_n C 1 dX0_hasCoat_0 rfl rfl rfl ?_
  refine bx_getf (v := .int u.2.2.2.2.2.1) C 4 0 5 inX0 rfl (by decide) fl_X0_46 dX0_hasCoat_1 at_H_0 rfl rfl ?_
  refine bx_iload_n C 5 dX0_hasCoat_4 rfl rfl rfl ?_
  refine bx_pSNi C 8 fc_X0_77 (k_X7_has l E  _ _ _ hv) dX0_hasCoat_5 ⟨rfl, rfl, Nat.le_of_ble_eq_true rfl, Nat.le_of_ble_eq_true rfl⟩ [] rfl (by decide) rfl rfl (Nat.le_of_ble_eq_true rfl) rfl (fun r1 hv => ?_)
  exact bx_zret C () rfl dX0_hasCoat_8 rfl hv.1 hv.2
theorem k_X0_hasCoat (l : Launch) (E : bx_E) (a : Nat → Nat)  (K : Int32 → Prop) (u : HS) (x1 : Int32) (hv : V_X0_hasCoat  K u x1) : bx_Mi l E yX0_hasCoat cX0_hasCoat 2 (some .boolean) (rmD 1) [.ref (a 0), .int x1] (fun (_ : Unit) => w_H E a u) () (fun r (_ : Unit) => K r) :=
  bx_meti (by decide +kernel) (Nat.le_of_ble_eq_true rfl) (fun p e S m below meth c C => t_X0_hasCoat_0 C u x1 hv)
abbrev G_X0_isFree (p : Program) (l : Launch) (e : Env) (S : State) (m : MethodId) (args : Array Value) (below : List Frame) (meth : Method) (c : Code) (E : bx_E) (A : Nat → Prop) (a : Nat → Nat)  (u : HS) (K : Int32 → Prop) (pc : Nat) (lv : List (Nat × Value)) (st : List Value) (ws : va_W) : Prop := bx_S p l e (rmD 2) S m args below meth c 2 E A (MQ below (va_Qi (fun r (_ : Unit) => K r) (fun (_ : Unit) t => bx_B E A (w_H E a u) t) A) args S 0 0 A) 0 0 pc lv st ws
def V_X0_isFree  (K : Int32 → Prop)  (u : HS) (x1 : Int32) : Prop := (V_X0_sitterAt (fun r1 => ((¬ r1 = (-1) → K 0) ∧
 (r1 = (-1) → (V_X0_hasCoat (fun r2 => ((¬ r2 = 0 → K 0) ∧
 (r2 = 0 → K 1))) u x1)))) u x1)
set_option maxRecDepth 20000 in
set_option maxHeartbeats 4000000 in
theorem t_X0_isFree_0 {a : Nat → Nat} {K : Int32 → Prop} (C : bx_C p (rmD 2) S m args meth c cX0_isFree 2 yX0_isFree.cls (some .boolean) E A 0 0) (u : HS)   (x1 : Int32) (hv : V_X0_isFree K u x1) : G_X0_isFree p l e S m args below meth c E A a  u K 0 [(0, .ref (a 0)), (1, .int x1)] [] (w_H E a u) := by
  unfold V_X0_isFree at hv
  refine bx_aload_n C 1 dX0_isFree_0 rfl rfl rfl ?_
  refine bx_iload_n C 2 dX0_isFree_1 rfl rfl rfl ?_
  refine bx_pVi C 0 at_H_0 rfl 5 fc_X0_80 (k_X0_sitterAt l E a _ _ _ hv) dX0_isFree_2 ⟨rfl, rfl, Nat.le_of_ble_eq_true rfl, Nat.le_of_ble_eq_true rfl⟩ [0, 1, 2, 3, 4, 5, 6, 7, 8, 9, 10, 11, 12] ps_H_H_0 (by decide) rfl rfl (Nat.le_of_ble_eq_true rfl) rfl (fun r1 hv => ?_)
  refine bx_iconst C (-1) 6 dX0_isFree_5 ic_m1 rfl ?_
  refine bx_icmp_ne C 21 9 dX0_isFree_6 (by decide) rfl (fun h => ?_) (fun h => ?_)
  · replace hv := hv.1 h
    refine bx_iconst C 0 22 dX0_isFree_21 ic_0 rfl ?_
    exact bx_zret C () rfl dX0_isFree_22 rfl (Or.inl rfl) hv
  · replace hv := hv.2 h
    refine bx_aload_n C 10 dX0_isFree_9 rfl rfl rfl ?_
    refine bx_iload_n C 11 dX0_isFree_10 rfl rfl rfl ?_
    refine bx_pVi C 0 at_H_0 rfl 14 fc_X0_84 (k_X0_hasCoat l E a _ _ _ hv) dX0_isFree_11 ⟨rfl, rfl, Nat.le_of_ble_eq_true rfl, Nat.le_of_ble_eq_true rfl⟩ [0, 1, 2, 3, 4, 5, 6, 7, 8, 9, 10, 11, 12] ps_H_H_0 (by decide) rfl rfl (Nat.le_of_ble_eq_true rfl) rfl (fun r2 hv => ?_)
    refine bx_if_ne C 21 17 dX0_isFree_14 (by decide) rfl (fun h => ?_) (fun h => ?_)
    · replace hv := hv.1 h
      refine bx_iconst C 0 22 dX0_isFree_21 ic_0 rfl ?_
      exact bx_zret C () rfl dX0_isFree_22 rfl (Or.inl rfl) hv
    · replace hv := hv.2 h
      refine bx_iconst C 1 18 dX0_isFree_17 ic_1 rfl ?_
      refine bx_goto C 22 dX0_isFree_18 (by decide) ?_
      exact bx_zret C () rfl dX0_isFree_22 rfl (Or.inr rfl) hv
theorem k_X0_isFree (l : Launch) (E : bx_E) (a : Nat → Nat)  (K : Int32 → Prop) (u : HS) (x1 : Int32) (hv : V_X0_isFree  K u x1) : bx_Mi l E yX0_isFree cX0_isFree 2 (some .boolean) (rmD 2) [.ref (a 0), .int x1] (fun (_ : Unit) => w_H E a u) () (fun r (_ : Unit) => K r) :=
  bx_meti (by decide +kernel) (Nat.le_of_ble_eq_true rfl) (fun p e S m below meth c C => t_X0_isFree_0 C u x1 hv)
abbrev G_X0_kneesTo (p : Program) (l : Launch) (e : Env) (S : State) (m : MethodId) (args : Array Value) (below : List Frame) (meth : Method) (c : Code) (E : bx_E) (A : Nat → Prop) (a : Nat → Nat)  (u : HS) (K : Int32 → Prop) (pc : Nat) (lv : List (Nat × Value)) (st : List Value) (ws : va_W) : Prop := bx_S p l e (rmD 0) S m args below meth c 5 E A (MQ below (va_Qi (fun r (_ : Unit) => K r) (fun (_ : Unit) t => bx_B E A (w_H E a u) t) A) args S 0 0 A) 0 0 pc lv st ws
def V_X0_kneesTo_12  (K : Int32 → Prop)  : Nat → HS → Int32 → Int32 → Int32 → Int32 → Prop
  | 0, _, _, _, _, _ => False
  | n + 1, u, x1, x2, x3, x4 => ((u.2.2.2.2.1 ≤ x4 → K x3) ∧
 (¬ u.2.2.2.2.1 ≤ x4 → (vp_in x4 7 ∧ (((u.2.2.2.1 (x4 : Int32).toNatClampNeg) < x2 → V_X0_kneesTo_12 K n u x1 x2 x3 (x4 + 1)) ∧
 (¬ (u.2.2.2.1 (x4 : Int32).toNatClampNeg) < x2 → (vp_in x4 7 ∧ ((x1 ≤ (u.2.2.2.1 (x4 : Int32).toNatClampNeg) → V_X0_kneesTo_12 K n u x1 x2 x3 (x4 + 1)) ∧
 (¬ x1 ≤ (u.2.2.2.1 (x4 : Int32).toNatClampNeg) → V_X0_kneesTo_12 K n u x1 x2 (x3 + 1) (x4 + 1)))))))))
set_option maxRecDepth 20000 in
set_option maxHeartbeats 4000000 in
theorem t_X0_kneesTo_12 {a : Nat → Nat} {K : Int32 → Prop} (C : bx_C p (rmD 0) S m args meth c cX0_kneesTo 5 yX0_kneesTo.cls (some .int) E A 0 0) (u : HS)  : ∀ (n : Nat)  (x1 : Int32) (x2 : Int32) (x3 : Int32) (x4 : Int32), V_X0_kneesTo_12 K n u x1 x2 x3 x4 → G_X0_kneesTo p l e S m args below meth c E A a  u K 12 [(0, .ref (a 0)), (1, .int x1), (2, .int x2), (3, .int x3), (4, .int x4)] [] (w_H E a u) := by
  intro n
  induction n with
  | zero =>
    intro x1 x2 x3 x4 hv
    exact False.elim hv
  | succ n ih =>
    intro x1 x2 x3 x4 hv
    unfold V_X0_kneesTo_12 at hv
    refine bx_iload C 14 dX0_kneesTo_12 rfl rfl ?_
    refine bx_aload_n C 15 dX0_kneesTo_14 rfl rfl rfl ?_
    refine bx_getf (v := .int u.2.2.2.2.1) C 18 0 4 inX0 rfl (by decide) fl_X0_42 dX0_kneesTo_15 at_H_0 rfl rfl ?_
    refine bx_icmp_ge C 52 21 dX0_kneesTo_18 (by decide) rfl (fun h => ?_) (fun h => ?_)
    · replace hv := hv.1 h
      refine bx_iload_n C 53 dX0_kneesTo_52 rfl rfl rfl ?_
      exact bx_iret C () rfl dX0_kneesTo_53 rfl hv
    · replace hv := hv.2 h
      refine bx_aload_n C 22 dX0_kneesTo_21 rfl rfl rfl ?_
      refine bx_getf (v := .ref (a 4)) C 25 0 3 inX0 rfl (by decide) fl_X0_21 dX0_kneesTo_22 at_H_0 rfl rfl ?_
      refine bx_iload C 27 dX0_kneesTo_25 rfl rfl ?_
      refine bx_iald (f := u.2.2.2.1) C 28 4 dX0_kneesTo_27 at_H_4 hv.1 rfl ?_
      replace hv := hv.2
      refine bx_iload_n C 29 dX0_kneesTo_28 rfl rfl rfl ?_
      refine bx_icmp_lt C 46 32 dX0_kneesTo_29 (by decide) rfl (fun h => ?_) (fun h => ?_)
      · replace hv := hv.1 h
        refine bx_iinc C 1 49 dX0_kneesTo_46 rfl (by decide) ic_1 rfl ?_
        refine bx_goto C 12 dX0_kneesTo_49 (by decide) ?_
        exact bx_cut [1, 2, 3, 4, 0] (w_H E a u) rfl rfl (ih  x1 x2 x3 (x4 + 1) hv)
      · replace hv := hv.2 h
        refine bx_aload_n C 33 dX0_kneesTo_32 rfl rfl rfl ?_
        refine bx_getf (v := .ref (a 4)) C 36 0 3 inX0 rfl (by decide) fl_X0_21 dX0_kneesTo_33 at_H_0 rfl rfl ?_
        refine bx_iload C 38 dX0_kneesTo_36 rfl rfl ?_
        refine bx_iald (f := u.2.2.2.1) C 39 4 dX0_kneesTo_38 at_H_4 hv.1 rfl ?_
        replace hv := hv.2
        refine bx_iload_n C 40 dX0_kneesTo_39 rfl rfl rfl ?_
        refine bx_icmp_ge C 46 43 dX0_kneesTo_40 (by decide) rfl (fun h => ?_) (fun h => ?_)
        · replace hv := hv.1 h
          refine bx_iinc C 1 49 dX0_kneesTo_46 rfl (by decide) ic_1 rfl ?_
          refine bx_goto C 12 dX0_kneesTo_49 (by decide) ?_
          exact bx_cut [1, 2, 3, 4, 0] (w_H E a u) rfl rfl (ih  x1 x2 x3 (x4 + 1) hv)
        · replace hv := hv.2 h
          refine bx_iinc C 1 46 dX0_kneesTo_43 rfl (by decide) ic_1 rfl ?_
          refine bx_iinc C 1 49 dX0_kneesTo_46 rfl (by decide) ic_1 rfl ?_
          refine bx_goto C 12 dX0_kneesTo_49 (by decide) ?_
          exact bx_cut [2, 3, 4, 1, 0] (w_H E a u) rfl rfl (ih  x1 x2 (x3 + 1) (x4 + 1) hv)
def V_X0_kneesTo  (K : Int32 → Prop)  (u : HS) (x1 : Int32) : Prop := ∃ n1, V_X0_kneesTo_12 K n1 u x1 (x1 - (x1 - x1 / 6 * 6)) 0 0
set_option maxRecDepth 20000 in
set_option maxHeartbeats 4000000 in
theorem t_X0_kneesTo_0 {a : Nat → Nat} {K : Int32 → Prop} (C : bx_C p (rmD 0) S m args meth c cX0_kneesTo 5 yX0_kneesTo.cls (some .int) E A 0 0) (u : HS)   (x1 : Int32) (hv : V_X0_kneesTo K u x1) : G_X0_kneesTo p l e S m args below meth c E A a  u K 0 [(0, .ref (a 0)), (1, .int x1)] [] (w_H E a u) := by
  unfold V_X0_kneesTo at hv
  refine bx_iload_n C 1 dX0_kneesTo_0 rfl rfl rfl ?_
  refine bx_iload_n C 2 dX0_kneesTo_1 rfl rfl rfl ?_
  refine bx_bipush C 6 4 dX0_kneesTo_2 bp_6 rfl ?_
  refine bx_irem C 5 dX0_kneesTo_4 nz32_6 rfl ?_
  refine bx_isub C 6 dX0_kneesTo_5 rfl ?_
  refine bx_istore_n C 7 dX0_kneesTo_6 rfl (by decide) rfl ?_
  refine bx_iconst C 0 8 dX0_kneesTo_7 ic_0 rfl ?_
  refine bx_istore_n C 9 dX0_kneesTo_8 rfl (by decide) rfl ?_
  refine bx_iconst C 0 10 dX0_kneesTo_9 ic_0 rfl ?_
  refine bx_istore C 12 dX0_kneesTo_10 (by decide) rfl ?_
  obtain ⟨n1, hv⟩ := hv
  exact bx_cut [3, 4, 2, 1, 0] (w_H E a u) rfl rfl (t_X0_kneesTo_12 C u  n1  x1 (x1 - (x1 - x1 / 6 * 6)) 0 0 hv)
theorem k_X0_kneesTo (l : Launch) (E : bx_E) (a : Nat → Nat)  (K : Int32 → Prop) (u : HS) (x1 : Int32) (hv : V_X0_kneesTo  K u x1) : bx_Mi l E yX0_kneesTo cX0_kneesTo 5 (some .int) (rmD 0) [.ref (a 0), .int x1] (fun (_ : Unit) => w_H E a u) () (fun r (_ : Unit) => K r) :=
  bx_meti (by decide +kernel) (Nat.le_of_ble_eq_true rfl) (fun p e S m below meth c C => t_X0_kneesTo_0 C u x1 hv)
abbrev G_X0_sightFrom (p : Program) (l : Launch) (e : Env) (S : State) (m : MethodId) (args : Array Value) (below : List Frame) (meth : Method) (c : Code) (E : bx_E) (A : Nat → Prop) (a : Nat → Nat)  (u : HS) (K : Int32 → Prop) (pc : Nat) (lv : List (Nat × Value)) (st : List Value) (ws : va_W) : Prop := bx_S p l e (rmD 2) S m args below meth c 2 E A (MQ below (va_Qi (fun r (_ : Unit) => K r) (fun (_ : Unit) t => bx_B E A (w_H E a u) t) A) args S 0 0 A) 0 0 pc lv st ws
def V_X0_sightFrom  (K : Int32 → Prop)  (u : HS) (x1 : Int32) : Prop := (vp_in (x1 / 6) 5 ∧ (V_X1_sight (fun r1 => K r1)  (u.1 ((x1 / 6) : Int32).toNatClampNeg) (x1 - x1 / 6 * 6)))
set_option maxRecDepth 20000 in
set_option maxHeartbeats 4000000 in
theorem t_X0_sightFrom_0 {a : Nat → Nat} {K : Int32 → Prop} (C : bx_C p (rmD 2) S m args meth c cX0_sightFrom 2 yX0_sightFrom.cls (some .int) E A 0 0) (u : HS)   (x1 : Int32) (hv : V_X0_sightFrom K u x1) : G_X0_sightFrom p l e S m args below meth c E A a  u K 0 [(0, .ref (a 0)), (1, .int x1)] [] (w_H E a u) := by
  unfold V_X0_sightFrom at hv
  refine bx_aload_n C 1 dX0_sightFrom_0 rfl rfl rfl ?_
  refine bx_getf (v := .ref (a 1)) C 4 0 0 inX0 rfl (by decide) fl_X0_9 dX0_sightFrom_1 at_H_0 rfl rfl ?_
  refine bx_iload_n C 5 dX0_sightFrom_4 rfl rfl rfl ?_
  refine bx_bipush C 6 7 dX0_sightFrom_5 bp_6 rfl ?_
  refine bx_idiv C 8 dX0_sightFrom_7 nz32_6 rfl ?_
  refine bx_iald (f := u.1) C 9 1 dX0_sightFrom_8 at_H_1 hv.1 rfl ?_
  replace hv := hv.2
  refine bx_iload_n C 10 dX0_sightFrom_9 rfl rfl rfl ?_
  refine bx_bipush C 6 12 dX0_sightFrom_10 bp_6 rfl ?_
  refine bx_irem C 13 dX0_sightFrom_12 nz32_6 rfl ?_
  refine bx_pSi C 16 fc_X0_87 (k_X1_sight l E  _ _ _ hv) dX0_sightFrom_13 ⟨rfl, rfl, Nat.le_of_ble_eq_true rfl, Nat.le_of_ble_eq_true rfl⟩ [] rfl (by decide) rfl rfl (Nat.le_of_ble_eq_true rfl) rfl (fun r1 hv => ?_)
  exact bx_iret C () rfl dX0_sightFrom_16 rfl hv
theorem k_X0_sightFrom (l : Launch) (E : bx_E) (a : Nat → Nat)  (K : Int32 → Prop) (u : HS) (x1 : Int32) (hv : V_X0_sightFrom  K u x1) : bx_Mi l E yX0_sightFrom cX0_sightFrom 2 (some .int) (rmD 2) [.ref (a 0), .int x1] (fun (_ : Unit) => w_H E a u) () (fun r (_ : Unit) => K r) :=
  bx_meti (by decide +kernel) (Nat.le_of_ble_eq_true rfl) (fun p e S m below meth c C => t_X0_sightFrom_0 C u x1 hv)
abbrev G_X0_fussTo (p : Program) (l : Launch) (e : Env) (S : State) (m : MethodId) (args : Array Value) (below : List Frame) (meth : Method) (c : Code) (E : bx_E) (A : Nat → Prop) (a : Nat → Nat)  (u : HS) (K : Int32 → Prop) (pc : Nat) (lv : List (Nat × Value)) (st : List Value) (ws : va_W) : Prop := bx_S p l e (rmD 1) S m args below meth c 3 E A (MQ below (va_Qi (fun r (_ : Unit) => K r) (fun (_ : Unit) t => bx_B E A (w_H E a u) t) A) args S 0 0 A) 0 0 pc lv st ws
def V_X0_fussTo  (K : Int32 → Prop)  (u : HS) (x1 : Int32) (x2 : Int32) : Prop := (vp_in x1 7 ∧ (V_X0_kneesTo (fun r1 => (V_X1_fuss (fun r2 => K r2)  (u.2.1 (x1 : Int32).toNatClampNeg) r1 u.2.2.2.2.2.2.1)) u x2))
set_option maxRecDepth 20000 in
set_option maxHeartbeats 4000000 in
theorem t_X0_fussTo_0 {a : Nat → Nat} {K : Int32 → Prop} (C : bx_C p (rmD 1) S m args meth c cX0_fussTo 3 yX0_fussTo.cls (some .int) E A 0 0) (u : HS)   (x1 : Int32) (x2 : Int32) (hv : V_X0_fussTo K u x1 x2) : G_X0_fussTo p l e S m args below meth c E A a  u K 0 [(0, .ref (a 0)), (1, .int x1), (2, .int x2)] [] (w_H E a u) := by
  unfold V_X0_fussTo at hv
  refine bx_aload_n C 1 dX0_fussTo_0 rfl rfl rfl ?_
  refine bx_getf (v := .ref (a 2)) C 4 0 1 inX0 rfl (by decide) fl_X0_15 dX0_fussTo_1 at_H_0 rfl rfl ?_
  refine bx_iload_n C 5 dX0_fussTo_4 rfl rfl rfl ?_
  refine bx_iald (f := u.2.1) C 6 2 dX0_fussTo_5 at_H_2 hv.1 rfl ?_
  replace hv := hv.2
  refine bx_aload_n C 7 dX0_fussTo_6 rfl rfl rfl ?_
  refine bx_iload_n C 8 dX0_fussTo_7 rfl rfl rfl ?_
  refine bx_pVi C 0 at_H_0 rfl 11 fc_X0_93 (k_X0_kneesTo l E a _ _ _ hv) dX0_fussTo_8 ⟨rfl, rfl, Nat.le_of_ble_eq_true rfl, Nat.le_of_ble_eq_true rfl⟩ [0, 1, 2, 3, 4, 5, 6, 7, 8, 9, 10, 11, 12] ps_H_H_0 (by decide) rfl rfl (Nat.le_of_ble_eq_true rfl) rfl (fun r1 hv => ?_)
  refine bx_aload_n C 12 dX0_fussTo_11 rfl rfl rfl ?_
  refine bx_getf (v := .int u.2.2.2.2.2.2.1) C 15 0 6 inX0 rfl (by decide) fl_X0_49 dX0_fussTo_12 at_H_0 rfl rfl ?_
  refine bx_pSi C 18 fc_X0_96 (k_X1_fuss l E  _ _ _ _ hv) dX0_fussTo_15 ⟨rfl, rfl, Nat.le_of_ble_eq_true rfl, Nat.le_of_ble_eq_true rfl⟩ [] rfl (by decide) rfl rfl (Nat.le_of_ble_eq_true rfl) rfl (fun r2 hv => ?_)
  exact bx_iret C () rfl dX0_fussTo_18 rfl hv
theorem k_X0_fussTo (l : Launch) (E : bx_E) (a : Nat → Nat)  (K : Int32 → Prop) (u : HS) (x1 : Int32) (x2 : Int32) (hv : V_X0_fussTo  K u x1 x2) : bx_Mi l E yX0_fussTo cX0_fussTo 3 (some .int) (rmD 1) [.ref (a 0), .int x1, .int x2] (fun (_ : Unit) => w_H E a u) () (fun r (_ : Unit) => K r) :=
  bx_meti (by decide +kernel) (Nat.le_of_ble_eq_true rfl) (fun p e S m below meth c C => t_X0_fussTo_0 C u x1 x2 hv)
abbrev G_X0_settle (p : Program) (l : Launch) (e : Env) (S : State) (m : MethodId) (args : Array Value) (below : List Frame) (meth : Method) (c : Code) (E : bx_E) (A : Nat → Prop) (a : Nat → Nat)  (K : Int32 → HS → Prop) (pc : Nat) (lv : List (Nat × Value)) (st : List Value) (ws : va_W) : Prop := bx_S p l e (rmD 1) S m args below meth c 2 E A (MQ below (va_Qi K (fun (u : HS) t => bx_B E A (w_H E a u) t) A) args S 0 0 A) 0 0 pc lv st ws
def V_X0_settle  (K : Int32 → HS → Prop)  (u : HS) (x1 : Int32) : Prop := K x1 (u.1, u.2.1, u.2.2.1, u.2.2.2.1, u.2.2.2.2.1, u.2.2.2.2.2.1, (u.2.2.2.2.2.2.1 + 1), (if (u.2.2.2.2.2.2.2.1 + x1) < 999999 then (u.2.2.2.2.2.2.2.1 + x1) else 999999), u.2.2.2.2.2.2.2.2)
set_option maxRecDepth 20000 in
set_option maxHeartbeats 4000000 in
theorem t_X0_settle_0 {a : Nat → Nat} {K : Int32 → HS → Prop} (C : bx_C p (rmD 1) S m args meth c cX0_settle 2 yX0_settle.cls (some .int) E A 0 0)   (u : HS) (x1 : Int32) (hv : V_X0_settle K u x1) : G_X0_settle p l e S m args below meth c E A a  K 0 [(0, .ref (a 0)), (1, .int x1)] [] (w_H E a u) := by
  unfold V_X0_settle at hv
  refine bx_aload_n C 1 dX0_settle_0 rfl rfl rfl ?_
  refine bx_ldc C 3 cs_X0_105 dX0_settle_1 rfl ?_
  refine bx_aload_n C 4 dX0_settle_3 rfl rfl rfl ?_
  refine bx_getf (v := .int u.2.2.2.2.2.2.2.1) C 7 0 7 inX0 rfl (by decide) fl_X0_52 dX0_settle_4 at_H_0 rfl rfl ?_
  refine bx_iload_n C 8 dX0_settle_7 rfl rfl rfl ?_
  refine bx_iadd C 9 dX0_settle_8 rfl ?_
  refine bx_mmin C 12 fm_X0_106 dX0_settle_9 ⟨Nat.le_of_ble_eq_true rfl, Nat.le_of_ble_eq_true rfl⟩ (Nat.le_of_ble_eq_true rfl) rfl ?_
  refine bx_putf C 15 0 7 (w_H E a (u.1, u.2.1, u.2.2.1, u.2.2.2.1, u.2.2.2.2.1, u.2.2.2.2.2.1, u.2.2.2.2.2.2.1, (if (u.2.2.2.2.2.2.2.1 + x1) < 999999 then (u.2.2.2.2.2.2.2.1 + x1) else 999999), u.2.2.2.2.2.2.2.2)) inX0 tyX0 tyX0_ok nmX0 rfl (by decide) fl_X0_52 rfl dX0_settle_12 rfl rfl rfl (Nat.le_of_ble_eq_true rfl) rfl rfl ?_
  refine bx_aload_n C 16 dX0_settle_15 rfl rfl rfl ?_
  refine bx_dup C 17 dX0_settle_16 rfl rfl ?_
  refine bx_getf (v := .int u.2.2.2.2.2.2.1) C 20 0 6 inX0 rfl (by decide) fl_X0_49 dX0_settle_17 at_H_0 rfl rfl ?_
  refine bx_iconst C 1 21 dX0_settle_20 ic_1 rfl ?_
  refine bx_iadd C 22 dX0_settle_21 rfl ?_
  refine bx_putf C 25 0 6 (w_H E a (u.1, u.2.1, u.2.2.1, u.2.2.2.1, u.2.2.2.2.1, u.2.2.2.2.2.1, (u.2.2.2.2.2.2.1 + 1), (if (u.2.2.2.2.2.2.2.1 + x1) < 999999 then (u.2.2.2.2.2.2.2.1 + x1) else 999999), u.2.2.2.2.2.2.2.2)) inX0 tyX0 tyX0_ok nmX0 rfl (by decide) fl_X0_49 rfl dX0_settle_22 rfl rfl rfl (Nat.le_of_ble_eq_true rfl) rfl rfl ?_
  refine bx_iload_n C 26 dX0_settle_25 rfl rfl rfl ?_
  exact bx_iret C (u.1, u.2.1, u.2.2.1, u.2.2.2.1, u.2.2.2.2.1, u.2.2.2.2.2.1, (u.2.2.2.2.2.2.1 + 1), (if (u.2.2.2.2.2.2.2.1 + x1) < 999999 then (u.2.2.2.2.2.2.2.1 + x1) else 999999), u.2.2.2.2.2.2.2.2) rfl dX0_settle_26 rfl hv
theorem k_X0_settle (l : Launch) (E : bx_E) (a : Nat → Nat)  (K : Int32 → HS → Prop) (u : HS) (x1 : Int32) (hv : V_X0_settle  K u x1) : bx_Mi l E yX0_settle cX0_settle 2 (some .int) (rmD 1) [.ref (a 0), .int x1] (fun (u : HS) => w_H E a u) u K :=
  bx_meti (by decide +kernel) (Nat.le_of_ble_eq_true rfl) (fun p e S m below meth c C => t_X0_settle_0 C u x1 hv)
abbrev G_X0_showIn (p : Program) (l : Launch) (e : Env) (S : State) (m : MethodId) (args : Array Value) (below : List Frame) (meth : Method) (c : Code) (E : bx_E) (A : Nat → Prop) (a : Nat → Nat)  (K : Int32 → HS → Prop) (pc : Nat) (lv : List (Nat × Value)) (st : List Value) (ws : va_W) : Prop := bx_S p l e (rmD 2) S m args below meth c 4 E A (MQ below (va_Qi K (fun (u : HS) t => bx_B E A (w_H E a u) t) A) args S 0 0 A) 0 0 pc lv st ws
def V_X0_showIn  (K : Int32 → HS → Prop)  (u : HS) (x1 : Int32) (x2 : Int32) : Prop := (V_X0_fussTo (fun r1 => (vp_in x1 7 ∧ (V_X0_settle (fun r2 u3 => K r2 u3) (u.1, u.2.1, u.2.2.1, (upd u.2.2.2.1 (x1 : Int32).toNatClampNeg x2), u.2.2.2.2) r1))) u x1 x2)
set_option maxRecDepth 20000 in
set_option maxHeartbeats 4000000 in
theorem t_X0_showIn_0 {a : Nat → Nat} {K : Int32 → HS → Prop} (C : bx_C p (rmD 2) S m args meth c cX0_showIn 4 yX0_showIn.cls (some .int) E A 0 0)   (u : HS) (x1 : Int32) (x2 : Int32) (hv : V_X0_showIn K u x1 x2) : G_X0_showIn p l e S m args below meth c E A a  K 0 [(0, .ref (a 0)), (1, .int x1), (2, .int x2)] [] (w_H E a u) := by
  unfold V_X0_showIn at hv
  refine bx_aload_n C 1 dX0_showIn_0 rfl rfl rfl ?_
  refine bx_iload_n C 2 dX0_showIn_1 rfl rfl rfl ?_
  refine bx_iload_n C 3 dX0_showIn_2 rfl rfl rfl ?_
  refine bx_pVi C 0 at_H_0 rfl 6 fc_X0_99 (k_X0_fussTo l E a _ _ _ _ hv) dX0_showIn_3 ⟨rfl, rfl, Nat.le_of_ble_eq_true rfl, Nat.le_of_ble_eq_true rfl⟩ [0, 1, 2, 3, 4, 5, 6, 7, 8, 9, 10, 11, 12] ps_H_H_0 (by decide) rfl rfl (Nat.le_of_ble_eq_true rfl) rfl (fun r1 hv => ?_)
  refine bx_istore_n C 7 dX0_showIn_6 rfl (by decide) rfl ?_
  refine bx_aload_n C 8 dX0_showIn_7 rfl rfl rfl ?_
  refine bx_getf (v := .ref (a 4)) C 11 0 3 inX0 rfl (by decide) fl_X0_21 dX0_showIn_8 at_H_0 rfl rfl ?_
  refine bx_iload_n C 12 dX0_showIn_11 rfl rfl rfl ?_
  refine bx_iload_n C 13 dX0_showIn_12 rfl rfl rfl ?_
  refine bx_iast C 14 4 (w_H E a (u.1, u.2.1, u.2.2.1, (upd u.2.2.2.1 (x1 : Int32).toNatClampNeg x2), u.2.2.2.2)) dX0_showIn_13 rfl hv.1 rfl rfl ?_
  replace hv := hv.2
  refine bx_aload_n C 15 dX0_showIn_14 rfl rfl rfl ?_
  refine bx_iload_n C 16 dX0_showIn_15 rfl rfl rfl ?_
  refine bx_qVi C 0 at_H_0 rfl 19 fc_X0_102 (k_X0_settle l E a _ _ _ hv) dX0_showIn_16 ⟨rfl, rfl, Nat.le_of_ble_eq_true rfl, Nat.le_of_ble_eq_true rfl⟩ [0, 1, 2, 3, 4, 5, 6, 7, 8, 9, 10, 11, 12] (fun u3 => w_H E a u3) ps_H_H_0 (by decide) ad_H pu_H_H_0 rfl rfl (Nat.le_of_ble_eq_true rfl) rfl (fun r2 u3 hv => ?_)
  exact bx_iret C u3 rfl dX0_showIn_19 rfl hv
theorem k_X0_showIn (l : Launch) (E : bx_E) (a : Nat → Nat)  (K : Int32 → HS → Prop) (u : HS) (x1 : Int32) (x2 : Int32) (hv : V_X0_showIn  K u x1 x2) : bx_Mi l E yX0_showIn cX0_showIn 4 (some .int) (rmD 2) [.ref (a 0), .int x1, .int x2] (fun (u : HS) => w_H E a u) u K :=
  bx_meti (by decide +kernel) (Nat.le_of_ble_eq_true rfl) (fun p e S m below meth c C => t_X0_showIn_0 C u x1 x2 hv)
abbrev G_X0_moveTo (p : Program) (l : Launch) (e : Env) (S : State) (m : MethodId) (args : Array Value) (below : List Frame) (meth : Method) (c : Code) (E : bx_E) (A : Nat → Prop) (a : Nat → Nat)  (K : Int32 → HS → Prop) (pc : Nat) (lv : List (Nat × Value)) (st : List Value) (ws : va_W) : Prop := bx_S p l e (rmD 2) S m args below meth c 4 E A (MQ below (va_Qi K (fun (u : HS) t => bx_B E A (w_H E a u) t) A) args S 0 0 A) 0 0 pc lv st ws
def V_X0_moveTo  (K : Int32 → HS → Prop)  (u : HS) (x1 : Int32) (x2 : Int32) : Prop := (vp_in x1 7 ∧ (V_X0_fussTo (fun r1 => (vp_in x1 7 ∧ (V_X0_fussTo (fun r2 => (vp_in x1 7 ∧ (V_X0_settle (fun r3 u4 => K r3 u4) (u.1, u.2.1, u.2.2.1, (upd (upd u.2.2.2.1 (x1 : Int32).toNatClampNeg (-1)) (x1 : Int32).toNatClampNeg x2), u.2.2.2.2) (r1 + r2)))) (u.1, u.2.1, u.2.2.1, (upd u.2.2.2.1 (x1 : Int32).toNatClampNeg (-1)), u.2.2.2.2) x1 x2))) u x1 (u.2.2.2.1 (x1 : Int32).toNatClampNeg)))
set_option maxRecDepth 20000 in
set_option maxHeartbeats 4000000 in
theorem t_X0_moveTo_0 {a : Nat → Nat} {K : Int32 → HS → Prop} (C : bx_C p (rmD 2) S m args meth c cX0_moveTo 4 yX0_moveTo.cls (some .int) E A 0 0)   (u : HS) (x1 : Int32) (x2 : Int32) (hv : V_X0_moveTo K u x1 x2) : G_X0_moveTo p l e S m args below meth c E A a  K 0 [(0, .ref (a 0)), (1, .int x1), (2, .int x2)] [] (w_H E a u) := by
  unfold V_X0_moveTo at hv
  refine bx_aload_n C 1 dX0_moveTo_0 rfl rfl rfl ?_
  refine bx_iload_n C 2 dX0_moveTo_1 rfl rfl rfl ?_
  refine bx_aload_n C 3 dX0_moveTo_2 rfl rfl rfl ?_
  refine bx_getf (v := .ref (a 4)) C 6 0 3 inX0 rfl (by decide) fl_X0_21 dX0_moveTo_3 at_H_0 rfl rfl ?_
  refine bx_iload_n C 7 dX0_moveTo_6 rfl rfl rfl ?_
  refine bx_iald (f := u.2.2.2.1) C 8 4 dX0_moveTo_7 at_H_4 hv.1 rfl ?_
  replace hv := hv.2
  refine bx_pVi C 0 at_H_0 rfl 11 fc_X0_99 (k_X0_fussTo l E a _ _ _ _ hv) dX0_moveTo_8 ⟨rfl, rfl, Nat.le_of_ble_eq_true rfl, Nat.le_of_ble_eq_true rfl⟩ [0, 1, 2, 3, 4, 5, 6, 7, 8, 9, 10, 11, 12] ps_H_H_0 (by decide) rfl rfl (Nat.le_of_ble_eq_true rfl) rfl (fun r1 hv => ?_)
  refine bx_istore_n C 12 dX0_moveTo_11 rfl (by decide) rfl ?_
  refine bx_aload_n C 13 dX0_moveTo_12 rfl rfl rfl ?_
  refine bx_getf (v := .ref (a 4)) C 16 0 3 inX0 rfl (by decide) fl_X0_21 dX0_moveTo_13 at_H_0 rfl rfl ?_
  refine bx_iload_n C 17 dX0_moveTo_16 rfl rfl rfl ?_
  refine bx_iconst C (-1) 18 dX0_moveTo_17 ic_m1 rfl ?_
  refine bx_iast C 19 4 (w_H E a (u.1, u.2.1, u.2.2.1, (upd u.2.2.2.1 (x1 : Int32).toNatClampNeg (-1)), u.2.2.2.2)) dX0_moveTo_18 rfl hv.1 rfl rfl ?_
  replace hv := hv.2
  refine bx_iload_n C 20 dX0_moveTo_19 rfl rfl rfl ?_
  refine bx_aload_n C 21 dX0_moveTo_20 rfl rfl rfl ?_
  refine bx_iload_n C 22 dX0_moveTo_21 rfl rfl rfl ?_
  refine bx_iload_n C 23 dX0_moveTo_22 rfl rfl rfl ?_
  refine bx_pVi C 0 at_H_0 rfl 26 fc_X0_99 (k_X0_fussTo l E a _ _ _ _ hv) dX0_moveTo_23 ⟨rfl, rfl, Nat.le_of_ble_eq_true rfl, Nat.le_of_ble_eq_true rfl⟩ [0, 1, 2, 3, 4, 5, 6, 7, 8, 9, 10, 11, 12] ps_H_H_0 (by decide) rfl rfl (Nat.le_of_ble_eq_true rfl) rfl (fun r2 hv => ?_)
  refine bx_iadd C 27 dX0_moveTo_26 rfl ?_
  refine bx_istore_n C 28 dX0_moveTo_27 rfl (by decide) rfl ?_
  refine bx_aload_n C 29 dX0_moveTo_28 rfl rfl rfl ?_
  refine bx_getf (v := .ref (a 4)) C 32 0 3 inX0 rfl (by decide) fl_X0_21 dX0_moveTo_29 at_H_0 rfl rfl ?_
  refine bx_iload_n C 33 dX0_moveTo_32 rfl rfl rfl ?_
  refine bx_iload_n C 34 dX0_moveTo_33 rfl rfl rfl ?_
  refine bx_iast C 35 4 (w_H E a (u.1, u.2.1, u.2.2.1, (upd (upd u.2.2.2.1 (x1 : Int32).toNatClampNeg (-1)) (x1 : Int32).toNatClampNeg x2), u.2.2.2.2)) dX0_moveTo_34 rfl hv.1 rfl rfl ?_
  replace hv := hv.2
  refine bx_aload_n C 36 dX0_moveTo_35 rfl rfl rfl ?_
  refine bx_iload_n C 37 dX0_moveTo_36 rfl rfl rfl ?_
  refine bx_qVi C 0 at_H_0 rfl 40 fc_X0_102 (k_X0_settle l E a _ _ _ hv) dX0_moveTo_37 ⟨rfl, rfl, Nat.le_of_ble_eq_true rfl, Nat.le_of_ble_eq_true rfl⟩ [0, 1, 2, 3, 4, 5, 6, 7, 8, 9, 10, 11, 12] (fun u4 => w_H E a u4) ps_H_H_0 (by decide) ad_H pu_H_H_0 rfl rfl (Nat.le_of_ble_eq_true rfl) rfl (fun r3 u4 hv => ?_)
  exact bx_iret C u4 rfl dX0_moveTo_40 rfl hv
theorem k_X0_moveTo (l : Launch) (E : bx_E) (a : Nat → Nat)  (K : Int32 → HS → Prop) (u : HS) (x1 : Int32) (x2 : Int32) (hv : V_X0_moveTo  K u x1 x2) : bx_Mi l E yX0_moveTo cX0_moveTo 4 (some .int) (rmD 2) [.ref (a 0), .int x1, .int x2] (fun (u : HS) => w_H E a u) u K :=
  bx_meti (by decide +kernel) (Nat.le_of_ble_eq_true rfl) (fun p e S m below meth c C => t_X0_moveTo_0 C u x1 x2 hv)
abbrev G_X0_sendOut (p : Program) (l : Launch) (e : Env) (S : State) (m : MethodId) (args : Array Value) (below : List Frame) (meth : Method) (c : Code) (E : bx_E) (A : Nat → Prop) (a : Nat → Nat)  (K : Int32 → HS → Prop) (pc : Nat) (lv : List (Nat × Value)) (st : List Value) (ws : va_W) : Prop := bx_S p l e (rmD 2) S m args below meth c 3 E A (MQ below (va_Qi K (fun (u : HS) t => bx_B E A (w_H E a u) t) A) args S 0 0 A) 0 0 pc lv st ws
def V_X0_sendOut  (K : Int32 → HS → Prop)  (u : HS) (x1 : Int32) : Prop := (vp_in x1 7 ∧ (V_X0_fussTo (fun r1 => (vp_in x1 7 ∧ (V_X0_settle (fun r2 u3 => K r2 u3) (u.1, u.2.1, u.2.2.1, (upd u.2.2.2.1 (x1 : Int32).toNatClampNeg (-1)), u.2.2.2.2) r1))) u x1 (u.2.2.2.1 (x1 : Int32).toNatClampNeg)))
set_option maxRecDepth 20000 in
set_option maxHeartbeats 4000000 in
theorem t_X0_sendOut_0 {a : Nat → Nat} {K : Int32 → HS → Prop} (C : bx_C p (rmD 2) S m args meth c cX0_sendOut 3 yX0_sendOut.cls (some .int) E A 0 0)   (u : HS) (x1 : Int32) (hv : V_X0_sendOut K u x1) : G_X0_sendOut p l e S m args below meth c E A a  K 0 [(0, .ref (a 0)), (1, .int x1)] [] (w_H E a u) := by
  unfold V_X0_sendOut at hv
  refine bx_aload_n C 1 dX0_sendOut_0 rfl rfl rfl ?_
  refine bx_iload_n C 2 dX0_sendOut_1 rfl rfl rfl ?_
  refine bx_aload_n C 3 dX0_sendOut_2 rfl rfl rfl ?_
  refine bx_getf (v := .ref (a 4)) C 6 0 3 inX0 rfl (by decide) fl_X0_21 dX0_sendOut_3 at_H_0 rfl rfl ?_
  refine bx_iload_n C 7 dX0_sendOut_6 rfl rfl rfl ?_
  refine bx_iald (f := u.2.2.2.1) C 8 4 dX0_sendOut_7 at_H_4 hv.1 rfl ?_
  replace hv := hv.2
  refine bx_pVi C 0 at_H_0 rfl 11 fc_X0_99 (k_X0_fussTo l E a _ _ _ _ hv) dX0_sendOut_8 ⟨rfl, rfl, Nat.le_of_ble_eq_true rfl, Nat.le_of_ble_eq_true rfl⟩ [0, 1, 2, 3, 4, 5, 6, 7, 8, 9, 10, 11, 12] ps_H_H_0 (by decide) rfl rfl (Nat.le_of_ble_eq_true rfl) rfl (fun r1 hv => ?_)
  refine bx_istore_n C 12 dX0_sendOut_11 rfl (by decide) rfl ?_
  refine bx_aload_n C 13 dX0_sendOut_12 rfl rfl rfl ?_
  refine bx_getf (v := .ref (a 4)) C 16 0 3 inX0 rfl (by decide) fl_X0_21 dX0_sendOut_13 at_H_0 rfl rfl ?_
  refine bx_iload_n C 17 dX0_sendOut_16 rfl rfl rfl ?_
  refine bx_iconst C (-1) 18 dX0_sendOut_17 ic_m1 rfl ?_
  refine bx_iast C 19 4 (w_H E a (u.1, u.2.1, u.2.2.1, (upd u.2.2.2.1 (x1 : Int32).toNatClampNeg (-1)), u.2.2.2.2)) dX0_sendOut_18 rfl hv.1 rfl rfl ?_
  replace hv := hv.2
  refine bx_aload_n C 20 dX0_sendOut_19 rfl rfl rfl ?_
  refine bx_iload_n C 21 dX0_sendOut_20 rfl rfl rfl ?_
  refine bx_qVi C 0 at_H_0 rfl 24 fc_X0_102 (k_X0_settle l E a _ _ _ hv) dX0_sendOut_21 ⟨rfl, rfl, Nat.le_of_ble_eq_true rfl, Nat.le_of_ble_eq_true rfl⟩ [0, 1, 2, 3, 4, 5, 6, 7, 8, 9, 10, 11, 12] (fun u3 => w_H E a u3) ps_H_H_0 (by decide) ad_H pu_H_H_0 rfl rfl (Nat.le_of_ble_eq_true rfl) rfl (fun r2 u3 hv => ?_)
  exact bx_iret C u3 rfl dX0_sendOut_24 rfl hv
theorem k_X0_sendOut (l : Launch) (E : bx_E) (a : Nat → Nat)  (K : Int32 → HS → Prop) (u : HS) (x1 : Int32) (hv : V_X0_sendOut  K u x1) : bx_Mi l E yX0_sendOut cX0_sendOut 3 (some .int) (rmD 2) [.ref (a 0), .int x1] (fun (u : HS) => w_H E a u) u K :=
  bx_meti (by decide +kernel) (Nat.le_of_ble_eq_true rfl) (fun p e S m below meth c C => t_X0_sendOut_0 C u x1 hv)
abbrev G_X0_liveThrough (p : Program) (l : Launch) (e : Env) (S : State) (m : MethodId) (args : Array Value) (below : List Frame) (meth : Method) (c : Code) (E : bx_E) (A : Nat → Prop) (a : Nat → Nat)  (K : Int32 → HS → Prop) (pc : Nat) (lv : List (Nat × Value)) (st : List Value) (ws : va_W) : Prop := bx_S p l e (rmD 3) S m args below meth c 3 E A (MQ below (va_Qi K (fun (u : HS) t => bx_B E A (w_H E a u) t) A) args S 0 0 A) 0 0 pc lv st ws
def V_X0_liveThrough_45  (K : Int32 → HS → Prop)  (u : HS)  : Prop := K 0 (u.1, u.2.1, u.2.2.1, u.2.2.2.1, u.2.2.2.2.1, u.2.2.2.2.2.1, (u.2.2.2.2.2.2.1 + 1), u.2.2.2.2.2.2.2)
set_option maxRecDepth 20000 in
set_option maxHeartbeats 4000000 in
theorem t_X0_liveThrough_45 {a : Nat → Nat} {K : Int32 → HS → Prop} (C : bx_C p (rmD 3) S m args meth c cX0_liveThrough 3 yX0_liveThrough.cls (some .int) E A 0 0)   (u : HS)  (hv : V_X0_liveThrough_45 K u ) : G_X0_liveThrough p l e S m args below meth c E A a  K 45 [(0, .ref (a 0))] [] (w_H E a u) := by
  unfold V_X0_liveThrough_45 at hv
  refine bx_aload_n C 46 dX0_liveThrough_45 rfl rfl rfl ?_
  refine bx_dup C 47 dX0_liveThrough_46 rfl rfl ?_
  refine bx_getf (v := .int u.2.2.2.2.2.2.1) C 50 0 6 inX0 rfl (by decide) fl_X0_49 dX0_liveThrough_47 at_H_0 rfl rfl ?_
  refine bx_iconst C 1 51 dX0_liveThrough_50 ic_1 rfl ?_
  refine bx_iadd C 52 dX0_liveThrough_51 rfl ?_
  refine bx_putf C 55 0 6 (w_H E a (u.1, u.2.1, u.2.2.1, u.2.2.2.1, u.2.2.2.2.1, u.2.2.2.2.2.1, (u.2.2.2.2.2.2.1 + 1), u.2.2.2.2.2.2.2)) inX0 tyX0 tyX0_ok nmX0 rfl (by decide) fl_X0_49 rfl dX0_liveThrough_52 rfl rfl rfl (Nat.le_of_ble_eq_true rfl) rfl rfl ?_
  refine bx_iconst C 0 56 dX0_liveThrough_55 ic_0 rfl ?_
  exact bx_iret C (u.1, u.2.1, u.2.2.1, u.2.2.2.1, u.2.2.2.2.1, u.2.2.2.2.2.1, (u.2.2.2.2.2.2.1 + 1), u.2.2.2.2.2.2.2) rfl dX0_liveThrough_56 rfl hv
def V_X0_liveThrough_22  (K : Int32 → HS → Prop)  (u : HS) (x1 : Int32) (x2 : Int32) : Prop := (V_X0_isSoul (fun r1 => ((r1 = 0 → V_X0_liveThrough_45 K u ) ∧
 (¬ r1 = 0 → (V_X0_isFree (fun r2 => ((r2 = 0 → V_X0_liveThrough_45 K u ) ∧
 (¬ r2 = 0 → (V_X0_showIn (fun r3 u4 => K r3 u4) u x1 x2)))) u x2)))) u x1)
set_option maxRecDepth 20000 in
set_option maxHeartbeats 4000000 in
theorem t_X0_liveThrough_22 {a : Nat → Nat} {K : Int32 → HS → Prop} (C : bx_C p (rmD 3) S m args meth c cX0_liveThrough 3 yX0_liveThrough.cls (some .int) E A 0 0)   (u : HS) (x1 : Int32) (x2 : Int32) (hv : V_X0_liveThrough_22 K u x1 x2) : G_X0_liveThrough p l e S m args below meth c E A a  K 22 [(0, .ref (a 0)), (1, .int x1), (2, .int x2)] [] (w_H E a u) := by
  unfold V_X0_liveThrough_22 at hv
  refine bx_aload_n C 23 dX0_liveThrough_22 rfl rfl rfl ?_
  refine bx_iload_n C 24 dX0_liveThrough_23 rfl rfl rfl ?_
  refine bx_pVi C 0 at_H_0 rfl 27 fc_X0_111 (k_X0_isSoul l E a _ _ _ hv) dX0_liveThrough_24 ⟨rfl, rfl, Nat.le_of_ble_eq_true rfl, Nat.le_of_ble_eq_true rfl⟩ [0, 1, 2, 3, 4, 5, 6, 7, 8, 9, 10, 11, 12] ps_H_H_0 (by decide) rfl rfl (Nat.le_of_ble_eq_true rfl) rfl (fun r1 hv => ?_)
  refine bx_if_eq C 45 30 dX0_liveThrough_27 (by decide) rfl (fun h => ?_) (fun h => ?_)
  · replace hv := hv.1 h
    exact bx_cut [0] (w_H E a u) rfl rfl (t_X0_liveThrough_45 C   u  hv)
  · replace hv := hv.2 h
    refine bx_aload_n C 31 dX0_liveThrough_30 rfl rfl rfl ?_
    refine bx_iload_n C 32 dX0_liveThrough_31 rfl rfl rfl ?_
    refine bx_pVi C 0 at_H_0 rfl 35 fc_X0_117 (k_X0_isFree l E a _ _ _ hv) dX0_liveThrough_32 ⟨rfl, rfl, Nat.le_of_ble_eq_true rfl, Nat.le_of_ble_eq_true rfl⟩ [0, 1, 2, 3, 4, 5, 6, 7, 8, 9, 10, 11, 12] ps_H_H_0 (by decide) rfl rfl (Nat.le_of_ble_eq_true rfl) rfl (fun r2 hv => ?_)
    refine bx_if_eq C 45 38 dX0_liveThrough_35 (by decide) rfl (fun h => ?_) (fun h => ?_)
    · replace hv := hv.1 h
      exact bx_cut [0] (w_H E a u) rfl rfl (t_X0_liveThrough_45 C   u  hv)
    · replace hv := hv.2 h
      refine bx_aload_n C 39 dX0_liveThrough_38 rfl rfl rfl ?_
      refine bx_iload_n C 40 dX0_liveThrough_39 rfl rfl rfl ?_
      refine bx_iload_n C 41 dX0_liveThrough_40 rfl rfl rfl ?_
      refine bx_qVi C 0 at_H_0 rfl 44 fc_X0_120 (k_X0_showIn l E a _ _ _ _ hv) dX0_liveThrough_41 ⟨rfl, rfl, Nat.le_of_ble_eq_true rfl, Nat.le_of_ble_eq_true rfl⟩ [0, 1, 2, 3, 4, 5, 6, 7, 8, 9, 10, 11, 12] (fun u4 => w_H E a u4) ps_H_H_0 (by decide) ad_H pu_H_H_0 rfl rfl (Nat.le_of_ble_eq_true rfl) rfl (fun r3 u4 hv => ?_)
      exact bx_iret C u4 rfl dX0_liveThrough_44 rfl hv
def V_X0_liveThrough  (K : Int32 → HS → Prop)  (u : HS) (x1 : Int32) (x2 : Int32) : Prop := (V_X0_isSoul (fun r5 => ((r5 = 0 → V_X0_liveThrough_22 K u x1 x2) ∧
 (¬ r5 = 0 → (V_X0_sits (fun r6 => ((r6 = 0 → V_X0_liveThrough_22 K u x1 x2) ∧
 (¬ r6 = 0 → (V_X0_sendOut (fun r7 u8 => K r7 u8) u x1)))) u x1)))) u x1)
set_option maxRecDepth 20000 in
set_option maxHeartbeats 4000000 in
theorem t_X0_liveThrough_0 {a : Nat → Nat} {K : Int32 → HS → Prop} (C : bx_C p (rmD 3) S m args meth c cX0_liveThrough 3 yX0_liveThrough.cls (some .int) E A 0 0)   (u : HS) (x1 : Int32) (x2 : Int32) (hv : V_X0_liveThrough K u x1 x2) : G_X0_liveThrough p l e S m args below meth c E A a  K 0 [(0, .ref (a 0)), (1, .int x1), (2, .int x2)] [] (w_H E a u) := by
  unfold V_X0_liveThrough at hv
  refine bx_aload_n C 1 dX0_liveThrough_0 rfl rfl rfl ?_
  refine bx_iload_n C 2 dX0_liveThrough_1 rfl rfl rfl ?_
  refine bx_pVi C 0 at_H_0 rfl 5 fc_X0_111 (k_X0_isSoul l E a _ _ _ hv) dX0_liveThrough_2 ⟨rfl, rfl, Nat.le_of_ble_eq_true rfl, Nat.le_of_ble_eq_true rfl⟩ [0, 1, 2, 3, 4, 5, 6, 7, 8, 9, 10, 11, 12] ps_H_H_0 (by decide) rfl rfl (Nat.le_of_ble_eq_true rfl) rfl (fun r5 hv => ?_)
  refine bx_if_eq C 22 8 dX0_liveThrough_5 (by decide) rfl (fun h => ?_) (fun h => ?_)
  · replace hv := hv.1 h
    exact bx_cut [0, 1, 2] (w_H E a u) rfl rfl (t_X0_liveThrough_22 C   u x1 x2 hv)
  · replace hv := hv.2 h
    refine bx_aload_n C 9 dX0_liveThrough_8 rfl rfl rfl ?_
    refine bx_iload_n C 10 dX0_liveThrough_9 rfl rfl rfl ?_
    refine bx_pVi C 0 at_H_0 rfl 13 fc_X0_73 (k_X0_sits l E a _ _ _ hv) dX0_liveThrough_10 ⟨rfl, rfl, Nat.le_of_ble_eq_true rfl, Nat.le_of_ble_eq_true rfl⟩ [0, 1, 2, 3, 4, 5, 6, 7, 8, 9, 10, 11, 12] ps_H_H_0 (by decide) rfl rfl (Nat.le_of_ble_eq_true rfl) rfl (fun r6 hv => ?_)
    refine bx_if_eq C 22 16 dX0_liveThrough_13 (by decide) rfl (fun h => ?_) (fun h => ?_)
    · replace hv := hv.1 h
      exact bx_cut [0, 1, 2] (w_H E a u) rfl rfl (t_X0_liveThrough_22 C   u x1 x2 hv)
    · replace hv := hv.2 h
      refine bx_aload_n C 17 dX0_liveThrough_16 rfl rfl rfl ?_
      refine bx_iload_n C 18 dX0_liveThrough_17 rfl rfl rfl ?_
      refine bx_qVi C 0 at_H_0 rfl 21 fc_X0_114 (k_X0_sendOut l E a _ _ _ hv) dX0_liveThrough_18 ⟨rfl, rfl, Nat.le_of_ble_eq_true rfl, Nat.le_of_ble_eq_true rfl⟩ [0, 1, 2, 3, 4, 5, 6, 7, 8, 9, 10, 11, 12] (fun u8 => w_H E a u8) ps_H_H_0 (by decide) ad_H pu_H_H_0 rfl rfl (Nat.le_of_ble_eq_true rfl) rfl (fun r7 u8 hv => ?_)
      exact bx_iret C u8 rfl dX0_liveThrough_21 rfl hv
theorem k_X0_liveThrough (l : Launch) (E : bx_E) (a : Nat → Nat)  (K : Int32 → HS → Prop) (u : HS) (x1 : Int32) (x2 : Int32) (hv : V_X0_liveThrough  K u x1 x2) : bx_Mi l E yX0_liveThrough cX0_liveThrough 3 (some .int) (rmD 3) [.ref (a 0), .int x1, .int x2] (fun (u : HS) => w_H E a u) u K :=
  bx_meti (by decide +kernel) (Nat.le_of_ble_eq_true rfl) (fun p e S m below meth c C => t_X0_liveThrough_0 C u x1 x2 hv)
abbrev G_X0_remember (p : Program) (l : Launch) (e : Env) (S : State) (m : MethodId) (args : Array Value) (below : List Frame) (meth : Method) (c : Code) (E : bx_E) (A : Nat → Prop) (a : Nat → Nat)  (K : HS → Prop) (pc : Nat) (lv : List (Nat × Value)) (st : List Value) (ws : va_W) : Prop := bx_S p l e (rmD 2) S m args below meth c 2 E A (MQ below (va_Qv K (fun (u : HS) t => bx_B E A (w_H E a u) t) A) args S 0 0 A) 0 0 pc lv st ws
def V_X0_remember_26  (K : HS → Prop)  : Nat → HS → Int32 → Prop
  | 0, _, _ => False
  | n + 1, u, x1 => ((u.2.2.2.2.1 ≤ x1 → (V_X4_put 8 10 80 (fun u1 => (V_X4_put 8 10 80 (fun u2 => (V_X4_put 8 10 80 (fun u3 => K (u.1, u.2.1, u.2.2.1, u.2.2.2.1, u.2.2.2.2.1, u.2.2.2.2.2.1, u.2.2.2.2.2.2.1, u.2.2.2.2.2.2.2.1, u.2.2.2.2.2.2.2.2.1, u.2.2.2.2.2.2.2.2.2.1, u.2.2.2.2.2.2.2.2.2.2.1, u3)) u2 9 u.2.2.2.2.2.2.1)) u1 8 u.2.2.2.2.2.2.2.1)) u.2.2.2.2.2.2.2.2.2.2.2 7 u.2.2.2.2.2.1)) ∧
 (¬ u.2.2.2.2.1 ≤ x1 → (vp_in x1 7 ∧ (V_X4_put 8 10 80 (fun u4 => V_X0_remember_26 K n (u.1, u.2.1, u.2.2.1, u.2.2.2.1, u.2.2.2.2.1, u.2.2.2.2.2.1, u.2.2.2.2.2.2.1, u.2.2.2.2.2.2.2.1, u.2.2.2.2.2.2.2.2.1, u.2.2.2.2.2.2.2.2.2.1, u.2.2.2.2.2.2.2.2.2.2.1, u4) (x1 + 1)) u.2.2.2.2.2.2.2.2.2.2.2 x1 (u.2.2.2.1 (x1 : Int32).toNatClampNeg)))))
set_option maxRecDepth 20000 in
set_option maxHeartbeats 4000000 in
theorem t_X0_remember_26 {a : Nat → Nat} {K : HS → Prop} (C : bx_C p (rmD 2) S m args meth c cX0_remember 2 yX0_remember.cls none E A 0 0)   : ∀ (n : Nat) (u : HS) (x1 : Int32), V_X0_remember_26 K n u x1 → G_X0_remember p l e S m args below meth c E A a  K 26 [(0, .ref (a 0)), (1, .int x1)] [] (w_H E a u) := by
  intro n
  induction n with
  | zero =>
    intro u x1 hv
    exact False.elim hv
  | succ n ih =>
    intro u x1 hv
    unfold V_X0_remember_26 at hv
    refine bx_iload_n C 27 dX0_remember_26 rfl rfl rfl ?_
    refine bx_aload_n C 28 dX0_remember_27 rfl rfl rfl ?_
    refine bx_getf (v := .int u.2.2.2.2.1) C 31 0 4 inX0 rfl (by decide) fl_X0_42 dX0_remember_28 at_H_0 rfl rfl ?_
    refine bx_icmp_ge C 54 34 dX0_remember_31 (by decide) rfl (fun h => ?_) (fun h => ?_)
    · replace hv := hv.1 h
      refine bx_aload_n C 55 dX0_remember_54 rfl rfl rfl ?_
      refine bx_getf (v := .ref (a 11)) C 58 0 11 inX0 rfl (by decide) fl_X0_39 dX0_remember_55 at_H_0 rfl rfl ?_
      refine bx_bipush C 7 60 dX0_remember_58 bp_7 rfl ?_
      refine bx_aload_n C 61 dX0_remember_60 rfl rfl rfl ?_
      refine bx_getf (v := .int u.2.2.2.2.2.1) C 64 0 5 inX0 rfl (by decide) fl_X0_46 dX0_remember_61 at_H_0 rfl rfl ?_
      refine bx_qVv C 11 at_H_11 rfl 67 fc_X0_133 (k_X4_put l E (fun k => a (11 + k)) 8 10 80 _ _ _ _ hv) dX0_remember_64 ⟨rfl, rfl, Nat.le_of_ble_eq_true rfl, Nat.le_of_ble_eq_true rfl⟩ [11, 12] (fun u1 => w_H E a (u.1, u.2.1, u.2.2.1, u.2.2.2.1, u.2.2.2.2.1, u.2.2.2.2.2.1, u.2.2.2.2.2.2.1, u.2.2.2.2.2.2.2.1, u.2.2.2.2.2.2.2.2.1, u.2.2.2.2.2.2.2.2.2.1, u.2.2.2.2.2.2.2.2.2.2.1, u1)) ps_H_T_11 (by decide) ad_T pu_H_T_11 rfl rfl (Nat.le_of_ble_eq_true rfl) rfl (fun u1 hv => ?_)
      refine bx_aload_n C 68 dX0_remember_67 rfl rfl rfl ?_
      refine bx_getf (v := .ref (a 11)) C 71 0 11 inX0 rfl (by decide) fl_X0_39 dX0_remember_68 at_H_0 rfl rfl ?_
      refine bx_bipush C 8 73 dX0_remember_71 bp_8 rfl ?_
      refine bx_aload_n C 74 dX0_remember_73 rfl rfl rfl ?_
      refine bx_getf (v := .int u.2.2.2.2.2.2.2.1) C 77 0 7 inX0 rfl (by decide) fl_X0_52 dX0_remember_74 at_H_0 rfl rfl ?_
      refine bx_qVv C 11 at_H_11 rfl 80 fc_X0_133 (k_X4_put l E (fun k => a (11 + k)) 8 10 80 _ _ _ _ hv) dX0_remember_77 ⟨rfl, rfl, Nat.le_of_ble_eq_true rfl, Nat.le_of_ble_eq_true rfl⟩ [11, 12] (fun u2 => w_H E a (u.1, u.2.1, u.2.2.1, u.2.2.2.1, u.2.2.2.2.1, u.2.2.2.2.2.1, u.2.2.2.2.2.2.1, u.2.2.2.2.2.2.2.1, u.2.2.2.2.2.2.2.2.1, u.2.2.2.2.2.2.2.2.2.1, u.2.2.2.2.2.2.2.2.2.2.1, u2)) ps_H_T_11 (by decide) ad_T pu_H_T_11 rfl rfl (Nat.le_of_ble_eq_true rfl) rfl (fun u2 hv => ?_)
      refine bx_aload_n C 81 dX0_remember_80 rfl rfl rfl ?_
      refine bx_getf (v := .ref (a 11)) C 84 0 11 inX0 rfl (by decide) fl_X0_39 dX0_remember_81 at_H_0 rfl rfl ?_
      refine bx_bipush C 9 86 dX0_remember_84 bp_9 rfl ?_
      refine bx_aload_n C 87 dX0_remember_86 rfl rfl rfl ?_
      refine bx_getf (v := .int u.2.2.2.2.2.2.1) C 90 0 6 inX0 rfl (by decide) fl_X0_49 dX0_remember_87 at_H_0 rfl rfl ?_
      refine bx_qVv C 11 at_H_11 rfl 93 fc_X0_133 (k_X4_put l E (fun k => a (11 + k)) 8 10 80 _ _ _ _ hv) dX0_remember_90 ⟨rfl, rfl, Nat.le_of_ble_eq_true rfl, Nat.le_of_ble_eq_true rfl⟩ [11, 12] (fun u3 => w_H E a (u.1, u.2.1, u.2.2.1, u.2.2.2.1, u.2.2.2.2.1, u.2.2.2.2.2.1, u.2.2.2.2.2.2.1, u.2.2.2.2.2.2.2.1, u.2.2.2.2.2.2.2.2.1, u.2.2.2.2.2.2.2.2.2.1, u.2.2.2.2.2.2.2.2.2.2.1, u3)) ps_H_T_11 (by decide) ad_T pu_H_T_11 rfl rfl (Nat.le_of_ble_eq_true rfl) rfl (fun u3 hv => ?_)
      exact bx_vret C (u.1, u.2.1, u.2.2.1, u.2.2.2.1, u.2.2.2.2.1, u.2.2.2.2.2.1, u.2.2.2.2.2.2.1, u.2.2.2.2.2.2.2.1, u.2.2.2.2.2.2.2.2.1, u.2.2.2.2.2.2.2.2.2.1, u.2.2.2.2.2.2.2.2.2.2.1, u3) rfl dX0_remember_93 rfl hv
    · replace hv := hv.2 h
      refine bx_aload_n C 35 dX0_remember_34 rfl rfl rfl ?_
      refine bx_getf (v := .ref (a 11)) C 38 0 11 inX0 rfl (by decide) fl_X0_39 dX0_remember_35 at_H_0 rfl rfl ?_
      refine bx_iload_n C 39 dX0_remember_38 rfl rfl rfl ?_
      refine bx_aload_n C 40 dX0_remember_39 rfl rfl rfl ?_
      refine bx_getf (v := .ref (a 4)) C 43 0 3 inX0 rfl (by decide) fl_X0_21 dX0_remember_40 at_H_0 rfl rfl ?_
      refine bx_iload_n C 44 dX0_remember_43 rfl rfl rfl ?_
      refine bx_iald (f := u.2.2.2.1) C 45 4 dX0_remember_44 at_H_4 hv.1 rfl ?_
      replace hv := hv.2
      refine bx_qVv C 11 at_H_11 rfl 48 fc_X0_133 (k_X4_put l E (fun k => a (11 + k)) 8 10 80 _ _ _ _ hv) dX0_remember_45 ⟨rfl, rfl, Nat.le_of_ble_eq_true rfl, Nat.le_of_ble_eq_true rfl⟩ [11, 12] (fun u4 => w_H E a (u.1, u.2.1, u.2.2.1, u.2.2.2.1, u.2.2.2.2.1, u.2.2.2.2.2.1, u.2.2.2.2.2.2.1, u.2.2.2.2.2.2.2.1, u.2.2.2.2.2.2.2.2.1, u.2.2.2.2.2.2.2.2.2.1, u.2.2.2.2.2.2.2.2.2.2.1, u4)) ps_H_T_11 (by decide) ad_T pu_H_T_11 rfl rfl (Nat.le_of_ble_eq_true rfl) rfl (fun u4 hv => ?_)
      refine bx_iinc C 1 51 dX0_remember_48 rfl (by decide) ic_1 rfl ?_
      refine bx_goto C 26 dX0_remember_51 (by decide) ?_
      exact bx_cut [1, 0] (w_H E a (u.1, u.2.1, u.2.2.1, u.2.2.2.1, u.2.2.2.2.1, u.2.2.2.2.2.1, u.2.2.2.2.2.2.1, u.2.2.2.2.2.2.2.1, u.2.2.2.2.2.2.2.2.1, u.2.2.2.2.2.2.2.2.2.1, u.2.2.2.2.2.2.2.2.2.2.1, u4)) rfl rfl (ih (u.1, u.2.1, u.2.2.1, u.2.2.2.1, u.2.2.2.2.1, u.2.2.2.2.2.1, u.2.2.2.2.2.2.1, u.2.2.2.2.2.2.2.1, u.2.2.2.2.2.2.2.2.1, u.2.2.2.2.2.2.2.2.2.1, u.2.2.2.2.2.2.2.2.2.2.1, u4) (x1 + 1) hv)
def V_X0_remember_17  (K : HS → Prop)  (u : HS)  : Prop := (V_X4_openRow 8 10 80 (fun u5 => ∃ n6, V_X0_remember_26 K n6 (u.1, u.2.1, u.2.2.1, u.2.2.2.1, u.2.2.2.2.1, u.2.2.2.2.2.1, u.2.2.2.2.2.2.1, u.2.2.2.2.2.2.2.1, u.2.2.2.2.2.2.2.2.1, u.2.2.2.2.2.2.2.2.2.1, u.2.2.2.2.2.2.2.2.2.2.1, u5) 0) u.2.2.2.2.2.2.2.2.2.2.2 )
set_option maxRecDepth 20000 in
set_option maxHeartbeats 4000000 in
theorem t_X0_remember_17 {a : Nat → Nat} {K : HS → Prop} (C : bx_C p (rmD 2) S m args meth c cX0_remember 2 yX0_remember.cls none E A 0 0)   (u : HS)  (hv : V_X0_remember_17 K u ) : G_X0_remember p l e S m args below meth c E A a  K 17 [(0, .ref (a 0))] [] (w_H E a u) := by
  unfold V_X0_remember_17 at hv
  refine bx_aload_n C 18 dX0_remember_17 rfl rfl rfl ?_
  refine bx_getf (v := .ref (a 11)) C 21 0 11 inX0 rfl (by decide) fl_X0_39 dX0_remember_18 at_H_0 rfl rfl ?_
  refine bx_qVv C 11 at_H_11 rfl 24 fc_X0_130 (k_X4_openRow l E (fun k => a (11 + k)) 8 10 80 _ _ hv) dX0_remember_21 ⟨rfl, rfl, Nat.le_of_ble_eq_true rfl, Nat.le_of_ble_eq_true rfl⟩ [11, 12] (fun u5 => w_H E a (u.1, u.2.1, u.2.2.1, u.2.2.2.1, u.2.2.2.2.1, u.2.2.2.2.2.1, u.2.2.2.2.2.2.1, u.2.2.2.2.2.2.2.1, u.2.2.2.2.2.2.2.2.1, u.2.2.2.2.2.2.2.2.2.1, u.2.2.2.2.2.2.2.2.2.2.1, u5)) ps_H_T_11 (by decide) ad_T pu_H_T_11 rfl rfl (Nat.le_of_ble_eq_true rfl) rfl (fun u5 hv => ?_)
  refine bx_iconst C 0 25 dX0_remember_24 ic_0 rfl ?_
  refine bx_istore_n C 26 dX0_remember_25 rfl (by decide) rfl ?_
  obtain ⟨n6, hv⟩ := hv
  exact bx_cut [1, 0] (w_H E a (u.1, u.2.1, u.2.2.1, u.2.2.2.1, u.2.2.2.2.1, u.2.2.2.2.2.1, u.2.2.2.2.2.2.1, u.2.2.2.2.2.2.2.1, u.2.2.2.2.2.2.2.2.1, u.2.2.2.2.2.2.2.2.2.1, u.2.2.2.2.2.2.2.2.2.2.1, u5)) rfl rfl (t_X0_remember_26 C   n6 (u.1, u.2.1, u.2.2.1, u.2.2.2.1, u.2.2.2.2.1, u.2.2.2.2.2.1, u.2.2.2.2.2.2.1, u.2.2.2.2.2.2.2.1, u.2.2.2.2.2.2.2.2.1, u.2.2.2.2.2.2.2.2.2.1, u.2.2.2.2.2.2.2.2.2.2.1, u5) 0 hv)
def V_X0_remember  (K : HS → Prop)  (u : HS)  : Prop := (V_X4_isFull 8 10 80 (fun r7 => ((r7 = 0 → V_X0_remember_17 K u ) ∧
 (¬ r7 = 0 → (V_X4_dropFirst 8 10 80 (fun u8 => V_X0_remember_17 K (u.1, u.2.1, u.2.2.1, u.2.2.2.1, u.2.2.2.2.1, u.2.2.2.2.2.1, u.2.2.2.2.2.2.1, u.2.2.2.2.2.2.2.1, u.2.2.2.2.2.2.2.2.1, u.2.2.2.2.2.2.2.2.2.1, u.2.2.2.2.2.2.2.2.2.2.1, u8) ) u.2.2.2.2.2.2.2.2.2.2.2 )))) u.2.2.2.2.2.2.2.2.2.2.2 )
set_option maxRecDepth 20000 in
set_option maxHeartbeats 4000000 in
theorem t_X0_remember_0 {a : Nat → Nat} {K : HS → Prop} (C : bx_C p (rmD 2) S m args meth c cX0_remember 2 yX0_remember.cls none E A 0 0)   (u : HS)  (hv : V_X0_remember K u ) : G_X0_remember p l e S m args below meth c E A a  K 0 [(0, .ref (a 0))] [] (w_H E a u) := by
  unfold V_X0_remember at hv
  refine bx_aload_n C 1 dX0_remember_0 rfl rfl rfl ?_
  refine bx_getf (v := .ref (a 11)) C 4 0 11 inX0 rfl (by decide) fl_X0_39 dX0_remember_1 at_H_0 rfl rfl ?_
  refine bx_pVi C 11 at_H_11 rfl 7 fc_X0_123 (k_X4_isFull l E (fun k => a (11 + k)) 8 10 80 _ _ hv) dX0_remember_4 ⟨rfl, rfl, Nat.le_of_ble_eq_true rfl, Nat.le_of_ble_eq_true rfl⟩ [11, 12] ps_H_T_11 (by decide) rfl rfl (Nat.le_of_ble_eq_true rfl) rfl (fun r7 hv => ?_)
  refine bx_if_eq C 17 10 dX0_remember_7 (by decide) rfl (fun h => ?_) (fun h => ?_)
  · replace hv := hv.1 h
    exact bx_cut [0] (w_H E a u) rfl rfl (t_X0_remember_17 C   u  hv)
  · replace hv := hv.2 h
    refine bx_aload_n C 11 dX0_remember_10 rfl rfl rfl ?_
    refine bx_getf (v := .ref (a 11)) C 14 0 11 inX0 rfl (by decide) fl_X0_39 dX0_remember_11 at_H_0 rfl rfl ?_
    refine bx_qVv C 11 at_H_11 rfl 17 fc_X0_127 (k_X4_dropFirst l E (fun k => a (11 + k)) 8 10 80 _ _ hv) dX0_remember_14 ⟨rfl, rfl, Nat.le_of_ble_eq_true rfl, Nat.le_of_ble_eq_true rfl⟩ [11, 12] (fun u8 => w_H E a (u.1, u.2.1, u.2.2.1, u.2.2.2.1, u.2.2.2.2.1, u.2.2.2.2.2.1, u.2.2.2.2.2.2.1, u.2.2.2.2.2.2.2.1, u.2.2.2.2.2.2.2.2.1, u.2.2.2.2.2.2.2.2.2.1, u.2.2.2.2.2.2.2.2.2.2.1, u8)) ps_H_T_11 (by decide) ad_T pu_H_T_11 rfl rfl (Nat.le_of_ble_eq_true rfl) rfl (fun u8 hv => ?_)
    exact bx_cut [0] (w_H E a (u.1, u.2.1, u.2.2.1, u.2.2.2.1, u.2.2.2.2.1, u.2.2.2.2.2.1, u.2.2.2.2.2.2.1, u.2.2.2.2.2.2.2.1, u.2.2.2.2.2.2.2.2.1, u.2.2.2.2.2.2.2.2.2.1, u.2.2.2.2.2.2.2.2.2.2.1, u8)) rfl rfl (t_X0_remember_17 C   (u.1, u.2.1, u.2.2.1, u.2.2.2.1, u.2.2.2.2.1, u.2.2.2.2.2.1, u.2.2.2.2.2.2.1, u.2.2.2.2.2.2.2.1, u.2.2.2.2.2.2.2.2.1, u.2.2.2.2.2.2.2.2.2.1, u.2.2.2.2.2.2.2.2.2.2.1, u8)  hv)
theorem k_X0_remember (l : Launch) (E : bx_E) (a : Nat → Nat)  (K : HS → Prop) (u : HS)  (hv : V_X0_remember  K u ) : bx_Mv l E yX0_remember cX0_remember 2 none (rmD 2) [.ref (a 0)] (fun (u : HS) => w_H E a u) u K :=
  bx_metv (by decide +kernel) (Nat.le_of_ble_eq_true rfl) (fun p e S m below meth c C => t_X0_remember_0 C u  hv)
abbrev G_X0_goBack (p : Program) (l : Launch) (e : Env) (S : State) (m : MethodId) (args : Array Value) (below : List Frame) (meth : Method) (c : Code) (E : bx_E) (A : Nat → Prop) (a : Nat → Nat)  (K : HS → Prop) (pc : Nat) (lv : List (Nat × Value)) (st : List Value) (ws : va_W) : Prop := bx_S p l e (rmD 2) S m args below meth c 3 E A (MQ below (va_Qv K (fun (u : HS) t => bx_B E A (w_H E a u) t) A) args S 0 0 A) 0 0 pc lv st ws
def V_X0_goBack_12  (K : HS → Prop)  : Nat → HS → Int32 → Int32 → Prop
  | 0, _, _, _ => False
  | n + 1, u, x1, x2 => ((u.2.2.2.2.1 ≤ x2 → (V_X4_at 8 10 80 (fun r1 => (V_X4_at 8 10 80 (fun r2 => (V_X4_at 8 10 80 (fun r3 => (V_X4_dropLast 8 10 80 (fun u4 => K (u.1, u.2.1, u.2.2.1, u.2.2.2.1, u.2.2.2.2.1, r1, r3, r2, u.2.2.2.2.2.2.2.2.1, u.2.2.2.2.2.2.2.2.2.1, u.2.2.2.2.2.2.2.2.2.2.1, u4)) u.2.2.2.2.2.2.2.2.2.2.2 )) u.2.2.2.2.2.2.2.2.2.2.2 x1 9)) u.2.2.2.2.2.2.2.2.2.2.2 x1 8)) u.2.2.2.2.2.2.2.2.2.2.2 x1 7)) ∧
 (¬ u.2.2.2.2.1 ≤ x2 → (V_X4_at 8 10 80 (fun r5 => (vp_in x2 7 ∧ V_X0_goBack_12 K n (u.1, u.2.1, u.2.2.1, (upd u.2.2.2.1 (x2 : Int32).toNatClampNeg r5), u.2.2.2.2) x1 (x2 + 1))) u.2.2.2.2.2.2.2.2.2.2.2 x1 x2)))
set_option maxRecDepth 20000 in
set_option maxHeartbeats 4000000 in
theorem t_X0_goBack_12 {a : Nat → Nat} {K : HS → Prop} (C : bx_C p (rmD 2) S m args meth c cX0_goBack 3 yX0_goBack.cls none E A 0 0)   : ∀ (n : Nat) (u : HS) (x1 : Int32) (x2 : Int32), V_X0_goBack_12 K n u x1 x2 → G_X0_goBack p l e S m args below meth c E A a  K 12 [(0, .ref (a 0)), (1, .int x1), (2, .int x2)] [] (w_H E a u) := by
  intro n
  induction n with
  | zero =>
    intro u x1 x2 hv
    exact False.elim hv
  | succ n ih =>
    intro u x1 x2 hv
    unfold V_X0_goBack_12 at hv
    refine bx_iload_n C 13 dX0_goBack_12 rfl rfl rfl ?_
    refine bx_aload_n C 14 dX0_goBack_13 rfl rfl rfl ?_
    refine bx_getf (v := .int u.2.2.2.2.1) C 17 0 4 inX0 rfl (by decide) fl_X0_42 dX0_goBack_14 at_H_0 rfl rfl ?_
    refine bx_icmp_ge C 41 20 dX0_goBack_17 (by decide) rfl (fun h => ?_) (fun h => ?_)
    · replace hv := hv.1 h
      refine bx_aload_n C 42 dX0_goBack_41 rfl rfl rfl ?_
      refine bx_aload_n C 43 dX0_goBack_42 rfl rfl rfl ?_
      refine bx_getf (v := .ref (a 11)) C 46 0 11 inX0 rfl (by decide) fl_X0_39 dX0_goBack_43 at_H_0 rfl rfl ?_
      refine bx_iload_n C 47 dX0_goBack_46 rfl rfl rfl ?_
      refine bx_bipush C 7 49 dX0_goBack_47 bp_7 rfl ?_
      refine bx_pVi C 11 at_H_11 rfl 52 fc_X0_139 (k_X4_at l E (fun k => a (11 + k)) 8 10 80 _ _ _ _ hv) dX0_goBack_49 ⟨rfl, rfl, Nat.le_of_ble_eq_true rfl, Nat.le_of_ble_eq_true rfl⟩ [11, 12] ps_H_T_11 (by decide) rfl rfl (Nat.le_of_ble_eq_true rfl) rfl (fun r1 hv => ?_)
      refine bx_putf C 55 0 5 (w_H E a (u.1, u.2.1, u.2.2.1, u.2.2.2.1, u.2.2.2.2.1, r1, u.2.2.2.2.2.2)) inX0 tyX0 tyX0_ok nmX0 rfl (by decide) fl_X0_46 rfl dX0_goBack_52 rfl rfl rfl (Nat.le_of_ble_eq_true rfl) rfl rfl ?_
      refine bx_aload_n C 56 dX0_goBack_55 rfl rfl rfl ?_
      refine bx_aload_n C 57 dX0_goBack_56 rfl rfl rfl ?_
      refine bx_getf (v := .ref (a 11)) C 60 0 11 inX0 rfl (by decide) fl_X0_39 dX0_goBack_57 at_H_0 rfl rfl ?_
      refine bx_iload_n C 61 dX0_goBack_60 rfl rfl rfl ?_
      refine bx_bipush C 8 63 dX0_goBack_61 bp_8 rfl ?_
      refine bx_pVi C 11 at_H_11 rfl 66 fc_X0_139 (k_X4_at l E (fun k => a (11 + k)) 8 10 80 _ _ _ _ hv) dX0_goBack_63 ⟨rfl, rfl, Nat.le_of_ble_eq_true rfl, Nat.le_of_ble_eq_true rfl⟩ [11, 12] ps_H_T_11 (by decide) rfl rfl (Nat.le_of_ble_eq_true rfl) rfl (fun r2 hv => ?_)
      refine bx_putf C 69 0 7 (w_H E a (u.1, u.2.1, u.2.2.1, u.2.2.2.1, u.2.2.2.2.1, r1, u.2.2.2.2.2.2.1, r2, u.2.2.2.2.2.2.2.2)) inX0 tyX0 tyX0_ok nmX0 rfl (by decide) fl_X0_52 rfl dX0_goBack_66 rfl rfl rfl (Nat.le_of_ble_eq_true rfl) rfl rfl ?_
      refine bx_aload_n C 70 dX0_goBack_69 rfl rfl rfl ?_
      refine bx_aload_n C 71 dX0_goBack_70 rfl rfl rfl ?_
      refine bx_getf (v := .ref (a 11)) C 74 0 11 inX0 rfl (by decide) fl_X0_39 dX0_goBack_71 at_H_0 rfl rfl ?_
      refine bx_iload_n C 75 dX0_goBack_74 rfl rfl rfl ?_
      refine bx_bipush C 9 77 dX0_goBack_75 bp_9 rfl ?_
      refine bx_pVi C 11 at_H_11 rfl 80 fc_X0_139 (k_X4_at l E (fun k => a (11 + k)) 8 10 80 _ _ _ _ hv) dX0_goBack_77 ⟨rfl, rfl, Nat.le_of_ble_eq_true rfl, Nat.le_of_ble_eq_true rfl⟩ [11, 12] ps_H_T_11 (by decide) rfl rfl (Nat.le_of_ble_eq_true rfl) rfl (fun r3 hv => ?_)
      refine bx_putf C 83 0 6 (w_H E a (u.1, u.2.1, u.2.2.1, u.2.2.2.1, u.2.2.2.2.1, r1, r3, r2, u.2.2.2.2.2.2.2.2)) inX0 tyX0 tyX0_ok nmX0 rfl (by decide) fl_X0_49 rfl dX0_goBack_80 rfl rfl rfl (Nat.le_of_ble_eq_true rfl) rfl rfl ?_
      refine bx_aload_n C 84 dX0_goBack_83 rfl rfl rfl ?_
      refine bx_getf (v := .ref (a 11)) C 87 0 11 inX0 rfl (by decide) fl_X0_39 dX0_goBack_84 at_H_0 rfl rfl ?_
      refine bx_qVv C 11 at_H_11 rfl 90 fc_X0_142 (k_X4_dropLast l E (fun k => a (11 + k)) 8 10 80 _ _ hv) dX0_goBack_87 ⟨rfl, rfl, Nat.le_of_ble_eq_true rfl, Nat.le_of_ble_eq_true rfl⟩ [11, 12] (fun u4 => w_H E a (u.1, u.2.1, u.2.2.1, u.2.2.2.1, u.2.2.2.2.1, r1, r3, r2, u.2.2.2.2.2.2.2.2.1, u.2.2.2.2.2.2.2.2.2.1, u.2.2.2.2.2.2.2.2.2.2.1, u4)) ps_H_T_11 (by decide) ad_T pu_H_T_11 rfl rfl (Nat.le_of_ble_eq_true rfl) rfl (fun u4 hv => ?_)
      exact bx_vret C (u.1, u.2.1, u.2.2.1, u.2.2.2.1, u.2.2.2.2.1, r1, r3, r2, u.2.2.2.2.2.2.2.2.1, u.2.2.2.2.2.2.2.2.2.1, u.2.2.2.2.2.2.2.2.2.2.1, u4) rfl dX0_goBack_90 rfl hv
    · replace hv := hv.2 h
      refine bx_aload_n C 21 dX0_goBack_20 rfl rfl rfl ?_
      refine bx_getf (v := .ref (a 4)) C 24 0 3 inX0 rfl (by decide) fl_X0_21 dX0_goBack_21 at_H_0 rfl rfl ?_
      refine bx_iload_n C 25 dX0_goBack_24 rfl rfl rfl ?_
      refine bx_aload_n C 26 dX0_goBack_25 rfl rfl rfl ?_
      refine bx_getf (v := .ref (a 11)) C 29 0 11 inX0 rfl (by decide) fl_X0_39 dX0_goBack_26 at_H_0 rfl rfl ?_
      refine bx_iload_n C 30 dX0_goBack_29 rfl rfl rfl ?_
      refine bx_iload_n C 31 dX0_goBack_30 rfl rfl rfl ?_
      refine bx_pVi C 11 at_H_11 rfl 34 fc_X0_139 (k_X4_at l E (fun k => a (11 + k)) 8 10 80 _ _ _ _ hv) dX0_goBack_31 ⟨rfl, rfl, Nat.le_of_ble_eq_true rfl, Nat.le_of_ble_eq_true rfl⟩ [11, 12] ps_H_T_11 (by decide) rfl rfl (Nat.le_of_ble_eq_true rfl) rfl (fun r5 hv => ?_)
      refine bx_iast C 35 4 (w_H E a (u.1, u.2.1, u.2.2.1, (upd u.2.2.2.1 (x2 : Int32).toNatClampNeg r5), u.2.2.2.2)) dX0_goBack_34 rfl hv.1 rfl rfl ?_
      replace hv := hv.2
      refine bx_iinc C 1 38 dX0_goBack_35 rfl (by decide) ic_1 rfl ?_
      refine bx_goto C 12 dX0_goBack_38 (by decide) ?_
      exact bx_cut [1, 2, 0] (w_H E a (u.1, u.2.1, u.2.2.1, (upd u.2.2.2.1 (x2 : Int32).toNatClampNeg r5), u.2.2.2.2)) rfl rfl (ih (u.1, u.2.1, u.2.2.1, (upd u.2.2.2.1 (x2 : Int32).toNatClampNeg r5), u.2.2.2.2) x1 (x2 + 1) hv)
def V_X0_goBack  (K : HS → Prop)  (u : HS)  : Prop := ∃ n6, V_X0_goBack_12 K n6 u (u.2.2.2.2.2.2.2.2.2.2.2.2 - 1) 0
set_option maxRecDepth 20000 in
set_option maxHeartbeats 4000000 in
theorem t_X0_goBack_0 {a : Nat → Nat} {K : HS → Prop} (C : bx_C p (rmD 2) S m args meth c cX0_goBack 3 yX0_goBack.cls none E A 0 0)   (u : HS)  (hv : V_X0_goBack K u ) : G_X0_goBack p l e S m args below meth c E A a  K 0 [(0, .ref (a 0))] [] (w_H E a u) := by
  unfold V_X0_goBack at hv
  refine bx_aload_n C 1 dX0_goBack_0 rfl rfl rfl ?_
  refine bx_getf (v := .ref (a 11)) C 4 0 11 inX0 rfl (by decide) fl_X0_39 dX0_goBack_1 at_H_0 rfl rfl ?_
  refine bx_getf (v := .int u.2.2.2.2.2.2.2.2.2.2.2.2) C 7 11 3 inX4 rfl (by decide) fl_X0_136 dX0_goBack_4 at_H_11 rfl rfl ?_
  refine bx_iconst C 1 8 dX0_goBack_7 ic_1 rfl ?_
  refine bx_isub C 9 dX0_goBack_8 rfl ?_
  refine bx_istore_n C 10 dX0_goBack_9 rfl (by decide) rfl ?_
  refine bx_iconst C 0 11 dX0_goBack_10 ic_0 rfl ?_
  refine bx_istore_n C 12 dX0_goBack_11 rfl (by decide) rfl ?_
  obtain ⟨n6, hv⟩ := hv
  exact bx_cut [2, 1, 0] (w_H E a u) rfl rfl (t_X0_goBack_12 C   n6 u (u.2.2.2.2.2.2.2.2.2.2.2.2 - 1) 0 hv)
theorem k_X0_goBack (l : Launch) (E : bx_E) (a : Nat → Nat)  (K : HS → Prop) (u : HS)  (hv : V_X0_goBack  K u ) : bx_Mv l E yX0_goBack cX0_goBack 3 none (rmD 2) [.ref (a 0)] (fun (u : HS) => w_H E a u) u K :=
  bx_metv (by decide +kernel) (Nat.le_of_ble_eq_true rfl) (fun p e S m below meth c C => t_X0_goBack_0 C u  hv)
abbrev G_X0_mixInto (p : Program) (l : Launch) (e : Env) (S : State) (m : MethodId) (args : Array Value) (below : List Frame) (meth : Method) (c : Code) (E : bx_E) (A : Nat → Prop) (a : Nat → Nat)  (u : HS) (K : Int64 → Prop) (pc : Nat) (lv : List (Nat × Value)) (st : List Value) (ws : va_W) : Prop := bx_S p l e (rmD 1) S m args below meth c 6 E A (MQ below (va_Ql (fun r (_ : Unit) => K r) (fun (_ : Unit) t => bx_B E A (w_H E a u) t) A) args S 0 0 A) 0 0 pc lv st ws
def V_X0_mixInto_47  (K : Int64 → Prop)  : Nat → HS → Int64 → Int32 → Prop
  | 0, _, _, _ => False
  | n + 1, u, x3, x5 => ((u.2.2.2.2.1 ≤ x5 → (V_X4_mixInto 5 3 15 (fun r1 => (V_X4_mixInto 6 3 18 (fun r2 => (V_X4_mixInto 6 4 24 (fun r3 => K r3) u.2.2.2.2.2.2.2.2.2.2.1 r2)) u.2.2.2.2.2.2.2.2.2.1 r1)) u.2.2.2.2.2.2.2.2.1 x3)) ∧
 (¬ u.2.2.2.2.1 ≤ x5 → (vp_in x5 7 ∧ (vp_in x5 7 ∧ (vp_in x5 7 ∧ V_X0_mixInto_47 K n u ((31 * ((31 * ((31 * x3) + ((u.2.1 (x5 : Int32).toNatClampNeg) : Int32).toInt64)) + ((u.2.2.1 (x5 : Int32).toNatClampNeg) : Int32).toInt64)) + ((u.2.2.2.1 (x5 : Int32).toNatClampNeg) : Int32).toInt64) (x5 + 1))))))
set_option maxRecDepth 20000 in
set_option maxHeartbeats 4000000 in
theorem t_X0_mixInto_47 {a : Nat → Nat} {K : Int64 → Prop} (C : bx_C p (rmD 1) S m args meth c cX0_mixInto 6 yX0_mixInto.cls (some .long) E A 0 0) (u : HS)  : ∀ (n : Nat)  (x3 : Int64) (x5 : Int32), V_X0_mixInto_47 K n u x3 x5 → G_X0_mixInto p l e S m args below meth c E A a  u K 47 [(0, .ref (a 0)), (3, .long x3), (5, .int x5)] [] (w_H E a u) := by
  intro n
  induction n with
  | zero =>
    intro x3 x5 hv
    exact False.elim hv
  | succ n ih =>
    intro x3 x5 hv
    unfold V_X0_mixInto_47 at hv
    refine bx_iload C 49 dX0_mixInto_47 rfl rfl ?_
    refine bx_aload_n C 50 dX0_mixInto_49 rfl rfl rfl ?_
    refine bx_getf (v := .int u.2.2.2.2.1) C 53 0 4 inX0 rfl (by decide) fl_X0_42 dX0_mixInto_50 at_H_0 rfl rfl ?_
    refine bx_icmp_ge C 107 56 dX0_mixInto_53 (by decide) rfl (fun h => ?_) (fun h => ?_)
    · replace hv := hv.1 h
      refine bx_aload_n C 108 dX0_mixInto_107 rfl rfl rfl ?_
      refine bx_getf (v := .ref (a 5)) C 111 0 8 inX0 rfl (by decide) fl_X0_29 dX0_mixInto_108 at_H_0 rfl rfl ?_
      refine bx_lload_n C 112 dX0_mixInto_111 rfl rfl rfl ?_
      refine bx_pVl C 5 at_H_5 rfl 115 fc_X0_147 (k_X4_mixInto l E (fun k => a (5 + k)) 5 3 15 _ _ _ hv) dX0_mixInto_112 ⟨rfl, rfl, Nat.le_of_ble_eq_true rfl, Nat.le_of_ble_eq_true rfl⟩ [5, 6] ps_H_T_5 (by decide) rfl rfl (Nat.le_of_ble_eq_true rfl) rfl (fun r1 hv => ?_)
      refine bx_lstore_n C 116 dX0_mixInto_115 rfl (by decide) rfl ?_
      refine bx_aload_n C 117 dX0_mixInto_116 rfl rfl rfl ?_
      refine bx_getf (v := .ref (a 7)) C 120 0 9 inX0 rfl (by decide) fl_X0_33 dX0_mixInto_117 at_H_0 rfl rfl ?_
      refine bx_lload_n C 121 dX0_mixInto_120 rfl rfl rfl ?_
      refine bx_pVl C 7 at_H_7 rfl 124 fc_X0_147 (k_X4_mixInto l E (fun k => a (7 + k)) 6 3 18 _ _ _ hv) dX0_mixInto_121 ⟨rfl, rfl, Nat.le_of_ble_eq_true rfl, Nat.le_of_ble_eq_true rfl⟩ [7, 8] ps_H_T_7 (by decide) rfl rfl (Nat.le_of_ble_eq_true rfl) rfl (fun r2 hv => ?_)
      refine bx_lstore_n C 125 dX0_mixInto_124 rfl (by decide) rfl ?_
      refine bx_aload_n C 126 dX0_mixInto_125 rfl rfl rfl ?_
      refine bx_getf (v := .ref (a 9)) C 129 0 10 inX0 rfl (by decide) fl_X0_36 dX0_mixInto_126 at_H_0 rfl rfl ?_
      refine bx_lload_n C 130 dX0_mixInto_129 rfl rfl rfl ?_
      refine bx_pVl C 9 at_H_9 rfl 133 fc_X0_147 (k_X4_mixInto l E (fun k => a (9 + k)) 6 4 24 _ _ _ hv) dX0_mixInto_130 ⟨rfl, rfl, Nat.le_of_ble_eq_true rfl, Nat.le_of_ble_eq_true rfl⟩ [9, 10] ps_H_T_9 (by decide) rfl rfl (Nat.le_of_ble_eq_true rfl) rfl (fun r3 hv => ?_)
      exact bx_lret C () rfl dX0_mixInto_133 rfl hv
    · replace hv := hv.2 h
      refine bx_ldc2 C 59 cs_X0_145 dX0_mixInto_56 rfl ?_
      refine bx_lload_n C 60 dX0_mixInto_59 rfl rfl rfl ?_
      refine bx_lmul C 61 dX0_mixInto_60 rfl ?_
      refine bx_aload_n C 62 dX0_mixInto_61 rfl rfl rfl ?_
      refine bx_getf (v := .ref (a 2)) C 65 0 1 inX0 rfl (by decide) fl_X0_15 dX0_mixInto_62 at_H_0 rfl rfl ?_
      refine bx_iload C 67 dX0_mixInto_65 rfl rfl ?_
      refine bx_iald (f := u.2.1) C 68 2 dX0_mixInto_67 at_H_2 hv.1 rfl ?_
      replace hv := hv.2
      refine bx_i2l C 69 dX0_mixInto_68 rfl ?_
      refine bx_ladd C 70 dX0_mixInto_69 rfl ?_
      refine bx_lstore_n C 71 dX0_mixInto_70 rfl (by decide) rfl ?_
      refine bx_ldc2 C 74 cs_X0_145 dX0_mixInto_71 rfl ?_
      refine bx_lload_n C 75 dX0_mixInto_74 rfl rfl rfl ?_
      refine bx_lmul C 76 dX0_mixInto_75 rfl ?_
      refine bx_aload_n C 77 dX0_mixInto_76 rfl rfl rfl ?_
      refine bx_getf (v := .ref (a 3)) C 80 0 2 inX0 rfl (by decide) fl_X0_18 dX0_mixInto_77 at_H_0 rfl rfl ?_
      refine bx_iload C 82 dX0_mixInto_80 rfl rfl ?_
      refine bx_iald (f := u.2.2.1) C 83 3 dX0_mixInto_82 at_H_3 hv.1 rfl ?_
      replace hv := hv.2
      refine bx_i2l C 84 dX0_mixInto_83 rfl ?_
      refine bx_ladd C 85 dX0_mixInto_84 rfl ?_
      refine bx_lstore_n C 86 dX0_mixInto_85 rfl (by decide) rfl ?_
      refine bx_ldc2 C 89 cs_X0_145 dX0_mixInto_86 rfl ?_
      refine bx_lload_n C 90 dX0_mixInto_89 rfl rfl rfl ?_
      refine bx_lmul C 91 dX0_mixInto_90 rfl ?_
      refine bx_aload_n C 92 dX0_mixInto_91 rfl rfl rfl ?_
      refine bx_getf (v := .ref (a 4)) C 95 0 3 inX0 rfl (by decide) fl_X0_21 dX0_mixInto_92 at_H_0 rfl rfl ?_
      refine bx_iload C 97 dX0_mixInto_95 rfl rfl ?_
      refine bx_iald (f := u.2.2.2.1) C 98 4 dX0_mixInto_97 at_H_4 hv.1 rfl ?_
      replace hv := hv.2
      refine bx_i2l C 99 dX0_mixInto_98 rfl ?_
      refine bx_ladd C 100 dX0_mixInto_99 rfl ?_
      refine bx_lstore_n C 101 dX0_mixInto_100 rfl (by decide) rfl ?_
      refine bx_iinc C 1 104 dX0_mixInto_101 rfl (by decide) ic_1 rfl ?_
      refine bx_goto C 47 dX0_mixInto_104 (by decide) ?_
      exact bx_cut [2, 1, 0] (w_H E a u) rfl rfl (ih  ((31 * ((31 * ((31 * x3) + ((u.2.1 (x5 : Int32).toNatClampNeg) : Int32).toInt64)) + ((u.2.2.1 (x5 : Int32).toNatClampNeg) : Int32).toInt64)) + ((u.2.2.2.1 (x5 : Int32).toNatClampNeg) : Int32).toInt64) (x5 + 1) hv)
def V_X0_mixInto_5  (K : Int64 → Prop)  : Nat → HS → Int64 → Int32 → Prop
  | 0, _, _, _ => False
  | n + 1, u, x3, x5 => ((5 ≤ x5 → ∃ n4, V_X0_mixInto_47 K n4 u ((31 * x3) + (u.2.2.2.2.2.1 : Int32).toInt64) 0) ∧
 (¬ 5 ≤ x5 → (vp_in x5 5 ∧ V_X0_mixInto_5 K n u ((31 * x3) + ((u.1 (x5 : Int32).toNatClampNeg) : Int32).toInt64) (x5 + 1))))
set_option maxRecDepth 20000 in
set_option maxHeartbeats 4000000 in
theorem t_X0_mixInto_5 {a : Nat → Nat} {K : Int64 → Prop} (C : bx_C p (rmD 1) S m args meth c cX0_mixInto 6 yX0_mixInto.cls (some .long) E A 0 0) (u : HS)  : ∀ (n : Nat)  (x3 : Int64) (x5 : Int32), V_X0_mixInto_5 K n u x3 x5 → G_X0_mixInto p l e S m args below meth c E A a  u K 5 [(0, .ref (a 0)), (3, .long x3), (5, .int x5)] [] (w_H E a u) := by
  intro n
  induction n with
  | zero =>
    intro x3 x5 hv
    exact False.elim hv
  | succ n ih =>
    intro x3 x5 hv
    unfold V_X0_mixInto_5 at hv
    refine bx_iload C 7 dX0_mixInto_5 rfl rfl ?_
    refine bx_iconst C 5 8 dX0_mixInto_7 ic_5 rfl ?_
    refine bx_icmp_ge C 32 11 dX0_mixInto_8 (by decide) rfl (fun h => ?_) (fun h => ?_)
    · replace hv := hv.1 h
      refine bx_ldc2 C 35 cs_X0_145 dX0_mixInto_32 rfl ?_
      refine bx_lload_n C 36 dX0_mixInto_35 rfl rfl rfl ?_
      refine bx_lmul C 37 dX0_mixInto_36 rfl ?_
      refine bx_aload_n C 38 dX0_mixInto_37 rfl rfl rfl ?_
      refine bx_getf (v := .int u.2.2.2.2.2.1) C 41 0 5 inX0 rfl (by decide) fl_X0_46 dX0_mixInto_38 at_H_0 rfl rfl ?_
      refine bx_i2l C 42 dX0_mixInto_41 rfl ?_
      refine bx_ladd C 43 dX0_mixInto_42 rfl ?_
      refine bx_lstore_n C 44 dX0_mixInto_43 rfl (by decide) rfl ?_
      refine bx_iconst C 0 45 dX0_mixInto_44 ic_0 rfl ?_
      refine bx_istore C 47 dX0_mixInto_45 (by decide) rfl ?_
      obtain ⟨n4, hv⟩ := hv
      exact bx_cut [2, 1, 0] (w_H E a u) rfl rfl (t_X0_mixInto_47 C u  n4  ((31 * x3) + (u.2.2.2.2.2.1 : Int32).toInt64) 0 hv)
    · replace hv := hv.2 h
      refine bx_ldc2 C 14 cs_X0_145 dX0_mixInto_11 rfl ?_
      refine bx_lload_n C 15 dX0_mixInto_14 rfl rfl rfl ?_
      refine bx_lmul C 16 dX0_mixInto_15 rfl ?_
      refine bx_aload_n C 17 dX0_mixInto_16 rfl rfl rfl ?_
      refine bx_getf (v := .ref (a 1)) C 20 0 0 inX0 rfl (by decide) fl_X0_9 dX0_mixInto_17 at_H_0 rfl rfl ?_
      refine bx_iload C 22 dX0_mixInto_20 rfl rfl ?_
      refine bx_iald (f := u.1) C 23 1 dX0_mixInto_22 at_H_1 hv.1 rfl ?_
      replace hv := hv.2
      refine bx_i2l C 24 dX0_mixInto_23 rfl ?_
      refine bx_ladd C 25 dX0_mixInto_24 rfl ?_
      refine bx_lstore_n C 26 dX0_mixInto_25 rfl (by decide) rfl ?_
      refine bx_iinc C 1 29 dX0_mixInto_26 rfl (by decide) ic_1 rfl ?_
      refine bx_goto C 5 dX0_mixInto_29 (by decide) ?_
      exact bx_cut [2, 1, 0] (w_H E a u) rfl rfl (ih  ((31 * x3) + ((u.1 (x5 : Int32).toNatClampNeg) : Int32).toInt64) (x5 + 1) hv)
def V_X0_mixInto  (K : Int64 → Prop)  (u : HS) (x1 : Int64) : Prop := ∃ n5, V_X0_mixInto_5 K n5 u x1 0
set_option maxRecDepth 20000 in
set_option maxHeartbeats 4000000 in
theorem t_X0_mixInto_0 {a : Nat → Nat} {K : Int64 → Prop} (C : bx_C p (rmD 1) S m args meth c cX0_mixInto 6 yX0_mixInto.cls (some .long) E A 0 0) (u : HS)   (x1 : Int64) (hv : V_X0_mixInto K u x1) : G_X0_mixInto p l e S m args below meth c E A a  u K 0 [(0, .ref (a 0)), (1, .long x1)] [] (w_H E a u) := by
  unfold V_X0_mixInto at hv
  refine bx_lload_n C 1 dX0_mixInto_0 rfl rfl rfl ?_
  refine bx_lstore_n C 2 dX0_mixInto_1 rfl (by decide) rfl ?_
  refine bx_iconst C 0 3 dX0_mixInto_2 ic_0 rfl ?_
  refine bx_istore C 5 dX0_mixInto_3 (by decide) rfl ?_
  obtain ⟨n5, hv⟩ := hv
  exact bx_cut [2, 1, 0] (w_H E a u) rfl rfl (t_X0_mixInto_5 C u  n5  x1 0 hv)
theorem k_X0_mixInto (l : Launch) (E : bx_E) (a : Nat → Nat)  (K : Int64 → Prop) (u : HS) (x1 : Int64) (hv : V_X0_mixInto  K u x1) : bx_Ml l E yX0_mixInto cX0_mixInto 6 (some .long) (rmD 1) [.ref (a 0), .long x1] (fun (_ : Unit) => w_H E a u) () (fun r (_ : Unit) => K r) :=
  bx_metl (by decide +kernel) (Nat.le_of_ble_eq_true rfl) (fun p e S m below meth c C => t_X0_mixInto_0 C u x1 hv)
end
