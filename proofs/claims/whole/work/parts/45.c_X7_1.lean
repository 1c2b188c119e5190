section
variable {p : Program} {l : Launch} {e : Env} {S : State} {m : MethodId} {args : Array Value} {below : List Frame} {meth : Method} {c : Code} {E : bx_E} {A : Nat → Prop}
abbrev G_X7_order (p : Program) (l : Launch) (e : Env) (S : State) (m : MethodId) (args : Array Value) (below : List Frame) (meth : Method) (c : Code) (E : bx_E) (A : Nat → Prop) (a : Nat → Nat)  (K : Int32 → US → Prop) (pc : Nat) (lv : List (Nat × Value)) (st : List Value) (ws : va_W) : Prop := bx_S p l e (rmD 5) S m args below meth c 2 E A (MQ below (va_Qi K (fun (u : US) t => bx_B E A (w_U E a u) t) A) args S 0 0 A) 0 0 pc lv st ws
def V_X7_order  (K : Int32 → US → Prop)  (u : US) (x1 : Int32) : Prop := (((-1) ≤ x1 → (V_X3_prepare (fun u1 => ((¬ x1 = (-1) → (V_X3_size (fun r2 => ((r2 ≤ x1 → K (-5) (u1.2, u.2.1, u.2.2.1, u.2.2.2.1, u.2.2.2.2.1, u.2.2.2.2.2.1, u1.1, u.2.2.2.2.2.2.2)) ∧
 (¬ r2 ≤ x1 → (V_X3_whoComes (fun r3 => K r3 (u1.2, u.2.1, u.2.2.1, u.2.2.2.1, u.2.2.2.2.1, u.2.2.2.2.2.1, u1.1, u.2.2.2.2.2.2.2)) (u1.1, u1.2) x1)))) u1.1 )) ∧
 (x1 = (-1) → (V_X3_leastFuss (fun r4 => K r4 (u1.2, u.2.1, u.2.2.1, u.2.2.2.1, u.2.2.2.2.1, u.2.2.2.2.2.1, u1.1, u.2.2.2.2.2.2.2)) u1.1 )))) (u.2.2.2.2.2.2.1, u.1) )) ∧
 (¬ (-1) ≤ x1 → (V_X7_refuseBad (fun r5 u6 => K r5 u6) u (-10))))
set_option maxRecDepth 20000 in
set_option maxHeartbeats 4000000 in
theorem t_X7_order_0 {a : Nat → Nat} {K : Int32 → US → Prop} (C : bx_C p (rmD 5) S m args meth c cX7_order 2 yX7_order.cls (some .int) E A 0 0)   (u : US) (x1 : Int32) (hv : V_X7_order K u x1) : G_X7_order p l e S m args below meth c E A a  K 0 [(0, .ref (a 0)), (1, .int x1)] [] (w_U E a u) := by
  unfold V_X7_order at hv
  refine bx_iload_n C 1 dX7_order_0 rfl rfl rfl ?_
  refine bx_iconst C (-1) 2 dX7_order_1 ic_m1 rfl ?_
  refine bx_icmp_ge C 12 5 dX7_order_2 (by decide) rfl (fun h => ?_) (fun h => ?_)
  · replace hv := hv.1 h
    refine bx_aload_n C 13 dX7_order_12 rfl rfl rfl ?_
    refine bx_getf (v := .ref (a 70)) C 16 0 5 inX7 rfl (by decide) fl_X7_37 dX7_order_13 at_U_0 rfl rfl ?_
    refine bx_aload_n C 17 dX7_order_16 rfl rfl rfl ?_
    refine bx_getf (v := .ref (a 1)) C 20 0 0 inX7 rfl (by decide) fl_X7_10 dX7_order_17 at_U_0 rfl rfl ?_
    refine bx_qVv C 70 at_U_70 rfl 23 fc_X7_172 (k_X3_prepare l E (fun k => a (70 + k)) (fun k => a (1 + k)) _ _ hv) dX7_order_20 ⟨rfl, rfl, Nat.le_of_ble_eq_true rfl, Nat.le_of_ble_eq_true rfl⟩ [70, 71, 1, 2, 3, 4, 5, 6, 7, 8, 9, 10, 11, 12, 13] (fun u1 => w_U E a (u1.2, u.2.1, u.2.2.1, u.2.2.2.1, u.2.2.2.2.1, u.2.2.2.2.2.1, u1.1, u.2.2.2.2.2.2.2)) ps_U_PH_70_1 (by decide) ad_PH pu_U_PH_70_1 rfl rfl (Nat.le_of_ble_eq_true rfl) rfl (fun u1 hv => ?_)
    refine bx_iload_n C 24 dX7_order_23 rfl rfl rfl ?_
    refine bx_iconst C (-1) 25 dX7_order_24 ic_m1 rfl ?_
    refine bx_icmp_ne C 36 28 dX7_order_25 (by decide) rfl (fun h => ?_) (fun h => ?_)
    · replace hv := hv.1 h
      refine bx_iload_n C 37 dX7_order_36 rfl rfl rfl ?_
      refine bx_aload_n C 38 dX7_order_37 rfl rfl rfl ?_
      refine bx_getf (v := .ref (a 70)) C 41 0 5 inX7 rfl (by decide) fl_X7_37 dX7_order_38 at_U_0 rfl rfl ?_
      refine bx_pVi C 70 at_U_70 rfl 44 fc_X7_178 (k_X3_size l E (fun k => a (70 + k)) _ _ hv) dX7_order_41 ⟨rfl, rfl, Nat.le_of_ble_eq_true rfl, Nat.le_of_ble_eq_true rfl⟩ [70, 71] ps_U_P_70 (by decide) rfl rfl (Nat.le_of_ble_eq_true rfl) rfl (fun r2 hv => ?_)
      refine bx_icmp_ge C 62 47 dX7_order_44 (by decide) rfl (fun h => ?_) (fun h => ?_)
      · replace hv := hv.1 h
        refine bx_bipush C (-5) 64 dX7_order_62 bp_m5 rfl ?_
        exact bx_iret C (u1.2, u.2.1, u.2.2.1, u.2.2.2.1, u.2.2.2.2.1, u.2.2.2.2.2.1, u1.1, u.2.2.2.2.2.2.2) rfl dX7_order_64 rfl hv
      · replace hv := hv.2 h
        refine bx_aload_n C 48 dX7_order_47 rfl rfl rfl ?_
        refine bx_getf (v := .ref (a 70)) C 51 0 5 inX7 rfl (by decide) fl_X7_37 dX7_order_48 at_U_0 rfl rfl ?_
        refine bx_aload_n C 52 dX7_order_51 rfl rfl rfl ?_
        refine bx_getf (v := .ref (a 1)) C 55 0 0 inX7 rfl (by decide) fl_X7_10 dX7_order_52 at_U_0 rfl rfl ?_
        refine bx_iload_n C 56 dX7_order_55 rfl rfl rfl ?_
        refine bx_pVi C 70 at_U_70 rfl 59 fc_X7_180 (k_X3_whoComes l E (fun k => a (70 + k)) (fun k => a (1 + k)) _ _ _ hv) dX7_order_56 ⟨rfl, rfl, Nat.le_of_ble_eq_true rfl, Nat.le_of_ble_eq_true rfl⟩ [70, 71, 1, 2, 3, 4, 5, 6, 7, 8, 9, 10, 11, 12, 13] ps_U_PH_70_1 (by decide) rfl rfl (Nat.le_of_ble_eq_true rfl) rfl (fun r3 hv => ?_)
        refine bx_goto C 64 dX7_order_59 (by decide) ?_
        exact bx_iret C (u1.2, u.2.1, u.2.2.1, u.2.2.2.1, u.2.2.2.2.1, u.2.2.2.2.2.1, u1.1, u.2.2.2.2.2.2.2) rfl dX7_order_64 rfl hv
    · replace hv := hv.2 h
      refine bx_aload_n C 29 dX7_order_28 rfl rfl rfl ?_
      refine bx_getf (v := .ref (a 70)) C 32 0 5 inX7 rfl (by decide) fl_X7_37 dX7_order_29 at_U_0 rfl rfl ?_
      refine bx_pVi C 70 at_U_70 rfl 35 fc_X7_175 (k_X3_leastFuss l E (fun k => a (70 + k)) _ _ hv) dX7_order_32 ⟨rfl, rfl, Nat.le_of_ble_eq_true rfl, Nat.le_of_ble_eq_true rfl⟩ [70, 71] ps_U_P_70 (by decide) rfl rfl (Nat.le_of_ble_eq_true rfl) rfl (fun r4 hv => ?_)
      exact bx_iret C (u1.2, u.2.1, u.2.2.1, u.2.2.2.1, u.2.2.2.2.1, u.2.2.2.2.2.1, u1.1, u.2.2.2.2.2.2.2) rfl dX7_order_35 rfl hv
  · replace hv := hv.2 h
    refine bx_aload_n C 6 dX7_order_5 rfl rfl rfl ?_
    refine bx_bipush C (-10) 8 dX7_order_6 bp_m10 rfl ?_
    refine bx_qVi C 0 at_U_0 rfl 11 fc_X7_63 (k_X7_refuseBad l E a _ _ _ hv) dX7_order_8 ⟨rfl, rfl, Nat.le_of_ble_eq_true rfl, Nat.le_of_ble_eq_true rfl⟩ [0, 1, 2, 3, 4, 5, 6, 7, 8, 9, 10, 11, 12, 13, 14, 15, 16, 17, 18, 19, 20, 21, 22, 23, 24, 25, 26, 27, 28, 29, 30, 31, 32, 33, 34, 35, 36, 37, 38, 39, 40, 41, 42, 43, 44, 45, 46, 47, 48, 49, 50, 51, 52, 53, 54, 55, 56, 57, 58, 59, 60, 61, 62, 63, 64, 65, 66, 67, 68, 69, 70, 71, 72, 73] (fun u6 => w_U E a u6) ps_U_U_0 (by decide) ad_U pu_U_U_0 rfl rfl (Nat.le_of_ble_eq_true rfl) rfl (fun r5 u6 hv => ?_)
    exact bx_iret C u6 rfl dX7_order_11 rfl hv
theorem k_X7_order (l : Launch) (E : bx_E) (a : Nat → Nat)  (K : Int32 → US → Prop) (u : US) (x1 : Int32) (hv : V_X7_order  K u x1) : bx_Mi l E yX7_order cX7_order 2 (some .int) (rmD 5) [.ref (a 0), .int x1] (fun (u : US) => w_U E a u) u K :=
  bx_meti (by decide +kernel) (Nat.le_of_ble_eq_true rfl) (fun p e S m below meth c C => t_X7_order_0 C u x1 hv)
abbrev G_X7_worth (p : Program) (l : Launch) (e : Env) (S : State) (m : MethodId) (args : Array Value) (below : List Frame) (meth : Method) (c : Code) (E : bx_E) (A : Nat → Prop) (a : Nat → Nat)  (u : US) (K : Int32 → Prop) (pc : Nat) (lv : List (Nat × Value)) (st : List Value) (ws : va_W) : Prop := bx_S p l e (rmD 3) S m args below meth c 3 E A (MQ below (va_Qi (fun r (_ : Unit) => K r) (fun (_ : Unit) t => bx_B E A (w_U E a u) t) A) args S 0 0 A) 0 0 pc lv st ws
def V_X7_worth  (K : Int32 → Prop)  (u : US) (x1 : Int32) (x2 : Int32) : Prop := (V_X0_sightFrom (fun r1 => (V_X0_fussTo (fun r2 => K (r1 - r2)) u.1 x1 x2)) u.1 x2)
set_option maxRecDepth 20000 in
set_option maxHeartbeats 4000000 in
theorem t_X7_worth_0 {a : Nat → Nat} {K : Int32 → Prop} (C : bx_C p (rmD 3) S m args meth c cX7_worth 3 yX7_worth.cls (some .int) E A 0 0) (u : US)   (x1 : Int32) (x2 : Int32) (hv : V_X7_worth K u x1 x2) : G_X7_worth p l e S m args below meth c E A a  u K 0 [(0, .ref (a 0)), (1, .int x1), (2, .int x2)] [] (w_U E a u) := by
  unfold V_X7_worth at hv
  refine bx_aload_n C 1 dX7_worth_0 rfl rfl rfl ?_
  refine bx_getf (v := .ref (a 1)) C 4 0 0 inX7 rfl (by decide) fl_X7_10 dX7_worth_1 at_U_0 rfl rfl ?_
  refine bx_iload_n C 5 dX7_worth_4 rfl rfl rfl ?_
  refine bx_pVi C 1 at_U_1 rfl 8 fc_X7_166 (k_X0_sightFrom l E (fun k => a (1 + k)) _ _ _ hv) dX7_worth_5 ⟨rfl, rfl, Nat.le_of_ble_eq_true rfl, Nat.le_of_ble_eq_true rfl⟩ [1, 2, 3, 4, 5, 6, 7, 8, 9, 10, 11, 12, 13] ps_U_H_1 (by decide) rfl rfl (Nat.le_of_ble_eq_true rfl) rfl (fun r1 hv => ?_)
  refine bx_aload_n C 9 dX7_worth_8 rfl rfl rfl ?_
  refine bx_getf (v := .ref (a 1)) C 12 0 0 inX7 rfl (by decide) fl_X7_10 dX7_worth_9 at_U_0 rfl rfl ?_
  refine bx_iload_n C 13 dX7_worth_12 rfl rfl rfl ?_
  refine bx_iload_n C 14 dX7_worth_13 rfl rfl rfl ?_
  refine bx_pVi C 1 at_U_1 rfl 17 fc_X7_169 (k_X0_fussTo l E (fun k => a (1 + k)) _ _ _ _ hv) dX7_worth_14 ⟨rfl, rfl, Nat.le_of_ble_eq_true rfl, Nat.le_of_ble_eq_true rfl⟩ [1, 2, 3, 4, 5, 6, 7, 8, 9, 10, 11, 12, 13] ps_U_H_1 (by decide) rfl rfl (Nat.le_of_ble_eq_true rfl) rfl (fun r2 hv => ?_)
  refine bx_isub C 18 dX7_worth_17 rfl ?_
  exact bx_iret C () rfl dX7_worth_18 rfl hv
theorem k_X7_worth (l : Launch) (E : bx_E) (a : Nat → Nat)  (K : Int32 → Prop) (u : US) (x1 : Int32) (x2 : Int32) (hv : V_X7_worth  K u x1 x2) : bx_Mi l E yX7_worth cX7_worth 3 (some .int) (rmD 3) [.ref (a 0), .int x1, .int x2] (fun (_ : Unit) => w_U E a u) () (fun r (_ : Unit) => K r) :=
  bx_meti (by decide +kernel) (Nat.le_of_ble_eq_true rfl) (fun p e S m below meth c C => t_X7_worth_0 C u x1 x2 hv)
abbrev G_X7_bestCell (p : Program) (l : Launch) (e : Env) (S : State) (m : MethodId) (args : Array Value) (below : List Frame) (meth : Method) (c : Code) (E : bx_E) (A : Nat → Prop) (a : Nat → Nat)  (u : US) (K : Int32 → Prop) (pc : Nat) (lv : List (Nat × Value)) (st : List Value) (ws : va_W) : Prop := bx_S p l e (rmD 4) S m args below meth c 4 E A (MQ below (va_Qi (fun r (_ : Unit) => K r) (fun (_ : Unit) t => bx_B E A (w_U E a u) t) A) args S 0 0 A) 0 0 pc lv st ws
def V_X7_bestCell_4  (K : Int32 → Prop)  : Nat → US → Int32 → Int32 → Int32 → Prop
  | 0, _, _, _, _ => False
  | n + 1, u, x1, x2, x3 => ((30 ≤ x3 → K x2) ∧
 (¬ 30 ≤ x3 → (V_X0_isFree (fun r1 => ((r1 = 0 → V_X7_bestCell_4 K n u x1 x2 (x3 + 1)) ∧
 (¬ r1 = 0 → ((x2 = (-1) → V_X7_bestCell_4 K n u x1 x3 (x3 + 1)) ∧
 (¬ x2 = (-1) → (V_X7_worth (fun r2 => (V_X7_worth (fun r3 => ((r2 ≤ r3 → V_X7_bestCell_4 K n u x1 x2 (x3 + 1)) ∧
 (¬ r2 ≤ r3 → V_X7_bestCell_4 K n u x1 x3 (x3 + 1)))) u x1 x2)) u x1 x3)))))) u.1 x3)))
set_option maxRecDepth 20000 in
set_option maxHeartbeats 4000000 in
theorem t_X7_bestCell_4 {a : Nat → Nat} {K : Int32 → Prop} (C : bx_C p (rmD 4) S m args meth c cX7_bestCell 4 yX7_bestCell.cls (some .int) E A 0 0) (u : US)  : ∀ (n : Nat)  (x1 : Int32) (x2 : Int32) (x3 : Int32), V_X7_bestCell_4 K n u x1 x2 x3 → G_X7_bestCell p l e S m args below meth c E A a  u K 4 [(0, .ref (a 0)), (1, .int x1), (2, .int x2), (3, .int x3)] [] (w_U E a u) := by
  intro n
  induction n with
  | zero =>
    intro x1 x2 x3 hv
    exact False.elim hv
  | succ n ih =>
    intro x1 x2 x3 hv
    unfold V_X7_bestCell_4 at hv
    refine bx_iload_n C 5 dX7_bestCell_4 rfl rfl rfl ?_
    refine bx_bipush C 30 7 dX7_bestCell_5 bp_30 rfl ?_
    refine bx_icmp_ge C 49 10 dX7_bestCell_7 (by decide) rfl (fun h => ?_) (fun h => ?_)
    · replace hv := hv.1 h
      refine bx_iload_n C 50 dX7_bestCell_49 rfl rfl rfl ?_
      exact bx_iret C () rfl dX7_bestCell_50 rfl hv
    · replace hv := hv.2 h
      refine bx_aload_n C 11 dX7_bestCell_10 rfl rfl rfl ?_
      refine bx_getf (v := .ref (a 1)) C 14 0 0 inX7 rfl (by decide) fl_X7_10 dX7_bestCell_11 at_U_0 rfl rfl ?_
      refine bx_iload_n C 15 dX7_bestCell_14 rfl rfl rfl ?_
      refine bx_pVi C 1 at_U_1 rfl 18 fc_X7_113 (k_X0_isFree l E (fun k => a (1 + k)) _ _ _ hv) dX7_bestCell_15 ⟨rfl, rfl, Nat.le_of_ble_eq_true rfl, Nat.le_of_ble_eq_true rfl⟩ [1, 2, 3, 4, 5, 6, 7, 8, 9, 10, 11, 12, 13] ps_U_H_1 (by decide) rfl rfl (Nat.le_of_ble_eq_true rfl) rfl (fun r1 hv => ?_)
      refine bx_if_eq C 43 21 dX7_bestCell_18 (by decide) rfl (fun h => ?_) (fun h => ?_)
      · replace hv := hv.1 h
        refine bx_iinc C 1 46 dX7_bestCell_43 rfl (by decide) ic_1 rfl ?_
        refine bx_goto C 4 dX7_bestCell_46 (by decide) ?_
        exact bx_cut [1, 2, 3, 0] (w_U E a u) rfl rfl (ih  x1 x2 (x3 + 1) hv)
      · replace hv := hv.2 h
        refine bx_iload_n C 22 dX7_bestCell_21 rfl rfl rfl ?_
        refine bx_iconst C (-1) 23 dX7_bestCell_22 ic_m1 rfl ?_
        refine bx_icmp_eq C 41 26 dX7_bestCell_23 (by decide) rfl (fun h => ?_) (fun h => ?_)
        · replace hv := hv.1 h
          refine bx_iload_n C 42 dX7_bestCell_41 rfl rfl rfl ?_
          refine bx_istore_n C 43 dX7_bestCell_42 rfl (by decide) rfl ?_
          refine bx_iinc C 1 46 dX7_bestCell_43 rfl (by decide) ic_1 rfl ?_
          refine bx_goto C 4 dX7_bestCell_46 (by decide) ?_
          exact bx_cut [2, 3, 1, 0] (w_U E a u) rfl rfl (ih  x1 x3 (x3 + 1) hv)
        · replace hv := hv.2 h
          refine bx_aload_n C 27 dX7_bestCell_26 rfl rfl rfl ?_
          refine bx_iload_n C 28 dX7_bestCell_27 rfl rfl rfl ?_
          refine bx_iload_n C 29 dX7_bestCell_28 rfl rfl rfl ?_
          refine bx_pVi C 0 at_U_0 rfl 32 fc_X7_187 (k_X7_worth l E a _ _ _ _ hv) dX7_bestCell_29 ⟨rfl, rfl, Nat.le_of_ble_eq_true rfl, Nat.le_of_ble_eq_true rfl⟩ [0, 1, 2, 3, 4, 5, 6, 7, 8, 9, 10, 11, 12, 13, 14, 15, 16, 17, 18, 19, 20, 21, 22, 23, 24, 25, 26, 27, 28, 29, 30, 31, 32, 33, 34, 35, 36, 37, 38, 39, 40, 41, 42, 43, 44, 45, 46, 47, 48, 49, 50, 51, 52, 53, 54, 55, 56, 57, 58, 59, 60, 61, 62, 63, 64, 65, 66, 67, 68, 69, 70, 71, 72, 73] ps_U_U_0 (by decide) rfl rfl (Nat.le_of_ble_eq_true rfl) rfl (fun r2 hv => ?_)
          refine bx_aload_n C 33 dX7_bestCell_32 rfl rfl rfl ?_
          refine bx_iload_n C 34 dX7_bestCell_33 rfl rfl rfl ?_
          refine bx_iload_n C 35 dX7_bestCell_34 rfl rfl rfl ?_
          refine bx_pVi C 0 at_U_0 rfl 38 fc_X7_187 (k_X7_worth l E a _ _ _ _ hv) dX7_bestCell_35 ⟨rfl, rfl, Nat.le_of_ble_eq_true rfl, Nat.le_of_ble_eq_true rfl⟩ [0, 1, 2, 3, 4, 5, 6, 7, 8, 9, 10, 11, 12, 13, 14, 15, 16, 17, 18, 19, 20, 21, 22, 23, 24, 25, 26, 27, 28, 29, 30, 31, 32, 33, 34, 35, 36, 37, 38, 39, 40, 41, 42, 43, 44, 45, 46, 47, 48, 49, 50, 51, 52, 53, 54, 55, 56, 57, 58, 59, 60, 61, 62, 63, 64, 65, 66, 67, 68, 69, 70, 71, 72, 73] ps_U_U_0 (by decide) rfl rfl (Nat.le_of_ble_eq_true rfl) rfl (fun r3 hv => ?_)
          refine bx_icmp_le C 43 41 dX7_bestCell_38 (by decide) rfl (fun h => ?_) (fun h => ?_)
          · replace hv := hv.1 h
            refine bx_iinc C 1 46 dX7_bestCell_43 rfl (by decide) ic_1 rfl ?_
            refine bx_goto C 4 dX7_bestCell_46 (by decide) ?_
            exact bx_cut [1, 2, 3, 0] (w_U E a u) rfl rfl (ih  x1 x2 (x3 + 1) hv)
          · replace hv := hv.2 h
            refine bx_iload_n C 42 dX7_bestCell_41 rfl rfl rfl ?_
            refine bx_istore_n C 43 dX7_bestCell_42 rfl (by decide) rfl ?_
            refine bx_iinc C 1 46 dX7_bestCell_43 rfl (by decide) ic_1 rfl ?_
            refine bx_goto C 4 dX7_bestCell_46 (by decide) ?_
            exact bx_cut [2, 3, 1, 0] (w_U E a u) rfl rfl (ih  x1 x3 (x3 + 1) hv)
def V_X7_bestCell  (K : Int32 → Prop)  (u : US) (x1 : Int32) : Prop := ∃ n4, V_X7_bestCell_4 K n4 u x1 (-1) 0
set_option maxRecDepth 20000 in
set_option maxHeartbeats 4000000 in
theorem t_X7_bestCell_0 {a : Nat → Nat} {K : Int32 → Prop} (C : bx_C p (rmD 4) S m args meth c cX7_bestCell 4 yX7_bestCell.cls (some .int) E A 0 0) (u : US)   (x1 : Int32) (hv : V_X7_bestCell K u x1) : G_X7_bestCell p l e S m args below meth c E A a  u K 0 [(0, .ref (a 0)), (1, .int x1)] [] (w_U E a u) := by
  unfold V_X7_bestCell at hv
  refine bx_iconst C (-1) 1 dX7_bestCell_0 ic_m1 rfl ?_
  refine bx_istore_n C 2 dX7_bestCell_1 rfl (by decide) rfl ?_
  refine bx_iconst C 0 3 dX7_bestCell_2 ic_0 rfl ?_
  refine bx_istore_n C 4 dX7_bestCell_3 rfl (by decide) rfl ?_
  obtain ⟨n4, hv⟩ := hv
  exact bx_cut [2, 3, 1, 0] (w_U E a u) rfl rfl (t_X7_bestCell_4 C u  n4  x1 (-1) 0 hv)
theorem k_X7_bestCell (l : Launch) (E : bx_E) (a : Nat → Nat)  (K : Int32 → Prop) (u : US) (x1 : Int32) (hv : V_X7_bestCell  K u x1) : bx_Mi l E yX7_bestCell cX7_bestCell 4 (some .int) (rmD 4) [.ref (a 0), .int x1] (fun (_ : Unit) => w_U E a u) () (fun r (_ : Unit) => K r) :=
  bx_meti (by decide +kernel) (Nat.le_of_ble_eq_true rfl) (fun p e S m below meth c C => t_X7_bestCell_0 C u x1 hv)
abbrev G_X7_best (p : Program) (l : Launch) (e : Env) (S : State) (m : MethodId) (args : Array Value) (below : List Frame) (meth : Method) (c : Code) (E : bx_E) (A : Nat → Prop) (a : Nat → Nat)  (K : Int32 → US → Prop) (pc : Nat) (lv : List (Nat × Value)) (st : List Value) (ws : va_W) : Prop := bx_S p l e (rmD 5) S m args below meth c 4 E A (MQ below (va_Qi K (fun (u : US) t => bx_B E A (w_U E a u) t) A) args S 0 0 A) 0 0 pc lv st ws
def V_X7_best_19  (K : Int32 → US → Prop)  (u : US)  : Prop := (V_X7_refuseBad (fun r1 u2 => K r1 u2) u (-1001))
set_option maxRecDepth 20000 in
set_option maxHeartbeats 4000000 in
theorem t_X7_best_19 {a : Nat → Nat} {K : Int32 → US → Prop} (C : bx_C p (rmD 5) S m args meth c cX7_best 4 yX7_best.cls (some .int) E A 0 0)   (u : US)  (hv : V_X7_best_19 K u ) : G_X7_best p l e S m args below meth c E A a  K 19 [(0, .ref (a 0))] [] (w_U E a u) := by
  unfold V_X7_best_19 at hv
  refine bx_aload_n C 20 dX7_best_19 rfl rfl rfl ?_
  refine bx_sipush C (-1001) 23 dX7_best_20 sp_m1001 rfl ?_
  refine bx_qVi C 0 at_U_0 rfl 26 fc_X7_63 (k_X7_refuseBad l E a _ _ _ hv) dX7_best_23 ⟨rfl, rfl, Nat.le_of_ble_eq_true rfl, Nat.le_of_ble_eq_true rfl⟩ [0, 1, 2, 3, 4, 5, 6, 7, 8, 9, 10, 11, 12, 13, 14, 15, 16, 17, 18, 19, 20, 21, 22, 23, 24, 25, 26, 27, 28, 29, 30, 31, 32, 33, 34, 35, 36, 37, 38, 39, 40, 41, 42, 43, 44, 45, 46, 47, 48, 49, 50, 51, 52, 53, 54, 55, 56, 57, 58, 59, 60, 61, 62, 63, 64, 65, 66, 67, 68, 69, 70, 71, 72, 73] (fun u2 => w_U E a u2) ps_U_U_0 (by decide) ad_U pu_U_U_0 rfl rfl (Nat.le_of_ble_eq_true rfl) rfl (fun r1 u2 hv => ?_)
  exact bx_iret C u2 rfl dX7_best_26 rfl hv
def V_X7_best  (K : Int32 → US → Prop)  (u : US) (x1 : Int32) (x2 : Int32) : Prop := (V_X0_isSoul (fun r3 => ((r3 = 0 → V_X7_best_19 K u ) ∧
 (¬ r3 = 0 → (V_X7_within (fun r4 => ((¬ r4 = 0 → (V_X0_sits (fun r5 => ((r5 = 0 → (V_X7_bestCell (fun r6 => ((¬ x2 = 0 → ((¬ r6 = (-1) → (V_X7_worth (fun r7 => K r7 u) u x1 r6)) ∧
 (r6 = (-1) → K (-1000) u))) ∧
 (x2 = 0 → K r6 u))) u x1)) ∧
 (¬ r5 = 0 → (V_X7_refuseNo (fun r8 u9 => K r8 u9) u (-1002))))) u.1 x1)) ∧
 (r4 = 0 → V_X7_best_19 K u )))  x2 2)))) u.1 x1)
set_option maxRecDepth 20000 in
set_option maxHeartbeats 4000000 in
theorem t_X7_best_0 {a : Nat → Nat} {K : Int32 → US → Prop} (C : bx_C p (rmD 5) S m args meth c cX7_best 4 yX7_best.cls (some .int) E A 0 0)   (u : US) (x1 : Int32) (x2 : Int32) (hv : V_X7_best K u x1 x2) : G_X7_best p l e S m args below meth c E A a  K 0 [(0, .ref (a 0)), (1, .int x1), (2, .int x2)] [] (w_U E a u) := by
  unfold V_X7_best at hv
  refine bx_aload_n C 1 dX7_best_0 rfl rfl rfl ?_
  refine bx_getf (v := .ref (a 1)) C 4 0 0 inX7 rfl (by decide) fl_X7_10 dX7_best_1 at_U_0 rfl rfl ?_
  refine bx_iload_n C 5 dX7_best_4 rfl rfl rfl ?_
  refine bx_pVi C 1 at_U_1 rfl 8 fc_X7_106 (k_X0_isSoul l E (fun k => a (1 + k)) _ _ _ hv) dX7_best_5 ⟨rfl, rfl, Nat.le_of_ble_eq_true rfl, Nat.le_of_ble_eq_true rfl⟩ [1, 2, 3, 4, 5, 6, 7, 8, 9, 10, 11, 12, 13] ps_U_H_1 (by decide) rfl rfl (Nat.le_of_ble_eq_true rfl) rfl (fun r3 hv => ?_)
  refine bx_if_eq C 19 11 dX7_best_8 (by decide) rfl (fun h => ?_) (fun h => ?_)
  · replace hv := hv.1 h
    exact bx_cut [0] (w_U E a u) rfl rfl (t_X7_best_19 C   u  hv)
  · replace hv := hv.2 h
    refine bx_iload_n C 12 dX7_best_11 rfl rfl rfl ?_
    refine bx_iconst C 2 13 dX7_best_12 ic_2 rfl ?_
    refine bx_pSi C 16 fc_X7_59 (k_X7_within l E  _ _ _ hv) dX7_best_13 ⟨rfl, rfl, Nat.le_of_ble_eq_true rfl, Nat.le_of_ble_eq_true rfl⟩ [] rfl (by decide) rfl rfl (Nat.le_of_ble_eq_true rfl) rfl (fun r4 hv => ?_)
    refine bx_if_ne C 27 19 dX7_best_16 (by decide) rfl (fun h => ?_) (fun h => ?_)
    · replace hv := hv.1 h
      refine bx_aload_n C 28 dX7_best_27 rfl rfl rfl ?_
      refine bx_getf (v := .ref (a 1)) C 31 0 0 inX7 rfl (by decide) fl_X7_10 dX7_best_28 at_U_0 rfl rfl ?_
      refine bx_iload_n C 32 dX7_best_31 rfl rfl rfl ?_
      refine bx_pVi C 1 at_U_1 rfl 35 fc_X7_110 (k_X0_sits l E (fun k => a (1 + k)) _ _ _ hv) dX7_best_32 ⟨rfl, rfl, Nat.le_of_ble_eq_true rfl, Nat.le_of_ble_eq_true rfl⟩ [1, 2, 3, 4, 5, 6, 7, 8, 9, 10, 11, 12, 13] ps_U_H_1 (by decide) rfl rfl (Nat.le_of_ble_eq_true rfl) rfl (fun r5 hv => ?_)
      refine bx_if_eq C 46 38 dX7_best_35 (by decide) rfl (fun h => ?_) (fun h => ?_)
      · replace hv := hv.1 h
        refine bx_aload_n C 47 dX7_best_46 rfl rfl rfl ?_
        refine bx_iload_n C 48 dX7_best_47 rfl rfl rfl ?_
        refine bx_pVi C 0 at_U_0 rfl 51 fc_X7_184 (k_X7_bestCell l E a _ _ _ hv) dX7_best_48 ⟨rfl, rfl, Nat.le_of_ble_eq_true rfl, Nat.le_of_ble_eq_true rfl⟩ [0, 1, 2, 3, 4, 5, 6, 7, 8, 9, 10, 11, 12, 13, 14, 15, 16, 17, 18, 19, 20, 21, 22, 23, 24, 25, 26, 27, 28, 29, 30, 31, 32, 33, 34, 35, 36, 37, 38, 39, 40, 41, 42, 43, 44, 45, 46, 47, 48, 49, 50, 51, 52, 53, 54, 55, 56, 57, 58, 59, 60, 61, 62, 63, 64, 65, 66, 67, 68, 69, 70, 71, 72, 73] ps_U_U_0 (by decide) rfl rfl (Nat.le_of_ble_eq_true rfl) rfl (fun r6 hv => ?_)
        refine bx_istore_n C 52 dX7_best_51 rfl (by decide) rfl ?_
        refine bx_iload_n C 53 dX7_best_52 rfl rfl rfl ?_
        refine bx_if_ne C 58 56 dX7_best_53 (by decide) rfl (fun h => ?_) (fun h => ?_)
        · replace hv := hv.1 h
          refine bx_iload_n C 59 dX7_best_58 rfl rfl rfl ?_
          refine bx_iconst C (-1) 60 dX7_best_59 ic_m1 rfl ?_
          refine bx_icmp_ne C 69 63 dX7_best_60 (by decide) rfl (fun h => ?_) (fun h => ?_)
          · replace hv := hv.1 h
            refine bx_aload_n C 70 dX7_best_69 rfl rfl rfl ?_
            refine bx_iload_n C 71 dX7_best_70 rfl rfl rfl ?_
            refine bx_iload_n C 72 dX7_best_71 rfl rfl rfl ?_
            refine bx_pVi C 0 at_U_0 rfl 75 fc_X7_187 (k_X7_worth l E a _ _ _ _ hv) dX7_best_72 ⟨rfl, rfl, Nat.le_of_ble_eq_true rfl, Nat.le_of_ble_eq_true rfl⟩ [0, 1, 2, 3, 4, 5, 6, 7, 8, 9, 10, 11, 12, 13, 14, 15, 16, 17, 18, 19, 20, 21, 22, 23, 24, 25, 26, 27, 28, 29, 30, 31, 32, 33, 34, 35, 36, 37, 38, 39, 40, 41, 42, 43, 44, 45, 46, 47, 48, 49, 50, 51, 52, 53, 54, 55, 56, 57, 58, 59, 60, 61, 62, 63, 64, 65, 66, 67, 68, 69, 70, 71, 72, 73] ps_U_U_0 (by decide) rfl rfl (Nat.le_of_ble_eq_true rfl) rfl (fun r7 hv => ?_)
            exact bx_iret C u rfl dX7_best_75 rfl hv
          · replace hv := hv.2 h
            refine bx_sipush C (-1000) 66 dX7_best_63 sp_m1000 rfl ?_
            refine bx_goto C 75 dX7_best_66 (by decide) ?_
            exact bx_iret C u rfl dX7_best_75 rfl hv
        · replace hv := hv.2 h
          refine bx_iload_n C 57 dX7_best_56 rfl rfl rfl ?_
          exact bx_iret C u rfl dX7_best_57 rfl hv
      · replace hv := hv.2 h
        refine bx_aload_n C 39 dX7_best_38 rfl rfl rfl ?_
        refine bx_sipush C (-1002) 42 dX7_best_39 sp_m1002 rfl ?_
        refine bx_qVi C 0 at_U_0 rfl 45 fc_X7_119 (k_X7_refuseNo l E a _ _ _ hv) dX7_best_42 ⟨rfl, rfl, Nat.le_of_ble_eq_true rfl, Nat.le_of_ble_eq_true rfl⟩ [0, 1, 2, 3, 4, 5, 6, 7, 8, 9, 10, 11, 12, 13, 14, 15, 16, 17, 18, 19, 20, 21, 22, 23, 24, 25, 26, 27, 28, 29, 30, 31, 32, 33, 34, 35, 36, 37, 38, 39, 40, 41, 42, 43, 44, 45, 46, 47, 48, 49, 50, 51, 52, 53, 54, 55, 56, 57, 58, 59, 60, 61, 62, 63, 64, 65, 66, 67, 68, 69, 70, 71, 72, 73] (fun u9 => w_U E a u9) ps_U_U_0 (by decide) ad_U pu_U_U_0 rfl rfl (Nat.le_of_ble_eq_true rfl) rfl (fun r8 u9 hv => ?_)
        exact bx_iret C u9 rfl dX7_best_45 rfl hv
    · replace hv := hv.2 h
      exact bx_cut [0] (w_U E a u) rfl rfl (t_X7_best_19 C   u  hv)
theorem k_X7_best (l : Launch) (E : bx_E) (a : Nat → Nat)  (K : Int32 → US → Prop) (u : US) (x1 : Int32) (x2 : Int32) (hv : V_X7_best  K u x1 x2) : bx_Mi l E yX7_best cX7_best 4 (some .int) (rmD 5) [.ref (a 0), .int x1, .int x2] (fun (u : US) => w_U E a u) u K :=
  bx_meti (by decide +kernel) (Nat.le_of_ble_eq_true rfl) (fun p e S m below meth c C => t_X7_best_0 C u x1 x2 hv)
abbrev G_X7_areFreeNeighbours (p : Program) (l : Launch) (e : Env) (S : State) (m : MethodId) (args : Array Value) (below : List Frame) (meth : Method) (c : Code) (E : bx_E) (A : Nat → Prop) (a : Nat → Nat)  (u : US) (K : Int32 → Prop) (pc : Nat) (lv : List (Nat × Value)) (st : List Value) (ws : va_W) : Prop := bx_S p l e (rmD 3) S m args below meth c 3 E A (MQ below (va_Qi (fun r (_ : Unit) => K r) (fun (_ : Unit) t => bx_B E A (w_U E a u) t) A) args S 0 0 A) 0 0 pc lv st ws
def V_X7_areFreeNeighbours  (K : Int32 → Prop)  (u : US) (x1 : Int32) (x2 : Int32) : Prop := (V_X7_within (fun r1 => ((r1 = 0 → K 0) ∧
 (¬ r1 = 0 → (V_X7_within (fun r2 => ((r2 = 0 → K 0) ∧
 (¬ r2 = 0 → ((¬ (x1 / 6) = (x2 / 6) → K 0) ∧
 ((x1 / 6) = (x2 / 6) → (V_X0_isFree (fun r3 => ((r3 = 0 → K 0) ∧
 (¬ r3 = 0 → (V_X0_isFree (fun r4 => ((r4 = 0 → K 0) ∧
 (¬ r4 = 0 → K 1))) u.1 x2)))) u.1 x1))))))  x2 30))))  x1 30)
set_option maxRecDepth 20000 in
set_option maxHeartbeats 4000000 in
theorem t_X7_areFreeNeighbours_0 {a : Nat → Nat} {K : Int32 → Prop} (C : bx_C p (rmD 3) S m args meth c cX7_areFreeNeighbours 3 yX7_areFreeNeighbours.cls (some .boolean) E A 0 0) (u : US)   (x1 : Int32) (x2 : Int32) (hv : V_X7_areFreeNeighbours K u x1 x2) : G_X7_areFreeNeighbours p l e S m args below meth c E A a  u K 0 [(0, .ref (a 0)), (1, .int x1), (2, .int x2)] [] (w_U E a u) := by
  unfold V_X7_areFreeNeighbours at hv
  refine bx_iload_n C 1 dX7_areFreeNeighbours_0 rfl rfl rfl ?_
  refine bx_bipush C 30 3 dX7_areFreeNeighbours_1 bp_30 rfl ?_
  refine bx_pSi C 6 fc_X7_59 (k_X7_within l E  _ _ _ hv) dX7_areFreeNeighbours_3 ⟨rfl, rfl, Nat.le_of_ble_eq_true rfl, Nat.le_of_ble_eq_true rfl⟩ [] rfl (by decide) rfl rfl (Nat.le_of_ble_eq_true rfl) rfl (fun r1 hv => ?_)
  refine bx_if_eq C 55 9 dX7_areFreeNeighbours_6 (by decide) rfl (fun h => ?_) (fun h => ?_)
  · replace hv := hv.1 h
    refine bx_iconst C 0 56 dX7_areFreeNeighbours_55 ic_0 rfl ?_
    exact bx_zret C () rfl dX7_areFreeNeighbours_56 rfl (Or.inl rfl) hv
  · replace hv := hv.2 h
    refine bx_iload_n C 10 dX7_areFreeNeighbours_9 rfl rfl rfl ?_
    refine bx_bipush C 30 12 dX7_areFreeNeighbours_10 bp_30 rfl ?_
    refine bx_pSi C 15 fc_X7_59 (k_X7_within l E  _ _ _ hv) dX7_areFreeNeighbours_12 ⟨rfl, rfl, Nat.le_of_ble_eq_true rfl, Nat.le_of_ble_eq_true rfl⟩ [] rfl (by decide) rfl rfl (Nat.le_of_ble_eq_true rfl) rfl (fun r2 hv => ?_)
    refine bx_if_eq C 55 18 dX7_areFreeNeighbours_15 (by decide) rfl (fun h => ?_) (fun h => ?_)
    · replace hv := hv.1 h
      refine bx_iconst C 0 56 dX7_areFreeNeighbours_55 ic_0 rfl ?_
      exact bx_zret C () rfl dX7_areFreeNeighbours_56 rfl (Or.inl rfl) hv
    · replace hv := hv.2 h
      refine bx_iload_n C 19 dX7_areFreeNeighbours_18 rfl rfl rfl ?_
      refine bx_bipush C 6 21 dX7_areFreeNeighbours_19 bp_6 rfl ?_
      refine bx_idiv C 22 dX7_areFreeNeighbours_21 nz32_6 rfl ?_
      refine bx_iload_n C 23 dX7_areFreeNeighbours_22 rfl rfl rfl ?_
      refine bx_bipush C 6 25 dX7_areFreeNeighbours_23 bp_6 rfl ?_
      refine bx_idiv C 26 dX7_areFreeNeighbours_25 nz32_6 rfl ?_
      refine bx_icmp_ne C 55 29 dX7_areFreeNeighbours_26 (by decide) rfl (fun h => ?_) (fun h => ?_)
      · replace hv := hv.1 h
        refine bx_iconst C 0 56 dX7_areFreeNeighbours_55 ic_0 rfl ?_
        exact bx_zret C () rfl dX7_areFreeNeighbours_56 rfl (Or.inl rfl) hv
      · replace hv := hv.2 h
        refine bx_aload_n C 30 dX7_areFreeNeighbours_29 rfl rfl rfl ?_
        refine bx_getf (v := .ref (a 1)) C 33 0 0 inX7 rfl (by decide) fl_X7_10 dX7_areFreeNeighbours_30 at_U_0 rfl rfl ?_
        refine bx_iload_n C 34 dX7_areFreeNeighbours_33 rfl rfl rfl ?_
        refine bx_pVi C 1 at_U_1 rfl 37 fc_X7_113 (k_X0_isFree l E (fun k => a (1 + k)) _ _ _ hv) dX7_areFreeNeighbours_34 ⟨rfl, rfl, Nat.le_of_ble_eq_true rfl, Nat.le_of_ble_eq_true rfl⟩ [1, 2, 3, 4, 5, 6, 7, 8, 9, 10, 11, 12, 13] ps_U_H_1 (by decide) rfl rfl (Nat.le_of_ble_eq_true rfl) rfl (fun r3 hv => ?_)
        refine bx_if_eq C 55 40 dX7_areFreeNeighbours_37 (by decide) rfl (fun h => ?_) (fun h => ?_)
        · replace hv := hv.1 h
          refine bx_iconst C 0 56 dX7_areFreeNeighbours_55 ic_0 rfl ?_
          exact bx_zret C () rfl dX7_areFreeNeighbours_56 rfl (Or.inl rfl) hv
        · replace hv := hv.2 h
          refine bx_aload_n C 41 dX7_areFreeNeighbours_40 rfl rfl rfl ?_
          refine bx_getf (v := .ref (a 1)) C 44 0 0 inX7 rfl (by decide) fl_X7_10 dX7_areFreeNeighbours_41 at_U_0 rfl rfl ?_
          refine bx_iload_n C 45 dX7_areFreeNeighbours_44 rfl rfl rfl ?_
          refine bx_pVi C 1 at_U_1 rfl 48 fc_X7_113 (k_X0_isFree l E (fun k => a (1 + k)) _ _ _ hv) dX7_areFreeNeighbours_45 ⟨rfl, rfl, Nat.le_of_ble_eq_true rfl, Nat.le_of_ble_eq_true rfl⟩ [1, 2, 3, 4, 5, 6, 7, 8, 9, 10, 11, 12, 13] ps_U_H_1 (by decide) rfl rfl (Nat.le_of_ble_eq_true rfl) rfl (fun r4 hv => ?_)
          refine bx_if_eq C 55 51 dX7_areFreeNeighbours_48 (by decide) rfl (fun h => ?_) (fun h => ?_)
          · replace hv := hv.1 h
            refine bx_iconst C 0 56 dX7_areFreeNeighbours_55 ic_0 rfl ?_
            exact bx_zret C () rfl dX7_areFreeNeighbours_56 rfl (Or.inl rfl) hv
          · replace hv := hv.2 h
            refine bx_iconst C 1 52 dX7_areFreeNeighbours_51 ic_1 rfl ?_
            refine bx_goto C 56 dX7_areFreeNeighbours_52 (by decide) ?_
            exact bx_zret C () rfl dX7_areFreeNeighbours_56 rfl (Or.inr rfl) hv
theorem k_X7_areFreeNeighbours (l : Launch) (E : bx_E) (a : Nat → Nat)  (K : Int32 → Prop) (u : US) (x1 : Int32) (x2 : Int32) (hv : V_X7_areFreeNeighbours  K u x1 x2) : bx_Mi l E yX7_areFreeNeighbours cX7_areFreeNeighbours 3 (some .boolean) (rmD 3) [.ref (a 0), .int x1, .int x2] (fun (_ : Unit) => w_U E a u) () (fun r (_ : Unit) => K r) :=
  bx_meti (by decide +kernel) (Nat.le_of_ble_eq_true rfl) (fun p e S m below meth c C => t_X7_areFreeNeighbours_0 C u x1 x2 hv)
abbrev G_X7_fussBeside (p : Program) (l : Launch) (e : Env) (S : State) (m : MethodId) (args : Array Value) (below : List Frame) (meth : Method) (c : Code) (E : bx_E) (A : Nat → Prop) (a : Nat → Nat)  (u : US) (K : Int32 → Prop) (pc : Nat) (lv : List (Nat × Value)) (st : List Value) (ws : va_W) : Prop := bx_S p l e (rmD 2) S m args below meth c 6 E A (MQ below (va_Qi (fun r (_ : Unit) => K r) (fun (_ : Unit) t => bx_B E A (w_U E a u) t) A) args S 0 0 A) 0 0 pc lv st ws
def V_X7_fussBeside_11  (K : Int32 → Prop)  (u : US) (x1 : Int32) (x2 : Int32) (x3 : Int32) (x4 : Int32) (z0 : Int32) : Prop := (V_X0_fussTo (fun r1 => (vp_in x2 7 ∧ (V_X0_kneesTo (fun r2 => (V_X1_fuss (fun r3 => K (r1 + r3))  (u.1.2.1 (x2 : Int32).toNatClampNeg) (r2 + z0) (u.1.2.2.2.2.2.2.1 + 1))) u.1 x4))) u.1 x1 x3)
set_option maxRecDepth 20000 in
set_option maxHeartbeats 4000000 in
theorem t_X7_fussBeside_11 {a : Nat → Nat} {K : Int32 → Prop} (C : bx_C p (rmD 2) S m args meth c cX7_fussBeside 6 yX7_fussBeside.cls (some .int) E A 0 0) (u : US)   (x1 : Int32) (x2 : Int32) (x3 : Int32) (x4 : Int32) (z0 : Int32) (hv : V_X7_fussBeside_11 K u x1 x2 x3 x4 z0) : G_X7_fussBeside p l e S m args below meth c E A a  u K 11 [(0, .ref (a 0)), (1, .int x1), (2, .int x2), (3, .int x3), (4, .int x4)] [.int z0] (w_U E a u) := by
  unfold V_X7_fussBeside_11 at hv
  refine bx_istore C 13 dX7_fussBeside_11 (by decide) rfl ?_
  refine bx_aload_n C 14 dX7_fussBeside_13 rfl rfl rfl ?_
  refine bx_getf (v := .ref (a 1)) C 17 0 0 inX7 rfl (by decide) fl_X7_10 dX7_fussBeside_14 at_U_0 rfl rfl ?_
  refine bx_iload_n C 18 dX7_fussBeside_17 rfl rfl rfl ?_
  refine bx_iload_n C 19 dX7_fussBeside_18 rfl rfl rfl ?_
  refine bx_pVi C 1 at_U_1 rfl 22 fc_X7_169 (k_X0_fussTo l E (fun k => a (1 + k)) _ _ _ _ hv) dX7_fussBeside_19 ⟨rfl, rfl, Nat.le_of_ble_eq_true rfl, Nat.le_of_ble_eq_true rfl⟩ [1, 2, 3, 4, 5, 6, 7, 8, 9, 10, 11, 12, 13] ps_U_H_1 (by decide) rfl rfl (Nat.le_of_ble_eq_true rfl) rfl (fun r1 hv => ?_)
  refine bx_aload_n C 23 dX7_fussBeside_22 rfl rfl rfl ?_
  refine bx_getf (v := .ref (a 1)) C 26 0 0 inX7 rfl (by decide) fl_X7_10 dX7_fussBeside_23 at_U_0 rfl rfl ?_
  refine bx_getf (v := .ref (a 3)) C 29 1 1 inX0 rfl (by decide) fl_X7_154 dX7_fussBeside_26 at_U_1 rfl rfl ?_
  refine bx_iload_n C 30 dX7_fussBeside_29 rfl rfl rfl ?_
  refine bx_iald (f := u.1.2.1) C 31 3 dX7_fussBeside_30 at_U_3 hv.1 rfl ?_
  replace hv := hv.2
  refine bx_aload_n C 32 dX7_fussBeside_31 rfl rfl rfl ?_
  refine bx_getf (v := .ref (a 1)) C 35 0 0 inX7 rfl (by decide) fl_X7_10 dX7_fussBeside_32 at_U_0 rfl rfl ?_
  refine bx_iload C 37 dX7_fussBeside_35 rfl rfl ?_
  refine bx_pVi C 1 at_U_1 rfl 40 fc_X7_163 (k_X0_kneesTo l E (fun k => a (1 + k)) _ _ _ hv) dX7_fussBeside_37 ⟨rfl, rfl, Nat.le_of_ble_eq_true rfl, Nat.le_of_ble_eq_true rfl⟩ [1, 2, 3, 4, 5, 6, 7, 8, 9, 10, 11, 12, 13] ps_U_H_1 (by decide) rfl rfl (Nat.le_of_ble_eq_true rfl) rfl (fun r2 hv => ?_)
  refine bx_iload C 42 dX7_fussBeside_40 rfl rfl ?_
  refine bx_iadd C 43 dX7_fussBeside_42 rfl ?_
  refine bx_aload_n C 44 dX7_fussBeside_43 rfl rfl rfl ?_
  refine bx_getf (v := .ref (a 1)) C 47 0 0 inX7 rfl (by decide) fl_X7_10 dX7_fussBeside_44 at_U_0 rfl rfl ?_
  refine bx_getf (v := .int u.1.2.2.2.2.2.2.1) C 50 1 6 inX0 rfl (by decide) fl_X7_116 dX7_fussBeside_47 at_U_1 rfl rfl ?_
  refine bx_iconst C 1 51 dX7_fussBeside_50 ic_1 rfl ?_
  refine bx_iadd C 52 dX7_fussBeside_51 rfl ?_
  refine bx_pSi C 55 fc_X7_301 (k_X1_fuss l E  _ _ _ _ hv) dX7_fussBeside_52 ⟨rfl, rfl, Nat.le_of_ble_eq_true rfl, Nat.le_of_ble_eq_true rfl⟩ [] rfl (by decide) rfl rfl (Nat.le_of_ble_eq_true rfl) rfl (fun r3 hv => ?_)
  refine bx_iadd C 56 dX7_fussBeside_55 rfl ?_
  exact bx_iret C () rfl dX7_fussBeside_56 rfl hv
def V_X7_fussBeside  (K : Int32 → Prop)  (u : US) (x1 : Int32) (x2 : Int32) (x3 : Int32) (x4 : Int32) : Prop := ((x4 ≤ x3 → V_X7_fussBeside_11 K u x1 x2 x3 x4 0) ∧
 (¬ x4 ≤ x3 → V_X7_fussBeside_11 K u x1 x2 x3 x4 1))
set_option maxRecDepth 20000 in
set_option maxHeartbeats 4000000 in
theorem t_X7_fussBeside_0 {a : Nat → Nat} {K : Int32 → Prop} (C : bx_C p (rmD 2) S m args meth c cX7_fussBeside 6 yX7_fussBeside.cls (some .int) E A 0 0) (u : US)   (x1 : Int32) (x2 : Int32) (x3 : Int32) (x4 : Int32) (hv : V_X7_fussBeside K u x1 x2 x3 x4) : G_X7_fussBeside p l e S m args below meth c E A a  u K 0 [(0, .ref (a 0)), (1, .int x1), (2, .int x2), (3, .int x3), (4, .int x4)] [] (w_U E a u) := by
  unfold V_X7_fussBeside at hv
  refine bx_iload_n C 1 dX7_fussBeside_0 rfl rfl rfl ?_
  refine bx_iload C 3 dX7_fussBeside_1 rfl rfl ?_
  refine bx_icmp_ge C 10 6 dX7_fussBeside_3 (by decide) rfl (fun h => ?_) (fun h => ?_)
  · replace hv := hv.1 h
    refine bx_iconst C 0 11 dX7_fussBeside_10 ic_0 rfl ?_
    exact bx_cut [0, 1, 2, 3, 4] (w_U E a u) rfl rfl (t_X7_fussBeside_11 C u   x1 x2 x3 x4 0 hv)
  · replace hv := hv.2 h
    refine bx_iconst C 1 7 dX7_fussBeside_6 ic_1 rfl ?_
    refine bx_goto C 11 dX7_fussBeside_7 (by decide) ?_
    exact bx_cut [0, 1, 2, 3, 4] (w_U E a u) rfl rfl (t_X7_fussBeside_11 C u   x1 x2 x3 x4 1 hv)
theorem k_X7_fussBeside (l : Launch) (E : bx_E) (a : Nat → Nat)  (K : Int32 → Prop) (u : US) (x1 : Int32) (x2 : Int32) (x3 : Int32) (x4 : Int32) (hv : V_X7_fussBeside  K u x1 x2 x3 x4) : bx_Mi l E yX7_fussBeside cX7_fussBeside 6 (some .int) (rmD 2) [.ref (a 0), .int x1, .int x2, .int x3, .int x4] (fun (_ : Unit) => w_U E a u) () (fun r (_ : Unit) => K r) :=
  bx_meti (by decide +kernel) (Nat.le_of_ble_eq_true rfl) (fun p e S m below meth c C => t_X7_fussBeside_0 C u x1 x2 x3 x4 hv)
abbrev G_X7_firstPlaceBeside (p : Program) (l : Launch) (e : Env) (S : State) (m : MethodId) (args : Array Value) (below : List Frame) (meth : Method) (c : Code) (E : bx_E) (A : Nat → Prop) (a : Nat → Nat)  (u : US) (K : Int32 → Prop) (pc : Nat) (lv : List (Nat × Value)) (st : List Value) (ws : va_W) : Prop := bx_S p l e (rmD 4) S m args below meth c 6 E A (MQ below (va_Qi (fun r (_ : Unit) => K r) (fun (_ : Unit) t => bx_B E A (w_U E a u) t) A) args S 0 0 A) 0 0 pc lv st ws
def V_X7_firstPlaceBeside_70  (K : Int32 → Prop) (B5 : Int32 → Int32 → Int32 → Int32 → Prop) (B18 : Int32 → Int32 → Int32 → Int32 → Int32 → Prop) (u : US) (x1 : Int32) (x2 : Int32) (x4 : Int32) (x5 : Int32) : Prop := B18  x1 x2 ((100 * x4) + x5) x4 (x5 + 2)
set_option maxRecDepth 20000 in
set_option maxHeartbeats 4000000 in
theorem t_X7_firstPlaceBeside_70 {a : Nat → Nat} {K : Int32 → Prop} (C : bx_C p (rmD 4) S m args meth c cX7_firstPlaceBeside 6 yX7_firstPlaceBeside.cls (some .int) E A 0 0) (u : US) (B5 : Int32 → Int32 → Int32 → Int32 → Prop) (hB5 : ∀  (x1 : Int32) (x2 : Int32) (x3 : Int32) (x4 : Int32), B5  x1 x2 x3 x4 → G_X7_firstPlaceBeside p l e S m args below meth c E A a  u K 5 [(0, .ref (a 0)), (1, .int x1), (2, .int x2), (3, .int x3), (4, .int x4)] [] (w_U E a u)) (B18 : Int32 → Int32 → Int32 → Int32 → Int32 → Prop) (hB18 : ∀  (x1 : Int32) (x2 : Int32) (x3 : Int32) (x4 : Int32) (x5 : Int32), B18  x1 x2 x3 x4 x5 → G_X7_firstPlaceBeside p l e S m args below meth c E A a  u K 18 [(0, .ref (a 0)), (1, .int x1), (2, .int x2), (3, .int x3), (4, .int x4), (5, .int x5)] [] (w_U E a u))  (x1 : Int32) (x2 : Int32) (x4 : Int32) (x5 : Int32) (hv : V_X7_firstPlaceBeside_70 K B5 B18 u x1 x2 x4 x5) : G_X7_firstPlaceBeside p l e S m args below meth c E A a  u K 70 [(0, .ref (a 0)), (1, .int x1), (2, .int x2), (4, .int x4), (5, .int x5)] [] (w_U E a u) := by
  unfold V_X7_firstPlaceBeside_70 at hv
  refine bx_bipush C 100 72 dX7_firstPlaceBeside_70 bp_100 rfl ?_
  refine bx_iload C 74 dX7_firstPlaceBeside_72 rfl rfl ?_
  refine bx_imul C 75 dX7_firstPlaceBeside_74 rfl ?_
  refine bx_iload C 77 dX7_firstPlaceBeside_75 rfl rfl ?_
  refine bx_iadd C 78 dX7_firstPlaceBeside_77 rfl ?_
  refine bx_istore_n C 79 dX7_firstPlaceBeside_78 rfl (by decide) rfl ?_
  refine bx_iinc C 2 82 dX7_firstPlaceBeside_79 rfl (by decide) ic_2 rfl ?_
  refine bx_goto C 18 dX7_firstPlaceBeside_82 (by decide) ?_
  exact bx_cut [2, 3, 4, 1, 5, 0] (w_U E a u) rfl rfl (hB18  x1 x2 ((100 * x4) + x5) x4 (x5 + 2) hv)
def V_X7_firstPlaceBeside_18  (K : Int32 → Prop) (B5 : Int32 → Int32 → Int32 → Int32 → Prop) : Nat → US → Int32 → Int32 → Int32 → Int32 → Int32 → Prop
  | 0, _, _, _, _, _, _ => False
  | n + 1, u, x1, x2, x3, x4, x5 => (((x4 + 1) < x5 → B5  x1 x2 x3 (x4 + 1)) ∧
 (¬ (x4 + 1) < x5 → (V_X7_areFreeNeighbours (fun r1 => ((r1 = 0 → V_X7_firstPlaceBeside_18 K B5 n u x1 x2 x3 x4 (x5 + 2)) ∧
 (¬ r1 = 0 → ((x3 = (-1) → V_X7_firstPlaceBeside_70 K B5 (fun y0 y1 y2 y3 y4 => V_X7_firstPlaceBeside_18 K B5 n u y0 y1 y2 y3 y4) u x1 x2 x4 x5) ∧
 (¬ x3 = (-1) → (V_X7_fussBeside (fun r2 => (V_X7_fussBeside (fun r3 => ((r3 ≤ r2 → V_X7_firstPlaceBeside_18 K B5 n u x1 x2 x3 x4 (x5 + 2)) ∧
 (¬ r3 ≤ r2 → V_X7_firstPlaceBeside_70 K B5 (fun y0 y1 y2 y3 y4 => V_X7_firstPlaceBeside_18 K B5 n u y0 y1 y2 y3 y4) u x1 x2 x4 x5))) u x1 x2 (x3 / 100) (x3 - x3 / 100 * 100))) u x1 x2 x4 x5)))))) u x4 x5)))
set_option maxRecDepth 20000 in
set_option maxHeartbeats 4000000 in
theorem t_X7_firstPlaceBeside_18 {a : Nat → Nat} {K : Int32 → Prop} (C : bx_C p (rmD 4) S m args meth c cX7_firstPlaceBeside 6 yX7_firstPlaceBeside.cls (some .int) E A 0 0) (u : US) (B5 : Int32 → Int32 → Int32 → Int32 → Prop) (hB5 : ∀  (x1 : Int32) (x2 : Int32) (x3 : Int32) (x4 : Int32), B5  x1 x2 x3 x4 → G_X7_firstPlaceBeside p l e S m args below meth c E A a  u K 5 [(0, .ref (a 0)), (1, .int x1), (2, .int x2), (3, .int x3), (4, .int x4)] [] (w_U E a u)) : ∀ (n : Nat)  (x1 : Int32) (x2 : Int32) (x3 : Int32) (x4 : Int32) (x5 : Int32), V_X7_firstPlaceBeside_18 K B5 n u x1 x2 x3 x4 x5 → G_X7_firstPlaceBeside p l e S m args below meth c E A a  u K 18 [(0, .ref (a 0)), (1, .int x1), (2, .int x2), (3, .int x3), (4, .int x4), (5, .int x5)] [] (w_U E a u) := by
  intro n
  induction n with
  | zero =>
    intro x1 x2 x3 x4 x5 hv
    exact False.elim hv
  | succ n ih =>
    intro x1 x2 x3 x4 x5 hv
    unfold V_X7_firstPlaceBeside_18 at hv
    refine bx_iload C 20 dX7_firstPlaceBeside_18 rfl rfl ?_
    refine bx_iload C 22 dX7_firstPlaceBeside_20 rfl rfl ?_
    refine bx_iconst C 1 23 dX7_firstPlaceBeside_22 ic_1 rfl ?_
    refine bx_iadd C 24 dX7_firstPlaceBeside_23 rfl ?_
    refine bx_icmp_gt C 85 27 dX7_firstPlaceBeside_24 (by decide) rfl (fun h => ?_) (fun h => ?_)
    · replace hv := hv.1 h
      refine bx_iinc C 1 88 dX7_firstPlaceBeside_85 rfl (by decide) ic_1 rfl ?_
      refine bx_goto C 5 dX7_firstPlaceBeside_88 (by decide) ?_
      exact bx_cut [1, 2, 3, 4, 0] (w_U E a u) rfl rfl (hB5  x1 x2 x3 (x4 + 1) hv)
    · replace hv := hv.2 h
      refine bx_aload_n C 28 dX7_firstPlaceBeside_27 rfl rfl rfl ?_
      refine bx_iload C 30 dX7_firstPlaceBeside_28 rfl rfl ?_
      refine bx_iload C 32 dX7_firstPlaceBeside_30 rfl rfl ?_
      refine bx_pVi C 0 at_U_0 rfl 35 fc_X7_298 (k_X7_areFreeNeighbours l E a _ _ _ _ hv) dX7_firstPlaceBeside_32 ⟨rfl, rfl, Nat.le_of_ble_eq_true rfl, Nat.le_of_ble_eq_true rfl⟩ [0, 1, 2, 3, 4, 5, 6, 7, 8, 9, 10, 11, 12, 13, 14, 15, 16, 17, 18, 19, 20, 21, 22, 23, 24, 25, 26, 27, 28, 29, 30, 31, 32, 33, 34, 35, 36, 37, 38, 39, 40, 41, 42, 43, 44, 45, 46, 47, 48, 49, 50, 51, 52, 53, 54, 55, 56, 57, 58, 59, 60, 61, 62, 63, 64, 65, 66, 67, 68, 69, 70, 71, 72, 73] ps_U_U_0 (by decide) rfl rfl (Nat.le_of_ble_eq_true rfl) rfl (fun r1 hv => ?_)
      refine bx_if_eq C 79 38 dX7_firstPlaceBeside_35 (by decide) rfl (fun h => ?_) (fun h => ?_)
      · replace hv := hv.1 h
        refine bx_iinc C 2 82 dX7_firstPlaceBeside_79 rfl (by decide) ic_2 rfl ?_
        refine bx_goto C 18 dX7_firstPlaceBeside_82 (by decide) ?_
        exact bx_cut [1, 2, 3, 4, 5, 0] (w_U E a u) rfl rfl (ih  x1 x2 x3 x4 (x5 + 2) hv)
      · replace hv := hv.2 h
        refine bx_iload_n C 39 dX7_firstPlaceBeside_38 rfl rfl rfl ?_
        refine bx_iconst C (-1) 40 dX7_firstPlaceBeside_39 ic_m1 rfl ?_
        refine bx_icmp_eq C 70 43 dX7_firstPlaceBeside_40 (by decide) rfl (fun h => ?_) (fun h => ?_)
        · replace hv := hv.1 h
          exact bx_cut [0, 1, 2, 4, 5] (w_U E a u) rfl rfl (t_X7_firstPlaceBeside_70 C u _ hB5 _ (fun y0 y1 y2 y3 y4 hv => ih y0 y1 y2 y3 y4 hv)  x1 x2 x4 x5 hv)
        · replace hv := hv.2 h
          refine bx_aload_n C 44 dX7_firstPlaceBeside_43 rfl rfl rfl ?_
          refine bx_iload_n C 45 dX7_firstPlaceBeside_44 rfl rfl rfl ?_
          refine bx_iload_n C 46 dX7_firstPlaceBeside_45 rfl rfl rfl ?_
          refine bx_iload C 48 dX7_firstPlaceBeside_46 rfl rfl ?_
          refine bx_iload C 50 dX7_firstPlaceBeside_48 rfl rfl ?_
          refine bx_pVi C 0 at_U_0 rfl 53 fc_X7_193 (k_X7_fussBeside l E a _ _ _ _ _ _ hv) dX7_firstPlaceBeside_50 ⟨rfl, rfl, Nat.le_of_ble_eq_true rfl, Nat.le_of_ble_eq_true rfl⟩ [0, 1, 2, 3, 4, 5, 6, 7, 8, 9, 10, 11, 12, 13, 14, 15, 16, 17, 18, 19, 20, 21, 22, 23, 24, 25, 26, 27, 28, 29, 30, 31, 32, 33, 34, 35, 36, 37, 38, 39, 40, 41, 42, 43, 44, 45, 46, 47, 48, 49, 50, 51, 52, 53, 54, 55, 56, 57, 58, 59, 60, 61, 62, 63, 64, 65, 66, 67, 68, 69, 70, 71, 72, 73] ps_U_U_0 (by decide) rfl rfl (Nat.le_of_ble_eq_true rfl) rfl (fun r2 hv => ?_)
          refine bx_aload_n C 54 dX7_firstPlaceBeside_53 rfl rfl rfl ?_
          refine bx_iload_n C 55 dX7_firstPlaceBeside_54 rfl rfl rfl ?_
          refine bx_iload_n C 56 dX7_firstPlaceBeside_55 rfl rfl rfl ?_
          refine bx_iload_n C 57 dX7_firstPlaceBeside_56 rfl rfl rfl ?_
          refine bx_bipush C 100 59 dX7_firstPlaceBeside_57 bp_100 rfl ?_
          refine bx_idiv C 60 dX7_firstPlaceBeside_59 nz32_100 rfl ?_
          refine bx_iload_n C 61 dX7_firstPlaceBeside_60 rfl rfl rfl ?_
          refine bx_bipush C 100 63 dX7_firstPlaceBeside_61 bp_100 rfl ?_
          refine bx_irem C 64 dX7_firstPlaceBeside_63 nz32_100 rfl ?_
          refine bx_pVi C 0 at_U_0 rfl 67 fc_X7_193 (k_X7_fussBeside l E a _ _ _ _ _ _ hv) dX7_firstPlaceBeside_64 ⟨rfl, rfl, Nat.le_of_ble_eq_true rfl, Nat.le_of_ble_eq_true rfl⟩ [0, 1, 2, 3, 4, 5, 6, 7, 8, 9, 10, 11, 12, 13, 14, 15, 16, 17, 18, 19, 20, 21, 22, 23, 24, 25, 26, 27, 28, 29, 30, 31, 32, 33, 34, 35, 36, 37, 38, 39, 40, 41, 42, 43, 44, 45, 46, 47, 48, 49, 50, 51, 52, 53, 54, 55, 56, 57, 58, 59, 60, 61, 62, 63, 64, 65, 66, 67, 68, 69, 70, 71, 72, 73] ps_U_U_0 (by decide) rfl rfl (Nat.le_of_ble_eq_true rfl) rfl (fun r3 hv => ?_)
          refine bx_icmp_ge C 79 70 dX7_firstPlaceBeside_67 (by decide) rfl (fun h => ?_) (fun h => ?_)
          · replace hv := hv.1 h
            refine bx_iinc C 2 82 dX7_firstPlaceBeside_79 rfl (by decide) ic_2 rfl ?_
            refine bx_goto C 18 dX7_firstPlaceBeside_82 (by decide) ?_
            exact bx_cut [1, 2, 3, 4, 5, 0] (w_U E a u) rfl rfl (ih  x1 x2 x3 x4 (x5 + 2) hv)
          · replace hv := hv.2 h
            exact bx_cut [0, 1, 2, 4, 5] (w_U E a u) rfl rfl (t_X7_firstPlaceBeside_70 C u _ hB5 _ (fun y0 y1 y2 y3 y4 hv => ih y0 y1 y2 y3 y4 hv)  x1 x2 x4 x5 hv)
def V_X7_firstPlaceBeside_5  (K : Int32 → Prop)  : Nat → US → Int32 → Int32 → Int32 → Int32 → Prop
  | 0, _, _, _, _, _ => False
  | n + 1, u, x1, x2, x3, x4 => ((30 ≤ x4 → K x3) ∧
 (¬ 30 ≤ x4 → ∃ n4, V_X7_firstPlaceBeside_18 K (fun y0 y1 y2 y3 => V_X7_firstPlaceBeside_5 K n u y0 y1 y2 y3) n4 u x1 x2 x3 x4 (x4 - 1)))
set_option maxRecDepth 20000 in
set_option maxHeartbeats 4000000 in
theorem t_X7_firstPlaceBeside_5 {a : Nat → Nat} {K : Int32 → Prop} (C : bx_C p (rmD 4) S m args meth c cX7_firstPlaceBeside 6 yX7_firstPlaceBeside.cls (some .int) E A 0 0) (u : US)  : ∀ (n : Nat)  (x1 : Int32) (x2 : Int32) (x3 : Int32) (x4 : Int32), V_X7_firstPlaceBeside_5 K n u x1 x2 x3 x4 → G_X7_firstPlaceBeside p l e S m args below meth c E A a  u K 5 [(0, .ref (a 0)), (1, .int x1), (2, .int x2), (3, .int x3), (4, .int x4)] [] (w_U E a u) := by
  intro n
  induction n with
  | zero =>
    intro x1 x2 x3 x4 hv
    exact False.elim hv
  | succ n ih =>
    intro x1 x2 x3 x4 hv
    unfold V_X7_firstPlaceBeside_5 at hv
    refine bx_iload C 7 dX7_firstPlaceBeside_5 rfl rfl ?_
    refine bx_bipush C 30 9 dX7_firstPlaceBeside_7 bp_30 rfl ?_
    refine bx_icmp_ge C 91 12 dX7_firstPlaceBeside_9 (by decide) rfl (fun h => ?_) (fun h => ?_)
    · replace hv := hv.1 h
      refine bx_iload_n C 92 dX7_firstPlaceBeside_91 rfl rfl rfl ?_
      exact bx_iret C () rfl dX7_firstPlaceBeside_92 rfl hv
    · replace hv := hv.2 h
      refine bx_iload C 14 dX7_firstPlaceBeside_12 rfl rfl ?_
      refine bx_iconst C 1 15 dX7_firstPlaceBeside_14 ic_1 rfl ?_
      refine bx_isub C 16 dX7_firstPlaceBeside_15 rfl ?_
      refine bx_istore C 18 dX7_firstPlaceBeside_16 (by decide) rfl ?_
      obtain ⟨n4, hv⟩ := hv
      exact bx_cut [1, 2, 3, 4, 5, 0] (w_U E a u) rfl rfl (t_X7_firstPlaceBeside_18 C u _ (fun y0 y1 y2 y3 hv => ih y0 y1 y2 y3 hv) n4  x1 x2 x3 x4 (x4 - 1) hv)
def V_X7_firstPlaceBeside  (K : Int32 → Prop)  (u : US) (x1 : Int32) (x2 : Int32) : Prop := ∃ n5, V_X7_firstPlaceBeside_5 K n5 u x1 x2 (-1) 0
set_option maxRecDepth 20000 in
set_option maxHeartbeats 4000000 in
theorem t_X7_firstPlaceBeside_0 {a : Nat → Nat} {K : Int32 → Prop} (C : bx_C p (rmD 4) S m args meth c cX7_firstPlaceBeside 6 yX7_firstPlaceBeside.cls (some .int) E A 0 0) (u : US)   (x1 : Int32) (x2 : Int32) (hv : V_X7_firstPlaceBeside K u x1 x2) : G_X7_firstPlaceBeside p l e S m args below meth c E A a  u K 0 [(0, .ref (a 0)), (1, .int x1), (2, .int x2)] [] (w_U E a u) := by
  unfold V_X7_firstPlaceBeside at hv
  refine bx_iconst C (-1) 1 dX7_firstPlaceBeside_0 ic_m1 rfl ?_
  refine bx_istore_n C 2 dX7_firstPlaceBeside_1 rfl (by decide) rfl ?_
  refine bx_iconst C 0 3 dX7_firstPlaceBeside_2 ic_0 rfl ?_
  refine bx_istore C 5 dX7_firstPlaceBeside_3 (by decide) rfl ?_
  obtain ⟨n5, hv⟩ := hv
  exact bx_cut [2, 3, 4, 1, 0] (w_U E a u) rfl rfl (t_X7_firstPlaceBeside_5 C u  n5  x1 x2 (-1) 0 hv)
theorem k_X7_firstPlaceBeside (l : Launch) (E : bx_E) (a : Nat → Nat)  (K : Int32 → Prop) (u : US) (x1 : Int32) (x2 : Int32) (hv : V_X7_firstPlaceBeside  K u x1 x2) : bx_Mi l E yX7_firstPlaceBeside cX7_firstPlaceBeside 6 (some .int) (rmD 4) [.ref (a 0), .int x1, .int x2] (fun (_ : Unit) => w_U E a u) () (fun r (_ : Unit) => K r) :=
  bx_meti (by decide +kernel) (Nat.le_of_ble_eq_true rfl) (fun p e S m below meth c C => t_X7_firstPlaceBeside_0 C u x1 x2 hv)
abbrev G_X7_beside (p : Program) (l : Launch) (e : Env) (S : State) (m : MethodId) (args : Array Value) (below : List Frame) (meth : Method) (c : Code) (E : bx_E) (A : Nat → Prop) (a : Nat → Nat)  (K : Int32 → US → Prop) (pc : Nat) (lv : List (Nat × Value)) (st : List Value) (ws : va_W) : Prop := bx_S p l e (rmD 5) S m args below meth c 5 E A (MQ below (va_Qi K (fun (u : US) t => bx_B E A (w_U E a u) t) A) args S 0 0 A) 0 0 pc lv st ws
def V_X7_beside_35  (K : Int32 → US → Prop)  (u : US)  : Prop := (V_X7_refuseBad (fun r1 u2 => K r1 u2) u (-2))
set_option maxRecDepth 20000 in
set_option maxHeartbeats 4000000 in
theorem t_X7_beside_35 {a : Nat → Nat} {K : Int32 → US → Prop} (C : bx_C p (rmD 5) S m args meth c cX7_beside 5 yX7_beside.cls (some .int) E A 0 0)   (u : US)  (hv : V_X7_beside_35 K u ) : G_X7_beside p l e S m args below meth c E A a  K 35 [(0, .ref (a 0))] [] (w_U E a u) := by
  unfold V_X7_beside_35 at hv
  refine bx_aload_n C 36 dX7_beside_35 rfl rfl rfl ?_
  refine bx_bipush C (-2) 38 dX7_beside_36 bp_m2 rfl ?_
  refine bx_qVi C 0 at_U_0 rfl 41 fc_X7_63 (k_X7_refuseBad l E a _ _ _ hv) dX7_beside_38 ⟨rfl, rfl, Nat.le_of_ble_eq_true rfl, Nat.le_of_ble_eq_true rfl⟩ [0, 1, 2, 3, 4, 5, 6, 7, 8, 9, 10, 11, 12, 13, 14, 15, 16, 17, 18, 19, 20, 21, 22, 23, 24, 25, 26, 27, 28, 29, 30, 31, 32, 33, 34, 35, 36, 37, 38, 39, 40, 41, 42, 43, 44, 45, 46, 47, 48, 49, 50, 51, 52, 53, 54, 55, 56, 57, 58, 59, 60, 61, 62, 63, 64, 65, 66, 67, 68, 69, 70, 71, 72, 73] (fun u2 => w_U E a u2) ps_U_U_0 (by decide) ad_U pu_U_U_0 rfl rfl (Nat.le_of_ble_eq_true rfl) rfl (fun r1 u2 hv => ?_)
  exact bx_iret C u2 rfl dX7_beside_41 rfl hv
def V_X7_beside_64  (K : Int32 → US → Prop)  (u : US)  : Prop := (V_X7_refuseNo (fun r3 u4 => K r3 u4) u (-3))
set_option maxRecDepth 20000 in
set_option maxHeartbeats 4000000 in
theorem t_X7_beside_64 {a : Nat → Nat} {K : Int32 → US → Prop} (C : bx_C p (rmD 5) S m args meth c cX7_beside 5 yX7_beside.cls (some .int) E A 0 0)   (u : US)  (hv : V_X7_beside_64 K u ) : G_X7_beside p l e S m args below meth c E A a  K 64 [(0, .ref (a 0))] [] (w_U E a u) := by
  unfold V_X7_beside_64 at hv
  refine bx_aload_n C 65 dX7_beside_64 rfl rfl rfl ?_
  refine bx_bipush C (-3) 67 dX7_beside_65 bp_m3 rfl ?_
  refine bx_qVi C 0 at_U_0 rfl 70 fc_X7_119 (k_X7_refuseNo l E a _ _ _ hv) dX7_beside_67 ⟨rfl, rfl, Nat.le_of_ble_eq_true rfl, Nat.le_of_ble_eq_true rfl⟩ [0, 1, 2, 3, 4, 5, 6, 7, 8, 9, 10, 11, 12, 13, 14, 15, 16, 17, 18, 19, 20, 21, 22, 23, 24, 25, 26, 27, 28, 29, 30, 31, 32, 33, 34, 35, 36, 37, 38, 39, 40, 41, 42, 43, 44, 45, 46, 47, 48, 49, 50, 51, 52, 53, 54, 55, 56, 57, 58, 59, 60, 61, 62, 63, 64, 65, 66, 67, 68, 69, 70, 71, 72, 73] (fun u4 => w_U E a u4) ps_U_U_0 (by decide) ad_U pu_U_U_0 rfl rfl (Nat.le_of_ble_eq_true rfl) rfl (fun r3 u4 hv => ?_)
  exact bx_iret C u4 rfl dX7_beside_70 rfl hv
def V_X7_beside  (K : Int32 → US → Prop)  (u : US) (x1 : Int32) (x2 : Int32) (x3 : Int32) : Prop := (V_X0_isSoul (fun r5 => ((r5 = 0 → V_X7_beside_35 K u ) ∧
 (¬ r5 = 0 → (V_X0_isSoul (fun r6 => ((r6 = 0 → V_X7_beside_35 K u ) ∧
 (¬ r6 = 0 → ((x1 = x2 → V_X7_beside_35 K u ) ∧
 (¬ x1 = x2 → (V_X7_within (fun r7 => ((¬ r7 = 0 → (V_X0_sits (fun r8 => ((¬ r8 = 0 → V_X7_beside_64 K u ) ∧
 (r8 = 0 → (V_X0_sits (fun r9 => ((r9 = 0 → (V_X7_firstPlaceBeside (fun r10 => ((r10 = (-1) → K r10 u) ∧
 (¬ r10 = (-1) → ((¬ x3 = 1 → (V_X7_fussBeside (fun r11 => K r11 u) u x1 x2 (r10 / 100) (r10 - r10 / 100 * 100))) ∧
 (x3 = 1 → K r10 u))))) u x1 x2)) ∧
 (¬ r9 = 0 → V_X7_beside_64 K u ))) u.1 x2)))) u.1 x1)) ∧
 (r7 = 0 → V_X7_beside_35 K u )))  x3 2)))))) u.1 x2)))) u.1 x1)
set_option maxRecDepth 20000 in
set_option maxHeartbeats 4000000 in
theorem t_X7_beside_0 {a : Nat → Nat} {K : Int32 → US → Prop} (C : bx_C p (rmD 5) S m args meth c cX7_beside 5 yX7_beside.cls (some .int) E A 0 0)   (u : US) (x1 : Int32) (x2 : Int32) (x3 : Int32) (hv : V_X7_beside K u x1 x2 x3) : G_X7_beside p l e S m args below meth c E A a  K 0 [(0, .ref (a 0)), (1, .int x1), (2, .int x2), (3, .int x3)] [] (w_U E a u) := by
  unfold V_X7_beside at hv
  refine bx_aload_n C 1 dX7_beside_0 rfl rfl rfl ?_
  refine bx_getf (v := .ref (a 1)) C 4 0 0 inX7 rfl (by decide) fl_X7_10 dX7_beside_1 at_U_0 rfl rfl ?_
  refine bx_iload_n C 5 dX7_beside_4 rfl rfl rfl ?_
  refine bx_pVi C 1 at_U_1 rfl 8 fc_X7_106 (k_X0_isSoul l E (fun k => a (1 + k)) _ _ _ hv) dX7_beside_5 ⟨rfl, rfl, Nat.le_of_ble_eq_true rfl, Nat.le_of_ble_eq_true rfl⟩ [1, 2, 3, 4, 5, 6, 7, 8, 9, 10, 11, 12, 13] ps_U_H_1 (by decide) rfl rfl (Nat.le_of_ble_eq_true rfl) rfl (fun r5 hv => ?_)
  refine bx_if_eq C 35 11 dX7_beside_8 (by decide) rfl (fun h => ?_) (fun h => ?_)
  · replace hv := hv.1 h
    exact bx_cut [0] (w_U E a u) rfl rfl (t_X7_beside_35 C   u  hv)
  · replace hv := hv.2 h
    refine bx_aload_n C 12 dX7_beside_11 rfl rfl rfl ?_
    refine bx_getf (v := .ref (a 1)) C 15 0 0 inX7 rfl (by decide) fl_X7_10 dX7_beside_12 at_U_0 rfl rfl ?_
    refine bx_iload_n C 16 dX7_beside_15 rfl rfl rfl ?_
    refine bx_pVi C 1 at_U_1 rfl 19 fc_X7_106 (k_X0_isSoul l E (fun k => a (1 + k)) _ _ _ hv) dX7_beside_16 ⟨rfl, rfl, Nat.le_of_ble_eq_true rfl, Nat.le_of_ble_eq_true rfl⟩ [1, 2, 3, 4, 5, 6, 7, 8, 9, 10, 11, 12, 13] ps_U_H_1 (by decide) rfl rfl (Nat.le_of_ble_eq_true rfl) rfl (fun r6 hv => ?_)
    refine bx_if_eq C 35 22 dX7_beside_19 (by decide) rfl (fun h => ?_) (fun h => ?_)
    · replace hv := hv.1 h
      exact bx_cut [0] (w_U E a u) rfl rfl (t_X7_beside_35 C   u  hv)
    · replace hv := hv.2 h
      refine bx_iload_n C 23 dX7_beside_22 rfl rfl rfl ?_
      refine bx_iload_n C 24 dX7_beside_23 rfl rfl rfl ?_
      refine bx_icmp_eq C 35 27 dX7_beside_24 (by decide) rfl (fun h => ?_) (fun h => ?_)
      · replace hv := hv.1 h
        exact bx_cut [0] (w_U E a u) rfl rfl (t_X7_beside_35 C   u  hv)
      · replace hv := hv.2 h
        refine bx_iload_n C 28 dX7_beside_27 rfl rfl rfl ?_
        refine bx_iconst C 2 29 dX7_beside_28 ic_2 rfl ?_
        refine bx_pSi C 32 fc_X7_59 (k_X7_within l E  _ _ _ hv) dX7_beside_29 ⟨rfl, rfl, Nat.le_of_ble_eq_true rfl, Nat.le_of_ble_eq_true rfl⟩ [] rfl (by decide) rfl rfl (Nat.le_of_ble_eq_true rfl) rfl (fun r7 hv => ?_)
        refine bx_if_ne C 42 35 dX7_beside_32 (by decide) rfl (fun h => ?_) (fun h => ?_)
        · replace hv := hv.1 h
          refine bx_aload_n C 43 dX7_beside_42 rfl rfl rfl ?_
          refine bx_getf (v := .ref (a 1)) C 46 0 0 inX7 rfl (by decide) fl_X7_10 dX7_beside_43 at_U_0 rfl rfl ?_
          refine bx_iload_n C 47 dX7_beside_46 rfl rfl rfl ?_
          refine bx_pVi C 1 at_U_1 rfl 50 fc_X7_110 (k_X0_sits l E (fun k => a (1 + k)) _ _ _ hv) dX7_beside_47 ⟨rfl, rfl, Nat.le_of_ble_eq_true rfl, Nat.le_of_ble_eq_true rfl⟩ [1, 2, 3, 4, 5, 6, 7, 8, 9, 10, 11, 12, 13] ps_U_H_1 (by decide) rfl rfl (Nat.le_of_ble_eq_true rfl) rfl (fun r8 hv => ?_)
          refine bx_if_ne C 64 53 dX7_beside_50 (by decide) rfl (fun h => ?_) (fun h => ?_)
          · replace hv := hv.1 h
            exact bx_cut [0] (w_U E a u) rfl rfl (t_X7_beside_64 C   u  hv)
          · replace hv := hv.2 h
            refine bx_aload_n C 54 dX7_beside_53 rfl rfl rfl ?_
            refine bx_getf (v := .ref (a 1)) C 57 0 0 inX7 rfl (by decide) fl_X7_10 dX7_beside_54 at_U_0 rfl rfl ?_
            refine bx_iload_n C 58 dX7_beside_57 rfl rfl rfl ?_
            refine bx_pVi C 1 at_U_1 rfl 61 fc_X7_110 (k_X0_sits l E (fun k => a (1 + k)) _ _ _ hv) dX7_beside_58 ⟨rfl, rfl, Nat.le_of_ble_eq_true rfl, Nat.le_of_ble_eq_true rfl⟩ [1, 2, 3, 4, 5, 6, 7, 8, 9, 10, 11, 12, 13] ps_U_H_1 (by decide) rfl rfl (Nat.le_of_ble_eq_true rfl) rfl (fun r9 hv => ?_)
            refine bx_if_eq C 71 64 dX7_beside_61 (by decide) rfl (fun h => ?_) (fun h => ?_)
            · replace hv := hv.1 h
              refine bx_aload_n C 72 dX7_beside_71 rfl rfl rfl ?_
              refine bx_iload_n C 73 dX7_beside_72 rfl rfl rfl ?_
              refine bx_iload_n C 74 dX7_beside_73 rfl rfl rfl ?_
              refine bx_pVi C 0 at_U_0 rfl 77 fc_X7_190 (k_X7_firstPlaceBeside l E a _ _ _ _ hv) dX7_beside_74 ⟨rfl, rfl, Nat.le_of_ble_eq_true rfl, Nat.le_of_ble_eq_true rfl⟩ [0, 1, 2, 3, 4, 5, 6, 7, 8, 9, 10, 11, 12, 13, 14, 15, 16, 17, 18, 19, 20, 21, 22, 23, 24, 25, 26, 27, 28, 29, 30, 31, 32, 33, 34, 35, 36, 37, 38, 39, 40, 41, 42, 43, 44, 45, 46, 47, 48, 49, 50, 51, 52, 53, 54, 55, 56, 57, 58, 59, 60, 61, 62, 63, 64, 65, 66, 67, 68, 69, 70, 71, 72, 73] ps_U_U_0 (by decide) rfl rfl (Nat.le_of_ble_eq_true rfl) rfl (fun r10 hv => ?_)
              refine bx_istore C 79 dX7_beside_77 (by decide) rfl ?_
              refine bx_iload C 81 dX7_beside_79 rfl rfl ?_
              refine bx_iconst C (-1) 82 dX7_beside_81 ic_m1 rfl ?_
              refine bx_icmp_eq C 90 85 dX7_beside_82 (by decide) rfl (fun h => ?_) (fun h => ?_)
              · replace hv := hv.1 h
                refine bx_iload C 92 dX7_beside_90 rfl rfl ?_
                exact bx_iret C u rfl dX7_beside_92 rfl hv
              · replace hv := hv.2 h
                refine bx_iload_n C 86 dX7_beside_85 rfl rfl rfl ?_
                refine bx_iconst C 1 87 dX7_beside_86 ic_1 rfl ?_
                refine bx_icmp_ne C 93 90 dX7_beside_87 (by decide) rfl (fun h => ?_) (fun h => ?_)
                · replace hv := hv.1 h
                  refine bx_aload_n C 94 dX7_beside_93 rfl rfl rfl ?_
                  refine bx_iload_n C 95 dX7_beside_94 rfl rfl rfl ?_
                  refine bx_iload_n C 96 dX7_beside_95 rfl rfl rfl ?_
                  refine bx_iload C 98 dX7_beside_96 rfl rfl ?_
                  refine bx_bipush C 100 100 dX7_beside_98 bp_100 rfl ?_
                  refine bx_idiv C 101 dX7_beside_100 nz32_100 rfl ?_
                  refine bx_iload C 103 dX7_beside_101 rfl rfl ?_
                  refine bx_bipush C 100 105 dX7_beside_103 bp_100 rfl ?_
                  refine bx_irem C 106 dX7_beside_105 nz32_100 rfl ?_
                  refine bx_pVi C 0 at_U_0 rfl 109 fc_X7_193 (k_X7_fussBeside l E a _ _ _ _ _ _ hv) dX7_beside_106 ⟨rfl, rfl, Nat.le_of_ble_eq_true rfl, Nat.le_of_ble_eq_true rfl⟩ [0, 1, 2, 3, 4, 5, 6, 7, 8, 9, 10, 11, 12, 13, 14, 15, 16, 17, 18, 19, 20, 21, 22, 23, 24, 25, 26, 27, 28, 29, 30, 31, 32, 33, 34, 35, 36, 37, 38, 39, 40, 41, 42, 43, 44, 45, 46, 47, 48, 49, 50, 51, 52, 53, 54, 55, 56, 57, 58, 59, 60, 61, 62, 63, 64, 65, 66, 67, 68, 69, 70, 71, 72, 73] ps_U_U_0 (by decide) rfl rfl (Nat.le_of_ble_eq_true rfl) rfl (fun r11 hv => ?_)
                  exact bx_iret C u rfl dX7_beside_109 rfl hv
                · replace hv := hv.2 h
                  refine bx_iload C 92 dX7_beside_90 rfl rfl ?_
                  exact bx_iret C u rfl dX7_beside_92 rfl hv
            · replace hv := hv.2 h
              exact bx_cut [0] (w_U E a u) rfl rfl (t_X7_beside_64 C   u  hv)
        · replace hv := hv.2 h
          exact bx_cut [0] (w_U E a u) rfl rfl (t_X7_beside_35 C   u  hv)
theorem k_X7_beside (l : Launch) (E : bx_E) (a : Nat → Nat)  (K : Int32 → US → Prop) (u : US) (x1 : Int32) (x2 : Int32) (x3 : Int32) (hv : V_X7_beside  K u x1 x2 x3) : bx_Mi l E yX7_beside cX7_beside 5 (some .int) (rmD 5) [.ref (a 0), .int x1, .int x2, .int x3] (fun (u : US) => w_U E a u) u K :=
  bx_meti (by decide +kernel) (Nat.le_of_ble_eq_true rfl) (fun p e S m below meth c C => t_X7_beside_0 C u x1 x2 x3 hv)
abbrev G_X7_wrong (p : Program) (l : Launch) (e : Env) (S : State) (m : MethodId) (args : Array Value) (below : List Frame) (meth : Method) (c : Code) (E : bx_E) (A : Nat → Prop) (a : Nat → Nat)  (u : US) (K : Int32 → Prop) (pc : Nat) (lv : List (Nat × Value)) (st : List Value) (ws : va_W) : Prop := bx_S p l e (rmD 1) S m args below meth c 3 E A (MQ below (va_Qi (fun r (_ : Unit) => K r) (fun (_ : Unit) t => bx_B E A (w_U E a u) t) A) args S 0 0 A) 0 0 pc lv st ws
def V_X7_wrong_4  (K : Int32 → Prop)  : Nat → US → Int32 → Int32 → Prop
  | 0, _, _, _ => False
  | n + 1, u, x1, x2 => ((u.1.2.2.2.2.1 ≤ x2 → K x1) ∧
 (¬ u.1.2.2.2.2.1 ≤ x2 → (V_X0_sits (fun r1 => ((r1 = 0 → V_X7_wrong_4 K n u x1 (x2 + 1)) ∧
 (¬ r1 = 0 → (vp_in x2 7 ∧ (vp_in x2 7 ∧ (((u.1.2.2.2.1 (x2 : Int32).toNatClampNeg) = (u.1.2.2.1 (x2 : Int32).toNatClampNeg) → V_X7_wrong_4 K n u x1 (x2 + 1)) ∧
 (¬ (u.1.2.2.2.1 (x2 : Int32).toNatClampNeg) = (u.1.2.2.1 (x2 : Int32).toNatClampNeg) → V_X7_wrong_4 K n u (x1 ||| (1 <<< (x2 &&& 31))) (x2 + 1)))))))) u.1 x2)))
set_option maxRecDepth 20000 in
set_option maxHeartbeats 4000000 in
theorem t_X7_wrong_4 {a : Nat → Nat} {K : Int32 → Prop} (C : bx_C p (rmD 1) S m args meth c cX7_wrong 3 yX7_wrong.cls (some .int) E A 0 0) (u : US)  : ∀ (n : Nat)  (x1 : Int32) (x2 : Int32), V_X7_wrong_4 K n u x1 x2 → G_X7_wrong p l e S m args below meth c E A a  u K 4 [(0, .ref (a 0)), (1, .int x1), (2, .int x2)] [] (w_U E a u) := by
  intro n
  induction n with
  | zero =>
    intro x1 x2 hv
    exact False.elim hv
  | succ n ih =>
    intro x1 x2 hv
    unfold V_X7_wrong_4 at hv
    refine bx_iload_n C 5 dX7_wrong_4 rfl rfl rfl ?_
    refine bx_aload_n C 6 dX7_wrong_5 rfl rfl rfl ?_
    refine bx_getf (v := .ref (a 1)) C 9 0 0 inX7 rfl (by decide) fl_X7_10 dX7_wrong_6 at_U_0 rfl rfl ?_
    refine bx_getf (v := .int u.1.2.2.2.2.1) C 12 1 4 inX0 rfl (by decide) fl_X7_52 dX7_wrong_9 at_U_1 rfl rfl ?_
    refine bx_icmp_ge C 59 15 dX7_wrong_12 (by decide) rfl (fun h => ?_) (fun h => ?_)
    · replace hv := hv.1 h
      refine bx_iload_n C 60 dX7_wrong_59 rfl rfl rfl ?_
      exact bx_iret C () rfl dX7_wrong_60 rfl hv
    · replace hv := hv.2 h
      refine bx_aload_n C 16 dX7_wrong_15 rfl rfl rfl ?_
      refine bx_getf (v := .ref (a 1)) C 19 0 0 inX7 rfl (by decide) fl_X7_10 dX7_wrong_16 at_U_0 rfl rfl ?_
      refine bx_iload_n C 20 dX7_wrong_19 rfl rfl rfl ?_
      refine bx_pVi C 1 at_U_1 rfl 23 fc_X7_110 (k_X0_sits l E (fun k => a (1 + k)) _ _ _ hv) dX7_wrong_20 ⟨rfl, rfl, Nat.le_of_ble_eq_true rfl, Nat.le_of_ble_eq_true rfl⟩ [1, 2, 3, 4, 5, 6, 7, 8, 9, 10, 11, 12, 13] ps_U_H_1 (by decide) rfl rfl (Nat.le_of_ble_eq_true rfl) rfl (fun r1 hv => ?_)
      refine bx_if_eq C 53 26 dX7_wrong_23 (by decide) rfl (fun h => ?_) (fun h => ?_)
      · replace hv := hv.1 h
        refine bx_iinc C 1 56 dX7_wrong_53 rfl (by decide) ic_1 rfl ?_
        refine bx_goto C 4 dX7_wrong_56 (by decide) ?_
        exact bx_cut [1, 2, 0] (w_U E a u) rfl rfl (ih  x1 (x2 + 1) hv)
      · replace hv := hv.2 h
        refine bx_aload_n C 27 dX7_wrong_26 rfl rfl rfl ?_
        refine bx_getf (v := .ref (a 1)) C 30 0 0 inX7 rfl (by decide) fl_X7_10 dX7_wrong_27 at_U_0 rfl rfl ?_
        refine bx_getf (v := .ref (a 5)) C 33 1 3 inX0 rfl (by decide) fl_X7_160 dX7_wrong_30 at_U_1 rfl rfl ?_
        refine bx_iload_n C 34 dX7_wrong_33 rfl rfl rfl ?_
        refine bx_iald (f := u.1.2.2.2.1) C 35 5 dX7_wrong_34 at_U_5 hv.1 rfl ?_
        replace hv := hv.2
        refine bx_aload_n C 36 dX7_wrong_35 rfl rfl rfl ?_
        refine bx_getf (v := .ref (a 1)) C 39 0 0 inX7 rfl (by decide) fl_X7_10 dX7_wrong_36 at_U_0 rfl rfl ?_
        refine bx_getf (v := .ref (a 4)) C 42 1 2 inX0 rfl (by decide) fl_X7_157 dX7_wrong_39 at_U_1 rfl rfl ?_
        refine bx_iload_n C 43 dX7_wrong_42 rfl rfl rfl ?_
        refine bx_iald (f := u.1.2.2.1) C 44 4 dX7_wrong_43 at_U_4 hv.1 rfl ?_
        replace hv := hv.2
        refine bx_icmp_eq C 53 47 dX7_wrong_44 (by decide) rfl (fun h => ?_) (fun h => ?_)
        · replace hv := hv.1 h
          refine bx_iinc C 1 56 dX7_wrong_53 rfl (by decide) ic_1 rfl ?_
          refine bx_goto C 4 dX7_wrong_56 (by decide) ?_
          exact bx_cut [1, 2, 0] (w_U E a u) rfl rfl (ih  x1 (x2 + 1) hv)
        · replace hv := hv.2 h
          refine bx_iload_n C 48 dX7_wrong_47 rfl rfl rfl ?_
          refine bx_iconst C 1 49 dX7_wrong_48 ic_1 rfl ?_
          refine bx_iload_n C 50 dX7_wrong_49 rfl rfl rfl ?_
          refine bx_ishl C 51 dX7_wrong_50 rfl ?_
          refine bx_ior C 52 dX7_wrong_51 rfl ?_
          refine bx_istore_n C 53 dX7_wrong_52 rfl (by decide) rfl ?_
          refine bx_iinc C 1 56 dX7_wrong_53 rfl (by decide) ic_1 rfl ?_
          refine bx_goto C 4 dX7_wrong_56 (by decide) ?_
          exact bx_cut [2, 1, 0] (w_U E a u) rfl rfl (ih  (x1 ||| (1 <<< (x2 &&& 31))) (x2 + 1) hv)
def V_X7_wrong  (K : Int32 → Prop)  (u : US)  : Prop := ∃ n2, V_X7_wrong_4 K n2 u 0 0
set_option maxRecDepth 20000 in
set_option maxHeartbeats 4000000 in
theorem t_X7_wrong_0 {a : Nat → Nat} {K : Int32 → Prop} (C : bx_C p (rmD 1) S m args meth c cX7_wrong 3 yX7_wrong.cls (some .int) E A 0 0) (u : US)    (hv : V_X7_wrong K u ) : G_X7_wrong p l e S m args below meth c E A a  u K 0 [(0, .ref (a 0))] [] (w_U E a u) := by
  unfold V_X7_wrong at hv
  refine bx_iconst C 0 1 dX7_wrong_0 ic_0 rfl ?_
  refine bx_istore_n C 2 dX7_wrong_1 rfl (by decide) rfl ?_
  refine bx_iconst C 0 3 dX7_wrong_2 ic_0 rfl ?_
  refine bx_istore_n C 4 dX7_wrong_3 rfl (by decide) rfl ?_
  obtain ⟨n2, hv⟩ := hv
  exact bx_cut [2, 1, 0] (w_U E a u) rfl rfl (t_X7_wrong_4 C u  n2  0 0 hv)
theorem k_X7_wrong (l : Launch) (E : bx_E) (a : Nat → Nat)  (K : Int32 → Prop) (u : US)  (hv : V_X7_wrong  K u ) : bx_Mi l E yX7_wrong cX7_wrong 3 (some .int) (rmD 1) [.ref (a 0)] (fun (_ : Unit) => w_U E a u) () (fun r (_ : Unit) => K r) :=
  bx_meti (by decide +kernel) (Nat.le_of_ble_eq_true rfl) (fun p e S m below meth c C => t_X7_wrong_0 C u  hv)
abbrev G_X7_swaps (p : Program) (l : Launch) (e : Env) (S : State) (m : MethodId) (args : Array Value) (below : List Frame) (meth : Method) (c : Code) (E : bx_E) (A : Nat → Prop) (a : Nat → Nat)  (u : US) (K : Int32 → Prop) (pc : Nat) (lv : List (Nat × Value)) (st : List Value) (ws : va_W) : Prop := bx_S p l e (rmD 4) S m args below meth c 1 E A (MQ below (va_Qi (fun r (_ : Unit) => K r) (fun (_ : Unit) t => bx_B E A (w_U E a u) t) A) args S 0 0 A) 0 0 pc lv st ws
def V_X7_swaps  (K : Int32 → Prop)  (u : US)  : Prop := (V_X2_fewestSwaps (fun r1 => K r1) u.1 )
set_option maxRecDepth 20000 in
set_option maxHeartbeats 4000000 in
theorem t_X7_swaps_0 {a : Nat → Nat} {K : Int32 → Prop} (C : bx_C p (rmD 4) S m args meth c cX7_swaps 1 yX7_swaps.cls (some .int) E A 0 0) (u : US)    (hv : V_X7_swaps K u ) : G_X7_swaps p l e S m args below meth c E A a  u K 0 [(0, .ref (a 0))] [] (w_U E a u) := by
  unfold V_X7_swaps at hv
  refine bx_aload_n C 1 dX7_swaps_0 rfl rfl rfl ?_
  refine bx_getf (v := .ref (a 1)) C 4 0 0 inX7 rfl (by decide) fl_X7_10 dX7_swaps_1 at_U_0 rfl rfl ?_
  refine bx_pSi C 7 fc_X7_197 (k_X2_fewestSwaps l E (fun k => a (1 + k)) _ _ hv) dX7_swaps_4 ⟨rfl, rfl, Nat.le_of_ble_eq_true rfl, Nat.le_of_ble_eq_true rfl⟩ [1, 2, 3, 4, 5, 6, 7, 8, 9, 10, 11, 12, 13] ps_U_H_1 (by decide) rfl rfl (Nat.le_of_ble_eq_true rfl) rfl (fun r1 hv => ?_)
  exact bx_iret C () rfl dX7_swaps_7 rfl hv
theorem k_X7_swaps (l : Launch) (E : bx_E) (a : Nat → Nat)  (K : Int32 → Prop) (u : US)  (hv : V_X7_swaps  K u ) : bx_Mi l E yX7_swaps cX7_swaps 1 (some .int) (rmD 4) [.ref (a 0)] (fun (_ : Unit) => w_U E a u) () (fun r (_ : Unit) => K r) :=
  bx_meti (by decide +kernel) (Nat.le_of_ble_eq_true rfl) (fun p e S m below meth c C => t_X7_swaps_0 C u  hv)
abbrev G_X7_seen (p : Program) (l : Launch) (e : Env) (S : State) (m : MethodId) (args : Array Value) (below : List Frame) (meth : Method) (c : Code) (E : bx_E) (A : Nat → Prop) (a : Nat → Nat)  (K : Int32 → US → Prop) (pc : Nat) (lv : List (Nat × Value)) (st : List Value) (ws : va_W) : Prop := bx_S p l e (rmD 3) S m args below meth c 4 E A (MQ below (va_Qi K (fun (u : US) t => bx_B E A (w_U E a u) t) A) args S 0 0 A) 0 0 pc lv st ws
def V_X7_seen_29  (K : Int32 → US → Prop)  (u : US)  : Prop := (V_X7_refuseBad (fun r1 u2 => K r1 u2) u (-2))
set_option maxRecDepth 20000 in
set_option maxHeartbeats 4000000 in
theorem t_X7_seen_29 {a : Nat → Nat} {K : Int32 → US → Prop} (C : bx_C p (rmD 3) S m args meth c cX7_seen 4 yX7_seen.cls (some .int) E A 0 0)   (u : US)  (hv : V_X7_seen_29 K u ) : G_X7_seen p l e S m args below meth c E A a  K 29 [(0, .ref (a 0))] [] (w_U E a u) := by
  unfold V_X7_seen_29 at hv
  refine bx_aload_n C 30 dX7_seen_29 rfl rfl rfl ?_
  refine bx_bipush C (-2) 32 dX7_seen_30 bp_m2 rfl ?_
  refine bx_qVi C 0 at_U_0 rfl 35 fc_X7_63 (k_X7_refuseBad l E a _ _ _ hv) dX7_seen_32 ⟨rfl, rfl, Nat.le_of_ble_eq_true rfl, Nat.le_of_ble_eq_true rfl⟩ [0, 1, 2, 3, 4, 5, 6, 7, 8, 9, 10, 11, 12, 13, 14, 15, 16, 17, 18, 19, 20, 21, 22, 23, 24, 25, 26, 27, 28, 29, 30, 31, 32, 33, 34, 35, 36, 37, 38, 39, 40, 41, 42, 43, 44, 45, 46, 47, 48, 49, 50, 51, 52, 53, 54, 55, 56, 57, 58, 59, 60, 61, 62, 63, 64, 65, 66, 67, 68, 69, 70, 71, 72, 73] (fun u2 => w_U E a u2) ps_U_U_0 (by decide) ad_U pu_U_U_0 rfl rfl (Nat.le_of_ble_eq_true rfl) rfl (fun r1 u2 hv => ?_)
  exact bx_iret C u2 rfl dX7_seen_35 rfl hv
def V_X7_seen  (K : Int32 → US → Prop)  (u : US) (x1 : Int32) (x2 : Int32) (x3 : Int32) : Prop := (V_X0_isSoul (fun r3 => ((r3 = 0 → V_X7_seen_29 K u ) ∧
 (¬ r3 = 0 → (V_X7_within (fun r4 => ((r4 = 0 → V_X7_seen_29 K u ) ∧
 (¬ r4 = 0 → (V_X7_within (fun r5 => ((¬ r5 = 0 → (V_X4_isFull 5 3 15 (fun r6 => ((r6 = 0 → (V_X4_add 5 3 15 (fun r7 u8 => K r7 ((u.1.1, u.1.2.1, u.1.2.2.1, u.1.2.2.2.1, u.1.2.2.2.2.1, u.1.2.2.2.2.2.1, u.1.2.2.2.2.2.2.1, u.1.2.2.2.2.2.2.2.1, u8, u.1.2.2.2.2.2.2.2.2.2), u.2)) u.1.2.2.2.2.2.2.2.2.1 x1 x2 x3)) ∧
 (¬ r6 = 0 → (V_X7_refuseFull (fun r9 u10 => K r9 u10) u )))) u.1.2.2.2.2.2.2.2.2.1 )) ∧
 (r5 = 0 → V_X7_seen_29 K u )))  x3 41))))  x2 100)))) u.1 x1)
set_option maxRecDepth 20000 in
set_option maxHeartbeats 4000000 in
theorem t_X7_seen_0 {a : Nat → Nat} {K : Int32 → US → Prop} (C : bx_C p (rmD 3) S m args meth c cX7_seen 4 yX7_seen.cls (some .int) E A 0 0)   (u : US) (x1 : Int32) (x2 : Int32) (x3 : Int32) (hv : V_X7_seen K u x1 x2 x3) : G_X7_seen p l e S m args below meth c E A a  K 0 [(0, .ref (a 0)), (1, .int x1), (2, .int x2), (3, .int x3)] [] (w_U E a u) := by
  unfold V_X7_seen at hv
  refine bx_aload_n C 1 dX7_seen_0 rfl rfl rfl ?_
  refine bx_getf (v := .ref (a 1)) C 4 0 0 inX7 rfl (by decide) fl_X7_10 dX7_seen_1 at_U_0 rfl rfl ?_
  refine bx_iload_n C 5 dX7_seen_4 rfl rfl rfl ?_
  refine bx_pVi C 1 at_U_1 rfl 8 fc_X7_106 (k_X0_isSoul l E (fun k => a (1 + k)) _ _ _ hv) dX7_seen_5 ⟨rfl, rfl, Nat.le_of_ble_eq_true rfl, Nat.le_of_ble_eq_true rfl⟩ [1, 2, 3, 4, 5, 6, 7, 8, 9, 10, 11, 12, 13] ps_U_H_1 (by decide) rfl rfl (Nat.le_of_ble_eq_true rfl) rfl (fun r3 hv => ?_)
  refine bx_if_eq C 29 11 dX7_seen_8 (by decide) rfl (fun h => ?_) (fun h => ?_)
  · replace hv := hv.1 h
    exact bx_cut [0] (w_U E a u) rfl rfl (t_X7_seen_29 C   u  hv)
  · replace hv := hv.2 h
    refine bx_iload_n C 12 dX7_seen_11 rfl rfl rfl ?_
    refine bx_bipush C 100 14 dX7_seen_12 bp_100 rfl ?_
    refine bx_pSi C 17 fc_X7_59 (k_X7_within l E  _ _ _ hv) dX7_seen_14 ⟨rfl, rfl, Nat.le_of_ble_eq_true rfl, Nat.le_of_ble_eq_true rfl⟩ [] rfl (by decide) rfl rfl (Nat.le_of_ble_eq_true rfl) rfl (fun r4 hv => ?_)
    refine bx_if_eq C 29 20 dX7_seen_17 (by decide) rfl (fun h => ?_) (fun h => ?_)
    · replace hv := hv.1 h
      exact bx_cut [0] (w_U E a u) rfl rfl (t_X7_seen_29 C   u  hv)
    · replace hv := hv.2 h
      refine bx_iload_n C 21 dX7_seen_20 rfl rfl rfl ?_
      refine bx_bipush C 41 23 dX7_seen_21 bp_41 rfl ?_
      refine bx_pSi C 26 fc_X7_59 (k_X7_within l E  _ _ _ hv) dX7_seen_23 ⟨rfl, rfl, Nat.le_of_ble_eq_true rfl, Nat.le_of_ble_eq_true rfl⟩ [] rfl (by decide) rfl rfl (Nat.le_of_ble_eq_true rfl) rfl (fun r5 hv => ?_)
      refine bx_if_ne C 36 29 dX7_seen_26 (by decide) rfl (fun h => ?_) (fun h => ?_)
      · replace hv := hv.1 h
        refine bx_aload_n C 37 dX7_seen_36 rfl rfl rfl ?_
        refine bx_getf (v := .ref (a 1)) C 40 0 0 inX7 rfl (by decide) fl_X7_10 dX7_seen_37 at_U_0 rfl rfl ?_
        refine bx_getf (v := .ref (a 6)) C 43 1 8 inX0 rfl (by decide) fl_X7_203 dX7_seen_40 at_U_1 rfl rfl ?_
        refine bx_pVi C 6 at_U_6 rfl 46 fc_X7_206 (k_X4_isFull l E (fun k => a (6 + k)) 5 3 15 _ _ hv) dX7_seen_43 ⟨rfl, rfl, Nat.le_of_ble_eq_true rfl, Nat.le_of_ble_eq_true rfl⟩ [6, 7] ps_U_T_6 (by decide) rfl rfl (Nat.le_of_ble_eq_true rfl) rfl (fun r6 hv => ?_)
        refine bx_if_eq C 56 49 dX7_seen_46 (by decide) rfl (fun h => ?_) (fun h => ?_)
        · replace hv := hv.1 h
          refine bx_aload_n C 57 dX7_seen_56 rfl rfl rfl ?_
          refine bx_getf (v := .ref (a 1)) C 60 0 0 inX7 rfl (by decide) fl_X7_10 dX7_seen_57 at_U_0 rfl rfl ?_
          refine bx_getf (v := .ref (a 6)) C 63 1 8 inX0 rfl (by decide) fl_X7_203 dX7_seen_60 at_U_1 rfl rfl ?_
          refine bx_iload_n C 64 dX7_seen_63 rfl rfl rfl ?_
          refine bx_iload_n C 65 dX7_seen_64 rfl rfl rfl ?_
          refine bx_iload_n C 66 dX7_seen_65 rfl rfl rfl ?_
          refine bx_qVi C 6 at_U_6 rfl 69 fc_X7_207 (k_X4_add l E (fun k => a (6 + k)) 5 3 15 _ _ _ _ _ hv) dX7_seen_66 ⟨rfl, rfl, Nat.le_of_ble_eq_true rfl, Nat.le_of_ble_eq_true rfl⟩ [6, 7] (fun u8 => w_U E a ((u.1.1, u.1.2.1, u.1.2.2.1, u.1.2.2.2.1, u.1.2.2.2.2.1, u.1.2.2.2.2.2.1, u.1.2.2.2.2.2.2.1, u.1.2.2.2.2.2.2.2.1, u8, u.1.2.2.2.2.2.2.2.2.2), u.2)) ps_U_T_6 (by decide) ad_T pu_U_T_6 rfl rfl (Nat.le_of_ble_eq_true rfl) rfl (fun r7 u8 hv => ?_)
          exact bx_iret C ((u.1.1, u.1.2.1, u.1.2.2.1, u.1.2.2.2.1, u.1.2.2.2.2.1, u.1.2.2.2.2.2.1, u.1.2.2.2.2.2.2.1, u.1.2.2.2.2.2.2.2.1, u8, u.1.2.2.2.2.2.2.2.2.2), u.2) rfl dX7_seen_69 rfl hv
        · replace hv := hv.2 h
          refine bx_aload_n C 50 dX7_seen_49 rfl rfl rfl ?_
          refine bx_qVi C 0 at_U_0 rfl 53 fc_X7_81 (k_X7_refuseFull l E a _ _ hv) dX7_seen_50 ⟨rfl, rfl, Nat.le_of_ble_eq_true rfl, Nat.le_of_ble_eq_true rfl⟩ [0, 1, 2, 3, 4, 5, 6, 7, 8, 9, 10, 11, 12, 13, 14, 15, 16, 17, 18, 19, 20, 21, 22, 23, 24, 25, 26, 27, 28, 29, 30, 31, 32, 33, 34, 35, 36, 37, 38, 39, 40, 41, 42, 43, 44, 45, 46, 47, 48, 49, 50, 51, 52, 53, 54, 55, 56, 57, 58, 59, 60, 61, 62, 63, 64, 65, 66, 67, 68, 69, 70, 71, 72, 73] (fun u10 => w_U E a u10) ps_U_U_0 (by decide) ad_U pu_U_U_0 rfl rfl (Nat.le_of_ble_eq_true rfl) rfl (fun r9 u10 hv => ?_)
          refine bx_goto C 69 dX7_seen_53 (by decide) ?_
          exact bx_iret C u10 rfl dX7_seen_69 rfl hv
      · replace hv := hv.2 h
        exact bx_cut [0] (w_U E a u) rfl rfl (t_X7_seen_29 C   u  hv)
theorem k_X7_seen (l : Launch) (E : bx_E) (a : Nat → Nat)  (K : Int32 → US → Prop) (u : US) (x1 : Int32) (x2 : Int32) (x3 : Int32) (hv : V_X7_seen  K u x1 x2 x3) : bx_Mi l E yX7_seen cX7_seen 4 (some .int) (rmD 3) [.ref (a 0), .int x1, .int x2, .int x3] (fun (u : US) => w_U E a u) u K :=
  bx_meti (by decide +kernel) (Nat.le_of_ble_eq_true rfl) (fun p e S m below meth c C => t_X7_seen_0 C u x1 x2 x3 hv)
abbrev G_X7_fitsSightings (p : Program) (l : Launch) (e : Env) (S : State) (m : MethodId) (args : Array Value) (below : List Frame) (meth : Method) (c : Code) (E : bx_E) (A : Nat → Prop) (a : Nat → Nat)  (u : US) (K : Int32 → Prop) (pc : Nat) (lv : List (Nat × Value)) (st : List Value) (ws : va_W) : Prop := bx_S p l e (rmD 2) S m args below meth c 4 E A (MQ below (va_Qi (fun r (_ : Unit) => K r) (fun (_ : Unit) t => bx_B E A (w_U E a u) t) A) args S 0 0 A) 0 0 pc lv st ws
def V_X7_fitsSightings_2  (K : Int32 → Prop)  : Nat → US → Int32 → Int32 → Int32 → Prop
  | 0, _, _, _, _ => False
  | n + 1, u, x1, x2, x3 => ((u.1.2.2.2.2.2.2.2.2.1.2 ≤ x3 → K 1) ∧
 (¬ u.1.2.2.2.2.2.2.2.2.1.2 ≤ x3 → (V_X4_at 5 3 15 (fun r1 => ((¬ r1 = x1 → V_X7_fitsSightings_2 K n u x1 x2 (x3 + 1)) ∧
 (r1 = x1 → (vp_in x1 7 ∧ (V_X4_at 5 3 15 (fun r2 => (V_X1_fuss (fun r3 => (V_X4_at 5 3 15 (fun r4 => ((r3 = r4 → V_X7_fitsSightings_2 K n u x1 x2 (x3 + 1)) ∧
 (¬ r3 = r4 → K 0))) u.1.2.2.2.2.2.2.2.2.1 x3 2))  (u.1.2.1 (x1 : Int32).toNatClampNeg) x2 r2)) u.1.2.2.2.2.2.2.2.2.1 x3 1))))) u.1.2.2.2.2.2.2.2.2.1 x3 0)))
set_option maxRecDepth 20000 in
set_option maxHeartbeats 4000000 in
theorem t_X7_fitsSightings_2 {a : Nat → Nat} {K : Int32 → Prop} (C : bx_C p (rmD 2) S m args meth c cX7_fitsSightings 4 yX7_fitsSightings.cls (some .boolean) E A 0 0) (u : US)  : ∀ (n : Nat)  (x1 : Int32) (x2 : Int32) (x3 : Int32), V_X7_fitsSightings_2 K n u x1 x2 x3 → G_X7_fitsSightings p l e S m args below meth c E A a  u K 2 [(0, .ref (a 0)), (1, .int x1), (2, .int x2), (3, .int x3)] [] (w_U E a u) := by
  intro n
  induction n with
  | zero =>
    intro x1 x2 x3 hv
    exact False.elim hv
  | succ n ih =>
    intro x1 x2 x3 hv
    unfold V_X7_fitsSightings_2 at hv
    refine bx_iload_n C 3 dX7_fitsSightings_2 rfl rfl rfl ?_
    refine bx_aload_n C 4 dX7_fitsSightings_3 rfl rfl rfl ?_
    refine bx_getf (v := .ref (a 1)) C 7 0 0 inX7 rfl (by decide) fl_X7_10 dX7_fitsSightings_4 at_U_0 rfl rfl ?_
    refine bx_getf (v := .ref (a 6)) C 10 1 8 inX0 rfl (by decide) fl_X7_203 dX7_fitsSightings_7 at_U_1 rfl rfl ?_
    refine bx_getf (v := .int u.1.2.2.2.2.2.2.2.2.1.2) C 13 6 3 inX4 rfl (by decide) fl_X7_148 dX7_fitsSightings_10 at_U_6 rfl rfl ?_
    refine bx_icmp_ge C 80 16 dX7_fitsSightings_13 (by decide) rfl (fun h => ?_) (fun h => ?_)
    · replace hv := hv.1 h
      refine bx_iconst C 1 81 dX7_fitsSightings_80 ic_1 rfl ?_
      exact bx_zret C () rfl dX7_fitsSightings_81 rfl (Or.inr rfl) hv
    · replace hv := hv.2 h
      refine bx_aload_n C 17 dX7_fitsSightings_16 rfl rfl rfl ?_
      refine bx_getf (v := .ref (a 1)) C 20 0 0 inX7 rfl (by decide) fl_X7_10 dX7_fitsSightings_17 at_U_0 rfl rfl ?_
      refine bx_getf (v := .ref (a 6)) C 23 1 8 inX0 rfl (by decide) fl_X7_203 dX7_fitsSightings_20 at_U_1 rfl rfl ?_
      refine bx_iload_n C 24 dX7_fitsSightings_23 rfl rfl rfl ?_
      refine bx_iconst C 0 25 dX7_fitsSightings_24 ic_0 rfl ?_
      refine bx_pVi C 6 at_U_6 rfl 28 fc_X7_308 (k_X4_at l E (fun k => a (6 + k)) 5 3 15 _ _ _ _ hv) dX7_fitsSightings_25 ⟨rfl, rfl, Nat.le_of_ble_eq_true rfl, Nat.le_of_ble_eq_true rfl⟩ [6, 7] ps_U_T_6 (by decide) rfl rfl (Nat.le_of_ble_eq_true rfl) rfl (fun r1 hv => ?_)
      refine bx_iload_n C 29 dX7_fitsSightings_28 rfl rfl rfl ?_
      refine bx_icmp_ne C 74 32 dX7_fitsSightings_29 (by decide) rfl (fun h => ?_) (fun h => ?_)
      · replace hv := hv.1 h
        refine bx_iinc C 1 77 dX7_fitsSightings_74 rfl (by decide) ic_1 rfl ?_
        refine bx_goto C 2 dX7_fitsSightings_77 (by decide) ?_
        exact bx_cut [1, 2, 3, 0] (w_U E a u) rfl rfl (ih  x1 x2 (x3 + 1) hv)
      · replace hv := hv.2 h
        refine bx_aload_n C 33 dX7_fitsSightings_32 rfl rfl rfl ?_
        refine bx_getf (v := .ref (a 1)) C 36 0 0 inX7 rfl (by decide) fl_X7_10 dX7_fitsSightings_33 at_U_0 rfl rfl ?_
        refine bx_getf (v := .ref (a 3)) C 39 1 1 inX0 rfl (by decide) fl_X7_154 dX7_fitsSightings_36 at_U_1 rfl rfl ?_
        refine bx_iload_n C 40 dX7_fitsSightings_39 rfl rfl rfl ?_
        refine bx_iald (f := u.1.2.1) C 41 3 dX7_fitsSightings_40 at_U_3 hv.1 rfl ?_
        replace hv := hv.2
        refine bx_iload_n C 42 dX7_fitsSightings_41 rfl rfl rfl ?_
        refine bx_aload_n C 43 dX7_fitsSightings_42 rfl rfl rfl ?_
        refine bx_getf (v := .ref (a 1)) C 46 0 0 inX7 rfl (by decide) fl_X7_10 dX7_fitsSightings_43 at_U_0 rfl rfl ?_
        refine bx_getf (v := .ref (a 6)) C 49 1 8 inX0 rfl (by decide) fl_X7_203 dX7_fitsSightings_46 at_U_1 rfl rfl ?_
        refine bx_iload_n C 50 dX7_fitsSightings_49 rfl rfl rfl ?_
        refine bx_iconst C 1 51 dX7_fitsSightings_50 ic_1 rfl ?_
        refine bx_pVi C 6 at_U_6 rfl 54 fc_X7_308 (k_X4_at l E (fun k => a (6 + k)) 5 3 15 _ _ _ _ hv) dX7_fitsSightings_51 ⟨rfl, rfl, Nat.le_of_ble_eq_true rfl, Nat.le_of_ble_eq_true rfl⟩ [6, 7] ps_U_T_6 (by decide) rfl rfl (Nat.le_of_ble_eq_true rfl) rfl (fun r2 hv => ?_)
        refine bx_pSi C 57 fc_X7_301 (k_X1_fuss l E  _ _ _ _ hv) dX7_fitsSightings_54 ⟨rfl, rfl, Nat.le_of_ble_eq_true rfl, Nat.le_of_ble_eq_true rfl⟩ [] rfl (by decide) rfl rfl (Nat.le_of_ble_eq_true rfl) rfl (fun r3 hv => ?_)
        refine bx_aload_n C 58 dX7_fitsSightings_57 rfl rfl rfl ?_
        refine bx_getf (v := .ref (a 1)) C 61 0 0 inX7 rfl (by decide) fl_X7_10 dX7_fitsSightings_58 at_U_0 rfl rfl ?_
        refine bx_getf (v := .ref (a 6)) C 64 1 8 inX0 rfl (by decide) fl_X7_203 dX7_fitsSightings_61 at_U_1 rfl rfl ?_
        refine bx_iload_n C 65 dX7_fitsSightings_64 rfl rfl rfl ?_
        refine bx_iconst C 2 66 dX7_fitsSightings_65 ic_2 rfl ?_
        refine bx_pVi C 6 at_U_6 rfl 69 fc_X7_308 (k_X4_at l E (fun k => a (6 + k)) 5 3 15 _ _ _ _ hv) dX7_fitsSightings_66 ⟨rfl, rfl, Nat.le_of_ble_eq_true rfl, Nat.le_of_ble_eq_true rfl⟩ [6, 7] ps_U_T_6 (by decide) rfl rfl (Nat.le_of_ble_eq_true rfl) rfl (fun r4 hv => ?_)
        refine bx_icmp_eq C 74 72 dX7_fitsSightings_69 (by decide) rfl (fun h => ?_) (fun h => ?_)
        · replace hv := hv.1 h
          refine bx_iinc C 1 77 dX7_fitsSightings_74 rfl (by decide) ic_1 rfl ?_
          refine bx_goto C 2 dX7_fitsSightings_77 (by decide) ?_
          exact bx_cut [1, 2, 3, 0] (w_U E a u) rfl rfl (ih  x1 x2 (x3 + 1) hv)
        · replace hv := hv.2 h
          refine bx_iconst C 0 73 dX7_fitsSightings_72 ic_0 rfl ?_
          exact bx_zret C () rfl dX7_fitsSightings_73 rfl (Or.inl rfl) hv
def V_X7_fitsSightings  (K : Int32 → Prop)  (u : US) (x1 : Int32) (x2 : Int32) : Prop := ∃ n5, V_X7_fitsSightings_2 K n5 u x1 x2 0
set_option maxRecDepth 20000 in
set_option maxHeartbeats 4000000 in
theorem t_X7_fitsSightings_0 {a : Nat → Nat} {K : Int32 → Prop} (C : bx_C p (rmD 2) S m args meth c cX7_fitsSightings 4 yX7_fitsSightings.cls (some .boolean) E A 0 0) (u : US)   (x1 : Int32) (x2 : Int32) (hv : V_X7_fitsSightings K u x1 x2) : G_X7_fitsSightings p l e S m args below meth c E A a  u K 0 [(0, .ref (a 0)), (1, .int x1), (2, .int x2)] [] (w_U E a u) := by
  unfold V_X7_fitsSightings at hv
  refine bx_iconst C 0 1 dX7_fitsSightings_0 ic_0 rfl ?_
  refine bx_istore_n C 2 dX7_fitsSightings_1 rfl (by decide) rfl ?_
  obtain ⟨n5, hv⟩ := hv
  exact bx_cut [1, 2, 3, 0] (w_U E a u) rfl rfl (t_X7_fitsSightings_2 C u  n5  x1 x2 0 hv)
theorem k_X7_fitsSightings (l : Launch) (E : bx_E) (a : Nat → Nat)  (K : Int32 → Prop) (u : US) (x1 : Int32) (x2 : Int32) (hv : V_X7_fitsSightings  K u x1 x2) : bx_Mi l E yX7_fitsSightings cX7_fitsSightings 4 (some .boolean) (rmD 2) [.ref (a 0), .int x1, .int x2] (fun (_ : Unit) => w_U E a u) () (fun r (_ : Unit) => K r) :=
  bx_meti (by decide +kernel) (Nat.le_of_ble_eq_true rfl) (fun p e S m below meth c C => t_X7_fitsSightings_0 C u x1 x2 hv)
abbrev G_X7_cellsThatFit (p : Program) (l : Launch) (e : Env) (S : State) (m : MethodId) (args : Array Value) (below : List Frame) (meth : Method) (c : Code) (E : bx_E) (A : Nat → Prop) (a : Nat → Nat)  (u : US) (K : Int32 → Prop) (pc : Nat) (lv : List (Nat × Value)) (st : List Value) (ws : va_W) : Prop := bx_S p l e (rmD 3) S m args below meth c 4 E A (MQ below (va_Qi (fun r (_ : Unit) => K r) (fun (_ : Unit) t => bx_B E A (w_U E a u) t) A) args S 0 0 A) 0 0 pc lv st ws
def V_X7_cellsThatFit_4  (K : Int32 → Prop)  : Nat → US → Int32 → Int32 → Int32 → Prop
  | 0, _, _, _, _ => False
  | n + 1, u, x1, x2, x3 => ((30 ≤ x3 → K x2) ∧
 (¬ 30 ≤ x3 → (V_X0_isFree (fun r1 => ((r1 = 0 → V_X7_cellsThatFit_4 K n u x1 x2 (x3 + 1)) ∧
 (¬ r1 = 0 → (V_X0_kneesTo (fun r2 => (V_X7_fitsSightings (fun r3 => ((r3 = 0 → V_X7_cellsThatFit_4 K n u x1 x2 (x3 + 1)) ∧
 (¬ r3 = 0 → V_X7_cellsThatFit_4 K n u x1 (x2 ||| (1 <<< (x3 &&& 31))) (x3 + 1)))) u x1 r2)) u.1 x3)))) u.1 x3)))
set_option maxRecDepth 20000 in
set_option maxHeartbeats 4000000 in
theorem t_X7_cellsThatFit_4 {a : Nat → Nat} {K : Int32 → Prop} (C : bx_C p (rmD 3) S m args meth c cX7_cellsThatFit 4 yX7_cellsThatFit.cls (some .int) E A 0 0) (u : US)  : ∀ (n : Nat)  (x1 : Int32) (x2 : Int32) (x3 : Int32), V_X7_cellsThatFit_4 K n u x1 x2 x3 → G_X7_cellsThatFit p l e S m args below meth c E A a  u K 4 [(0, .ref (a 0)), (1, .int x1), (2, .int x2), (3, .int x3)] [] (w_U E a u) := by
  intro n
  induction n with
  | zero =>
    intro x1 x2 x3 hv
    exact False.elim hv
  | succ n ih =>
    intro x1 x2 x3 hv
    unfold V_X7_cellsThatFit_4 at hv
    refine bx_iload_n C 5 dX7_cellsThatFit_4 rfl rfl rfl ?_
    refine bx_bipush C 30 7 dX7_cellsThatFit_5 bp_30 rfl ?_
    refine bx_icmp_ge C 49 10 dX7_cellsThatFit_7 (by decide) rfl (fun h => ?_) (fun h => ?_)
    · replace hv := hv.1 h
      refine bx_iload_n C 50 dX7_cellsThatFit_49 rfl rfl rfl ?_
      exact bx_iret C () rfl dX7_cellsThatFit_50 rfl hv
    · replace hv := hv.2 h
      refine bx_aload_n C 11 dX7_cellsThatFit_10 rfl rfl rfl ?_
      refine bx_getf (v := .ref (a 1)) C 14 0 0 inX7 rfl (by decide) fl_X7_10 dX7_cellsThatFit_11 at_U_0 rfl rfl ?_
      refine bx_iload_n C 15 dX7_cellsThatFit_14 rfl rfl rfl ?_
      refine bx_pVi C 1 at_U_1 rfl 18 fc_X7_113 (k_X0_isFree l E (fun k => a (1 + k)) _ _ _ hv) dX7_cellsThatFit_15 ⟨rfl, rfl, Nat.le_of_ble_eq_true rfl, Nat.le_of_ble_eq_true rfl⟩ [1, 2, 3, 4, 5, 6, 7, 8, 9, 10, 11, 12, 13] ps_U_H_1 (by decide) rfl rfl (Nat.le_of_ble_eq_true rfl) rfl (fun r1 hv => ?_)
      refine bx_if_eq C 43 21 dX7_cellsThatFit_18 (by decide) rfl (fun h => ?_) (fun h => ?_)
      · replace hv := hv.1 h
        refine bx_iinc C 1 46 dX7_cellsThatFit_43 rfl (by decide) ic_1 rfl ?_
        refine bx_goto C 4 dX7_cellsThatFit_46 (by decide) ?_
        exact bx_cut [1, 2, 3, 0] (w_U E a u) rfl rfl (ih  x1 x2 (x3 + 1) hv)
      · replace hv := hv.2 h
        refine bx_aload_n C 22 dX7_cellsThatFit_21 rfl rfl rfl ?_
        refine bx_iload_n C 23 dX7_cellsThatFit_22 rfl rfl rfl ?_
        refine bx_aload_n C 24 dX7_cellsThatFit_23 rfl rfl rfl ?_
        refine bx_getf (v := .ref (a 1)) C 27 0 0 inX7 rfl (by decide) fl_X7_10 dX7_cellsThatFit_24 at_U_0 rfl rfl ?_
        refine bx_iload_n C 28 dX7_cellsThatFit_27 rfl rfl rfl ?_
        refine bx_pVi C 1 at_U_1 rfl 31 fc_X7_163 (k_X0_kneesTo l E (fun k => a (1 + k)) _ _ _ hv) dX7_cellsThatFit_28 ⟨rfl, rfl, Nat.le_of_ble_eq_true rfl, Nat.le_of_ble_eq_true rfl⟩ [1, 2, 3, 4, 5, 6, 7, 8, 9, 10, 11, 12, 13] ps_U_H_1 (by decide) rfl rfl (Nat.le_of_ble_eq_true rfl) rfl (fun r2 hv => ?_)
        refine bx_pVi C 0 at_U_0 rfl 34 fc_X7_305 (k_X7_fitsSightings l E a _ _ _ _ hv) dX7_cellsThatFit_31 ⟨rfl, rfl, Nat.le_of_ble_eq_true rfl, Nat.le_of_ble_eq_true rfl⟩ [0, 1, 2, 3, 4, 5, 6, 7, 8, 9, 10, 11, 12, 13, 14, 15, 16, 17, 18, 19, 20, 21, 22, 23, 24, 25, 26, 27, 28, 29, 30, 31, 32, 33, 34, 35, 36, 37, 38, 39, 40, 41, 42, 43, 44, 45, 46, 47, 48, 49, 50, 51, 52, 53, 54, 55, 56, 57, 58, 59, 60, 61, 62, 63, 64, 65, 66, 67, 68, 69, 70, 71, 72, 73] ps_U_U_0 (by decide) rfl rfl (Nat.le_of_ble_eq_true rfl) rfl (fun r3 hv => ?_)
        refine bx_if_eq C 43 37 dX7_cellsThatFit_34 (by decide) rfl (fun h => ?_) (fun h => ?_)
        · replace hv := hv.1 h
          refine bx_iinc C 1 46 dX7_cellsThatFit_43 rfl (by decide) ic_1 rfl ?_
          refine bx_goto C 4 dX7_cellsThatFit_46 (by decide) ?_
          exact bx_cut [1, 2, 3, 0] (w_U E a u) rfl rfl (ih  x1 x2 (x3 + 1) hv)
        · replace hv := hv.2 h
          refine bx_iload_n C 38 dX7_cellsThatFit_37 rfl rfl rfl ?_
          refine bx_iconst C 1 39 dX7_cellsThatFit_38 ic_1 rfl ?_
          refine bx_iload_n C 40 dX7_cellsThatFit_39 rfl rfl rfl ?_
          refine bx_ishl C 41 dX7_cellsThatFit_40 rfl ?_
          refine bx_ior C 42 dX7_cellsThatFit_41 rfl ?_
          refine bx_istore_n C 43 dX7_cellsThatFit_42 rfl (by decide) rfl ?_
          refine bx_iinc C 1 46 dX7_cellsThatFit_43 rfl (by decide) ic_1 rfl ?_
          refine bx_goto C 4 dX7_cellsThatFit_46 (by decide) ?_
          exact bx_cut [2, 3, 1, 0] (w_U E a u) rfl rfl (ih  x1 (x2 ||| (1 <<< (x3 &&& 31))) (x3 + 1) hv)
def V_X7_cellsThatFit  (K : Int32 → Prop)  (u : US) (x1 : Int32) : Prop := ∃ n4, V_X7_cellsThatFit_4 K n4 u x1 0 0
set_option maxRecDepth 20000 in
set_option maxHeartbeats 4000000 in
theorem t_X7_cellsThatFit_0 {a : Nat → Nat} {K : Int32 → Prop} (C : bx_C p (rmD 3) S m args meth c cX7_cellsThatFit 4 yX7_cellsThatFit.cls (some .int) E A 0 0) (u : US)   (x1 : Int32) (hv : V_X7_cellsThatFit K u x1) : G_X7_cellsThatFit p l e S m args below meth c E A a  u K 0 [(0, .ref (a 0)), (1, .int x1)] [] (w_U E a u) := by
  unfold V_X7_cellsThatFit at hv
  refine bx_iconst C 0 1 dX7_cellsThatFit_0 ic_0 rfl ?_
  refine bx_istore_n C 2 dX7_cellsThatFit_1 rfl (by decide) rfl ?_
  refine bx_iconst C 0 3 dX7_cellsThatFit_2 ic_0 rfl ?_
  refine bx_istore_n C 4 dX7_cellsThatFit_3 rfl (by decide) rfl ?_
  obtain ⟨n4, hv⟩ := hv
  exact bx_cut [2, 3, 1, 0] (w_U E a u) rfl rfl (t_X7_cellsThatFit_4 C u  n4  x1 0 0 hv)
theorem k_X7_cellsThatFit (l : Launch) (E : bx_E) (a : Nat → Nat)  (K : Int32 → Prop) (u : US) (x1 : Int32) (hv : V_X7_cellsThatFit  K u x1) : bx_Mi l E yX7_cellsThatFit cX7_cellsThatFit 4 (some .int) (rmD 3) [.ref (a 0), .int x1] (fun (_ : Unit) => w_U E a u) () (fun r (_ : Unit) => K r) :=
  bx_meti (by decide +kernel) (Nat.le_of_ble_eq_true rfl) (fun p e S m below meth c C => t_X7_cellsThatFit_0 C u x1 hv)
end
