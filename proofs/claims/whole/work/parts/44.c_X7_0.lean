section
variable {p : Program} {l : Launch} {e : Env} {S : State} {m : MethodId} {args : Array Value} {below : List Frame} {meth : Method} {c : Code} {E : bx_E} {A : Nat → Prop}
abbrev G_X7_hall (p : Program) (l : Launch) (e : Env) (S : State) (m : MethodId) (args : Array Value) (below : List Frame) (meth : Method) (c : Code) (E : bx_E) (A : Nat → Prop) (a : Nat → Nat)  (K : Int32 → US → Prop) (pc : Nat) (lv : List (Nat × Value)) (st : List Value) (ws : va_W) : Prop := bx_S p l e (rmD 2) S m args below meth c 2 E A (MQ below (va_Qi K (fun (u : US) t => bx_B E A (w_U E a u) t) A) args S 0 0 A) 0 0 pc lv st ws
def V_X7_hall  (K : Int32 → US → Prop)  (u : US)  : Prop := (V_X0_reset (fun u1 => K u.1.2.2.2.2.1 (u1, u.2)) u.1 )
set_option maxRecDepth 20000 in
set_option maxHeartbeats 4000000 in
theorem t_X7_hall_0 {a : Nat → Nat} {K : Int32 → US → Prop} (C : bx_C p (rmD 2) S m args meth c cX7_hall 2 yX7_hall.cls (some .int) E A 0 0)   (u : US)  (hv : V_X7_hall K u ) : G_X7_hall p l e S m args below meth c E A a  K 0 [(0, .ref (a 0))] [] (w_U E a u) := by
  unfold V_X7_hall at hv
  refine bx_aload_n C 1 dX7_hall_0 rfl rfl rfl ?_
  refine bx_getf (v := .ref (a 1)) C 4 0 0 inX7 rfl (by decide) fl_X7_10 dX7_hall_1 at_U_0 rfl rfl ?_
  refine bx_getf (v := .int u.1.2.2.2.2.1) C 7 1 4 inX0 rfl (by decide) fl_X7_52 dX7_hall_4 at_U_1 rfl rfl ?_
  refine bx_istore_n C 8 dX7_hall_7 rfl (by decide) rfl ?_
  refine bx_aload_n C 9 dX7_hall_8 rfl rfl rfl ?_
  refine bx_getf (v := .ref (a 1)) C 12 0 0 inX7 rfl (by decide) fl_X7_10 dX7_hall_9 at_U_0 rfl rfl ?_
  refine bx_qVv C 1 at_U_1 rfl 15 fc_X7_56 (k_X0_reset l E (fun k => a (1 + k)) _ _ hv) dX7_hall_12 ⟨rfl, rfl, Nat.le_of_ble_eq_true rfl, Nat.le_of_ble_eq_true rfl⟩ [1, 2, 3, 4, 5, 6, 7, 8, 9, 10, 11, 12, 13] (fun u1 => w_U E a (u1, u.2)) ps_U_H_1 (by decide) ad_H pu_U_H_1 rfl rfl (Nat.le_of_ble_eq_true rfl) rfl (fun u1 hv => ?_)
  refine bx_iload_n C 16 dX7_hall_15 rfl rfl rfl ?_
  exact bx_iret C (u1, u.2) rfl dX7_hall_16 rfl hv
theorem k_X7_hall (l : Launch) (E : bx_E) (a : Nat → Nat)  (K : Int32 → US → Prop) (u : US)  (hv : V_X7_hall  K u ) : bx_Mi l E yX7_hall cX7_hall 2 (some .int) (rmD 2) [.ref (a 0)] (fun (u : US) => w_U E a u) u K :=
  bx_meti (by decide +kernel) (Nat.le_of_ble_eq_true rfl) (fun p e S m below meth c C => t_X7_hall_0 C u  hv)
abbrev G_X7_refuseBad (p : Program) (l : Launch) (e : Env) (S : State) (m : MethodId) (args : Array Value) (below : List Frame) (meth : Method) (c : Code) (E : bx_E) (A : Nat → Prop) (a : Nat → Nat)  (K : Int32 → US → Prop) (pc : Nat) (lv : List (Nat × Value)) (st : List Value) (ws : va_W) : Prop := bx_S p l e (rmD 0) S m args below meth c 2 E A (MQ below (va_Qi K (fun (u : US) t => bx_B E A (w_U E a u) t) A) args S 0 0 A) 0 0 pc lv st ws
def V_X7_refuseBad  (K : Int32 → US → Prop)  (u : US) (x1 : Int32) : Prop := K x1 (u.1, u.2.1, u.2.2.1, u.2.2.2.1, u.2.2.2.2.1, u.2.2.2.2.2.1, u.2.2.2.2.2.2.1, u.2.2.2.2.2.2.2.1, u.2.2.2.2.2.2.2.2.1, u.2.2.2.2.2.2.2.2.2.1, (u.2.2.2.2.2.2.2.2.2.2.1 + 1), u.2.2.2.2.2.2.2.2.2.2.2)
set_option maxRecDepth 20000 in
set_option maxHeartbeats 4000000 in
theorem t_X7_refuseBad_0 {a : Nat → Nat} {K : Int32 → US → Prop} (C : bx_C p (rmD 0) S m args meth c cX7_refuseBad 2 yX7_refuseBad.cls (some .int) E A 0 0)   (u : US) (x1 : Int32) (hv : V_X7_refuseBad K u x1) : G_X7_refuseBad p l e S m args below meth c E A a  K 0 [(0, .ref (a 0)), (1, .int x1)] [] (w_U E a u) := by
  unfold V_X7_refuseBad at hv
  refine bx_aload_n C 1 dX7_refuseBad_0 rfl rfl rfl ?_
  refine bx_dup C 2 dX7_refuseBad_1 rfl rfl ?_
  refine bx_getf (v := .int u.2.2.2.2.2.2.2.2.2.2.1) C 5 0 9 inX7 rfl (by decide) fl_X7_264 dX7_refuseBad_2 at_U_0 rfl rfl ?_
  refine bx_iconst C 1 6 dX7_refuseBad_5 ic_1 rfl ?_
  refine bx_iadd C 7 dX7_refuseBad_6 rfl ?_
  refine bx_putf C 10 0 9 (w_U E a (u.1, u.2.1, u.2.2.1, u.2.2.2.1, u.2.2.2.2.1, u.2.2.2.2.2.1, u.2.2.2.2.2.2.1, u.2.2.2.2.2.2.2.1, u.2.2.2.2.2.2.2.2.1, u.2.2.2.2.2.2.2.2.2.1, (u.2.2.2.2.2.2.2.2.2.2.1 + 1), u.2.2.2.2.2.2.2.2.2.2.2)) inX7 tyX7 tyX7_ok nmX7 rfl (by decide) fl_X7_264 rfl dX7_refuseBad_7 rfl rfl rfl (Nat.le_of_ble_eq_true rfl) rfl rfl ?_
  refine bx_iload_n C 11 dX7_refuseBad_10 rfl rfl rfl ?_
  exact bx_iret C (u.1, u.2.1, u.2.2.1, u.2.2.2.1, u.2.2.2.2.1, u.2.2.2.2.2.1, u.2.2.2.2.2.2.1, u.2.2.2.2.2.2.2.1, u.2.2.2.2.2.2.2.2.1, u.2.2.2.2.2.2.2.2.2.1, (u.2.2.2.2.2.2.2.2.2.2.1 + 1), u.2.2.2.2.2.2.2.2.2.2.2) rfl dX7_refuseBad_11 rfl hv
theorem k_X7_refuseBad (l : Launch) (E : bx_E) (a : Nat → Nat)  (K : Int32 → US → Prop) (u : US) (x1 : Int32) (hv : V_X7_refuseBad  K u x1) : bx_Mi l E yX7_refuseBad cX7_refuseBad 2 (some .int) (rmD 0) [.ref (a 0), .int x1] (fun (u : US) => w_U E a u) u K :=
  bx_meti (by decide +kernel) (Nat.le_of_ble_eq_true rfl) (fun p e S m below meth c C => t_X7_refuseBad_0 C u x1 hv)
abbrev G_X7_row (p : Program) (l : Launch) (e : Env) (S : State) (m : MethodId) (args : Array Value) (below : List Frame) (meth : Method) (c : Code) (E : bx_E) (A : Nat → Prop) (a : Nat → Nat)  (K : Int32 → US → Prop) (pc : Nat) (lv : List (Nat × Value)) (st : List Value) (ws : va_W) : Prop := bx_S p l e (rmD 1) S m args below meth c 4 E A (MQ below (va_Qi K (fun (u : US) t => bx_B E A (w_U E a u) t) A) args S 0 0 A) 0 0 pc lv st ws
def V_X7_row_17  (K : Int32 → US → Prop)  (u : US)  : Prop := (V_X7_refuseBad (fun r1 u2 => K r1 u2) u (-2))
set_option maxRecDepth 20000 in
set_option maxHeartbeats 4000000 in
theorem t_X7_row_17 {a : Nat → Nat} {K : Int32 → US → Prop} (C : bx_C p (rmD 1) S m args meth c cX7_row 4 yX7_row.cls (some .int) E A 0 0)   (u : US)  (hv : V_X7_row_17 K u ) : G_X7_row p l e S m args below meth c E A a  K 17 [(0, .ref (a 0))] [] (w_U E a u) := by
  unfold V_X7_row_17 at hv
  refine bx_aload_n C 18 dX7_row_17 rfl rfl rfl ?_
  refine bx_bipush C (-2) 20 dX7_row_18 bp_m2 rfl ?_
  refine bx_qVi C 0 at_U_0 rfl 23 fc_X7_63 (k_X7_refuseBad l E a _ _ _ hv) dX7_row_20 ⟨rfl, rfl, Nat.le_of_ble_eq_true rfl, Nat.le_of_ble_eq_true rfl⟩ [0, 1, 2, 3, 4, 5, 6, 7, 8, 9, 10, 11, 12, 13, 14, 15, 16, 17, 18, 19, 20, 21, 22, 23, 24, 25, 26, 27, 28, 29, 30, 31, 32, 33, 34, 35, 36, 37, 38, 39, 40, 41, 42, 43, 44, 45, 46, 47, 48, 49, 50, 51, 52, 53, 54, 55, 56, 57, 58, 59, 60, 61, 62, 63, 64, 65, 66, 67, 68, 69, 70, 71, 72, 73] (fun u2 => w_U E a u2) ps_U_U_0 (by decide) ad_U pu_U_U_0 rfl rfl (Nat.le_of_ble_eq_true rfl) rfl (fun r1 u2 hv => ?_)
  exact bx_iret C u2 rfl dX7_row_23 rfl hv
def V_X7_row  (K : Int32 → US → Prop)  (u : US) (x1 : Int32) (x2 : Int32) : Prop := (V_X7_within (fun r3 => ((r3 = 0 → V_X7_row_17 K u ) ∧
 (¬ r3 = 0 → (V_X7_within (fun r4 => ((¬ r4 = 0 → (vp_in x1 5 ∧ (vp_in x1 5 ∧ (V_X4_empty 8 10 80 (fun r5 u6 => K (u.1.1 (x1 : Int32).toNatClampNeg) (((upd u.1.1 (x1 : Int32).toNatClampNeg x2), u.1.2.1, u.1.2.2.1, u.1.2.2.2.1, u.1.2.2.2.2.1, u.1.2.2.2.2.2.1, u.1.2.2.2.2.2.2.1, u.1.2.2.2.2.2.2.2.1, u.1.2.2.2.2.2.2.2.2.1, u.1.2.2.2.2.2.2.2.2.2.1, u.1.2.2.2.2.2.2.2.2.2.2.1, u6), u.2)) u.1.2.2.2.2.2.2.2.2.2.2.2 )))) ∧
 (r4 = 0 → V_X7_row_17 K u )))  x2 6))))  x1 5)
set_option maxRecDepth 20000 in
set_option maxHeartbeats 4000000 in
theorem t_X7_row_0 {a : Nat → Nat} {K : Int32 → US → Prop} (C : bx_C p (rmD 1) S m args meth c cX7_row 4 yX7_row.cls (some .int) E A 0 0)   (u : US) (x1 : Int32) (x2 : Int32) (hv : V_X7_row K u x1 x2) : G_X7_row p l e S m args below meth c E A a  K 0 [(0, .ref (a 0)), (1, .int x1), (2, .int x2)] [] (w_U E a u) := by
  unfold V_X7_row at hv
  refine bx_iload_n C 1 dX7_row_0 rfl rfl rfl ?_
  refine bx_iconst C 5 2 dX7_row_1 ic_5 rfl ?_
  refine bx_pSi C 5 fc_X7_59 (k_X7_within l E  _ _ _ hv) dX7_row_2 ⟨rfl, rfl, Nat.le_of_ble_eq_true rfl, Nat.le_of_ble_eq_true rfl⟩ [] rfl (by decide) rfl rfl (Nat.le_of_ble_eq_true rfl) rfl (fun r3 hv => ?_)
  refine bx_if_eq C 17 8 dX7_row_5 (by decide) rfl (fun h => ?_) (fun h => ?_)
  · replace hv := hv.1 h
    exact bx_cut [0] (w_U E a u) rfl rfl (t_X7_row_17 C   u  hv)
  · replace hv := hv.2 h
    refine bx_iload_n C 9 dX7_row_8 rfl rfl rfl ?_
    refine bx_bipush C 6 11 dX7_row_9 bp_6 rfl ?_
    refine bx_pSi C 14 fc_X7_59 (k_X7_within l E  _ _ _ hv) dX7_row_11 ⟨rfl, rfl, Nat.le_of_ble_eq_true rfl, Nat.le_of_ble_eq_true rfl⟩ [] rfl (by decide) rfl rfl (Nat.le_of_ble_eq_true rfl) rfl (fun r4 hv => ?_)
    refine bx_if_ne C 24 17 dX7_row_14 (by decide) rfl (fun h => ?_) (fun h => ?_)
    · replace hv := hv.1 h
      refine bx_aload_n C 25 dX7_row_24 rfl rfl rfl ?_
      refine bx_getf (v := .ref (a 1)) C 28 0 0 inX7 rfl (by decide) fl_X7_10 dX7_row_25 at_U_0 rfl rfl ?_
      refine bx_getf (v := .ref (a 2)) C 31 1 0 inX0 rfl (by decide) fl_X7_67 dX7_row_28 at_U_1 rfl rfl ?_
      refine bx_iload_n C 32 dX7_row_31 rfl rfl rfl ?_
      refine bx_iald (f := u.1.1) C 33 2 dX7_row_32 at_U_2 hv.1 rfl ?_
      replace hv := hv.2
      refine bx_istore_n C 34 dX7_row_33 rfl (by decide) rfl ?_
      refine bx_aload_n C 35 dX7_row_34 rfl rfl rfl ?_
      refine bx_getf (v := .ref (a 1)) C 38 0 0 inX7 rfl (by decide) fl_X7_10 dX7_row_35 at_U_0 rfl rfl ?_
      refine bx_getf (v := .ref (a 2)) C 41 1 0 inX0 rfl (by decide) fl_X7_67 dX7_row_38 at_U_1 rfl rfl ?_
      refine bx_iload_n C 42 dX7_row_41 rfl rfl rfl ?_
      refine bx_iload_n C 43 dX7_row_42 rfl rfl rfl ?_
      refine bx_iast C 44 2 (w_U E a (((upd u.1.1 (x1 : Int32).toNatClampNeg x2), u.1.2), u.2)) dX7_row_43 rfl hv.1 rfl rfl ?_
      replace hv := hv.2
      refine bx_aload_n C 45 dX7_row_44 rfl rfl rfl ?_
      refine bx_getf (v := .ref (a 1)) C 48 0 0 inX7 rfl (by decide) fl_X7_10 dX7_row_45 at_U_0 rfl rfl ?_
      refine bx_getf (v := .ref (a 12)) C 51 1 11 inX0 rfl (by decide) fl_X7_71 dX7_row_48 at_U_1 rfl rfl ?_
      refine bx_qVi C 12 at_U_12 rfl 54 fc_X7_75 (k_X4_empty l E (fun k => a (12 + k)) 8 10 80 _ _ hv) dX7_row_51 ⟨rfl, rfl, Nat.le_of_ble_eq_true rfl, Nat.le_of_ble_eq_true rfl⟩ [12, 13] (fun u6 => w_U E a (((upd u.1.1 (x1 : Int32).toNatClampNeg x2), u.1.2.1, u.1.2.2.1, u.1.2.2.2.1, u.1.2.2.2.2.1, u.1.2.2.2.2.2.1, u.1.2.2.2.2.2.2.1, u.1.2.2.2.2.2.2.2.1, u.1.2.2.2.2.2.2.2.2.1, u.1.2.2.2.2.2.2.2.2.2.1, u.1.2.2.2.2.2.2.2.2.2.2.1, u6), u.2)) ps_U_T_12 (by decide) ad_T pu_U_T_12 rfl rfl (Nat.le_of_ble_eq_true rfl) rfl (fun r5 u6 hv => ?_)
      refine bx_pop C 55 dX7_row_54 rfl rfl ?_
      refine bx_iload_n C 56 dX7_row_55 rfl rfl rfl ?_
      exact bx_iret C (((upd u.1.1 (x1 : Int32).toNatClampNeg x2), u.1.2.1, u.1.2.2.1, u.1.2.2.2.1, u.1.2.2.2.2.1, u.1.2.2.2.2.2.1, u.1.2.2.2.2.2.2.1, u.1.2.2.2.2.2.2.2.1, u.1.2.2.2.2.2.2.2.2.1, u.1.2.2.2.2.2.2.2.2.2.1, u.1.2.2.2.2.2.2.2.2.2.2.1, u6), u.2) rfl dX7_row_56 rfl hv
    · replace hv := hv.2 h
      exact bx_cut [0] (w_U E a u) rfl rfl (t_X7_row_17 C   u  hv)
theorem k_X7_row (l : Launch) (E : bx_E) (a : Nat → Nat)  (K : Int32 → US → Prop) (u : US) (x1 : Int32) (x2 : Int32) (hv : V_X7_row  K u x1 x2) : bx_Mi l E yX7_row cX7_row 4 (some .int) (rmD 1) [.ref (a 0), .int x1, .int x2] (fun (u : US) => w_U E a u) u K :=
  bx_meti (by decide +kernel) (Nat.le_of_ble_eq_true rfl) (fun p e S m below meth c C => t_X7_row_0 C u x1 x2 hv)
abbrev G_X7_refuseFull (p : Program) (l : Launch) (e : Env) (S : State) (m : MethodId) (args : Array Value) (below : List Frame) (meth : Method) (c : Code) (E : bx_E) (A : Nat → Prop) (a : Nat → Nat)  (K : Int32 → US → Prop) (pc : Nat) (lv : List (Nat × Value)) (st : List Value) (ws : va_W) : Prop := bx_S p l e (rmD 0) S m args below meth c 1 E A (MQ below (va_Qi K (fun (u : US) t => bx_B E A (w_U E a u) t) A) args S 0 0 A) 0 0 pc lv st ws
def V_X7_refuseFull  (K : Int32 → US → Prop)  (u : US)  : Prop := K (-4) (u.1, u.2.1, u.2.2.1, u.2.2.2.1, u.2.2.2.2.1, u.2.2.2.2.2.1, u.2.2.2.2.2.2.1, u.2.2.2.2.2.2.2.1, u.2.2.2.2.2.2.2.2.1, u.2.2.2.2.2.2.2.2.2.1, u.2.2.2.2.2.2.2.2.2.2.1, u.2.2.2.2.2.2.2.2.2.2.2.1, (u.2.2.2.2.2.2.2.2.2.2.2.2 + 1))
set_option maxRecDepth 20000 in
set_option maxHeartbeats 4000000 in
theorem t_X7_refuseFull_0 {a : Nat → Nat} {K : Int32 → US → Prop} (C : bx_C p (rmD 0) S m args meth c cX7_refuseFull 1 yX7_refuseFull.cls (some .int) E A 0 0)   (u : US)  (hv : V_X7_refuseFull K u ) : G_X7_refuseFull p l e S m args below meth c E A a  K 0 [(0, .ref (a 0))] [] (w_U E a u) := by
  unfold V_X7_refuseFull at hv
  refine bx_aload_n C 1 dX7_refuseFull_0 rfl rfl rfl ?_
  refine bx_dup C 2 dX7_refuseFull_1 rfl rfl ?_
  refine bx_getf (v := .int u.2.2.2.2.2.2.2.2.2.2.2.2) C 5 0 11 inX7 rfl (by decide) fl_X7_270 dX7_refuseFull_2 at_U_0 rfl rfl ?_
  refine bx_iconst C 1 6 dX7_refuseFull_5 ic_1 rfl ?_
  refine bx_iadd C 7 dX7_refuseFull_6 rfl ?_
  refine bx_putf C 10 0 11 (w_U E a (u.1, u.2.1, u.2.2.1, u.2.2.2.1, u.2.2.2.2.1, u.2.2.2.2.2.1, u.2.2.2.2.2.2.1, u.2.2.2.2.2.2.2.1, u.2.2.2.2.2.2.2.2.1, u.2.2.2.2.2.2.2.2.2.1, u.2.2.2.2.2.2.2.2.2.2.1, u.2.2.2.2.2.2.2.2.2.2.2.1, (u.2.2.2.2.2.2.2.2.2.2.2.2 + 1))) inX7 tyX7 tyX7_ok nmX7 rfl (by decide) fl_X7_270 rfl dX7_refuseFull_7 rfl rfl rfl (Nat.le_of_ble_eq_true rfl) rfl rfl ?_
  refine bx_bipush C (-4) 12 dX7_refuseFull_10 bp_m4 rfl ?_
  exact bx_iret C (u.1, u.2.1, u.2.2.1, u.2.2.2.1, u.2.2.2.2.1, u.2.2.2.2.2.1, u.2.2.2.2.2.2.1, u.2.2.2.2.2.2.2.1, u.2.2.2.2.2.2.2.2.1, u.2.2.2.2.2.2.2.2.2.1, u.2.2.2.2.2.2.2.2.2.2.1, u.2.2.2.2.2.2.2.2.2.2.2.1, (u.2.2.2.2.2.2.2.2.2.2.2.2 + 1)) rfl dX7_refuseFull_12 rfl hv
theorem k_X7_refuseFull (l : Launch) (E : bx_E) (a : Nat → Nat)  (K : Int32 → US → Prop) (u : US)  (hv : V_X7_refuseFull  K u ) : bx_Mi l E yX7_refuseFull cX7_refuseFull 1 (some .int) (rmD 0) [.ref (a 0)] (fun (u : US) => w_U E a u) u K :=
  bx_meti (by decide +kernel) (Nat.le_of_ble_eq_true rfl) (fun p e S m below meth c C => t_X7_refuseFull_0 C u  hv)
abbrev G_X7_soul (p : Program) (l : Launch) (e : Env) (S : State) (m : MethodId) (args : Array Value) (below : List Frame) (meth : Method) (c : Code) (E : bx_E) (A : Nat → Prop) (a : Nat → Nat)  (K : Int32 → US → Prop) (pc : Nat) (lv : List (Nat × Value)) (st : List Value) (ws : va_W) : Prop := bx_S p l e (rmD 1) S m args below meth c 3 E A (MQ below (va_Qi K (fun (u : US) t => bx_B E A (w_U E a u) t) A) args S 0 0 A) 0 0 pc lv st ws
def V_X7_soul_18  (K : Int32 → US → Prop)  (u : US)  : Prop := (V_X7_refuseBad (fun r1 u2 => K r1 u2) u (-2))
set_option maxRecDepth 20000 in
set_option maxHeartbeats 4000000 in
theorem t_X7_soul_18 {a : Nat → Nat} {K : Int32 → US → Prop} (C : bx_C p (rmD 1) S m args meth c cX7_soul 3 yX7_soul.cls (some .int) E A 0 0)   (u : US)  (hv : V_X7_soul_18 K u ) : G_X7_soul p l e S m args below meth c E A a  K 18 [(0, .ref (a 0))] [] (w_U E a u) := by
  unfold V_X7_soul_18 at hv
  refine bx_aload_n C 19 dX7_soul_18 rfl rfl rfl ?_
  refine bx_bipush C (-2) 21 dX7_soul_19 bp_m2 rfl ?_
  refine bx_qVi C 0 at_U_0 rfl 24 fc_X7_63 (k_X7_refuseBad l E a _ _ _ hv) dX7_soul_21 ⟨rfl, rfl, Nat.le_of_ble_eq_true rfl, Nat.le_of_ble_eq_true rfl⟩ [0, 1, 2, 3, 4, 5, 6, 7, 8, 9, 10, 11, 12, 13, 14, 15, 16, 17, 18, 19, 20, 21, 22, 23, 24, 25, 26, 27, 28, 29, 30, 31, 32, 33, 34, 35, 36, 37, 38, 39, 40, 41, 42, 43, 44, 45, 46, 47, 48, 49, 50, 51, 52, 53, 54, 55, 56, 57, 58, 59, 60, 61, 62, 63, 64, 65, 66, 67, 68, 69, 70, 71, 72, 73] (fun u2 => w_U E a u2) ps_U_U_0 (by decide) ad_U pu_U_U_0 rfl rfl (Nat.le_of_ble_eq_true rfl) rfl (fun r1 u2 hv => ?_)
  exact bx_iret C u2 rfl dX7_soul_24 rfl hv
def V_X7_soul  (K : Int32 → US → Prop)  (u : US) (x1 : Int32) (x2 : Int32) : Prop := (V_X7_within (fun r3 => ((r3 = 0 → V_X7_soul_18 K u ) ∧
 (¬ r3 = 0 → (V_X7_within (fun r4 => ((¬ r4 = 0 → ((u.1.2.2.2.2.1 < 7 → (V_X4_empty 8 10 80 (fun r5 u6 => (V_X0_addSoul (fun r7 u8 => K r7 (u8, u.2)) (u.1.1, u.1.2.1, u.1.2.2.1, u.1.2.2.2.1, u.1.2.2.2.2.1, u.1.2.2.2.2.2.1, u.1.2.2.2.2.2.2.1, u.1.2.2.2.2.2.2.2.1, u.1.2.2.2.2.2.2.2.2.1, u.1.2.2.2.2.2.2.2.2.2.1, u.1.2.2.2.2.2.2.2.2.2.2.1, u6) x1 x2)) u.1.2.2.2.2.2.2.2.2.2.2.2 )) ∧
 (¬ u.1.2.2.2.2.1 < 7 → (V_X7_refuseFull (fun r9 u10 => K r9 u10) u )))) ∧
 (r4 = 0 → V_X7_soul_18 K u )))  x2 30))))  x1 6)
set_option maxRecDepth 20000 in
set_option maxHeartbeats 4000000 in
theorem t_X7_soul_0 {a : Nat → Nat} {K : Int32 → US → Prop} (C : bx_C p (rmD 1) S m args meth c cX7_soul 3 yX7_soul.cls (some .int) E A 0 0)   (u : US) (x1 : Int32) (x2 : Int32) (hv : V_X7_soul K u x1 x2) : G_X7_soul p l e S m args below meth c E A a  K 0 [(0, .ref (a 0)), (1, .int x1), (2, .int x2)] [] (w_U E a u) := by
  unfold V_X7_soul at hv
  refine bx_iload_n C 1 dX7_soul_0 rfl rfl rfl ?_
  refine bx_bipush C 6 3 dX7_soul_1 bp_6 rfl ?_
  refine bx_pSi C 6 fc_X7_59 (k_X7_within l E  _ _ _ hv) dX7_soul_3 ⟨rfl, rfl, Nat.le_of_ble_eq_true rfl, Nat.le_of_ble_eq_true rfl⟩ [] rfl (by decide) rfl rfl (Nat.le_of_ble_eq_true rfl) rfl (fun r3 hv => ?_)
  refine bx_if_eq C 18 9 dX7_soul_6 (by decide) rfl (fun h => ?_) (fun h => ?_)
  · replace hv := hv.1 h
    exact bx_cut [0] (w_U E a u) rfl rfl (t_X7_soul_18 C   u  hv)
  · replace hv := hv.2 h
    refine bx_iload_n C 10 dX7_soul_9 rfl rfl rfl ?_
    refine bx_bipush C 30 12 dX7_soul_10 bp_30 rfl ?_
    refine bx_pSi C 15 fc_X7_59 (k_X7_within l E  _ _ _ hv) dX7_soul_12 ⟨rfl, rfl, Nat.le_of_ble_eq_true rfl, Nat.le_of_ble_eq_true rfl⟩ [] rfl (by decide) rfl rfl (Nat.le_of_ble_eq_true rfl) rfl (fun r4 hv => ?_)
    refine bx_if_ne C 25 18 dX7_soul_15 (by decide) rfl (fun h => ?_) (fun h => ?_)
    · replace hv := hv.1 h
      refine bx_aload_n C 26 dX7_soul_25 rfl rfl rfl ?_
      refine bx_getf (v := .ref (a 1)) C 29 0 0 inX7 rfl (by decide) fl_X7_10 dX7_soul_26 at_U_0 rfl rfl ?_
      refine bx_getf (v := .int u.1.2.2.2.2.1) C 32 1 4 inX0 rfl (by decide) fl_X7_52 dX7_soul_29 at_U_1 rfl rfl ?_
      refine bx_bipush C 7 34 dX7_soul_32 bp_7 rfl ?_
      refine bx_icmp_lt C 42 37 dX7_soul_34 (by decide) rfl (fun h => ?_) (fun h => ?_)
      · replace hv := hv.1 h
        refine bx_aload_n C 43 dX7_soul_42 rfl rfl rfl ?_
        refine bx_getf (v := .ref (a 1)) C 46 0 0 inX7 rfl (by decide) fl_X7_10 dX7_soul_43 at_U_0 rfl rfl ?_
        refine bx_getf (v := .ref (a 12)) C 49 1 11 inX0 rfl (by decide) fl_X7_71 dX7_soul_46 at_U_1 rfl rfl ?_
        refine bx_qVi C 12 at_U_12 rfl 52 fc_X7_75 (k_X4_empty l E (fun k => a (12 + k)) 8 10 80 _ _ hv) dX7_soul_49 ⟨rfl, rfl, Nat.le_of_ble_eq_true rfl, Nat.le_of_ble_eq_true rfl⟩ [12, 13] (fun u6 => w_U E a ((u.1.1, u.1.2.1, u.1.2.2.1, u.1.2.2.2.1, u.1.2.2.2.2.1, u.1.2.2.2.2.2.1, u.1.2.2.2.2.2.2.1, u.1.2.2.2.2.2.2.2.1, u.1.2.2.2.2.2.2.2.2.1, u.1.2.2.2.2.2.2.2.2.2.1, u.1.2.2.2.2.2.2.2.2.2.2.1, u6), u.2)) ps_U_T_12 (by decide) ad_T pu_U_T_12 rfl rfl (Nat.le_of_ble_eq_true rfl) rfl (fun r5 u6 hv => ?_)
        refine bx_pop C 53 dX7_soul_52 rfl rfl ?_
        refine bx_aload_n C 54 dX7_soul_53 rfl rfl rfl ?_
        refine bx_getf (v := .ref (a 1)) C 57 0 0 inX7 rfl (by decide) fl_X7_10 dX7_soul_54 at_U_0 rfl rfl ?_
        refine bx_iload_n C 58 dX7_soul_57 rfl rfl rfl ?_
        refine bx_iload_n C 59 dX7_soul_58 rfl rfl rfl ?_
        refine bx_qVi C 1 at_U_1 rfl 62 fc_X7_84 (k_X0_addSoul l E (fun k => a (1 + k)) _ _ _ _ hv) dX7_soul_59 ⟨rfl, rfl, Nat.le_of_ble_eq_true rfl, Nat.le_of_ble_eq_true rfl⟩ [1, 2, 3, 4, 5, 6, 7, 8, 9, 10, 11, 12, 13] (fun u8 => w_U E a (u8, u.2)) ps_U_H_1 (by decide) ad_H pu_U_H_1 rfl rfl (Nat.le_of_ble_eq_true rfl) rfl (fun r7 u8 hv => ?_)
        exact bx_iret C (u8, u.2) rfl dX7_soul_62 rfl hv
      · replace hv := hv.2 h
        refine bx_aload_n C 38 dX7_soul_37 rfl rfl rfl ?_
        refine bx_qVi C 0 at_U_0 rfl 41 fc_X7_81 (k_X7_refuseFull l E a _ _ hv) dX7_soul_38 ⟨rfl, rfl, Nat.le_of_ble_eq_true rfl, Nat.le_of_ble_eq_true rfl⟩ [0, 1, 2, 3, 4, 5, 6, 7, 8, 9, 10, 11, 12, 13, 14, 15, 16, 17, 18, 19, 20, 21, 22, 23, 24, 25, 26, 27, 28, 29, 30, 31, 32, 33, 34, 35, 36, 37, 38, 39, 40, 41, 42, 43, 44, 45, 46, 47, 48, 49, 50, 51, 52, 53, 54, 55, 56, 57, 58, 59, 60, 61, 62, 63, 64, 65, 66, 67, 68, 69, 70, 71, 72, 73] (fun u10 => w_U E a u10) ps_U_U_0 (by decide) ad_U pu_U_U_0 rfl rfl (Nat.le_of_ble_eq_true rfl) rfl (fun r9 u10 hv => ?_)
        exact bx_iret C u10 rfl dX7_soul_41 rfl hv
    · replace hv := hv.2 h
      exact bx_cut [0] (w_U E a u) rfl rfl (t_X7_soul_18 C   u  hv)
theorem k_X7_soul (l : Launch) (E : bx_E) (a : Nat → Nat)  (K : Int32 → US → Prop) (u : US) (x1 : Int32) (x2 : Int32) (hv : V_X7_soul  K u x1 x2) : bx_Mi l E yX7_soul cX7_soul 3 (some .int) (rmD 1) [.ref (a 0), .int x1, .int x2] (fun (u : US) => w_U E a u) u K :=
  bx_meti (by decide +kernel) (Nat.le_of_ble_eq_true rfl) (fun p e S m below meth c C => t_X7_soul_0 C u x1 x2 hv)
abbrev G_X7_type (p : Program) (l : Launch) (e : Env) (S : State) (m : MethodId) (args : Array Value) (below : List Frame) (meth : Method) (c : Code) (E : bx_E) (A : Nat → Prop) (a : Nat → Nat)  (K : Int32 → US → Prop) (pc : Nat) (lv : List (Nat × Value)) (st : List Value) (ws : va_W) : Prop := bx_S p l e (rmD 1) S m args below meth c 2 E A (MQ below (va_Qi K (fun (u : US) t => bx_B E A (w_U E a u) t) A) args S 0 0 A) 0 0 pc lv st ws
def V_X7_type_10  (K : Int32 → US → Prop)  (u : US)  : Prop := (V_X7_refuseBad (fun r1 u2 => K r1 u2) u (-2))
set_option maxRecDepth 20000 in
set_option maxHeartbeats 4000000 in
theorem t_X7_type_10 {a : Nat → Nat} {K : Int32 → US → Prop} (C : bx_C p (rmD 1) S m args meth c cX7_type 2 yX7_type.cls (some .int) E A 0 0)   (u : US)  (hv : V_X7_type_10 K u ) : G_X7_type p l e S m args below meth c E A a  K 10 [(0, .ref (a 0))] [] (w_U E a u) := by
  unfold V_X7_type_10 at hv
  refine bx_aload_n C 11 dX7_type_10 rfl rfl rfl ?_
  refine bx_bipush C (-2) 13 dX7_type_11 bp_m2 rfl ?_
  refine bx_qVi C 0 at_U_0 rfl 16 fc_X7_63 (k_X7_refuseBad l E a _ _ _ hv) dX7_type_13 ⟨rfl, rfl, Nat.le_of_ble_eq_true rfl, Nat.le_of_ble_eq_true rfl⟩ [0, 1, 2, 3, 4, 5, 6, 7, 8, 9, 10, 11, 12, 13, 14, 15, 16, 17, 18, 19, 20, 21, 22, 23, 24, 25, 26, 27, 28, 29, 30, 31, 32, 33, 34, 35, 36, 37, 38, 39, 40, 41, 42, 43, 44, 45, 46, 47, 48, 49, 50, 51, 52, 53, 54, 55, 56, 57, 58, 59, 60, 61, 62, 63, 64, 65, 66, 67, 68, 69, 70, 71, 72, 73] (fun u2 => w_U E a u2) ps_U_U_0 (by decide) ad_U pu_U_U_0 rfl rfl (Nat.le_of_ble_eq_true rfl) rfl (fun r1 u2 hv => ?_)
  exact bx_iret C u2 rfl dX7_type_16 rfl hv
def V_X7_type  (K : Int32 → US → Prop)  (u : US) (x1 : Int32) : Prop := ((x1 < 0 → V_X7_type_10 K u ) ∧
 (¬ x1 < 0 → ((x1 ≤ 127 → (V_X6_isFull (fun r3 => ((r3 = 0 → (V_X6_add (fun r4 u5 => K r4 (u.1, u.2.1, u.2.2.1, u.2.2.2.1, u.2.2.2.2.1, u5, u.2.2.2.2.2.2)) u.2.2.2.2.2.1 x1)) ∧
 (¬ r3 = 0 → (V_X7_refuseFull (fun r6 u7 => K r6 u7) u )))) u.2.2.2.2.2.1 )) ∧
 (¬ x1 ≤ 127 → V_X7_type_10 K u ))))
set_option maxRecDepth 20000 in
set_option maxHeartbeats 4000000 in
theorem t_X7_type_0 {a : Nat → Nat} {K : Int32 → US → Prop} (C : bx_C p (rmD 1) S m args meth c cX7_type 2 yX7_type.cls (some .int) E A 0 0)   (u : US) (x1 : Int32) (hv : V_X7_type K u x1) : G_X7_type p l e S m args below meth c E A a  K 0 [(0, .ref (a 0)), (1, .int x1)] [] (w_U E a u) := by
  unfold V_X7_type at hv
  refine bx_iload_n C 1 dX7_type_0 rfl rfl rfl ?_
  refine bx_if_lt C 10 4 dX7_type_1 (by decide) rfl (fun h => ?_) (fun h => ?_)
  · replace hv := hv.1 h
    exact bx_cut [0] (w_U E a u) rfl rfl (t_X7_type_10 C   u  hv)
  · replace hv := hv.2 h
    refine bx_iload_n C 5 dX7_type_4 rfl rfl rfl ?_
    refine bx_bipush C 127 7 dX7_type_5 bp_127 rfl ?_
    refine bx_icmp_le C 17 10 dX7_type_7 (by decide) rfl (fun h => ?_) (fun h => ?_)
    · replace hv := hv.1 h
      refine bx_aload_n C 18 dX7_type_17 rfl rfl rfl ?_
      refine bx_getf (v := .ref (a 55)) C 21 0 4 inX7 rfl (by decide) fl_X7_30 dX7_type_18 at_U_0 rfl rfl ?_
      refine bx_pVi C 55 at_U_55 rfl 24 fc_X7_88 (k_X6_isFull l E (fun k => a (55 + k)) _ _ hv) dX7_type_21 ⟨rfl, rfl, Nat.le_of_ble_eq_true rfl, Nat.le_of_ble_eq_true rfl⟩ [55, 56, 57, 58, 59, 60, 61, 62, 63, 64, 65, 66, 67, 68, 69] ps_U_X_55 (by decide) rfl rfl (Nat.le_of_ble_eq_true rfl) rfl (fun r3 hv => ?_)
      refine bx_if_eq C 34 27 dX7_type_24 (by decide) rfl (fun h => ?_) (fun h => ?_)
      · replace hv := hv.1 h
        refine bx_aload_n C 35 dX7_type_34 rfl rfl rfl ?_
        refine bx_getf (v := .ref (a 55)) C 38 0 4 inX7 rfl (by decide) fl_X7_30 dX7_type_35 at_U_0 rfl rfl ?_
        refine bx_iload_n C 39 dX7_type_38 rfl rfl rfl ?_
        refine bx_qVi C 55 at_U_55 rfl 42 fc_X7_92 (k_X6_add l E (fun k => a (55 + k)) _ _ _ hv) dX7_type_39 ⟨rfl, rfl, Nat.le_of_ble_eq_true rfl, Nat.le_of_ble_eq_true rfl⟩ [55, 56, 57, 58, 59, 60, 61, 62, 63, 64, 65, 66, 67, 68, 69] (fun u5 => w_U E a (u.1, u.2.1, u.2.2.1, u.2.2.2.1, u.2.2.2.2.1, u5, u.2.2.2.2.2.2)) ps_U_X_55 (by decide) ad_X pu_U_X_55 rfl rfl (Nat.le_of_ble_eq_true rfl) rfl (fun r4 u5 hv => ?_)
        exact bx_iret C (u.1, u.2.1, u.2.2.1, u.2.2.2.1, u.2.2.2.2.1, u5, u.2.2.2.2.2.2) rfl dX7_type_42 rfl hv
      · replace hv := hv.2 h
        refine bx_aload_n C 28 dX7_type_27 rfl rfl rfl ?_
        refine bx_qVi C 0 at_U_0 rfl 31 fc_X7_81 (k_X7_refuseFull l E a _ _ hv) dX7_type_28 ⟨rfl, rfl, Nat.le_of_ble_eq_true rfl, Nat.le_of_ble_eq_true rfl⟩ [0, 1, 2, 3, 4, 5, 6, 7, 8, 9, 10, 11, 12, 13, 14, 15, 16, 17, 18, 19, 20, 21, 22, 23, 24, 25, 26, 27, 28, 29, 30, 31, 32, 33, 34, 35, 36, 37, 38, 39, 40, 41, 42, 43, 44, 45, 46, 47, 48, 49, 50, 51, 52, 53, 54, 55, 56, 57, 58, 59, 60, 61, 62, 63, 64, 65, 66, 67, 68, 69, 70, 71, 72, 73] (fun u7 => w_U E a u7) ps_U_U_0 (by decide) ad_U pu_U_U_0 rfl rfl (Nat.le_of_ble_eq_true rfl) rfl (fun r6 u7 hv => ?_)
        refine bx_goto C 42 dX7_type_31 (by decide) ?_
        exact bx_iret C u7 rfl dX7_type_42 rfl hv
    · replace hv := hv.2 h
      exact bx_cut [0] (w_U E a u) rfl rfl (t_X7_type_10 C   u  hv)
theorem k_X7_type (l : Launch) (E : bx_E) (a : Nat → Nat)  (K : Int32 → US → Prop) (u : US) (x1 : Int32) (hv : V_X7_type  K u x1) : bx_Mi l E yX7_type cX7_type 2 (some .int) (rmD 1) [.ref (a 0), .int x1] (fun (u : US) => w_U E a u) u K :=
  bx_meti (by decide +kernel) (Nat.le_of_ble_eq_true rfl) (fun p e S m below meth c C => t_X7_type_0 C u x1 hv)
abbrev G_X7_clear (p : Program) (l : Launch) (e : Env) (S : State) (m : MethodId) (args : Array Value) (below : List Frame) (meth : Method) (c : Code) (E : bx_E) (A : Nat → Prop) (a : Nat → Nat)  (K : Int32 → US → Prop) (pc : Nat) (lv : List (Nat × Value)) (st : List Value) (ws : va_W) : Prop := bx_S p l e (rmD 1) S m args below meth c 1 E A (MQ below (va_Qi K (fun (u : US) t => bx_B E A (w_U E a u) t) A) args S 0 0 A) 0 0 pc lv st ws
def V_X7_clear  (K : Int32 → US → Prop)  (u : US)  : Prop := (V_X6_empty (fun r1 u2 => K r1 (u.1, u.2.1, u.2.2.1, u.2.2.2.1, u.2.2.2.2.1, u2, u.2.2.2.2.2.2)) u.2.2.2.2.2.1 )
set_option maxRecDepth 20000 in
set_option maxHeartbeats 4000000 in
theorem t_X7_clear_0 {a : Nat → Nat} {K : Int32 → US → Prop} (C : bx_C p (rmD 1) S m args meth c cX7_clear 1 yX7_clear.cls (some .int) E A 0 0)   (u : US)  (hv : V_X7_clear K u ) : G_X7_clear p l e S m args below meth c E A a  K 0 [(0, .ref (a 0))] [] (w_U E a u) := by
  unfold V_X7_clear at hv
  refine bx_aload_n C 1 dX7_clear_0 rfl rfl rfl ?_
  refine bx_getf (v := .ref (a 55)) C 4 0 4 inX7 rfl (by decide) fl_X7_30 dX7_clear_1 at_U_0 rfl rfl ?_
  refine bx_qVi C 55 at_U_55 rfl 7 fc_X7_95 (k_X6_empty l E (fun k => a (55 + k)) _ _ hv) dX7_clear_4 ⟨rfl, rfl, Nat.le_of_ble_eq_true rfl, Nat.le_of_ble_eq_true rfl⟩ [55, 56, 57, 58, 59, 60, 61, 62, 63, 64, 65, 66, 67, 68, 69] (fun u2 => w_U E a (u.1, u.2.1, u.2.2.1, u.2.2.2.1, u.2.2.2.2.1, u2, u.2.2.2.2.2.2)) ps_U_X_55 (by decide) ad_X pu_U_X_55 rfl rfl (Nat.le_of_ble_eq_true rfl) rfl (fun r1 u2 hv => ?_)
  exact bx_iret C (u.1, u.2.1, u.2.2.1, u.2.2.2.1, u.2.2.2.2.1, u2, u.2.2.2.2.2.2) rfl dX7_clear_7 rfl hv
theorem k_X7_clear (l : Launch) (E : bx_E) (a : Nat → Nat)  (K : Int32 → US → Prop) (u : US)  (hv : V_X7_clear  K u ) : bx_Mi l E yX7_clear cX7_clear 1 (some .int) (rmD 1) [.ref (a 0)] (fun (u : US) => w_U E a u) u K :=
  bx_meti (by decide +kernel) (Nat.le_of_ble_eq_true rfl) (fun p e S m below meth c C => t_X7_clear_0 C u  hv)
abbrev G_X7_refuseNo (p : Program) (l : Launch) (e : Env) (S : State) (m : MethodId) (args : Array Value) (below : List Frame) (meth : Method) (c : Code) (E : bx_E) (A : Nat → Prop) (a : Nat → Nat)  (K : Int32 → US → Prop) (pc : Nat) (lv : List (Nat × Value)) (st : List Value) (ws : va_W) : Prop := bx_S p l e (rmD 0) S m args below meth c 2 E A (MQ below (va_Qi K (fun (u : US) t => bx_B E A (w_U E a u) t) A) args S 0 0 A) 0 0 pc lv st ws
def V_X7_refuseNo  (K : Int32 → US → Prop)  (u : US) (x1 : Int32) : Prop := K x1 (u.1, u.2.1, u.2.2.1, u.2.2.2.1, u.2.2.2.2.1, u.2.2.2.2.2.1, u.2.2.2.2.2.2.1, u.2.2.2.2.2.2.2.1, u.2.2.2.2.2.2.2.2.1, u.2.2.2.2.2.2.2.2.2.1, u.2.2.2.2.2.2.2.2.2.2.1, (u.2.2.2.2.2.2.2.2.2.2.2.1 + 1), u.2.2.2.2.2.2.2.2.2.2.2.2)
set_option maxRecDepth 20000 in
set_option maxHeartbeats 4000000 in
theorem t_X7_refuseNo_0 {a : Nat → Nat} {K : Int32 → US → Prop} (C : bx_C p (rmD 0) S m args meth c cX7_refuseNo 2 yX7_refuseNo.cls (some .int) E A 0 0)   (u : US) (x1 : Int32) (hv : V_X7_refuseNo K u x1) : G_X7_refuseNo p l e S m args below meth c E A a  K 0 [(0, .ref (a 0)), (1, .int x1)] [] (w_U E a u) := by
  unfold V_X7_refuseNo at hv
  refine bx_aload_n C 1 dX7_refuseNo_0 rfl rfl rfl ?_
  refine bx_dup C 2 dX7_refuseNo_1 rfl rfl ?_
  refine bx_getf (v := .int u.2.2.2.2.2.2.2.2.2.2.2.1) C 5 0 10 inX7 rfl (by decide) fl_X7_267 dX7_refuseNo_2 at_U_0 rfl rfl ?_
  refine bx_iconst C 1 6 dX7_refuseNo_5 ic_1 rfl ?_
  refine bx_iadd C 7 dX7_refuseNo_6 rfl ?_
  refine bx_putf C 10 0 10 (w_U E a (u.1, u.2.1, u.2.2.1, u.2.2.2.1, u.2.2.2.2.1, u.2.2.2.2.2.1, u.2.2.2.2.2.2.1, u.2.2.2.2.2.2.2.1, u.2.2.2.2.2.2.2.2.1, u.2.2.2.2.2.2.2.2.2.1, u.2.2.2.2.2.2.2.2.2.2.1, (u.2.2.2.2.2.2.2.2.2.2.2.1 + 1), u.2.2.2.2.2.2.2.2.2.2.2.2)) inX7 tyX7 tyX7_ok nmX7 rfl (by decide) fl_X7_267 rfl dX7_refuseNo_7 rfl rfl rfl (Nat.le_of_ble_eq_true rfl) rfl rfl ?_
  refine bx_iload_n C 11 dX7_refuseNo_10 rfl rfl rfl ?_
  exact bx_iret C (u.1, u.2.1, u.2.2.1, u.2.2.2.1, u.2.2.2.2.1, u.2.2.2.2.2.1, u.2.2.2.2.2.2.1, u.2.2.2.2.2.2.2.1, u.2.2.2.2.2.2.2.2.1, u.2.2.2.2.2.2.2.2.2.1, u.2.2.2.2.2.2.2.2.2.2.1, (u.2.2.2.2.2.2.2.2.2.2.2.1 + 1), u.2.2.2.2.2.2.2.2.2.2.2.2) rfl dX7_refuseNo_11 rfl hv
theorem k_X7_refuseNo (l : Launch) (E : bx_E) (a : Nat → Nat)  (K : Int32 → US → Prop) (u : US) (x1 : Int32) (hv : V_X7_refuseNo  K u x1) : bx_Mi l E yX7_refuseNo cX7_refuseNo 2 (some .int) (rmD 0) [.ref (a 0), .int x1] (fun (u : US) => w_U E a u) u K :=
  bx_meti (by decide +kernel) (Nat.le_of_ble_eq_true rfl) (fun p e S m below meth c C => t_X7_refuseNo_0 C u x1 hv)
abbrev G_X7_shows (p : Program) (l : Launch) (e : Env) (S : State) (m : MethodId) (args : Array Value) (below : List Frame) (meth : Method) (c : Code) (E : bx_E) (A : Nat → Prop) (a : Nat → Nat)  (K : Int32 → US → Prop) (pc : Nat) (lv : List (Nat × Value)) (st : List Value) (ws : va_W) : Prop := bx_S p l e (rmD 3) S m args below meth c 3 E A (MQ below (va_Qi K (fun (u : US) t => bx_B E A (w_U E a u) t) A) args S 0 0 A) 0 0 pc lv st ws
def V_X7_shows_20  (K : Int32 → US → Prop)  (u : US)  : Prop := (V_X7_refuseBad (fun r1 u2 => K r1 u2) u (-2))
set_option maxRecDepth 20000 in
set_option maxHeartbeats 4000000 in
theorem t_X7_shows_20 {a : Nat → Nat} {K : Int32 → US → Prop} (C : bx_C p (rmD 3) S m args meth c cX7_shows 3 yX7_shows.cls (some .int) E A 0 0)   (u : US)  (hv : V_X7_shows_20 K u ) : G_X7_shows p l e S m args below meth c E A a  K 20 [(0, .ref (a 0))] [] (w_U E a u) := by
  unfold V_X7_shows_20 at hv
  refine bx_aload_n C 21 dX7_shows_20 rfl rfl rfl ?_
  refine bx_bipush C (-2) 23 dX7_shows_21 bp_m2 rfl ?_
  refine bx_qVi C 0 at_U_0 rfl 26 fc_X7_63 (k_X7_refuseBad l E a _ _ _ hv) dX7_shows_23 ⟨rfl, rfl, Nat.le_of_ble_eq_true rfl, Nat.le_of_ble_eq_true rfl⟩ [0, 1, 2, 3, 4, 5, 6, 7, 8, 9, 10, 11, 12, 13, 14, 15, 16, 17, 18, 19, 20, 21, 22, 23, 24, 25, 26, 27, 28, 29, 30, 31, 32, 33, 34, 35, 36, 37, 38, 39, 40, 41, 42, 43, 44, 45, 46, 47, 48, 49, 50, 51, 52, 53, 54, 55, 56, 57, 58, 59, 60, 61, 62, 63, 64, 65, 66, 67, 68, 69, 70, 71, 72, 73] (fun u2 => w_U E a u2) ps_U_U_0 (by decide) ad_U pu_U_U_0 rfl rfl (Nat.le_of_ble_eq_true rfl) rfl (fun r1 u2 hv => ?_)
  exact bx_iret C u2 rfl dX7_shows_26 rfl hv
def V_X7_shows_62  (K : Int32 → US → Prop)  (u : US)  : Prop := (V_X7_refuseNo (fun r3 u4 => K r3 u4) u (-3))
set_option maxRecDepth 20000 in
set_option maxHeartbeats 4000000 in
theorem t_X7_shows_62 {a : Nat → Nat} {K : Int32 → US → Prop} (C : bx_C p (rmD 3) S m args meth c cX7_shows 3 yX7_shows.cls (some .int) E A 0 0)   (u : US)  (hv : V_X7_shows_62 K u ) : G_X7_shows p l e S m args below meth c E A a  K 62 [(0, .ref (a 0))] [] (w_U E a u) := by
  unfold V_X7_shows_62 at hv
  refine bx_aload_n C 63 dX7_shows_62 rfl rfl rfl ?_
  refine bx_bipush C (-3) 65 dX7_shows_63 bp_m3 rfl ?_
  refine bx_qVi C 0 at_U_0 rfl 68 fc_X7_119 (k_X7_refuseNo l E a _ _ _ hv) dX7_shows_65 ⟨rfl, rfl, Nat.le_of_ble_eq_true rfl, Nat.le_of_ble_eq_true rfl⟩ [0, 1, 2, 3, 4, 5, 6, 7, 8, 9, 10, 11, 12, 13, 14, 15, 16, 17, 18, 19, 20, 21, 22, 23, 24, 25, 26, 27, 28, 29, 30, 31, 32, 33, 34, 35, 36, 37, 38, 39, 40, 41, 42, 43, 44, 45, 46, 47, 48, 49, 50, 51, 52, 53, 54, 55, 56, 57, 58, 59, 60, 61, 62, 63, 64, 65, 66, 67, 68, 69, 70, 71, 72, 73] (fun u4 => w_U E a u4) ps_U_U_0 (by decide) ad_U pu_U_U_0 rfl rfl (Nat.le_of_ble_eq_true rfl) rfl (fun r3 u4 hv => ?_)
  exact bx_iret C u4 rfl dX7_shows_68 rfl hv
def V_X7_shows  (K : Int32 → US → Prop)  (u : US) (x1 : Int32) (x2 : Int32) : Prop := (V_X0_isSoul (fun r5 => ((r5 = 0 → V_X7_shows_20 K u ) ∧
 (¬ r5 = 0 → (V_X7_within (fun r6 => ((¬ r6 = 0 → (V_X0_sits (fun r7 => ((¬ r7 = 0 → V_X7_shows_62 K u ) ∧
 (r7 = 0 → (V_X0_isFree (fun r8 => ((r8 = 0 → V_X7_shows_62 K u ) ∧
 (¬ r8 = 0 → ((u.1.2.2.2.2.2.2.1 < 9999 → (V_X0_remember (fun u9 => (V_X0_showIn (fun r10 u11 => K r10 (u11, u.2)) u9 x1 x2)) u.1 )) ∧
 (¬ u.1.2.2.2.2.2.2.1 < 9999 → V_X7_shows_62 K u ))))) u.1 x2)))) u.1 x1)) ∧
 (r6 = 0 → V_X7_shows_20 K u )))  x2 30)))) u.1 x1)
set_option maxRecDepth 20000 in
set_option maxHeartbeats 4000000 in
theorem t_X7_shows_0 {a : Nat → Nat} {K : Int32 → US → Prop} (C : bx_C p (rmD 3) S m args meth c cX7_shows 3 yX7_shows.cls (some .int) E A 0 0)   (u : US) (x1 : Int32) (x2 : Int32) (hv : V_X7_shows K u x1 x2) : G_X7_shows p l e S m args below meth c E A a  K 0 [(0, .ref (a 0)), (1, .int x1), (2, .int x2)] [] (w_U E a u) := by
  unfold V_X7_shows at hv
  refine bx_aload_n C 1 dX7_shows_0 rfl rfl rfl ?_
  refine bx_getf (v := .ref (a 1)) C 4 0 0 inX7 rfl (by decide) fl_X7_10 dX7_shows_1 at_U_0 rfl rfl ?_
  refine bx_iload_n C 5 dX7_shows_4 rfl rfl rfl ?_
  refine bx_pVi C 1 at_U_1 rfl 8 fc_X7_106 (k_X0_isSoul l E (fun k => a (1 + k)) _ _ _ hv) dX7_shows_5 ⟨rfl, rfl, Nat.le_of_ble_eq_true rfl, Nat.le_of_ble_eq_true rfl⟩ [1, 2, 3, 4, 5, 6, 7, 8, 9, 10, 11, 12, 13] ps_U_H_1 (by decide) rfl rfl (Nat.le_of_ble_eq_true rfl) rfl (fun r5 hv => ?_)
  refine bx_if_eq C 20 11 dX7_shows_8 (by decide) rfl (fun h => ?_) (fun h => ?_)
  · replace hv := hv.1 h
    exact bx_cut [0] (w_U E a u) rfl rfl (t_X7_shows_20 C   u  hv)
  · replace hv := hv.2 h
    refine bx_iload_n C 12 dX7_shows_11 rfl rfl rfl ?_
    refine bx_bipush C 30 14 dX7_shows_12 bp_30 rfl ?_
    refine bx_pSi C 17 fc_X7_59 (k_X7_within l E  _ _ _ hv) dX7_shows_14 ⟨rfl, rfl, Nat.le_of_ble_eq_true rfl, Nat.le_of_ble_eq_true rfl⟩ [] rfl (by decide) rfl rfl (Nat.le_of_ble_eq_true rfl) rfl (fun r6 hv => ?_)
    refine bx_if_ne C 27 20 dX7_shows_17 (by decide) rfl (fun h => ?_) (fun h => ?_)
    · replace hv := hv.1 h
      refine bx_aload_n C 28 dX7_shows_27 rfl rfl rfl ?_
      refine bx_getf (v := .ref (a 1)) C 31 0 0 inX7 rfl (by decide) fl_X7_10 dX7_shows_28 at_U_0 rfl rfl ?_
      refine bx_iload_n C 32 dX7_shows_31 rfl rfl rfl ?_
      refine bx_pVi C 1 at_U_1 rfl 35 fc_X7_110 (k_X0_sits l E (fun k => a (1 + k)) _ _ _ hv) dX7_shows_32 ⟨rfl, rfl, Nat.le_of_ble_eq_true rfl, Nat.le_of_ble_eq_true rfl⟩ [1, 2, 3, 4, 5, 6, 7, 8, 9, 10, 11, 12, 13] ps_U_H_1 (by decide) rfl rfl (Nat.le_of_ble_eq_true rfl) rfl (fun r7 hv => ?_)
      refine bx_if_ne C 62 38 dX7_shows_35 (by decide) rfl (fun h => ?_) (fun h => ?_)
      · replace hv := hv.1 h
        exact bx_cut [0] (w_U E a u) rfl rfl (t_X7_shows_62 C   u  hv)
      · replace hv := hv.2 h
        refine bx_aload_n C 39 dX7_shows_38 rfl rfl rfl ?_
        refine bx_getf (v := .ref (a 1)) C 42 0 0 inX7 rfl (by decide) fl_X7_10 dX7_shows_39 at_U_0 rfl rfl ?_
        refine bx_iload_n C 43 dX7_shows_42 rfl rfl rfl ?_
        refine bx_pVi C 1 at_U_1 rfl 46 fc_X7_113 (k_X0_isFree l E (fun k => a (1 + k)) _ _ _ hv) dX7_shows_43 ⟨rfl, rfl, Nat.le_of_ble_eq_true rfl, Nat.le_of_ble_eq_true rfl⟩ [1, 2, 3, 4, 5, 6, 7, 8, 9, 10, 11, 12, 13] ps_U_H_1 (by decide) rfl rfl (Nat.le_of_ble_eq_true rfl) rfl (fun r8 hv => ?_)
        refine bx_if_eq C 62 49 dX7_shows_46 (by decide) rfl (fun h => ?_) (fun h => ?_)
        · replace hv := hv.1 h
          exact bx_cut [0] (w_U E a u) rfl rfl (t_X7_shows_62 C   u  hv)
        · replace hv := hv.2 h
          refine bx_aload_n C 50 dX7_shows_49 rfl rfl rfl ?_
          refine bx_getf (v := .ref (a 1)) C 53 0 0 inX7 rfl (by decide) fl_X7_10 dX7_shows_50 at_U_0 rfl rfl ?_
          refine bx_getf (v := .int u.1.2.2.2.2.2.2.1) C 56 1 6 inX0 rfl (by decide) fl_X7_116 dX7_shows_53 at_U_1 rfl rfl ?_
          refine bx_sipush C 9999 59 dX7_shows_56 sp_9999 rfl ?_
          refine bx_icmp_lt C 69 62 dX7_shows_59 (by decide) rfl (fun h => ?_) (fun h => ?_)
          · replace hv := hv.1 h
            refine bx_aload_n C 70 dX7_shows_69 rfl rfl rfl ?_
            refine bx_getf (v := .ref (a 1)) C 73 0 0 inX7 rfl (by decide) fl_X7_10 dX7_shows_70 at_U_0 rfl rfl ?_
            refine bx_qVv C 1 at_U_1 rfl 76 fc_X7_122 (k_X0_remember l E (fun k => a (1 + k)) _ _ hv) dX7_shows_73 ⟨rfl, rfl, Nat.le_of_ble_eq_true rfl, Nat.le_of_ble_eq_true rfl⟩ [1, 2, 3, 4, 5, 6, 7, 8, 9, 10, 11, 12, 13] (fun u9 => w_U E a (u9, u.2)) ps_U_H_1 (by decide) ad_H pu_U_H_1 rfl rfl (Nat.le_of_ble_eq_true rfl) rfl (fun u9 hv => ?_)
            refine bx_aload_n C 77 dX7_shows_76 rfl rfl rfl ?_
            refine bx_getf (v := .ref (a 1)) C 80 0 0 inX7 rfl (by decide) fl_X7_10 dX7_shows_77 at_U_0 rfl rfl ?_
            refine bx_iload_n C 81 dX7_shows_80 rfl rfl rfl ?_
            refine bx_iload_n C 82 dX7_shows_81 rfl rfl rfl ?_
            refine bx_qVi C 1 at_U_1 rfl 85 fc_X7_125 (k_X0_showIn l E (fun k => a (1 + k)) _ _ _ _ hv) dX7_shows_82 ⟨rfl, rfl, Nat.le_of_ble_eq_true rfl, Nat.le_of_ble_eq_true rfl⟩ [1, 2, 3, 4, 5, 6, 7, 8, 9, 10, 11, 12, 13] (fun u11 => w_U E a (u11, u.2)) ps_U_H_1 (by decide) ad_H pu_U_H_1 rfl rfl (Nat.le_of_ble_eq_true rfl) rfl (fun r10 u11 hv => ?_)
            exact bx_iret C (u11, u.2) rfl dX7_shows_85 rfl hv
          · replace hv := hv.2 h
            exact bx_cut [0] (w_U E a u) rfl rfl (t_X7_shows_62 C   u  hv)
    · replace hv := hv.2 h
      exact bx_cut [0] (w_U E a u) rfl rfl (t_X7_shows_20 C   u  hv)
theorem k_X7_shows (l : Launch) (E : bx_E) (a : Nat → Nat)  (K : Int32 → US → Prop) (u : US) (x1 : Int32) (x2 : Int32) (hv : V_X7_shows  K u x1 x2) : bx_Mi l E yX7_shows cX7_shows 3 (some .int) (rmD 3) [.ref (a 0), .int x1, .int x2] (fun (u : US) => w_U E a u) u K :=
  bx_meti (by decide +kernel) (Nat.le_of_ble_eq_true rfl) (fun p e S m below meth c C => t_X7_shows_0 C u x1 x2 hv)
abbrev G_X7_moves (p : Program) (l : Launch) (e : Env) (S : State) (m : MethodId) (args : Array Value) (below : List Frame) (meth : Method) (c : Code) (E : bx_E) (A : Nat → Prop) (a : Nat → Nat)  (K : Int32 → US → Prop) (pc : Nat) (lv : List (Nat × Value)) (st : List Value) (ws : va_W) : Prop := bx_S p l e (rmD 3) S m args below meth c 3 E A (MQ below (va_Qi K (fun (u : US) t => bx_B E A (w_U E a u) t) A) args S 0 0 A) 0 0 pc lv st ws
def V_X7_moves_20  (K : Int32 → US → Prop)  (u : US)  : Prop := (V_X7_refuseBad (fun r1 u2 => K r1 u2) u (-2))
set_option maxRecDepth 20000 in
set_option maxHeartbeats 4000000 in
theorem t_X7_moves_20 {a : Nat → Nat} {K : Int32 → US → Prop} (C : bx_C p (rmD 3) S m args meth c cX7_moves 3 yX7_moves.cls (some .int) E A 0 0)   (u : US)  (hv : V_X7_moves_20 K u ) : G_X7_moves p l e S m args below meth c E A a  K 20 [(0, .ref (a 0))] [] (w_U E a u) := by
  unfold V_X7_moves_20 at hv
  refine bx_aload_n C 21 dX7_moves_20 rfl rfl rfl ?_
  refine bx_bipush C (-2) 23 dX7_moves_21 bp_m2 rfl ?_
  refine bx_qVi C 0 at_U_0 rfl 26 fc_X7_63 (k_X7_refuseBad l E a _ _ _ hv) dX7_moves_23 ⟨rfl, rfl, Nat.le_of_ble_eq_true rfl, Nat.le_of_ble_eq_true rfl⟩ [0, 1, 2, 3, 4, 5, 6, 7, 8, 9, 10, 11, 12, 13, 14, 15, 16, 17, 18, 19, 20, 21, 22, 23, 24, 25, 26, 27, 28, 29, 30, 31, 32, 33, 34, 35, 36, 37, 38, 39, 40, 41, 42, 43, 44, 45, 46, 47, 48, 49, 50, 51, 52, 53, 54, 55, 56, 57, 58, 59, 60, 61, 62, 63, 64, 65, 66, 67, 68, 69, 70, 71, 72, 73] (fun u2 => w_U E a u2) ps_U_U_0 (by decide) ad_U pu_U_U_0 rfl rfl (Nat.le_of_ble_eq_true rfl) rfl (fun r1 u2 hv => ?_)
  exact bx_iret C u2 rfl dX7_moves_26 rfl hv
def V_X7_moves_62  (K : Int32 → US → Prop)  (u : US)  : Prop := (V_X7_refuseNo (fun r3 u4 => K r3 u4) u (-3))
set_option maxRecDepth 20000 in
set_option maxHeartbeats 4000000 in
theorem t_X7_moves_62 {a : Nat → Nat} {K : Int32 → US → Prop} (C : bx_C p (rmD 3) S m args meth c cX7_moves 3 yX7_moves.cls (some .int) E A 0 0)   (u : US)  (hv : V_X7_moves_62 K u ) : G_X7_moves p l e S m args below meth c E A a  K 62 [(0, .ref (a 0))] [] (w_U E a u) := by
  unfold V_X7_moves_62 at hv
  refine bx_aload_n C 63 dX7_moves_62 rfl rfl rfl ?_
  refine bx_bipush C (-3) 65 dX7_moves_63 bp_m3 rfl ?_
  refine bx_qVi C 0 at_U_0 rfl 68 fc_X7_119 (k_X7_refuseNo l E a _ _ _ hv) dX7_moves_65 ⟨rfl, rfl, Nat.le_of_ble_eq_true rfl, Nat.le_of_ble_eq_true rfl⟩ [0, 1, 2, 3, 4, 5, 6, 7, 8, 9, 10, 11, 12, 13, 14, 15, 16, 17, 18, 19, 20, 21, 22, 23, 24, 25, 26, 27, 28, 29, 30, 31, 32, 33, 34, 35, 36, 37, 38, 39, 40, 41, 42, 43, 44, 45, 46, 47, 48, 49, 50, 51, 52, 53, 54, 55, 56, 57, 58, 59, 60, 61, 62, 63, 64, 65, 66, 67, 68, 69, 70, 71, 72, 73] (fun u4 => w_U E a u4) ps_U_U_0 (by decide) ad_U pu_U_U_0 rfl rfl (Nat.le_of_ble_eq_true rfl) rfl (fun r3 u4 hv => ?_)
  exact bx_iret C u4 rfl dX7_moves_68 rfl hv
def V_X7_moves  (K : Int32 → US → Prop)  (u : US) (x1 : Int32) (x2 : Int32) : Prop := (V_X0_isSoul (fun r5 => ((r5 = 0 → V_X7_moves_20 K u ) ∧
 (¬ r5 = 0 → (V_X7_within (fun r6 => ((¬ r6 = 0 → (V_X0_sits (fun r7 => ((r7 = 0 → V_X7_moves_62 K u ) ∧
 (¬ r7 = 0 → (V_X0_isFree (fun r8 => ((r8 = 0 → V_X7_moves_62 K u ) ∧
 (¬ r8 = 0 → ((u.1.2.2.2.2.2.2.1 < 9999 → (V_X0_remember (fun u9 => (V_X0_moveTo (fun r10 u11 => K r10 (u11, u.2)) u9 x1 x2)) u.1 )) ∧
 (¬ u.1.2.2.2.2.2.2.1 < 9999 → V_X7_moves_62 K u ))))) u.1 x2)))) u.1 x1)) ∧
 (r6 = 0 → V_X7_moves_20 K u )))  x2 30)))) u.1 x1)
set_option maxRecDepth 20000 in
set_option maxHeartbeats 4000000 in
theorem t_X7_moves_0 {a : Nat → Nat} {K : Int32 → US → Prop} (C : bx_C p (rmD 3) S m args meth c cX7_moves 3 yX7_moves.cls (some .int) E A 0 0)   (u : US) (x1 : Int32) (x2 : Int32) (hv : V_X7_moves K u x1 x2) : G_X7_moves p l e S m args below meth c E A a  K 0 [(0, .ref (a 0)), (1, .int x1), (2, .int x2)] [] (w_U E a u) := by
  unfold V_X7_moves at hv
  refine bx_aload_n C 1 dX7_moves_0 rfl rfl rfl ?_
  refine bx_getf (v := .ref (a 1)) C 4 0 0 inX7 rfl (by decide) fl_X7_10 dX7_moves_1 at_U_0 rfl rfl ?_
  refine bx_iload_n C 5 dX7_moves_4 rfl rfl rfl ?_
  refine bx_pVi C 1 at_U_1 rfl 8 fc_X7_106 (k_X0_isSoul l E (fun k => a (1 + k)) _ _ _ hv) dX7_moves_5 ⟨rfl, rfl, Nat.le_of_ble_eq_true rfl, Nat.le_of_ble_eq_true rfl⟩ [1, 2, 3, 4, 5, 6, 7, 8, 9, 10, 11, 12, 13] ps_U_H_1 (by decide) rfl rfl (Nat.le_of_ble_eq_true rfl) rfl (fun r5 hv => ?_)
  refine bx_if_eq C 20 11 dX7_moves_8 (by decide) rfl (fun h => ?_) (fun h => ?_)
  · replace hv := hv.1 h
    exact bx_cut [0] (w_U E a u) rfl rfl (t_X7_moves_20 C   u  hv)
  · replace hv := hv.2 h
    refine bx_iload_n C 12 dX7_moves_11 rfl rfl rfl ?_
    refine bx_bipush C 30 14 dX7_moves_12 bp_30 rfl ?_
    refine bx_pSi C 17 fc_X7_59 (k_X7_within l E  _ _ _ hv) dX7_moves_14 ⟨rfl, rfl, Nat.le_of_ble_eq_true rfl, Nat.le_of_ble_eq_true rfl⟩ [] rfl (by decide) rfl rfl (Nat.le_of_ble_eq_true rfl) rfl (fun r6 hv => ?_)
    refine bx_if_ne C 27 20 dX7_moves_17 (by decide) rfl (fun h => ?_) (fun h => ?_)
    · replace hv := hv.1 h
      refine bx_aload_n C 28 dX7_moves_27 rfl rfl rfl ?_
      refine bx_getf (v := .ref (a 1)) C 31 0 0 inX7 rfl (by decide) fl_X7_10 dX7_moves_28 at_U_0 rfl rfl ?_
      refine bx_iload_n C 32 dX7_moves_31 rfl rfl rfl ?_
      refine bx_pVi C 1 at_U_1 rfl 35 fc_X7_110 (k_X0_sits l E (fun k => a (1 + k)) _ _ _ hv) dX7_moves_32 ⟨rfl, rfl, Nat.le_of_ble_eq_true rfl, Nat.le_of_ble_eq_true rfl⟩ [1, 2, 3, 4, 5, 6, 7, 8, 9, 10, 11, 12, 13] ps_U_H_1 (by decide) rfl rfl (Nat.le_of_ble_eq_true rfl) rfl (fun r7 hv => ?_)
      refine bx_if_eq C 62 38 dX7_moves_35 (by decide) rfl (fun h => ?_) (fun h => ?_)
      · replace hv := hv.1 h
        exact bx_cut [0] (w_U E a u) rfl rfl (t_X7_moves_62 C   u  hv)
      · replace hv := hv.2 h
        refine bx_aload_n C 39 dX7_moves_38 rfl rfl rfl ?_
        refine bx_getf (v := .ref (a 1)) C 42 0 0 inX7 rfl (by decide) fl_X7_10 dX7_moves_39 at_U_0 rfl rfl ?_
        refine bx_iload_n C 43 dX7_moves_42 rfl rfl rfl ?_
        refine bx_pVi C 1 at_U_1 rfl 46 fc_X7_113 (k_X0_isFree l E (fun k => a (1 + k)) _ _ _ hv) dX7_moves_43 ⟨rfl, rfl, Nat.le_of_ble_eq_true rfl, Nat.le_of_ble_eq_true rfl⟩ [1, 2, 3, 4, 5, 6, 7, 8, 9, 10, 11, 12, 13] ps_U_H_1 (by decide) rfl rfl (Nat.le_of_ble_eq_true rfl) rfl (fun r8 hv => ?_)
        refine bx_if_eq C 62 49 dX7_moves_46 (by decide) rfl (fun h => ?_) (fun h => ?_)
        · replace hv := hv.1 h
          exact bx_cut [0] (w_U E a u) rfl rfl (t_X7_moves_62 C   u  hv)
        · replace hv := hv.2 h
          refine bx_aload_n C 50 dX7_moves_49 rfl rfl rfl ?_
          refine bx_getf (v := .ref (a 1)) C 53 0 0 inX7 rfl (by decide) fl_X7_10 dX7_moves_50 at_U_0 rfl rfl ?_
          refine bx_getf (v := .int u.1.2.2.2.2.2.2.1) C 56 1 6 inX0 rfl (by decide) fl_X7_116 dX7_moves_53 at_U_1 rfl rfl ?_
          refine bx_sipush C 9999 59 dX7_moves_56 sp_9999 rfl ?_
          refine bx_icmp_lt C 69 62 dX7_moves_59 (by decide) rfl (fun h => ?_) (fun h => ?_)
          · replace hv := hv.1 h
            refine bx_aload_n C 70 dX7_moves_69 rfl rfl rfl ?_
            refine bx_getf (v := .ref (a 1)) C 73 0 0 inX7 rfl (by decide) fl_X7_10 dX7_moves_70 at_U_0 rfl rfl ?_
            refine bx_qVv C 1 at_U_1 rfl 76 fc_X7_122 (k_X0_remember l E (fun k => a (1 + k)) _ _ hv) dX7_moves_73 ⟨rfl, rfl, Nat.le_of_ble_eq_true rfl, Nat.le_of_ble_eq_true rfl⟩ [1, 2, 3, 4, 5, 6, 7, 8, 9, 10, 11, 12, 13] (fun u9 => w_U E a (u9, u.2)) ps_U_H_1 (by decide) ad_H pu_U_H_1 rfl rfl (Nat.le_of_ble_eq_true rfl) rfl (fun u9 hv => ?_)
            refine bx_aload_n C 77 dX7_moves_76 rfl rfl rfl ?_
            refine bx_getf (v := .ref (a 1)) C 80 0 0 inX7 rfl (by decide) fl_X7_10 dX7_moves_77 at_U_0 rfl rfl ?_
            refine bx_iload_n C 81 dX7_moves_80 rfl rfl rfl ?_
            refine bx_iload_n C 82 dX7_moves_81 rfl rfl rfl ?_
            refine bx_qVi C 1 at_U_1 rfl 85 fc_X7_128 (k_X0_moveTo l E (fun k => a (1 + k)) _ _ _ _ hv) dX7_moves_82 ⟨rfl, rfl, Nat.le_of_ble_eq_true rfl, Nat.le_of_ble_eq_true rfl⟩ [1, 2, 3, 4, 5, 6, 7, 8, 9, 10, 11, 12, 13] (fun u11 => w_U E a (u11, u.2)) ps_U_H_1 (by decide) ad_H pu_U_H_1 rfl rfl (Nat.le_of_ble_eq_true rfl) rfl (fun r10 u11 hv => ?_)
            exact bx_iret C (u11, u.2) rfl dX7_moves_85 rfl hv
          · replace hv := hv.2 h
            exact bx_cut [0] (w_U E a u) rfl rfl (t_X7_moves_62 C   u  hv)
    · replace hv := hv.2 h
      exact bx_cut [0] (w_U E a u) rfl rfl (t_X7_moves_20 C   u  hv)
theorem k_X7_moves (l : Launch) (E : bx_E) (a : Nat → Nat)  (K : Int32 → US → Prop) (u : US) (x1 : Int32) (x2 : Int32) (hv : V_X7_moves  K u x1 x2) : bx_Mi l E yX7_moves cX7_moves 3 (some .int) (rmD 3) [.ref (a 0), .int x1, .int x2] (fun (u : US) => w_U E a u) u K :=
  bx_meti (by decide +kernel) (Nat.le_of_ble_eq_true rfl) (fun p e S m below meth c C => t_X7_moves_0 C u x1 x2 hv)
abbrev G_X7_sends (p : Program) (l : Launch) (e : Env) (S : State) (m : MethodId) (args : Array Value) (below : List Frame) (meth : Method) (c : Code) (E : bx_E) (A : Nat → Prop) (a : Nat → Nat)  (K : Int32 → US → Prop) (pc : Nat) (lv : List (Nat × Value)) (st : List Value) (ws : va_W) : Prop := bx_S p l e (rmD 3) S m args below meth c 2 E A (MQ below (va_Qi K (fun (u : US) t => bx_B E A (w_U E a u) t) A) args S 0 0 A) 0 0 pc lv st ws
def V_X7_sends_42  (K : Int32 → US → Prop)  (u : US)  : Prop := (V_X7_refuseNo (fun r1 u2 => K r1 u2) u (-3))
set_option maxRecDepth 20000 in
set_option maxHeartbeats 4000000 in
theorem t_X7_sends_42 {a : Nat → Nat} {K : Int32 → US → Prop} (C : bx_C p (rmD 3) S m args meth c cX7_sends 2 yX7_sends.cls (some .int) E A 0 0)   (u : US)  (hv : V_X7_sends_42 K u ) : G_X7_sends p l e S m args below meth c E A a  K 42 [(0, .ref (a 0))] [] (w_U E a u) := by
  unfold V_X7_sends_42 at hv
  refine bx_aload_n C 43 dX7_sends_42 rfl rfl rfl ?_
  refine bx_bipush C (-3) 45 dX7_sends_43 bp_m3 rfl ?_
  refine bx_qVi C 0 at_U_0 rfl 48 fc_X7_119 (k_X7_refuseNo l E a _ _ _ hv) dX7_sends_45 ⟨rfl, rfl, Nat.le_of_ble_eq_true rfl, Nat.le_of_ble_eq_true rfl⟩ [0, 1, 2, 3, 4, 5, 6, 7, 8, 9, 10, 11, 12, 13, 14, 15, 16, 17, 18, 19, 20, 21, 22, 23, 24, 25, 26, 27, 28, 29, 30, 31, 32, 33, 34, 35, 36, 37, 38, 39, 40, 41, 42, 43, 44, 45, 46, 47, 48, 49, 50, 51, 52, 53, 54, 55, 56, 57, 58, 59, 60, 61, 62, 63, 64, 65, 66, 67, 68, 69, 70, 71, 72, 73] (fun u2 => w_U E a u2) ps_U_U_0 (by decide) ad_U pu_U_U_0 rfl rfl (Nat.le_of_ble_eq_true rfl) rfl (fun r1 u2 hv => ?_)
  exact bx_iret C u2 rfl dX7_sends_48 rfl hv
def V_X7_sends  (K : Int32 → US → Prop)  (u : US) (x1 : Int32) : Prop := (V_X0_isSoul (fun r3 => ((¬ r3 = 0 → (V_X0_sits (fun r4 => ((r4 = 0 → V_X7_sends_42 K u ) ∧
 (¬ r4 = 0 → ((u.1.2.2.2.2.2.2.1 < 9999 → (V_X0_remember (fun u5 => (V_X0_sendOut (fun r6 u7 => K r6 (u7, u.2)) u5 x1)) u.1 )) ∧
 (¬ u.1.2.2.2.2.2.2.1 < 9999 → V_X7_sends_42 K u ))))) u.1 x1)) ∧
 (r3 = 0 → (V_X7_refuseBad (fun r8 u9 => K r8 u9) u (-2))))) u.1 x1)
set_option maxRecDepth 20000 in
set_option maxHeartbeats 4000000 in
theorem t_X7_sends_0 {a : Nat → Nat} {K : Int32 → US → Prop} (C : bx_C p (rmD 3) S m args meth c cX7_sends 2 yX7_sends.cls (some .int) E A 0 0)   (u : US) (x1 : Int32) (hv : V_X7_sends K u x1) : G_X7_sends p l e S m args below meth c E A a  K 0 [(0, .ref (a 0)), (1, .int x1)] [] (w_U E a u) := by
  unfold V_X7_sends at hv
  refine bx_aload_n C 1 dX7_sends_0 rfl rfl rfl ?_
  refine bx_getf (v := .ref (a 1)) C 4 0 0 inX7 rfl (by decide) fl_X7_10 dX7_sends_1 at_U_0 rfl rfl ?_
  refine bx_iload_n C 5 dX7_sends_4 rfl rfl rfl ?_
  refine bx_pVi C 1 at_U_1 rfl 8 fc_X7_106 (k_X0_isSoul l E (fun k => a (1 + k)) _ _ _ hv) dX7_sends_5 ⟨rfl, rfl, Nat.le_of_ble_eq_true rfl, Nat.le_of_ble_eq_true rfl⟩ [1, 2, 3, 4, 5, 6, 7, 8, 9, 10, 11, 12, 13] ps_U_H_1 (by decide) rfl rfl (Nat.le_of_ble_eq_true rfl) rfl (fun r3 hv => ?_)
  refine bx_if_ne C 18 11 dX7_sends_8 (by decide) rfl (fun h => ?_) (fun h => ?_)
  · replace hv := hv.1 h
    refine bx_aload_n C 19 dX7_sends_18 rfl rfl rfl ?_
    refine bx_getf (v := .ref (a 1)) C 22 0 0 inX7 rfl (by decide) fl_X7_10 dX7_sends_19 at_U_0 rfl rfl ?_
    refine bx_iload_n C 23 dX7_sends_22 rfl rfl rfl ?_
    refine bx_pVi C 1 at_U_1 rfl 26 fc_X7_110 (k_X0_sits l E (fun k => a (1 + k)) _ _ _ hv) dX7_sends_23 ⟨rfl, rfl, Nat.le_of_ble_eq_true rfl, Nat.le_of_ble_eq_true rfl⟩ [1, 2, 3, 4, 5, 6, 7, 8, 9, 10, 11, 12, 13] ps_U_H_1 (by decide) rfl rfl (Nat.le_of_ble_eq_true rfl) rfl (fun r4 hv => ?_)
    refine bx_if_eq C 42 29 dX7_sends_26 (by decide) rfl (fun h => ?_) (fun h => ?_)
    · replace hv := hv.1 h
      exact bx_cut [0] (w_U E a u) rfl rfl (t_X7_sends_42 C   u  hv)
    · replace hv := hv.2 h
      refine bx_aload_n C 30 dX7_sends_29 rfl rfl rfl ?_
      refine bx_getf (v := .ref (a 1)) C 33 0 0 inX7 rfl (by decide) fl_X7_10 dX7_sends_30 at_U_0 rfl rfl ?_
      refine bx_getf (v := .int u.1.2.2.2.2.2.2.1) C 36 1 6 inX0 rfl (by decide) fl_X7_116 dX7_sends_33 at_U_1 rfl rfl ?_
      refine bx_sipush C 9999 39 dX7_sends_36 sp_9999 rfl ?_
      refine bx_icmp_lt C 49 42 dX7_sends_39 (by decide) rfl (fun h => ?_) (fun h => ?_)
      · replace hv := hv.1 h
        refine bx_aload_n C 50 dX7_sends_49 rfl rfl rfl ?_
        refine bx_getf (v := .ref (a 1)) C 53 0 0 inX7 rfl (by decide) fl_X7_10 dX7_sends_50 at_U_0 rfl rfl ?_
        refine bx_qVv C 1 at_U_1 rfl 56 fc_X7_122 (k_X0_remember l E (fun k => a (1 + k)) _ _ hv) dX7_sends_53 ⟨rfl, rfl, Nat.le_of_ble_eq_true rfl, Nat.le_of_ble_eq_true rfl⟩ [1, 2, 3, 4, 5, 6, 7, 8, 9, 10, 11, 12, 13] (fun u5 => w_U E a (u5, u.2)) ps_U_H_1 (by decide) ad_H pu_U_H_1 rfl rfl (Nat.le_of_ble_eq_true rfl) rfl (fun u5 hv => ?_)
        refine bx_aload_n C 57 dX7_sends_56 rfl rfl rfl ?_
        refine bx_getf (v := .ref (a 1)) C 60 0 0 inX7 rfl (by decide) fl_X7_10 dX7_sends_57 at_U_0 rfl rfl ?_
        refine bx_iload_n C 61 dX7_sends_60 rfl rfl rfl ?_
        refine bx_qVi C 1 at_U_1 rfl 64 fc_X7_131 (k_X0_sendOut l E (fun k => a (1 + k)) _ _ _ hv) dX7_sends_61 ⟨rfl, rfl, Nat.le_of_ble_eq_true rfl, Nat.le_of_ble_eq_true rfl⟩ [1, 2, 3, 4, 5, 6, 7, 8, 9, 10, 11, 12, 13] (fun u7 => w_U E a (u7, u.2)) ps_U_H_1 (by decide) ad_H pu_U_H_1 rfl rfl (Nat.le_of_ble_eq_true rfl) rfl (fun r6 u7 hv => ?_)
        exact bx_iret C (u7, u.2) rfl dX7_sends_64 rfl hv
      · replace hv := hv.2 h
        exact bx_cut [0] (w_U E a u) rfl rfl (t_X7_sends_42 C   u  hv)
  · replace hv := hv.2 h
    refine bx_aload_n C 12 dX7_sends_11 rfl rfl rfl ?_
    refine bx_bipush C (-2) 14 dX7_sends_12 bp_m2 rfl ?_
    refine bx_qVi C 0 at_U_0 rfl 17 fc_X7_63 (k_X7_refuseBad l E a _ _ _ hv) dX7_sends_14 ⟨rfl, rfl, Nat.le_of_ble_eq_true rfl, Nat.le_of_ble_eq_true rfl⟩ [0, 1, 2, 3, 4, 5, 6, 7, 8, 9, 10, 11, 12, 13, 14, 15, 16, 17, 18, 19, 20, 21, 22, 23, 24, 25, 26, 27, 28, 29, 30, 31, 32, 33, 34, 35, 36, 37, 38, 39, 40, 41, 42, 43, 44, 45, 46, 47, 48, 49, 50, 51, 52, 53, 54, 55, 56, 57, 58, 59, 60, 61, 62, 63, 64, 65, 66, 67, 68, 69, 70, 71, 72, 73] (fun u9 => w_U E a u9) ps_U_U_0 (by decide) ad_U pu_U_U_0 rfl rfl (Nat.le_of_ble_eq_true rfl) rfl (fun r8 u9 hv => ?_)
    exact bx_iret C u9 rfl dX7_sends_17 rfl hv
theorem k_X7_sends (l : Launch) (E : bx_E) (a : Nat → Nat)  (K : Int32 → US → Prop) (u : US) (x1 : Int32) (hv : V_X7_sends  K u x1) : bx_Mi l E yX7_sends cX7_sends 2 (some .int) (rmD 3) [.ref (a 0), .int x1] (fun (u : US) => w_U E a u) u K :=
  bx_meti (by decide +kernel) (Nat.le_of_ble_eq_true rfl) (fun p e S m below meth c C => t_X7_sends_0 C u x1 hv)
abbrev G_X7_coat (p : Program) (l : Launch) (e : Env) (S : State) (m : MethodId) (args : Array Value) (below : List Frame) (meth : Method) (c : Code) (E : bx_E) (A : Nat → Prop) (a : Nat → Nat)  (K : Int32 → US → Prop) (pc : Nat) (lv : List (Nat × Value)) (st : List Value) (ws : va_W) : Prop := bx_S p l e (rmD 3) S m args below meth c 3 E A (MQ below (va_Qi K (fun (u : US) t => bx_B E A (w_U E a u) t) A) args S 0 0 A) 0 0 pc lv st ws
def V_X7_coat_17  (K : Int32 → US → Prop)  (u : US)  : Prop := (V_X7_refuseBad (fun r1 u2 => K r1 u2) u (-2))
set_option maxRecDepth 20000 in
set_option maxHeartbeats 4000000 in
theorem t_X7_coat_17 {a : Nat → Nat} {K : Int32 → US → Prop} (C : bx_C p (rmD 3) S m args meth c cX7_coat 3 yX7_coat.cls (some .int) E A 0 0)   (u : US)  (hv : V_X7_coat_17 K u ) : G_X7_coat p l e S m args below meth c E A a  K 17 [(0, .ref (a 0))] [] (w_U E a u) := by
  unfold V_X7_coat_17 at hv
  refine bx_aload_n C 18 dX7_coat_17 rfl rfl rfl ?_
  refine bx_bipush C (-2) 20 dX7_coat_18 bp_m2 rfl ?_
  refine bx_qVi C 0 at_U_0 rfl 23 fc_X7_63 (k_X7_refuseBad l E a _ _ _ hv) dX7_coat_20 ⟨rfl, rfl, Nat.le_of_ble_eq_true rfl, Nat.le_of_ble_eq_true rfl⟩ [0, 1, 2, 3, 4, 5, 6, 7, 8, 9, 10, 11, 12, 13, 14, 15, 16, 17, 18, 19, 20, 21, 22, 23, 24, 25, 26, 27, 28, 29, 30, 31, 32, 33, 34, 35, 36, 37, 38, 39, 40, 41, 42, 43, 44, 45, 46, 47, 48, 49, 50, 51, 52, 53, 54, 55, 56, 57, 58, 59, 60, 61, 62, 63, 64, 65, 66, 67, 68, 69, 70, 71, 72, 73] (fun u2 => w_U E a u2) ps_U_U_0 (by decide) ad_U pu_U_U_0 rfl rfl (Nat.le_of_ble_eq_true rfl) rfl (fun r1 u2 hv => ?_)
  exact bx_iret C u2 rfl dX7_coat_23 rfl hv
def V_X7_coat_57  (K : Int32 → US → Prop)  (u : US)  : Prop := (V_X7_refuseNo (fun r3 u4 => K r3 u4) u (-3))
set_option maxRecDepth 20000 in
set_option maxHeartbeats 4000000 in
theorem t_X7_coat_57 {a : Nat → Nat} {K : Int32 → US → Prop} (C : bx_C p (rmD 3) S m args meth c cX7_coat 3 yX7_coat.cls (some .int) E A 0 0)   (u : US)  (hv : V_X7_coat_57 K u ) : G_X7_coat p l e S m args below meth c E A a  K 57 [(0, .ref (a 0))] [] (w_U E a u) := by
  unfold V_X7_coat_57 at hv
  refine bx_aload_n C 58 dX7_coat_57 rfl rfl rfl ?_
  refine bx_bipush C (-3) 60 dX7_coat_58 bp_m3 rfl ?_
  refine bx_qVi C 0 at_U_0 rfl 63 fc_X7_119 (k_X7_refuseNo l E a _ _ _ hv) dX7_coat_60 ⟨rfl, rfl, Nat.le_of_ble_eq_true rfl, Nat.le_of_ble_eq_true rfl⟩ [0, 1, 2, 3, 4, 5, 6, 7, 8, 9, 10, 11, 12, 13, 14, 15, 16, 17, 18, 19, 20, 21, 22, 23, 24, 25, 26, 27, 28, 29, 30, 31, 32, 33, 34, 35, 36, 37, 38, 39, 40, 41, 42, 43, 44, 45, 46, 47, 48, 49, 50, 51, 52, 53, 54, 55, 56, 57, 58, 59, 60, 61, 62, 63, 64, 65, 66, 67, 68, 69, 70, 71, 72, 73] (fun u4 => w_U E a u4) ps_U_U_0 (by decide) ad_U pu_U_U_0 rfl rfl (Nat.le_of_ble_eq_true rfl) rfl (fun r3 u4 hv => ?_)
  exact bx_iret C u4 rfl dX7_coat_63 rfl hv
def V_X7_coat_42  (K : Int32 → US → Prop)  (u : US) (x1 : Int32) (z0 : Int32) (z1 : Int32) : Prop := ((z0 = z1 → V_X7_coat_57 K u ) ∧
 (¬ z0 = z1 → (V_X0_sitterAt (fun r5 => ((r5 = (-1) → (V_X0_remember (fun u6 => K 1 ((u6.1, u6.2.1, u6.2.2.1, u6.2.2.2.1, u6.2.2.2.2.1, (u6.2.2.2.2.2.1 ^^^ (1 <<< (x1 &&& 31))), u6.2.2.2.2.2.2), u.2)) u.1 )) ∧
 (¬ r5 = (-1) → V_X7_coat_57 K u ))) u.1 x1)))
set_option maxRecDepth 20000 in
set_option maxHeartbeats 4000000 in
theorem t_X7_coat_42 {a : Nat → Nat} {K : Int32 → US → Prop} (C : bx_C p (rmD 3) S m args meth c cX7_coat 3 yX7_coat.cls (some .int) E A 0 0)   (u : US) (x1 : Int32) (z0 : Int32) (z1 : Int32) (hv : V_X7_coat_42 K u x1 z0 z1) : G_X7_coat p l e S m args below meth c E A a  K 42 [(0, .ref (a 0)), (1, .int x1)] [.int z1, .int z0] (w_U E a u) := by
  unfold V_X7_coat_42 at hv
  refine bx_icmp_eq C 57 45 dX7_coat_42 (by decide) rfl (fun h => ?_) (fun h => ?_)
  · replace hv := hv.1 h
    exact bx_cut [0] (w_U E a u) rfl rfl (t_X7_coat_57 C   u  hv)
  · replace hv := hv.2 h
    refine bx_aload_n C 46 dX7_coat_45 rfl rfl rfl ?_
    refine bx_getf (v := .ref (a 1)) C 49 0 0 inX7 rfl (by decide) fl_X7_10 dX7_coat_46 at_U_0 rfl rfl ?_
    refine bx_iload_n C 50 dX7_coat_49 rfl rfl rfl ?_
    refine bx_pVi C 1 at_U_1 rfl 53 fc_X7_137 (k_X0_sitterAt l E (fun k => a (1 + k)) _ _ _ hv) dX7_coat_50 ⟨rfl, rfl, Nat.le_of_ble_eq_true rfl, Nat.le_of_ble_eq_true rfl⟩ [1, 2, 3, 4, 5, 6, 7, 8, 9, 10, 11, 12, 13] ps_U_H_1 (by decide) rfl rfl (Nat.le_of_ble_eq_true rfl) rfl (fun r5 hv => ?_)
    refine bx_iconst C (-1) 54 dX7_coat_53 ic_m1 rfl ?_
    refine bx_icmp_eq C 64 57 dX7_coat_54 (by decide) rfl (fun h => ?_) (fun h => ?_)
    · replace hv := hv.1 h
      refine bx_aload_n C 65 dX7_coat_64 rfl rfl rfl ?_
      refine bx_getf (v := .ref (a 1)) C 68 0 0 inX7 rfl (by decide) fl_X7_10 dX7_coat_65 at_U_0 rfl rfl ?_
      refine bx_qVv C 1 at_U_1 rfl 71 fc_X7_122 (k_X0_remember l E (fun k => a (1 + k)) _ _ hv) dX7_coat_68 ⟨rfl, rfl, Nat.le_of_ble_eq_true rfl, Nat.le_of_ble_eq_true rfl⟩ [1, 2, 3, 4, 5, 6, 7, 8, 9, 10, 11, 12, 13] (fun u6 => w_U E a (u6, u.2)) ps_U_H_1 (by decide) ad_H pu_U_H_1 rfl rfl (Nat.le_of_ble_eq_true rfl) rfl (fun u6 hv => ?_)
      refine bx_aload_n C 72 dX7_coat_71 rfl rfl rfl ?_
      refine bx_getf (v := .ref (a 1)) C 75 0 0 inX7 rfl (by decide) fl_X7_10 dX7_coat_72 at_U_0 rfl rfl ?_
      refine bx_dup C 76 dX7_coat_75 rfl rfl ?_
      refine bx_getf (v := .int u6.2.2.2.2.2.1) C 79 1 5 inX0 rfl (by decide) fl_X7_140 dX7_coat_76 at_U_1 rfl rfl ?_
      refine bx_iconst C 1 80 dX7_coat_79 ic_1 rfl ?_
      refine bx_iload_n C 81 dX7_coat_80 rfl rfl rfl ?_
      refine bx_ishl C 82 dX7_coat_81 rfl ?_
      refine bx_ixor C 83 dX7_coat_82 rfl ?_
      refine bx_putf C 86 1 5 (w_U E a ((u6.1, u6.2.1, u6.2.2.1, u6.2.2.2.1, u6.2.2.2.2.1, (u6.2.2.2.2.2.1 ^^^ (1 <<< (x1 &&& 31))), u6.2.2.2.2.2.2), u.2)) inX0 tyX0 tyX0_ok nmX0 rfl (by decide) fl_X7_140 rfl dX7_coat_83 rfl rfl rfl (Nat.le_of_ble_eq_true rfl) rfl rfl ?_
      refine bx_iconst C 1 87 dX7_coat_86 ic_1 rfl ?_
      exact bx_iret C ((u6.1, u6.2.1, u6.2.2.1, u6.2.2.2.1, u6.2.2.2.2.1, (u6.2.2.2.2.2.1 ^^^ (1 <<< (x1 &&& 31))), u6.2.2.2.2.2.2), u.2) rfl dX7_coat_87 rfl hv
    · replace hv := hv.2 h
      exact bx_cut [0] (w_U E a u) rfl rfl (t_X7_coat_57 C   u  hv)
def V_X7_coat  (K : Int32 → US → Prop)  (u : US) (x1 : Int32) (x2 : Int32) : Prop := (V_X7_within (fun r7 => ((r7 = 0 → V_X7_coat_17 K u ) ∧
 (¬ r7 = 0 → (V_X7_within (fun r8 => ((¬ r8 = 0 → (V_X0_hasCoat (fun r9 => ((¬ x2 = 1 → V_X7_coat_42 K u x1 r9 0) ∧
 (x2 = 1 → V_X7_coat_42 K u x1 r9 1))) u.1 x1)) ∧
 (r8 = 0 → V_X7_coat_17 K u )))  x2 2))))  x1 30)
set_option maxRecDepth 20000 in
set_option maxHeartbeats 4000000 in
theorem t_X7_coat_0 {a : Nat → Nat} {K : Int32 → US → Prop} (C : bx_C p (rmD 3) S m args meth c cX7_coat 3 yX7_coat.cls (some .int) E A 0 0)   (u : US) (x1 : Int32) (x2 : Int32) (hv : V_X7_coat K u x1 x2) : G_X7_coat p l e S m args below meth c E A a  K 0 [(0, .ref (a 0)), (1, .int x1), (2, .int x2)] [] (w_U E a u) := by
  unfold V_X7_coat at hv
  refine bx_iload_n C 1 dX7_coat_0 rfl rfl rfl ?_
  refine bx_bipush C 30 3 dX7_coat_1 bp_30 rfl ?_
  refine bx_pSi C 6 fc_X7_59 (k_X7_within l E  _ _ _ hv) dX7_coat_3 ⟨rfl, rfl, Nat.le_of_ble_eq_true rfl, Nat.le_of_ble_eq_true rfl⟩ [] rfl (by decide) rfl rfl (Nat.le_of_ble_eq_true rfl) rfl (fun r7 hv => ?_)
  refine bx_if_eq C 17 9 dX7_coat_6 (by decide) rfl (fun h => ?_) (fun h => ?_)
  · replace hv := hv.1 h
    exact bx_cut [0] (w_U E a u) rfl rfl (t_X7_coat_17 C   u  hv)
  · replace hv := hv.2 h
    refine bx_iload_n C 10 dX7_coat_9 rfl rfl rfl ?_
    refine bx_iconst C 2 11 dX7_coat_10 ic_2 rfl ?_
    refine bx_pSi C 14 fc_X7_59 (k_X7_within l E  _ _ _ hv) dX7_coat_11 ⟨rfl, rfl, Nat.le_of_ble_eq_true rfl, Nat.le_of_ble_eq_true rfl⟩ [] rfl (by decide) rfl rfl (Nat.le_of_ble_eq_true rfl) rfl (fun r8 hv => ?_)
    refine bx_if_ne C 24 17 dX7_coat_14 (by decide) rfl (fun h => ?_) (fun h => ?_)
    · replace hv := hv.1 h
      refine bx_aload_n C 25 dX7_coat_24 rfl rfl rfl ?_
      refine bx_getf (v := .ref (a 1)) C 28 0 0 inX7 rfl (by decide) fl_X7_10 dX7_coat_25 at_U_0 rfl rfl ?_
      refine bx_iload_n C 29 dX7_coat_28 rfl rfl rfl ?_
      refine bx_pVi C 1 at_U_1 rfl 32 fc_X7_134 (k_X0_hasCoat l E (fun k => a (1 + k)) _ _ _ hv) dX7_coat_29 ⟨rfl, rfl, Nat.le_of_ble_eq_true rfl, Nat.le_of_ble_eq_true rfl⟩ [1, 2, 3, 4, 5, 6, 7, 8, 9, 10, 11, 12, 13] ps_U_H_1 (by decide) rfl rfl (Nat.le_of_ble_eq_true rfl) rfl (fun r9 hv => ?_)
      refine bx_iload_n C 33 dX7_coat_32 rfl rfl rfl ?_
      refine bx_iconst C 1 34 dX7_coat_33 ic_1 rfl ?_
      refine bx_icmp_ne C 41 37 dX7_coat_34 (by decide) rfl (fun h => ?_) (fun h => ?_)
      · replace hv := hv.1 h
        refine bx_iconst C 0 42 dX7_coat_41 ic_0 rfl ?_
        exact bx_cut [0, 1] (w_U E a u) rfl rfl (t_X7_coat_42 C   u x1 r9 0 hv)
      · replace hv := hv.2 h
        refine bx_iconst C 1 38 dX7_coat_37 ic_1 rfl ?_
        refine bx_goto C 42 dX7_coat_38 (by decide) ?_
        exact bx_cut [0, 1] (w_U E a u) rfl rfl (t_X7_coat_42 C   u x1 r9 1 hv)
    · replace hv := hv.2 h
      exact bx_cut [0] (w_U E a u) rfl rfl (t_X7_coat_17 C   u  hv)
theorem k_X7_coat (l : Launch) (E : bx_E) (a : Nat → Nat)  (K : Int32 → US → Prop) (u : US) (x1 : Int32) (x2 : Int32) (hv : V_X7_coat  K u x1 x2) : bx_Mi l E yX7_coat cX7_coat 3 (some .int) (rmD 3) [.ref (a 0), .int x1, .int x2] (fun (u : US) => w_U E a u) u K :=
  bx_meti (by decide +kernel) (Nat.le_of_ble_eq_true rfl) (fun p e S m below meth c C => t_X7_coat_0 C u x1 x2 hv)
abbrev G_X7_minutes (p : Program) (l : Launch) (e : Env) (S : State) (m : MethodId) (args : Array Value) (below : List Frame) (meth : Method) (c : Code) (E : bx_E) (A : Nat → Prop) (a : Nat → Nat)  (K : Int32 → US → Prop) (pc : Nat) (lv : List (Nat × Value)) (st : List Value) (ws : va_W) : Prop := bx_S p l e (rmD 3) S m args below meth c 2 E A (MQ below (va_Qi K (fun (u : US) t => bx_B E A (w_U E a u) t) A) args S 0 0 A) 0 0 pc lv st ws
def V_X7_minutes_11  (K : Int32 → US → Prop)  (u : US)  : Prop := (V_X7_refuseBad (fun r1 u2 => K r1 u2) u (-2))
set_option maxRecDepth 20000 in
set_option maxHeartbeats 4000000 in
theorem t_X7_minutes_11 {a : Nat → Nat} {K : Int32 → US → Prop} (C : bx_C p (rmD 3) S m args meth c cX7_minutes 2 yX7_minutes.cls (some .int) E A 0 0)   (u : US)  (hv : V_X7_minutes_11 K u ) : G_X7_minutes p l e S m args below meth c E A a  K 11 [(0, .ref (a 0))] [] (w_U E a u) := by
  unfold V_X7_minutes_11 at hv
  refine bx_aload_n C 12 dX7_minutes_11 rfl rfl rfl ?_
  refine bx_bipush C (-2) 14 dX7_minutes_12 bp_m2 rfl ?_
  refine bx_qVi C 0 at_U_0 rfl 17 fc_X7_63 (k_X7_refuseBad l E a _ _ _ hv) dX7_minutes_14 ⟨rfl, rfl, Nat.le_of_ble_eq_true rfl, Nat.le_of_ble_eq_true rfl⟩ [0, 1, 2, 3, 4, 5, 6, 7, 8, 9, 10, 11, 12, 13, 14, 15, 16, 17, 18, 19, 20, 21, 22, 23, 24, 25, 26, 27, 28, 29, 30, 31, 32, 33, 34, 35, 36, 37, 38, 39, 40, 41, 42, 43, 44, 45, 46, 47, 48, 49, 50, 51, 52, 53, 54, 55, 56, 57, 58, 59, 60, 61, 62, 63, 64, 65, 66, 67, 68, 69, 70, 71, 72, 73] (fun u2 => w_U E a u2) ps_U_U_0 (by decide) ad_U pu_U_U_0 rfl rfl (Nat.le_of_ble_eq_true rfl) rfl (fun r1 u2 hv => ?_)
  exact bx_iret C u2 rfl dX7_minutes_17 rfl hv
def V_X7_minutes  (K : Int32 → US → Prop)  (u : US) (x1 : Int32) : Prop := ((x1 < 1 → V_X7_minutes_11 K u ) ∧
 (¬ x1 < 1 → ((x1 ≤ 99 → (V_X0_remember (fun u3 => K (if (u3.2.2.2.2.2.2.1 + x1) < 9999 then (u3.2.2.2.2.2.2.1 + x1) else 9999) ((u3.1, u3.2.1, u3.2.2.1, u3.2.2.2.1, u3.2.2.2.2.1, u3.2.2.2.2.2.1, (if (u3.2.2.2.2.2.2.1 + x1) < 9999 then (u3.2.2.2.2.2.2.1 + x1) else 9999), u3.2.2.2.2.2.2.2), u.2)) u.1 )) ∧
 (¬ x1 ≤ 99 → V_X7_minutes_11 K u ))))
set_option maxRecDepth 20000 in
set_option maxHeartbeats 4000000 in
theorem t_X7_minutes_0 {a : Nat → Nat} {K : Int32 → US → Prop} (C : bx_C p (rmD 3) S m args meth c cX7_minutes 2 yX7_minutes.cls (some .int) E A 0 0)   (u : US) (x1 : Int32) (hv : V_X7_minutes K u x1) : G_X7_minutes p l e S m args below meth c E A a  K 0 [(0, .ref (a 0)), (1, .int x1)] [] (w_U E a u) := by
  unfold V_X7_minutes at hv
  refine bx_iload_n C 1 dX7_minutes_0 rfl rfl rfl ?_
  refine bx_iconst C 1 2 dX7_minutes_1 ic_1 rfl ?_
  refine bx_icmp_lt C 11 5 dX7_minutes_2 (by decide) rfl (fun h => ?_) (fun h => ?_)
  · replace hv := hv.1 h
    exact bx_cut [0] (w_U E a u) rfl rfl (t_X7_minutes_11 C   u  hv)
  · replace hv := hv.2 h
    refine bx_iload_n C 6 dX7_minutes_5 rfl rfl rfl ?_
    refine bx_bipush C 99 8 dX7_minutes_6 bp_99 rfl ?_
    refine bx_icmp_le C 18 11 dX7_minutes_8 (by decide) rfl (fun h => ?_) (fun h => ?_)
    · replace hv := hv.1 h
      refine bx_aload_n C 19 dX7_minutes_18 rfl rfl rfl ?_
      refine bx_getf (v := .ref (a 1)) C 22 0 0 inX7 rfl (by decide) fl_X7_10 dX7_minutes_19 at_U_0 rfl rfl ?_
      refine bx_qVv C 1 at_U_1 rfl 25 fc_X7_122 (k_X0_remember l E (fun k => a (1 + k)) _ _ hv) dX7_minutes_22 ⟨rfl, rfl, Nat.le_of_ble_eq_true rfl, Nat.le_of_ble_eq_true rfl⟩ [1, 2, 3, 4, 5, 6, 7, 8, 9, 10, 11, 12, 13] (fun u3 => w_U E a (u3, u.2)) ps_U_H_1 (by decide) ad_H pu_U_H_1 rfl rfl (Nat.le_of_ble_eq_true rfl) rfl (fun u3 hv => ?_)
      refine bx_aload_n C 26 dX7_minutes_25 rfl rfl rfl ?_
      refine bx_getf (v := .ref (a 1)) C 29 0 0 inX7 rfl (by decide) fl_X7_10 dX7_minutes_26 at_U_0 rfl rfl ?_
      refine bx_sipush C 9999 32 dX7_minutes_29 sp_9999 rfl ?_
      refine bx_aload_n C 33 dX7_minutes_32 rfl rfl rfl ?_
      refine bx_getf (v := .ref (a 1)) C 36 0 0 inX7 rfl (by decide) fl_X7_10 dX7_minutes_33 at_U_0 rfl rfl ?_
      refine bx_getf (v := .int u3.2.2.2.2.2.2.1) C 39 1 6 inX0 rfl (by decide) fl_X7_116 dX7_minutes_36 at_U_1 rfl rfl ?_
      refine bx_iload_n C 40 dX7_minutes_39 rfl rfl rfl ?_
      refine bx_iadd C 41 dX7_minutes_40 rfl ?_
      refine bx_mmin C 44 fm_X7_143 dX7_minutes_41 ⟨Nat.le_of_ble_eq_true rfl, Nat.le_of_ble_eq_true rfl⟩ (Nat.le_of_ble_eq_true rfl) rfl ?_
      refine bx_putf C 47 1 6 (w_U E a ((u3.1, u3.2.1, u3.2.2.1, u3.2.2.2.1, u3.2.2.2.2.1, u3.2.2.2.2.2.1, (if (u3.2.2.2.2.2.2.1 + x1) < 9999 then (u3.2.2.2.2.2.2.1 + x1) else 9999), u3.2.2.2.2.2.2.2), u.2)) inX0 tyX0 tyX0_ok nmX0 rfl (by decide) fl_X7_116 rfl dX7_minutes_44 rfl rfl rfl (Nat.le_of_ble_eq_true rfl) rfl rfl ?_
      refine bx_aload_n C 48 dX7_minutes_47 rfl rfl rfl ?_
      refine bx_getf (v := .ref (a 1)) C 51 0 0 inX7 rfl (by decide) fl_X7_10 dX7_minutes_48 at_U_0 rfl rfl ?_
      refine bx_getf (v := .int (if (u3.2.2.2.2.2.2.1 + x1) < 9999 then (u3.2.2.2.2.2.2.1 + x1) else 9999)) C 54 1 6 inX0 rfl (by decide) fl_X7_116 dX7_minutes_51 at_U_1 rfl rfl ?_
      exact bx_iret C ((u3.1, u3.2.1, u3.2.2.1, u3.2.2.2.1, u3.2.2.2.2.1, u3.2.2.2.2.2.1, (if (u3.2.2.2.2.2.2.1 + x1) < 9999 then (u3.2.2.2.2.2.2.1 + x1) else 9999), u3.2.2.2.2.2.2.2), u.2) rfl dX7_minutes_54 rfl hv
    · replace hv := hv.2 h
      exact bx_cut [0] (w_U E a u) rfl rfl (t_X7_minutes_11 C   u  hv)
theorem k_X7_minutes (l : Launch) (E : bx_E) (a : Nat → Nat)  (K : Int32 → US → Prop) (u : US) (x1 : Int32) (hv : V_X7_minutes  K u x1) : bx_Mi l E yX7_minutes cX7_minutes 2 (some .int) (rmD 3) [.ref (a 0), .int x1] (fun (u : US) => w_U E a u) u K :=
  bx_meti (by decide +kernel) (Nat.le_of_ble_eq_true rfl) (fun p e S m below meth c C => t_X7_minutes_0 C u x1 hv)
abbrev G_X7_undo (p : Program) (l : Launch) (e : Env) (S : State) (m : MethodId) (args : Array Value) (below : List Frame) (meth : Method) (c : Code) (E : bx_E) (A : Nat → Prop) (a : Nat → Nat)  (K : Int32 → US → Prop) (pc : Nat) (lv : List (Nat × Value)) (st : List Value) (ws : va_W) : Prop := bx_S p l e (rmD 3) S m args below meth c 1 E A (MQ below (va_Qi K (fun (u : US) t => bx_B E A (w_U E a u) t) A) args S 0 0 A) 0 0 pc lv st ws
def V_X7_undo  (K : Int32 → US → Prop)  (u : US)  : Prop := ((¬ u.1.2.2.2.2.2.2.2.2.2.2.2.2 = 0 → (V_X0_goBack (fun u1 => K u1.2.2.2.2.2.2.1 (u1, u.2)) u.1 )) ∧
 (u.1.2.2.2.2.2.2.2.2.2.2.2.2 = 0 → (V_X7_refuseNo (fun r2 u3 => K r2 u3) u (-3))))
set_option maxRecDepth 20000 in
set_option maxHeartbeats 4000000 in
theorem t_X7_undo_0 {a : Nat → Nat} {K : Int32 → US → Prop} (C : bx_C p (rmD 3) S m args meth c cX7_undo 1 yX7_undo.cls (some .int) E A 0 0)   (u : US)  (hv : V_X7_undo K u ) : G_X7_undo p l e S m args below meth c E A a  K 0 [(0, .ref (a 0))] [] (w_U E a u) := by
  unfold V_X7_undo at hv
  refine bx_aload_n C 1 dX7_undo_0 rfl rfl rfl ?_
  refine bx_getf (v := .ref (a 1)) C 4 0 0 inX7 rfl (by decide) fl_X7_10 dX7_undo_1 at_U_0 rfl rfl ?_
  refine bx_getf (v := .ref (a 12)) C 7 1 11 inX0 rfl (by decide) fl_X7_71 dX7_undo_4 at_U_1 rfl rfl ?_
  refine bx_getf (v := .int u.1.2.2.2.2.2.2.2.2.2.2.2.2) C 10 12 3 inX4 rfl (by decide) fl_X7_148 dX7_undo_7 at_U_12 rfl rfl ?_
  refine bx_if_ne C 20 13 dX7_undo_10 (by decide) rfl (fun h => ?_) (fun h => ?_)
  · replace hv := hv.1 h
    refine bx_aload_n C 21 dX7_undo_20 rfl rfl rfl ?_
    refine bx_getf (v := .ref (a 1)) C 24 0 0 inX7 rfl (by decide) fl_X7_10 dX7_undo_21 at_U_0 rfl rfl ?_
    refine bx_qVv C 1 at_U_1 rfl 27 fc_X7_151 (k_X0_goBack l E (fun k => a (1 + k)) _ _ hv) dX7_undo_24 ⟨rfl, rfl, Nat.le_of_ble_eq_true rfl, Nat.le_of_ble_eq_true rfl⟩ [1, 2, 3, 4, 5, 6, 7, 8, 9, 10, 11, 12, 13] (fun u1 => w_U E a (u1, u.2)) ps_U_H_1 (by decide) ad_H pu_U_H_1 rfl rfl (Nat.le_of_ble_eq_true rfl) rfl (fun u1 hv => ?_)
    refine bx_aload_n C 28 dX7_undo_27 rfl rfl rfl ?_
    refine bx_getf (v := .ref (a 1)) C 31 0 0 inX7 rfl (by decide) fl_X7_10 dX7_undo_28 at_U_0 rfl rfl ?_
    refine bx_getf (v := .int u1.2.2.2.2.2.2.1) C 34 1 6 inX0 rfl (by decide) fl_X7_116 dX7_undo_31 at_U_1 rfl rfl ?_
    exact bx_iret C (u1, u.2) rfl dX7_undo_34 rfl hv
  · replace hv := hv.2 h
    refine bx_aload_n C 14 dX7_undo_13 rfl rfl rfl ?_
    refine bx_bipush C (-3) 16 dX7_undo_14 bp_m3 rfl ?_
    refine bx_qVi C 0 at_U_0 rfl 19 fc_X7_119 (k_X7_refuseNo l E a _ _ _ hv) dX7_undo_16 ⟨rfl, rfl, Nat.le_of_ble_eq_true rfl, Nat.le_of_ble_eq_true rfl⟩ [0, 1, 2, 3, 4, 5, 6, 7, 8, 9, 10, 11, 12, 13, 14, 15, 16, 17, 18, 19, 20, 21, 22, 23, 24, 25, 26, 27, 28, 29, 30, 31, 32, 33, 34, 35, 36, 37, 38, 39, 40, 41, 42, 43, 44, 45, 46, 47, 48, 49, 50, 51, 52, 53, 54, 55, 56, 57, 58, 59, 60, 61, 62, 63, 64, 65, 66, 67, 68, 69, 70, 71, 72, 73] (fun u3 => w_U E a u3) ps_U_U_0 (by decide) ad_U pu_U_U_0 rfl rfl (Nat.le_of_ble_eq_true rfl) rfl (fun r2 u3 hv => ?_)
    exact bx_iret C u3 rfl dX7_undo_19 rfl hv
theorem k_X7_undo (l : Launch) (E : bx_E) (a : Nat → Nat)  (K : Int32 → US → Prop) (u : US)  (hv : V_X7_undo  K u ) : bx_Mi l E yX7_undo cX7_undo 1 (some .int) (rmD 3) [.ref (a 0)] (fun (u : US) => w_U E a u) u K :=
  bx_meti (by decide +kernel) (Nat.le_of_ble_eq_true rfl) (fun p e S m below meth c C => t_X7_undo_0 C u  hv)
abbrev G_X7_of (p : Program) (l : Launch) (e : Env) (S : State) (m : MethodId) (args : Array Value) (below : List Frame) (meth : Method) (c : Code) (E : bx_E) (A : Nat → Prop) (a : Nat → Nat)  (K : Int32 → US → Prop) (pc : Nat) (lv : List (Nat × Value)) (st : List Value) (ws : va_W) : Prop := bx_S p l e (rmD 2) S m args below meth c 3 E A (MQ below (va_Qi K (fun (u : US) t => bx_B E A (w_U E a u) t) A) args S 0 0 A) 0 0 pc lv st ws
def V_X7_of_19  (K : Int32 → US → Prop)  (u : US)  : Prop := (V_X7_refuseBad (fun r1 u2 => K r1 u2) u (-2))
set_option maxRecDepth 20000 in
set_option maxHeartbeats 4000000 in
theorem t_X7_of_19 {a : Nat → Nat} {K : Int32 → US → Prop} (C : bx_C p (rmD 2) S m args meth c cX7_of 3 yX7_of.cls (some .int) E A 0 0)   (u : US)  (hv : V_X7_of_19 K u ) : G_X7_of p l e S m args below meth c E A a  K 19 [(0, .ref (a 0))] [] (w_U E a u) := by
  unfold V_X7_of_19 at hv
  refine bx_aload_n C 20 dX7_of_19 rfl rfl rfl ?_
  refine bx_bipush C (-2) 22 dX7_of_20 bp_m2 rfl ?_
  refine bx_qVi C 0 at_U_0 rfl 25 fc_X7_63 (k_X7_refuseBad l E a _ _ _ hv) dX7_of_22 ⟨rfl, rfl, Nat.le_of_ble_eq_true rfl, Nat.le_of_ble_eq_true rfl⟩ [0, 1, 2, 3, 4, 5, 6, 7, 8, 9, 10, 11, 12, 13, 14, 15, 16, 17, 18, 19, 20, 21, 22, 23, 24, 25, 26, 27, 28, 29, 30, 31, 32, 33, 34, 35, 36, 37, 38, 39, 40, 41, 42, 43, 44, 45, 46, 47, 48, 49, 50, 51, 52, 53, 54, 55, 56, 57, 58, 59, 60, 61, 62, 63, 64, 65, 66, 67, 68, 69, 70, 71, 72, 73] (fun u2 => w_U E a u2) ps_U_U_0 (by decide) ad_U pu_U_U_0 rfl rfl (Nat.le_of_ble_eq_true rfl) rfl (fun r1 u2 hv => ?_)
  exact bx_iret C u2 rfl dX7_of_25 rfl hv
def V_X7_of  (K : Int32 → US → Prop)  (u : US) (x1 : Int32) (x2 : Int32) : Prop := (V_X0_isSoul (fun r3 => ((r3 = 0 → V_X7_of_19 K u ) ∧
 (¬ r3 = 0 → (V_X7_within (fun r4 => ((¬ r4 = 0 → ((x2 = 0 → (vp_in x1 7 ∧ K (u.1.2.1 (x1 : Int32).toNatClampNeg) u)) ∧
 (x2 = 1 → (vp_in x1 7 ∧ K (u.1.2.2.1 (x1 : Int32).toNatClampNeg) u)) ∧
 (¬ x2 = 0 ∧ ¬ x2 = 1 → (vp_in x1 7 ∧ K (u.1.2.2.2.1 (x1 : Int32).toNatClampNeg) u)))) ∧
 (r4 = 0 → V_X7_of_19 K u )))  x2 3)))) u.1 x1)
set_option maxRecDepth 20000 in
set_option maxHeartbeats 4000000 in
theorem t_X7_of_0 {a : Nat → Nat} {K : Int32 → US → Prop} (C : bx_C p (rmD 2) S m args meth c cX7_of 3 yX7_of.cls (some .int) E A 0 0)   (u : US) (x1 : Int32) (x2 : Int32) (hv : V_X7_of K u x1 x2) : G_X7_of p l e S m args below meth c E A a  K 0 [(0, .ref (a 0)), (1, .int x1), (2, .int x2)] [] (w_U E a u) := by
  unfold V_X7_of at hv
  refine bx_aload_n C 1 dX7_of_0 rfl rfl rfl ?_
  refine bx_getf (v := .ref (a 1)) C 4 0 0 inX7 rfl (by decide) fl_X7_10 dX7_of_1 at_U_0 rfl rfl ?_
  refine bx_iload_n C 5 dX7_of_4 rfl rfl rfl ?_
  refine bx_pVi C 1 at_U_1 rfl 8 fc_X7_106 (k_X0_isSoul l E (fun k => a (1 + k)) _ _ _ hv) dX7_of_5 ⟨rfl, rfl, Nat.le_of_ble_eq_true rfl, Nat.le_of_ble_eq_true rfl⟩ [1, 2, 3, 4, 5, 6, 7, 8, 9, 10, 11, 12, 13] ps_U_H_1 (by decide) rfl rfl (Nat.le_of_ble_eq_true rfl) rfl (fun r3 hv => ?_)
  refine bx_if_eq C 19 11 dX7_of_8 (by decide) rfl (fun h => ?_) (fun h => ?_)
  · replace hv := hv.1 h
    exact bx_cut [0] (w_U E a u) rfl rfl (t_X7_of_19 C   u  hv)
  · replace hv := hv.2 h
    refine bx_iload_n C 12 dX7_of_11 rfl rfl rfl ?_
    refine bx_iconst C 3 13 dX7_of_12 ic_3 rfl ?_
    refine bx_pSi C 16 fc_X7_59 (k_X7_within l E  _ _ _ hv) dX7_of_13 ⟨rfl, rfl, Nat.le_of_ble_eq_true rfl, Nat.le_of_ble_eq_true rfl⟩ [] rfl (by decide) rfl rfl (Nat.le_of_ble_eq_true rfl) rfl (fun r4 hv => ?_)
    refine bx_if_ne C 26 19 dX7_of_16 (by decide) rfl (fun h => ?_) (fun h => ?_)
    · replace hv := hv.1 h
      refine bx_iload_n C 27 dX7_of_26 rfl rfl rfl ?_
      by_cases h0 : x2 = 0
      · replace hv := hv.1 h0
        refine bx_lin C 52 0 dX7_of_27 h0 rfl (off := 25) (by decide) (by decide) ?_
        refine bx_aload_n C 53 dX7_of_52 rfl rfl rfl ?_
        refine bx_getf (v := .ref (a 1)) C 56 0 0 inX7 rfl (by decide) fl_X7_10 dX7_of_53 at_U_0 rfl rfl ?_
        refine bx_getf (v := .ref (a 3)) C 59 1 1 inX0 rfl (by decide) fl_X7_154 dX7_of_56 at_U_1 rfl rfl ?_
        refine bx_iload_n C 60 dX7_of_59 rfl rfl rfl ?_
        refine bx_iald (f := u.1.2.1) C 61 3 dX7_of_60 at_U_3 hv.1 rfl ?_
        replace hv := hv.2
        exact bx_iret C u rfl dX7_of_61 rfl hv
      by_cases h1 : x2 = 1
      · replace hv := hv.2.1 h1
        refine bx_lin C 62 1 dX7_of_27 h1 rfl (off := 35) (by decide) (by decide) ?_
        refine bx_aload_n C 63 dX7_of_62 rfl rfl rfl ?_
        refine bx_getf (v := .ref (a 1)) C 66 0 0 inX7 rfl (by decide) fl_X7_10 dX7_of_63 at_U_0 rfl rfl ?_
        refine bx_getf (v := .ref (a 4)) C 69 1 2 inX0 rfl (by decide) fl_X7_157 dX7_of_66 at_U_1 rfl rfl ?_
        refine bx_iload_n C 70 dX7_of_69 rfl rfl rfl ?_
        refine bx_iald (f := u.1.2.2.1) C 71 4 dX7_of_70 at_U_4 hv.1 rfl ?_
        replace hv := hv.2
        exact bx_iret C u rfl dX7_of_71 rfl hv
      replace hv := hv.2.2 ⟨h0, h1⟩
      refine bx_lout C 72 dX7_of_27 h0 h1 (by decide) ?_
      refine bx_aload_n C 73 dX7_of_72 rfl rfl rfl ?_
      refine bx_getf (v := .ref (a 1)) C 76 0 0 inX7 rfl (by decide) fl_X7_10 dX7_of_73 at_U_0 rfl rfl ?_
      refine bx_getf (v := .ref (a 5)) C 79 1 3 inX0 rfl (by decide) fl_X7_160 dX7_of_76 at_U_1 rfl rfl ?_
      refine bx_iload_n C 80 dX7_of_79 rfl rfl rfl ?_
      refine bx_iald (f := u.1.2.2.2.1) C 81 5 dX7_of_80 at_U_5 hv.1 rfl ?_
      replace hv := hv.2
      exact bx_iret C u rfl dX7_of_81 rfl hv
    · replace hv := hv.2 h
      exact bx_cut [0] (w_U E a u) rfl rfl (t_X7_of_19 C   u  hv)
theorem k_X7_of (l : Launch) (E : bx_E) (a : Nat → Nat)  (K : Int32 → US → Prop) (u : US) (x1 : Int32) (x2 : Int32) (hv : V_X7_of  K u x1 x2) : bx_Mi l E yX7_of cX7_of 3 (some .int) (rmD 2) [.ref (a 0), .int x1, .int x2] (fun (u : US) => w_U E a u) u K :=
  bx_meti (by decide +kernel) (Nat.le_of_ble_eq_true rfl) (fun p e S m below meth c C => t_X7_of_0 C u x1 x2 hv)
abbrev G_X7_about (p : Program) (l : Launch) (e : Env) (S : State) (m : MethodId) (args : Array Value) (below : List Frame) (meth : Method) (c : Code) (E : bx_E) (A : Nat → Prop) (a : Nat → Nat)  (K : Int32 → US → Prop) (pc : Nat) (lv : List (Nat × Value)) (st : List Value) (ws : va_W) : Prop := bx_S p l e (rmD 3) S m args below meth c 3 E A (MQ below (va_Qi K (fun (u : US) t => bx_B E A (w_U E a u) t) A) args S 0 0 A) 0 0 pc lv st ws
def V_X7_about_17  (K : Int32 → US → Prop)  (u : US)  : Prop := (V_X7_refuseBad (fun r1 u2 => K r1 u2) u (-2))
set_option maxRecDepth 20000 in
set_option maxHeartbeats 4000000 in
theorem t_X7_about_17 {a : Nat → Nat} {K : Int32 → US → Prop} (C : bx_C p (rmD 3) S m args meth c cX7_about 3 yX7_about.cls (some .int) E A 0 0)   (u : US)  (hv : V_X7_about_17 K u ) : G_X7_about p l e S m args below meth c E A a  K 17 [(0, .ref (a 0))] [] (w_U E a u) := by
  unfold V_X7_about_17 at hv
  refine bx_aload_n C 18 dX7_about_17 rfl rfl rfl ?_
  refine bx_bipush C (-2) 20 dX7_about_18 bp_m2 rfl ?_
  refine bx_qVi C 0 at_U_0 rfl 23 fc_X7_63 (k_X7_refuseBad l E a _ _ _ hv) dX7_about_20 ⟨rfl, rfl, Nat.le_of_ble_eq_true rfl, Nat.le_of_ble_eq_true rfl⟩ [0, 1, 2, 3, 4, 5, 6, 7, 8, 9, 10, 11, 12, 13, 14, 15, 16, 17, 18, 19, 20, 21, 22, 23, 24, 25, 26, 27, 28, 29, 30, 31, 32, 33, 34, 35, 36, 37, 38, 39, 40, 41, 42, 43, 44, 45, 46, 47, 48, 49, 50, 51, 52, 53, 54, 55, 56, 57, 58, 59, 60, 61, 62, 63, 64, 65, 66, 67, 68, 69, 70, 71, 72, 73] (fun u2 => w_U E a u2) ps_U_U_0 (by decide) ad_U pu_U_U_0 rfl rfl (Nat.le_of_ble_eq_true rfl) rfl (fun r1 u2 hv => ?_)
  exact bx_iret C u2 rfl dX7_about_23 rfl hv
def V_X7_about  (K : Int32 → US → Prop)  (u : US) (x1 : Int32) (x2 : Int32) : Prop := (V_X7_within (fun r3 => ((r3 = 0 → V_X7_about_17 K u ) ∧
 (¬ r3 = 0 → (V_X7_within (fun r4 => ((¬ r4 = 0 → ((x2 = 0 → (vp_in (x1 / 6) 5 ∧ K (u.1.1 ((x1 / 6) : Int32).toNatClampNeg) u)) ∧
 (x2 = 1 → (V_X0_sitterAt (fun r5 => K r5 u) u.1 x1)) ∧
 (x2 = 2 → (V_X0_hasCoat (fun r6 => ((r6 = 0 → K 0 u) ∧
 (¬ r6 = 0 → K 1 u))) u.1 x1)) ∧
 (x2 = 3 → (V_X0_kneesTo (fun r7 => K r7 u) u.1 x1)) ∧
 (¬ x2 = 0 ∧ ¬ x2 = 1 ∧ ¬ x2 = 2 ∧ ¬ x2 = 3 → (V_X0_sightFrom (fun r8 => K r8 u) u.1 x1)))) ∧
 (r4 = 0 → V_X7_about_17 K u )))  x2 5))))  x1 30)
set_option maxRecDepth 20000 in
set_option maxHeartbeats 4000000 in
theorem t_X7_about_0 {a : Nat → Nat} {K : Int32 → US → Prop} (C : bx_C p (rmD 3) S m args meth c cX7_about 3 yX7_about.cls (some .int) E A 0 0)   (u : US) (x1 : Int32) (x2 : Int32) (hv : V_X7_about K u x1 x2) : G_X7_about p l e S m args below meth c E A a  K 0 [(0, .ref (a 0)), (1, .int x1), (2, .int x2)] [] (w_U E a u) := by
  unfold V_X7_about at hv
  refine bx_iload_n C 1 dX7_about_0 rfl rfl rfl ?_
  refine bx_bipush C 30 3 dX7_about_1 bp_30 rfl ?_
  refine bx_pSi C 6 fc_X7_59 (k_X7_within l E  _ _ _ hv) dX7_about_3 ⟨rfl, rfl, Nat.le_of_ble_eq_true rfl, Nat.le_of_ble_eq_true rfl⟩ [] rfl (by decide) rfl rfl (Nat.le_of_ble_eq_true rfl) rfl (fun r3 hv => ?_)
  refine bx_if_eq C 17 9 dX7_about_6 (by decide) rfl (fun h => ?_) (fun h => ?_)
  · replace hv := hv.1 h
    exact bx_cut [0] (w_U E a u) rfl rfl (t_X7_about_17 C   u  hv)
  · replace hv := hv.2 h
    refine bx_iload_n C 10 dX7_about_9 rfl rfl rfl ?_
    refine bx_iconst C 5 11 dX7_about_10 ic_5 rfl ?_
    refine bx_pSi C 14 fc_X7_59 (k_X7_within l E  _ _ _ hv) dX7_about_11 ⟨rfl, rfl, Nat.le_of_ble_eq_true rfl, Nat.le_of_ble_eq_true rfl⟩ [] rfl (by decide) rfl rfl (Nat.le_of_ble_eq_true rfl) rfl (fun r4 hv => ?_)
    refine bx_if_ne C 24 17 dX7_about_14 (by decide) rfl (fun h => ?_) (fun h => ?_)
    · replace hv := hv.1 h
      refine bx_iload_n C 25 dX7_about_24 rfl rfl rfl ?_
      by_cases h0 : x2 = 0
      · replace hv := hv.1 h0
        refine bx_tin C 56 0 dX7_about_25 h0 (by decide) (by decide) rfl (by decide) ?_
        refine bx_aload_n C 57 dX7_about_56 rfl rfl rfl ?_
        refine bx_getf (v := .ref (a 1)) C 60 0 0 inX7 rfl (by decide) fl_X7_10 dX7_about_57 at_U_0 rfl rfl ?_
        refine bx_getf (v := .ref (a 2)) C 63 1 0 inX0 rfl (by decide) fl_X7_67 dX7_about_60 at_U_1 rfl rfl ?_
        refine bx_iload_n C 64 dX7_about_63 rfl rfl rfl ?_
        refine bx_bipush C 6 66 dX7_about_64 bp_6 rfl ?_
        refine bx_idiv C 67 dX7_about_66 nz32_6 rfl ?_
        refine bx_iald (f := u.1.1) C 68 2 dX7_about_67 at_U_2 hv.1 rfl ?_
        replace hv := hv.2
        exact bx_iret C u rfl dX7_about_68 rfl hv
      by_cases h1 : x2 = 1
      · replace hv := hv.2.1 h1
        refine bx_tin C 69 1 dX7_about_25 h1 (by decide) (by decide) rfl (by decide) ?_
        refine bx_aload_n C 70 dX7_about_69 rfl rfl rfl ?_
        refine bx_getf (v := .ref (a 1)) C 73 0 0 inX7 rfl (by decide) fl_X7_10 dX7_about_70 at_U_0 rfl rfl ?_
        refine bx_iload_n C 74 dX7_about_73 rfl rfl rfl ?_
        refine bx_pVi C 1 at_U_1 rfl 77 fc_X7_137 (k_X0_sitterAt l E (fun k => a (1 + k)) _ _ _ hv) dX7_about_74 ⟨rfl, rfl, Nat.le_of_ble_eq_true rfl, Nat.le_of_ble_eq_true rfl⟩ [1, 2, 3, 4, 5, 6, 7, 8, 9, 10, 11, 12, 13] ps_U_H_1 (by decide) rfl rfl (Nat.le_of_ble_eq_true rfl) rfl (fun r5 hv => ?_)
        exact bx_iret C u rfl dX7_about_77 rfl hv
      by_cases h2 : x2 = 2
      · replace hv := hv.2.2.1 h2
        refine bx_tin C 78 2 dX7_about_25 h2 (by decide) (by decide) rfl (by decide) ?_
        refine bx_aload_n C 79 dX7_about_78 rfl rfl rfl ?_
        refine bx_getf (v := .ref (a 1)) C 82 0 0 inX7 rfl (by decide) fl_X7_10 dX7_about_79 at_U_0 rfl rfl ?_
        refine bx_iload_n C 83 dX7_about_82 rfl rfl rfl ?_
        refine bx_pVi C 1 at_U_1 rfl 86 fc_X7_134 (k_X0_hasCoat l E (fun k => a (1 + k)) _ _ _ hv) dX7_about_83 ⟨rfl, rfl, Nat.le_of_ble_eq_true rfl, Nat.le_of_ble_eq_true rfl⟩ [1, 2, 3, 4, 5, 6, 7, 8, 9, 10, 11, 12, 13] ps_U_H_1 (by decide) rfl rfl (Nat.le_of_ble_eq_true rfl) rfl (fun r6 hv => ?_)
        refine bx_if_eq C 93 89 dX7_about_86 (by decide) rfl (fun h => ?_) (fun h => ?_)
        · replace hv := hv.1 h
          refine bx_iconst C 0 94 dX7_about_93 ic_0 rfl ?_
          exact bx_iret C u rfl dX7_about_94 rfl hv
        · replace hv := hv.2 h
          refine bx_iconst C 1 90 dX7_about_89 ic_1 rfl ?_
          refine bx_goto C 94 dX7_about_90 (by decide) ?_
          exact bx_iret C u rfl dX7_about_94 rfl hv
      by_cases h3 : x2 = 3
      · replace hv := hv.2.2.2.1 h3
        refine bx_tin C 95 3 dX7_about_25 h3 (by decide) (by decide) rfl (by decide) ?_
        refine bx_aload_n C 96 dX7_about_95 rfl rfl rfl ?_
        refine bx_getf (v := .ref (a 1)) C 99 0 0 inX7 rfl (by decide) fl_X7_10 dX7_about_96 at_U_0 rfl rfl ?_
        refine bx_iload_n C 100 dX7_about_99 rfl rfl rfl ?_
        refine bx_pVi C 1 at_U_1 rfl 103 fc_X7_163 (k_X0_kneesTo l E (fun k => a (1 + k)) _ _ _ hv) dX7_about_100 ⟨rfl, rfl, Nat.le_of_ble_eq_true rfl, Nat.le_of_ble_eq_true rfl⟩ [1, 2, 3, 4, 5, 6, 7, 8, 9, 10, 11, 12, 13] ps_U_H_1 (by decide) rfl rfl (Nat.le_of_ble_eq_true rfl) rfl (fun r7 hv => ?_)
        exact bx_iret C u rfl dX7_about_103 rfl hv
      replace hv := hv.2.2.2.2 ⟨h0, h1, h2, h3⟩
      have ho : (x2 : Int32).toInt < 0 ∨ 3 < (x2 : Int32).toInt := by
        have e0 := bx_ne (z := 0) h0 (by decide)
        have e1 := bx_ne (z := 1) h1 (by decide)
        have e2 := bx_ne (z := 2) h2 (by decide)
        have e3 := bx_ne (z := 3) h3 (by decide)
        omega
      refine bx_tout C 104 dX7_about_25 ho (by decide) ?_
      refine bx_aload_n C 105 dX7_about_104 rfl rfl rfl ?_
      refine bx_getf (v := .ref (a 1)) C 108 0 0 inX7 rfl (by decide) fl_X7_10 dX7_about_105 at_U_0 rfl rfl ?_
      refine bx_iload_n C 109 dX7_about_108 rfl rfl rfl ?_
      refine bx_pVi C 1 at_U_1 rfl 112 fc_X7_166 (k_X0_sightFrom l E (fun k => a (1 + k)) _ _ _ hv) dX7_about_109 ⟨rfl, rfl, Nat.le_of_ble_eq_true rfl, Nat.le_of_ble_eq_true rfl⟩ [1, 2, 3, 4, 5, 6, 7, 8, 9, 10, 11, 12, 13] ps_U_H_1 (by decide) rfl rfl (Nat.le_of_ble_eq_true rfl) rfl (fun r8 hv => ?_)
      exact bx_iret C u rfl dX7_about_112 rfl hv
    · replace hv := hv.2 h
      exact bx_cut [0] (w_U E a u) rfl rfl (t_X7_about_17 C   u  hv)
theorem k_X7_about (l : Launch) (E : bx_E) (a : Nat → Nat)  (K : Int32 → US → Prop) (u : US) (x1 : Int32) (x2 : Int32) (hv : V_X7_about  K u x1 x2) : bx_Mi l E yX7_about cX7_about 3 (some .int) (rmD 3) [.ref (a 0), .int x1, .int x2] (fun (u : US) => w_U E a u) u K :=
  bx_meti (by decide +kernel) (Nat.le_of_ble_eq_true rfl) (fun p e S m below meth c C => t_X7_about_0 C u x1 x2 hv)
abbrev G_X7_makes (p : Program) (l : Launch) (e : Env) (S : State) (m : MethodId) (args : Array Value) (below : List Frame) (meth : Method) (c : Code) (E : bx_E) (A : Nat → Prop) (a : Nat → Nat)  (K : Int32 → US → Prop) (pc : Nat) (lv : List (Nat × Value)) (st : List Value) (ws : va_W) : Prop := bx_S p l e (rmD 2) S m args below meth c 3 E A (MQ below (va_Qi K (fun (u : US) t => bx_B E A (w_U E a u) t) A) args S 0 0 A) 0 0 pc lv st ws
def V_X7_makes_20  (K : Int32 → US → Prop)  (u : US)  : Prop := (V_X7_refuseBad (fun r1 u2 => K r1 u2) u (-2))
set_option maxRecDepth 20000 in
set_option maxHeartbeats 4000000 in
theorem t_X7_makes_20 {a : Nat → Nat} {K : Int32 → US → Prop} (C : bx_C p (rmD 2) S m args meth c cX7_makes 3 yX7_makes.cls (some .int) E A 0 0)   (u : US)  (hv : V_X7_makes_20 K u ) : G_X7_makes p l e S m args below meth c E A a  K 20 [(0, .ref (a 0))] [] (w_U E a u) := by
  unfold V_X7_makes_20 at hv
  refine bx_aload_n C 21 dX7_makes_20 rfl rfl rfl ?_
  refine bx_bipush C (-2) 23 dX7_makes_21 bp_m2 rfl ?_
  refine bx_qVi C 0 at_U_0 rfl 26 fc_X7_63 (k_X7_refuseBad l E a _ _ _ hv) dX7_makes_23 ⟨rfl, rfl, Nat.le_of_ble_eq_true rfl, Nat.le_of_ble_eq_true rfl⟩ [0, 1, 2, 3, 4, 5, 6, 7, 8, 9, 10, 11, 12, 13, 14, 15, 16, 17, 18, 19, 20, 21, 22, 23, 24, 25, 26, 27, 28, 29, 30, 31, 32, 33, 34, 35, 36, 37, 38, 39, 40, 41, 42, 43, 44, 45, 46, 47, 48, 49, 50, 51, 52, 53, 54, 55, 56, 57, 58, 59, 60, 61, 62, 63, 64, 65, 66, 67, 68, 69, 70, 71, 72, 73] (fun u2 => w_U E a u2) ps_U_U_0 (by decide) ad_U pu_U_U_0 rfl rfl (Nat.le_of_ble_eq_true rfl) rfl (fun r1 u2 hv => ?_)
  exact bx_iret C u2 rfl dX7_makes_26 rfl hv
def V_X7_makes  (K : Int32 → US → Prop)  (u : US) (x1 : Int32) (x2 : Int32) : Prop := (V_X0_isSoul (fun r3 => ((r3 = 0 → V_X7_makes_20 K u ) ∧
 (¬ r3 = 0 → (V_X7_within (fun r4 => ((¬ r4 = 0 → (V_X0_sits (fun r5 => ((r5 = 0 → (V_X0_fussTo (fun r6 => K r6 u) u.1 x1 x2)) ∧
 (¬ r5 = 0 → (V_X7_refuseNo (fun r7 u8 => K r7 u8) u (-3))))) u.1 x1)) ∧
 (r4 = 0 → V_X7_makes_20 K u )))  x2 30)))) u.1 x1)
set_option maxRecDepth 20000 in
set_option maxHeartbeats 4000000 in
theorem t_X7_makes_0 {a : Nat → Nat} {K : Int32 → US → Prop} (C : bx_C p (rmD 2) S m args meth c cX7_makes 3 yX7_makes.cls (some .int) E A 0 0)   (u : US) (x1 : Int32) (x2 : Int32) (hv : V_X7_makes K u x1 x2) : G_X7_makes p l e S m args below meth c E A a  K 0 [(0, .ref (a 0)), (1, .int x1), (2, .int x2)] [] (w_U E a u) := by
  unfold V_X7_makes at hv
  refine bx_aload_n C 1 dX7_makes_0 rfl rfl rfl ?_
  refine bx_getf (v := .ref (a 1)) C 4 0 0 inX7 rfl (by decide) fl_X7_10 dX7_makes_1 at_U_0 rfl rfl ?_
  refine bx_iload_n C 5 dX7_makes_4 rfl rfl rfl ?_
  refine bx_pVi C 1 at_U_1 rfl 8 fc_X7_106 (k_X0_isSoul l E (fun k => a (1 + k)) _ _ _ hv) dX7_makes_5 ⟨rfl, rfl, Nat.le_of_ble_eq_true rfl, Nat.le_of_ble_eq_true rfl⟩ [1, 2, 3, 4, 5, 6, 7, 8, 9, 10, 11, 12, 13] ps_U_H_1 (by decide) rfl rfl (Nat.le_of_ble_eq_true rfl) rfl (fun r3 hv => ?_)
  refine bx_if_eq C 20 11 dX7_makes_8 (by decide) rfl (fun h => ?_) (fun h => ?_)
  · replace hv := hv.1 h
    exact bx_cut [0] (w_U E a u) rfl rfl (t_X7_makes_20 C   u  hv)
  · replace hv := hv.2 h
    refine bx_iload_n C 12 dX7_makes_11 rfl rfl rfl ?_
    refine bx_bipush C 30 14 dX7_makes_12 bp_30 rfl ?_
    refine bx_pSi C 17 fc_X7_59 (k_X7_within l E  _ _ _ hv) dX7_makes_14 ⟨rfl, rfl, Nat.le_of_ble_eq_true rfl, Nat.le_of_ble_eq_true rfl⟩ [] rfl (by decide) rfl rfl (Nat.le_of_ble_eq_true rfl) rfl (fun r4 hv => ?_)
    refine bx_if_ne C 27 20 dX7_makes_17 (by decide) rfl (fun h => ?_) (fun h => ?_)
    · replace hv := hv.1 h
      refine bx_aload_n C 28 dX7_makes_27 rfl rfl rfl ?_
      refine bx_getf (v := .ref (a 1)) C 31 0 0 inX7 rfl (by decide) fl_X7_10 dX7_makes_28 at_U_0 rfl rfl ?_
      refine bx_iload_n C 32 dX7_makes_31 rfl rfl rfl ?_
      refine bx_pVi C 1 at_U_1 rfl 35 fc_X7_110 (k_X0_sits l E (fun k => a (1 + k)) _ _ _ hv) dX7_makes_32 ⟨rfl, rfl, Nat.le_of_ble_eq_true rfl, Nat.le_of_ble_eq_true rfl⟩ [1, 2, 3, 4, 5, 6, 7, 8, 9, 10, 11, 12, 13] ps_U_H_1 (by decide) rfl rfl (Nat.le_of_ble_eq_true rfl) rfl (fun r5 hv => ?_)
      refine bx_if_eq C 45 38 dX7_makes_35 (by decide) rfl (fun h => ?_) (fun h => ?_)
      · replace hv := hv.1 h
        refine bx_aload_n C 46 dX7_makes_45 rfl rfl rfl ?_
        refine bx_getf (v := .ref (a 1)) C 49 0 0 inX7 rfl (by decide) fl_X7_10 dX7_makes_46 at_U_0 rfl rfl ?_
        refine bx_iload_n C 50 dX7_makes_49 rfl rfl rfl ?_
        refine bx_iload_n C 51 dX7_makes_50 rfl rfl rfl ?_
        refine bx_pVi C 1 at_U_1 rfl 54 fc_X7_169 (k_X0_fussTo l E (fun k => a (1 + k)) _ _ _ _ hv) dX7_makes_51 ⟨rfl, rfl, Nat.le_of_ble_eq_true rfl, Nat.le_of_ble_eq_true rfl⟩ [1, 2, 3, 4, 5, 6, 7, 8, 9, 10, 11, 12, 13] ps_U_H_1 (by decide) rfl rfl (Nat.le_of_ble_eq_true rfl) rfl (fun r6 hv => ?_)
        exact bx_iret C u rfl dX7_makes_54 rfl hv
      · replace hv := hv.2 h
        refine bx_aload_n C 39 dX7_makes_38 rfl rfl rfl ?_
        refine bx_bipush C (-3) 41 dX7_makes_39 bp_m3 rfl ?_
        refine bx_qVi C 0 at_U_0 rfl 44 fc_X7_119 (k_X7_refuseNo l E a _ _ _ hv) dX7_makes_41 ⟨rfl, rfl, Nat.le_of_ble_eq_true rfl, Nat.le_of_ble_eq_true rfl⟩ [0, 1, 2, 3, 4, 5, 6, 7, 8, 9, 10, 11, 12, 13, 14, 15, 16, 17, 18, 19, 20, 21, 22, 23, 24, 25, 26, 27, 28, 29, 30, 31, 32, 33, 34, 35, 36, 37, 38, 39, 40, 41, 42, 43, 44, 45, 46, 47, 48, 49, 50, 51, 52, 53, 54, 55, 56, 57, 58, 59, 60, 61, 62, 63, 64, 65, 66, 67, 68, 69, 70, 71, 72, 73] (fun u8 => w_U E a u8) ps_U_U_0 (by decide) ad_U pu_U_U_0 rfl rfl (Nat.le_of_ble_eq_true rfl) rfl (fun r7 u8 hv => ?_)
        exact bx_iret C u8 rfl dX7_makes_44 rfl hv
    · replace hv := hv.2 h
      exact bx_cut [0] (w_U E a u) rfl rfl (t_X7_makes_20 C   u  hv)
theorem k_X7_makes (l : Launch) (E : bx_E) (a : Nat → Nat)  (K : Int32 → US → Prop) (u : US) (x1 : Int32) (x2 : Int32) (hv : V_X7_makes  K u x1 x2) : bx_Mi l E yX7_makes cX7_makes 3 (some .int) (rmD 2) [.ref (a 0), .int x1, .int x2] (fun (u : US) => w_U E a u) u K :=
  bx_meti (by decide +kernel) (Nat.le_of_ble_eq_true rfl) (fun p e S m below meth c C => t_X7_makes_0 C u x1 x2 hv)
end
