section
variable {p : Program} {l : Launch} {e : Env} {S : State} {m : MethodId} {args : Array Value} {below : List Frame} {meth : Method} {c : Code} {E : bx_E} {A : Nat → Prop}
abbrev G_X8_comes (p : Program) (l : Launch) (e : Env) (S : State) (m : MethodId) (args : Array Value) (below : List Frame) (meth : Method) (c : Code) (E : bx_E) (A : Nat → Prop) (a : Nat → Nat)  (K : (Nat → Int32) → Prop) (pc : Nat) (lv : List (Nat × Value)) (st : List Value) (ws : va_W) : Prop := bx_S p l e (rmD 0) S m args below meth c 4 E A (MQ below (va_Qv K (fun (u : (Nat → Int32)) t => bx_B E A (w_A E a u) t) A) args S 0 0 A) 0 0 pc lv st ws
def V_X8_comes  (K : (Nat → Int32) → Prop)  (u : (Nat → Int32)) (x1 : Int32) (x2 : Int32) : Prop := (vp_in (9 + (3 * (u 8))) 171 ∧ (vp_in ((9 + (3 * (u 8))) + 1) 171 ∧ (vp_in ((9 + (3 * (u 8))) + 2) 171 ∧ K (upd (upd (upd (upd u ((9 + (3 * (u 8))) : Int32).toNatClampNeg x1) (((9 + (3 * (u 8))) + 1) : Int32).toNatClampNeg x2) (((9 + (3 * (u 8))) + 2) : Int32).toNatClampNeg 0) 8 (((upd (upd (upd u ((9 + (3 * (u 8))) : Int32).toNatClampNeg x1) (((9 + (3 * (u 8))) + 1) : Int32).toNatClampNeg x2) (((9 + (3 * (u 8))) + 2) : Int32).toNatClampNeg 0) 8) + 1)))))
set_option maxRecDepth 20000 in
set_option maxHeartbeats 4000000 in
theorem t_X8_comes_0 {a : Nat → Nat} {K : (Nat → Int32) → Prop} (C : bx_C p (rmD 0) S m args meth c cX8_comes 4 yX8_comes.cls none E A 0 0)   (u : (Nat → Int32)) (x1 : Int32) (x2 : Int32) (hv : V_X8_comes K u x1 x2) : G_X8_comes p l e S m args below meth c E A a  K 0 [(0, .ref (a 0)), (1, .int x1), (2, .int x2)] [] (w_A E a u) := by
  unfold V_X8_comes at hv
  refine bx_bipush C 9 2 dX8_comes_0 bp_9 rfl ?_
  refine bx_iconst C 3 3 dX8_comes_2 ic_3 rfl ?_
  refine bx_aload_n C 4 dX8_comes_3 rfl rfl rfl ?_
  refine bx_bipush C 8 6 dX8_comes_4 bp_8 rfl ?_
  refine bx_iald_k (f := u) C 7 0 8 dX8_comes_6 rfl vin_8_171 cl_8 rfl ?_
  refine bx_imul C 8 dX8_comes_7 rfl ?_
  refine bx_iadd C 9 dX8_comes_8 rfl ?_
  refine bx_istore_n C 10 dX8_comes_9 rfl (by decide) rfl ?_
  refine bx_aload_n C 11 dX8_comes_10 rfl rfl rfl ?_
  refine bx_iload_n C 12 dX8_comes_11 rfl rfl rfl ?_
  refine bx_iload_n C 13 dX8_comes_12 rfl rfl rfl ?_
  refine bx_iast C 14 0 (w_A E a (upd u ((9 + (3 * (u 8))) : Int32).toNatClampNeg x1)) dX8_comes_13 rfl hv.1 rfl rfl ?_
  replace hv := hv.2
  refine bx_aload_n C 15 dX8_comes_14 rfl rfl rfl ?_
  refine bx_iload_n C 16 dX8_comes_15 rfl rfl rfl ?_
  refine bx_iconst C 1 17 dX8_comes_16 ic_1 rfl ?_
  refine bx_iadd C 18 dX8_comes_17 rfl ?_
  refine bx_iload_n C 19 dX8_comes_18 rfl rfl rfl ?_
  refine bx_iast C 20 0 (w_A E a (upd (upd u ((9 + (3 * (u 8))) : Int32).toNatClampNeg x1) (((9 + (3 * (u 8))) + 1) : Int32).toNatClampNeg x2)) dX8_comes_19 rfl hv.1 rfl rfl ?_
  replace hv := hv.2
  refine bx_aload_n C 21 dX8_comes_20 rfl rfl rfl ?_
  refine bx_iload_n C 22 dX8_comes_21 rfl rfl rfl ?_
  refine bx_iconst C 2 23 dX8_comes_22 ic_2 rfl ?_
  refine bx_iadd C 24 dX8_comes_23 rfl ?_
  refine bx_iconst C 0 25 dX8_comes_24 ic_0 rfl ?_
  refine bx_iast C 26 0 (w_A E a (upd (upd (upd u ((9 + (3 * (u 8))) : Int32).toNatClampNeg x1) (((9 + (3 * (u 8))) + 1) : Int32).toNatClampNeg x2) (((9 + (3 * (u 8))) + 2) : Int32).toNatClampNeg 0)) dX8_comes_25 rfl hv.1 rfl rfl ?_
  replace hv := hv.2
  refine bx_aload_n C 27 dX8_comes_26 rfl rfl rfl ?_
  refine bx_bipush C 8 29 dX8_comes_27 bp_8 rfl ?_
  refine bx_dup2_11 C 30 dX8_comes_29 rfl rfl rfl ?_
  refine bx_iald_k (f := (upd (upd (upd u ((9 + (3 * (u 8))) : Int32).toNatClampNeg x1) (((9 + (3 * (u 8))) + 1) : Int32).toNatClampNeg x2) (((9 + (3 * (u 8))) + 2) : Int32).toNatClampNeg 0)) C 31 0 8 dX8_comes_30 rfl vin_8_171 cl_8 rfl ?_
  refine bx_iconst C 1 32 dX8_comes_31 ic_1 rfl ?_
  refine bx_iadd C 33 dX8_comes_32 rfl ?_
  refine bx_iast_k C 34 0 8 (w_A E a (upd (upd (upd (upd u ((9 + (3 * (u 8))) : Int32).toNatClampNeg x1) (((9 + (3 * (u 8))) + 1) : Int32).toNatClampNeg x2) (((9 + (3 * (u 8))) + 2) : Int32).toNatClampNeg 0) 8 (((upd (upd (upd u ((9 + (3 * (u 8))) : Int32).toNatClampNeg x1) (((9 + (3 * (u 8))) + 1) : Int32).toNatClampNeg x2) (((9 + (3 * (u 8))) + 2) : Int32).toNatClampNeg 0) 8) + 1))) dX8_comes_33 rfl vin_8_171 cl_8 rfl rfl ?_
  exact bx_vret C (upd (upd (upd (upd u ((9 + (3 * (u 8))) : Int32).toNatClampNeg x1) (((9 + (3 * (u 8))) + 1) : Int32).toNatClampNeg x2) (((9 + (3 * (u 8))) + 2) : Int32).toNatClampNeg 0) 8 (((upd (upd (upd u ((9 + (3 * (u 8))) : Int32).toNatClampNeg x1) (((9 + (3 * (u 8))) + 1) : Int32).toNatClampNeg x2) (((9 + (3 * (u 8))) + 2) : Int32).toNatClampNeg 0) 8) + 1)) rfl dX8_comes_34 rfl hv
theorem k_X8_comes (l : Launch) (E : bx_E) (a : Nat → Nat)  (K : (Nat → Int32) → Prop) (u : (Nat → Int32)) (x1 : Int32) (x2 : Int32) (hv : V_X8_comes  K u x1 x2) : bx_Mv l E yX8_comes cX8_comes 4 none (rmD 0) [.ref (a 0), .int x1, .int x2] (fun (u : (Nat → Int32)) => w_A E a u) u K :=
  bx_metv (by decide +kernel) (Nat.le_of_ble_eq_true rfl) (fun p e S m below meth c C => t_X8_comes_0 C u x1 x2 hv)
abbrev G_X8_soul (p : Program) (l : Launch) (e : Env) (S : State) (m : MethodId) (args : Array Value) (below : List Frame) (meth : Method) (c : Code) (E : bx_E) (A : Nat → Prop) (a : Nat → Nat)  (K : Int32 → MS → Prop) (pc : Nat) (lv : List (Nat × Value)) (st : List Value) (ws : va_W) : Prop := bx_S p l e (rmD 2) S m args below meth c 3 E A (MQ below (va_Qi K (fun (u : MS) t => bx_B E A (w_M E a u) t) A) args S 0 0 A) 0 0 pc lv st ws
def V_X8_soul_19  (K : Int32 → MS → Prop)  (u : MS)  : Prop := (V_X8_bad (fun r1 u2 => K r1 u2) u )
set_option maxRecDepth 20000 in
set_option maxHeartbeats 4000000 in
theorem t_X8_soul_19 {a : Nat → Nat} {K : Int32 → MS → Prop} (C : bx_C p (rmD 2) S m args meth c cX8_soul 3 yX8_soul.cls (some .int) E A 0 0)   (u : MS)  (hv : V_X8_soul_19 K u ) : G_X8_soul p l e S m args below meth c E A a  K 19 [(0, .ref (a 0))] [] (w_M E a u) := by
  unfold V_X8_soul_19 at hv
  refine bx_aload_n C 20 dX8_soul_19 rfl rfl rfl ?_
  refine bx_qVi C 0 at_M_0 rfl 23 fc_X8_101 (k_X8_bad l E a _ _ hv) dX8_soul_20 ⟨rfl, rfl, Nat.le_of_ble_eq_true rfl, Nat.le_of_ble_eq_true rfl⟩ [0, 1, 2, 3, 4, 5, 6, 7, 8, 9] (fun u2 => w_M E a u2) ps_M_M_0 (by decide) ad_M pu_M_M_0 rfl rfl (Nat.le_of_ble_eq_true rfl) rfl (fun r1 u2 hv => ?_)
  exact bx_iret C u2 rfl dX8_soul_23 rfl hv
def V_X8_soul  (K : Int32 → MS → Prop)  (u : MS) (x1 : Int32) (x2 : Int32) : Prop := (V_X8_in (fun r3 => ((r3 = 0 → V_X8_soul_19 K u ) ∧
 (¬ r3 = 0 → (V_X8_isCell (fun r4 => ((¬ r4 = 0 → ((¬ (u.1 8) = 7 → (V_X8_comes (fun u5 => K (((upd u5 90 0) 8) - 1) ((upd u5 90 0), u.2)) u.1 x1 x2)) ∧
 ((u.1 8) = 7 → (V_X8_full (fun r6 u7 => K r6 u7) u )))) ∧
 (r4 = 0 → V_X8_soul_19 K u )))  x2))))  ((x1 : Int32).toInt64) 0 5)
set_option maxRecDepth 20000 in
set_option maxHeartbeats 4000000 in
theorem t_X8_soul_0 {a : Nat → Nat} {K : Int32 → MS → Prop} (C : bx_C p (rmD 2) S m args meth c cX8_soul 3 yX8_soul.cls (some .int) E A 0 0)   (u : MS) (x1 : Int32) (x2 : Int32) (hv : V_X8_soul K u x1 x2) : G_X8_soul p l e S m args below meth c E A a  K 0 [(0, .ref (a 0)), (1, .int x1), (2, .int x2)] [] (w_M E a u) := by
  unfold V_X8_soul at hv
  refine bx_iload_n C 1 dX8_soul_0 rfl rfl rfl ?_
  refine bx_i2l C 2 dX8_soul_1 rfl ?_
  refine bx_lconst C 0 3 dX8_soul_2 lc_0 rfl ?_
  refine bx_ldc2 C 6 cs_X8_99 dX8_soul_3 rfl ?_
  refine bx_pSi C 9 fc_X8_46 (k_X8_in l E  _ _ _ _ hv) dX8_soul_6 ⟨rfl, rfl, Nat.le_of_ble_eq_true rfl, Nat.le_of_ble_eq_true rfl⟩ [] rfl (by decide) rfl rfl (Nat.le_of_ble_eq_true rfl) rfl (fun r3 hv => ?_)
  refine bx_if_eq C 19 12 dX8_soul_9 (by decide) rfl (fun h => ?_) (fun h => ?_)
  · replace hv := hv.1 h
    exact bx_cut [0] (w_M E a u) rfl rfl (t_X8_soul_19 C   u  hv)
  · replace hv := hv.2 h
    refine bx_iload_n C 13 dX8_soul_12 rfl rfl rfl ?_
    refine bx_pSi C 16 fc_X8_105 (k_X8_isCell l E  _ _ hv) dX8_soul_13 ⟨rfl, rfl, Nat.le_of_ble_eq_true rfl, Nat.le_of_ble_eq_true rfl⟩ [] rfl (by decide) rfl rfl (Nat.le_of_ble_eq_true rfl) rfl (fun r4 hv => ?_)
    refine bx_if_ne C 24 19 dX8_soul_16 (by decide) rfl (fun h => ?_) (fun h => ?_)
    · replace hv := hv.1 h
      refine bx_aload_n C 25 dX8_soul_24 rfl rfl rfl ?_
      refine bx_getf (v := .ref (a 1)) C 28 0 0 inX8 rfl (by decide) fl_X8_7 dX8_soul_25 at_M_0 rfl rfl ?_
      refine bx_bipush C 8 30 dX8_soul_28 bp_8 rfl ?_
      refine bx_iald_k (f := u.1) C 31 1 8 dX8_soul_30 at_M_1 vin_8_171 cl_8 rfl ?_
      refine bx_bipush C 7 33 dX8_soul_31 bp_7 rfl ?_
      refine bx_icmp_ne C 41 36 dX8_soul_33 (by decide) rfl (fun h => ?_) (fun h => ?_)
      · replace hv := hv.1 h
        refine bx_aload_n C 42 dX8_soul_41 rfl rfl rfl ?_
        refine bx_getf (v := .ref (a 1)) C 45 0 0 inX8 rfl (by decide) fl_X8_7 dX8_soul_42 at_M_0 rfl rfl ?_
        refine bx_iload_n C 46 dX8_soul_45 rfl rfl rfl ?_
        refine bx_iload_n C 47 dX8_soul_46 rfl rfl rfl ?_
        refine bx_qSv C 50 fc_X8_112 (k_X8_comes l E (fun k => a (1 + k)) _ _ _ _ hv) dX8_soul_47 ⟨rfl, rfl, Nat.le_of_ble_eq_true rfl, Nat.le_of_ble_eq_true rfl⟩ [1] (fun u5 => w_M E a (u5, u.2)) ps_M_A_1 (by decide) ad_A pu_M_A_1 rfl rfl (Nat.le_of_ble_eq_true rfl) rfl (fun u5 hv => ?_)
        refine bx_aload_n C 51 dX8_soul_50 rfl rfl rfl ?_
        refine bx_getf (v := .ref (a 1)) C 54 0 0 inX8 rfl (by decide) fl_X8_7 dX8_soul_51 at_M_0 rfl rfl ?_
        refine bx_bipush C 90 56 dX8_soul_54 bp_90 rfl ?_
        refine bx_iconst C 0 57 dX8_soul_56 ic_0 rfl ?_
        refine bx_iast_k C 58 1 90 (w_M E a ((upd u5 90 0), u.2)) dX8_soul_57 rfl vin_90_171 cl_90 rfl rfl ?_
        refine bx_aload_n C 59 dX8_soul_58 rfl rfl rfl ?_
        refine bx_getf (v := .ref (a 1)) C 62 0 0 inX8 rfl (by decide) fl_X8_7 dX8_soul_59 at_M_0 rfl rfl ?_
        refine bx_bipush C 8 64 dX8_soul_62 bp_8 rfl ?_
        refine bx_iald_k (f := (upd u5 90 0)) C 65 1 8 dX8_soul_64 at_M_1 vin_8_171 cl_8 rfl ?_
        refine bx_iconst C 1 66 dX8_soul_65 ic_1 rfl ?_
        refine bx_isub C 67 dX8_soul_66 rfl ?_
        exact bx_iret C ((upd u5 90 0), u.2) rfl dX8_soul_67 rfl hv
      · replace hv := hv.2 h
        refine bx_aload_n C 37 dX8_soul_36 rfl rfl rfl ?_
        refine bx_qVi C 0 at_M_0 rfl 40 fc_X8_109 (k_X8_full l E a _ _ hv) dX8_soul_37 ⟨rfl, rfl, Nat.le_of_ble_eq_true rfl, Nat.le_of_ble_eq_true rfl⟩ [0, 1, 2, 3, 4, 5, 6, 7, 8, 9] (fun u7 => w_M E a u7) ps_M_M_0 (by decide) ad_M pu_M_M_0 rfl rfl (Nat.le_of_ble_eq_true rfl) rfl (fun r6 u7 hv => ?_)
        exact bx_iret C u7 rfl dX8_soul_40 rfl hv
    · replace hv := hv.2 h
      exact bx_cut [0] (w_M E a u) rfl rfl (t_X8_soul_19 C   u  hv)
theorem k_X8_soul (l : Launch) (E : bx_E) (a : Nat → Nat)  (K : Int32 → MS → Prop) (u : MS) (x1 : Int32) (x2 : Int32) (hv : V_X8_soul  K u x1 x2) : bx_Mi l E yX8_soul cX8_soul 3 (some .int) (rmD 2) [.ref (a 0), .int x1, .int x2] (fun (u : MS) => w_M E a u) u K :=
  bx_meti (by decide +kernel) (Nat.le_of_ble_eq_true rfl) (fun p e S m below meth c C => t_X8_soul_0 C u x1 x2 hv)
abbrev G_X8_type (p : Program) (l : Launch) (e : Env) (S : State) (m : MethodId) (args : Array Value) (below : List Frame) (meth : Method) (c : Code) (E : bx_E) (A : Nat → Prop) (a : Nat → Nat)  (K : Int32 → MS → Prop) (pc : Nat) (lv : List (Nat × Value)) (st : List Value) (ws : va_W) : Prop := bx_S p l e (rmD 1) S m args below meth c 2 E A (MQ below (va_Qi K (fun (u : MS) t => bx_B E A (w_M E a u) t) A) args S 0 0 A) 0 0 pc lv st ws
def V_X8_type  (K : Int32 → MS → Prop)  (u : MS) (x1 : Int32) : Prop := (V_X8_in (fun r1 => ((¬ r1 = 0 → ((¬ u.2.2.2.2.2.2.2.2.1 = 150 → (vp_in u.2.2.2.2.2.2.2.2.1 150 ∧ K (u.2.2.2.2.2.2.2.2.1 + 1) (u.1, u.2.1, u.2.2.1, u.2.2.2.1, u.2.2.2.2.1, u.2.2.2.2.2.1, u.2.2.2.2.2.2.1, (upd u.2.2.2.2.2.2.2.1 (u.2.2.2.2.2.2.2.2.1 : Int32).toNatClampNeg x1), (u.2.2.2.2.2.2.2.2.1 + 1), u.2.2.2.2.2.2.2.2.2))) ∧
 (u.2.2.2.2.2.2.2.2.1 = 150 → (V_X8_full (fun r2 u3 => K r2 u3) u )))) ∧
 (r1 = 0 → (V_X8_bad (fun r4 u5 => K r4 u5) u ))))  ((x1 : Int32).toInt64) 0 127)
set_option maxRecDepth 20000 in
set_option maxHeartbeats 4000000 in
theorem t_X8_type_0 {a : Nat → Nat} {K : Int32 → MS → Prop} (C : bx_C p (rmD 1) S m args meth c cX8_type 2 yX8_type.cls (some .int) E A 0 0)   (u : MS) (x1 : Int32) (hv : V_X8_type K u x1) : G_X8_type p l e S m args below meth c E A a  K 0 [(0, .ref (a 0)), (1, .int x1)] [] (w_M E a u) := by
  unfold V_X8_type at hv
  refine bx_iload_n C 1 dX8_type_0 rfl rfl rfl ?_
  refine bx_i2l C 2 dX8_type_1 rfl ?_
  refine bx_lconst C 0 3 dX8_type_2 lc_0 rfl ?_
  refine bx_ldc2 C 6 cs_X8_115 dX8_type_3 rfl ?_
  refine bx_pSi C 9 fc_X8_46 (k_X8_in l E  _ _ _ _ hv) dX8_type_6 ⟨rfl, rfl, Nat.le_of_ble_eq_true rfl, Nat.le_of_ble_eq_true rfl⟩ [] rfl (by decide) rfl rfl (Nat.le_of_ble_eq_true rfl) rfl (fun r1 hv => ?_)
  refine bx_if_ne C 17 12 dX8_type_9 (by decide) rfl (fun h => ?_) (fun h => ?_)
  · replace hv := hv.1 h
    refine bx_aload_n C 18 dX8_type_17 rfl rfl rfl ?_
    refine bx_getf (v := .int u.2.2.2.2.2.2.2.2.1) C 21 0 8 inX8 rfl (by decide) fl_X8_117 dX8_type_18 at_M_0 rfl rfl ?_
    refine bx_sipush C 150 24 dX8_type_21 sp_150 rfl ?_
    refine bx_icmp_ne C 32 27 dX8_type_24 (by decide) rfl (fun h => ?_) (fun h => ?_)
    · replace hv := hv.1 h
      refine bx_aload_n C 33 dX8_type_32 rfl rfl rfl ?_
      refine bx_getf (v := .ref (a 6)) C 36 0 7 inX8 rfl (by decide) fl_X8_30 dX8_type_33 at_M_0 rfl rfl ?_
      refine bx_aload_n C 37 dX8_type_36 rfl rfl rfl ?_
      refine bx_getf (v := .int u.2.2.2.2.2.2.2.2.1) C 40 0 8 inX8 rfl (by decide) fl_X8_117 dX8_type_37 at_M_0 rfl rfl ?_
      refine bx_iload_n C 41 dX8_type_40 rfl rfl rfl ?_
      refine bx_iast C 42 6 (w_M E a (u.1, u.2.1, u.2.2.1, u.2.2.2.1, u.2.2.2.2.1, u.2.2.2.2.2.1, u.2.2.2.2.2.2.1, (upd u.2.2.2.2.2.2.2.1 (u.2.2.2.2.2.2.2.2.1 : Int32).toNatClampNeg x1), u.2.2.2.2.2.2.2.2)) dX8_type_41 rfl hv.1 rfl rfl ?_
      replace hv := hv.2
      refine bx_aload_n C 43 dX8_type_42 rfl rfl rfl ?_
      refine bx_dup C 44 dX8_type_43 rfl rfl ?_
      refine bx_getf (v := .int u.2.2.2.2.2.2.2.2.1) C 47 0 8 inX8 rfl (by decide) fl_X8_117 dX8_type_44 at_M_0 rfl rfl ?_
      refine bx_iconst C 1 48 dX8_type_47 ic_1 rfl ?_
      refine bx_iadd C 49 dX8_type_48 rfl ?_
      refine bx_putf C 52 0 8 (w_M E a (u.1, u.2.1, u.2.2.1, u.2.2.2.1, u.2.2.2.2.1, u.2.2.2.2.2.1, u.2.2.2.2.2.2.1, (upd u.2.2.2.2.2.2.2.1 (u.2.2.2.2.2.2.2.2.1 : Int32).toNatClampNeg x1), (u.2.2.2.2.2.2.2.2.1 + 1), u.2.2.2.2.2.2.2.2.2)) inX8 tyX8 tyX8_ok nmX8 rfl (by decide) fl_X8_117 rfl dX8_type_49 rfl rfl rfl (Nat.le_of_ble_eq_true rfl) rfl rfl ?_
      refine bx_aload_n C 53 dX8_type_52 rfl rfl rfl ?_
      refine bx_getf (v := .int (u.2.2.2.2.2.2.2.2.1 + 1)) C 56 0 8 inX8 rfl (by decide) fl_X8_117 dX8_type_53 at_M_0 rfl rfl ?_
      exact bx_iret C (u.1, u.2.1, u.2.2.1, u.2.2.2.1, u.2.2.2.2.1, u.2.2.2.2.2.1, u.2.2.2.2.2.2.1, (upd u.2.2.2.2.2.2.2.1 (u.2.2.2.2.2.2.2.2.1 : Int32).toNatClampNeg x1), (u.2.2.2.2.2.2.2.2.1 + 1), u.2.2.2.2.2.2.2.2.2) rfl dX8_type_56 rfl hv
    · replace hv := hv.2 h
      refine bx_aload_n C 28 dX8_type_27 rfl rfl rfl ?_
      refine bx_qVi C 0 at_M_0 rfl 31 fc_X8_109 (k_X8_full l E a _ _ hv) dX8_type_28 ⟨rfl, rfl, Nat.le_of_ble_eq_true rfl, Nat.le_of_ble_eq_true rfl⟩ [0, 1, 2, 3, 4, 5, 6, 7, 8, 9] (fun u3 => w_M E a u3) ps_M_M_0 (by decide) ad_M pu_M_M_0 rfl rfl (Nat.le_of_ble_eq_true rfl) rfl (fun r2 u3 hv => ?_)
      exact bx_iret C u3 rfl dX8_type_31 rfl hv
  · replace hv := hv.2 h
    refine bx_aload_n C 13 dX8_type_12 rfl rfl rfl ?_
    refine bx_qVi C 0 at_M_0 rfl 16 fc_X8_101 (k_X8_bad l E a _ _ hv) dX8_type_13 ⟨rfl, rfl, Nat.le_of_ble_eq_true rfl, Nat.le_of_ble_eq_true rfl⟩ [0, 1, 2, 3, 4, 5, 6, 7, 8, 9] (fun u5 => w_M E a u5) ps_M_M_0 (by decide) ad_M pu_M_M_0 rfl rfl (Nat.le_of_ble_eq_true rfl) rfl (fun r4 u5 hv => ?_)
    exact bx_iret C u5 rfl dX8_type_16 rfl hv
theorem k_X8_type (l : Launch) (E : bx_E) (a : Nat → Nat)  (K : Int32 → MS → Prop) (u : MS) (x1 : Int32) (hv : V_X8_type  K u x1) : bx_Mi l E yX8_type cX8_type 2 (some .int) (rmD 1) [.ref (a 0), .int x1] (fun (u : MS) => w_M E a u) u K :=
  bx_meti (by decide +kernel) (Nat.le_of_ble_eq_true rfl) (fun p e S m below meth c C => t_X8_type_0 C u x1 hv)
abbrev G_X8_clear (p : Program) (l : Launch) (e : Env) (S : State) (m : MethodId) (args : Array Value) (below : List Frame) (meth : Method) (c : Code) (E : bx_E) (A : Nat → Prop) (a : Nat → Nat)  (K : Int32 → MS → Prop) (pc : Nat) (lv : List (Nat × Value)) (st : List Value) (ws : va_W) : Prop := bx_S p l e (rmD 0) S m args below meth c 2 E A (MQ below (va_Qi K (fun (u : MS) t => bx_B E A (w_M E a u) t) A) args S 0 0 A) 0 0 pc lv st ws
def V_X8_clear  (K : Int32 → MS → Prop)  (u : MS)  : Prop := K u.2.2.2.2.2.2.2.2.1 (u.1, u.2.1, u.2.2.1, u.2.2.2.1, u.2.2.2.2.1, u.2.2.2.2.2.1, u.2.2.2.2.2.2.1, u.2.2.2.2.2.2.2.1, 0, u.2.2.2.2.2.2.2.2.2)
set_option maxRecDepth 20000 in
set_option maxHeartbeats 4000000 in
theorem t_X8_clear_0 {a : Nat → Nat} {K : Int32 → MS → Prop} (C : bx_C p (rmD 0) S m args meth c cX8_clear 2 yX8_clear.cls (some .int) E A 0 0)   (u : MS)  (hv : V_X8_clear K u ) : G_X8_clear p l e S m args below meth c E A a  K 0 [(0, .ref (a 0))] [] (w_M E a u) := by
  unfold V_X8_clear at hv
  refine bx_aload_n C 1 dX8_clear_0 rfl rfl rfl ?_
  refine bx_getf (v := .int u.2.2.2.2.2.2.2.2.1) C 4 0 8 inX8 rfl (by decide) fl_X8_117 dX8_clear_1 at_M_0 rfl rfl ?_
  refine bx_istore_n C 5 dX8_clear_4 rfl (by decide) rfl ?_
  refine bx_aload_n C 6 dX8_clear_5 rfl rfl rfl ?_
  refine bx_iconst C 0 7 dX8_clear_6 ic_0 rfl ?_
  refine bx_putf C 10 0 8 (w_M E a (u.1, u.2.1, u.2.2.1, u.2.2.2.1, u.2.2.2.2.1, u.2.2.2.2.2.1, u.2.2.2.2.2.2.1, u.2.2.2.2.2.2.2.1, 0, u.2.2.2.2.2.2.2.2.2)) inX8 tyX8 tyX8_ok nmX8 rfl (by decide) fl_X8_117 rfl dX8_clear_7 rfl rfl rfl (Nat.le_of_ble_eq_true rfl) rfl rfl ?_
  refine bx_iload_n C 11 dX8_clear_10 rfl rfl rfl ?_
  exact bx_iret C (u.1, u.2.1, u.2.2.1, u.2.2.2.1, u.2.2.2.2.1, u.2.2.2.2.2.1, u.2.2.2.2.2.2.1, u.2.2.2.2.2.2.2.1, 0, u.2.2.2.2.2.2.2.2.2) rfl dX8_clear_11 rfl hv
theorem k_X8_clear (l : Launch) (E : bx_E) (a : Nat → Nat)  (K : Int32 → MS → Prop) (u : MS)  (hv : V_X8_clear  K u ) : bx_Mi l E yX8_clear cX8_clear 2 (some .int) (rmD 0) [.ref (a 0)] (fun (u : MS) => w_M E a u) u K :=
  bx_meti (by decide +kernel) (Nat.le_of_ble_eq_true rfl) (fun p e S m below meth c C => t_X8_clear_0 C u  hv)
abbrev G_X8_isFigure (p : Program) (l : Launch) (e : Env) (S : State) (m : MethodId) (args : Array Value) (below : List Frame) (meth : Method) (c : Code) (E : bx_E) (A : Nat → Prop)   (K : Int32 → Prop) (pc : Nat) (lv : List (Nat × Value)) (st : List Value) (ws : va_W) : Prop := bx_S p l e (rmD 0) S m args below meth c 1 E A (MQ below (va_Qi (fun r (_ : Unit) => K r) (fun (_ : Unit) t => bx_B E A (([] : va_W)) t) A) args S 0 0 A) 0 0 pc lv st ws
def V_X8_isFigure  (K : Int32 → Prop)   (x0 : Int32) : Prop := ((x0 < 48 → K 0) ∧
 (¬ x0 < 48 → ((57 < x0 → K 0) ∧
 (¬ 57 < x0 → K 1))))
set_option maxRecDepth 20000 in
set_option maxHeartbeats 4000000 in
theorem t_X8_isFigure_0 {K : Int32 → Prop} (C : bx_C p (rmD 0) S m args meth c cX8_isFigure 1 yX8_isFigure.cls (some .boolean) E A 0 0)    (x0 : Int32) (hv : V_X8_isFigure K  x0) : G_X8_isFigure p l e S m args below meth c E A   K 0 [(0, .int x0)] [] (([] : va_W)) := by
  unfold V_X8_isFigure at hv
  refine bx_iload_n C 1 dX8_isFigure_0 rfl rfl rfl ?_
  refine bx_bipush C 48 3 dX8_isFigure_1 bp_48 rfl ?_
  refine bx_icmp_lt C 16 6 dX8_isFigure_3 (by decide) rfl (fun h => ?_) (fun h => ?_)
  · replace hv := hv.1 h
    refine bx_iconst C 0 17 dX8_isFigure_16 ic_0 rfl ?_
    exact bx_zret C () rfl dX8_isFigure_17 rfl (Or.inl rfl) hv
  · replace hv := hv.2 h
    refine bx_iload_n C 7 dX8_isFigure_6 rfl rfl rfl ?_
    refine bx_bipush C 57 9 dX8_isFigure_7 bp_57 rfl ?_
    refine bx_icmp_gt C 16 12 dX8_isFigure_9 (by decide) rfl (fun h => ?_) (fun h => ?_)
    · replace hv := hv.1 h
      refine bx_iconst C 0 17 dX8_isFigure_16 ic_0 rfl ?_
      exact bx_zret C () rfl dX8_isFigure_17 rfl (Or.inl rfl) hv
    · replace hv := hv.2 h
      refine bx_iconst C 1 13 dX8_isFigure_12 ic_1 rfl ?_
      refine bx_goto C 17 dX8_isFigure_13 (by decide) ?_
      exact bx_zret C () rfl dX8_isFigure_17 rfl (Or.inr rfl) hv
theorem k_X8_isFigure (l : Launch) (E : bx_E)   (K : Int32 → Prop)  (x0 : Int32) (hv : V_X8_isFigure  K  x0) : bx_Mi l E yX8_isFigure cX8_isFigure 1 (some .boolean) (rmD 0) [.int x0] (fun (_ : Unit) => ([] : va_W)) () (fun r (_ : Unit) => K r) :=
  bx_meti (by decide +kernel) (Nat.le_of_ble_eq_true rfl) (fun p e S m below meth c C => t_X8_isFigure_0 C  x0 hv)
abbrev G_X8_isLetter (p : Program) (l : Launch) (e : Env) (S : State) (m : MethodId) (args : Array Value) (below : List Frame) (meth : Method) (c : Code) (E : bx_E) (A : Nat → Prop)   (K : Int32 → Prop) (pc : Nat) (lv : List (Nat × Value)) (st : List Value) (ws : va_W) : Prop := bx_S p l e (rmD 0) S m args below meth c 1 E A (MQ below (va_Qi (fun r (_ : Unit) => K r) (fun (_ : Unit) t => bx_B E A (([] : va_W)) t) A) args S 0 0 A) 0 0 pc lv st ws
def V_X8_isLetter  (K : Int32 → Prop)   (x0 : Int32) : Prop := ((x0 < 97 → K 0) ∧
 (¬ x0 < 97 → ((122 < x0 → K 0) ∧
 (¬ 122 < x0 → K 1))))
set_option maxRecDepth 20000 in
set_option maxHeartbeats 4000000 in
theorem t_X8_isLetter_0 {K : Int32 → Prop} (C : bx_C p (rmD 0) S m args meth c cX8_isLetter 1 yX8_isLetter.cls (some .boolean) E A 0 0)    (x0 : Int32) (hv : V_X8_isLetter K  x0) : G_X8_isLetter p l e S m args below meth c E A   K 0 [(0, .int x0)] [] (([] : va_W)) := by
  unfold V_X8_isLetter at hv
  refine bx_iload_n C 1 dX8_isLetter_0 rfl rfl rfl ?_
  refine bx_bipush C 97 3 dX8_isLetter_1 bp_97 rfl ?_
  refine bx_icmp_lt C 16 6 dX8_isLetter_3 (by decide) rfl (fun h => ?_) (fun h => ?_)
  · replace hv := hv.1 h
    refine bx_iconst C 0 17 dX8_isLetter_16 ic_0 rfl ?_
    exact bx_zret C () rfl dX8_isLetter_17 rfl (Or.inl rfl) hv
  · replace hv := hv.2 h
    refine bx_iload_n C 7 dX8_isLetter_6 rfl rfl rfl ?_
    refine bx_bipush C 122 9 dX8_isLetter_7 bp_122 rfl ?_
    refine bx_icmp_gt C 16 12 dX8_isLetter_9 (by decide) rfl (fun h => ?_) (fun h => ?_)
    · replace hv := hv.1 h
      refine bx_iconst C 0 17 dX8_isLetter_16 ic_0 rfl ?_
      exact bx_zret C () rfl dX8_isLetter_17 rfl (Or.inl rfl) hv
    · replace hv := hv.2 h
      refine bx_iconst C 1 13 dX8_isLetter_12 ic_1 rfl ?_
      refine bx_goto C 17 dX8_isLetter_13 (by decide) ?_
      exact bx_zret C () rfl dX8_isLetter_17 rfl (Or.inr rfl) hv
theorem k_X8_isLetter (l : Launch) (E : bx_E)   (K : Int32 → Prop)  (x0 : Int32) (hv : V_X8_isLetter  K  x0) : bx_Mi l E yX8_isLetter cX8_isLetter 1 (some .boolean) (rmD 0) [.int x0] (fun (_ : Unit) => ([] : va_W)) () (fun r (_ : Unit) => K r) :=
  bx_meti (by decide +kernel) (Nat.le_of_ble_eq_true rfl) (fun p e S m below meth c C => t_X8_isLetter_0 C  x0 hv)
abbrev G_X8_wordBy (p : Program) (l : Launch) (e : Env) (S : State) (m : MethodId) (args : Array Value) (below : List Frame) (meth : Method) (c : Code) (E : bx_E) (A : Nat → Prop) (a : Nat → Nat)  (u : MS) (K : Int32 → Prop) (pc : Nat) (lv : List (Nat × Value)) (st : List Value) (ws : va_W) : Prop := bx_S p l e (rmD 0) S m args below meth c 5 E A (MQ below (va_Qi (fun r (_ : Unit) => K r) (fun (_ : Unit) t => bx_B E A (w_M E a u) t) A) args S 0 0 A) 0 0 pc lv st ws
def V_X8_wordBy_51  (K : Int32 → Prop)  (u : MS) (x1 : Int32) (x2 : Int64) : Prop := (((x1 - u.2.2.2.2.2.2.2.2.2.2.2.2.1) ≤ 7 → ((¬ (lg_cmp x2 263564) = 0 → ((¬ (lg_cmp x2 638636) = 0 → ((¬ (lg_cmp x2 113716) = 0 → ((¬ (lg_cmp x2 19764) = 0 → ((¬ (lg_cmp x2 16052) = 0 → ((¬ (lg_cmp x2 14276022451) = 0 → K 300) ∧
 ((lg_cmp x2 14276022451) = 0 → K 105))) ∧
 ((lg_cmp x2 16052) = 0 → K 104))) ∧
 ((lg_cmp x2 19764) = 0 → K 103))) ∧
 ((lg_cmp x2 113716) = 0 → K 102))) ∧
 ((lg_cmp x2 638636) = 0 → K 101))) ∧
 ((lg_cmp x2 263564) = 0 → K 100))) ∧
 (¬ (x1 - u.2.2.2.2.2.2.2.2.2.2.2.2.1) ≤ 7 → K 300))
set_option maxRecDepth 20000 in
set_option maxHeartbeats 4000000 in
theorem t_X8_wordBy_51 {a : Nat → Nat} {K : Int32 → Prop} (C : bx_C p (rmD 0) S m args meth c cX8_wordBy 5 yX8_wordBy.cls (some .int) E A 0 0) (u : MS)   (x1 : Int32) (x2 : Int64) (hv : V_X8_wordBy_51 K u x1 x2) : G_X8_wordBy p l e S m args below meth c E A a  u K 51 [(0, .ref (a 0)), (1, .int x1), (2, .long x2)] [] (w_M E a u) := by
  unfold V_X8_wordBy_51 at hv
  refine bx_iload_n C 52 dX8_wordBy_51 rfl rfl rfl ?_
  refine bx_aload_n C 53 dX8_wordBy_52 rfl rfl rfl ?_
  refine bx_getf (v := .int u.2.2.2.2.2.2.2.2.2.2.2.2.1) C 56 0 12 inX8 rfl (by decide) fl_X8_120 dX8_wordBy_53 at_M_0 rfl rfl ?_
  refine bx_isub C 57 dX8_wordBy_56 rfl ?_
  refine bx_bipush C 7 59 dX8_wordBy_57 bp_7 rfl ?_
  refine bx_icmp_le C 66 62 dX8_wordBy_59 (by decide) rfl (fun h => ?_) (fun h => ?_)
  · replace hv := hv.1 h
    refine bx_lload_n C 67 dX8_wordBy_66 rfl rfl rfl ?_
    refine bx_ldc2 C 70 cs_X8_127 dX8_wordBy_67 rfl ?_
    refine bx_lcmp C 71 dX8_wordBy_70 rfl ?_
    refine bx_if_ne C 79 74 dX8_wordBy_71 (by decide) rfl (fun h => ?_) (fun h => ?_)
    · replace hv := hv.1 h
      refine bx_lload_n C 80 dX8_wordBy_79 rfl rfl rfl ?_
      refine bx_ldc2 C 83 cs_X8_129 dX8_wordBy_80 rfl ?_
      refine bx_lcmp C 84 dX8_wordBy_83 rfl ?_
      refine bx_if_ne C 92 87 dX8_wordBy_84 (by decide) rfl (fun h => ?_) (fun h => ?_)
      · replace hv := hv.1 h
        refine bx_lload_n C 93 dX8_wordBy_92 rfl rfl rfl ?_
        refine bx_ldc2 C 96 cs_X8_131 dX8_wordBy_93 rfl ?_
        refine bx_lcmp C 97 dX8_wordBy_96 rfl ?_
        refine bx_if_ne C 105 100 dX8_wordBy_97 (by decide) rfl (fun h => ?_) (fun h => ?_)
        · replace hv := hv.1 h
          refine bx_lload_n C 106 dX8_wordBy_105 rfl rfl rfl ?_
          refine bx_ldc2 C 109 cs_X8_133 dX8_wordBy_106 rfl ?_
          refine bx_lcmp C 110 dX8_wordBy_109 rfl ?_
          refine bx_if_ne C 118 113 dX8_wordBy_110 (by decide) rfl (fun h => ?_) (fun h => ?_)
          · replace hv := hv.1 h
            refine bx_lload_n C 119 dX8_wordBy_118 rfl rfl rfl ?_
            refine bx_ldc2 C 122 cs_X8_135 dX8_wordBy_119 rfl ?_
            refine bx_lcmp C 123 dX8_wordBy_122 rfl ?_
            refine bx_if_ne C 131 126 dX8_wordBy_123 (by decide) rfl (fun h => ?_) (fun h => ?_)
            · replace hv := hv.1 h
              refine bx_lload_n C 132 dX8_wordBy_131 rfl rfl rfl ?_
              refine bx_ldc2 C 135 cs_X8_137 dX8_wordBy_132 rfl ?_
              refine bx_lcmp C 136 dX8_wordBy_135 rfl ?_
              refine bx_if_ne C 144 139 dX8_wordBy_136 (by decide) rfl (fun h => ?_) (fun h => ?_)
              · replace hv := hv.1 h
                refine bx_sipush C 300 147 dX8_wordBy_144 sp_300 rfl ?_
                exact bx_iret C () rfl dX8_wordBy_147 rfl hv
              · replace hv := hv.2 h
                refine bx_bipush C 105 141 dX8_wordBy_139 bp_105 rfl ?_
                refine bx_goto C 147 dX8_wordBy_141 (by decide) ?_
                exact bx_iret C () rfl dX8_wordBy_147 rfl hv
            · replace hv := hv.2 h
              refine bx_bipush C 104 128 dX8_wordBy_126 bp_104 rfl ?_
              refine bx_goto C 147 dX8_wordBy_128 (by decide) ?_
              exact bx_iret C () rfl dX8_wordBy_147 rfl hv
          · replace hv := hv.2 h
            refine bx_bipush C 103 115 dX8_wordBy_113 bp_103 rfl ?_
            refine bx_goto C 147 dX8_wordBy_115 (by decide) ?_
            exact bx_iret C () rfl dX8_wordBy_147 rfl hv
        · replace hv := hv.2 h
          refine bx_bipush C 102 102 dX8_wordBy_100 bp_102 rfl ?_
          refine bx_goto C 147 dX8_wordBy_102 (by decide) ?_
          exact bx_iret C () rfl dX8_wordBy_147 rfl hv
      · replace hv := hv.2 h
        refine bx_bipush C 101 89 dX8_wordBy_87 bp_101 rfl ?_
        refine bx_goto C 147 dX8_wordBy_89 (by decide) ?_
        exact bx_iret C () rfl dX8_wordBy_147 rfl hv
    · replace hv := hv.2 h
      refine bx_bipush C 100 76 dX8_wordBy_74 bp_100 rfl ?_
      refine bx_goto C 147 dX8_wordBy_76 (by decide) ?_
      exact bx_iret C () rfl dX8_wordBy_147 rfl hv
  · replace hv := hv.2 h
    refine bx_sipush C 300 65 dX8_wordBy_62 sp_300 rfl ?_
    exact bx_iret C () rfl dX8_wordBy_65 rfl hv
def V_X8_wordBy_8  (K : Int32 → Prop)  : Nat → MS → Int32 → Int64 → Int32 → Prop
  | 0, _, _, _, _ => False
  | n + 1, u, x1, x2, x4 => ((x1 ≤ x4 → V_X8_wordBy_51 K u x1 x2) ∧
 (¬ x1 ≤ x4 → (((u.2.2.2.2.2.2.2.2.2.2.2.2.1 + 7) ≤ x4 → V_X8_wordBy_51 K u x1 x2) ∧
 (¬ (u.2.2.2.2.2.2.2.2.2.2.2.2.1 + 7) ≤ x4 → (vp_in x4 150 ∧ V_X8_wordBy_8 K n u x1 (((32 * x2) + ((u.2.2.2.2.2.2.2.1 (x4 : Int32).toNatClampNeg) : Int32).toInt64) - 96) (x4 + 1))))))
set_option maxRecDepth 20000 in
set_option maxHeartbeats 4000000 in
theorem t_X8_wordBy_8 {a : Nat → Nat} {K : Int32 → Prop} (C : bx_C p (rmD 0) S m args meth c cX8_wordBy 5 yX8_wordBy.cls (some .int) E A 0 0) (u : MS)  : ∀ (n : Nat)  (x1 : Int32) (x2 : Int64) (x4 : Int32), V_X8_wordBy_8 K n u x1 x2 x4 → G_X8_wordBy p l e S m args below meth c E A a  u K 8 [(0, .ref (a 0)), (1, .int x1), (2, .long x2), (4, .int x4)] [] (w_M E a u) := by
  intro n
  induction n with
  | zero =>
    intro x1 x2 x4 hv
    exact False.elim hv
  | succ n ih =>
    intro x1 x2 x4 hv
    unfold V_X8_wordBy_8 at hv
    refine bx_iload C 10 dX8_wordBy_8 rfl rfl ?_
    refine bx_iload_n C 11 dX8_wordBy_10 rfl rfl rfl ?_
    refine bx_icmp_ge C 51 14 dX8_wordBy_11 (by decide) rfl (fun h => ?_) (fun h => ?_)
    · replace hv := hv.1 h
      exact bx_cut [0, 1, 2] (w_M E a u) rfl rfl (t_X8_wordBy_51 C u   x1 x2 hv)
    · replace hv := hv.2 h
      refine bx_iload C 16 dX8_wordBy_14 rfl rfl ?_
      refine bx_aload_n C 17 dX8_wordBy_16 rfl rfl rfl ?_
      refine bx_getf (v := .int u.2.2.2.2.2.2.2.2.2.2.2.2.1) C 20 0 12 inX8 rfl (by decide) fl_X8_120 dX8_wordBy_17 at_M_0 rfl rfl ?_
      refine bx_bipush C 7 22 dX8_wordBy_20 bp_7 rfl ?_
      refine bx_iadd C 23 dX8_wordBy_22 rfl ?_
      refine bx_icmp_ge C 51 26 dX8_wordBy_23 (by decide) rfl (fun h => ?_) (fun h => ?_)
      · replace hv := hv.1 h
        exact bx_cut [0, 1, 2] (w_M E a u) rfl rfl (t_X8_wordBy_51 C u   x1 x2 hv)
      · replace hv := hv.2 h
        refine bx_ldc2 C 29 cs_X8_123 dX8_wordBy_26 rfl ?_
        refine bx_lload_n C 30 dX8_wordBy_29 rfl rfl rfl ?_
        refine bx_lmul C 31 dX8_wordBy_30 rfl ?_
        refine bx_aload_n C 32 dX8_wordBy_31 rfl rfl rfl ?_
        refine bx_getf (v := .ref (a 6)) C 35 0 7 inX8 rfl (by decide) fl_X8_30 dX8_wordBy_32 at_M_0 rfl rfl ?_
        refine bx_iload C 37 dX8_wordBy_35 rfl rfl ?_
        refine bx_iald (f := u.2.2.2.2.2.2.2.1) C 38 6 dX8_wordBy_37 at_M_6 hv.1 rfl ?_
        replace hv := hv.2
        refine bx_i2l C 39 dX8_wordBy_38 rfl ?_
        refine bx_ladd C 40 dX8_wordBy_39 rfl ?_
        refine bx_ldc2 C 43 cs_X8_125 dX8_wordBy_40 rfl ?_
        refine bx_lsub C 44 dX8_wordBy_43 rfl ?_
        refine bx_lstore_n C 45 dX8_wordBy_44 rfl (by decide) rfl ?_
        refine bx_iinc C 1 48 dX8_wordBy_45 rfl (by decide) ic_1 rfl ?_
        refine bx_goto C 8 dX8_wordBy_48 (by decide) ?_
        exact bx_cut [2, 3, 1, 0] (w_M E a u) rfl rfl (ih  x1 (((32 * x2) + ((u.2.2.2.2.2.2.2.1 (x4 : Int32).toNatClampNeg) : Int32).toInt64) - 96) (x4 + 1) hv)
def V_X8_wordBy  (K : Int32 → Prop)  (u : MS) (x1 : Int32) : Prop := ∃ n1, V_X8_wordBy_8 K n1 u x1 0 u.2.2.2.2.2.2.2.2.2.2.2.2.1
set_option maxRecDepth 20000 in
set_option maxHeartbeats 4000000 in
theorem t_X8_wordBy_0 {a : Nat → Nat} {K : Int32 → Prop} (C : bx_C p (rmD 0) S m args meth c cX8_wordBy 5 yX8_wordBy.cls (some .int) E A 0 0) (u : MS)   (x1 : Int32) (hv : V_X8_wordBy K u x1) : G_X8_wordBy p l e S m args below meth c E A a  u K 0 [(0, .ref (a 0)), (1, .int x1)] [] (w_M E a u) := by
  unfold V_X8_wordBy at hv
  refine bx_lconst C 0 1 dX8_wordBy_0 lc_0 rfl ?_
  refine bx_lstore_n C 2 dX8_wordBy_1 rfl (by decide) rfl ?_
  refine bx_aload_n C 3 dX8_wordBy_2 rfl rfl rfl ?_
  refine bx_getf (v := .int u.2.2.2.2.2.2.2.2.2.2.2.2.1) C 6 0 12 inX8 rfl (by decide) fl_X8_120 dX8_wordBy_3 at_M_0 rfl rfl ?_
  refine bx_istore C 8 dX8_wordBy_6 (by decide) rfl ?_
  obtain ⟨n1, hv⟩ := hv
  exact bx_cut [2, 3, 1, 0] (w_M E a u) rfl rfl (t_X8_wordBy_8 C u  n1  x1 0 u.2.2.2.2.2.2.2.2.2.2.2.2.1 hv)
theorem k_X8_wordBy (l : Launch) (E : bx_E) (a : Nat → Nat)  (K : Int32 → Prop) (u : MS) (x1 : Int32) (hv : V_X8_wordBy  K u x1) : bx_Mi l E yX8_wordBy cX8_wordBy 5 (some .int) (rmD 0) [.ref (a 0), .int x1] (fun (_ : Unit) => w_M E a u) () (fun r (_ : Unit) => K r) :=
  bx_meti (by decide +kernel) (Nat.le_of_ble_eq_true rfl) (fun p e S m below meth c C => t_X8_wordBy_0 C u x1 hv)
abbrev G_X8_next (p : Program) (l : Launch) (e : Env) (S : State) (m : MethodId) (args : Array Value) (below : List Frame) (meth : Method) (c : Code) (E : bx_E) (A : Nat → Prop) (a : Nat → Nat)  (K : MS → Prop) (pc : Nat) (lv : List (Nat × Value)) (st : List Value) (ws : va_W) : Prop := bx_S p l e (rmD 1) S m args below meth c 2 E A (MQ below (va_Qv K (fun (u : MS) t => bx_B E A (w_M E a u) t) A) args S 0 0 A) 0 0 pc lv st ws
def V_X8_next_164  (K : MS → Prop) (B98 : MS → Prop) (u : MS) (z1 : Int32) : Prop := B98 (u.1, u.2.1, u.2.2.1, u.2.2.2.1, u.2.2.2.2.1, u.2.2.2.2.2.1, u.2.2.2.2.2.2.1, u.2.2.2.2.2.2.2.1, u.2.2.2.2.2.2.2.2.1, (u.2.2.2.2.2.2.2.2.2.1 + 1), u.2.2.2.2.2.2.2.2.2.2.1, z1, u.2.2.2.2.2.2.2.2.2.2.2.2)
set_option maxRecDepth 20000 in
set_option maxHeartbeats 4000000 in
theorem t_X8_next_164 {a : Nat → Nat} {K : MS → Prop} (C : bx_C p (rmD 1) S m args meth c cX8_next 2 yX8_next.cls none E A 0 0)  (B98 : MS → Prop) (hB98 : ∀ (u : MS) , B98 u  → G_X8_next p l e S m args below meth c E A a  K 98 [(0, .ref (a 0))] [] (w_M E a u)) (u : MS) (z1 : Int32) (hv : V_X8_next_164 K B98 u z1) : G_X8_next p l e S m args below meth c E A a  K 164 [(0, .ref (a 0))] [.int z1, .ref (a 0)] (w_M E a u) := by
  unfold V_X8_next_164 at hv
  refine bx_putf C 167 0 11 (w_M E a (u.1, u.2.1, u.2.2.1, u.2.2.2.1, u.2.2.2.2.1, u.2.2.2.2.2.1, u.2.2.2.2.2.2.1, u.2.2.2.2.2.2.2.1, u.2.2.2.2.2.2.2.2.1, u.2.2.2.2.2.2.2.2.2.1, u.2.2.2.2.2.2.2.2.2.2.1, z1, u.2.2.2.2.2.2.2.2.2.2.2.2)) inX8 tyX8 tyX8_ok nmX8 rfl (by decide) fl_X8_142 rfl dX8_next_164 rfl rfl rfl (Nat.le_of_ble_eq_true rfl) rfl rfl ?_
  refine bx_aload_n C 168 dX8_next_167 rfl rfl rfl ?_
  refine bx_dup C 169 dX8_next_168 rfl rfl ?_
  refine bx_getf (v := .int u.2.2.2.2.2.2.2.2.2.1) C 172 0 9 inX8 rfl (by decide) fl_X8_139 dX8_next_169 at_M_0 rfl rfl ?_
  refine bx_iconst C 1 173 dX8_next_172 ic_1 rfl ?_
  refine bx_iadd C 174 dX8_next_173 rfl ?_
  refine bx_putf C 177 0 9 (w_M E a (u.1, u.2.1, u.2.2.1, u.2.2.2.1, u.2.2.2.2.1, u.2.2.2.2.2.1, u.2.2.2.2.2.2.1, u.2.2.2.2.2.2.2.1, u.2.2.2.2.2.2.2.2.1, (u.2.2.2.2.2.2.2.2.2.1 + 1), u.2.2.2.2.2.2.2.2.2.2.1, z1, u.2.2.2.2.2.2.2.2.2.2.2.2)) inX8 tyX8 tyX8_ok nmX8 rfl (by decide) fl_X8_139 rfl dX8_next_174 rfl rfl rfl (Nat.le_of_ble_eq_true rfl) rfl rfl ?_
  refine bx_goto C 98 dX8_next_177 (by decide) ?_
  exact bx_cut [0] (w_M E a (u.1, u.2.1, u.2.2.1, u.2.2.2.1, u.2.2.2.2.1, u.2.2.2.2.2.1, u.2.2.2.2.2.2.1, u.2.2.2.2.2.2.2.1, u.2.2.2.2.2.2.2.2.1, (u.2.2.2.2.2.2.2.2.2.1 + 1), u.2.2.2.2.2.2.2.2.2.2.1, z1, u.2.2.2.2.2.2.2.2.2.2.2.2)) rfl rfl (hB98 (u.1, u.2.1, u.2.2.1, u.2.2.2.1, u.2.2.2.2.1, u.2.2.2.2.2.1, u.2.2.2.2.2.2.1, u.2.2.2.2.2.2.2.1, u.2.2.2.2.2.2.2.2.1, (u.2.2.2.2.2.2.2.2.2.1 + 1), u.2.2.2.2.2.2.2.2.2.2.1, z1, u.2.2.2.2.2.2.2.2.2.2.2.2)  hv)
def V_X8_next_98  (K : MS → Prop)  : Nat → MS → Prop
  | 0, _ => False
  | n + 1, u => ((u.2.2.2.2.2.2.2.2.1 ≤ u.2.2.2.2.2.2.2.2.2.1 → K u) ∧
 (¬ u.2.2.2.2.2.2.2.2.1 ≤ u.2.2.2.2.2.2.2.2.2.1 → (vp_in u.2.2.2.2.2.2.2.2.2.1 150 ∧ (V_X8_isFigure (fun r1 => ((r1 = 0 → K u) ∧
 (¬ r1 = 0 → ((¬ u.2.2.2.2.2.2.2.2.2.1 = (u.2.2.2.2.2.2.2.2.2.2.2.2.1 + 1) → V_X8_next_164 K (fun v  => V_X8_next_98 K n v ) u 300) ∧
 (u.2.2.2.2.2.2.2.2.2.1 = (u.2.2.2.2.2.2.2.2.2.2.2.2.1 + 1) → (vp_in u.2.2.2.2.2.2.2.2.2.1 150 ∧ V_X8_next_164 K (fun v  => V_X8_next_98 K n v ) u (((10 * u.2.2.2.2.2.2.2.2.2.2.2.1) + (u.2.2.2.2.2.2.2.1 (u.2.2.2.2.2.2.2.2.2.1 : Int32).toNatClampNeg)) - 48)))))))  (u.2.2.2.2.2.2.2.1 (u.2.2.2.2.2.2.2.2.2.1 : Int32).toNatClampNeg)))))
set_option maxRecDepth 20000 in
set_option maxHeartbeats 4000000 in
theorem t_X8_next_98 {a : Nat → Nat} {K : MS → Prop} (C : bx_C p (rmD 1) S m args meth c cX8_next 2 yX8_next.cls none E A 0 0)   : ∀ (n : Nat) (u : MS) , V_X8_next_98 K n u  → G_X8_next p l e S m args below meth c E A a  K 98 [(0, .ref (a 0))] [] (w_M E a u) := by
  intro n
  induction n with
  | zero =>
    intro u hv
    exact False.elim hv
  | succ n ih =>
    intro u hv
    unfold V_X8_next_98 at hv
    refine bx_aload_n C 99 dX8_next_98 rfl rfl rfl ?_
    refine bx_getf (v := .int u.2.2.2.2.2.2.2.2.2.1) C 102 0 9 inX8 rfl (by decide) fl_X8_139 dX8_next_99 at_M_0 rfl rfl ?_
    refine bx_aload_n C 103 dX8_next_102 rfl rfl rfl ?_
    refine bx_getf (v := .int u.2.2.2.2.2.2.2.2.1) C 106 0 8 inX8 rfl (by decide) fl_X8_117 dX8_next_103 at_M_0 rfl rfl ?_
    refine bx_icmp_ge C 260 109 dX8_next_106 (by decide) rfl (fun h => ?_) (fun h => ?_)
    · replace hv := hv.1 h
      exact bx_vret C u rfl dX8_next_260 rfl hv
    · replace hv := hv.2 h
      refine bx_aload_n C 110 dX8_next_109 rfl rfl rfl ?_
      refine bx_getf (v := .ref (a 6)) C 113 0 7 inX8 rfl (by decide) fl_X8_30 dX8_next_110 at_M_0 rfl rfl ?_
      refine bx_aload_n C 114 dX8_next_113 rfl rfl rfl ?_
      refine bx_getf (v := .int u.2.2.2.2.2.2.2.2.2.1) C 117 0 9 inX8 rfl (by decide) fl_X8_139 dX8_next_114 at_M_0 rfl rfl ?_
      refine bx_iald (f := u.2.2.2.2.2.2.2.1) C 118 6 dX8_next_117 at_M_6 hv.1 rfl ?_
      replace hv := hv.2
      refine bx_pSi C 121 fc_X8_145 (k_X8_isFigure l E  _ _ hv) dX8_next_118 ⟨rfl, rfl, Nat.le_of_ble_eq_true rfl, Nat.le_of_ble_eq_true rfl⟩ [] rfl (by decide) rfl rfl (Nat.le_of_ble_eq_true rfl) rfl (fun r1 hv => ?_)
      refine bx_if_eq C 260 124 dX8_next_121 (by decide) rfl (fun h => ?_) (fun h => ?_)
      · replace hv := hv.1 h
        exact bx_vret C u rfl dX8_next_260 rfl hv
      · replace hv := hv.2 h
        refine bx_aload_n C 125 dX8_next_124 rfl rfl rfl ?_
        refine bx_aload_n C 126 dX8_next_125 rfl rfl rfl ?_
        refine bx_getf (v := .int u.2.2.2.2.2.2.2.2.2.1) C 129 0 9 inX8 rfl (by decide) fl_X8_139 dX8_next_126 at_M_0 rfl rfl ?_
        refine bx_aload_n C 130 dX8_next_129 rfl rfl rfl ?_
        refine bx_getf (v := .int u.2.2.2.2.2.2.2.2.2.2.2.2.1) C 133 0 12 inX8 rfl (by decide) fl_X8_120 dX8_next_130 at_M_0 rfl rfl ?_
        refine bx_iconst C 1 134 dX8_next_133 ic_1 rfl ?_
        refine bx_iadd C 135 dX8_next_134 rfl ?_
        refine bx_icmp_ne C 161 138 dX8_next_135 (by decide) rfl (fun h => ?_) (fun h => ?_)
        · replace hv := hv.1 h
          refine bx_sipush C 300 164 dX8_next_161 sp_300 rfl ?_
          exact bx_cut [0] (w_M E a u) rfl rfl (t_X8_next_164 C  _ (fun v  hv => ih v  hv) u 300 hv)
        · replace hv := hv.2 h
          refine bx_bipush C 10 140 dX8_next_138 bp_10 rfl ?_
          refine bx_aload_n C 141 dX8_next_140 rfl rfl rfl ?_
          refine bx_getf (v := .int u.2.2.2.2.2.2.2.2.2.2.2.1) C 144 0 11 inX8 rfl (by decide) fl_X8_142 dX8_next_141 at_M_0 rfl rfl ?_
          refine bx_imul C 145 dX8_next_144 rfl ?_
          refine bx_aload_n C 146 dX8_next_145 rfl rfl rfl ?_
          refine bx_getf (v := .ref (a 6)) C 149 0 7 inX8 rfl (by decide) fl_X8_30 dX8_next_146 at_M_0 rfl rfl ?_
          refine bx_aload_n C 150 dX8_next_149 rfl rfl rfl ?_
          refine bx_getf (v := .int u.2.2.2.2.2.2.2.2.2.1) C 153 0 9 inX8 rfl (by decide) fl_X8_139 dX8_next_150 at_M_0 rfl rfl ?_
          refine bx_iald (f := u.2.2.2.2.2.2.2.1) C 154 6 dX8_next_153 at_M_6 hv.1 rfl ?_
          replace hv := hv.2
          refine bx_iadd C 155 dX8_next_154 rfl ?_
          refine bx_bipush C 48 157 dX8_next_155 bp_48 rfl ?_
          refine bx_isub C 158 dX8_next_157 rfl ?_
          refine bx_goto C 164 dX8_next_158 (by decide) ?_
          exact bx_cut [0] (w_M E a u) rfl rfl (t_X8_next_164 C  _ (fun v  hv => ih v  hv) u (((10 * u.2.2.2.2.2.2.2.2.2.2.2.1) + (u.2.2.2.2.2.2.2.1 (u.2.2.2.2.2.2.2.2.2.1 : Int32).toNatClampNeg)) - 48) hv)
def V_X8_next_226  (K : MS → Prop)  (u : MS)  : Prop := (V_X8_wordBy (fun r2 => K (u.1, u.2.1, u.2.2.1, u.2.2.2.1, u.2.2.2.2.1, u.2.2.2.2.2.1, u.2.2.2.2.2.2.1, u.2.2.2.2.2.2.2.1, u.2.2.2.2.2.2.2.2.1, u.2.2.2.2.2.2.2.2.2.1, u.2.2.2.2.2.2.2.2.2.2.1, r2, u.2.2.2.2.2.2.2.2.2.2.2.2)) u u.2.2.2.2.2.2.2.2.2.1)
set_option maxRecDepth 20000 in
set_option maxHeartbeats 4000000 in
theorem t_X8_next_226 {a : Nat → Nat} {K : MS → Prop} (C : bx_C p (rmD 1) S m args meth c cX8_next 2 yX8_next.cls none E A 0 0)   (u : MS)  (hv : V_X8_next_226 K u ) : G_X8_next p l e S m args below meth c E A a  K 226 [(0, .ref (a 0))] [] (w_M E a u) := by
  unfold V_X8_next_226 at hv
  refine bx_aload_n C 227 dX8_next_226 rfl rfl rfl ?_
  refine bx_aload_n C 228 dX8_next_227 rfl rfl rfl ?_
  refine bx_aload_n C 229 dX8_next_228 rfl rfl rfl ?_
  refine bx_getf (v := .int u.2.2.2.2.2.2.2.2.2.1) C 232 0 9 inX8 rfl (by decide) fl_X8_139 dX8_next_229 at_M_0 rfl rfl ?_
  refine bx_pVi C 0 at_M_0 rfl 235 fc_X8_151 (k_X8_wordBy l E a _ _ _ hv) dX8_next_232 ⟨rfl, rfl, Nat.le_of_ble_eq_true rfl, Nat.le_of_ble_eq_true rfl⟩ [0, 1, 2, 3, 4, 5, 6, 7, 8, 9] ps_M_M_0 (by decide) rfl rfl (Nat.le_of_ble_eq_true rfl) rfl (fun r2 hv => ?_)
  refine bx_putf C 238 0 11 (w_M E a (u.1, u.2.1, u.2.2.1, u.2.2.2.1, u.2.2.2.2.1, u.2.2.2.2.2.1, u.2.2.2.2.2.2.1, u.2.2.2.2.2.2.2.1, u.2.2.2.2.2.2.2.2.1, u.2.2.2.2.2.2.2.2.2.1, u.2.2.2.2.2.2.2.2.2.2.1, r2, u.2.2.2.2.2.2.2.2.2.2.2.2)) inX8 tyX8 tyX8_ok nmX8 rfl (by decide) fl_X8_142 rfl dX8_next_235 rfl rfl rfl (Nat.le_of_ble_eq_true rfl) rfl rfl ?_
  refine bx_goto C 260 dX8_next_238 (by decide) ?_
  exact bx_vret C (u.1, u.2.1, u.2.2.1, u.2.2.2.1, u.2.2.2.2.1, u.2.2.2.2.2.1, u.2.2.2.2.2.2.1, u.2.2.2.2.2.2.2.1, u.2.2.2.2.2.2.2.2.1, u.2.2.2.2.2.2.2.2.2.1, u.2.2.2.2.2.2.2.2.2.2.1, r2, u.2.2.2.2.2.2.2.2.2.2.2.2) rfl dX8_next_260 rfl hv
def V_X8_next_187  (K : MS → Prop)  : Nat → MS → Prop
  | 0, _ => False
  | n + 1, u => ((u.2.2.2.2.2.2.2.2.1 ≤ u.2.2.2.2.2.2.2.2.2.1 → V_X8_next_226 K u ) ∧
 (¬ u.2.2.2.2.2.2.2.2.1 ≤ u.2.2.2.2.2.2.2.2.2.1 → (vp_in u.2.2.2.2.2.2.2.2.2.1 150 ∧ (V_X8_isLetter (fun r3 => ((r3 = 0 → V_X8_next_226 K u ) ∧
 (¬ r3 = 0 → V_X8_next_187 K n (u.1, u.2.1, u.2.2.1, u.2.2.2.1, u.2.2.2.2.1, u.2.2.2.2.2.1, u.2.2.2.2.2.2.1, u.2.2.2.2.2.2.2.1, u.2.2.2.2.2.2.2.2.1, (u.2.2.2.2.2.2.2.2.2.1 + 1), u.2.2.2.2.2.2.2.2.2.2) )))  (u.2.2.2.2.2.2.2.1 (u.2.2.2.2.2.2.2.2.2.1 : Int32).toNatClampNeg)))))
set_option maxRecDepth 20000 in
set_option maxHeartbeats 4000000 in
theorem t_X8_next_187 {a : Nat → Nat} {K : MS → Prop} (C : bx_C p (rmD 1) S m args meth c cX8_next 2 yX8_next.cls none E A 0 0)   : ∀ (n : Nat) (u : MS) , V_X8_next_187 K n u  → G_X8_next p l e S m args below meth c E A a  K 187 [(0, .ref (a 0))] [] (w_M E a u) := by
  intro n
  induction n with
  | zero =>
    intro u hv
    exact False.elim hv
  | succ n ih =>
    intro u hv
    unfold V_X8_next_187 at hv
    refine bx_aload_n C 188 dX8_next_187 rfl rfl rfl ?_
    refine bx_getf (v := .int u.2.2.2.2.2.2.2.2.2.1) C 191 0 9 inX8 rfl (by decide) fl_X8_139 dX8_next_188 at_M_0 rfl rfl ?_
    refine bx_aload_n C 192 dX8_next_191 rfl rfl rfl ?_
    refine bx_getf (v := .int u.2.2.2.2.2.2.2.2.1) C 195 0 8 inX8 rfl (by decide) fl_X8_117 dX8_next_192 at_M_0 rfl rfl ?_
    refine bx_icmp_ge C 226 198 dX8_next_195 (by decide) rfl (fun h => ?_) (fun h => ?_)
    · replace hv := hv.1 h
      exact bx_cut [0] (w_M E a u) rfl rfl (t_X8_next_226 C   u  hv)
    · replace hv := hv.2 h
      refine bx_aload_n C 199 dX8_next_198 rfl rfl rfl ?_
      refine bx_getf (v := .ref (a 6)) C 202 0 7 inX8 rfl (by decide) fl_X8_30 dX8_next_199 at_M_0 rfl rfl ?_
      refine bx_aload_n C 203 dX8_next_202 rfl rfl rfl ?_
      refine bx_getf (v := .int u.2.2.2.2.2.2.2.2.2.1) C 206 0 9 inX8 rfl (by decide) fl_X8_139 dX8_next_203 at_M_0 rfl rfl ?_
      refine bx_iald (f := u.2.2.2.2.2.2.2.1) C 207 6 dX8_next_206 at_M_6 hv.1 rfl ?_
      replace hv := hv.2
      refine bx_pSi C 210 fc_X8_148 (k_X8_isLetter l E  _ _ hv) dX8_next_207 ⟨rfl, rfl, Nat.le_of_ble_eq_true rfl, Nat.le_of_ble_eq_true rfl⟩ [] rfl (by decide) rfl rfl (Nat.le_of_ble_eq_true rfl) rfl (fun r3 hv => ?_)
      refine bx_if_eq C 226 213 dX8_next_210 (by decide) rfl (fun h => ?_) (fun h => ?_)
      · replace hv := hv.1 h
        exact bx_cut [0] (w_M E a u) rfl rfl (t_X8_next_226 C   u  hv)
      · replace hv := hv.2 h
        refine bx_aload_n C 214 dX8_next_213 rfl rfl rfl ?_
        refine bx_dup C 215 dX8_next_214 rfl rfl ?_
        refine bx_getf (v := .int u.2.2.2.2.2.2.2.2.2.1) C 218 0 9 inX8 rfl (by decide) fl_X8_139 dX8_next_215 at_M_0 rfl rfl ?_
        refine bx_iconst C 1 219 dX8_next_218 ic_1 rfl ?_
        refine bx_iadd C 220 dX8_next_219 rfl ?_
        refine bx_putf C 223 0 9 (w_M E a (u.1, u.2.1, u.2.2.1, u.2.2.2.1, u.2.2.2.2.1, u.2.2.2.2.2.1, u.2.2.2.2.2.2.1, u.2.2.2.2.2.2.2.1, u.2.2.2.2.2.2.2.2.1, (u.2.2.2.2.2.2.2.2.2.1 + 1), u.2.2.2.2.2.2.2.2.2.2)) inX8 tyX8 tyX8_ok nmX8 rfl (by decide) fl_X8_139 rfl dX8_next_220 rfl rfl rfl (Nat.le_of_ble_eq_true rfl) rfl rfl ?_
        refine bx_goto C 187 dX8_next_223 (by decide) ?_
        exact bx_cut [0] (w_M E a (u.1, u.2.1, u.2.2.1, u.2.2.2.1, u.2.2.2.2.1, u.2.2.2.2.2.1, u.2.2.2.2.2.2.1, u.2.2.2.2.2.2.2.1, u.2.2.2.2.2.2.2.2.1, (u.2.2.2.2.2.2.2.2.2.1 + 1), u.2.2.2.2.2.2.2.2.2.2)) rfl rfl (ih (u.1, u.2.1, u.2.2.1, u.2.2.2.1, u.2.2.2.2.1, u.2.2.2.2.2.1, u.2.2.2.2.2.2.1, u.2.2.2.2.2.2.2.1, u.2.2.2.2.2.2.2.2.1, (u.2.2.2.2.2.2.2.2.2.1 + 1), u.2.2.2.2.2.2.2.2.2.2)  hv)
def V_X8_next_257  (K : MS → Prop)  (u : MS) (z1 : Int32) : Prop := K (u.1, u.2.1, u.2.2.1, u.2.2.2.1, u.2.2.2.2.1, u.2.2.2.2.2.1, u.2.2.2.2.2.2.1, u.2.2.2.2.2.2.2.1, u.2.2.2.2.2.2.2.2.1, u.2.2.2.2.2.2.2.2.2.1, u.2.2.2.2.2.2.2.2.2.2.1, z1, u.2.2.2.2.2.2.2.2.2.2.2.2)
set_option maxRecDepth 20000 in
set_option maxHeartbeats 4000000 in
theorem t_X8_next_257 {a : Nat → Nat} {K : MS → Prop} (C : bx_C p (rmD 1) S m args meth c cX8_next 2 yX8_next.cls none E A 0 0)   (u : MS) (z1 : Int32) (hv : V_X8_next_257 K u z1) : G_X8_next p l e S m args below meth c E A a  K 257 [(0, .ref (a 0))] [.int z1, .ref (a 0)] (w_M E a u) := by
  unfold V_X8_next_257 at hv
  refine bx_putf C 260 0 11 (w_M E a (u.1, u.2.1, u.2.2.1, u.2.2.2.1, u.2.2.2.2.1, u.2.2.2.2.2.1, u.2.2.2.2.2.2.1, u.2.2.2.2.2.2.2.1, u.2.2.2.2.2.2.2.2.1, u.2.2.2.2.2.2.2.2.2.1, u.2.2.2.2.2.2.2.2.2.2.1, z1, u.2.2.2.2.2.2.2.2.2.2.2.2)) inX8 tyX8 tyX8_ok nmX8 rfl (by decide) fl_X8_142 rfl dX8_next_257 rfl rfl rfl (Nat.le_of_ble_eq_true rfl) rfl rfl ?_
  exact bx_vret C (u.1, u.2.1, u.2.2.1, u.2.2.2.1, u.2.2.2.2.1, u.2.2.2.2.2.1, u.2.2.2.2.2.2.1, u.2.2.2.2.2.2.2.1, u.2.2.2.2.2.2.2.2.1, u.2.2.2.2.2.2.2.2.2.1, u.2.2.2.2.2.2.2.2.2.2.1, z1, u.2.2.2.2.2.2.2.2.2.2.2.2) rfl dX8_next_260 rfl hv
def V_X8_next_38  (K : MS → Prop)  (u : MS)  : Prop := ((¬ u.2.2.2.2.2.2.2.2.2.1 = u.2.2.2.2.2.2.2.2.1 → (vp_in u.2.2.2.2.2.2.2.2.2.1 150 ∧ (V_X8_isFigure (fun r4 => ((r4 = 0 → (V_X8_isLetter (fun r5 => ((r5 = 0 → ((¬ (u.2.2.2.2.2.2.2.1 (u.2.2.2.2.2.2.2.2.2.1 : Int32).toNatClampNeg) = 59 → V_X8_next_257 K (u.1, u.2.1, u.2.2.1, u.2.2.2.1, u.2.2.2.2.1, u.2.2.2.2.2.1, u.2.2.2.2.2.2.1, u.2.2.2.2.2.2.2.1, u.2.2.2.2.2.2.2.2.1, (u.2.2.2.2.2.2.2.2.2.1 + 1), u.2.2.2.2.2.2.2.2.2.2.1, u.2.2.2.2.2.2.2.2.2.2.2.1, u.2.2.2.2.2.2.2.2.2.1, u.2.2.2.2.2.2.2.2.2.2.2.2.2) 300) ∧
 ((u.2.2.2.2.2.2.2.1 (u.2.2.2.2.2.2.2.2.2.1 : Int32).toNatClampNeg) = 59 → V_X8_next_257 K (u.1, u.2.1, u.2.2.1, u.2.2.2.1, u.2.2.2.2.1, u.2.2.2.2.2.1, u.2.2.2.2.2.2.1, u.2.2.2.2.2.2.2.1, u.2.2.2.2.2.2.2.2.1, (u.2.2.2.2.2.2.2.2.2.1 + 1), u.2.2.2.2.2.2.2.2.2.2.1, u.2.2.2.2.2.2.2.2.2.2.2.1, u.2.2.2.2.2.2.2.2.2.1, u.2.2.2.2.2.2.2.2.2.2.2.2.2) 200))) ∧
 (¬ r5 = 0 → ∃ n6, V_X8_next_187 K n6 (u.1, u.2.1, u.2.2.1, u.2.2.2.1, u.2.2.2.2.1, u.2.2.2.2.2.1, u.2.2.2.2.2.2.1, u.2.2.2.2.2.2.2.1, u.2.2.2.2.2.2.2.2.1, (u.2.2.2.2.2.2.2.2.2.1 + 1), u.2.2.2.2.2.2.2.2.2.2.1, u.2.2.2.2.2.2.2.2.2.2.2.1, u.2.2.2.2.2.2.2.2.2.1, u.2.2.2.2.2.2.2.2.2.2.2.2.2) )))  (u.2.2.2.2.2.2.2.1 (u.2.2.2.2.2.2.2.2.2.1 : Int32).toNatClampNeg))) ∧
 (¬ r4 = 0 → ∃ n7, V_X8_next_98 K n7 (u.1, u.2.1, u.2.2.1, u.2.2.2.1, u.2.2.2.2.1, u.2.2.2.2.2.1, u.2.2.2.2.2.2.1, u.2.2.2.2.2.2.2.1, u.2.2.2.2.2.2.2.2.1, (u.2.2.2.2.2.2.2.2.2.1 + 1), u.2.2.2.2.2.2.2.2.2.2.1, ((u.2.2.2.2.2.2.2.1 (u.2.2.2.2.2.2.2.2.2.1 : Int32).toNatClampNeg) - 48), u.2.2.2.2.2.2.2.2.2.1, u.2.2.2.2.2.2.2.2.2.2.2.2.2) )))  (u.2.2.2.2.2.2.2.1 (u.2.2.2.2.2.2.2.2.2.1 : Int32).toNatClampNeg)))) ∧
 (u.2.2.2.2.2.2.2.2.2.1 = u.2.2.2.2.2.2.2.2.1 → K (u.1, u.2.1, u.2.2.1, u.2.2.2.1, u.2.2.2.2.1, u.2.2.2.2.2.1, u.2.2.2.2.2.2.1, u.2.2.2.2.2.2.2.1, u.2.2.2.2.2.2.2.2.1, u.2.2.2.2.2.2.2.2.2.1, u.2.2.2.2.2.2.2.2.2.2.1, (-1), u.2.2.2.2.2.2.2.2.2.1, u.2.2.2.2.2.2.2.2.2.2.2.2.2)))
set_option maxRecDepth 20000 in
set_option maxHeartbeats 4000000 in
theorem t_X8_next_38 {a : Nat → Nat} {K : MS → Prop} (C : bx_C p (rmD 1) S m args meth c cX8_next 2 yX8_next.cls none E A 0 0)   (u : MS)  (hv : V_X8_next_38 K u ) : G_X8_next p l e S m args below meth c E A a  K 38 [(0, .ref (a 0))] [] (w_M E a u) := by
  unfold V_X8_next_38 at hv
  refine bx_aload_n C 39 dX8_next_38 rfl rfl rfl ?_
  refine bx_aload_n C 40 dX8_next_39 rfl rfl rfl ?_
  refine bx_getf (v := .int u.2.2.2.2.2.2.2.2.2.1) C 43 0 9 inX8 rfl (by decide) fl_X8_139 dX8_next_40 at_M_0 rfl rfl ?_
  refine bx_putf C 46 0 12 (w_M E a (u.1, u.2.1, u.2.2.1, u.2.2.2.1, u.2.2.2.2.1, u.2.2.2.2.2.1, u.2.2.2.2.2.2.1, u.2.2.2.2.2.2.2.1, u.2.2.2.2.2.2.2.2.1, u.2.2.2.2.2.2.2.2.2.1, u.2.2.2.2.2.2.2.2.2.2.1, u.2.2.2.2.2.2.2.2.2.2.2.1, u.2.2.2.2.2.2.2.2.2.1, u.2.2.2.2.2.2.2.2.2.2.2.2.2)) inX8 tyX8 tyX8_ok nmX8 rfl (by decide) fl_X8_120 rfl dX8_next_43 rfl rfl rfl (Nat.le_of_ble_eq_true rfl) rfl rfl ?_
  refine bx_aload_n C 47 dX8_next_46 rfl rfl rfl ?_
  refine bx_getf (v := .int u.2.2.2.2.2.2.2.2.2.1) C 50 0 9 inX8 rfl (by decide) fl_X8_139 dX8_next_47 at_M_0 rfl rfl ?_
  refine bx_aload_n C 51 dX8_next_50 rfl rfl rfl ?_
  refine bx_getf (v := .int u.2.2.2.2.2.2.2.2.1) C 54 0 8 inX8 rfl (by decide) fl_X8_117 dX8_next_51 at_M_0 rfl rfl ?_
  refine bx_icmp_ne C 63 57 dX8_next_54 (by decide) rfl (fun h => ?_) (fun h => ?_)
  · replace hv := hv.1 h
    refine bx_aload_n C 64 dX8_next_63 rfl rfl rfl ?_
    refine bx_getf (v := .ref (a 6)) C 67 0 7 inX8 rfl (by decide) fl_X8_30 dX8_next_64 at_M_0 rfl rfl ?_
    refine bx_aload_n C 68 dX8_next_67 rfl rfl rfl ?_
    refine bx_getf (v := .int u.2.2.2.2.2.2.2.2.2.1) C 71 0 9 inX8 rfl (by decide) fl_X8_139 dX8_next_68 at_M_0 rfl rfl ?_
    refine bx_iald (f := u.2.2.2.2.2.2.2.1) C 72 6 dX8_next_71 at_M_6 hv.1 rfl ?_
    replace hv := hv.2
    refine bx_istore_n C 73 dX8_next_72 rfl (by decide) rfl ?_
    refine bx_aload_n C 74 dX8_next_73 rfl rfl rfl ?_
    refine bx_dup C 75 dX8_next_74 rfl rfl ?_
    refine bx_getf (v := .int u.2.2.2.2.2.2.2.2.2.1) C 78 0 9 inX8 rfl (by decide) fl_X8_139 dX8_next_75 at_M_0 rfl rfl ?_
    refine bx_iconst C 1 79 dX8_next_78 ic_1 rfl ?_
    refine bx_iadd C 80 dX8_next_79 rfl ?_
    refine bx_putf C 83 0 9 (w_M E a (u.1, u.2.1, u.2.2.1, u.2.2.2.1, u.2.2.2.2.1, u.2.2.2.2.2.1, u.2.2.2.2.2.2.1, u.2.2.2.2.2.2.2.1, u.2.2.2.2.2.2.2.2.1, (u.2.2.2.2.2.2.2.2.2.1 + 1), u.2.2.2.2.2.2.2.2.2.2.1, u.2.2.2.2.2.2.2.2.2.2.2.1, u.2.2.2.2.2.2.2.2.2.1, u.2.2.2.2.2.2.2.2.2.2.2.2.2)) inX8 tyX8 tyX8_ok nmX8 rfl (by decide) fl_X8_139 rfl dX8_next_80 rfl rfl rfl (Nat.le_of_ble_eq_true rfl) rfl rfl ?_
    refine bx_iload_n C 84 dX8_next_83 rfl rfl rfl ?_
    refine bx_pSi C 87 fc_X8_145 (k_X8_isFigure l E  _ _ hv) dX8_next_84 ⟨rfl, rfl, Nat.le_of_ble_eq_true rfl, Nat.le_of_ble_eq_true rfl⟩ [] rfl (by decide) rfl rfl (Nat.le_of_ble_eq_true rfl) rfl (fun r4 hv => ?_)
    refine bx_if_eq C 180 90 dX8_next_87 (by decide) rfl (fun h => ?_) (fun h => ?_)
    · replace hv := hv.1 h
      refine bx_iload_n C 181 dX8_next_180 rfl rfl rfl ?_
      refine bx_pSi C 184 fc_X8_148 (k_X8_isLetter l E  _ _ hv) dX8_next_181 ⟨rfl, rfl, Nat.le_of_ble_eq_true rfl, Nat.le_of_ble_eq_true rfl⟩ [] rfl (by decide) rfl rfl (Nat.le_of_ble_eq_true rfl) rfl (fun r5 hv => ?_)
      refine bx_if_eq C 241 187 dX8_next_184 (by decide) rfl (fun h => ?_) (fun h => ?_)
      · replace hv := hv.1 h
        refine bx_aload_n C 242 dX8_next_241 rfl rfl rfl ?_
        refine bx_iload_n C 243 dX8_next_242 rfl rfl rfl ?_
        refine bx_bipush C 59 245 dX8_next_243 bp_59 rfl ?_
        refine bx_icmp_ne C 254 248 dX8_next_245 (by decide) rfl (fun h => ?_) (fun h => ?_)
        · replace hv := hv.1 h
          refine bx_sipush C 300 257 dX8_next_254 sp_300 rfl ?_
          exact bx_cut [1] (w_M E a (u.1, u.2.1, u.2.2.1, u.2.2.2.1, u.2.2.2.2.1, u.2.2.2.2.2.1, u.2.2.2.2.2.2.1, u.2.2.2.2.2.2.2.1, u.2.2.2.2.2.2.2.2.1, (u.2.2.2.2.2.2.2.2.2.1 + 1), u.2.2.2.2.2.2.2.2.2.2.1, u.2.2.2.2.2.2.2.2.2.2.2.1, u.2.2.2.2.2.2.2.2.2.1, u.2.2.2.2.2.2.2.2.2.2.2.2.2)) rfl rfl (t_X8_next_257 C   (u.1, u.2.1, u.2.2.1, u.2.2.2.1, u.2.2.2.2.1, u.2.2.2.2.2.1, u.2.2.2.2.2.2.1, u.2.2.2.2.2.2.2.1, u.2.2.2.2.2.2.2.2.1, (u.2.2.2.2.2.2.2.2.2.1 + 1), u.2.2.2.2.2.2.2.2.2.2.1, u.2.2.2.2.2.2.2.2.2.2.2.1, u.2.2.2.2.2.2.2.2.2.1, u.2.2.2.2.2.2.2.2.2.2.2.2.2) 300 hv)
        · replace hv := hv.2 h
          refine bx_sipush C 200 251 dX8_next_248 sp_200 rfl ?_
          refine bx_goto C 257 dX8_next_251 (by decide) ?_
          exact bx_cut [1] (w_M E a (u.1, u.2.1, u.2.2.1, u.2.2.2.1, u.2.2.2.2.1, u.2.2.2.2.2.1, u.2.2.2.2.2.2.1, u.2.2.2.2.2.2.2.1, u.2.2.2.2.2.2.2.2.1, (u.2.2.2.2.2.2.2.2.2.1 + 1), u.2.2.2.2.2.2.2.2.2.2.1, u.2.2.2.2.2.2.2.2.2.2.2.1, u.2.2.2.2.2.2.2.2.2.1, u.2.2.2.2.2.2.2.2.2.2.2.2.2)) rfl rfl (t_X8_next_257 C   (u.1, u.2.1, u.2.2.1, u.2.2.2.1, u.2.2.2.2.1, u.2.2.2.2.2.1, u.2.2.2.2.2.2.1, u.2.2.2.2.2.2.2.1, u.2.2.2.2.2.2.2.2.1, (u.2.2.2.2.2.2.2.2.2.1 + 1), u.2.2.2.2.2.2.2.2.2.2.1, u.2.2.2.2.2.2.2.2.2.2.2.1, u.2.2.2.2.2.2.2.2.2.1, u.2.2.2.2.2.2.2.2.2.2.2.2.2) 200 hv)
      · replace hv := hv.2 h
        obtain ⟨n6, hv⟩ := hv
        exact bx_cut [1] (w_M E a (u.1, u.2.1, u.2.2.1, u.2.2.2.1, u.2.2.2.2.1, u.2.2.2.2.2.1, u.2.2.2.2.2.2.1, u.2.2.2.2.2.2.2.1, u.2.2.2.2.2.2.2.2.1, (u.2.2.2.2.2.2.2.2.2.1 + 1), u.2.2.2.2.2.2.2.2.2.2.1, u.2.2.2.2.2.2.2.2.2.2.2.1, u.2.2.2.2.2.2.2.2.2.1, u.2.2.2.2.2.2.2.2.2.2.2.2.2)) rfl rfl (t_X8_next_187 C   n6 (u.1, u.2.1, u.2.2.1, u.2.2.2.1, u.2.2.2.2.1, u.2.2.2.2.2.1, u.2.2.2.2.2.2.1, u.2.2.2.2.2.2.2.1, u.2.2.2.2.2.2.2.2.1, (u.2.2.2.2.2.2.2.2.2.1 + 1), u.2.2.2.2.2.2.2.2.2.2.1, u.2.2.2.2.2.2.2.2.2.2.2.1, u.2.2.2.2.2.2.2.2.2.1, u.2.2.2.2.2.2.2.2.2.2.2.2.2)  hv)
    · replace hv := hv.2 h
      refine bx_aload_n C 91 dX8_next_90 rfl rfl rfl ?_
      refine bx_iload_n C 92 dX8_next_91 rfl rfl rfl ?_
      refine bx_bipush C 48 94 dX8_next_92 bp_48 rfl ?_
      refine bx_isub C 95 dX8_next_94 rfl ?_
      refine bx_putf C 98 0 11 (w_M E a (u.1, u.2.1, u.2.2.1, u.2.2.2.1, u.2.2.2.2.1, u.2.2.2.2.2.1, u.2.2.2.2.2.2.1, u.2.2.2.2.2.2.2.1, u.2.2.2.2.2.2.2.2.1, (u.2.2.2.2.2.2.2.2.2.1 + 1), u.2.2.2.2.2.2.2.2.2.2.1, ((u.2.2.2.2.2.2.2.1 (u.2.2.2.2.2.2.2.2.2.1 : Int32).toNatClampNeg) - 48), u.2.2.2.2.2.2.2.2.2.1, u.2.2.2.2.2.2.2.2.2.2.2.2.2)) inX8 tyX8 tyX8_ok nmX8 rfl (by decide) fl_X8_142 rfl dX8_next_95 rfl rfl rfl (Nat.le_of_ble_eq_true rfl) rfl rfl ?_
      obtain ⟨n7, hv⟩ := hv
      exact bx_cut [1] (w_M E a (u.1, u.2.1, u.2.2.1, u.2.2.2.1, u.2.2.2.2.1, u.2.2.2.2.2.1, u.2.2.2.2.2.2.1, u.2.2.2.2.2.2.2.1, u.2.2.2.2.2.2.2.2.1, (u.2.2.2.2.2.2.2.2.2.1 + 1), u.2.2.2.2.2.2.2.2.2.2.1, ((u.2.2.2.2.2.2.2.1 (u.2.2.2.2.2.2.2.2.2.1 : Int32).toNatClampNeg) - 48), u.2.2.2.2.2.2.2.2.2.1, u.2.2.2.2.2.2.2.2.2.2.2.2.2)) rfl rfl (t_X8_next_98 C   n7 (u.1, u.2.1, u.2.2.1, u.2.2.2.1, u.2.2.2.2.1, u.2.2.2.2.2.1, u.2.2.2.2.2.2.1, u.2.2.2.2.2.2.2.1, u.2.2.2.2.2.2.2.2.1, (u.2.2.2.2.2.2.2.2.2.1 + 1), u.2.2.2.2.2.2.2.2.2.2.1, ((u.2.2.2.2.2.2.2.1 (u.2.2.2.2.2.2.2.2.2.1 : Int32).toNatClampNeg) - 48), u.2.2.2.2.2.2.2.2.2.1, u.2.2.2.2.2.2.2.2.2.2.2.2.2)  hv)
  · replace hv := hv.2 h
    refine bx_aload_n C 58 dX8_next_57 rfl rfl rfl ?_
    refine bx_iconst C (-1) 59 dX8_next_58 ic_m1 rfl ?_
    refine bx_putf C 62 0 11 (w_M E a (u.1, u.2.1, u.2.2.1, u.2.2.2.1, u.2.2.2.2.1, u.2.2.2.2.2.1, u.2.2.2.2.2.2.1, u.2.2.2.2.2.2.2.1, u.2.2.2.2.2.2.2.2.1, u.2.2.2.2.2.2.2.2.2.1, u.2.2.2.2.2.2.2.2.2.2.1, (-1), u.2.2.2.2.2.2.2.2.2.1, u.2.2.2.2.2.2.2.2.2.2.2.2.2)) inX8 tyX8 tyX8_ok nmX8 rfl (by decide) fl_X8_142 rfl dX8_next_59 rfl rfl rfl (Nat.le_of_ble_eq_true rfl) rfl rfl ?_
    exact bx_vret C (u.1, u.2.1, u.2.2.1, u.2.2.2.1, u.2.2.2.2.1, u.2.2.2.2.2.1, u.2.2.2.2.2.2.1, u.2.2.2.2.2.2.2.1, u.2.2.2.2.2.2.2.2.1, u.2.2.2.2.2.2.2.2.2.1, u.2.2.2.2.2.2.2.2.2.2.1, (-1), u.2.2.2.2.2.2.2.2.2.1, u.2.2.2.2.2.2.2.2.2.2.2.2.2) rfl dX8_next_62 rfl hv
def V_X8_next_0  (K : MS → Prop)  : Nat → MS → Prop
  | 0, _ => False
  | n + 1, u => ((u.2.2.2.2.2.2.2.2.1 ≤ u.2.2.2.2.2.2.2.2.2.1 → V_X8_next_38 K u ) ∧
 (¬ u.2.2.2.2.2.2.2.2.1 ≤ u.2.2.2.2.2.2.2.2.2.1 → (vp_in u.2.2.2.2.2.2.2.2.2.1 150 ∧ ((¬ (u.2.2.2.2.2.2.2.1 (u.2.2.2.2.2.2.2.2.2.1 : Int32).toNatClampNeg) = 32 → V_X8_next_38 K u ) ∧
 ((u.2.2.2.2.2.2.2.1 (u.2.2.2.2.2.2.2.2.2.1 : Int32).toNatClampNeg) = 32 → V_X8_next_0 K n (u.1, u.2.1, u.2.2.1, u.2.2.2.1, u.2.2.2.2.1, u.2.2.2.2.2.1, u.2.2.2.2.2.2.1, u.2.2.2.2.2.2.2.1, u.2.2.2.2.2.2.2.2.1, (u.2.2.2.2.2.2.2.2.2.1 + 1), u.2.2.2.2.2.2.2.2.2.2) )))))
set_option maxRecDepth 20000 in
set_option maxHeartbeats 4000000 in
theorem t_X8_next_0 {a : Nat → Nat} {K : MS → Prop} (C : bx_C p (rmD 1) S m args meth c cX8_next 2 yX8_next.cls none E A 0 0)   : ∀ (n : Nat) (u : MS) , V_X8_next_0 K n u  → G_X8_next p l e S m args below meth c E A a  K 0 [(0, .ref (a 0))] [] (w_M E a u) := by
  intro n
  induction n with
  | zero =>
    intro u hv
    exact False.elim hv
  | succ n ih =>
    intro u hv
    unfold V_X8_next_0 at hv
    refine bx_aload_n C 1 dX8_next_0 rfl rfl rfl ?_
    refine bx_getf (v := .int u.2.2.2.2.2.2.2.2.2.1) C 4 0 9 inX8 rfl (by decide) fl_X8_139 dX8_next_1 at_M_0 rfl rfl ?_
    refine bx_aload_n C 5 dX8_next_4 rfl rfl rfl ?_
    refine bx_getf (v := .int u.2.2.2.2.2.2.2.2.1) C 8 0 8 inX8 rfl (by decide) fl_X8_117 dX8_next_5 at_M_0 rfl rfl ?_
    refine bx_icmp_ge C 38 11 dX8_next_8 (by decide) rfl (fun h => ?_) (fun h => ?_)
    · replace hv := hv.1 h
      exact bx_cut [0] (w_M E a u) rfl rfl (t_X8_next_38 C   u  hv)
    · replace hv := hv.2 h
      refine bx_aload_n C 12 dX8_next_11 rfl rfl rfl ?_
      refine bx_getf (v := .ref (a 6)) C 15 0 7 inX8 rfl (by decide) fl_X8_30 dX8_next_12 at_M_0 rfl rfl ?_
      refine bx_aload_n C 16 dX8_next_15 rfl rfl rfl ?_
      refine bx_getf (v := .int u.2.2.2.2.2.2.2.2.2.1) C 19 0 9 inX8 rfl (by decide) fl_X8_139 dX8_next_16 at_M_0 rfl rfl ?_
      refine bx_iald (f := u.2.2.2.2.2.2.2.1) C 20 6 dX8_next_19 at_M_6 hv.1 rfl ?_
      replace hv := hv.2
      refine bx_bipush C 32 22 dX8_next_20 bp_32 rfl ?_
      refine bx_icmp_ne C 38 25 dX8_next_22 (by decide) rfl (fun h => ?_) (fun h => ?_)
      · replace hv := hv.1 h
        exact bx_cut [0] (w_M E a u) rfl rfl (t_X8_next_38 C   u  hv)
      · replace hv := hv.2 h
        refine bx_aload_n C 26 dX8_next_25 rfl rfl rfl ?_
        refine bx_dup C 27 dX8_next_26 rfl rfl ?_
        refine bx_getf (v := .int u.2.2.2.2.2.2.2.2.2.1) C 30 0 9 inX8 rfl (by decide) fl_X8_139 dX8_next_27 at_M_0 rfl rfl ?_
        refine bx_iconst C 1 31 dX8_next_30 ic_1 rfl ?_
        refine bx_iadd C 32 dX8_next_31 rfl ?_
        refine bx_putf C 35 0 9 (w_M E a (u.1, u.2.1, u.2.2.1, u.2.2.2.1, u.2.2.2.2.1, u.2.2.2.2.2.1, u.2.2.2.2.2.2.1, u.2.2.2.2.2.2.2.1, u.2.2.2.2.2.2.2.2.1, (u.2.2.2.2.2.2.2.2.2.1 + 1), u.2.2.2.2.2.2.2.2.2.2)) inX8 tyX8 tyX8_ok nmX8 rfl (by decide) fl_X8_139 rfl dX8_next_32 rfl rfl rfl (Nat.le_of_ble_eq_true rfl) rfl rfl ?_
        refine bx_goto C 0 dX8_next_35 (by decide) ?_
        exact bx_cut [0] (w_M E a (u.1, u.2.1, u.2.2.1, u.2.2.2.1, u.2.2.2.2.1, u.2.2.2.2.2.1, u.2.2.2.2.2.2.1, u.2.2.2.2.2.2.2.1, u.2.2.2.2.2.2.2.2.1, (u.2.2.2.2.2.2.2.2.2.1 + 1), u.2.2.2.2.2.2.2.2.2.2)) rfl rfl (ih (u.1, u.2.1, u.2.2.1, u.2.2.2.1, u.2.2.2.2.1, u.2.2.2.2.2.1, u.2.2.2.2.2.2.1, u.2.2.2.2.2.2.2.1, u.2.2.2.2.2.2.2.2.1, (u.2.2.2.2.2.2.2.2.2.1 + 1), u.2.2.2.2.2.2.2.2.2.2)  hv)
def V_X8_next  (K : MS → Prop) (u : MS)  : Prop := ∃ n, V_X8_next_0 K n u 
theorem k_X8_next (l : Launch) (E : bx_E) (a : Nat → Nat)  (K : MS → Prop) (u : MS)  (hv : V_X8_next  K u ) : bx_Mv l E yX8_next cX8_next 2 none (rmD 1) [.ref (a 0)] (fun (u : MS) => w_M E a u) u K :=
  bx_metv (by decide +kernel) (Nat.le_of_ble_eq_true rfl) (fun p e S m below meth c C => Exists.elim hv (fun n hv => t_X8_next_0 C n u  hv))
abbrev G_X8_must (p : Program) (l : Launch) (e : Env) (S : State) (m : MethodId) (args : Array Value) (below : List Frame) (meth : Method) (c : Code) (E : bx_E) (A : Nat → Prop) (a : Nat → Nat)  (K : MS → Prop) (pc : Nat) (lv : List (Nat × Value)) (st : List Value) (ws : va_W) : Prop := bx_S p l e (rmD 0) S m args below meth c 2 E A (MQ below (va_Qv K (fun (u : MS) t => bx_B E A (w_M E a u) t) A) args S 0 0 A) 0 0 pc lv st ws
def V_X8_must  (K : MS → Prop)  (u : MS) (x1 : Int32) : Prop := ((¬ x1 = 0 → K u) ∧
 (x1 = 0 → ((¬ u.2.2.2.2.2.2.2.2.2.2.1 = (-1) → K u) ∧
 (u.2.2.2.2.2.2.2.2.2.2.1 = (-1) → K (u.1, u.2.1, u.2.2.1, u.2.2.2.1, u.2.2.2.2.1, u.2.2.2.2.2.1, u.2.2.2.2.2.2.1, u.2.2.2.2.2.2.2.1, u.2.2.2.2.2.2.2.2.1, u.2.2.2.2.2.2.2.2.2.1, u.2.2.2.2.2.2.2.2.2.2.2.2.1, u.2.2.2.2.2.2.2.2.2.2.2)))))
set_option maxRecDepth 20000 in
set_option maxHeartbeats 4000000 in
theorem t_X8_must_0 {a : Nat → Nat} {K : MS → Prop} (C : bx_C p (rmD 0) S m args meth c cX8_must 2 yX8_must.cls none E A 0 0)   (u : MS) (x1 : Int32) (hv : V_X8_must K u x1) : G_X8_must p l e S m args below meth c E A a  K 0 [(0, .ref (a 0)), (1, .int x1)] [] (w_M E a u) := by
  unfold V_X8_must at hv
  refine bx_iload_n C 1 dX8_must_0 rfl rfl rfl ?_
  refine bx_if_ne C 20 4 dX8_must_1 (by decide) rfl (fun h => ?_) (fun h => ?_)
  · replace hv := hv.1 h
    exact bx_vret C u rfl dX8_must_20 rfl hv
  · replace hv := hv.2 h
    refine bx_aload_n C 5 dX8_must_4 rfl rfl rfl ?_
    refine bx_getf (v := .int u.2.2.2.2.2.2.2.2.2.2.1) C 8 0 10 inX8 rfl (by decide) fl_X8_33 dX8_must_5 at_M_0 rfl rfl ?_
    refine bx_iconst C (-1) 9 dX8_must_8 ic_m1 rfl ?_
    refine bx_icmp_ne C 20 12 dX8_must_9 (by decide) rfl (fun h => ?_) (fun h => ?_)
    · replace hv := hv.1 h
      exact bx_vret C u rfl dX8_must_20 rfl hv
    · replace hv := hv.2 h
      refine bx_aload_n C 13 dX8_must_12 rfl rfl rfl ?_
      refine bx_aload_n C 14 dX8_must_13 rfl rfl rfl ?_
      refine bx_getf (v := .int u.2.2.2.2.2.2.2.2.2.2.2.2.1) C 17 0 12 inX8 rfl (by decide) fl_X8_120 dX8_must_14 at_M_0 rfl rfl ?_
      refine bx_putf C 20 0 10 (w_M E a (u.1, u.2.1, u.2.2.1, u.2.2.2.1, u.2.2.2.2.1, u.2.2.2.2.2.1, u.2.2.2.2.2.2.1, u.2.2.2.2.2.2.2.1, u.2.2.2.2.2.2.2.2.1, u.2.2.2.2.2.2.2.2.2.1, u.2.2.2.2.2.2.2.2.2.2.2.2.1, u.2.2.2.2.2.2.2.2.2.2.2)) inX8 tyX8 tyX8_ok nmX8 rfl (by decide) fl_X8_33 rfl dX8_must_17 rfl rfl rfl (Nat.le_of_ble_eq_true rfl) rfl rfl ?_
      exact bx_vret C (u.1, u.2.1, u.2.2.1, u.2.2.2.1, u.2.2.2.2.1, u.2.2.2.2.2.1, u.2.2.2.2.2.2.1, u.2.2.2.2.2.2.2.1, u.2.2.2.2.2.2.2.2.1, u.2.2.2.2.2.2.2.2.2.1, u.2.2.2.2.2.2.2.2.2.2.2.2.1, u.2.2.2.2.2.2.2.2.2.2.2) rfl dX8_must_20 rfl hv
theorem k_X8_must (l : Launch) (E : bx_E) (a : Nat → Nat)  (K : MS → Prop) (u : MS) (x1 : Int32) (hv : V_X8_must  K u x1) : bx_Mv l E yX8_must cX8_must 2 none (rmD 0) [.ref (a 0), .int x1] (fun (u : MS) => w_M E a u) u K :=
  bx_metv (by decide +kernel) (Nat.le_of_ble_eq_true rfl) (fun p e S m below meth c C => t_X8_must_0 C u x1 hv)
abbrev G_X8_goOnReading (p : Program) (l : Launch) (e : Env) (S : State) (m : MethodId) (args : Array Value) (below : List Frame) (meth : Method) (c : Code) (E : bx_E) (A : Nat → Prop) (a : Nat → Nat)  (K : MS → Prop) (pc : Nat) (lv : List (Nat × Value)) (st : List Value) (ws : va_W) : Prop := bx_S p l e (rmD 2) S m args below meth c 1 E A (MQ below (va_Qv K (fun (u : MS) t => bx_B E A (w_M E a u) t) A) args S 0 0 A) 0 0 pc lv st ws
def V_X8_goOnReading  (K : MS → Prop)  (u : MS)  : Prop := ((¬ u.2.2.2.2.2.2.2.2.2.2.1 = (-1) → K u) ∧
 (u.2.2.2.2.2.2.2.2.2.2.1 = (-1) → (V_X8_next (fun u1 => K u1) u )))
set_option maxRecDepth 20000 in
set_option maxHeartbeats 4000000 in
theorem t_X8_goOnReading_0 {a : Nat → Nat} {K : MS → Prop} (C : bx_C p (rmD 2) S m args meth c cX8_goOnReading 1 yX8_goOnReading.cls none E A 0 0)   (u : MS)  (hv : V_X8_goOnReading K u ) : G_X8_goOnReading p l e S m args below meth c E A a  K 0 [(0, .ref (a 0))] [] (w_M E a u) := by
  unfold V_X8_goOnReading at hv
  refine bx_aload_n C 1 dX8_goOnReading_0 rfl rfl rfl ?_
  refine bx_getf (v := .int u.2.2.2.2.2.2.2.2.2.2.1) C 4 0 10 inX8 rfl (by decide) fl_X8_33 dX8_goOnReading_1 at_M_0 rfl rfl ?_
  refine bx_iconst C (-1) 5 dX8_goOnReading_4 ic_m1 rfl ?_
  refine bx_icmp_ne C 12 8 dX8_goOnReading_5 (by decide) rfl (fun h => ?_) (fun h => ?_)
  · replace hv := hv.1 h
    exact bx_vret C u rfl dX8_goOnReading_12 rfl hv
  · replace hv := hv.2 h
    refine bx_aload_n C 9 dX8_goOnReading_8 rfl rfl rfl ?_
    refine bx_qVv C 0 at_M_0 rfl 12 fc_X8_155 (k_X8_next l E a _ _ hv) dX8_goOnReading_9 ⟨rfl, rfl, Nat.le_of_ble_eq_true rfl, Nat.le_of_ble_eq_true rfl⟩ [0, 1, 2, 3, 4, 5, 6, 7, 8, 9] (fun u1 => w_M E a u1) ps_M_M_0 (by decide) ad_M pu_M_M_0 rfl rfl (Nat.le_of_ble_eq_true rfl) rfl (fun u1 hv => ?_)
    exact bx_vret C u1 rfl dX8_goOnReading_12 rfl hv
theorem k_X8_goOnReading (l : Launch) (E : bx_E) (a : Nat → Nat)  (K : MS → Prop) (u : MS)  (hv : V_X8_goOnReading  K u ) : bx_Mv l E yX8_goOnReading cX8_goOnReading 1 none (rmD 2) [.ref (a 0)] (fun (u : MS) => w_M E a u) u K :=
  bx_metv (by decide +kernel) (Nat.le_of_ble_eq_true rfl) (fun p e S m below meth c C => t_X8_goOnReading_0 C u  hv)
abbrev G_X8_number (p : Program) (l : Launch) (e : Env) (S : State) (m : MethodId) (args : Array Value) (below : List Frame) (meth : Method) (c : Code) (E : bx_E) (A : Nat → Prop) (a : Nat → Nat)  (K : Int32 → MS → Prop) (pc : Nat) (lv : List (Nat × Value)) (st : List Value) (ws : va_W) : Prop := bx_S p l e (rmD 3) S m args below meth c 4 E A (MQ below (va_Qi K (fun (u : MS) t => bx_B E A (w_M E a u) t) A) args S 0 0 A) 0 0 pc lv st ws
def V_X8_number_29  (K : Int32 → MS → Prop)  (u : MS) (z1 : Int32) : Prop := (V_X8_must (fun u1 => (V_X8_goOnReading (fun u2 => K u1.2.2.2.2.2.2.2.2.2.2.2.1 u2) u1 )) u z1)
set_option maxRecDepth 20000 in
set_option maxHeartbeats 4000000 in
theorem t_X8_number_29 {a : Nat → Nat} {K : Int32 → MS → Prop} (C : bx_C p (rmD 3) S m args meth c cX8_number 4 yX8_number.cls (some .int) E A 0 0)   (u : MS) (z1 : Int32) (hv : V_X8_number_29 K u z1) : G_X8_number p l e S m args below meth c E A a  K 29 [(0, .ref (a 0))] [.int z1, .ref (a 0)] (w_M E a u) := by
  unfold V_X8_number_29 at hv
  refine bx_qVv C 0 at_M_0 rfl 32 fc_X8_158 (k_X8_must l E a _ _ _ hv) dX8_number_29 ⟨rfl, rfl, Nat.le_of_ble_eq_true rfl, Nat.le_of_ble_eq_true rfl⟩ [0, 1, 2, 3, 4, 5, 6, 7, 8, 9] (fun u1 => w_M E a u1) ps_M_M_0 (by decide) ad_M pu_M_M_0 rfl rfl (Nat.le_of_ble_eq_true rfl) rfl (fun u1 hv => ?_)
  refine bx_aload_n C 33 dX8_number_32 rfl rfl rfl ?_
  refine bx_getf (v := .int u1.2.2.2.2.2.2.2.2.2.2.2.1) C 36 0 11 inX8 rfl (by decide) fl_X8_142 dX8_number_33 at_M_0 rfl rfl ?_
  refine bx_istore_n C 37 dX8_number_36 rfl (by decide) rfl ?_
  refine bx_aload_n C 38 dX8_number_37 rfl rfl rfl ?_
  refine bx_qVv C 0 at_M_0 rfl 41 fc_X8_162 (k_X8_goOnReading l E a _ _ hv) dX8_number_38 ⟨rfl, rfl, Nat.le_of_ble_eq_true rfl, Nat.le_of_ble_eq_true rfl⟩ [0, 1, 2, 3, 4, 5, 6, 7, 8, 9] (fun u2 => w_M E a u2) ps_M_M_0 (by decide) ad_M pu_M_M_0 rfl rfl (Nat.le_of_ble_eq_true rfl) rfl (fun u2 hv => ?_)
  refine bx_iload_n C 42 dX8_number_41 rfl rfl rfl ?_
  exact bx_iret C u2 rfl dX8_number_42 rfl hv
def V_X8_number_24  (K : Int32 → MS → Prop)  (u : MS)  : Prop := V_X8_number_29 K u 1
set_option maxRecDepth 20000 in
set_option maxHeartbeats 4000000 in
theorem t_X8_number_24 {a : Nat → Nat} {K : Int32 → MS → Prop} (C : bx_C p (rmD 3) S m args meth c cX8_number 4 yX8_number.cls (some .int) E A 0 0)   (u : MS)  (hv : V_X8_number_24 K u ) : G_X8_number p l e S m args below meth c E A a  K 24 [(0, .ref (a 0))] [.ref (a 0)] (w_M E a u) := by
  unfold V_X8_number_24 at hv
  refine bx_iconst C 1 25 dX8_number_24 ic_1 rfl ?_
  refine bx_goto C 29 dX8_number_25 (by decide) ?_
  exact bx_cut [0] (w_M E a u) rfl rfl (t_X8_number_29 C   u 1 hv)
def V_X8_number  (K : Int32 → MS → Prop)  (u : MS) (x1 : Int32) (x2 : Int32) : Prop := ((¬ u.2.2.2.2.2.2.2.2.2.2.1 = (-1) → V_X8_number_24 K u ) ∧
 (u.2.2.2.2.2.2.2.2.2.2.1 = (-1) → (V_X8_in (fun r3 => ((r3 = 0 → V_X8_number_29 K u 0) ∧
 (¬ r3 = 0 → V_X8_number_24 K u )))  ((u.2.2.2.2.2.2.2.2.2.2.2.1 : Int32).toInt64) ((x1 : Int32).toInt64) ((x2 : Int32).toInt64))))
set_option maxRecDepth 20000 in
set_option maxHeartbeats 4000000 in
theorem t_X8_number_0 {a : Nat → Nat} {K : Int32 → MS → Prop} (C : bx_C p (rmD 3) S m args meth c cX8_number 4 yX8_number.cls (some .int) E A 0 0)   (u : MS) (x1 : Int32) (x2 : Int32) (hv : V_X8_number K u x1 x2) : G_X8_number p l e S m args below meth c E A a  K 0 [(0, .ref (a 0)), (1, .int x1), (2, .int x2)] [] (w_M E a u) := by
  unfold V_X8_number at hv
  refine bx_aload_n C 1 dX8_number_0 rfl rfl rfl ?_
  refine bx_aload_n C 2 dX8_number_1 rfl rfl rfl ?_
  refine bx_getf (v := .int u.2.2.2.2.2.2.2.2.2.2.1) C 5 0 10 inX8 rfl (by decide) fl_X8_33 dX8_number_2 at_M_0 rfl rfl ?_
  refine bx_iconst C (-1) 6 dX8_number_5 ic_m1 rfl ?_
  refine bx_icmp_ne C 24 9 dX8_number_6 (by decide) rfl (fun h => ?_) (fun h => ?_)
  · replace hv := hv.1 h
    exact bx_cut [0] (w_M E a u) rfl rfl (t_X8_number_24 C   u  hv)
  · replace hv := hv.2 h
    refine bx_aload_n C 10 dX8_number_9 rfl rfl rfl ?_
    refine bx_getf (v := .int u.2.2.2.2.2.2.2.2.2.2.2.1) C 13 0 11 inX8 rfl (by decide) fl_X8_142 dX8_number_10 at_M_0 rfl rfl ?_
    refine bx_i2l C 14 dX8_number_13 rfl ?_
    refine bx_iload_n C 15 dX8_number_14 rfl rfl rfl ?_
    refine bx_i2l C 16 dX8_number_15 rfl ?_
    refine bx_iload_n C 17 dX8_number_16 rfl rfl rfl ?_
    refine bx_i2l C 18 dX8_number_17 rfl ?_
    refine bx_pSi C 21 fc_X8_46 (k_X8_in l E  _ _ _ _ hv) dX8_number_18 ⟨rfl, rfl, Nat.le_of_ble_eq_true rfl, Nat.le_of_ble_eq_true rfl⟩ [] rfl (by decide) rfl rfl (Nat.le_of_ble_eq_true rfl) rfl (fun r3 hv => ?_)
    refine bx_if_eq C 28 24 dX8_number_21 (by decide) rfl (fun h => ?_) (fun h => ?_)
    · replace hv := hv.1 h
      refine bx_iconst C 0 29 dX8_number_28 ic_0 rfl ?_
      exact bx_cut [0] (w_M E a u) rfl rfl (t_X8_number_29 C   u 0 hv)
    · replace hv := hv.2 h
      exact bx_cut [0] (w_M E a u) rfl rfl (t_X8_number_24 C   u  hv)
theorem k_X8_number (l : Launch) (E : bx_E) (a : Nat → Nat)  (K : Int32 → MS → Prop) (u : MS) (x1 : Int32) (x2 : Int32) (hv : V_X8_number  K u x1 x2) : bx_Mi l E yX8_number cX8_number 4 (some .int) (rmD 3) [.ref (a 0), .int x1, .int x2] (fun (u : MS) => w_M E a u) u K :=
  bx_meti (by decide +kernel) (Nat.le_of_ble_eq_true rfl) (fun p e S m below meth c C => t_X8_number_0 C u x1 x2 hv)
abbrev G_X8_end (p : Program) (l : Launch) (e : Env) (S : State) (m : MethodId) (args : Array Value) (below : List Frame) (meth : Method) (c : Code) (E : bx_E) (A : Nat → Prop) (a : Nat → Nat)  (K : MS → Prop) (pc : Nat) (lv : List (Nat × Value)) (st : List Value) (ws : va_W) : Prop := bx_S p l e (rmD 3) S m args below meth c 1 E A (MQ below (va_Qv K (fun (u : MS) t => bx_B E A (w_M E a u) t) A) args S 0 0 A) 0 0 pc lv st ws
def V_X8_end_24  (K : MS → Prop)  (u : MS) (z1 : Int32) : Prop := (V_X8_must (fun u1 => (V_X8_goOnReading (fun u2 => K u2) u1 )) u z1)
set_option maxRecDepth 20000 in
set_option maxHeartbeats 4000000 in
theorem t_X8_end_24 {a : Nat → Nat} {K : MS → Prop} (C : bx_C p (rmD 3) S m args meth c cX8_end 1 yX8_end.cls none E A 0 0)   (u : MS) (z1 : Int32) (hv : V_X8_end_24 K u z1) : G_X8_end p l e S m args below meth c E A a  K 24 [(0, .ref (a 0))] [.int z1, .ref (a 0)] (w_M E a u) := by
  unfold V_X8_end_24 at hv
  refine bx_qVv C 0 at_M_0 rfl 27 fc_X8_158 (k_X8_must l E a _ _ _ hv) dX8_end_24 ⟨rfl, rfl, Nat.le_of_ble_eq_true rfl, Nat.le_of_ble_eq_true rfl⟩ [0, 1, 2, 3, 4, 5, 6, 7, 8, 9] (fun u1 => w_M E a u1) ps_M_M_0 (by decide) ad_M pu_M_M_0 rfl rfl (Nat.le_of_ble_eq_true rfl) rfl (fun u1 hv => ?_)
  refine bx_aload_n C 28 dX8_end_27 rfl rfl rfl ?_
  refine bx_qVv C 0 at_M_0 rfl 31 fc_X8_162 (k_X8_goOnReading l E a _ _ hv) dX8_end_28 ⟨rfl, rfl, Nat.le_of_ble_eq_true rfl, Nat.le_of_ble_eq_true rfl⟩ [0, 1, 2, 3, 4, 5, 6, 7, 8, 9] (fun u2 => w_M E a u2) ps_M_M_0 (by decide) ad_M pu_M_M_0 rfl rfl (Nat.le_of_ble_eq_true rfl) rfl (fun u2 hv => ?_)
  exact bx_vret C u2 rfl dX8_end_31 rfl hv
def V_X8_end_19  (K : MS → Prop)  (u : MS)  : Prop := V_X8_end_24 K u 1
set_option maxRecDepth 20000 in
set_option maxHeartbeats 4000000 in
theorem t_X8_end_19 {a : Nat → Nat} {K : MS → Prop} (C : bx_C p (rmD 3) S m args meth c cX8_end 1 yX8_end.cls none E A 0 0)   (u : MS)  (hv : V_X8_end_19 K u ) : G_X8_end p l e S m args below meth c E A a  K 19 [(0, .ref (a 0))] [.ref (a 0)] (w_M E a u) := by
  unfold V_X8_end_19 at hv
  refine bx_iconst C 1 20 dX8_end_19 ic_1 rfl ?_
  refine bx_goto C 24 dX8_end_20 (by decide) ?_
  exact bx_cut [0] (w_M E a u) rfl rfl (t_X8_end_24 C   u 1 hv)
def V_X8_end  (K : MS → Prop)  (u : MS)  : Prop := ((¬ u.2.2.2.2.2.2.2.2.2.2.1 = (-1) → V_X8_end_19 K u ) ∧
 (u.2.2.2.2.2.2.2.2.2.2.1 = (-1) → ((¬ u.2.2.2.2.2.2.2.2.2.2.2.1 = 200 → V_X8_end_24 K u 0) ∧
 (u.2.2.2.2.2.2.2.2.2.2.2.1 = 200 → V_X8_end_19 K u ))))
set_option maxRecDepth 20000 in
set_option maxHeartbeats 4000000 in
theorem t_X8_end_0 {a : Nat → Nat} {K : MS → Prop} (C : bx_C p (rmD 3) S m args meth c cX8_end 1 yX8_end.cls none E A 0 0)   (u : MS)  (hv : V_X8_end K u ) : G_X8_end p l e S m args below meth c E A a  K 0 [(0, .ref (a 0))] [] (w_M E a u) := by
  unfold V_X8_end at hv
  refine bx_aload_n C 1 dX8_end_0 rfl rfl rfl ?_
  refine bx_aload_n C 2 dX8_end_1 rfl rfl rfl ?_
  refine bx_getf (v := .int u.2.2.2.2.2.2.2.2.2.2.1) C 5 0 10 inX8 rfl (by decide) fl_X8_33 dX8_end_2 at_M_0 rfl rfl ?_
  refine bx_iconst C (-1) 6 dX8_end_5 ic_m1 rfl ?_
  refine bx_icmp_ne C 19 9 dX8_end_6 (by decide) rfl (fun h => ?_) (fun h => ?_)
  · replace hv := hv.1 h
    exact bx_cut [0] (w_M E a u) rfl rfl (t_X8_end_19 C   u  hv)
  · replace hv := hv.2 h
    refine bx_aload_n C 10 dX8_end_9 rfl rfl rfl ?_
    refine bx_getf (v := .int u.2.2.2.2.2.2.2.2.2.2.2.1) C 13 0 11 inX8 rfl (by decide) fl_X8_142 dX8_end_10 at_M_0 rfl rfl ?_
    refine bx_sipush C 200 16 dX8_end_13 sp_200 rfl ?_
    refine bx_icmp_ne C 23 19 dX8_end_16 (by decide) rfl (fun h => ?_) (fun h => ?_)
    · replace hv := hv.1 h
      refine bx_iconst C 0 24 dX8_end_23 ic_0 rfl ?_
      exact bx_cut [0] (w_M E a u) rfl rfl (t_X8_end_24 C   u 0 hv)
    · replace hv := hv.2 h
      exact bx_cut [0] (w_M E a u) rfl rfl (t_X8_end_19 C   u  hv)
theorem k_X8_end (l : Launch) (E : bx_E) (a : Nat → Nat)  (K : MS → Prop) (u : MS)  (hv : V_X8_end  K u ) : bx_Mv l E yX8_end cX8_end 1 none (rmD 3) [.ref (a 0)] (fun (u : MS) => w_M E a u) u K :=
  bx_metv (by decide +kernel) (Nat.le_of_ble_eq_true rfl) (fun p e S m below meth c C => t_X8_end_0 C u  hv)
abbrev G_X8_readSoul (p : Program) (l : Launch) (e : Env) (S : State) (m : MethodId) (args : Array Value) (below : List Frame) (meth : Method) (c : Code) (E : bx_E) (A : Nat → Prop) (a : Nat → Nat)  (K : MS → Prop) (pc : Nat) (lv : List (Nat × Value)) (st : List Value) (ws : va_W) : Prop := bx_S p l e (rmD 4) S m args below meth c 3 E A (MQ below (va_Qv K (fun (u : MS) t => bx_B E A (w_M E a u) t) A) args S 0 0 A) 0 0 pc lv st ws
def V_X8_readSoul_18  (K : MS → Prop)  (u : MS) (z1 : Int32) : Prop := (V_X8_must (fun u1 => (V_X8_goOnReading (fun u2 => (V_X8_number (fun r3 u4 => (V_X8_number (fun r5 u6 => (V_X8_end (fun u7 => ((¬ u7.2.2.2.2.2.2.2.2.2.2.1 = (-1) → K u7) ∧
 (u7.2.2.2.2.2.2.2.2.2.2.1 = (-1) → (V_X8_comes (fun u8 => K (u7.1, u8, u7.2.2)) u7.2.1 r3 r5)))) u6 )) u4 0 29)) u2 0 5)) u1 )) u z1)
set_option maxRecDepth 20000 in
set_option maxHeartbeats 4000000 in
theorem t_X8_readSoul_18 {a : Nat → Nat} {K : MS → Prop} (C : bx_C p (rmD 4) S m args meth c cX8_readSoul 3 yX8_readSoul.cls none E A 0 0)   (u : MS) (z1 : Int32) (hv : V_X8_readSoul_18 K u z1) : G_X8_readSoul p l e S m args below meth c E A a  K 18 [(0, .ref (a 0))] [.int z1, .ref (a 0)] (w_M E a u) := by
  unfold V_X8_readSoul_18 at hv
  refine bx_qVv C 0 at_M_0 rfl 21 fc_X8_158 (k_X8_must l E a _ _ _ hv) dX8_readSoul_18 ⟨rfl, rfl, Nat.le_of_ble_eq_true rfl, Nat.le_of_ble_eq_true rfl⟩ [0, 1, 2, 3, 4, 5, 6, 7, 8, 9] (fun u1 => w_M E a u1) ps_M_M_0 (by decide) ad_M pu_M_M_0 rfl rfl (Nat.le_of_ble_eq_true rfl) rfl (fun u1 hv => ?_)
  refine bx_aload_n C 22 dX8_readSoul_21 rfl rfl rfl ?_
  refine bx_qVv C 0 at_M_0 rfl 25 fc_X8_162 (k_X8_goOnReading l E a _ _ hv) dX8_readSoul_22 ⟨rfl, rfl, Nat.le_of_ble_eq_true rfl, Nat.le_of_ble_eq_true rfl⟩ [0, 1, 2, 3, 4, 5, 6, 7, 8, 9] (fun u2 => w_M E a u2) ps_M_M_0 (by decide) ad_M pu_M_M_0 rfl rfl (Nat.le_of_ble_eq_true rfl) rfl (fun u2 hv => ?_)
  refine bx_aload_n C 26 dX8_readSoul_25 rfl rfl rfl ?_
  refine bx_iconst C 0 27 dX8_readSoul_26 ic_0 rfl ?_
  refine bx_iconst C 5 28 dX8_readSoul_27 ic_5 rfl ?_
  refine bx_qVi C 0 at_M_0 rfl 31 fc_X8_165 (k_X8_number l E a _ _ _ _ hv) dX8_readSoul_28 ⟨rfl, rfl, Nat.le_of_ble_eq_true rfl, Nat.le_of_ble_eq_true rfl⟩ [0, 1, 2, 3, 4, 5, 6, 7, 8, 9] (fun u4 => w_M E a u4) ps_M_M_0 (by decide) ad_M pu_M_M_0 rfl rfl (Nat.le_of_ble_eq_true rfl) rfl (fun r3 u4 hv => ?_)
  refine bx_istore_n C 32 dX8_readSoul_31 rfl (by decide) rfl ?_
  refine bx_aload_n C 33 dX8_readSoul_32 rfl rfl rfl ?_
  refine bx_iconst C 0 34 dX8_readSoul_33 ic_0 rfl ?_
  refine bx_bipush C 29 36 dX8_readSoul_34 bp_29 rfl ?_
  refine bx_qVi C 0 at_M_0 rfl 39 fc_X8_165 (k_X8_number l E a _ _ _ _ hv) dX8_readSoul_36 ⟨rfl, rfl, Nat.le_of_ble_eq_true rfl, Nat.le_of_ble_eq_true rfl⟩ [0, 1, 2, 3, 4, 5, 6, 7, 8, 9] (fun u6 => w_M E a u6) ps_M_M_0 (by decide) ad_M pu_M_M_0 rfl rfl (Nat.le_of_ble_eq_true rfl) rfl (fun r5 u6 hv => ?_)
  refine bx_istore_n C 40 dX8_readSoul_39 rfl (by decide) rfl ?_
  refine bx_aload_n C 41 dX8_readSoul_40 rfl rfl rfl ?_
  refine bx_qVv C 0 at_M_0 rfl 44 fc_X8_168 (k_X8_end l E a _ _ hv) dX8_readSoul_41 ⟨rfl, rfl, Nat.le_of_ble_eq_true rfl, Nat.le_of_ble_eq_true rfl⟩ [0, 1, 2, 3, 4, 5, 6, 7, 8, 9] (fun u7 => w_M E a u7) ps_M_M_0 (by decide) ad_M pu_M_M_0 rfl rfl (Nat.le_of_ble_eq_true rfl) rfl (fun u7 hv => ?_)
  refine bx_aload_n C 45 dX8_readSoul_44 rfl rfl rfl ?_
  refine bx_getf (v := .int u7.2.2.2.2.2.2.2.2.2.2.1) C 48 0 10 inX8 rfl (by decide) fl_X8_33 dX8_readSoul_45 at_M_0 rfl rfl ?_
  refine bx_iconst C (-1) 49 dX8_readSoul_48 ic_m1 rfl ?_
  refine bx_icmp_ne C 61 52 dX8_readSoul_49 (by decide) rfl (fun h => ?_) (fun h => ?_)
  · replace hv := hv.1 h
    exact bx_vret C u7 rfl dX8_readSoul_61 rfl hv
  · replace hv := hv.2 h
    refine bx_aload_n C 53 dX8_readSoul_52 rfl rfl rfl ?_
    refine bx_getf (v := .ref (a 2)) C 56 0 1 inX8 rfl (by decide) fl_X8_13 dX8_readSoul_53 at_M_0 rfl rfl ?_
    refine bx_iload_n C 57 dX8_readSoul_56 rfl rfl rfl ?_
    refine bx_iload_n C 58 dX8_readSoul_57 rfl rfl rfl ?_
    refine bx_qSv C 61 fc_X8_112 (k_X8_comes l E (fun k => a (2 + k)) _ _ _ _ hv) dX8_readSoul_58 ⟨rfl, rfl, Nat.le_of_ble_eq_true rfl, Nat.le_of_ble_eq_true rfl⟩ [2] (fun u8 => w_M E a (u7.1, u8, u7.2.2)) ps_M_A_2 (by decide) ad_A pu_M_A_2 rfl rfl (Nat.le_of_ble_eq_true rfl) rfl (fun u8 hv => ?_)
    exact bx_vret C (u7.1, u8, u7.2.2) rfl dX8_readSoul_61 rfl hv
def V_X8_readSoul  (K : MS → Prop)  (u : MS)  : Prop := ((7 ≤ (u.2.1 8) → V_X8_readSoul_18 K u 0) ∧
 (¬ 7 ≤ (u.2.1 8) → V_X8_readSoul_18 K u 1))
set_option maxRecDepth 20000 in
set_option maxHeartbeats 4000000 in
theorem t_X8_readSoul_0 {a : Nat → Nat} {K : MS → Prop} (C : bx_C p (rmD 4) S m args meth c cX8_readSoul 3 yX8_readSoul.cls none E A 0 0)   (u : MS)  (hv : V_X8_readSoul K u ) : G_X8_readSoul p l e S m args below meth c E A a  K 0 [(0, .ref (a 0))] [] (w_M E a u) := by
  unfold V_X8_readSoul at hv
  refine bx_aload_n C 1 dX8_readSoul_0 rfl rfl rfl ?_
  refine bx_aload_n C 2 dX8_readSoul_1 rfl rfl rfl ?_
  refine bx_getf (v := .ref (a 2)) C 5 0 1 inX8 rfl (by decide) fl_X8_13 dX8_readSoul_2 at_M_0 rfl rfl ?_
  refine bx_bipush C 8 7 dX8_readSoul_5 bp_8 rfl ?_
  refine bx_iald_k (f := u.2.1) C 8 2 8 dX8_readSoul_7 at_M_2 vin_8_171 cl_8 rfl ?_
  refine bx_bipush C 7 10 dX8_readSoul_8 bp_7 rfl ?_
  refine bx_icmp_ge C 17 13 dX8_readSoul_10 (by decide) rfl (fun h => ?_) (fun h => ?_)
  · replace hv := hv.1 h
    refine bx_iconst C 0 18 dX8_readSoul_17 ic_0 rfl ?_
    exact bx_cut [0] (w_M E a u) rfl rfl (t_X8_readSoul_18 C   u 0 hv)
  · replace hv := hv.2 h
    refine bx_iconst C 1 14 dX8_readSoul_13 ic_1 rfl ?_
    refine bx_goto C 18 dX8_readSoul_14 (by decide) ?_
    exact bx_cut [0] (w_M E a u) rfl rfl (t_X8_readSoul_18 C   u 1 hv)
theorem k_X8_readSoul (l : Launch) (E : bx_E) (a : Nat → Nat)  (K : MS → Prop) (u : MS)  (hv : V_X8_readSoul  K u ) : bx_Mv l E yX8_readSoul cX8_readSoul 3 none (rmD 4) [.ref (a 0)] (fun (u : MS) => w_M E a u) u K :=
  bx_metv (by decide +kernel) (Nat.le_of_ble_eq_true rfl) (fun p e S m below meth c C => t_X8_readSoul_0 C u  hv)
abbrev G_X8_freeCell (p : Program) (l : Launch) (e : Env) (S : State) (m : MethodId) (args : Array Value) (below : List Frame) (meth : Method) (c : Code) (E : bx_E) (A : Nat → Prop) (a : Nat → Nat)  (K : Int32 → MS → Prop) (pc : Nat) (lv : List (Nat × Value)) (st : List Value) (ws : va_W) : Prop := bx_S p l e (rmD 4) S m args below meth c 2 E A (MQ below (va_Qi K (fun (u : MS) t => bx_B E A (w_M E a u) t) A) args S 0 0 A) 0 0 pc lv st ws
def V_X8_freeCell_43  (K : Int32 → MS → Prop)  (u : MS) (z1 : Int32) : Prop := (V_X8_must (fun u1 => (V_X8_goOnReading (fun u2 => K u1.2.2.2.2.2.2.2.2.2.2.2.1 u2) u1 )) u z1)
set_option maxRecDepth 20000 in
set_option maxHeartbeats 4000000 in
theorem t_X8_freeCell_43 {a : Nat → Nat} {K : Int32 → MS → Prop} (C : bx_C p (rmD 4) S m args meth c cX8_freeCell 2 yX8_freeCell.cls (some .int) E A 0 0)   (u : MS) (z1 : Int32) (hv : V_X8_freeCell_43 K u z1) : G_X8_freeCell p l e S m args below meth c E A a  K 43 [(0, .ref (a 0))] [.int z1, .ref (a 0)] (w_M E a u) := by
  unfold V_X8_freeCell_43 at hv
  refine bx_qVv C 0 at_M_0 rfl 46 fc_X8_158 (k_X8_must l E a _ _ _ hv) dX8_freeCell_43 ⟨rfl, rfl, Nat.le_of_ble_eq_true rfl, Nat.le_of_ble_eq_true rfl⟩ [0, 1, 2, 3, 4, 5, 6, 7, 8, 9] (fun u1 => w_M E a u1) ps_M_M_0 (by decide) ad_M pu_M_M_0 rfl rfl (Nat.le_of_ble_eq_true rfl) rfl (fun u1 hv => ?_)
  refine bx_aload_n C 47 dX8_freeCell_46 rfl rfl rfl ?_
  refine bx_getf (v := .int u1.2.2.2.2.2.2.2.2.2.2.2.1) C 50 0 11 inX8 rfl (by decide) fl_X8_142 dX8_freeCell_47 at_M_0 rfl rfl ?_
  refine bx_istore_n C 51 dX8_freeCell_50 rfl (by decide) rfl ?_
  refine bx_aload_n C 52 dX8_freeCell_51 rfl rfl rfl ?_
  refine bx_qVv C 0 at_M_0 rfl 55 fc_X8_162 (k_X8_goOnReading l E a _ _ hv) dX8_freeCell_52 ⟨rfl, rfl, Nat.le_of_ble_eq_true rfl, Nat.le_of_ble_eq_true rfl⟩ [0, 1, 2, 3, 4, 5, 6, 7, 8, 9] (fun u2 => w_M E a u2) ps_M_M_0 (by decide) ad_M pu_M_M_0 rfl rfl (Nat.le_of_ble_eq_true rfl) rfl (fun u2 hv => ?_)
  refine bx_iload_n C 56 dX8_freeCell_55 rfl rfl rfl ?_
  exact bx_iret C u2 rfl dX8_freeCell_56 rfl hv
def V_X8_freeCell_38  (K : Int32 → MS → Prop)  (u : MS)  : Prop := V_X8_freeCell_43 K u 1
set_option maxRecDepth 20000 in
set_option maxHeartbeats 4000000 in
theorem t_X8_freeCell_38 {a : Nat → Nat} {K : Int32 → MS → Prop} (C : bx_C p (rmD 4) S m args meth c cX8_freeCell 2 yX8_freeCell.cls (some .int) E A 0 0)   (u : MS)  (hv : V_X8_freeCell_38 K u ) : G_X8_freeCell p l e S m args below meth c E A a  K 38 [(0, .ref (a 0))] [.ref (a 0)] (w_M E a u) := by
  unfold V_X8_freeCell_38 at hv
  refine bx_iconst C 1 39 dX8_freeCell_38 ic_1 rfl ?_
  refine bx_goto C 43 dX8_freeCell_39 (by decide) ?_
  exact bx_cut [0] (w_M E a u) rfl rfl (t_X8_freeCell_43 C   u 1 hv)
def V_X8_freeCell_42  (K : Int32 → MS → Prop)  (u : MS)  : Prop := V_X8_freeCell_43 K u 0
set_option maxRecDepth 20000 in
set_option maxHeartbeats 4000000 in
theorem t_X8_freeCell_42 {a : Nat → Nat} {K : Int32 → MS → Prop} (C : bx_C p (rmD 4) S m args meth c cX8_freeCell 2 yX8_freeCell.cls (some .int) E A 0 0)   (u : MS)  (hv : V_X8_freeCell_42 K u ) : G_X8_freeCell p l e S m args below meth c E A a  K 42 [(0, .ref (a 0))] [.ref (a 0)] (w_M E a u) := by
  unfold V_X8_freeCell_42 at hv
  refine bx_iconst C 0 43 dX8_freeCell_42 ic_0 rfl ?_
  exact bx_cut [0] (w_M E a u) rfl rfl (t_X8_freeCell_43 C   u 0 hv)
def V_X8_freeCell  (K : Int32 → MS → Prop)  (u : MS)  : Prop := ((¬ u.2.2.2.2.2.2.2.2.2.2.1 = (-1) → V_X8_freeCell_38 K u ) ∧
 (u.2.2.2.2.2.2.2.2.2.2.1 = (-1) → (V_X8_in (fun r3 => ((r3 = 0 → V_X8_freeCell_42 K u ) ∧
 (¬ r3 = 0 → (V_X8_isFree (fun r4 => ((r4 = 0 → V_X8_freeCell_42 K u ) ∧
 (¬ r4 = 0 → V_X8_freeCell_38 K u ))) u.2.1 u.2.2.2.2.2.2.2.2.2.2.2.1))))  ((u.2.2.2.2.2.2.2.2.2.2.2.1 : Int32).toInt64) 0 29)))
set_option maxRecDepth 20000 in
set_option maxHeartbeats 4000000 in
theorem t_X8_freeCell_0 {a : Nat → Nat} {K : Int32 → MS → Prop} (C : bx_C p (rmD 4) S m args meth c cX8_freeCell 2 yX8_freeCell.cls (some .int) E A 0 0)   (u : MS)  (hv : V_X8_freeCell K u ) : G_X8_freeCell p l e S m args below meth c E A a  K 0 [(0, .ref (a 0))] [] (w_M E a u) := by
  unfold V_X8_freeCell at hv
  refine bx_aload_n C 1 dX8_freeCell_0 rfl rfl rfl ?_
  refine bx_aload_n C 2 dX8_freeCell_1 rfl rfl rfl ?_
  refine bx_getf (v := .int u.2.2.2.2.2.2.2.2.2.2.1) C 5 0 10 inX8 rfl (by decide) fl_X8_33 dX8_freeCell_2 at_M_0 rfl rfl ?_
  refine bx_iconst C (-1) 6 dX8_freeCell_5 ic_m1 rfl ?_
  refine bx_icmp_ne C 38 9 dX8_freeCell_6 (by decide) rfl (fun h => ?_) (fun h => ?_)
  · replace hv := hv.1 h
    exact bx_cut [0] (w_M E a u) rfl rfl (t_X8_freeCell_38 C   u  hv)
  · replace hv := hv.2 h
    refine bx_aload_n C 10 dX8_freeCell_9 rfl rfl rfl ?_
    refine bx_getf (v := .int u.2.2.2.2.2.2.2.2.2.2.2.1) C 13 0 11 inX8 rfl (by decide) fl_X8_142 dX8_freeCell_10 at_M_0 rfl rfl ?_
    refine bx_i2l C 14 dX8_freeCell_13 rfl ?_
    refine bx_lconst C 0 15 dX8_freeCell_14 lc_0 rfl ?_
    refine bx_ldc2 C 18 cs_X8_50 dX8_freeCell_15 rfl ?_
    refine bx_pSi C 21 fc_X8_46 (k_X8_in l E  _ _ _ _ hv) dX8_freeCell_18 ⟨rfl, rfl, Nat.le_of_ble_eq_true rfl, Nat.le_of_ble_eq_true rfl⟩ [] rfl (by decide) rfl rfl (Nat.le_of_ble_eq_true rfl) rfl (fun r3 hv => ?_)
    refine bx_if_eq C 42 24 dX8_freeCell_21 (by decide) rfl (fun h => ?_) (fun h => ?_)
    · replace hv := hv.1 h
      exact bx_cut [0] (w_M E a u) rfl rfl (t_X8_freeCell_42 C   u  hv)
    · replace hv := hv.2 h
      refine bx_aload_n C 25 dX8_freeCell_24 rfl rfl rfl ?_
      refine bx_getf (v := .ref (a 2)) C 28 0 1 inX8 rfl (by decide) fl_X8_13 dX8_freeCell_25 at_M_0 rfl rfl ?_
      refine bx_aload_n C 29 dX8_freeCell_28 rfl rfl rfl ?_
      refine bx_getf (v := .int u.2.2.2.2.2.2.2.2.2.2.2.1) C 32 0 11 inX8 rfl (by decide) fl_X8_142 dX8_freeCell_29 at_M_0 rfl rfl ?_
      refine bx_pSi C 35 fc_X8_171 (k_X8_isFree l E (fun k => a (2 + k)) _ _ _ hv) dX8_freeCell_32 ⟨rfl, rfl, Nat.le_of_ble_eq_true rfl, Nat.le_of_ble_eq_true rfl⟩ [2] ps_M_A_2 (by decide) rfl rfl (Nat.le_of_ble_eq_true rfl) rfl (fun r4 hv => ?_)
      refine bx_if_eq C 42 38 dX8_freeCell_35 (by decide) rfl (fun h => ?_) (fun h => ?_)
      · replace hv := hv.1 h
        exact bx_cut [0] (w_M E a u) rfl rfl (t_X8_freeCell_42 C   u  hv)
      · replace hv := hv.2 h
        exact bx_cut [0] (w_M E a u) rfl rfl (t_X8_freeCell_38 C   u  hv)
theorem k_X8_freeCell (l : Launch) (E : bx_E) (a : Nat → Nat)  (K : Int32 → MS → Prop) (u : MS)  (hv : V_X8_freeCell  K u ) : bx_Mi l E yX8_freeCell cX8_freeCell 2 (some .int) (rmD 4) [.ref (a 0)] (fun (u : MS) => w_M E a u) u K :=
  bx_meti (by decide +kernel) (Nat.le_of_ble_eq_true rfl) (fun p e S m below meth c C => t_X8_freeCell_0 C u  hv)
end
