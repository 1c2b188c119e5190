section
variable {p : Program} {l : Launch} {e : Env} {S : State} {m : MethodId} {args : Array Value} {below : List Frame} {meth : Method} {c : Code} {E : bx_E} {A : Nat → Prop}
abbrev G_X8_sends (p : Program) (l : Launch) (e : Env) (S : State) (m : MethodId) (args : Array Value) (below : List Frame) (meth : Method) (c : Code) (E : bx_E) (A : Nat → Prop) (a : Nat → Nat)  (K : Int32 → MS → Prop) (pc : Nat) (lv : List (Nat × Value)) (st : List Value) (ws : va_W) : Prop := bx_S p l e (rmD 5) S m args below meth c 2 E A (MQ below (va_Qi K (fun (u : MS) t => bx_B E A (w_M E a u) t) A) args S 0 0 A) 0 0 pc lv st ws
def V_X8_sends_38  (K : Int32 → MS → Prop)  (u : MS)  : Prop := (V_X8_no (fun r1 u2 => K r1 u2) u )
set_option maxRecDepth 20000 in
set_option maxHeartbeats 4000000 in
theorem t_X8_sends_38 {a : Nat → Nat} {K : Int32 → MS → Prop} (C : bx_C p (rmD 5) S m args meth c cX8_sends 2 yX8_sends.cls (some .int) E A 0 0)   (u : MS)  (hv : V_X8_sends_38 K u ) : G_X8_sends p l e S m args below meth c E A a  K 38 [(0, .ref (a 0))] [] (w_M E a u) := by
  unfold V_X8_sends_38 at hv
  refine bx_aload_n C 39 dX8_sends_38 rfl rfl rfl ?_
  refine bx_qVi C 0 at_M_0 rfl 42 fc_X8_200 (k_X8_no l E a _ _ hv) dX8_sends_39 ⟨rfl, rfl, Nat.le_of_ble_eq_true rfl, Nat.le_of_ble_eq_true rfl⟩ [0, 1, 2, 3, 4, 5, 6, 7, 8, 9] (fun u2 => w_M E a u2) ps_M_M_0 (by decide) ad_M pu_M_M_0 rfl rfl (Nat.le_of_ble_eq_true rfl) rfl (fun r1 u2 hv => ?_)
  exact bx_iret C u2 rfl dX8_sends_42 rfl hv
def V_X8_sends  (K : Int32 → MS → Prop)  (u : MS) (x1 : Int32) : Prop := (V_X8_isSoul (fun r3 => ((¬ r3 = 0 → (V_X8_cellOf (fun r4 => ((r4 = (-1) → V_X8_sends_38 K u ) ∧
 (¬ r4 = (-1) → ((¬ (u.1 6) = 9999 → (V_X8_keep (fun u5 => (V_X8_goes (fun r6 u7 => K r6 (u7, u5.2)) u5.1 x1 (-1))) u )) ∧
 ((u.1 6) = 9999 → V_X8_sends_38 K u ))))) u.1 x1)) ∧
 (r3 = 0 → (V_X8_bad (fun r8 u9 => K r8 u9) u )))) u x1)
set_option maxRecDepth 20000 in
set_option maxHeartbeats 4000000 in
theorem t_X8_sends_0 {a : Nat → Nat} {K : Int32 → MS → Prop} (C : bx_C p (rmD 5) S m args meth c cX8_sends 2 yX8_sends.cls (some .int) E A 0 0)   (u : MS) (x1 : Int32) (hv : V_X8_sends K u x1) : G_X8_sends p l e S m args below meth c E A a  K 0 [(0, .ref (a 0)), (1, .int x1)] [] (w_M E a u) := by
  unfold V_X8_sends at hv
  refine bx_aload_n C 1 dX8_sends_0 rfl rfl rfl ?_
  refine bx_iload_n C 2 dX8_sends_1 rfl rfl rfl ?_
  refine bx_pVi C 0 at_M_0 rfl 5 fc_X8_203 (k_X8_isSoul l E a _ _ _ hv) dX8_sends_2 ⟨rfl, rfl, Nat.le_of_ble_eq_true rfl, Nat.le_of_ble_eq_true rfl⟩ [0, 1, 2, 3, 4, 5, 6, 7, 8, 9] ps_M_M_0 (by decide) rfl rfl (Nat.le_of_ble_eq_true rfl) rfl (fun r3 hv => ?_)
  refine bx_if_ne C 13 8 dX8_sends_5 (by decide) rfl (fun h => ?_) (fun h => ?_)
  · replace hv := hv.1 h
    refine bx_aload_n C 14 dX8_sends_13 rfl rfl rfl ?_
    refine bx_getf (v := .ref (a 1)) C 17 0 0 inX8 rfl (by decide) fl_X8_7 dX8_sends_14 at_M_0 rfl rfl ?_
    refine bx_iload_n C 18 dX8_sends_17 rfl rfl rfl ?_
    refine bx_pSi C 21 fc_X8_59 (k_X8_cellOf l E (fun k => a (1 + k)) _ _ _ hv) dX8_sends_18 ⟨rfl, rfl, Nat.le_of_ble_eq_true rfl, Nat.le_of_ble_eq_true rfl⟩ [1] ps_M_A_1 (by decide) rfl rfl (Nat.le_of_ble_eq_true rfl) rfl (fun r4 hv => ?_)
    refine bx_iconst C (-1) 22 dX8_sends_21 ic_m1 rfl ?_
    refine bx_icmp_eq C 38 25 dX8_sends_22 (by decide) rfl (fun h => ?_) (fun h => ?_)
    · replace hv := hv.1 h
      exact bx_cut [0] (w_M E a u) rfl rfl (t_X8_sends_38 C   u  hv)
    · replace hv := hv.2 h
      refine bx_aload_n C 26 dX8_sends_25 rfl rfl rfl ?_
      refine bx_getf (v := .ref (a 1)) C 29 0 0 inX8 rfl (by decide) fl_X8_7 dX8_sends_26 at_M_0 rfl rfl ?_
      refine bx_bipush C 6 31 dX8_sends_29 bp_6 rfl ?_
      refine bx_iald_k (f := u.1) C 32 1 6 dX8_sends_31 at_M_1 vin_6_171 cl_6 rfl ?_
      refine bx_sipush C 9999 35 dX8_sends_32 sp_9999 rfl ?_
      refine bx_icmp_ne C 43 38 dX8_sends_35 (by decide) rfl (fun h => ?_) (fun h => ?_)
      · replace hv := hv.1 h
        refine bx_aload_n C 44 dX8_sends_43 rfl rfl rfl ?_
        refine bx_qVv C 0 at_M_0 rfl 47 fc_X8_206 (k_X8_keep l E a _ _ hv) dX8_sends_44 ⟨rfl, rfl, Nat.le_of_ble_eq_true rfl, Nat.le_of_ble_eq_true rfl⟩ [0, 1, 2, 3, 4, 5, 6, 7, 8, 9] (fun u5 => w_M E a u5) ps_M_M_0 (by decide) ad_M pu_M_M_0 rfl rfl (Nat.le_of_ble_eq_true rfl) rfl (fun u5 hv => ?_)
        refine bx_aload_n C 48 dX8_sends_47 rfl rfl rfl ?_
        refine bx_getf (v := .ref (a 1)) C 51 0 0 inX8 rfl (by decide) fl_X8_7 dX8_sends_48 at_M_0 rfl rfl ?_
        refine bx_iload_n C 52 dX8_sends_51 rfl rfl rfl ?_
        refine bx_iconst C (-1) 53 dX8_sends_52 ic_m1 rfl ?_
        refine bx_qSi C 56 fc_X8_182 (k_X8_goes l E (fun k => a (1 + k)) _ _ _ _ hv) dX8_sends_53 ⟨rfl, rfl, Nat.le_of_ble_eq_true rfl, Nat.le_of_ble_eq_true rfl⟩ [1] (fun u7 => w_M E a (u7, u5.2)) ps_M_A_1 (by decide) ad_A pu_M_A_1 rfl rfl (Nat.le_of_ble_eq_true rfl) rfl (fun r6 u7 hv => ?_)
        exact bx_iret C (u7, u5.2) rfl dX8_sends_56 rfl hv
      · replace hv := hv.2 h
        exact bx_cut [0] (w_M E a u) rfl rfl (t_X8_sends_38 C   u  hv)
  · replace hv := hv.2 h
    refine bx_aload_n C 9 dX8_sends_8 rfl rfl rfl ?_
    refine bx_qVi C 0 at_M_0 rfl 12 fc_X8_101 (k_X8_bad l E a _ _ hv) dX8_sends_9 ⟨rfl, rfl, Nat.le_of_ble_eq_true rfl, Nat.le_of_ble_eq_true rfl⟩ [0, 1, 2, 3, 4, 5, 6, 7, 8, 9] (fun u9 => w_M E a u9) ps_M_M_0 (by decide) ad_M pu_M_M_0 rfl rfl (Nat.le_of_ble_eq_true rfl) rfl (fun r8 u9 hv => ?_)
    exact bx_iret C u9 rfl dX8_sends_12 rfl hv
theorem k_X8_sends (l : Launch) (E : bx_E) (a : Nat → Nat)  (K : Int32 → MS → Prop) (u : MS) (x1 : Int32) (hv : V_X8_sends  K u x1) : bx_Mi l E yX8_sends cX8_sends 2 (some .int) (rmD 5) [.ref (a 0), .int x1] (fun (u : MS) => w_M E a u) u K :=
  bx_meti (by decide +kernel) (Nat.le_of_ble_eq_true rfl) (fun p e S m below meth c C => t_X8_sends_0 C u x1 hv)
abbrev G_X8_coat (p : Program) (l : Launch) (e : Env) (S : State) (m : MethodId) (args : Array Value) (below : List Frame) (meth : Method) (c : Code) (E : bx_E) (A : Nat → Prop) (a : Nat → Nat)  (K : Int32 → MS → Prop) (pc : Nat) (lv : List (Nat × Value)) (st : List Value) (ws : va_W) : Prop := bx_S p l e (rmD 3) S m args below meth c 3 E A (MQ below (va_Qi K (fun (u : MS) t => bx_B E A (w_M E a u) t) A) args S 0 0 A) 0 0 pc lv st ws
def V_X8_coat_17  (K : Int32 → MS → Prop)  (u : MS)  : Prop := (V_X8_bad (fun r1 u2 => K r1 u2) u )
set_option maxRecDepth 20000 in
set_option maxHeartbeats 4000000 in
theorem t_X8_coat_17 {a : Nat → Nat} {K : Int32 → MS → Prop} (C : bx_C p (rmD 3) S m args meth c cX8_coat 3 yX8_coat.cls (some .int) E A 0 0)   (u : MS)  (hv : V_X8_coat_17 K u ) : G_X8_coat p l e S m args below meth c E A a  K 17 [(0, .ref (a 0))] [] (w_M E a u) := by
  unfold V_X8_coat_17 at hv
  refine bx_aload_n C 18 dX8_coat_17 rfl rfl rfl ?_
  refine bx_qVi C 0 at_M_0 rfl 21 fc_X8_101 (k_X8_bad l E a _ _ hv) dX8_coat_18 ⟨rfl, rfl, Nat.le_of_ble_eq_true rfl, Nat.le_of_ble_eq_true rfl⟩ [0, 1, 2, 3, 4, 5, 6, 7, 8, 9] (fun u2 => w_M E a u2) ps_M_M_0 (by decide) ad_M pu_M_M_0 rfl rfl (Nat.le_of_ble_eq_true rfl) rfl (fun r1 u2 hv => ?_)
  exact bx_iret C u2 rfl dX8_coat_21 rfl hv
def V_X8_coat_57  (K : Int32 → MS → Prop)  (u : MS)  : Prop := (V_X8_no (fun r3 u4 => K r3 u4) u )
set_option maxRecDepth 20000 in
set_option maxHeartbeats 4000000 in
theorem t_X8_coat_57 {a : Nat → Nat} {K : Int32 → MS → Prop} (C : bx_C p (rmD 3) S m args meth c cX8_coat 3 yX8_coat.cls (some .int) E A 0 0)   (u : MS)  (hv : V_X8_coat_57 K u ) : G_X8_coat p l e S m args below meth c E A a  K 57 [(0, .ref (a 0))] [] (w_M E a u) := by
  unfold V_X8_coat_57 at hv
  refine bx_aload_n C 58 dX8_coat_57 rfl rfl rfl ?_
  refine bx_qVi C 0 at_M_0 rfl 61 fc_X8_200 (k_X8_no l E a _ _ hv) dX8_coat_58 ⟨rfl, rfl, Nat.le_of_ble_eq_true rfl, Nat.le_of_ble_eq_true rfl⟩ [0, 1, 2, 3, 4, 5, 6, 7, 8, 9] (fun u4 => w_M E a u4) ps_M_M_0 (by decide) ad_M pu_M_M_0 rfl rfl (Nat.le_of_ble_eq_true rfl) rfl (fun r3 u4 hv => ?_)
  exact bx_iret C u4 rfl dX8_coat_61 rfl hv
def V_X8_coat_42  (K : Int32 → MS → Prop)  (u : MS) (x1 : Int32) (z0 : Int32) (z1 : Int32) : Prop := ((z0 = z1 → V_X8_coat_57 K u ) ∧
 (¬ z0 = z1 → (V_X8_whoSits (fun r5 => ((r5 = (-1) → (V_X8_keep (fun u6 => K 1 ((upd u6.1 5 ((u6.1 5) ^^^ (1 <<< (x1 &&& 31)))), u6.2)) u )) ∧
 (¬ r5 = (-1) → V_X8_coat_57 K u ))) u.1 x1)))
set_option maxRecDepth 20000 in
set_option maxHeartbeats 4000000 in
theorem t_X8_coat_42 {a : Nat → Nat} {K : Int32 → MS → Prop} (C : bx_C p (rmD 3) S m args meth c cX8_coat 3 yX8_coat.cls (some .int) E A 0 0)   (u : MS) (x1 : Int32) (z0 : Int32) (z1 : Int32) (hv : V_X8_coat_42 K u x1 z0 z1) : G_X8_coat p l e S m args below meth c E A a  K 42 [(0, .ref (a 0)), (1, .int x1)] [.int z1, .int z0] (w_M E a u) := by
  unfold V_X8_coat_42 at hv
  refine bx_icmp_eq C 57 45 dX8_coat_42 (by decide) rfl (fun h => ?_) (fun h => ?_)
  · replace hv := hv.1 h
    exact bx_cut [0] (w_M E a u) rfl rfl (t_X8_coat_57 C   u  hv)
  · replace hv := hv.2 h
    refine bx_aload_n C 46 dX8_coat_45 rfl rfl rfl ?_
    refine bx_getf (v := .ref (a 1)) C 49 0 0 inX8 rfl (by decide) fl_X8_7 dX8_coat_46 at_M_0 rfl rfl ?_
    refine bx_iload_n C 50 dX8_coat_49 rfl rfl rfl ?_
    refine bx_pSi C 53 fc_X8_63 (k_X8_whoSits l E (fun k => a (1 + k)) _ _ _ hv) dX8_coat_50 ⟨rfl, rfl, Nat.le_of_ble_eq_true rfl, Nat.le_of_ble_eq_true rfl⟩ [1] ps_M_A_1 (by decide) rfl rfl (Nat.le_of_ble_eq_true rfl) rfl (fun r5 hv => ?_)
    refine bx_iconst C (-1) 54 dX8_coat_53 ic_m1 rfl ?_
    refine bx_icmp_eq C 62 57 dX8_coat_54 (by decide) rfl (fun h => ?_) (fun h => ?_)
    · replace hv := hv.1 h
      refine bx_aload_n C 63 dX8_coat_62 rfl rfl rfl ?_
      refine bx_qVv C 0 at_M_0 rfl 66 fc_X8_206 (k_X8_keep l E a _ _ hv) dX8_coat_63 ⟨rfl, rfl, Nat.le_of_ble_eq_true rfl, Nat.le_of_ble_eq_true rfl⟩ [0, 1, 2, 3, 4, 5, 6, 7, 8, 9] (fun u6 => w_M E a u6) ps_M_M_0 (by decide) ad_M pu_M_M_0 rfl rfl (Nat.le_of_ble_eq_true rfl) rfl (fun u6 hv => ?_)
      refine bx_aload_n C 67 dX8_coat_66 rfl rfl rfl ?_
      refine bx_getf (v := .ref (a 1)) C 70 0 0 inX8 rfl (by decide) fl_X8_7 dX8_coat_67 at_M_0 rfl rfl ?_
      refine bx_iconst C 5 71 dX8_coat_70 ic_5 rfl ?_
      refine bx_dup2_11 C 72 dX8_coat_71 rfl rfl rfl ?_
      refine bx_iald_k (f := u6.1) C 73 1 5 dX8_coat_72 at_M_1 vin_5_171 cl_5 rfl ?_
      refine bx_iconst C 1 74 dX8_coat_73 ic_1 rfl ?_
      refine bx_iload_n C 75 dX8_coat_74 rfl rfl rfl ?_
      refine bx_ishl C 76 dX8_coat_75 rfl ?_
      refine bx_ixor C 77 dX8_coat_76 rfl ?_
      refine bx_iast_k C 78 1 5 (w_M E a ((upd u6.1 5 ((u6.1 5) ^^^ (1 <<< (x1 &&& 31)))), u6.2)) dX8_coat_77 rfl vin_5_171 cl_5 rfl rfl ?_
      refine bx_iconst C 1 79 dX8_coat_78 ic_1 rfl ?_
      exact bx_iret C ((upd u6.1 5 ((u6.1 5) ^^^ (1 <<< (x1 &&& 31)))), u6.2) rfl dX8_coat_79 rfl hv
    · replace hv := hv.2 h
      exact bx_cut [0] (w_M E a u) rfl rfl (t_X8_coat_57 C   u  hv)
def V_X8_coat  (K : Int32 → MS → Prop)  (u : MS) (x1 : Int32) (x2 : Int32) : Prop := (V_X8_isCell (fun r7 => ((r7 = 0 → V_X8_coat_17 K u ) ∧
 (¬ r7 = 0 → (V_X8_in (fun r8 => ((¬ r8 = 0 → (V_X8_has (fun r9 => ((¬ x2 = 1 → V_X8_coat_42 K u x1 r9 0) ∧
 (x2 = 1 → V_X8_coat_42 K u x1 r9 1)))  (u.1 5) x1)) ∧
 (r8 = 0 → V_X8_coat_17 K u )))  ((x2 : Int32).toInt64) 0 1))))  x1)
set_option maxRecDepth 20000 in
set_option maxHeartbeats 4000000 in
theorem t_X8_coat_0 {a : Nat → Nat} {K : Int32 → MS → Prop} (C : bx_C p (rmD 3) S m args meth c cX8_coat 3 yX8_coat.cls (some .int) E A 0 0)   (u : MS) (x1 : Int32) (x2 : Int32) (hv : V_X8_coat K u x1 x2) : G_X8_coat p l e S m args below meth c E A a  K 0 [(0, .ref (a 0)), (1, .int x1), (2, .int x2)] [] (w_M E a u) := by
  unfold V_X8_coat at hv
  refine bx_iload_n C 1 dX8_coat_0 rfl rfl rfl ?_
  refine bx_pSi C 4 fc_X8_105 (k_X8_isCell l E  _ _ hv) dX8_coat_1 ⟨rfl, rfl, Nat.le_of_ble_eq_true rfl, Nat.le_of_ble_eq_true rfl⟩ [] rfl (by decide) rfl rfl (Nat.le_of_ble_eq_true rfl) rfl (fun r7 hv => ?_)
  refine bx_if_eq C 17 7 dX8_coat_4 (by decide) rfl (fun h => ?_) (fun h => ?_)
  · replace hv := hv.1 h
    exact bx_cut [0] (w_M E a u) rfl rfl (t_X8_coat_17 C   u  hv)
  · replace hv := hv.2 h
    refine bx_iload_n C 8 dX8_coat_7 rfl rfl rfl ?_
    refine bx_i2l C 9 dX8_coat_8 rfl ?_
    refine bx_lconst C 0 10 dX8_coat_9 lc_0 rfl ?_
    refine bx_lconst C 1 11 dX8_coat_10 lc_1 rfl ?_
    refine bx_pSi C 14 fc_X8_46 (k_X8_in l E  _ _ _ _ hv) dX8_coat_11 ⟨rfl, rfl, Nat.le_of_ble_eq_true rfl, Nat.le_of_ble_eq_true rfl⟩ [] rfl (by decide) rfl rfl (Nat.le_of_ble_eq_true rfl) rfl (fun r8 hv => ?_)
    refine bx_if_ne C 22 17 dX8_coat_14 (by decide) rfl (fun h => ?_) (fun h => ?_)
    · replace hv := hv.1 h
      refine bx_aload_n C 23 dX8_coat_22 rfl rfl rfl ?_
      refine bx_getf (v := .ref (a 1)) C 26 0 0 inX8 rfl (by decide) fl_X8_7 dX8_coat_23 at_M_0 rfl rfl ?_
      refine bx_iconst C 5 27 dX8_coat_26 ic_5 rfl ?_
      refine bx_iald_k (f := u.1) C 28 1 5 dX8_coat_27 at_M_1 vin_5_171 cl_5 rfl ?_
      refine bx_iload_n C 29 dX8_coat_28 rfl rfl rfl ?_
      refine bx_pSi C 32 fc_X8_66 (k_X8_has l E  _ _ _ hv) dX8_coat_29 ⟨rfl, rfl, Nat.le_of_ble_eq_true rfl, Nat.le_of_ble_eq_true rfl⟩ [] rfl (by decide) rfl rfl (Nat.le_of_ble_eq_true rfl) rfl (fun r9 hv => ?_)
      refine bx_iload_n C 33 dX8_coat_32 rfl rfl rfl ?_
      refine bx_iconst C 1 34 dX8_coat_33 ic_1 rfl ?_
      refine bx_icmp_ne C 41 37 dX8_coat_34 (by decide) rfl (fun h => ?_) (fun h => ?_)
      · replace hv := hv.1 h
        refine bx_iconst C 0 42 dX8_coat_41 ic_0 rfl ?_
        exact bx_cut [0, 1] (w_M E a u) rfl rfl (t_X8_coat_42 C   u x1 r9 0 hv)
      · replace hv := hv.2 h
        refine bx_iconst C 1 38 dX8_coat_37 ic_1 rfl ?_
        refine bx_goto C 42 dX8_coat_38 (by decide) ?_
        exact bx_cut [0, 1] (w_M E a u) rfl rfl (t_X8_coat_42 C   u x1 r9 1 hv)
    · replace hv := hv.2 h
      exact bx_cut [0] (w_M E a u) rfl rfl (t_X8_coat_17 C   u  hv)
theorem k_X8_coat (l : Launch) (E : bx_E) (a : Nat → Nat)  (K : Int32 → MS → Prop) (u : MS) (x1 : Int32) (x2 : Int32) (hv : V_X8_coat  K u x1 x2) : bx_Mi l E yX8_coat cX8_coat 3 (some .int) (rmD 3) [.ref (a 0), .int x1, .int x2] (fun (u : MS) => w_M E a u) u K :=
  bx_meti (by decide +kernel) (Nat.le_of_ble_eq_true rfl) (fun p e S m below meth c C => t_X8_coat_0 C u x1 x2 hv)
abbrev G_X8_minutes (p : Program) (l : Launch) (e : Env) (S : State) (m : MethodId) (args : Array Value) (below : List Frame) (meth : Method) (c : Code) (E : bx_E) (A : Nat → Prop) (a : Nat → Nat)  (K : Int32 → MS → Prop) (pc : Nat) (lv : List (Nat × Value)) (st : List Value) (ws : va_W) : Prop := bx_S p l e (rmD 2) S m args below meth c 2 E A (MQ below (va_Qi K (fun (u : MS) t => bx_B E A (w_M E a u) t) A) args S 0 0 A) 0 0 pc lv st ws
def V_X8_minutes_57  (K : Int32 → MS → Prop)  (u : MS) (z1 : Int32) (z2 : Int32) : Prop := (vp_in z1 171 ∧ K ((upd u.1 (z1 : Int32).toNatClampNeg z2) 6) ((upd u.1 (z1 : Int32).toNatClampNeg z2), u.2))
set_option maxRecDepth 20000 in
set_option maxHeartbeats 4000000 in
theorem t_X8_minutes_57 {a : Nat → Nat} {K : Int32 → MS → Prop} (C : bx_C p (rmD 2) S m args meth c cX8_minutes 2 yX8_minutes.cls (some .int) E A 0 0)   (u : MS) (z1 : Int32) (z2 : Int32) (hv : V_X8_minutes_57 K u z1 z2) : G_X8_minutes p l e S m args below meth c E A a  K 57 [(0, .ref (a 0))] [.int z2, .int z1, .ref (a 1)] (w_M E a u) := by
  unfold V_X8_minutes_57 at hv
  refine bx_iast C 58 1 (w_M E a ((upd u.1 (z1 : Int32).toNatClampNeg z2), u.2)) dX8_minutes_57 rfl hv.1 rfl rfl ?_
  replace hv := hv.2
  refine bx_aload_n C 59 dX8_minutes_58 rfl rfl rfl ?_
  refine bx_getf (v := .ref (a 1)) C 62 0 0 inX8 rfl (by decide) fl_X8_7 dX8_minutes_59 at_M_0 rfl rfl ?_
  refine bx_bipush C 6 64 dX8_minutes_62 bp_6 rfl ?_
  refine bx_iald_k (f := (upd u.1 (z1 : Int32).toNatClampNeg z2)) C 65 1 6 dX8_minutes_64 at_M_1 vin_6_171 cl_6 rfl ?_
  exact bx_iret C ((upd u.1 (z1 : Int32).toNatClampNeg z2), u.2) rfl dX8_minutes_65 rfl hv
def V_X8_minutes  (K : Int32 → MS → Prop)  (u : MS) (x1 : Int32) : Prop := (V_X8_in (fun r1 => ((¬ r1 = 0 → (V_X8_keep (fun u2 => ((((u2.1 6) + x1) ≤ 9999 → V_X8_minutes_57 K u2 6 ((u2.1 6) + x1)) ∧
 (¬ ((u2.1 6) + x1) ≤ 9999 → V_X8_minutes_57 K u2 6 9999))) u )) ∧
 (r1 = 0 → (V_X8_bad (fun r3 u4 => K r3 u4) u ))))  ((x1 : Int32).toInt64) 1 99)
set_option maxRecDepth 20000 in
set_option maxHeartbeats 4000000 in
theorem t_X8_minutes_0 {a : Nat → Nat} {K : Int32 → MS → Prop} (C : bx_C p (rmD 2) S m args meth c cX8_minutes 2 yX8_minutes.cls (some .int) E A 0 0)   (u : MS) (x1 : Int32) (hv : V_X8_minutes K u x1) : G_X8_minutes p l e S m args below meth c E A a  K 0 [(0, .ref (a 0)), (1, .int x1)] [] (w_M E a u) := by
  unfold V_X8_minutes at hv
  refine bx_iload_n C 1 dX8_minutes_0 rfl rfl rfl ?_
  refine bx_i2l C 2 dX8_minutes_1 rfl ?_
  refine bx_lconst C 1 3 dX8_minutes_2 lc_1 rfl ?_
  refine bx_ldc2 C 6 cs_X8_209 dX8_minutes_3 rfl ?_
  refine bx_pSi C 9 fc_X8_46 (k_X8_in l E  _ _ _ _ hv) dX8_minutes_6 ⟨rfl, rfl, Nat.le_of_ble_eq_true rfl, Nat.le_of_ble_eq_true rfl⟩ [] rfl (by decide) rfl rfl (Nat.le_of_ble_eq_true rfl) rfl (fun r1 hv => ?_)
  refine bx_if_ne C 17 12 dX8_minutes_9 (by decide) rfl (fun h => ?_) (fun h => ?_)
  · replace hv := hv.1 h
    refine bx_aload_n C 18 dX8_minutes_17 rfl rfl rfl ?_
    refine bx_qVv C 0 at_M_0 rfl 21 fc_X8_206 (k_X8_keep l E a _ _ hv) dX8_minutes_18 ⟨rfl, rfl, Nat.le_of_ble_eq_true rfl, Nat.le_of_ble_eq_true rfl⟩ [0, 1, 2, 3, 4, 5, 6, 7, 8, 9] (fun u2 => w_M E a u2) ps_M_M_0 (by decide) ad_M pu_M_M_0 rfl rfl (Nat.le_of_ble_eq_true rfl) rfl (fun u2 hv => ?_)
    refine bx_aload_n C 22 dX8_minutes_21 rfl rfl rfl ?_
    refine bx_getf (v := .ref (a 1)) C 25 0 0 inX8 rfl (by decide) fl_X8_7 dX8_minutes_22 at_M_0 rfl rfl ?_
    refine bx_bipush C 6 27 dX8_minutes_25 bp_6 rfl ?_
    refine bx_aload_n C 28 dX8_minutes_27 rfl rfl rfl ?_
    refine bx_getf (v := .ref (a 1)) C 31 0 0 inX8 rfl (by decide) fl_X8_7 dX8_minutes_28 at_M_0 rfl rfl ?_
    refine bx_bipush C 6 33 dX8_minutes_31 bp_6 rfl ?_
    refine bx_iald_k (f := u2.1) C 34 1 6 dX8_minutes_33 at_M_1 vin_6_171 cl_6 rfl ?_
    refine bx_iload_n C 35 dX8_minutes_34 rfl rfl rfl ?_
    refine bx_iadd C 36 dX8_minutes_35 rfl ?_
    refine bx_sipush C 9999 39 dX8_minutes_36 sp_9999 rfl ?_
    refine bx_icmp_le C 48 42 dX8_minutes_39 (by decide) rfl (fun h => ?_) (fun h => ?_)
    · replace hv := hv.1 h
      refine bx_aload_n C 49 dX8_minutes_48 rfl rfl rfl ?_
      refine bx_getf (v := .ref (a 1)) C 52 0 0 inX8 rfl (by decide) fl_X8_7 dX8_minutes_49 at_M_0 rfl rfl ?_
      refine bx_bipush C 6 54 dX8_minutes_52 bp_6 rfl ?_
      refine bx_iald_k (f := u2.1) C 55 1 6 dX8_minutes_54 at_M_1 vin_6_171 cl_6 rfl ?_
      refine bx_iload_n C 56 dX8_minutes_55 rfl rfl rfl ?_
      refine bx_iadd C 57 dX8_minutes_56 rfl ?_
      exact bx_cut [0] (w_M E a u2) rfl rfl (t_X8_minutes_57 C   u2 6 ((u2.1 6) + x1) hv)
    · replace hv := hv.2 h
      refine bx_sipush C 9999 45 dX8_minutes_42 sp_9999 rfl ?_
      refine bx_goto C 57 dX8_minutes_45 (by decide) ?_
      exact bx_cut [0] (w_M E a u2) rfl rfl (t_X8_minutes_57 C   u2 6 9999 hv)
  · replace hv := hv.2 h
    refine bx_aload_n C 13 dX8_minutes_12 rfl rfl rfl ?_
    refine bx_qVi C 0 at_M_0 rfl 16 fc_X8_101 (k_X8_bad l E a _ _ hv) dX8_minutes_13 ⟨rfl, rfl, Nat.le_of_ble_eq_true rfl, Nat.le_of_ble_eq_true rfl⟩ [0, 1, 2, 3, 4, 5, 6, 7, 8, 9] (fun u4 => w_M E a u4) ps_M_M_0 (by decide) ad_M pu_M_M_0 rfl rfl (Nat.le_of_ble_eq_true rfl) rfl (fun r3 u4 hv => ?_)
    exact bx_iret C u4 rfl dX8_minutes_16 rfl hv
theorem k_X8_minutes (l : Launch) (E : bx_E) (a : Nat → Nat)  (K : Int32 → MS → Prop) (u : MS) (x1 : Int32) (hv : V_X8_minutes  K u x1) : bx_Mi l E yX8_minutes cX8_minutes 2 (some .int) (rmD 2) [.ref (a 0), .int x1] (fun (u : MS) => w_M E a u) u K :=
  bx_meti (by decide +kernel) (Nat.le_of_ble_eq_true rfl) (fun p e S m below meth c C => t_X8_minutes_0 C u x1 hv)
abbrev G_X8_of (p : Program) (l : Launch) (e : Env) (S : State) (m : MethodId) (args : Array Value) (below : List Frame) (meth : Method) (c : Code) (E : bx_E) (A : Nat → Prop) (a : Nat → Nat)  (K : Int32 → MS → Prop) (pc : Nat) (lv : List (Nat × Value)) (st : List Value) (ws : va_W) : Prop := bx_S p l e (rmD 2) S m args below meth c 3 E A (MQ below (va_Qi K (fun (u : MS) t => bx_B E A (w_M E a u) t) A) args S 0 0 A) 0 0 pc lv st ws
def V_X8_of_20  (K : Int32 → MS → Prop)  (u : MS)  : Prop := (V_X8_bad (fun r1 u2 => K r1 u2) u )
set_option maxRecDepth 20000 in
set_option maxHeartbeats 4000000 in
theorem t_X8_of_20 {a : Nat → Nat} {K : Int32 → MS → Prop} (C : bx_C p (rmD 2) S m args meth c cX8_of 3 yX8_of.cls (some .int) E A 0 0)   (u : MS)  (hv : V_X8_of_20 K u ) : G_X8_of p l e S m args below meth c E A a  K 20 [(0, .ref (a 0))] [] (w_M E a u) := by
  unfold V_X8_of_20 at hv
  refine bx_aload_n C 21 dX8_of_20 rfl rfl rfl ?_
  refine bx_qVi C 0 at_M_0 rfl 24 fc_X8_101 (k_X8_bad l E a _ _ hv) dX8_of_21 ⟨rfl, rfl, Nat.le_of_ble_eq_true rfl, Nat.le_of_ble_eq_true rfl⟩ [0, 1, 2, 3, 4, 5, 6, 7, 8, 9] (fun u2 => w_M E a u2) ps_M_M_0 (by decide) ad_M pu_M_M_0 rfl rfl (Nat.le_of_ble_eq_true rfl) rfl (fun r1 u2 hv => ?_)
  exact bx_iret C u2 rfl dX8_of_24 rfl hv
def V_X8_of  (K : Int32 → MS → Prop)  (u : MS) (x1 : Int32) (x2 : Int32) : Prop := (V_X8_isSoul (fun r3 => ((r3 = 0 → V_X8_of_20 K u ) ∧
 (¬ r3 = 0 → (V_X8_in (fun r4 => ((¬ r4 = 0 → ((2 ≤ x2 → (V_X8_cellOf (fun r5 => K r5 u) u.1 x1)) ∧
 (¬ 2 ≤ x2 → (V_X8_soulOf (fun r6 => K r6 u) u.1 x1 x2)))) ∧
 (r4 = 0 → V_X8_of_20 K u )))  ((x2 : Int32).toInt64) 0 2)))) u x1)
set_option maxRecDepth 20000 in
set_option maxHeartbeats 4000000 in
theorem t_X8_of_0 {a : Nat → Nat} {K : Int32 → MS → Prop} (C : bx_C p (rmD 2) S m args meth c cX8_of 3 yX8_of.cls (some .int) E A 0 0)   (u : MS) (x1 : Int32) (x2 : Int32) (hv : V_X8_of K u x1 x2) : G_X8_of p l e S m args below meth c E A a  K 0 [(0, .ref (a 0)), (1, .int x1), (2, .int x2)] [] (w_M E a u) := by
  unfold V_X8_of at hv
  refine bx_aload_n C 1 dX8_of_0 rfl rfl rfl ?_
  refine bx_iload_n C 2 dX8_of_1 rfl rfl rfl ?_
  refine bx_pVi C 0 at_M_0 rfl 5 fc_X8_203 (k_X8_isSoul l E a _ _ _ hv) dX8_of_2 ⟨rfl, rfl, Nat.le_of_ble_eq_true rfl, Nat.le_of_ble_eq_true rfl⟩ [0, 1, 2, 3, 4, 5, 6, 7, 8, 9] ps_M_M_0 (by decide) rfl rfl (Nat.le_of_ble_eq_true rfl) rfl (fun r3 hv => ?_)
  refine bx_if_eq C 20 8 dX8_of_5 (by decide) rfl (fun h => ?_) (fun h => ?_)
  · replace hv := hv.1 h
    exact bx_cut [0] (w_M E a u) rfl rfl (t_X8_of_20 C   u  hv)
  · replace hv := hv.2 h
    refine bx_iload_n C 9 dX8_of_8 rfl rfl rfl ?_
    refine bx_i2l C 10 dX8_of_9 rfl ?_
    refine bx_lconst C 0 11 dX8_of_10 lc_0 rfl ?_
    refine bx_ldc2 C 14 cs_X8_211 dX8_of_11 rfl ?_
    refine bx_pSi C 17 fc_X8_46 (k_X8_in l E  _ _ _ _ hv) dX8_of_14 ⟨rfl, rfl, Nat.le_of_ble_eq_true rfl, Nat.le_of_ble_eq_true rfl⟩ [] rfl (by decide) rfl rfl (Nat.le_of_ble_eq_true rfl) rfl (fun r4 hv => ?_)
    refine bx_if_ne C 25 20 dX8_of_17 (by decide) rfl (fun h => ?_) (fun h => ?_)
    · replace hv := hv.1 h
      refine bx_iload_n C 26 dX8_of_25 rfl rfl rfl ?_
      refine bx_iconst C 2 27 dX8_of_26 ic_2 rfl ?_
      refine bx_icmp_ge C 42 30 dX8_of_27 (by decide) rfl (fun h => ?_) (fun h => ?_)
      · replace hv := hv.1 h
        refine bx_aload_n C 43 dX8_of_42 rfl rfl rfl ?_
        refine bx_getf (v := .ref (a 1)) C 46 0 0 inX8 rfl (by decide) fl_X8_7 dX8_of_43 at_M_0 rfl rfl ?_
        refine bx_iload_n C 47 dX8_of_46 rfl rfl rfl ?_
        refine bx_pSi C 50 fc_X8_59 (k_X8_cellOf l E (fun k => a (1 + k)) _ _ _ hv) dX8_of_47 ⟨rfl, rfl, Nat.le_of_ble_eq_true rfl, Nat.le_of_ble_eq_true rfl⟩ [1] ps_M_A_1 (by decide) rfl rfl (Nat.le_of_ble_eq_true rfl) rfl (fun r5 hv => ?_)
        exact bx_iret C u rfl dX8_of_50 rfl hv
      · replace hv := hv.2 h
        refine bx_aload_n C 31 dX8_of_30 rfl rfl rfl ?_
        refine bx_getf (v := .ref (a 1)) C 34 0 0 inX8 rfl (by decide) fl_X8_7 dX8_of_31 at_M_0 rfl rfl ?_
        refine bx_iload_n C 35 dX8_of_34 rfl rfl rfl ?_
        refine bx_iload_n C 36 dX8_of_35 rfl rfl rfl ?_
        refine bx_pSi C 39 fc_X8_55 (k_X8_soulOf l E (fun k => a (1 + k)) _ _ _ _ hv) dX8_of_36 ⟨rfl, rfl, Nat.le_of_ble_eq_true rfl, Nat.le_of_ble_eq_true rfl⟩ [1] ps_M_A_1 (by decide) rfl rfl (Nat.le_of_ble_eq_true rfl) rfl (fun r6 hv => ?_)
        refine bx_goto C 50 dX8_of_39 (by decide) ?_
        exact bx_iret C u rfl dX8_of_50 rfl hv
    · replace hv := hv.2 h
      exact bx_cut [0] (w_M E a u) rfl rfl (t_X8_of_20 C   u  hv)
theorem k_X8_of (l : Launch) (E : bx_E) (a : Nat → Nat)  (K : Int32 → MS → Prop) (u : MS) (x1 : Int32) (x2 : Int32) (hv : V_X8_of  K u x1 x2) : bx_Mi l E yX8_of cX8_of 3 (some .int) (rmD 2) [.ref (a 0), .int x1, .int x2] (fun (u : MS) => w_M E a u) u K :=
  bx_meti (by decide +kernel) (Nat.le_of_ble_eq_true rfl) (fun p e S m below meth c C => t_X8_of_0 C u x1 x2 hv)
abbrev G_X8_about (p : Program) (l : Launch) (e : Env) (S : State) (m : MethodId) (args : Array Value) (below : List Frame) (meth : Method) (c : Code) (E : bx_E) (A : Nat → Prop) (a : Nat → Nat)  (K : Int32 → MS → Prop) (pc : Nat) (lv : List (Nat × Value)) (st : List Value) (ws : va_W) : Prop := bx_S p l e (rmD 3) S m args below meth c 3 E A (MQ below (va_Qi K (fun (u : MS) t => bx_B E A (w_M E a u) t) A) args S 0 0 A) 0 0 pc lv st ws
def V_X8_about  (K : Int32 → MS → Prop)  (u : MS) (x1 : Int32) (x2 : Int32) : Prop := (V_X8_isCell (fun r1 => ((¬ r1 = 0 → ((x2 = 0 → (vp_in (x1 / 6) 171 ∧ K (u.1 ((x1 / 6) : Int32).toNatClampNeg) u)) ∧
 (x2 = 1 → (V_X8_whoSits (fun r2 => K r2 u) u.1 x1)) ∧
 (x2 = 2 → (V_X8_has (fun r3 => ((r3 = 0 → K 0 u) ∧
 (¬ r3 = 0 → K 1 u)))  (u.1 5) x1)) ∧
 (x2 = 3 → (V_X8_knees (fun r4 => K r4 u) u.1 x1 (-1))) ∧
 (x2 = 4 → (V_X8_seesFrom (fun r5 => K r5 u) u.1 x1)) ∧
 (¬ x2 = 0 ∧ ¬ x2 = 1 ∧ ¬ x2 = 2 ∧ ¬ x2 = 3 ∧ ¬ x2 = 4 → (V_X8_bad (fun r6 u7 => K r6 u7) u )))) ∧
 (r1 = 0 → (V_X8_bad (fun r8 u9 => K r8 u9) u ))))  x1)
set_option maxRecDepth 20000 in
set_option maxHeartbeats 4000000 in
theorem t_X8_about_0 {a : Nat → Nat} {K : Int32 → MS → Prop} (C : bx_C p (rmD 3) S m args meth c cX8_about 3 yX8_about.cls (some .int) E A 0 0)   (u : MS) (x1 : Int32) (x2 : Int32) (hv : V_X8_about K u x1 x2) : G_X8_about p l e S m args below meth c E A a  K 0 [(0, .ref (a 0)), (1, .int x1), (2, .int x2)] [] (w_M E a u) := by
  unfold V_X8_about at hv
  refine bx_iload_n C 1 dX8_about_0 rfl rfl rfl ?_
  refine bx_pSi C 4 fc_X8_105 (k_X8_isCell l E  _ _ hv) dX8_about_1 ⟨rfl, rfl, Nat.le_of_ble_eq_true rfl, Nat.le_of_ble_eq_true rfl⟩ [] rfl (by decide) rfl rfl (Nat.le_of_ble_eq_true rfl) rfl (fun r1 hv => ?_)
  refine bx_if_ne C 12 7 dX8_about_4 (by decide) rfl (fun h => ?_) (fun h => ?_)
  · replace hv := hv.1 h
    refine bx_iload_n C 13 dX8_about_12 rfl rfl rfl ?_
    by_cases h0 : x2 = 0
    · replace hv := hv.1 h0
      refine bx_tin C 48 0 dX8_about_13 h0 (by decide) (by decide) rfl (by decide) ?_
      refine bx_aload_n C 49 dX8_about_48 rfl rfl rfl ?_
      refine bx_getf (v := .ref (a 1)) C 52 0 0 inX8 rfl (by decide) fl_X8_7 dX8_about_49 at_M_0 rfl rfl ?_
      refine bx_iload_n C 53 dX8_about_52 rfl rfl rfl ?_
      refine bx_bipush C 6 55 dX8_about_53 bp_6 rfl ?_
      refine bx_idiv C 56 dX8_about_55 nz32_6 rfl ?_
      refine bx_iald (f := u.1) C 57 1 dX8_about_56 at_M_1 hv.1 rfl ?_
      replace hv := hv.2
      exact bx_iret C u rfl dX8_about_57 rfl hv
    by_cases h1 : x2 = 1
    · replace hv := hv.2.1 h1
      refine bx_tin C 58 1 dX8_about_13 h1 (by decide) (by decide) rfl (by decide) ?_
      refine bx_aload_n C 59 dX8_about_58 rfl rfl rfl ?_
      refine bx_getf (v := .ref (a 1)) C 62 0 0 inX8 rfl (by decide) fl_X8_7 dX8_about_59 at_M_0 rfl rfl ?_
      refine bx_iload_n C 63 dX8_about_62 rfl rfl rfl ?_
      refine bx_pSi C 66 fc_X8_63 (k_X8_whoSits l E (fun k => a (1 + k)) _ _ _ hv) dX8_about_63 ⟨rfl, rfl, Nat.le_of_ble_eq_true rfl, Nat.le_of_ble_eq_true rfl⟩ [1] ps_M_A_1 (by decide) rfl rfl (Nat.le_of_ble_eq_true rfl) rfl (fun r2 hv => ?_)
      exact bx_iret C u rfl dX8_about_66 rfl hv
    by_cases h2 : x2 = 2
    · replace hv := hv.2.2.1 h2
      refine bx_tin C 67 2 dX8_about_13 h2 (by decide) (by decide) rfl (by decide) ?_
      refine bx_aload_n C 68 dX8_about_67 rfl rfl rfl ?_
      refine bx_getf (v := .ref (a 1)) C 71 0 0 inX8 rfl (by decide) fl_X8_7 dX8_about_68 at_M_0 rfl rfl ?_
      refine bx_iconst C 5 72 dX8_about_71 ic_5 rfl ?_
      refine bx_iald_k (f := u.1) C 73 1 5 dX8_about_72 at_M_1 vin_5_171 cl_5 rfl ?_
      refine bx_iload_n C 74 dX8_about_73 rfl rfl rfl ?_
      refine bx_pSi C 77 fc_X8_66 (k_X8_has l E  _ _ _ hv) dX8_about_74 ⟨rfl, rfl, Nat.le_of_ble_eq_true rfl, Nat.le_of_ble_eq_true rfl⟩ [] rfl (by decide) rfl rfl (Nat.le_of_ble_eq_true rfl) rfl (fun r3 hv => ?_)
      refine bx_if_eq C 84 80 dX8_about_77 (by decide) rfl (fun h => ?_) (fun h => ?_)
      · replace hv := hv.1 h
        refine bx_iconst C 0 85 dX8_about_84 ic_0 rfl ?_
        exact bx_iret C u rfl dX8_about_85 rfl hv
      · replace hv := hv.2 h
        refine bx_iconst C 1 81 dX8_about_80 ic_1 rfl ?_
        refine bx_goto C 85 dX8_about_81 (by decide) ?_
        exact bx_iret C u rfl dX8_about_85 rfl hv
    by_cases h3 : x2 = 3
    · replace hv := hv.2.2.2.1 h3
      refine bx_tin C 86 3 dX8_about_13 h3 (by decide) (by decide) rfl (by decide) ?_
      refine bx_aload_n C 87 dX8_about_86 rfl rfl rfl ?_
      refine bx_getf (v := .ref (a 1)) C 90 0 0 inX8 rfl (by decide) fl_X8_7 dX8_about_87 at_M_0 rfl rfl ?_
      refine bx_iload_n C 91 dX8_about_90 rfl rfl rfl ?_
      refine bx_iconst C (-1) 92 dX8_about_91 ic_m1 rfl ?_
      refine bx_pSi C 95 fc_X8_70 (k_X8_knees l E (fun k => a (1 + k)) _ _ _ _ hv) dX8_about_92 ⟨rfl, rfl, Nat.le_of_ble_eq_true rfl, Nat.le_of_ble_eq_true rfl⟩ [1] ps_M_A_1 (by decide) rfl rfl (Nat.le_of_ble_eq_true rfl) rfl (fun r4 hv => ?_)
      exact bx_iret C u rfl dX8_about_95 rfl hv
    by_cases h4 : x2 = 4
    · replace hv := hv.2.2.2.2.1 h4
      refine bx_tin C 96 4 dX8_about_13 h4 (by decide) (by decide) rfl (by decide) ?_
      refine bx_aload_n C 97 dX8_about_96 rfl rfl rfl ?_
      refine bx_getf (v := .ref (a 1)) C 100 0 0 inX8 rfl (by decide) fl_X8_7 dX8_about_97 at_M_0 rfl rfl ?_
      refine bx_iload_n C 101 dX8_about_100 rfl rfl rfl ?_
      refine bx_pSi C 104 fc_X8_213 (k_X8_seesFrom l E (fun k => a (1 + k)) _ _ _ hv) dX8_about_101 ⟨rfl, rfl, Nat.le_of_ble_eq_true rfl, Nat.le_of_ble_eq_true rfl⟩ [1] ps_M_A_1 (by decide) rfl rfl (Nat.le_of_ble_eq_true rfl) rfl (fun r5 hv => ?_)
      exact bx_iret C u rfl dX8_about_104 rfl hv
    replace hv := hv.2.2.2.2.2 ⟨h0, h1, h2, h3, h4⟩
    have ho : (x2 : Int32).toInt < 0 ∨ 4 < (x2 : Int32).toInt := by
      have e0 := bx_ne (z := 0) h0 (by decide)
      have e1 := bx_ne (z := 1) h1 (by decide)
      have e2 := bx_ne (z := 2) h2 (by decide)
      have e3 := bx_ne (z := 3) h3 (by decide)
      have e4 := bx_ne (z := 4) h4 (by decide)
      omega
    refine bx_tout C 105 dX8_about_13 ho (by decide) ?_
    refine bx_aload_n C 106 dX8_about_105 rfl rfl rfl ?_
    refine bx_qVi C 0 at_M_0 rfl 109 fc_X8_101 (k_X8_bad l E a _ _ hv) dX8_about_106 ⟨rfl, rfl, Nat.le_of_ble_eq_true rfl, Nat.le_of_ble_eq_true rfl⟩ [0, 1, 2, 3, 4, 5, 6, 7, 8, 9] (fun u7 => w_M E a u7) ps_M_M_0 (by decide) ad_M pu_M_M_0 rfl rfl (Nat.le_of_ble_eq_true rfl) rfl (fun r6 u7 hv => ?_)
    exact bx_iret C u7 rfl dX8_about_109 rfl hv
  · replace hv := hv.2 h
    refine bx_aload_n C 8 dX8_about_7 rfl rfl rfl ?_
    refine bx_qVi C 0 at_M_0 rfl 11 fc_X8_101 (k_X8_bad l E a _ _ hv) dX8_about_8 ⟨rfl, rfl, Nat.le_of_ble_eq_true rfl, Nat.le_of_ble_eq_true rfl⟩ [0, 1, 2, 3, 4, 5, 6, 7, 8, 9] (fun u9 => w_M E a u9) ps_M_M_0 (by decide) ad_M pu_M_M_0 rfl rfl (Nat.le_of_ble_eq_true rfl) rfl (fun r8 u9 hv => ?_)
    exact bx_iret C u9 rfl dX8_about_11 rfl hv
theorem k_X8_about (l : Launch) (E : bx_E) (a : Nat → Nat)  (K : Int32 → MS → Prop) (u : MS) (x1 : Int32) (x2 : Int32) (hv : V_X8_about  K u x1 x2) : bx_Mi l E yX8_about cX8_about 3 (some .int) (rmD 3) [.ref (a 0), .int x1, .int x2] (fun (u : MS) => w_M E a u) u K :=
  bx_meti (by decide +kernel) (Nat.le_of_ble_eq_true rfl) (fun p e S m below meth c C => t_X8_about_0 C u x1 x2 hv)
abbrev G_X8_isOut (p : Program) (l : Launch) (e : Env) (S : State) (m : MethodId) (args : Array Value) (below : List Frame) (meth : Method) (c : Code) (E : bx_E) (A : Nat → Prop) (a : Nat → Nat)  (u : MS) (K : Int32 → Prop) (pc : Nat) (lv : List (Nat × Value)) (st : List Value) (ws : va_W) : Prop := bx_S p l e (rmD 2) S m args below meth c 2 E A (MQ below (va_Qi (fun r (_ : Unit) => K r) (fun (_ : Unit) t => bx_B E A (w_M E a u) t) A) args S 0 0 A) 0 0 pc lv st ws
def V_X8_isOut  (K : Int32 → Prop)  (u : MS) (x1 : Int32) : Prop := (V_X8_cellOf (fun r1 => ((¬ r1 = (-1) → K 0) ∧
 (r1 = (-1) → K 1))) u.1 x1)
set_option maxRecDepth 20000 in
set_option maxHeartbeats 4000000 in
theorem t_X8_isOut_0 {a : Nat → Nat} {K : Int32 → Prop} (C : bx_C p (rmD 2) S m args meth c cX8_isOut 2 yX8_isOut.cls (some .boolean) E A 0 0) (u : MS)   (x1 : Int32) (hv : V_X8_isOut K u x1) : G_X8_isOut p l e S m args below meth c E A a  u K 0 [(0, .ref (a 0)), (1, .int x1)] [] (w_M E a u) := by
  unfold V_X8_isOut at hv
  refine bx_aload_n C 1 dX8_isOut_0 rfl rfl rfl ?_
  refine bx_getf (v := .ref (a 1)) C 4 0 0 inX8 rfl (by decide) fl_X8_7 dX8_isOut_1 at_M_0 rfl rfl ?_
  refine bx_iload_n C 5 dX8_isOut_4 rfl rfl rfl ?_
  refine bx_pSi C 8 fc_X8_59 (k_X8_cellOf l E (fun k => a (1 + k)) _ _ _ hv) dX8_isOut_5 ⟨rfl, rfl, Nat.le_of_ble_eq_true rfl, Nat.le_of_ble_eq_true rfl⟩ [1] ps_M_A_1 (by decide) rfl rfl (Nat.le_of_ble_eq_true rfl) rfl (fun r1 hv => ?_)
  refine bx_iconst C (-1) 9 dX8_isOut_8 ic_m1 rfl ?_
  refine bx_icmp_ne C 16 12 dX8_isOut_9 (by decide) rfl (fun h => ?_) (fun h => ?_)
  · replace hv := hv.1 h
    refine bx_iconst C 0 17 dX8_isOut_16 ic_0 rfl ?_
    exact bx_zret C () rfl dX8_isOut_17 rfl (Or.inl rfl) hv
  · replace hv := hv.2 h
    refine bx_iconst C 1 13 dX8_isOut_12 ic_1 rfl ?_
    refine bx_goto C 17 dX8_isOut_13 (by decide) ?_
    exact bx_zret C () rfl dX8_isOut_17 rfl (Or.inr rfl) hv
theorem k_X8_isOut (l : Launch) (E : bx_E) (a : Nat → Nat)  (K : Int32 → Prop) (u : MS) (x1 : Int32) (hv : V_X8_isOut  K u x1) : bx_Mi l E yX8_isOut cX8_isOut 2 (some .boolean) (rmD 2) [.ref (a 0), .int x1] (fun (_ : Unit) => w_M E a u) () (fun r (_ : Unit) => K r) :=
  bx_meti (by decide +kernel) (Nat.le_of_ble_eq_true rfl) (fun p e S m below meth c C => t_X8_isOut_0 C u x1 hv)
abbrev G_X8_makes (p : Program) (l : Launch) (e : Env) (S : State) (m : MethodId) (args : Array Value) (below : List Frame) (meth : Method) (c : Code) (E : bx_E) (A : Nat → Prop) (a : Nat → Nat)  (K : Int32 → MS → Prop) (pc : Nat) (lv : List (Nat × Value)) (st : List Value) (ws : va_W) : Prop := bx_S p l e (rmD 4) S m args below meth c 3 E A (MQ below (va_Qi K (fun (u : MS) t => bx_B E A (w_M E a u) t) A) args S 0 0 A) 0 0 pc lv st ws
def V_X8_makes_15  (K : Int32 → MS → Prop)  (u : MS)  : Prop := (V_X8_bad (fun r1 u2 => K r1 u2) u )
set_option maxRecDepth 20000 in
set_option maxHeartbeats 4000000 in
theorem t_X8_makes_15 {a : Nat → Nat} {K : Int32 → MS → Prop} (C : bx_C p (rmD 4) S m args meth c cX8_makes 3 yX8_makes.cls (some .int) E A 0 0)   (u : MS)  (hv : V_X8_makes_15 K u ) : G_X8_makes p l e S m args below meth c E A a  K 15 [(0, .ref (a 0))] [] (w_M E a u) := by
  unfold V_X8_makes_15 at hv
  refine bx_aload_n C 16 dX8_makes_15 rfl rfl rfl ?_
  refine bx_qVi C 0 at_M_0 rfl 19 fc_X8_101 (k_X8_bad l E a _ _ hv) dX8_makes_16 ⟨rfl, rfl, Nat.le_of_ble_eq_true rfl, Nat.le_of_ble_eq_true rfl⟩ [0, 1, 2, 3, 4, 5, 6, 7, 8, 9] (fun u2 => w_M E a u2) ps_M_M_0 (by decide) ad_M pu_M_M_0 rfl rfl (Nat.le_of_ble_eq_true rfl) rfl (fun r1 u2 hv => ?_)
  exact bx_iret C u2 rfl dX8_makes_19 rfl hv
def V_X8_makes  (K : Int32 → MS → Prop)  (u : MS) (x1 : Int32) (x2 : Int32) : Prop := (V_X8_isSoul (fun r3 => ((r3 = 0 → V_X8_makes_15 K u ) ∧
 (¬ r3 = 0 → (V_X8_isCell (fun r4 => ((¬ r4 = 0 → (V_X8_isOut (fun r5 => ((r5 = 0 → (V_X8_no (fun r6 u7 => K r6 u7) u )) ∧
 (¬ r5 = 0 → (V_X8_makesBy (fun r8 => K r8 u) u.1 x1 x2)))) u x1)) ∧
 (r4 = 0 → V_X8_makes_15 K u )))  x2)))) u x1)
set_option maxRecDepth 20000 in
set_option maxHeartbeats 4000000 in
theorem t_X8_makes_0 {a : Nat → Nat} {K : Int32 → MS → Prop} (C : bx_C p (rmD 4) S m args meth c cX8_makes 3 yX8_makes.cls (some .int) E A 0 0)   (u : MS) (x1 : Int32) (x2 : Int32) (hv : V_X8_makes K u x1 x2) : G_X8_makes p l e S m args below meth c E A a  K 0 [(0, .ref (a 0)), (1, .int x1), (2, .int x2)] [] (w_M E a u) := by
  unfold V_X8_makes at hv
  refine bx_aload_n C 1 dX8_makes_0 rfl rfl rfl ?_
  refine bx_iload_n C 2 dX8_makes_1 rfl rfl rfl ?_
  refine bx_pVi C 0 at_M_0 rfl 5 fc_X8_203 (k_X8_isSoul l E a _ _ _ hv) dX8_makes_2 ⟨rfl, rfl, Nat.le_of_ble_eq_true rfl, Nat.le_of_ble_eq_true rfl⟩ [0, 1, 2, 3, 4, 5, 6, 7, 8, 9] ps_M_M_0 (by decide) rfl rfl (Nat.le_of_ble_eq_true rfl) rfl (fun r3 hv => ?_)
  refine bx_if_eq C 15 8 dX8_makes_5 (by decide) rfl (fun h => ?_) (fun h => ?_)
  · replace hv := hv.1 h
    exact bx_cut [0] (w_M E a u) rfl rfl (t_X8_makes_15 C   u  hv)
  · replace hv := hv.2 h
    refine bx_iload_n C 9 dX8_makes_8 rfl rfl rfl ?_
    refine bx_pSi C 12 fc_X8_105 (k_X8_isCell l E  _ _ hv) dX8_makes_9 ⟨rfl, rfl, Nat.le_of_ble_eq_true rfl, Nat.le_of_ble_eq_true rfl⟩ [] rfl (by decide) rfl rfl (Nat.le_of_ble_eq_true rfl) rfl (fun r4 hv => ?_)
    refine bx_if_ne C 20 15 dX8_makes_12 (by decide) rfl (fun h => ?_) (fun h => ?_)
    · replace hv := hv.1 h
      refine bx_aload_n C 21 dX8_makes_20 rfl rfl rfl ?_
      refine bx_iload_n C 22 dX8_makes_21 rfl rfl rfl ?_
      refine bx_pVi C 0 at_M_0 rfl 25 fc_X8_216 (k_X8_isOut l E a _ _ _ hv) dX8_makes_22 ⟨rfl, rfl, Nat.le_of_ble_eq_true rfl, Nat.le_of_ble_eq_true rfl⟩ [0, 1, 2, 3, 4, 5, 6, 7, 8, 9] ps_M_M_0 (by decide) rfl rfl (Nat.le_of_ble_eq_true rfl) rfl (fun r5 hv => ?_)
      refine bx_if_eq C 40 28 dX8_makes_25 (by decide) rfl (fun h => ?_) (fun h => ?_)
      · replace hv := hv.1 h
        refine bx_aload_n C 41 dX8_makes_40 rfl rfl rfl ?_
        refine bx_qVi C 0 at_M_0 rfl 44 fc_X8_200 (k_X8_no l E a _ _ hv) dX8_makes_41 ⟨rfl, rfl, Nat.le_of_ble_eq_true rfl, Nat.le_of_ble_eq_true rfl⟩ [0, 1, 2, 3, 4, 5, 6, 7, 8, 9] (fun u7 => w_M E a u7) ps_M_M_0 (by decide) ad_M pu_M_M_0 rfl rfl (Nat.le_of_ble_eq_true rfl) rfl (fun r6 u7 hv => ?_)
        exact bx_iret C u7 rfl dX8_makes_44 rfl hv
      · replace hv := hv.2 h
        refine bx_aload_n C 29 dX8_makes_28 rfl rfl rfl ?_
        refine bx_getf (v := .ref (a 1)) C 32 0 0 inX8 rfl (by decide) fl_X8_7 dX8_makes_29 at_M_0 rfl rfl ?_
        refine bx_iload_n C 33 dX8_makes_32 rfl rfl rfl ?_
        refine bx_iload_n C 34 dX8_makes_33 rfl rfl rfl ?_
        refine bx_pSi C 37 fc_X8_82 (k_X8_makesBy l E (fun k => a (1 + k)) _ _ _ _ hv) dX8_makes_34 ⟨rfl, rfl, Nat.le_of_ble_eq_true rfl, Nat.le_of_ble_eq_true rfl⟩ [1] ps_M_A_1 (by decide) rfl rfl (Nat.le_of_ble_eq_true rfl) rfl (fun r8 hv => ?_)
        refine bx_goto C 44 dX8_makes_37 (by decide) ?_
        exact bx_iret C u rfl dX8_makes_44 rfl hv
    · replace hv := hv.2 h
      exact bx_cut [0] (w_M E a u) rfl rfl (t_X8_makes_15 C   u  hv)
theorem k_X8_makes (l : Launch) (E : bx_E) (a : Nat → Nat)  (K : Int32 → MS → Prop) (u : MS) (x1 : Int32) (x2 : Int32) (hv : V_X8_makes  K u x1 x2) : bx_Mi l E yX8_makes cX8_makes 3 (some .int) (rmD 4) [.ref (a 0), .int x1, .int x2] (fun (u : MS) => w_M E a u) u K :=
  bx_meti (by decide +kernel) (Nat.le_of_ble_eq_true rfl) (fun p e S m below meth c C => t_X8_makes_0 C u x1 x2 hv)
abbrev G_X8_nextOrder (p : Program) (l : Launch) (e : Env) (S : State) (m : MethodId) (args : Array Value) (below : List Frame) (meth : Method) (c : Code) (E : bx_E) (A : Nat → Prop) (a : Nat → Nat)  (K : Int32 → MS → Prop) (pc : Nat) (lv : List (Nat × Value)) (st : List Value) (ws : va_W) : Prop := bx_S p l e (rmD 0) S m args below meth c 7 E A (MQ below (va_Qi K (fun (u : MS) t => bx_B E A (w_M E a u) t) A) args S 0 0 A) 0 0 pc lv st ws
def V_X8_nextOrder_100  (K : Int32 → MS → Prop)  : Nat → MS → Int32 → Int32 → Prop
  | 0, _, _, _ => False
  | n + 1, u, x5, x6 => ((x6 ≤ x5 → K 1 u) ∧
 (¬ x6 ≤ x5 → (vp_in x5 7 ∧ (vp_in x6 7 ∧ (vp_in x5 7 ∧ (vp_in x6 7 ∧ V_X8_nextOrder_100 K n (u.1, u.2.1, u.2.2.1, u.2.2.2.1, u.2.2.2.2.1, u.2.2.2.2.2.1, u.2.2.2.2.2.2.1, u.2.2.2.2.2.2.2.1, u.2.2.2.2.2.2.2.2.1, u.2.2.2.2.2.2.2.2.2.1, u.2.2.2.2.2.2.2.2.2.2.1, u.2.2.2.2.2.2.2.2.2.2.2.1, u.2.2.2.2.2.2.2.2.2.2.2.2.1, (upd (upd u.2.2.2.2.2.2.2.2.2.2.2.2.2.1 (x5 : Int32).toNatClampNeg (u.2.2.2.2.2.2.2.2.2.2.2.2.2.1 (x6 : Int32).toNatClampNeg)) (x6 : Int32).toNatClampNeg (u.2.2.2.2.2.2.2.2.2.2.2.2.2.1 (x5 : Int32).toNatClampNeg)), u.2.2.2.2.2.2.2.2.2.2.2.2.2.2) (x5 + 1) (x6 + (-1))))))))
set_option maxRecDepth 20000 in
set_option maxHeartbeats 4000000 in
theorem t_X8_nextOrder_100 {a : Nat → Nat} {K : Int32 → MS → Prop} (C : bx_C p (rmD 0) S m args meth c cX8_nextOrder 7 yX8_nextOrder.cls (some .boolean) E A 0 0)   : ∀ (n : Nat) (u : MS) (x5 : Int32) (x6 : Int32), V_X8_nextOrder_100 K n u x5 x6 → G_X8_nextOrder p l e S m args below meth c E A a  K 100 [(0, .ref (a 0)), (5, .int x5), (6, .int x6)] [] (w_M E a u) := by
  intro n
  induction n with
  | zero =>
    intro u x5 x6 hv
    exact False.elim hv
  | succ n ih =>
    intro u x5 x6 hv
    unfold V_X8_nextOrder_100 at hv
    refine bx_iload C 102 dX8_nextOrder_100 rfl rfl ?_
    refine bx_iload C 104 dX8_nextOrder_102 rfl rfl ?_
    refine bx_icmp_le C 148 107 dX8_nextOrder_104 (by decide) rfl (fun h => ?_) (fun h => ?_)
    · replace hv := hv.1 h
      refine bx_iconst C 1 149 dX8_nextOrder_148 ic_1 rfl ?_
      exact bx_zret C u rfl dX8_nextOrder_149 rfl (Or.inr rfl) hv
    · replace hv := hv.2 h
      refine bx_aload_n C 108 dX8_nextOrder_107 rfl rfl rfl ?_
      refine bx_getf (v := .ref (a 7)) C 111 0 13 inX8 rfl (by decide) fl_X8_37 dX8_nextOrder_108 at_M_0 rfl rfl ?_
      refine bx_iload C 113 dX8_nextOrder_111 rfl rfl ?_
      refine bx_iald (f := u.2.2.2.2.2.2.2.2.2.2.2.2.2.1) C 114 7 dX8_nextOrder_113 at_M_7 hv.1 rfl ?_
      replace hv := hv.2
      refine bx_istore C 116 dX8_nextOrder_114 (by decide) rfl ?_
      refine bx_aload_n C 117 dX8_nextOrder_116 rfl rfl rfl ?_
      refine bx_getf (v := .ref (a 7)) C 120 0 13 inX8 rfl (by decide) fl_X8_37 dX8_nextOrder_117 at_M_0 rfl rfl ?_
      refine bx_iload C 122 dX8_nextOrder_120 rfl rfl ?_
      refine bx_aload_n C 123 dX8_nextOrder_122 rfl rfl rfl ?_
      refine bx_getf (v := .ref (a 7)) C 126 0 13 inX8 rfl (by decide) fl_X8_37 dX8_nextOrder_123 at_M_0 rfl rfl ?_
      refine bx_iload C 128 dX8_nextOrder_126 rfl rfl ?_
      refine bx_iald (f := u.2.2.2.2.2.2.2.2.2.2.2.2.2.1) C 129 7 dX8_nextOrder_128 at_M_7 hv.1 rfl ?_
      replace hv := hv.2
      refine bx_iast C 130 7 (w_M E a (u.1, u.2.1, u.2.2.1, u.2.2.2.1, u.2.2.2.2.1, u.2.2.2.2.2.1, u.2.2.2.2.2.2.1, u.2.2.2.2.2.2.2.1, u.2.2.2.2.2.2.2.2.1, u.2.2.2.2.2.2.2.2.2.1, u.2.2.2.2.2.2.2.2.2.2.1, u.2.2.2.2.2.2.2.2.2.2.2.1, u.2.2.2.2.2.2.2.2.2.2.2.2.1, (upd u.2.2.2.2.2.2.2.2.2.2.2.2.2.1 (x5 : Int32).toNatClampNeg (u.2.2.2.2.2.2.2.2.2.2.2.2.2.1 (x6 : Int32).toNatClampNeg)), u.2.2.2.2.2.2.2.2.2.2.2.2.2.2)) dX8_nextOrder_129 rfl hv.1 rfl rfl ?_
      replace hv := hv.2
      refine bx_aload_n C 131 dX8_nextOrder_130 rfl rfl rfl ?_
      refine bx_getf (v := .ref (a 7)) C 134 0 13 inX8 rfl (by decide) fl_X8_37 dX8_nextOrder_131 at_M_0 rfl rfl ?_
      refine bx_iload C 136 dX8_nextOrder_134 rfl rfl ?_
      refine bx_iload C 138 dX8_nextOrder_136 rfl rfl ?_
      refine bx_iast C 139 7 (w_M E a (u.1, u.2.1, u.2.2.1, u.2.2.2.1, u.2.2.2.2.1, u.2.2.2.2.2.1, u.2.2.2.2.2.2.1, u.2.2.2.2.2.2.2.1, u.2.2.2.2.2.2.2.2.1, u.2.2.2.2.2.2.2.2.2.1, u.2.2.2.2.2.2.2.2.2.2.1, u.2.2.2.2.2.2.2.2.2.2.2.1, u.2.2.2.2.2.2.2.2.2.2.2.2.1, (upd (upd u.2.2.2.2.2.2.2.2.2.2.2.2.2.1 (x5 : Int32).toNatClampNeg (u.2.2.2.2.2.2.2.2.2.2.2.2.2.1 (x6 : Int32).toNatClampNeg)) (x6 : Int32).toNatClampNeg (u.2.2.2.2.2.2.2.2.2.2.2.2.2.1 (x5 : Int32).toNatClampNeg)), u.2.2.2.2.2.2.2.2.2.2.2.2.2.2)) dX8_nextOrder_138 rfl hv.1 rfl rfl ?_
      replace hv := hv.2
      refine bx_iinc C 1 142 dX8_nextOrder_139 rfl (by decide) ic_1 rfl ?_
      refine bx_iinc C (-1) 145 dX8_nextOrder_142 rfl (by decide) ic_m1 rfl ?_
      refine bx_goto C 100 dX8_nextOrder_145 (by decide) ?_
      exact bx_cut [3, 1, 0] (w_M E a (u.1, u.2.1, u.2.2.1, u.2.2.2.1, u.2.2.2.2.1, u.2.2.2.2.2.1, u.2.2.2.2.2.2.1, u.2.2.2.2.2.2.2.1, u.2.2.2.2.2.2.2.2.1, u.2.2.2.2.2.2.2.2.2.1, u.2.2.2.2.2.2.2.2.2.2.1, u.2.2.2.2.2.2.2.2.2.2.2.1, u.2.2.2.2.2.2.2.2.2.2.2.2.1, (upd (upd u.2.2.2.2.2.2.2.2.2.2.2.2.2.1 (x5 : Int32).toNatClampNeg (u.2.2.2.2.2.2.2.2.2.2.2.2.2.1 (x6 : Int32).toNatClampNeg)) (x6 : Int32).toNatClampNeg (u.2.2.2.2.2.2.2.2.2.2.2.2.2.1 (x5 : Int32).toNatClampNeg)), u.2.2.2.2.2.2.2.2.2.2.2.2.2.2)) rfl rfl (ih (u.1, u.2.1, u.2.2.1, u.2.2.2.1, u.2.2.2.2.1, u.2.2.2.2.2.1, u.2.2.2.2.2.2.1, u.2.2.2.2.2.2.2.1, u.2.2.2.2.2.2.2.2.1, u.2.2.2.2.2.2.2.2.2.1, u.2.2.2.2.2.2.2.2.2.2.1, u.2.2.2.2.2.2.2.2.2.2.2.1, u.2.2.2.2.2.2.2.2.2.2.2.2.1, (upd (upd u.2.2.2.2.2.2.2.2.2.2.2.2.2.1 (x5 : Int32).toNatClampNeg (u.2.2.2.2.2.2.2.2.2.2.2.2.2.1 (x6 : Int32).toNatClampNeg)) (x6 : Int32).toNatClampNeg (u.2.2.2.2.2.2.2.2.2.2.2.2.2.1 (x5 : Int32).toNatClampNeg)), u.2.2.2.2.2.2.2.2.2.2.2.2.2.2) (x5 + 1) (x6 + (-1)) hv)
def V_X8_nextOrder_41  (K : Int32 → MS → Prop)  : Nat → MS → Int32 → Int32 → Int32 → Prop
  | 0, _, _, _, _ => False
  | n + 1, u, x1, x2, x3 => (vp_in x3 7 ∧ (vp_in x2 7 ∧ (((u.2.2.2.2.2.2.2.2.2.2.2.2.2.1 (x2 : Int32).toNatClampNeg) ≤ (u.2.2.2.2.2.2.2.2.2.2.2.2.2.1 (x3 : Int32).toNatClampNeg) → (vp_in x2 7 ∧ (vp_in x3 7 ∧ (vp_in x2 7 ∧ (vp_in x3 7 ∧ ∃ n1, V_X8_nextOrder_100 K n1 (u.1, u.2.1, u.2.2.1, u.2.2.2.1, u.2.2.2.2.1, u.2.2.2.2.2.1, u.2.2.2.2.2.2.1, u.2.2.2.2.2.2.2.1, u.2.2.2.2.2.2.2.2.1, u.2.2.2.2.2.2.2.2.2.1, u.2.2.2.2.2.2.2.2.2.2.1, u.2.2.2.2.2.2.2.2.2.2.2.1, u.2.2.2.2.2.2.2.2.2.2.2.2.1, (upd (upd u.2.2.2.2.2.2.2.2.2.2.2.2.2.1 (x2 : Int32).toNatClampNeg (u.2.2.2.2.2.2.2.2.2.2.2.2.2.1 (x3 : Int32).toNatClampNeg)) (x3 : Int32).toNatClampNeg (u.2.2.2.2.2.2.2.2.2.2.2.2.2.1 (x2 : Int32).toNatClampNeg)), u.2.2.2.2.2.2.2.2.2.2.2.2.2.2) (x2 + 1) (x1 - 1)))))) ∧
 (¬ (u.2.2.2.2.2.2.2.2.2.2.2.2.2.1 (x2 : Int32).toNatClampNeg) ≤ (u.2.2.2.2.2.2.2.2.2.2.2.2.2.1 (x3 : Int32).toNatClampNeg) → V_X8_nextOrder_41 K n u x1 x2 (x3 + (-1))))))
set_option maxRecDepth 20000 in
set_option maxHeartbeats 4000000 in
theorem t_X8_nextOrder_41 {a : Nat → Nat} {K : Int32 → MS → Prop} (C : bx_C p (rmD 0) S m args meth c cX8_nextOrder 7 yX8_nextOrder.cls (some .boolean) E A 0 0)   : ∀ (n : Nat) (u : MS) (x1 : Int32) (x2 : Int32) (x3 : Int32), V_X8_nextOrder_41 K n u x1 x2 x3 → G_X8_nextOrder p l e S m args below meth c E A a  K 41 [(0, .ref (a 0)), (1, .int x1), (2, .int x2), (3, .int x3)] [] (w_M E a u) := by
  intro n
  induction n with
  | zero =>
    intro u x1 x2 x3 hv
    exact False.elim hv
  | succ n ih =>
    intro u x1 x2 x3 hv
    unfold V_X8_nextOrder_41 at hv
    refine bx_aload_n C 42 dX8_nextOrder_41 rfl rfl rfl ?_
    refine bx_getf (v := .ref (a 7)) C 45 0 13 inX8 rfl (by decide) fl_X8_37 dX8_nextOrder_42 at_M_0 rfl rfl ?_
    refine bx_iload_n C 46 dX8_nextOrder_45 rfl rfl rfl ?_
    refine bx_iald (f := u.2.2.2.2.2.2.2.2.2.2.2.2.2.1) C 47 7 dX8_nextOrder_46 at_M_7 hv.1 rfl ?_
    replace hv := hv.2
    refine bx_aload_n C 48 dX8_nextOrder_47 rfl rfl rfl ?_
    refine bx_getf (v := .ref (a 7)) C 51 0 13 inX8 rfl (by decide) fl_X8_37 dX8_nextOrder_48 at_M_0 rfl rfl ?_
    refine bx_iload_n C 52 dX8_nextOrder_51 rfl rfl rfl ?_
    refine bx_iald (f := u.2.2.2.2.2.2.2.2.2.2.2.2.2.1) C 53 7 dX8_nextOrder_52 at_M_7 hv.1 rfl ?_
    replace hv := hv.2
    refine bx_icmp_ge C 62 56 dX8_nextOrder_53 (by decide) rfl (fun h => ?_) (fun h => ?_)
    · replace hv := hv.1 h
      refine bx_aload_n C 63 dX8_nextOrder_62 rfl rfl rfl ?_
      refine bx_getf (v := .ref (a 7)) C 66 0 13 inX8 rfl (by decide) fl_X8_37 dX8_nextOrder_63 at_M_0 rfl rfl ?_
      refine bx_iload_n C 67 dX8_nextOrder_66 rfl rfl rfl ?_
      refine bx_iald (f := u.2.2.2.2.2.2.2.2.2.2.2.2.2.1) C 68 7 dX8_nextOrder_67 at_M_7 hv.1 rfl ?_
      replace hv := hv.2
      refine bx_istore C 70 dX8_nextOrder_68 (by decide) rfl ?_
      refine bx_aload_n C 71 dX8_nextOrder_70 rfl rfl rfl ?_
      refine bx_getf (v := .ref (a 7)) C 74 0 13 inX8 rfl (by decide) fl_X8_37 dX8_nextOrder_71 at_M_0 rfl rfl ?_
      refine bx_iload_n C 75 dX8_nextOrder_74 rfl rfl rfl ?_
      refine bx_aload_n C 76 dX8_nextOrder_75 rfl rfl rfl ?_
      refine bx_getf (v := .ref (a 7)) C 79 0 13 inX8 rfl (by decide) fl_X8_37 dX8_nextOrder_76 at_M_0 rfl rfl ?_
      refine bx_iload_n C 80 dX8_nextOrder_79 rfl rfl rfl ?_
      refine bx_iald (f := u.2.2.2.2.2.2.2.2.2.2.2.2.2.1) C 81 7 dX8_nextOrder_80 at_M_7 hv.1 rfl ?_
      replace hv := hv.2
      refine bx_iast C 82 7 (w_M E a (u.1, u.2.1, u.2.2.1, u.2.2.2.1, u.2.2.2.2.1, u.2.2.2.2.2.1, u.2.2.2.2.2.2.1, u.2.2.2.2.2.2.2.1, u.2.2.2.2.2.2.2.2.1, u.2.2.2.2.2.2.2.2.2.1, u.2.2.2.2.2.2.2.2.2.2.1, u.2.2.2.2.2.2.2.2.2.2.2.1, u.2.2.2.2.2.2.2.2.2.2.2.2.1, (upd u.2.2.2.2.2.2.2.2.2.2.2.2.2.1 (x2 : Int32).toNatClampNeg (u.2.2.2.2.2.2.2.2.2.2.2.2.2.1 (x3 : Int32).toNatClampNeg)), u.2.2.2.2.2.2.2.2.2.2.2.2.2.2)) dX8_nextOrder_81 rfl hv.1 rfl rfl ?_
      replace hv := hv.2
      refine bx_aload_n C 83 dX8_nextOrder_82 rfl rfl rfl ?_
      refine bx_getf (v := .ref (a 7)) C 86 0 13 inX8 rfl (by decide) fl_X8_37 dX8_nextOrder_83 at_M_0 rfl rfl ?_
      refine bx_iload_n C 87 dX8_nextOrder_86 rfl rfl rfl ?_
      refine bx_iload C 89 dX8_nextOrder_87 rfl rfl ?_
      refine bx_iast C 90 7 (w_M E a (u.1, u.2.1, u.2.2.1, u.2.2.2.1, u.2.2.2.2.1, u.2.2.2.2.2.1, u.2.2.2.2.2.2.1, u.2.2.2.2.2.2.2.1, u.2.2.2.2.2.2.2.2.1, u.2.2.2.2.2.2.2.2.2.1, u.2.2.2.2.2.2.2.2.2.2.1, u.2.2.2.2.2.2.2.2.2.2.2.1, u.2.2.2.2.2.2.2.2.2.2.2.2.1, (upd (upd u.2.2.2.2.2.2.2.2.2.2.2.2.2.1 (x2 : Int32).toNatClampNeg (u.2.2.2.2.2.2.2.2.2.2.2.2.2.1 (x3 : Int32).toNatClampNeg)) (x3 : Int32).toNatClampNeg (u.2.2.2.2.2.2.2.2.2.2.2.2.2.1 (x2 : Int32).toNatClampNeg)), u.2.2.2.2.2.2.2.2.2.2.2.2.2.2)) dX8_nextOrder_89 rfl hv.1 rfl rfl ?_
      replace hv := hv.2
      refine bx_iload_n C 91 dX8_nextOrder_90 rfl rfl rfl ?_
      refine bx_iconst C 1 92 dX8_nextOrder_91 ic_1 rfl ?_
      refine bx_iadd C 93 dX8_nextOrder_92 rfl ?_
      refine bx_istore C 95 dX8_nextOrder_93 (by decide) rfl ?_
      refine bx_iload_n C 96 dX8_nextOrder_95 rfl rfl rfl ?_
      refine bx_iconst C 1 97 dX8_nextOrder_96 ic_1 rfl ?_
      refine bx_isub C 98 dX8_nextOrder_97 rfl ?_
      refine bx_istore C 100 dX8_nextOrder_98 (by decide) rfl ?_
      obtain ⟨n1, hv⟩ := hv
      exact bx_cut [3, 1, 0] (w_M E a (u.1, u.2.1, u.2.2.1, u.2.2.2.1, u.2.2.2.2.1, u.2.2.2.2.2.1, u.2.2.2.2.2.2.1, u.2.2.2.2.2.2.2.1, u.2.2.2.2.2.2.2.2.1, u.2.2.2.2.2.2.2.2.2.1, u.2.2.2.2.2.2.2.2.2.2.1, u.2.2.2.2.2.2.2.2.2.2.2.1, u.2.2.2.2.2.2.2.2.2.2.2.2.1, (upd (upd u.2.2.2.2.2.2.2.2.2.2.2.2.2.1 (x2 : Int32).toNatClampNeg (u.2.2.2.2.2.2.2.2.2.2.2.2.2.1 (x3 : Int32).toNatClampNeg)) (x3 : Int32).toNatClampNeg (u.2.2.2.2.2.2.2.2.2.2.2.2.2.1 (x2 : Int32).toNatClampNeg)), u.2.2.2.2.2.2.2.2.2.2.2.2.2.2)) rfl rfl (t_X8_nextOrder_100 C   n1 (u.1, u.2.1, u.2.2.1, u.2.2.2.1, u.2.2.2.2.1, u.2.2.2.2.2.1, u.2.2.2.2.2.2.1, u.2.2.2.2.2.2.2.1, u.2.2.2.2.2.2.2.2.1, u.2.2.2.2.2.2.2.2.2.1, u.2.2.2.2.2.2.2.2.2.2.1, u.2.2.2.2.2.2.2.2.2.2.2.1, u.2.2.2.2.2.2.2.2.2.2.2.2.1, (upd (upd u.2.2.2.2.2.2.2.2.2.2.2.2.2.1 (x2 : Int32).toNatClampNeg (u.2.2.2.2.2.2.2.2.2.2.2.2.2.1 (x3 : Int32).toNatClampNeg)) (x3 : Int32).toNatClampNeg (u.2.2.2.2.2.2.2.2.2.2.2.2.2.1 (x2 : Int32).toNatClampNeg)), u.2.2.2.2.2.2.2.2.2.2.2.2.2.2) (x2 + 1) (x1 - 1) hv)
    · replace hv := hv.2 h
      refine bx_iinc C (-1) 59 dX8_nextOrder_56 rfl (by decide) ic_m1 rfl ?_
      refine bx_goto C 41 dX8_nextOrder_59 (by decide) ?_
      exact bx_cut [1, 2, 3, 0] (w_M E a u) rfl rfl (ih u x1 x2 (x3 + (-1)) hv)
def V_X8_nextOrder_31  (K : Int32 → MS → Prop)  (u : MS) (x1 : Int32) (x2 : Int32) : Prop := ((0 ≤ x2 → ∃ n2, V_X8_nextOrder_41 K n2 u x1 x2 (x1 - 1)) ∧
 (¬ 0 ≤ x2 → K 0 u))
set_option maxRecDepth 20000 in
set_option maxHeartbeats 4000000 in
theorem t_X8_nextOrder_31 {a : Nat → Nat} {K : Int32 → MS → Prop} (C : bx_C p (rmD 0) S m args meth c cX8_nextOrder 7 yX8_nextOrder.cls (some .boolean) E A 0 0)   (u : MS) (x1 : Int32) (x2 : Int32) (hv : V_X8_nextOrder_31 K u x1 x2) : G_X8_nextOrder p l e S m args below meth c E A a  K 31 [(0, .ref (a 0)), (1, .int x1), (2, .int x2)] [] (w_M E a u) := by
  unfold V_X8_nextOrder_31 at hv
  refine bx_iload_n C 32 dX8_nextOrder_31 rfl rfl rfl ?_
  refine bx_if_ge C 37 35 dX8_nextOrder_32 (by decide) rfl (fun h => ?_) (fun h => ?_)
  · replace hv := hv.1 h
    refine bx_iload_n C 38 dX8_nextOrder_37 rfl rfl rfl ?_
    refine bx_iconst C 1 39 dX8_nextOrder_38 ic_1 rfl ?_
    refine bx_isub C 40 dX8_nextOrder_39 rfl ?_
    refine bx_istore_n C 41 dX8_nextOrder_40 rfl (by decide) rfl ?_
    obtain ⟨n2, hv⟩ := hv
    exact bx_cut [1, 2, 3, 0] (w_M E a u) rfl rfl (t_X8_nextOrder_41 C   n2 u x1 x2 (x1 - 1) hv)
  · replace hv := hv.2 h
    refine bx_iconst C 0 36 dX8_nextOrder_35 ic_0 rfl ?_
    exact bx_zret C u rfl dX8_nextOrder_36 rfl (Or.inl rfl) hv
def V_X8_nextOrder_4  (K : Int32 → MS → Prop)  : Nat → MS → Int32 → Int32 → Prop
  | 0, _, _, _ => False
  | n + 1, u, x1, x2 => ((x2 < 0 → V_X8_nextOrder_31 K u x1 x2) ∧
 (¬ x2 < 0 → (vp_in x2 7 ∧ (vp_in (x2 + 1) 7 ∧ (((u.2.2.2.2.2.2.2.2.2.2.2.2.2.1 (x2 : Int32).toNatClampNeg) ≤ (u.2.2.2.2.2.2.2.2.2.2.2.2.2.1 ((x2 + 1) : Int32).toNatClampNeg) → V_X8_nextOrder_31 K u x1 x2) ∧
 (¬ (u.2.2.2.2.2.2.2.2.2.2.2.2.2.1 (x2 : Int32).toNatClampNeg) ≤ (u.2.2.2.2.2.2.2.2.2.2.2.2.2.1 ((x2 + 1) : Int32).toNatClampNeg) → V_X8_nextOrder_4 K n u x1 (x2 + (-1))))))))
set_option maxRecDepth 20000 in
set_option maxHeartbeats 4000000 in
theorem t_X8_nextOrder_4 {a : Nat → Nat} {K : Int32 → MS → Prop} (C : bx_C p (rmD 0) S m args meth c cX8_nextOrder 7 yX8_nextOrder.cls (some .boolean) E A 0 0)   : ∀ (n : Nat) (u : MS) (x1 : Int32) (x2 : Int32), V_X8_nextOrder_4 K n u x1 x2 → G_X8_nextOrder p l e S m args below meth c E A a  K 4 [(0, .ref (a 0)), (1, .int x1), (2, .int x2)] [] (w_M E a u) := by
  intro n
  induction n with
  | zero =>
    intro u x1 x2 hv
    exact False.elim hv
  | succ n ih =>
    intro u x1 x2 hv
    unfold V_X8_nextOrder_4 at hv
    refine bx_iload_n C 5 dX8_nextOrder_4 rfl rfl rfl ?_
    refine bx_if_lt C 31 8 dX8_nextOrder_5 (by decide) rfl (fun h => ?_) (fun h => ?_)
    · replace hv := hv.1 h
      exact bx_cut [0, 1, 2] (w_M E a u) rfl rfl (t_X8_nextOrder_31 C   u x1 x2 hv)
    · replace hv := hv.2 h
      refine bx_aload_n C 9 dX8_nextOrder_8 rfl rfl rfl ?_
      refine bx_getf (v := .ref (a 7)) C 12 0 13 inX8 rfl (by decide) fl_X8_37 dX8_nextOrder_9 at_M_0 rfl rfl ?_
      refine bx_iload_n C 13 dX8_nextOrder_12 rfl rfl rfl ?_
      refine bx_iald (f := u.2.2.2.2.2.2.2.2.2.2.2.2.2.1) C 14 7 dX8_nextOrder_13 at_M_7 hv.1 rfl ?_
      replace hv := hv.2
      refine bx_aload_n C 15 dX8_nextOrder_14 rfl rfl rfl ?_
      refine bx_getf (v := .ref (a 7)) C 18 0 13 inX8 rfl (by decide) fl_X8_37 dX8_nextOrder_15 at_M_0 rfl rfl ?_
      refine bx_iload_n C 19 dX8_nextOrder_18 rfl rfl rfl ?_
      refine bx_iconst C 1 20 dX8_nextOrder_19 ic_1 rfl ?_
      refine bx_iadd C 21 dX8_nextOrder_20 rfl ?_
      refine bx_iald (f := u.2.2.2.2.2.2.2.2.2.2.2.2.2.1) C 22 7 dX8_nextOrder_21 at_M_7 hv.1 rfl ?_
      replace hv := hv.2
      refine bx_icmp_le C 31 25 dX8_nextOrder_22 (by decide) rfl (fun h => ?_) (fun h => ?_)
      · replace hv := hv.1 h
        exact bx_cut [0, 1, 2] (w_M E a u) rfl rfl (t_X8_nextOrder_31 C   u x1 x2 hv)
      · replace hv := hv.2 h
        refine bx_iinc C (-1) 28 dX8_nextOrder_25 rfl (by decide) ic_m1 rfl ?_
        refine bx_goto C 4 dX8_nextOrder_28 (by decide) ?_
        exact bx_cut [1, 2, 0] (w_M E a u) rfl rfl (ih u x1 (x2 + (-1)) hv)
def V_X8_nextOrder  (K : Int32 → MS → Prop)  (u : MS) (x1 : Int32) : Prop := ∃ n3, V_X8_nextOrder_4 K n3 u x1 (x1 - 2)
set_option maxRecDepth 20000 in
set_option maxHeartbeats 4000000 in
theorem t_X8_nextOrder_0 {a : Nat → Nat} {K : Int32 → MS → Prop} (C : bx_C p (rmD 0) S m args meth c cX8_nextOrder 7 yX8_nextOrder.cls (some .boolean) E A 0 0)   (u : MS) (x1 : Int32) (hv : V_X8_nextOrder K u x1) : G_X8_nextOrder p l e S m args below meth c E A a  K 0 [(0, .ref (a 0)), (1, .int x1)] [] (w_M E a u) := by
  unfold V_X8_nextOrder at hv
  refine bx_iload_n C 1 dX8_nextOrder_0 rfl rfl rfl ?_
  refine bx_iconst C 2 2 dX8_nextOrder_1 ic_2 rfl ?_
  refine bx_isub C 3 dX8_nextOrder_2 rfl ?_
  refine bx_istore_n C 4 dX8_nextOrder_3 rfl (by decide) rfl ?_
  obtain ⟨n3, hv⟩ := hv
  exact bx_cut [1, 2, 0] (w_M E a u) rfl rfl (t_X8_nextOrder_4 C   n3 u x1 (x1 - 2) hv)
theorem k_X8_nextOrder (l : Launch) (E : bx_E) (a : Nat → Nat)  (K : Int32 → MS → Prop) (u : MS) (x1 : Int32) (hv : V_X8_nextOrder  K u x1) : bx_Mi l E yX8_nextOrder cX8_nextOrder 7 (some .boolean) (rmD 0) [.ref (a 0), .int x1] (fun (u : MS) => w_M E a u) u K :=
  bx_meti (by decide +kernel) (Nat.le_of_ble_eq_true rfl) (fun p e S m below meth c C => t_X8_nextOrder_0 C u x1 hv)
abbrev G_X8_layTried (p : Program) (l : Launch) (e : Env) (S : State) (m : MethodId) (args : Array Value) (below : List Frame) (meth : Method) (c : Code) (E : bx_E) (A : Nat → Prop) (a : Nat → Nat)  (K : Int32 → MS → Prop) (pc : Nat) (lv : List (Nat × Value)) (st : List Value) (ws : va_W) : Prop := bx_S p l e (rmD 4) S m args below meth c 5 E A (MQ below (va_Qi K (fun (u : MS) t => bx_B E A (w_M E a u) t) A) args S 0 0 A) 0 0 pc lv st ws
def V_X8_layTried_51  (K : Int32 → MS → Prop) (B4 : MS → Int32 → Int32 → Prop) : Nat → MS → Int32 → Int32 → Int32 → Int32 → Prop
  | 0, _, _, _, _, _ => False
  | n + 1, u, x1, x2, x3, x4 => ((x1 ≤ x4 → ((x3 = 0 → B4 u x1 (x2 + 1)) ∧
 (¬ x3 = 0 → (vp_in x1 7 ∧ B4 (u.1, u.2.1, u.2.2.1, u.2.2.2.1, u.2.2.2.2.1, u.2.2.2.2.2.1, u.2.2.2.2.2.2.1, u.2.2.2.2.2.2.2.1, u.2.2.2.2.2.2.2.2.1, u.2.2.2.2.2.2.2.2.2.1, u.2.2.2.2.2.2.2.2.2.2.1, u.2.2.2.2.2.2.2.2.2.2.2.1, u.2.2.2.2.2.2.2.2.2.2.2.2.1, (upd u.2.2.2.2.2.2.2.2.2.2.2.2.2.1 (x1 : Int32).toNatClampNeg x2), u.2.2.2.2.2.2.2.2.2.2.2.2.2.2) (x1 + 1) (x2 + 1))))) ∧
 (¬ x1 ≤ x4 → ((x3 = 0 → V_X8_layTried_51 K B4 n u x1 x2 0 (x4 + 1)) ∧
 (¬ x3 = 0 → (vp_in x4 7 ∧ (V_X8_soulOf (fun r1 => (V_X8_soulOf (fun r2 => ((r1 = r2 → V_X8_layTried_51 K B4 n u x1 x2 0 (x4 + 1)) ∧
 (¬ r1 = r2 → V_X8_layTried_51 K B4 n u x1 x2 1 (x4 + 1)))) u.1 x2 1)) u.1 (u.2.2.2.2.2.2.2.2.2.2.2.2.2.1 (x4 : Int32).toNatClampNeg) 1))))))
set_option maxRecDepth 20000 in
set_option maxHeartbeats 4000000 in
theorem t_X8_layTried_51 {a : Nat → Nat} {K : Int32 → MS → Prop} (C : bx_C p (rmD 4) S m args meth c cX8_layTried 5 yX8_layTried.cls (some .int) E A 0 0)  (B4 : MS → Int32 → Int32 → Prop) (hB4 : ∀ (u : MS) (x1 : Int32) (x2 : Int32), B4 u x1 x2 → G_X8_layTried p l e S m args below meth c E A a  K 4 [(0, .ref (a 0)), (1, .int x1), (2, .int x2)] [] (w_M E a u)) : ∀ (n : Nat) (u : MS) (x1 : Int32) (x2 : Int32) (x3 : Int32) (x4 : Int32), V_X8_layTried_51 K B4 n u x1 x2 x3 x4 → G_X8_layTried p l e S m args below meth c E A a  K 51 [(0, .ref (a 0)), (1, .int x1), (2, .int x2), (3, .int x3), (4, .int x4)] [] (w_M E a u) := by
  intro n
  induction n with
  | zero =>
    intro u x1 x2 x3 x4 hv
    exact False.elim hv
  | succ n ih =>
    intro u x1 x2 x3 x4 hv
    unfold V_X8_layTried_51 at hv
    refine bx_iload C 53 dX8_layTried_51 rfl rfl ?_
    refine bx_iload_n C 54 dX8_layTried_53 rfl rfl rfl ?_
    refine bx_icmp_ge C 100 57 dX8_layTried_54 (by decide) rfl (fun h => ?_) (fun h => ?_)
    · replace hv := hv.1 h
      refine bx_iload_n C 101 dX8_layTried_100 rfl rfl rfl ?_
      refine bx_if_eq C 114 104 dX8_layTried_101 (by decide) rfl (fun h => ?_) (fun h => ?_)
      · replace hv := hv.1 h
        refine bx_iinc C 1 117 dX8_layTried_114 rfl (by decide) ic_1 rfl ?_
        refine bx_goto C 4 dX8_layTried_117 (by decide) ?_
        exact bx_cut [1, 2, 0] (w_M E a u) rfl rfl (hB4 u x1 (x2 + 1) hv)
      · replace hv := hv.2 h
        refine bx_aload_n C 105 dX8_layTried_104 rfl rfl rfl ?_
        refine bx_getf (v := .ref (a 7)) C 108 0 13 inX8 rfl (by decide) fl_X8_37 dX8_layTried_105 at_M_0 rfl rfl ?_
        refine bx_iload_n C 109 dX8_layTried_108 rfl rfl rfl ?_
        refine bx_iload_n C 110 dX8_layTried_109 rfl rfl rfl ?_
        refine bx_iast C 111 7 (w_M E a (u.1, u.2.1, u.2.2.1, u.2.2.2.1, u.2.2.2.2.1, u.2.2.2.2.2.1, u.2.2.2.2.2.2.1, u.2.2.2.2.2.2.2.1, u.2.2.2.2.2.2.2.2.1, u.2.2.2.2.2.2.2.2.2.1, u.2.2.2.2.2.2.2.2.2.2.1, u.2.2.2.2.2.2.2.2.2.2.2.1, u.2.2.2.2.2.2.2.2.2.2.2.2.1, (upd u.2.2.2.2.2.2.2.2.2.2.2.2.2.1 (x1 : Int32).toNatClampNeg x2), u.2.2.2.2.2.2.2.2.2.2.2.2.2.2)) dX8_layTried_110 rfl hv.1 rfl rfl ?_
        replace hv := hv.2
        refine bx_iinc C 1 114 dX8_layTried_111 rfl (by decide) ic_1 rfl ?_
        refine bx_iinc C 1 117 dX8_layTried_114 rfl (by decide) ic_1 rfl ?_
        refine bx_goto C 4 dX8_layTried_117 (by decide) ?_
        exact bx_cut [2, 1, 0] (w_M E a (u.1, u.2.1, u.2.2.1, u.2.2.2.1, u.2.2.2.2.1, u.2.2.2.2.2.1, u.2.2.2.2.2.2.1, u.2.2.2.2.2.2.2.1, u.2.2.2.2.2.2.2.2.1, u.2.2.2.2.2.2.2.2.2.1, u.2.2.2.2.2.2.2.2.2.2.1, u.2.2.2.2.2.2.2.2.2.2.2.1, u.2.2.2.2.2.2.2.2.2.2.2.2.1, (upd u.2.2.2.2.2.2.2.2.2.2.2.2.2.1 (x1 : Int32).toNatClampNeg x2), u.2.2.2.2.2.2.2.2.2.2.2.2.2.2)) rfl rfl (hB4 (u.1, u.2.1, u.2.2.1, u.2.2.2.1, u.2.2.2.2.1, u.2.2.2.2.2.1, u.2.2.2.2.2.2.1, u.2.2.2.2.2.2.2.1, u.2.2.2.2.2.2.2.2.1, u.2.2.2.2.2.2.2.2.2.1, u.2.2.2.2.2.2.2.2.2.2.1, u.2.2.2.2.2.2.2.2.2.2.2.1, u.2.2.2.2.2.2.2.2.2.2.2.2.1, (upd u.2.2.2.2.2.2.2.2.2.2.2.2.2.1 (x1 : Int32).toNatClampNeg x2), u.2.2.2.2.2.2.2.2.2.2.2.2.2.2) (x1 + 1) (x2 + 1) hv)
    · replace hv := hv.2 h
      refine bx_iload_n C 58 dX8_layTried_57 rfl rfl rfl ?_
      refine bx_if_eq C 92 61 dX8_layTried_58 (by decide) rfl (fun h => ?_) (fun h => ?_)
      · replace hv := hv.1 h
        refine bx_iconst C 0 93 dX8_layTried_92 ic_0 rfl ?_
        refine bx_istore_n C 94 dX8_layTried_93 rfl (by decide) rfl ?_
        refine bx_iinc C 1 97 dX8_layTried_94 rfl (by decide) ic_1 rfl ?_
        refine bx_goto C 51 dX8_layTried_97 (by decide) ?_
        exact bx_cut [2, 3, 4, 1, 0] (w_M E a u) rfl rfl (ih u x1 x2 0 (x4 + 1) hv)
      · replace hv := hv.2 h
        refine bx_aload_n C 62 dX8_layTried_61 rfl rfl rfl ?_
        refine bx_getf (v := .ref (a 1)) C 65 0 0 inX8 rfl (by decide) fl_X8_7 dX8_layTried_62 at_M_0 rfl rfl ?_
        refine bx_aload_n C 66 dX8_layTried_65 rfl rfl rfl ?_
        refine bx_getf (v := .ref (a 7)) C 69 0 13 inX8 rfl (by decide) fl_X8_37 dX8_layTried_66 at_M_0 rfl rfl ?_
        refine bx_iload C 71 dX8_layTried_69 rfl rfl ?_
        refine bx_iald (f := u.2.2.2.2.2.2.2.2.2.2.2.2.2.1) C 72 7 dX8_layTried_71 at_M_7 hv.1 rfl ?_
        replace hv := hv.2
        refine bx_iconst C 1 73 dX8_layTried_72 ic_1 rfl ?_
        refine bx_pSi C 76 fc_X8_55 (k_X8_soulOf l E (fun k => a (1 + k)) _ _ _ _ hv) dX8_layTried_73 ⟨rfl, rfl, Nat.le_of_ble_eq_true rfl, Nat.le_of_ble_eq_true rfl⟩ [1] ps_M_A_1 (by decide) rfl rfl (Nat.le_of_ble_eq_true rfl) rfl (fun r1 hv => ?_)
        refine bx_aload_n C 77 dX8_layTried_76 rfl rfl rfl ?_
        refine bx_getf (v := .ref (a 1)) C 80 0 0 inX8 rfl (by decide) fl_X8_7 dX8_layTried_77 at_M_0 rfl rfl ?_
        refine bx_iload_n C 81 dX8_layTried_80 rfl rfl rfl ?_
        refine bx_iconst C 1 82 dX8_layTried_81 ic_1 rfl ?_
        refine bx_pSi C 85 fc_X8_55 (k_X8_soulOf l E (fun k => a (1 + k)) _ _ _ _ hv) dX8_layTried_82 ⟨rfl, rfl, Nat.le_of_ble_eq_true rfl, Nat.le_of_ble_eq_true rfl⟩ [1] ps_M_A_1 (by decide) rfl rfl (Nat.le_of_ble_eq_true rfl) rfl (fun r2 hv => ?_)
        refine bx_icmp_eq C 92 88 dX8_layTried_85 (by decide) rfl (fun h => ?_) (fun h => ?_)
        · replace hv := hv.1 h
          refine bx_iconst C 0 93 dX8_layTried_92 ic_0 rfl ?_
          refine bx_istore_n C 94 dX8_layTried_93 rfl (by decide) rfl ?_
          refine bx_iinc C 1 97 dX8_layTried_94 rfl (by decide) ic_1 rfl ?_
          refine bx_goto C 51 dX8_layTried_97 (by decide) ?_
          exact bx_cut [2, 3, 4, 1, 0] (w_M E a u) rfl rfl (ih u x1 x2 0 (x4 + 1) hv)
        · replace hv := hv.2 h
          refine bx_iconst C 1 89 dX8_layTried_88 ic_1 rfl ?_
          refine bx_goto C 93 dX8_layTried_89 (by decide) ?_
          refine bx_istore_n C 94 dX8_layTried_93 rfl (by decide) rfl ?_
          refine bx_iinc C 1 97 dX8_layTried_94 rfl (by decide) ic_1 rfl ?_
          refine bx_goto C 51 dX8_layTried_97 (by decide) ?_
          exact bx_cut [2, 3, 4, 1, 0] (w_M E a u) rfl rfl (ih u x1 x2 1 (x4 + 1) hv)
def V_X8_layTried_4  (K : Int32 → MS → Prop)  : Nat → MS → Int32 → Int32 → Prop
  | 0, _, _, _ => False
  | n + 1, u, x1, x2 => (((u.1 8) ≤ x2 → K x1 u) ∧
 (¬ (u.1 8) ≤ x2 → (V_X8_isOut (fun r3 => ((r3 = 0 → ∃ n4, V_X8_layTried_51 K (fun v y0 y1 => V_X8_layTried_4 K n v y0 y1) n4 u x1 x2 0 0) ∧
 (¬ r3 = 0 → (V_X8_soulOf (fun r5 => (V_X8_isFree (fun r6 => ((r6 = 0 → ∃ n7, V_X8_layTried_51 K (fun v y0 y1 => V_X8_layTried_4 K n v y0 y1) n7 u x1 x2 0 0) ∧
 (¬ r6 = 0 → ∃ n8, V_X8_layTried_51 K (fun v y0 y1 => V_X8_layTried_4 K n v y0 y1) n8 u x1 x2 1 0))) u.1 r5)) u.1 x2 1)))) u x2)))
set_option maxRecDepth 20000 in
set_option maxHeartbeats 4000000 in
theorem t_X8_layTried_4 {a : Nat → Nat} {K : Int32 → MS → Prop} (C : bx_C p (rmD 4) S m args meth c cX8_layTried 5 yX8_layTried.cls (some .int) E A 0 0)   : ∀ (n : Nat) (u : MS) (x1 : Int32) (x2 : Int32), V_X8_layTried_4 K n u x1 x2 → G_X8_layTried p l e S m args below meth c E A a  K 4 [(0, .ref (a 0)), (1, .int x1), (2, .int x2)] [] (w_M E a u) := by
  intro n
  induction n with
  | zero =>
    intro u x1 x2 hv
    exact False.elim hv
  | succ n ih =>
    intro u x1 x2 hv
    unfold V_X8_layTried_4 at hv
    refine bx_iload_n C 5 dX8_layTried_4 rfl rfl rfl ?_
    refine bx_aload_n C 6 dX8_layTried_5 rfl rfl rfl ?_
    refine bx_getf (v := .ref (a 1)) C 9 0 0 inX8 rfl (by decide) fl_X8_7 dX8_layTried_6 at_M_0 rfl rfl ?_
    refine bx_bipush C 8 11 dX8_layTried_9 bp_8 rfl ?_
    refine bx_iald_k (f := u.1) C 12 1 8 dX8_layTried_11 at_M_1 vin_8_171 cl_8 rfl ?_
    refine bx_icmp_ge C 120 15 dX8_layTried_12 (by decide) rfl (fun h => ?_) (fun h => ?_)
    · replace hv := hv.1 h
      refine bx_iload_n C 121 dX8_layTried_120 rfl rfl rfl ?_
      exact bx_iret C u rfl dX8_layTried_121 rfl hv
    · replace hv := hv.2 h
      refine bx_aload_n C 16 dX8_layTried_15 rfl rfl rfl ?_
      refine bx_iload_n C 17 dX8_layTried_16 rfl rfl rfl ?_
      refine bx_pVi C 0 at_M_0 rfl 20 fc_X8_216 (k_X8_isOut l E a _ _ _ hv) dX8_layTried_17 ⟨rfl, rfl, Nat.le_of_ble_eq_true rfl, Nat.le_of_ble_eq_true rfl⟩ [0, 1, 2, 3, 4, 5, 6, 7, 8, 9] ps_M_M_0 (by decide) rfl rfl (Nat.le_of_ble_eq_true rfl) rfl (fun r3 hv => ?_)
      refine bx_if_eq C 46 23 dX8_layTried_20 (by decide) rfl (fun h => ?_) (fun h => ?_)
      · replace hv := hv.1 h
        refine bx_iconst C 0 47 dX8_layTried_46 ic_0 rfl ?_
        refine bx_istore_n C 48 dX8_layTried_47 rfl (by decide) rfl ?_
        refine bx_iconst C 0 49 dX8_layTried_48 ic_0 rfl ?_
        refine bx_istore C 51 dX8_layTried_49 (by decide) rfl ?_
        obtain ⟨n4, hv⟩ := hv
        exact bx_cut [2, 3, 4, 1, 0] (w_M E a u) rfl rfl (t_X8_layTried_51 C  _ (fun v y0 y1 hv => ih v y0 y1 hv) n4 u x1 x2 0 0 hv)
      · replace hv := hv.2 h
        refine bx_aload_n C 24 dX8_layTried_23 rfl rfl rfl ?_
        refine bx_getf (v := .ref (a 1)) C 27 0 0 inX8 rfl (by decide) fl_X8_7 dX8_layTried_24 at_M_0 rfl rfl ?_
        refine bx_aload_n C 28 dX8_layTried_27 rfl rfl rfl ?_
        refine bx_getf (v := .ref (a 1)) C 31 0 0 inX8 rfl (by decide) fl_X8_7 dX8_layTried_28 at_M_0 rfl rfl ?_
        refine bx_iload_n C 32 dX8_layTried_31 rfl rfl rfl ?_
        refine bx_iconst C 1 33 dX8_layTried_32 ic_1 rfl ?_
        refine bx_pSi C 36 fc_X8_55 (k_X8_soulOf l E (fun k => a (1 + k)) _ _ _ _ hv) dX8_layTried_33 ⟨rfl, rfl, Nat.le_of_ble_eq_true rfl, Nat.le_of_ble_eq_true rfl⟩ [1] ps_M_A_1 (by decide) rfl rfl (Nat.le_of_ble_eq_true rfl) rfl (fun r5 hv => ?_)
        refine bx_pSi C 39 fc_X8_171 (k_X8_isFree l E (fun k => a (1 + k)) _ _ _ hv) dX8_layTried_36 ⟨rfl, rfl, Nat.le_of_ble_eq_true rfl, Nat.le_of_ble_eq_true rfl⟩ [1] ps_M_A_1 (by decide) rfl rfl (Nat.le_of_ble_eq_true rfl) rfl (fun r6 hv => ?_)
        refine bx_if_eq C 46 42 dX8_layTried_39 (by decide) rfl (fun h => ?_) (fun h => ?_)
        · replace hv := hv.1 h
          refine bx_iconst C 0 47 dX8_layTried_46 ic_0 rfl ?_
          refine bx_istore_n C 48 dX8_layTried_47 rfl (by decide) rfl ?_
          refine bx_iconst C 0 49 dX8_layTried_48 ic_0 rfl ?_
          refine bx_istore C 51 dX8_layTried_49 (by decide) rfl ?_
          obtain ⟨n7, hv⟩ := hv
          exact bx_cut [2, 3, 4, 1, 0] (w_M E a u) rfl rfl (t_X8_layTried_51 C  _ (fun v y0 y1 hv => ih v y0 y1 hv) n7 u x1 x2 0 0 hv)
        · replace hv := hv.2 h
          refine bx_iconst C 1 43 dX8_layTried_42 ic_1 rfl ?_
          refine bx_goto C 47 dX8_layTried_43 (by decide) ?_
          refine bx_istore_n C 48 dX8_layTried_47 rfl (by decide) rfl ?_
          refine bx_iconst C 0 49 dX8_layTried_48 ic_0 rfl ?_
          refine bx_istore C 51 dX8_layTried_49 (by decide) rfl ?_
          obtain ⟨n8, hv⟩ := hv
          exact bx_cut [2, 3, 4, 1, 0] (w_M E a u) rfl rfl (t_X8_layTried_51 C  _ (fun v y0 y1 hv => ih v y0 y1 hv) n8 u x1 x2 1 0 hv)
def V_X8_layTried  (K : Int32 → MS → Prop)  (u : MS)  : Prop := ∃ n9, V_X8_layTried_4 K n9 u 0 0
set_option maxRecDepth 20000 in
set_option maxHeartbeats 4000000 in
theorem t_X8_layTried_0 {a : Nat → Nat} {K : Int32 → MS → Prop} (C : bx_C p (rmD 4) S m args meth c cX8_layTried 5 yX8_layTried.cls (some .int) E A 0 0)   (u : MS)  (hv : V_X8_layTried K u ) : G_X8_layTried p l e S m args below meth c E A a  K 0 [(0, .ref (a 0))] [] (w_M E a u) := by
  unfold V_X8_layTried at hv
  refine bx_iconst C 0 1 dX8_layTried_0 ic_0 rfl ?_
  refine bx_istore_n C 2 dX8_layTried_1 rfl (by decide) rfl ?_
  refine bx_iconst C 0 3 dX8_layTried_2 ic_0 rfl ?_
  refine bx_istore_n C 4 dX8_layTried_3 rfl (by decide) rfl ?_
  obtain ⟨n9, hv⟩ := hv
  exact bx_cut [2, 1, 0] (w_M E a u) rfl rfl (t_X8_layTried_4 C   n9 u 0 0 hv)
theorem k_X8_layTried (l : Launch) (E : bx_E) (a : Nat → Nat)  (K : Int32 → MS → Prop) (u : MS)  (hv : V_X8_layTried  K u ) : bx_Mi l E yX8_layTried cX8_layTried 5 (some .int) (rmD 4) [.ref (a 0)] (fun (u : MS) => w_M E a u) u K :=
  bx_meti (by decide +kernel) (Nat.le_of_ble_eq_true rfl) (fun p e S m below meth c C => t_X8_layTried_0 C u  hv)
abbrev G_X8_order (p : Program) (l : Launch) (e : Env) (S : State) (m : MethodId) (args : Array Value) (below : List Frame) (meth : Method) (c : Code) (E : bx_E) (A : Nat → Prop) (a : Nat → Nat)  (K : Int32 → MS → Prop) (pc : Nat) (lv : List (Nat × Value)) (st : List Value) (ws : va_W) : Prop := bx_S p l e (rmD 5) S m args below meth c 7 E A (MQ below (va_Qi K (fun (u : MS) t => bx_B E A (w_M E a u) t) A) args S 0 0 A) 0 0 pc lv st ws
def V_X8_order_131  (K : Int32 → MS → Prop) (B32 : MS → Int32 → Int32 → Int32 → Int32 → Prop) (u : MS) (x1 : Int32) (x2 : Int32) (x3 : Int32) : Prop := (V_X8_nextOrder (fun r1 u2 => B32 u2 x1 x2 x3 r1) u x2)
set_option maxRecDepth 20000 in
set_option maxHeartbeats 4000000 in
theorem t_X8_order_131 {a : Nat → Nat} {K : Int32 → MS → Prop} (C : bx_C p (rmD 5) S m args meth c cX8_order 7 yX8_order.cls (some .int) E A 0 0)  (B32 : MS → Int32 → Int32 → Int32 → Int32 → Prop) (hB32 : ∀ (u : MS) (x1 : Int32) (x2 : Int32) (x3 : Int32) (x4 : Int32), B32 u x1 x2 x3 x4 → G_X8_order p l e S m args below meth c E A a  K 32 [(0, .ref (a 0)), (1, .int x1), (2, .int x2), (3, .int x3), (4, .int x4)] [] (w_M E a u)) (u : MS) (x1 : Int32) (x2 : Int32) (x3 : Int32) (hv : V_X8_order_131 K B32 u x1 x2 x3) : G_X8_order p l e S m args below meth c E A a  K 131 [(0, .ref (a 0)), (1, .int x1), (2, .int x2), (3, .int x3)] [] (w_M E a u) := by
  unfold V_X8_order_131 at hv
  refine bx_aload_n C 132 dX8_order_131 rfl rfl rfl ?_
  refine bx_iload_n C 133 dX8_order_132 rfl rfl rfl ?_
  refine bx_qVi C 0 at_M_0 rfl 136 fc_X8_228 (k_X8_nextOrder l E a _ _ _ hv) dX8_order_133 ⟨rfl, rfl, Nat.le_of_ble_eq_true rfl, Nat.le_of_ble_eq_true rfl⟩ [0, 1, 2, 3, 4, 5, 6, 7, 8, 9] (fun u2 => w_M E a u2) ps_M_M_0 (by decide) ad_M pu_M_M_0 rfl rfl (Nat.le_of_ble_eq_true rfl) rfl (fun r1 u2 hv => ?_)
  refine bx_istore C 138 dX8_order_136 (by decide) rfl ?_
  refine bx_goto C 32 dX8_order_138 (by decide) ?_
  exact bx_cut [1, 2, 3, 4, 0] (w_M E a u2) rfl rfl (hB32 u2 x1 x2 x3 r1 hv)
def V_X8_order_105  (K : Int32 → MS → Prop) (B32 : MS → Int32 → Int32 → Int32 → Int32 → Prop) : Nat → MS → Int32 → Int32 → Int32 → Int32 → Prop
  | 0, _, _, _, _, _ => False
  | n + 1, u, x1, x2, x3, x6 => ((x2 ≤ x6 → V_X8_order_131 K B32 u x1 x2 x3) ∧
 (¬ x2 ≤ x6 → (vp_in x6 7 ∧ (vp_in x6 7 ∧ V_X8_order_105 K B32 n (u.1, u.2.1, u.2.2.1, u.2.2.2.1, u.2.2.2.2.1, u.2.2.2.2.2.1, u.2.2.2.2.2.2.1, u.2.2.2.2.2.2.2.1, u.2.2.2.2.2.2.2.2.1, u.2.2.2.2.2.2.2.2.2.1, u.2.2.2.2.2.2.2.2.2.2.1, u.2.2.2.2.2.2.2.2.2.2.2.1, u.2.2.2.2.2.2.2.2.2.2.2.2.1, u.2.2.2.2.2.2.2.2.2.2.2.2.2.1, (upd u.2.2.2.2.2.2.2.2.2.2.2.2.2.2.1 (x6 : Int32).toNatClampNeg (u.2.2.2.2.2.2.2.2.2.2.2.2.2.1 (x6 : Int32).toNatClampNeg)), u.2.2.2.2.2.2.2.2.2.2.2.2.2.2.2) x1 x2 x3 (x6 + 1)))))
set_option maxRecDepth 20000 in
set_option maxHeartbeats 4000000 in
theorem t_X8_order_105 {a : Nat → Nat} {K : Int32 → MS → Prop} (C : bx_C p (rmD 5) S m args meth c cX8_order 7 yX8_order.cls (some .int) E A 0 0)  (B32 : MS → Int32 → Int32 → Int32 → Int32 → Prop) (hB32 : ∀ (u : MS) (x1 : Int32) (x2 : Int32) (x3 : Int32) (x4 : Int32), B32 u x1 x2 x3 x4 → G_X8_order p l e S m args below meth c E A a  K 32 [(0, .ref (a 0)), (1, .int x1), (2, .int x2), (3, .int x3), (4, .int x4)] [] (w_M E a u)) : ∀ (n : Nat) (u : MS) (x1 : Int32) (x2 : Int32) (x3 : Int32) (x6 : Int32), V_X8_order_105 K B32 n u x1 x2 x3 x6 → G_X8_order p l e S m args below meth c E A a  K 105 [(0, .ref (a 0)), (1, .int x1), (2, .int x2), (3, .int x3), (6, .int x6)] [] (w_M E a u) := by
  intro n
  induction n with
  | zero =>
    intro u x1 x2 x3 x6 hv
    exact False.elim hv
  | succ n ih =>
    intro u x1 x2 x3 x6 hv
    unfold V_X8_order_105 at hv
    refine bx_iload C 107 dX8_order_105 rfl rfl ?_
    refine bx_iload_n C 108 dX8_order_107 rfl rfl rfl ?_
    refine bx_icmp_ge C 131 111 dX8_order_108 (by decide) rfl (fun h => ?_) (fun h => ?_)
    · replace hv := hv.1 h
      exact bx_cut [0, 1, 2, 3] (w_M E a u) rfl rfl (t_X8_order_131 C  _ hB32 u x1 x2 x3 hv)
    · replace hv := hv.2 h
      refine bx_aload_n C 112 dX8_order_111 rfl rfl rfl ?_
      refine bx_getf (v := .ref (a 8)) C 115 0 14 inX8 rfl (by decide) fl_X8_40 dX8_order_112 at_M_0 rfl rfl ?_
      refine bx_iload C 117 dX8_order_115 rfl rfl ?_
      refine bx_aload_n C 118 dX8_order_117 rfl rfl rfl ?_
      refine bx_getf (v := .ref (a 7)) C 121 0 13 inX8 rfl (by decide) fl_X8_37 dX8_order_118 at_M_0 rfl rfl ?_
      refine bx_iload C 123 dX8_order_121 rfl rfl ?_
      refine bx_iald (f := u.2.2.2.2.2.2.2.2.2.2.2.2.2.1) C 124 7 dX8_order_123 at_M_7 hv.1 rfl ?_
      replace hv := hv.2
      refine bx_iast C 125 8 (w_M E a (u.1, u.2.1, u.2.2.1, u.2.2.2.1, u.2.2.2.2.1, u.2.2.2.2.2.1, u.2.2.2.2.2.2.1, u.2.2.2.2.2.2.2.1, u.2.2.2.2.2.2.2.2.1, u.2.2.2.2.2.2.2.2.2.1, u.2.2.2.2.2.2.2.2.2.2.1, u.2.2.2.2.2.2.2.2.2.2.2.1, u.2.2.2.2.2.2.2.2.2.2.2.2.1, u.2.2.2.2.2.2.2.2.2.2.2.2.2.1, (upd u.2.2.2.2.2.2.2.2.2.2.2.2.2.2.1 (x6 : Int32).toNatClampNeg (u.2.2.2.2.2.2.2.2.2.2.2.2.2.1 (x6 : Int32).toNatClampNeg)), u.2.2.2.2.2.2.2.2.2.2.2.2.2.2.2)) dX8_order_124 rfl hv.1 rfl rfl ?_
      replace hv := hv.2
      refine bx_iinc C 1 128 dX8_order_125 rfl (by decide) ic_1 rfl ?_
      refine bx_goto C 105 dX8_order_128 (by decide) ?_
      exact bx_cut [1, 2, 3, 4, 0] (w_M E a (u.1, u.2.1, u.2.2.1, u.2.2.2.1, u.2.2.2.2.1, u.2.2.2.2.2.1, u.2.2.2.2.2.2.1, u.2.2.2.2.2.2.2.1, u.2.2.2.2.2.2.2.2.1, u.2.2.2.2.2.2.2.2.2.1, u.2.2.2.2.2.2.2.2.2.2.1, u.2.2.2.2.2.2.2.2.2.2.2.1, u.2.2.2.2.2.2.2.2.2.2.2.2.1, u.2.2.2.2.2.2.2.2.2.2.2.2.2.1, (upd u.2.2.2.2.2.2.2.2.2.2.2.2.2.2.1 (x6 : Int32).toNatClampNeg (u.2.2.2.2.2.2.2.2.2.2.2.2.2.1 (x6 : Int32).toNatClampNeg)), u.2.2.2.2.2.2.2.2.2.2.2.2.2.2.2)) rfl rfl (ih (u.1, u.2.1, u.2.2.1, u.2.2.2.1, u.2.2.2.2.1, u.2.2.2.2.2.1, u.2.2.2.2.2.2.1, u.2.2.2.2.2.2.2.1, u.2.2.2.2.2.2.2.2.1, u.2.2.2.2.2.2.2.2.2.1, u.2.2.2.2.2.2.2.2.2.2.1, u.2.2.2.2.2.2.2.2.2.2.2.1, u.2.2.2.2.2.2.2.2.2.2.2.2.1, u.2.2.2.2.2.2.2.2.2.2.2.2.2.1, (upd u.2.2.2.2.2.2.2.2.2.2.2.2.2.2.1 (x6 : Int32).toNatClampNeg (u.2.2.2.2.2.2.2.2.2.2.2.2.2.1 (x6 : Int32).toNatClampNeg)), u.2.2.2.2.2.2.2.2.2.2.2.2.2.2.2) x1 x2 x3 (x6 + 1) hv)
def V_X8_order_47  (K : Int32 → MS → Prop) (B32 : MS → Int32 → Int32 → Int32 → Int32 → Prop) : Nat → MS → Int32 → Int32 → Int32 → Int32 → Int32 → Prop
  | 0, _, _, _, _, _, _ => False
  | n + 1, u, x1, x2, x3, x5, x6 => ((x2 ≤ x6 → ((x3 ≤ x5 → V_X8_order_131 K B32 u x1 x2 x3) ∧
 (¬ x3 ≤ x5 → ∃ n3, V_X8_order_105 K B32 n3 u x1 x2 x5 0))) ∧
 (¬ x2 ≤ x6 → (vp_in x6 7 ∧ (vp_in x6 7 ∧ (V_X8_soulOf (fun r4 => (V_X8_goes (fun r5 u6 => V_X8_order_47 K B32 n (u.1, u6, u.2.2) x1 x2 x3 (x5 + r5) (x6 + 1)) u.2.1 (u.2.2.2.2.2.2.2.2.2.2.2.2.2.1 (x6 : Int32).toNatClampNeg) r4)) u.1 (u.2.2.2.2.2.2.2.2.2.2.2.2.2.1 (x6 : Int32).toNatClampNeg) 1)))))
set_option maxRecDepth 20000 in
set_option maxHeartbeats 4000000 in
theorem t_X8_order_47 {a : Nat → Nat} {K : Int32 → MS → Prop} (C : bx_C p (rmD 5) S m args meth c cX8_order 7 yX8_order.cls (some .int) E A 0 0)  (B32 : MS → Int32 → Int32 → Int32 → Int32 → Prop) (hB32 : ∀ (u : MS) (x1 : Int32) (x2 : Int32) (x3 : Int32) (x4 : Int32), B32 u x1 x2 x3 x4 → G_X8_order p l e S m args below meth c E A a  K 32 [(0, .ref (a 0)), (1, .int x1), (2, .int x2), (3, .int x3), (4, .int x4)] [] (w_M E a u)) : ∀ (n : Nat) (u : MS) (x1 : Int32) (x2 : Int32) (x3 : Int32) (x5 : Int32) (x6 : Int32), V_X8_order_47 K B32 n u x1 x2 x3 x5 x6 → G_X8_order p l e S m args below meth c E A a  K 47 [(0, .ref (a 0)), (1, .int x1), (2, .int x2), (3, .int x3), (5, .int x5), (6, .int x6)] [] (w_M E a u) := by
  intro n
  induction n with
  | zero =>
    intro u x1 x2 x3 x5 x6 hv
    exact False.elim hv
  | succ n ih =>
    intro u x1 x2 x3 x5 x6 hv
    unfold V_X8_order_47 at hv
    refine bx_iload C 49 dX8_order_47 rfl rfl ?_
    refine bx_iload_n C 50 dX8_order_49 rfl rfl rfl ?_
    refine bx_icmp_ge C 93 53 dX8_order_50 (by decide) rfl (fun h => ?_) (fun h => ?_)
    · replace hv := hv.1 h
      refine bx_iload C 95 dX8_order_93 rfl rfl ?_
      refine bx_iload_n C 96 dX8_order_95 rfl rfl rfl ?_
      refine bx_icmp_ge C 131 99 dX8_order_96 (by decide) rfl (fun h => ?_) (fun h => ?_)
      · replace hv := hv.1 h
        exact bx_cut [0, 1, 2, 3] (w_M E a u) rfl rfl (t_X8_order_131 C  _ hB32 u x1 x2 x3 hv)
      · replace hv := hv.2 h
        refine bx_iload C 101 dX8_order_99 rfl rfl ?_
        refine bx_istore_n C 102 dX8_order_101 rfl (by decide) rfl ?_
        refine bx_iconst C 0 103 dX8_order_102 ic_0 rfl ?_
        refine bx_istore C 105 dX8_order_103 (by decide) rfl ?_
        obtain ⟨n3, hv⟩ := hv
        exact bx_cut [2, 3, 4, 1, 0] (w_M E a u) rfl rfl (t_X8_order_105 C  _ hB32 n3 u x1 x2 x5 0 hv)
    · replace hv := hv.2 h
      refine bx_iload C 55 dX8_order_53 rfl rfl ?_
      refine bx_aload_n C 56 dX8_order_55 rfl rfl rfl ?_
      refine bx_getf (v := .ref (a 2)) C 59 0 1 inX8 rfl (by decide) fl_X8_13 dX8_order_56 at_M_0 rfl rfl ?_
      refine bx_aload_n C 60 dX8_order_59 rfl rfl rfl ?_
      refine bx_getf (v := .ref (a 7)) C 63 0 13 inX8 rfl (by decide) fl_X8_37 dX8_order_60 at_M_0 rfl rfl ?_
      refine bx_iload C 65 dX8_order_63 rfl rfl ?_
      refine bx_iald (f := u.2.2.2.2.2.2.2.2.2.2.2.2.2.1) C 66 7 dX8_order_65 at_M_7 hv.1 rfl ?_
      replace hv := hv.2
      refine bx_aload_n C 67 dX8_order_66 rfl rfl rfl ?_
      refine bx_getf (v := .ref (a 1)) C 70 0 0 inX8 rfl (by decide) fl_X8_7 dX8_order_67 at_M_0 rfl rfl ?_
      refine bx_aload_n C 71 dX8_order_70 rfl rfl rfl ?_
      refine bx_getf (v := .ref (a 7)) C 74 0 13 inX8 rfl (by decide) fl_X8_37 dX8_order_71 at_M_0 rfl rfl ?_
      refine bx_iload C 76 dX8_order_74 rfl rfl ?_
      refine bx_iald (f := u.2.2.2.2.2.2.2.2.2.2.2.2.2.1) C 77 7 dX8_order_76 at_M_7 hv.1 rfl ?_
      replace hv := hv.2
      refine bx_iconst C 1 78 dX8_order_77 ic_1 rfl ?_
      refine bx_pSi C 81 fc_X8_55 (k_X8_soulOf l E (fun k => a (1 + k)) _ _ _ _ hv) dX8_order_78 ⟨rfl, rfl, Nat.le_of_ble_eq_true rfl, Nat.le_of_ble_eq_true rfl⟩ [1] ps_M_A_1 (by decide) rfl rfl (Nat.le_of_ble_eq_true rfl) rfl (fun r4 hv => ?_)
      refine bx_qSi C 84 fc_X8_182 (k_X8_goes l E (fun k => a (2 + k)) _ _ _ _ hv) dX8_order_81 ⟨rfl, rfl, Nat.le_of_ble_eq_true rfl, Nat.le_of_ble_eq_true rfl⟩ [2] (fun u6 => w_M E a (u.1, u6, u.2.2)) ps_M_A_2 (by decide) ad_A pu_M_A_2 rfl rfl (Nat.le_of_ble_eq_true rfl) rfl (fun r5 u6 hv => ?_)
      refine bx_iadd C 85 dX8_order_84 rfl ?_
      refine bx_istore C 87 dX8_order_85 (by decide) rfl ?_
      refine bx_iinc C 1 90 dX8_order_87 rfl (by decide) ic_1 rfl ?_
      refine bx_goto C 47 dX8_order_90 (by decide) ?_
      exact bx_cut [2, 3, 4, 5, 1, 0] (w_M E a (u.1, u6, u.2.2)) rfl rfl (ih (u.1, u6, u.2.2) x1 x2 x3 (x5 + r5) (x6 + 1) hv)
def V_X8_order_32  (K : Int32 → MS → Prop)  : Nat → MS → Int32 → Int32 → Int32 → Int32 → Prop
  | 0, _, _, _, _, _ => False
  | n + 1, u, x1, x2, x3, x4 => ((x4 = 0 → ((¬ x1 = (-1) → (vp_in x1 7 ∧ K (u.2.2.2.2.2.2.2.2.2.2.2.2.2.2.1 (x1 : Int32).toNatClampNeg) u)) ∧
 (x1 = (-1) → K x3 u))) ∧
 (¬ x4 = 0 → (V_X8_layFresh (fun u7 => ∃ n8, V_X8_order_47 K (fun v y0 y1 y2 y3 => V_X8_order_32 K n v y0 y1 y2 y3) n8 u7 x1 x2 x3 0 0) u )))
set_option maxRecDepth 20000 in
set_option maxHeartbeats 4000000 in
theorem t_X8_order_32 {a : Nat → Nat} {K : Int32 → MS → Prop} (C : bx_C p (rmD 5) S m args meth c cX8_order 7 yX8_order.cls (some .int) E A 0 0)   : ∀ (n : Nat) (u : MS) (x1 : Int32) (x2 : Int32) (x3 : Int32) (x4 : Int32), V_X8_order_32 K n u x1 x2 x3 x4 → G_X8_order p l e S m args below meth c E A a  K 32 [(0, .ref (a 0)), (1, .int x1), (2, .int x2), (3, .int x3), (4, .int x4)] [] (w_M E a u) := by
  intro n
  induction n with
  | zero =>
    intro u x1 x2 x3 x4 hv
    exact False.elim hv
  | succ n ih =>
    intro u x1 x2 x3 x4 hv
    unfold V_X8_order_32 at hv
    refine bx_iload C 34 dX8_order_32 rfl rfl ?_
    refine bx_if_eq C 141 37 dX8_order_34 (by decide) rfl (fun h => ?_) (fun h => ?_)
    · replace hv := hv.1 h
      refine bx_iload_n C 142 dX8_order_141 rfl rfl rfl ?_
      refine bx_iconst C (-1) 143 dX8_order_142 ic_m1 rfl ?_
      refine bx_icmp_ne C 150 146 dX8_order_143 (by decide) rfl (fun h => ?_) (fun h => ?_)
      · replace hv := hv.1 h
        refine bx_aload_n C 151 dX8_order_150 rfl rfl rfl ?_
        refine bx_getf (v := .ref (a 8)) C 154 0 14 inX8 rfl (by decide) fl_X8_40 dX8_order_151 at_M_0 rfl rfl ?_
        refine bx_iload_n C 155 dX8_order_154 rfl rfl rfl ?_
        refine bx_iald (f := u.2.2.2.2.2.2.2.2.2.2.2.2.2.2.1) C 156 8 dX8_order_155 at_M_8 hv.1 rfl ?_
        replace hv := hv.2
        exact bx_iret C u rfl dX8_order_156 rfl hv
      · replace hv := hv.2 h
        refine bx_iload_n C 147 dX8_order_146 rfl rfl rfl ?_
        refine bx_goto C 156 dX8_order_147 (by decide) ?_
        exact bx_iret C u rfl dX8_order_156 rfl hv
    · replace hv := hv.2 h
      refine bx_aload_n C 38 dX8_order_37 rfl rfl rfl ?_
      refine bx_qVv C 0 at_M_0 rfl 41 fc_X8_225 (k_X8_layFresh l E a _ _ hv) dX8_order_38 ⟨rfl, rfl, Nat.le_of_ble_eq_true rfl, Nat.le_of_ble_eq_true rfl⟩ [0, 1, 2, 3, 4, 5, 6, 7, 8, 9] (fun u7 => w_M E a u7) ps_M_M_0 (by decide) ad_M pu_M_M_0 rfl rfl (Nat.le_of_ble_eq_true rfl) rfl (fun u7 hv => ?_)
      refine bx_iconst C 0 42 dX8_order_41 ic_0 rfl ?_
      refine bx_istore C 44 dX8_order_42 (by decide) rfl ?_
      refine bx_iconst C 0 45 dX8_order_44 ic_0 rfl ?_
      refine bx_istore C 47 dX8_order_45 (by decide) rfl ?_
      obtain ⟨n8, hv⟩ := hv
      exact bx_cut [2, 3, 4, 5, 1, 0] (w_M E a u7) rfl rfl (t_X8_order_47 C  _ (fun v y0 y1 y2 y3 hv => ih v y0 y1 y2 y3 hv) n8 u7 x1 x2 x3 0 0 hv)
def V_X8_order  (K : Int32 → MS → Prop)  (u : MS) (x1 : Int32) : Prop := (((-1) ≤ x1 → (V_X8_layTried (fun r9 u10 => ((x1 < r9 → ∃ n11, V_X8_order_32 K n11 u10 x1 r9 9999 1) ∧
 (¬ x1 < r9 → K (-5) u10))) u )) ∧
 (¬ (-1) ≤ x1 → (V_X8_badAs (fun r12 u13 => K r12 u13) u (-10))))
set_option maxRecDepth 20000 in
set_option maxHeartbeats 4000000 in
theorem t_X8_order_0 {a : Nat → Nat} {K : Int32 → MS → Prop} (C : bx_C p (rmD 5) S m args meth c cX8_order 7 yX8_order.cls (some .int) E A 0 0)   (u : MS) (x1 : Int32) (hv : V_X8_order K u x1) : G_X8_order p l e S m args below meth c E A a  K 0 [(0, .ref (a 0)), (1, .int x1)] [] (w_M E a u) := by
  unfold V_X8_order at hv
  refine bx_iload_n C 1 dX8_order_0 rfl rfl rfl ?_
  refine bx_iconst C (-1) 2 dX8_order_1 ic_m1 rfl ?_
  refine bx_icmp_ge C 12 5 dX8_order_2 (by decide) rfl (fun h => ?_) (fun h => ?_)
  · replace hv := hv.1 h
    refine bx_aload_n C 13 dX8_order_12 rfl rfl rfl ?_
    refine bx_qVi C 0 at_M_0 rfl 16 fc_X8_222 (k_X8_layTried l E a _ _ hv) dX8_order_13 ⟨rfl, rfl, Nat.le_of_ble_eq_true rfl, Nat.le_of_ble_eq_true rfl⟩ [0, 1, 2, 3, 4, 5, 6, 7, 8, 9] (fun u10 => w_M E a u10) ps_M_M_0 (by decide) ad_M pu_M_M_0 rfl rfl (Nat.le_of_ble_eq_true rfl) rfl (fun r9 u10 hv => ?_)
    refine bx_istore_n C 17 dX8_order_16 rfl (by decide) rfl ?_
    refine bx_iload_n C 18 dX8_order_17 rfl rfl rfl ?_
    refine bx_iload_n C 19 dX8_order_18 rfl rfl rfl ?_
    refine bx_icmp_lt C 25 22 dX8_order_19 (by decide) rfl (fun h => ?_) (fun h => ?_)
    · replace hv := hv.1 h
      refine bx_sipush C 9999 28 dX8_order_25 sp_9999 rfl ?_
      refine bx_istore_n C 29 dX8_order_28 rfl (by decide) rfl ?_
      refine bx_iconst C 1 30 dX8_order_29 ic_1 rfl ?_
      refine bx_istore C 32 dX8_order_30 (by decide) rfl ?_
      obtain ⟨n11, hv⟩ := hv
      exact bx_cut [3, 4, 2, 1, 0] (w_M E a u10) rfl rfl (t_X8_order_32 C   n11 u10 x1 r9 9999 1 hv)
    · replace hv := hv.2 h
      refine bx_bipush C (-5) 24 dX8_order_22 bp_m5 rfl ?_
      exact bx_iret C u10 rfl dX8_order_24 rfl hv
  · replace hv := hv.2 h
    refine bx_aload_n C 6 dX8_order_5 rfl rfl rfl ?_
    refine bx_bipush C (-10) 8 dX8_order_6 bp_m10 rfl ?_
    refine bx_qVi C 0 at_M_0 rfl 11 fc_X8_219 (k_X8_badAs l E a _ _ _ hv) dX8_order_8 ⟨rfl, rfl, Nat.le_of_ble_eq_true rfl, Nat.le_of_ble_eq_true rfl⟩ [0, 1, 2, 3, 4, 5, 6, 7, 8, 9] (fun u13 => w_M E a u13) ps_M_M_0 (by decide) ad_M pu_M_M_0 rfl rfl (Nat.le_of_ble_eq_true rfl) rfl (fun r12 u13 hv => ?_)
    exact bx_iret C u13 rfl dX8_order_11 rfl hv
theorem k_X8_order (l : Launch) (E : bx_E) (a : Nat → Nat)  (K : Int32 → MS → Prop) (u : MS) (x1 : Int32) (hv : V_X8_order  K u x1) : bx_Mi l E yX8_order cX8_order 7 (some .int) (rmD 5) [.ref (a 0), .int x1] (fun (u : MS) => w_M E a u) u K :=
  bx_meti (by decide +kernel) (Nat.le_of_ble_eq_true rfl) (fun p e S m below meth c C => t_X8_order_0 C u x1 hv)
end
