section
variable {p : Program} {l : Launch} {e : Env} {S : State} {m : MethodId} {args : Array Value} {below : List Frame} {meth : Method} {c : Code} {E : bx_E} {A : Nat → Prop}
abbrev G_X7_where (p : Program) (l : Launch) (e : Env) (S : State) (m : MethodId) (args : Array Value) (below : List Frame) (meth : Method) (c : Code) (E : bx_E) (A : Nat → Prop) (a : Nat → Nat)  (K : Int32 → US → Prop) (pc : Nat) (lv : List (Nat × Value)) (st : List Value) (ws : va_W) : Prop := bx_S p l e (rmD 4) S m args below meth c 6 E A (MQ below (va_Qi K (fun (u : US) t => bx_B E A (w_U E a u) t) A) args S 0 0 A) 0 0 pc lv st ws
def V_X7_where_16  (K : Int32 → US → Prop)  (u : US)  : Prop := (V_X7_refuseBad (fun r1 u2 => K r1 u2) u (-10))
set_option maxRecDepth 20000 in
set_option maxHeartbeats 4000000 in
theorem t_X7_where_16 {a : Nat → Nat} {K : Int32 → US → Prop} (C : bx_C p (rmD 4) S m args meth c cX7_where 6 yX7_where.cls (some .int) E A 0 0)   (u : US)  (hv : V_X7_where_16 K u ) : G_X7_where p l e S m args below meth c E A a  K 16 [(0, .ref (a 0))] [] (w_U E a u) := by
  unfold V_X7_where_16 at hv
  refine bx_aload_n C 17 dX7_where_16 rfl rfl rfl ?_
  refine bx_bipush C (-10) 19 dX7_where_17 bp_m10 rfl ?_
  refine bx_qVi C 0 at_U_0 rfl 22 fc_X7_63 (k_X7_refuseBad l E a _ _ _ hv) dX7_where_19 ⟨rfl, rfl, Nat.le_of_ble_eq_true rfl, Nat.le_of_ble_eq_true rfl⟩ [0, 1, 2, 3, 4, 5, 6, 7, 8, 9, 10, 11, 12, 13, 14, 15, 16, 17, 18, 19, 20, 21, 22, 23, 24, 25, 26, 27, 28, 29, 30, 31, 32, 33, 34, 35, 36, 37, 38, 39, 40, 41, 42, 43, 44, 45, 46, 47, 48, 49, 50, 51, 52, 53, 54, 55, 56, 57, 58, 59, 60, 61, 62, 63, 64, 65, 66, 67, 68, 69, 70, 71, 72, 73] (fun u2 => w_U E a u2) ps_U_U_0 (by decide) ad_U pu_U_U_0 rfl rfl (Nat.le_of_ble_eq_true rfl) rfl (fun r1 u2 hv => ?_)
  exact bx_iret C u2 rfl dX7_where_22 rfl hv
def V_X7_where_35  (K : Int32 → US → Prop)  : Nat → US → Int32 → Int32 → Int32 → Int32 → Prop
  | 0, _, _, _, _, _ => False
  | n + 1, u, x2, x3, x4, x5 => ((30 ≤ x5 → ((¬ x2 = (-1) → K (-5) u) ∧
 (x2 = (-1) → K x4 u))) ∧
 (¬ 30 ≤ x5 → (V_X7_has (fun r3 => ((r3 = 0 → V_X7_where_35 K n u x2 x3 x4 (x5 + 1)) ∧
 (¬ r3 = 0 → ((¬ x4 = x2 → V_X7_where_35 K n u x2 x3 (x4 + 1) (x5 + 1)) ∧
 (x4 = x2 → K x5 u)))))  x3 x5)))
set_option maxRecDepth 20000 in
set_option maxHeartbeats 4000000 in
theorem t_X7_where_35 {a : Nat → Nat} {K : Int32 → US → Prop} (C : bx_C p (rmD 4) S m args meth c cX7_where 6 yX7_where.cls (some .int) E A 0 0)   : ∀ (n : Nat) (u : US) (x2 : Int32) (x3 : Int32) (x4 : Int32) (x5 : Int32), V_X7_where_35 K n u x2 x3 x4 x5 → G_X7_where p l e S m args below meth c E A a  K 35 [(0, .ref (a 0)), (2, .int x2), (3, .int x3), (4, .int x4), (5, .int x5)] [] (w_U E a u) := by
  intro n
  induction n with
  | zero =>
    intro u x2 x3 x4 x5 hv
    exact False.elim hv
  | succ n ih =>
    intro u x2 x3 x4 x5 hv
    unfold V_X7_where_35 at hv
    refine bx_iload C 37 dX7_where_35 rfl rfl ?_
    refine bx_bipush C 30 39 dX7_where_37 bp_30 rfl ?_
    refine bx_icmp_ge C 69 42 dX7_where_39 (by decide) rfl (fun h => ?_) (fun h => ?_)
    · replace hv := hv.1 h
      refine bx_iload_n C 70 dX7_where_69 rfl rfl rfl ?_
      refine bx_iconst C (-1) 71 dX7_where_70 ic_m1 rfl ?_
      refine bx_icmp_ne C 79 74 dX7_where_71 (by decide) rfl (fun h => ?_) (fun h => ?_)
      · replace hv := hv.1 h
        refine bx_bipush C (-5) 81 dX7_where_79 bp_m5 rfl ?_
        exact bx_iret C u rfl dX7_where_81 rfl hv
      · replace hv := hv.2 h
        refine bx_iload C 76 dX7_where_74 rfl rfl ?_
        refine bx_goto C 81 dX7_where_76 (by decide) ?_
        exact bx_iret C u rfl dX7_where_81 rfl hv
    · replace hv := hv.2 h
      refine bx_iload_n C 43 dX7_where_42 rfl rfl rfl ?_
      refine bx_iload C 45 dX7_where_43 rfl rfl ?_
      refine bx_pSi C 48 fc_X7_213 (k_X7_has l E  _ _ _ hv) dX7_where_45 ⟨rfl, rfl, Nat.le_of_ble_eq_true rfl, Nat.le_of_ble_eq_true rfl⟩ [] rfl (by decide) rfl rfl (Nat.le_of_ble_eq_true rfl) rfl (fun r3 hv => ?_)
      refine bx_if_eq C 63 51 dX7_where_48 (by decide) rfl (fun h => ?_) (fun h => ?_)
      · replace hv := hv.1 h
        refine bx_iinc C 1 66 dX7_where_63 rfl (by decide) ic_1 rfl ?_
        refine bx_goto C 35 dX7_where_66 (by decide) ?_
        exact bx_cut [1, 2, 3, 4, 0] (w_U E a u) rfl rfl (ih u x2 x3 x4 (x5 + 1) hv)
      · replace hv := hv.2 h
        refine bx_iload C 53 dX7_where_51 rfl rfl ?_
        refine bx_iload_n C 54 dX7_where_53 rfl rfl rfl ?_
        refine bx_icmp_ne C 60 57 dX7_where_54 (by decide) rfl (fun h => ?_) (fun h => ?_)
        · replace hv := hv.1 h
          refine bx_iinc C 1 63 dX7_where_60 rfl (by decide) ic_1 rfl ?_
          refine bx_iinc C 1 66 dX7_where_63 rfl (by decide) ic_1 rfl ?_
          refine bx_goto C 35 dX7_where_66 (by decide) ?_
          exact bx_cut [2, 3, 4, 1, 0] (w_U E a u) rfl rfl (ih u x2 x3 (x4 + 1) (x5 + 1) hv)
        · replace hv := hv.2 h
          refine bx_iload C 59 dX7_where_57 rfl rfl ?_
          exact bx_iret C u rfl dX7_where_59 rfl hv
def V_X7_where  (K : Int32 → US → Prop)  (u : US) (x1 : Int32) (x2 : Int32) : Prop := (V_X0_isSoul (fun r4 => ((r4 = 0 → V_X7_where_16 K u ) ∧
 (¬ r4 = 0 → (((-1) ≤ x2 → (V_X7_cellsThatFit (fun r5 => ∃ n6, V_X7_where_35 K n6 u x2 r5 0 0) u x1)) ∧
 (¬ (-1) ≤ x2 → V_X7_where_16 K u ))))) u.1 x1)
set_option maxRecDepth 20000 in
set_option maxHeartbeats 4000000 in
theorem t_X7_where_0 {a : Nat → Nat} {K : Int32 → US → Prop} (C : bx_C p (rmD 4) S m args meth c cX7_where 6 yX7_where.cls (some .int) E A 0 0)   (u : US) (x1 : Int32) (x2 : Int32) (hv : V_X7_where K u x1 x2) : G_X7_where p l e S m args below meth c E A a  K 0 [(0, .ref (a 0)), (1, .int x1), (2, .int x2)] [] (w_U E a u) := by
  unfold V_X7_where at hv
  refine bx_aload_n C 1 dX7_where_0 rfl rfl rfl ?_
  refine bx_getf (v := .ref (a 1)) C 4 0 0 inX7 rfl (by decide) fl_X7_10 dX7_where_1 at_U_0 rfl rfl ?_
  refine bx_iload_n C 5 dX7_where_4 rfl rfl rfl ?_
  refine bx_pVi C 1 at_U_1 rfl 8 fc_X7_106 (k_X0_isSoul l E (fun k => a (1 + k)) _ _ _ hv) dX7_where_5 ⟨rfl, rfl, Nat.le_of_ble_eq_true rfl, Nat.le_of_ble_eq_true rfl⟩ [1, 2, 3, 4, 5, 6, 7, 8, 9, 10, 11, 12, 13] ps_U_H_1 (by decide) rfl rfl (Nat.le_of_ble_eq_true rfl) rfl (fun r4 hv => ?_)
  refine bx_if_eq C 16 11 dX7_where_8 (by decide) rfl (fun h => ?_) (fun h => ?_)
  · replace hv := hv.1 h
    exact bx_cut [0] (w_U E a u) rfl rfl (t_X7_where_16 C   u  hv)
  · replace hv := hv.2 h
    refine bx_iload_n C 12 dX7_where_11 rfl rfl rfl ?_
    refine bx_iconst C (-1) 13 dX7_where_12 ic_m1 rfl ?_
    refine bx_icmp_ge C 23 16 dX7_where_13 (by decide) rfl (fun h => ?_) (fun h => ?_)
    · replace hv := hv.1 h
      refine bx_aload_n C 24 dX7_where_23 rfl rfl rfl ?_
      refine bx_iload_n C 25 dX7_where_24 rfl rfl rfl ?_
      refine bx_pVi C 0 at_U_0 rfl 28 fc_X7_210 (k_X7_cellsThatFit l E a _ _ _ hv) dX7_where_25 ⟨rfl, rfl, Nat.le_of_ble_eq_true rfl, Nat.le_of_ble_eq_true rfl⟩ [0, 1, 2, 3, 4, 5, 6, 7, 8, 9, 10, 11, 12, 13, 14, 15, 16, 17, 18, 19, 20, 21, 22, 23, 24, 25, 26, 27, 28, 29, 30, 31, 32, 33, 34, 35, 36, 37, 38, 39, 40, 41, 42, 43, 44, 45, 46, 47, 48, 49, 50, 51, 52, 53, 54, 55, 56, 57, 58, 59, 60, 61, 62, 63, 64, 65, 66, 67, 68, 69, 70, 71, 72, 73] ps_U_U_0 (by decide) rfl rfl (Nat.le_of_ble_eq_true rfl) rfl (fun r5 hv => ?_)
      refine bx_istore_n C 29 dX7_where_28 rfl (by decide) rfl ?_
      refine bx_iconst C 0 30 dX7_where_29 ic_0 rfl ?_
      refine bx_istore C 32 dX7_where_30 (by decide) rfl ?_
      refine bx_iconst C 0 33 dX7_where_32 ic_0 rfl ?_
      refine bx_istore C 35 dX7_where_33 (by decide) rfl ?_
      obtain ⟨n6, hv⟩ := hv
      exact bx_cut [3, 5, 2, 1, 0] (w_U E a u) rfl rfl (t_X7_where_35 C   n6 u x2 r5 0 0 hv)
    · replace hv := hv.2 h
      exact bx_cut [0] (w_U E a u) rfl rfl (t_X7_where_16 C   u  hv)
theorem k_X7_where (l : Launch) (E : bx_E) (a : Nat → Nat)  (K : Int32 → US → Prop) (u : US) (x1 : Int32) (x2 : Int32) (hv : V_X7_where  K u x1 x2) : bx_Mi l E yX7_where cX7_where 6 (some .int) (rmD 4) [.ref (a 0), .int x1, .int x2] (fun (u : US) => w_U E a u) u K :=
  bx_meti (by decide +kernel) (Nat.le_of_ble_eq_true rfl) (fun p e S m below meth c C => t_X7_where_0 C u x1 x2 hv)
abbrev G_X7_mostCellsAlike (p : Program) (l : Launch) (e : Env) (S : State) (m : MethodId) (args : Array Value) (below : List Frame) (meth : Method) (c : Code) (E : bx_E) (A : Nat → Prop) (a : Nat → Nat)  (K : Int32 → US → Prop) (pc : Nat) (lv : List (Nat × Value)) (st : List Value) (ws : va_W) : Prop := bx_S p l e (rmD 2) S m args below meth c 5 E A (MQ below (va_Qi K (fun (u : US) t => bx_B E A (w_U E a u) t) A) args S 0 0 A) 0 0 pc lv st ws
def V_X7_mostCellsAlike_10  (K : Int32 → US → Prop)  : Nat → US → Int32 → Int32 → Int32 → Int32 → Prop
  | 0, _, _, _, _, _ => False
  | n + 1, u, x1, x2, x3, x4 => ((30 ≤ x4 → K u.2.2.2.2.2.2.2.1.2 u) ∧
 (¬ 30 ≤ x4 → (V_X7_has (fun r1 => ((r1 = 0 → V_X7_mostCellsAlike_10 K n u x1 x2 x3 (x4 + 1)) ∧
 (¬ r1 = 0 → (V_X0_kneesTo (fun r2 => (V_X1_fuss (fun r3 => (V_X5_add (fun u4 => V_X7_mostCellsAlike_10 K n (u.1, u.2.1, u.2.2.1, u.2.2.2.1, u.2.2.2.2.1, u.2.2.2.2.2.1, u.2.2.2.2.2.2.1, u4, u.2.2.2.2.2.2.2.2) x1 x2 x3 (x4 + 1)) u.2.2.2.2.2.2.2.1 r3))  x2 r2 x3)) u.1 x4))))  x1 x4)))
set_option maxRecDepth 20000 in
set_option maxHeartbeats 4000000 in
theorem t_X7_mostCellsAlike_10 {a : Nat → Nat} {K : Int32 → US → Prop} (C : bx_C p (rmD 2) S m args meth c cX7_mostCellsAlike 5 yX7_mostCellsAlike.cls (some .int) E A 0 0)   : ∀ (n : Nat) (u : US) (x1 : Int32) (x2 : Int32) (x3 : Int32) (x4 : Int32), V_X7_mostCellsAlike_10 K n u x1 x2 x3 x4 → G_X7_mostCellsAlike p l e S m args below meth c E A a  K 10 [(0, .ref (a 0)), (1, .int x1), (2, .int x2), (3, .int x3), (4, .int x4)] [] (w_U E a u) := by
  intro n
  induction n with
  | zero =>
    intro u x1 x2 x3 x4 hv
    exact False.elim hv
  | succ n ih =>
    intro u x1 x2 x3 x4 hv
    unfold V_X7_mostCellsAlike_10 at hv
    refine bx_iload C 12 dX7_mostCellsAlike_10 rfl rfl ?_
    refine bx_bipush C 30 14 dX7_mostCellsAlike_12 bp_30 rfl ?_
    refine bx_icmp_ge C 53 17 dX7_mostCellsAlike_14 (by decide) rfl (fun h => ?_) (fun h => ?_)
    · replace hv := hv.1 h
      refine bx_aload_n C 54 dX7_mostCellsAlike_53 rfl rfl rfl ?_
      refine bx_getf (v := .ref (a 72)) C 57 0 6 inX7 rfl (by decide) fl_X7_44 dX7_mostCellsAlike_54 at_U_0 rfl rfl ?_
      refine bx_getf (v := .int u.2.2.2.2.2.2.2.1.2) C 60 72 1 inX5 rfl (by decide) fl_X7_314 dX7_mostCellsAlike_57 at_U_72 rfl rfl ?_
      exact bx_iret C u rfl dX7_mostCellsAlike_60 rfl hv
    · replace hv := hv.2 h
      refine bx_iload_n C 18 dX7_mostCellsAlike_17 rfl rfl rfl ?_
      refine bx_iload C 20 dX7_mostCellsAlike_18 rfl rfl ?_
      refine bx_pSi C 23 fc_X7_213 (k_X7_has l E  _ _ _ hv) dX7_mostCellsAlike_20 ⟨rfl, rfl, Nat.le_of_ble_eq_true rfl, Nat.le_of_ble_eq_true rfl⟩ [] rfl (by decide) rfl rfl (Nat.le_of_ble_eq_true rfl) rfl (fun r1 hv => ?_)
      refine bx_if_eq C 47 26 dX7_mostCellsAlike_23 (by decide) rfl (fun h => ?_) (fun h => ?_)
      · replace hv := hv.1 h
        refine bx_iinc C 1 50 dX7_mostCellsAlike_47 rfl (by decide) ic_1 rfl ?_
        refine bx_goto C 10 dX7_mostCellsAlike_50 (by decide) ?_
        exact bx_cut [1, 2, 3, 4, 0] (w_U E a u) rfl rfl (ih u x1 x2 x3 (x4 + 1) hv)
      · replace hv := hv.2 h
        refine bx_aload_n C 27 dX7_mostCellsAlike_26 rfl rfl rfl ?_
        refine bx_getf (v := .ref (a 72)) C 30 0 6 inX7 rfl (by decide) fl_X7_44 dX7_mostCellsAlike_27 at_U_0 rfl rfl ?_
        refine bx_iload_n C 31 dX7_mostCellsAlike_30 rfl rfl rfl ?_
        refine bx_aload_n C 32 dX7_mostCellsAlike_31 rfl rfl rfl ?_
        refine bx_getf (v := .ref (a 1)) C 35 0 0 inX7 rfl (by decide) fl_X7_10 dX7_mostCellsAlike_32 at_U_0 rfl rfl ?_
        refine bx_iload C 37 dX7_mostCellsAlike_35 rfl rfl ?_
        refine bx_pVi C 1 at_U_1 rfl 40 fc_X7_163 (k_X0_kneesTo l E (fun k => a (1 + k)) _ _ _ hv) dX7_mostCellsAlike_37 ⟨rfl, rfl, Nat.le_of_ble_eq_true rfl, Nat.le_of_ble_eq_true rfl⟩ [1, 2, 3, 4, 5, 6, 7, 8, 9, 10, 11, 12, 13] ps_U_H_1 (by decide) rfl rfl (Nat.le_of_ble_eq_true rfl) rfl (fun r2 hv => ?_)
        refine bx_iload_n C 41 dX7_mostCellsAlike_40 rfl rfl rfl ?_
        refine bx_pSi C 44 fc_X7_301 (k_X1_fuss l E  _ _ _ _ hv) dX7_mostCellsAlike_41 ⟨rfl, rfl, Nat.le_of_ble_eq_true rfl, Nat.le_of_ble_eq_true rfl⟩ [] rfl (by decide) rfl rfl (Nat.le_of_ble_eq_true rfl) rfl (fun r3 hv => ?_)
        refine bx_qVv C 72 at_U_72 rfl 47 fc_X7_312 (k_X5_add l E (fun k => a (72 + k)) _ _ _ hv) dX7_mostCellsAlike_44 ⟨rfl, rfl, Nat.le_of_ble_eq_true rfl, Nat.le_of_ble_eq_true rfl⟩ [72, 73] (fun u4 => w_U E a (u.1, u.2.1, u.2.2.1, u.2.2.2.1, u.2.2.2.2.1, u.2.2.2.2.2.1, u.2.2.2.2.2.2.1, u4, u.2.2.2.2.2.2.2.2)) ps_U_Y_72 (by decide) ad_Y pu_U_Y_72 rfl rfl (Nat.le_of_ble_eq_true rfl) rfl (fun u4 hv => ?_)
        refine bx_iinc C 1 50 dX7_mostCellsAlike_47 rfl (by decide) ic_1 rfl ?_
        refine bx_goto C 10 dX7_mostCellsAlike_50 (by decide) ?_
        exact bx_cut [1, 2, 3, 4, 0] (w_U E a (u.1, u.2.1, u.2.2.1, u.2.2.2.1, u.2.2.2.2.1, u.2.2.2.2.2.1, u.2.2.2.2.2.2.1, u4, u.2.2.2.2.2.2.2.2)) rfl rfl (ih (u.1, u.2.1, u.2.2.1, u.2.2.2.1, u.2.2.2.2.1, u.2.2.2.2.2.1, u.2.2.2.2.2.2.1, u4, u.2.2.2.2.2.2.2.2) x1 x2 x3 (x4 + 1) hv)
def V_X7_mostCellsAlike  (K : Int32 → US → Prop)  (u : US) (x1 : Int32) (x2 : Int32) (x3 : Int32) : Prop := (V_X5_reset (fun u5 => ∃ n6, V_X7_mostCellsAlike_10 K n6 (u.1, u.2.1, u.2.2.1, u.2.2.2.1, u.2.2.2.2.1, u.2.2.2.2.2.1, u.2.2.2.2.2.2.1, u5, u.2.2.2.2.2.2.2.2) x1 x2 x3 0) u.2.2.2.2.2.2.2.1 )
set_option maxRecDepth 20000 in
set_option maxHeartbeats 4000000 in
theorem t_X7_mostCellsAlike_0 {a : Nat → Nat} {K : Int32 → US → Prop} (C : bx_C p (rmD 2) S m args meth c cX7_mostCellsAlike 5 yX7_mostCellsAlike.cls (some .int) E A 0 0)   (u : US) (x1 : Int32) (x2 : Int32) (x3 : Int32) (hv : V_X7_mostCellsAlike K u x1 x2 x3) : G_X7_mostCellsAlike p l e S m args below meth c E A a  K 0 [(0, .ref (a 0)), (1, .int x1), (2, .int x2), (3, .int x3)] [] (w_U E a u) := by
  unfold V_X7_mostCellsAlike at hv
  refine bx_aload_n C 1 dX7_mostCellsAlike_0 rfl rfl rfl ?_
  refine bx_getf (v := .ref (a 72)) C 4 0 6 inX7 rfl (by decide) fl_X7_44 dX7_mostCellsAlike_1 at_U_0 rfl rfl ?_
  refine bx_qVv C 72 at_U_72 rfl 7 fc_X7_311 (k_X5_reset l E (fun k => a (72 + k)) _ _ hv) dX7_mostCellsAlike_4 ⟨rfl, rfl, Nat.le_of_ble_eq_true rfl, Nat.le_of_ble_eq_true rfl⟩ [72, 73] (fun u5 => w_U E a (u.1, u.2.1, u.2.2.1, u.2.2.2.1, u.2.2.2.2.1, u.2.2.2.2.2.1, u.2.2.2.2.2.2.1, u5, u.2.2.2.2.2.2.2.2)) ps_U_Y_72 (by decide) ad_Y pu_U_Y_72 rfl rfl (Nat.le_of_ble_eq_true rfl) rfl (fun u5 hv => ?_)
  refine bx_iconst C 0 8 dX7_mostCellsAlike_7 ic_0 rfl ?_
  refine bx_istore C 10 dX7_mostCellsAlike_8 (by decide) rfl ?_
  obtain ⟨n6, hv⟩ := hv
  exact bx_cut [1, 2, 3, 4, 0] (w_U E a (u.1, u.2.1, u.2.2.1, u.2.2.2.1, u.2.2.2.2.1, u.2.2.2.2.2.1, u.2.2.2.2.2.2.1, u5, u.2.2.2.2.2.2.2.2)) rfl rfl (t_X7_mostCellsAlike_10 C   n6 (u.1, u.2.1, u.2.2.1, u.2.2.2.1, u.2.2.2.2.1, u.2.2.2.2.2.1, u.2.2.2.2.2.2.1, u5, u.2.2.2.2.2.2.2.2) x1 x2 x3 0 hv)
theorem k_X7_mostCellsAlike (l : Launch) (E : bx_E) (a : Nat → Nat)  (K : Int32 → US → Prop) (u : US) (x1 : Int32) (x2 : Int32) (x3 : Int32) (hv : V_X7_mostCellsAlike  K u x1 x2 x3) : bx_Mi l E yX7_mostCellsAlike cX7_mostCellsAlike 5 (some .int) (rmD 2) [.ref (a 0), .int x1, .int x2, .int x3] (fun (u : US) => w_U E a u) u K :=
  bx_meti (by decide +kernel) (Nat.le_of_ble_eq_true rfl) (fun p e S m below meth c C => t_X7_mostCellsAlike_0 C u x1 x2 x3 hv)
abbrev G_X7_tell (p : Program) (l : Launch) (e : Env) (S : State) (m : MethodId) (args : Array Value) (below : List Frame) (meth : Method) (c : Code) (E : bx_E) (A : Nat → Prop) (a : Nat → Nat)  (K : Int32 → US → Prop) (pc : Nat) (lv : List (Nat × Value)) (st : List Value) (ws : va_W) : Prop := bx_S p l e (rmD 4) S m args below meth c 7 E A (MQ below (va_Qi K (fun (u : US) t => bx_B E A (w_U E a u) t) A) args S 0 0 A) 0 0 pc lv st ws
def V_X7_tell_33  (K : Int32 → US → Prop)  : Nat → US → Int32 → Int32 → Int32 → Int32 → Int32 → Prop
  | 0, _, _, _, _, _, _ => False
  | n + 1, u, x1, x2, x3, x4, x5 => ((20 ≤ x5 → K x3 u) ∧
 (¬ 20 ≤ x5 → (vp_in x1 7 ∧ (V_X7_mostCellsAlike (fun r1 u2 => ((r1 ≤ 0 → V_X7_tell_33 K n u2 x1 x2 x3 x4 (x5 + 1)) ∧
 (¬ r1 ≤ 0 → ((x4 ≤ r1 → V_X7_tell_33 K n u2 x1 x2 x3 x4 (x5 + 1)) ∧
 (¬ x4 ≤ r1 → V_X7_tell_33 K n u2 x1 x2 x5 r1 (x5 + 1)))))) u x2 (u.1.2.1 (x1 : Int32).toNatClampNeg) x5))))
set_option maxRecDepth 20000 in
set_option maxHeartbeats 4000000 in
theorem t_X7_tell_33 {a : Nat → Nat} {K : Int32 → US → Prop} (C : bx_C p (rmD 4) S m args meth c cX7_tell 7 yX7_tell.cls (some .int) E A 0 0)   : ∀ (n : Nat) (u : US) (x1 : Int32) (x2 : Int32) (x3 : Int32) (x4 : Int32) (x5 : Int32), V_X7_tell_33 K n u x1 x2 x3 x4 x5 → G_X7_tell p l e S m args below meth c E A a  K 33 [(0, .ref (a 0)), (1, .int x1), (2, .int x2), (3, .int x3), (4, .int x4), (5, .int x5)] [] (w_U E a u) := by
  intro n
  induction n with
  | zero =>
    intro u x1 x2 x3 x4 x5 hv
    exact False.elim hv
  | succ n ih =>
    intro u x1 x2 x3 x4 x5 hv
    unfold V_X7_tell_33 at hv
    refine bx_iload C 35 dX7_tell_33 rfl rfl ?_
    refine bx_bipush C 20 37 dX7_tell_35 bp_20 rfl ?_
    refine bx_icmp_ge C 83 40 dX7_tell_37 (by decide) rfl (fun h => ?_) (fun h => ?_)
    · replace hv := hv.1 h
      refine bx_iload_n C 84 dX7_tell_83 rfl rfl rfl ?_
      exact bx_iret C u rfl dX7_tell_84 rfl hv
    · replace hv := hv.2 h
      refine bx_aload_n C 41 dX7_tell_40 rfl rfl rfl ?_
      refine bx_iload_n C 42 dX7_tell_41 rfl rfl rfl ?_
      refine bx_aload_n C 43 dX7_tell_42 rfl rfl rfl ?_
      refine bx_getf (v := .ref (a 1)) C 46 0 0 inX7 rfl (by decide) fl_X7_10 dX7_tell_43 at_U_0 rfl rfl ?_
      refine bx_getf (v := .ref (a 3)) C 49 1 1 inX0 rfl (by decide) fl_X7_154 dX7_tell_46 at_U_1 rfl rfl ?_
      refine bx_iload_n C 50 dX7_tell_49 rfl rfl rfl ?_
      refine bx_iald (f := u.1.2.1) C 51 3 dX7_tell_50 at_U_3 hv.1 rfl ?_
      replace hv := hv.2
      refine bx_iload C 53 dX7_tell_51 rfl rfl ?_
      refine bx_qVi C 0 at_U_0 rfl 56 fc_X7_216 (k_X7_mostCellsAlike l E a _ _ _ _ _ hv) dX7_tell_53 ⟨rfl, rfl, Nat.le_of_ble_eq_true rfl, Nat.le_of_ble_eq_true rfl⟩ [0, 1, 2, 3, 4, 5, 6, 7, 8, 9, 10, 11, 12, 13, 14, 15, 16, 17, 18, 19, 20, 21, 22, 23, 24, 25, 26, 27, 28, 29, 30, 31, 32, 33, 34, 35, 36, 37, 38, 39, 40, 41, 42, 43, 44, 45, 46, 47, 48, 49, 50, 51, 52, 53, 54, 55, 56, 57, 58, 59, 60, 61, 62, 63, 64, 65, 66, 67, 68, 69, 70, 71, 72, 73] (fun u2 => w_U E a u2) ps_U_U_0 (by decide) ad_U pu_U_U_0 rfl rfl (Nat.le_of_ble_eq_true rfl) rfl (fun r1 u2 hv => ?_)
      refine bx_istore C 58 dX7_tell_56 (by decide) rfl ?_
      refine bx_iload C 60 dX7_tell_58 rfl rfl ?_
      refine bx_if_le C 77 63 dX7_tell_60 (by decide) rfl (fun h => ?_) (fun h => ?_)
      · replace hv := hv.1 h
        refine bx_iinc C 1 80 dX7_tell_77 rfl (by decide) ic_1 rfl ?_
        refine bx_goto C 33 dX7_tell_80 (by decide) ?_
        exact bx_cut [2, 3, 4, 5, 6, 0] (w_U E a u2) rfl rfl (ih u2 x1 x2 x3 x4 (x5 + 1) hv)
      · replace hv := hv.2 h
        refine bx_iload C 65 dX7_tell_63 rfl rfl ?_
        refine bx_iload C 67 dX7_tell_65 rfl rfl ?_
        refine bx_icmp_ge C 77 70 dX7_tell_67 (by decide) rfl (fun h => ?_) (fun h => ?_)
        · replace hv := hv.1 h
          refine bx_iinc C 1 80 dX7_tell_77 rfl (by decide) ic_1 rfl ?_
          refine bx_goto C 33 dX7_tell_80 (by decide) ?_
          exact bx_cut [2, 3, 4, 5, 6, 0] (w_U E a u2) rfl rfl (ih u2 x1 x2 x3 x4 (x5 + 1) hv)
        · replace hv := hv.2 h
          refine bx_iload C 72 dX7_tell_70 rfl rfl ?_
          refine bx_istore C 74 dX7_tell_72 (by decide) rfl ?_
          refine bx_iload C 76 dX7_tell_74 rfl rfl ?_
          refine bx_istore_n C 77 dX7_tell_76 rfl (by decide) rfl ?_
          refine bx_iinc C 1 80 dX7_tell_77 rfl (by decide) ic_1 rfl ?_
          refine bx_goto C 33 dX7_tell_80 (by decide) ?_
          exact bx_cut [4, 5, 6, 1, 2, 0] (w_U E a u2) rfl rfl (ih u2 x1 x2 x5 r1 (x5 + 1) hv)
def V_X7_tell  (K : Int32 → US → Prop)  (u : US) (x1 : Int32) : Prop := (V_X0_isSoul (fun r3 => ((¬ r3 = 0 → (V_X7_cellsThatFit (fun r4 => ∃ n5, V_X7_tell_33 K n5 u x1 r4 (-1) 31 0) u x1)) ∧
 (r3 = 0 → (V_X7_refuseBad (fun r6 u7 => K r6 u7) u (-2))))) u.1 x1)
set_option maxRecDepth 20000 in
set_option maxHeartbeats 4000000 in
theorem t_X7_tell_0 {a : Nat → Nat} {K : Int32 → US → Prop} (C : bx_C p (rmD 4) S m args meth c cX7_tell 7 yX7_tell.cls (some .int) E A 0 0)   (u : US) (x1 : Int32) (hv : V_X7_tell K u x1) : G_X7_tell p l e S m args below meth c E A a  K 0 [(0, .ref (a 0)), (1, .int x1)] [] (w_U E a u) := by
  unfold V_X7_tell at hv
  refine bx_aload_n C 1 dX7_tell_0 rfl rfl rfl ?_
  refine bx_getf (v := .ref (a 1)) C 4 0 0 inX7 rfl (by decide) fl_X7_10 dX7_tell_1 at_U_0 rfl rfl ?_
  refine bx_iload_n C 5 dX7_tell_4 rfl rfl rfl ?_
  refine bx_pVi C 1 at_U_1 rfl 8 fc_X7_106 (k_X0_isSoul l E (fun k => a (1 + k)) _ _ _ hv) dX7_tell_5 ⟨rfl, rfl, Nat.le_of_ble_eq_true rfl, Nat.le_of_ble_eq_true rfl⟩ [1, 2, 3, 4, 5, 6, 7, 8, 9, 10, 11, 12, 13] ps_U_H_1 (by decide) rfl rfl (Nat.le_of_ble_eq_true rfl) rfl (fun r3 hv => ?_)
  refine bx_if_ne C 18 11 dX7_tell_8 (by decide) rfl (fun h => ?_) (fun h => ?_)
  · replace hv := hv.1 h
    refine bx_aload_n C 19 dX7_tell_18 rfl rfl rfl ?_
    refine bx_iload_n C 20 dX7_tell_19 rfl rfl rfl ?_
    refine bx_pVi C 0 at_U_0 rfl 23 fc_X7_210 (k_X7_cellsThatFit l E a _ _ _ hv) dX7_tell_20 ⟨rfl, rfl, Nat.le_of_ble_eq_true rfl, Nat.le_of_ble_eq_true rfl⟩ [0, 1, 2, 3, 4, 5, 6, 7, 8, 9, 10, 11, 12, 13, 14, 15, 16, 17, 18, 19, 20, 21, 22, 23, 24, 25, 26, 27, 28, 29, 30, 31, 32, 33, 34, 35, 36, 37, 38, 39, 40, 41, 42, 43, 44, 45, 46, 47, 48, 49, 50, 51, 52, 53, 54, 55, 56, 57, 58, 59, 60, 61, 62, 63, 64, 65, 66, 67, 68, 69, 70, 71, 72, 73] ps_U_U_0 (by decide) rfl rfl (Nat.le_of_ble_eq_true rfl) rfl (fun r4 hv => ?_)
    refine bx_istore_n C 24 dX7_tell_23 rfl (by decide) rfl ?_
    refine bx_iconst C (-1) 25 dX7_tell_24 ic_m1 rfl ?_
    refine bx_istore_n C 26 dX7_tell_25 rfl (by decide) rfl ?_
    refine bx_bipush C 31 28 dX7_tell_26 bp_31 rfl ?_
    refine bx_istore C 30 dX7_tell_28 (by decide) rfl ?_
    refine bx_iconst C 0 31 dX7_tell_30 ic_0 rfl ?_
    refine bx_istore C 33 dX7_tell_31 (by decide) rfl ?_
    obtain ⟨n5, hv⟩ := hv
    exact bx_cut [4, 5, 3, 2, 1, 0] (w_U E a u) rfl rfl (t_X7_tell_33 C   n5 u x1 r4 (-1) 31 0 hv)
  · replace hv := hv.2 h
    refine bx_aload_n C 12 dX7_tell_11 rfl rfl rfl ?_
    refine bx_bipush C (-2) 14 dX7_tell_12 bp_m2 rfl ?_
    refine bx_qVi C 0 at_U_0 rfl 17 fc_X7_63 (k_X7_refuseBad l E a _ _ _ hv) dX7_tell_14 ⟨rfl, rfl, Nat.le_of_ble_eq_true rfl, Nat.le_of_ble_eq_true rfl⟩ [0, 1, 2, 3, 4, 5, 6, 7, 8, 9, 10, 11, 12, 13, 14, 15, 16, 17, 18, 19, 20, 21, 22, 23, 24, 25, 26, 27, 28, 29, 30, 31, 32, 33, 34, 35, 36, 37, 38, 39, 40, 41, 42, 43, 44, 45, 46, 47, 48, 49, 50, 51, 52, 53, 54, 55, 56, 57, 58, 59, 60, 61, 62, 63, 64, 65, 66, 67, 68, 69, 70, 71, 72, 73] (fun u7 => w_U E a u7) ps_U_U_0 (by decide) ad_U pu_U_U_0 rfl rfl (Nat.le_of_ble_eq_true rfl) rfl (fun r6 u7 hv => ?_)
    exact bx_iret C u7 rfl dX7_tell_17 rfl hv
theorem k_X7_tell (l : Launch) (E : bx_E) (a : Nat → Nat)  (K : Int32 → US → Prop) (u : US) (x1 : Int32) (hv : V_X7_tell  K u x1) : bx_Mi l E yX7_tell cX7_tell 7 (some .int) (rmD 4) [.ref (a 0), .int x1] (fun (u : US) => w_U E a u) u K :=
  bx_meti (by decide +kernel) (Nat.le_of_ble_eq_true rfl) (fun p e S m below meth c C => t_X7_tell_0 C u x1 hv)
abbrev G_X7_note (p : Program) (l : Launch) (e : Env) (S : State) (m : MethodId) (args : Array Value) (below : List Frame) (meth : Method) (c : Code) (E : bx_E) (A : Nat → Prop) (a : Nat → Nat)  (K : Int32 → US → Prop) (pc : Nat) (lv : List (Nat × Value)) (st : List Value) (ws : va_W) : Prop := bx_S p l e (rmD 3) S m args below meth c 4 E A (MQ below (va_Qi K (fun (u : US) t => bx_B E A (w_U E a u) t) A) args S 0 0 A) 0 0 pc lv st ws
def V_X7_note_26  (K : Int32 → US → Prop)  (u : US)  : Prop := (V_X7_refuseBad (fun r1 u2 => K r1 u2) u (-2))
set_option maxRecDepth 20000 in
set_option maxHeartbeats 4000000 in
theorem t_X7_note_26 {a : Nat → Nat} {K : Int32 → US → Prop} (C : bx_C p (rmD 3) S m args meth c cX7_note 4 yX7_note.cls (some .int) E A 0 0)   (u : US)  (hv : V_X7_note_26 K u ) : G_X7_note p l e S m args below meth c E A a  K 26 [(0, .ref (a 0))] [] (w_U E a u) := by
  unfold V_X7_note_26 at hv
  refine bx_aload_n C 27 dX7_note_26 rfl rfl rfl ?_
  refine bx_bipush C (-2) 29 dX7_note_27 bp_m2 rfl ?_
  refine bx_qVi C 0 at_U_0 rfl 32 fc_X7_63 (k_X7_refuseBad l E a _ _ _ hv) dX7_note_29 ⟨rfl, rfl, Nat.le_of_ble_eq_true rfl, Nat.le_of_ble_eq_true rfl⟩ [0, 1, 2, 3, 4, 5, 6, 7, 8, 9, 10, 11, 12, 13, 14, 15, 16, 17, 18, 19, 20, 21, 22, 23, 24, 25, 26, 27, 28, 29, 30, 31, 32, 33, 34, 35, 36, 37, 38, 39, 40, 41, 42, 43, 44, 45, 46, 47, 48, 49, 50, 51, 52, 53, 54, 55, 56, 57, 58, 59, 60, 61, 62, 63, 64, 65, 66, 67, 68, 69, 70, 71, 72, 73] (fun u2 => w_U E a u2) ps_U_U_0 (by decide) ad_U pu_U_U_0 rfl rfl (Nat.le_of_ble_eq_true rfl) rfl (fun r1 u2 hv => ?_)
  exact bx_iret C u2 rfl dX7_note_32 rfl hv
def V_X7_note  (K : Int32 → US → Prop)  (u : US) (x1 : Int32) (x2 : Int32) (x3 : Int32) : Prop := (V_X7_within (fun r3 => ((r3 = 0 → V_X7_note_26 K u ) ∧
 (¬ r3 = 0 → (V_X7_within (fun r4 => ((r4 = 0 → V_X7_note_26 K u ) ∧
 (¬ r4 = 0 → (V_X7_within (fun r5 => ((¬ r5 = 0 → (V_X4_isFull 6 3 18 (fun r6 => ((r6 = 0 → (V_X4_add 6 3 18 (fun r7 u8 => K r7 ((u.1.1, u.1.2.1, u.1.2.2.1, u.1.2.2.2.1, u.1.2.2.2.2.1, u.1.2.2.2.2.2.1, u.1.2.2.2.2.2.2.1, u.1.2.2.2.2.2.2.2.1, u.1.2.2.2.2.2.2.2.2.1, u8, u.1.2.2.2.2.2.2.2.2.2.2), u.2)) u.1.2.2.2.2.2.2.2.2.2.1 x1 x2 x3)) ∧
 (¬ r6 = 0 → (V_X7_refuseFull (fun r9 u10 => K r9 u10) u )))) u.1.2.2.2.2.2.2.2.2.2.1 )) ∧
 (r5 = 0 → V_X7_note_26 K u )))  x3 21))))  x2 6))))  x1 5)
set_option maxRecDepth 20000 in
set_option maxHeartbeats 4000000 in
theorem t_X7_note_0 {a : Nat → Nat} {K : Int32 → US → Prop} (C : bx_C p (rmD 3) S m args meth c cX7_note 4 yX7_note.cls (some .int) E A 0 0)   (u : US) (x1 : Int32) (x2 : Int32) (x3 : Int32) (hv : V_X7_note K u x1 x2 x3) : G_X7_note p l e S m args below meth c E A a  K 0 [(0, .ref (a 0)), (1, .int x1), (2, .int x2), (3, .int x3)] [] (w_U E a u) := by
  unfold V_X7_note at hv
  refine bx_iload_n C 1 dX7_note_0 rfl rfl rfl ?_
  refine bx_iconst C 5 2 dX7_note_1 ic_5 rfl ?_
  refine bx_pSi C 5 fc_X7_59 (k_X7_within l E  _ _ _ hv) dX7_note_2 ⟨rfl, rfl, Nat.le_of_ble_eq_true rfl, Nat.le_of_ble_eq_true rfl⟩ [] rfl (by decide) rfl rfl (Nat.le_of_ble_eq_true rfl) rfl (fun r3 hv => ?_)
  refine bx_if_eq C 26 8 dX7_note_5 (by decide) rfl (fun h => ?_) (fun h => ?_)
  · replace hv := hv.1 h
    exact bx_cut [0] (w_U E a u) rfl rfl (t_X7_note_26 C   u  hv)
  · replace hv := hv.2 h
    refine bx_iload_n C 9 dX7_note_8 rfl rfl rfl ?_
    refine bx_bipush C 6 11 dX7_note_9 bp_6 rfl ?_
    refine bx_pSi C 14 fc_X7_59 (k_X7_within l E  _ _ _ hv) dX7_note_11 ⟨rfl, rfl, Nat.le_of_ble_eq_true rfl, Nat.le_of_ble_eq_true rfl⟩ [] rfl (by decide) rfl rfl (Nat.le_of_ble_eq_true rfl) rfl (fun r4 hv => ?_)
    refine bx_if_eq C 26 17 dX7_note_14 (by decide) rfl (fun h => ?_) (fun h => ?_)
    · replace hv := hv.1 h
      exact bx_cut [0] (w_U E a u) rfl rfl (t_X7_note_26 C   u  hv)
    · replace hv := hv.2 h
      refine bx_iload_n C 18 dX7_note_17 rfl rfl rfl ?_
      refine bx_bipush C 21 20 dX7_note_18 bp_21 rfl ?_
      refine bx_pSi C 23 fc_X7_59 (k_X7_within l E  _ _ _ hv) dX7_note_20 ⟨rfl, rfl, Nat.le_of_ble_eq_true rfl, Nat.le_of_ble_eq_true rfl⟩ [] rfl (by decide) rfl rfl (Nat.le_of_ble_eq_true rfl) rfl (fun r5 hv => ?_)
      refine bx_if_ne C 33 26 dX7_note_23 (by decide) rfl (fun h => ?_) (fun h => ?_)
      · replace hv := hv.1 h
        refine bx_aload_n C 34 dX7_note_33 rfl rfl rfl ?_
        refine bx_getf (v := .ref (a 1)) C 37 0 0 inX7 rfl (by decide) fl_X7_10 dX7_note_34 at_U_0 rfl rfl ?_
        refine bx_getf (v := .ref (a 8)) C 40 1 9 inX0 rfl (by decide) fl_X7_219 dX7_note_37 at_U_1 rfl rfl ?_
        refine bx_pVi C 8 at_U_8 rfl 43 fc_X7_206 (k_X4_isFull l E (fun k => a (8 + k)) 6 3 18 _ _ hv) dX7_note_40 ⟨rfl, rfl, Nat.le_of_ble_eq_true rfl, Nat.le_of_ble_eq_true rfl⟩ [8, 9] ps_U_T_8 (by decide) rfl rfl (Nat.le_of_ble_eq_true rfl) rfl (fun r6 hv => ?_)
        refine bx_if_eq C 53 46 dX7_note_43 (by decide) rfl (fun h => ?_) (fun h => ?_)
        · replace hv := hv.1 h
          refine bx_aload_n C 54 dX7_note_53 rfl rfl rfl ?_
          refine bx_getf (v := .ref (a 1)) C 57 0 0 inX7 rfl (by decide) fl_X7_10 dX7_note_54 at_U_0 rfl rfl ?_
          refine bx_getf (v := .ref (a 8)) C 60 1 9 inX0 rfl (by decide) fl_X7_219 dX7_note_57 at_U_1 rfl rfl ?_
          refine bx_iload_n C 61 dX7_note_60 rfl rfl rfl ?_
          refine bx_iload_n C 62 dX7_note_61 rfl rfl rfl ?_
          refine bx_iload_n C 63 dX7_note_62 rfl rfl rfl ?_
          refine bx_qVi C 8 at_U_8 rfl 66 fc_X7_207 (k_X4_add l E (fun k => a (8 + k)) 6 3 18 _ _ _ _ _ hv) dX7_note_63 ⟨rfl, rfl, Nat.le_of_ble_eq_true rfl, Nat.le_of_ble_eq_true rfl⟩ [8, 9] (fun u8 => w_U E a ((u.1.1, u.1.2.1, u.1.2.2.1, u.1.2.2.2.1, u.1.2.2.2.2.1, u.1.2.2.2.2.2.1, u.1.2.2.2.2.2.2.1, u.1.2.2.2.2.2.2.2.1, u.1.2.2.2.2.2.2.2.2.1, u8, u.1.2.2.2.2.2.2.2.2.2.2), u.2)) ps_U_T_8 (by decide) ad_T pu_U_T_8 rfl rfl (Nat.le_of_ble_eq_true rfl) rfl (fun r7 u8 hv => ?_)
          exact bx_iret C ((u.1.1, u.1.2.1, u.1.2.2.1, u.1.2.2.2.1, u.1.2.2.2.2.1, u.1.2.2.2.2.2.1, u.1.2.2.2.2.2.2.1, u.1.2.2.2.2.2.2.2.1, u.1.2.2.2.2.2.2.2.2.1, u8, u.1.2.2.2.2.2.2.2.2.2.2), u.2) rfl dX7_note_66 rfl hv
        · replace hv := hv.2 h
          refine bx_aload_n C 47 dX7_note_46 rfl rfl rfl ?_
          refine bx_qVi C 0 at_U_0 rfl 50 fc_X7_81 (k_X7_refuseFull l E a _ _ hv) dX7_note_47 ⟨rfl, rfl, Nat.le_of_ble_eq_true rfl, Nat.le_of_ble_eq_true rfl⟩ [0, 1, 2, 3, 4, 5, 6, 7, 8, 9, 10, 11, 12, 13, 14, 15, 16, 17, 18, 19, 20, 21, 22, 23, 24, 25, 26, 27, 28, 29, 30, 31, 32, 33, 34, 35, 36, 37, 38, 39, 40, 41, 42, 43, 44, 45, 46, 47, 48, 49, 50, 51, 52, 53, 54, 55, 56, 57, 58, 59, 60, 61, 62, 63, 64, 65, 66, 67, 68, 69, 70, 71, 72, 73] (fun u10 => w_U E a u10) ps_U_U_0 (by decide) ad_U pu_U_U_0 rfl rfl (Nat.le_of_ble_eq_true rfl) rfl (fun r9 u10 hv => ?_)
          refine bx_goto C 66 dX7_note_50 (by decide) ?_
          exact bx_iret C u10 rfl dX7_note_66 rfl hv
      · replace hv := hv.2 h
        exact bx_cut [0] (w_U E a u) rfl rfl (t_X7_note_26 C   u  hv)
theorem k_X7_note (l : Launch) (E : bx_E) (a : Nat → Nat)  (K : Int32 → US → Prop) (u : US) (x1 : Int32) (x2 : Int32) (x3 : Int32) (hv : V_X7_note  K u x1 x2 x3) : bx_Mi l E yX7_note cX7_note 4 (some .int) (rmD 3) [.ref (a 0), .int x1, .int x2, .int x3] (fun (u : US) => w_U E a u) u K :=
  bx_meti (by decide +kernel) (Nat.le_of_ble_eq_true rfl) (fun p e S m below meth c C => t_X7_note_0 C u x1 x2 x3 hv)
abbrev G_X7_mark (p : Program) (l : Launch) (e : Env) (S : State) (m : MethodId) (args : Array Value) (below : List Frame) (meth : Method) (c : Code) (E : bx_E) (A : Nat → Prop) (a : Nat → Nat)  (K : Int32 → US → Prop) (pc : Nat) (lv : List (Nat × Value)) (st : List Value) (ws : va_W) : Prop := bx_S p l e (rmD 4) S m args below meth c 5 E A (MQ below (va_Qi K (fun (u : US) t => bx_B E A (w_U E a u) t) A) args S 0 0 A) 0 0 pc lv st ws
def V_X7_mark_39  (K : Int32 → US → Prop)  (u : US)  : Prop := (V_X7_refuseBad (fun r1 u2 => K r1 u2) u (-2))
set_option maxRecDepth 20000 in
set_option maxHeartbeats 4000000 in
theorem t_X7_mark_39 {a : Nat → Nat} {K : Int32 → US → Prop} (C : bx_C p (rmD 4) S m args meth c cX7_mark 5 yX7_mark.cls (some .int) E A 0 0)   (u : US)  (hv : V_X7_mark_39 K u ) : G_X7_mark p l e S m args below meth c E A a  K 39 [(0, .ref (a 0))] [] (w_U E a u) := by
  unfold V_X7_mark_39 at hv
  refine bx_aload_n C 40 dX7_mark_39 rfl rfl rfl ?_
  refine bx_bipush C (-2) 42 dX7_mark_40 bp_m2 rfl ?_
  refine bx_qVi C 0 at_U_0 rfl 45 fc_X7_63 (k_X7_refuseBad l E a _ _ _ hv) dX7_mark_42 ⟨rfl, rfl, Nat.le_of_ble_eq_true rfl, Nat.le_of_ble_eq_true rfl⟩ [0, 1, 2, 3, 4, 5, 6, 7, 8, 9, 10, 11, 12, 13, 14, 15, 16, 17, 18, 19, 20, 21, 22, 23, 24, 25, 26, 27, 28, 29, 30, 31, 32, 33, 34, 35, 36, 37, 38, 39, 40, 41, 42, 43, 44, 45, 46, 47, 48, 49, 50, 51, 52, 53, 54, 55, 56, 57, 58, 59, 60, 61, 62, 63, 64, 65, 66, 67, 68, 69, 70, 71, 72, 73] (fun u2 => w_U E a u2) ps_U_U_0 (by decide) ad_U pu_U_U_0 rfl rfl (Nat.le_of_ble_eq_true rfl) rfl (fun r1 u2 hv => ?_)
  exact bx_iret C u2 rfl dX7_mark_45 rfl hv
def V_X7_mark  (K : Int32 → US → Prop)  (u : US) (x1 : Int32) (x2 : Int32) (x3 : Int32) (x4 : Int32) : Prop := (V_X0_isSoul (fun r3 => ((r3 = 0 → V_X7_mark_39 K u ) ∧
 (¬ r3 = 0 → (V_X7_within (fun r4 => ((r4 = 0 → V_X7_mark_39 K u ) ∧
 (¬ r4 = 0 → (V_X7_within (fun r5 => ((r5 = 0 → V_X7_mark_39 K u ) ∧
 (¬ r5 = 0 → (V_X7_within (fun r6 => ((¬ r6 = 0 → (V_X4_isFull 6 4 24 (fun r7 => ((r7 = 0 → (V_X4_add_ 6 4 24 (fun r8 u9 => K r8 ((u.1.1, u.1.2.1, u.1.2.2.1, u.1.2.2.2.1, u.1.2.2.2.2.1, u.1.2.2.2.2.2.1, u.1.2.2.2.2.2.2.1, u.1.2.2.2.2.2.2.2.1, u.1.2.2.2.2.2.2.2.2.1, u.1.2.2.2.2.2.2.2.2.2.1, u9, u.1.2.2.2.2.2.2.2.2.2.2.2), u.2)) u.1.2.2.2.2.2.2.2.2.2.2.1 x1 x2 x3 x4)) ∧
 (¬ r7 = 0 → (V_X7_refuseFull (fun r10 u11 => K r10 u11) u )))) u.1.2.2.2.2.2.2.2.2.2.2.1 )) ∧
 (r6 = 0 → V_X7_mark_39 K u )))  x4 41))))  x3 100))))  x2 6)))) u.1 x1)
set_option maxRecDepth 20000 in
set_option maxHeartbeats 4000000 in
theorem t_X7_mark_0 {a : Nat → Nat} {K : Int32 → US → Prop} (C : bx_C p (rmD 4) S m args meth c cX7_mark 5 yX7_mark.cls (some .int) E A 0 0)   (u : US) (x1 : Int32) (x2 : Int32) (x3 : Int32) (x4 : Int32) (hv : V_X7_mark K u x1 x2 x3 x4) : G_X7_mark p l e S m args below meth c E A a  K 0 [(0, .ref (a 0)), (1, .int x1), (2, .int x2), (3, .int x3), (4, .int x4)] [] (w_U E a u) := by
  unfold V_X7_mark at hv
  refine bx_aload_n C 1 dX7_mark_0 rfl rfl rfl ?_
  refine bx_getf (v := .ref (a 1)) C 4 0 0 inX7 rfl (by decide) fl_X7_10 dX7_mark_1 at_U_0 rfl rfl ?_
  refine bx_iload_n C 5 dX7_mark_4 rfl rfl rfl ?_
  refine bx_pVi C 1 at_U_1 rfl 8 fc_X7_106 (k_X0_isSoul l E (fun k => a (1 + k)) _ _ _ hv) dX7_mark_5 ⟨rfl, rfl, Nat.le_of_ble_eq_true rfl, Nat.le_of_ble_eq_true rfl⟩ [1, 2, 3, 4, 5, 6, 7, 8, 9, 10, 11, 12, 13] ps_U_H_1 (by decide) rfl rfl (Nat.le_of_ble_eq_true rfl) rfl (fun r3 hv => ?_)
  refine bx_if_eq C 39 11 dX7_mark_8 (by decide) rfl (fun h => ?_) (fun h => ?_)
  · replace hv := hv.1 h
    exact bx_cut [0] (w_U E a u) rfl rfl (t_X7_mark_39 C   u  hv)
  · replace hv := hv.2 h
    refine bx_iload_n C 12 dX7_mark_11 rfl rfl rfl ?_
    refine bx_bipush C 6 14 dX7_mark_12 bp_6 rfl ?_
    refine bx_pSi C 17 fc_X7_59 (k_X7_within l E  _ _ _ hv) dX7_mark_14 ⟨rfl, rfl, Nat.le_of_ble_eq_true rfl, Nat.le_of_ble_eq_true rfl⟩ [] rfl (by decide) rfl rfl (Nat.le_of_ble_eq_true rfl) rfl (fun r4 hv => ?_)
    refine bx_if_eq C 39 20 dX7_mark_17 (by decide) rfl (fun h => ?_) (fun h => ?_)
    · replace hv := hv.1 h
      exact bx_cut [0] (w_U E a u) rfl rfl (t_X7_mark_39 C   u  hv)
    · replace hv := hv.2 h
      refine bx_iload_n C 21 dX7_mark_20 rfl rfl rfl ?_
      refine bx_bipush C 100 23 dX7_mark_21 bp_100 rfl ?_
      refine bx_pSi C 26 fc_X7_59 (k_X7_within l E  _ _ _ hv) dX7_mark_23 ⟨rfl, rfl, Nat.le_of_ble_eq_true rfl, Nat.le_of_ble_eq_true rfl⟩ [] rfl (by decide) rfl rfl (Nat.le_of_ble_eq_true rfl) rfl (fun r5 hv => ?_)
      refine bx_if_eq C 39 29 dX7_mark_26 (by decide) rfl (fun h => ?_) (fun h => ?_)
      · replace hv := hv.1 h
        exact bx_cut [0] (w_U E a u) rfl rfl (t_X7_mark_39 C   u  hv)
      · replace hv := hv.2 h
        refine bx_iload C 31 dX7_mark_29 rfl rfl ?_
        refine bx_bipush C 41 33 dX7_mark_31 bp_41 rfl ?_
        refine bx_pSi C 36 fc_X7_59 (k_X7_within l E  _ _ _ hv) dX7_mark_33 ⟨rfl, rfl, Nat.le_of_ble_eq_true rfl, Nat.le_of_ble_eq_true rfl⟩ [] rfl (by decide) rfl rfl (Nat.le_of_ble_eq_true rfl) rfl (fun r6 hv => ?_)
        refine bx_if_ne C 46 39 dX7_mark_36 (by decide) rfl (fun h => ?_) (fun h => ?_)
        · replace hv := hv.1 h
          refine bx_aload_n C 47 dX7_mark_46 rfl rfl rfl ?_
          refine bx_getf (v := .ref (a 1)) C 50 0 0 inX7 rfl (by decide) fl_X7_10 dX7_mark_47 at_U_0 rfl rfl ?_
          refine bx_getf (v := .ref (a 10)) C 53 1 10 inX0 rfl (by decide) fl_X7_222 dX7_mark_50 at_U_1 rfl rfl ?_
          refine bx_pVi C 10 at_U_10 rfl 56 fc_X7_206 (k_X4_isFull l E (fun k => a (10 + k)) 6 4 24 _ _ hv) dX7_mark_53 ⟨rfl, rfl, Nat.le_of_ble_eq_true rfl, Nat.le_of_ble_eq_true rfl⟩ [10, 11] ps_U_T_10 (by decide) rfl rfl (Nat.le_of_ble_eq_true rfl) rfl (fun r7 hv => ?_)
          refine bx_if_eq C 66 59 dX7_mark_56 (by decide) rfl (fun h => ?_) (fun h => ?_)
          · replace hv := hv.1 h
            refine bx_aload_n C 67 dX7_mark_66 rfl rfl rfl ?_
            refine bx_getf (v := .ref (a 1)) C 70 0 0 inX7 rfl (by decide) fl_X7_10 dX7_mark_67 at_U_0 rfl rfl ?_
            refine bx_getf (v := .ref (a 10)) C 73 1 10 inX0 rfl (by decide) fl_X7_222 dX7_mark_70 at_U_1 rfl rfl ?_
            refine bx_iload_n C 74 dX7_mark_73 rfl rfl rfl ?_
            refine bx_iload_n C 75 dX7_mark_74 rfl rfl rfl ?_
            refine bx_iload_n C 76 dX7_mark_75 rfl rfl rfl ?_
            refine bx_iload C 78 dX7_mark_76 rfl rfl ?_
            refine bx_qVi C 10 at_U_10 rfl 81 fc_X7_225 (k_X4_add_ l E (fun k => a (10 + k)) 6 4 24 _ _ _ _ _ _ hv) dX7_mark_78 ⟨rfl, rfl, Nat.le_of_ble_eq_true rfl, Nat.le_of_ble_eq_true rfl⟩ [10, 11] (fun u9 => w_U E a ((u.1.1, u.1.2.1, u.1.2.2.1, u.1.2.2.2.1, u.1.2.2.2.2.1, u.1.2.2.2.2.2.1, u.1.2.2.2.2.2.2.1, u.1.2.2.2.2.2.2.2.1, u.1.2.2.2.2.2.2.2.2.1, u.1.2.2.2.2.2.2.2.2.2.1, u9, u.1.2.2.2.2.2.2.2.2.2.2.2), u.2)) ps_U_T_10 (by decide) ad_T pu_U_T_10 rfl rfl (Nat.le_of_ble_eq_true rfl) rfl (fun r8 u9 hv => ?_)
            exact bx_iret C ((u.1.1, u.1.2.1, u.1.2.2.1, u.1.2.2.2.1, u.1.2.2.2.2.1, u.1.2.2.2.2.2.1, u.1.2.2.2.2.2.2.1, u.1.2.2.2.2.2.2.2.1, u.1.2.2.2.2.2.2.2.2.1, u.1.2.2.2.2.2.2.2.2.2.1, u9, u.1.2.2.2.2.2.2.2.2.2.2.2), u.2) rfl dX7_mark_81 rfl hv
          · replace hv := hv.2 h
            refine bx_aload_n C 60 dX7_mark_59 rfl rfl rfl ?_
            refine bx_qVi C 0 at_U_0 rfl 63 fc_X7_81 (k_X7_refuseFull l E a _ _ hv) dX7_mark_60 ⟨rfl, rfl, Nat.le_of_ble_eq_true rfl, Nat.le_of_ble_eq_true rfl⟩ [0, 1, 2, 3, 4, 5, 6, 7, 8, 9, 10, 11, 12, 13, 14, 15, 16, 17, 18, 19, 20, 21, 22, 23, 24, 25, 26, 27, 28, 29, 30, 31, 32, 33, 34, 35, 36, 37, 38, 39, 40, 41, 42, 43, 44, 45, 46, 47, 48, 49, 50, 51, 52, 53, 54, 55, 56, 57, 58, 59, 60, 61, 62, 63, 64, 65, 66, 67, 68, 69, 70, 71, 72, 73] (fun u11 => w_U E a u11) ps_U_U_0 (by decide) ad_U pu_U_U_0 rfl rfl (Nat.le_of_ble_eq_true rfl) rfl (fun r10 u11 hv => ?_)
            refine bx_goto C 81 dX7_mark_63 (by decide) ?_
            exact bx_iret C u11 rfl dX7_mark_81 rfl hv
        · replace hv := hv.2 h
          exact bx_cut [0] (w_U E a u) rfl rfl (t_X7_mark_39 C   u  hv)
theorem k_X7_mark (l : Launch) (E : bx_E) (a : Nat → Nat)  (K : Int32 → US → Prop) (u : US) (x1 : Int32) (x2 : Int32) (x3 : Int32) (x4 : Int32) (hv : V_X7_mark  K u x1 x2 x3 x4) : bx_Mi l E yX7_mark cX7_mark 5 (some .int) (rmD 4) [.ref (a 0), .int x1, .int x2, .int x3, .int x4] (fun (u : US) => w_U E a u) u K :=
  bx_meti (by decide +kernel) (Nat.le_of_ble_eq_true rfl) (fun p e S m below meth c C => t_X7_mark_0 C u x1 x2 x3 x4 hv)
abbrev G_X7_forget (p : Program) (l : Launch) (e : Env) (S : State) (m : MethodId) (args : Array Value) (below : List Frame) (meth : Method) (c : Code) (E : bx_E) (A : Nat → Prop) (a : Nat → Nat)  (K : Int32 → US → Prop) (pc : Nat) (lv : List (Nat × Value)) (st : List Value) (ws : va_W) : Prop := bx_S p l e (rmD 1) S m args below meth c 2 E A (MQ below (va_Qi K (fun (u : US) t => bx_B E A (w_U E a u) t) A) args S 0 0 A) 0 0 pc lv st ws
def V_X7_forget  (K : Int32 → US → Prop)  (u : US) (x1 : Int32) : Prop := ((x1 = 0 → (V_X4_empty 5 3 15 (fun r1 u2 => K r1 ((u.1.1, u.1.2.1, u.1.2.2.1, u.1.2.2.2.1, u.1.2.2.2.2.1, u.1.2.2.2.2.2.1, u.1.2.2.2.2.2.2.1, u.1.2.2.2.2.2.2.2.1, u2, u.1.2.2.2.2.2.2.2.2.2), u.2)) u.1.2.2.2.2.2.2.2.2.1 )) ∧
 (x1 = 1 → (V_X4_empty 6 3 18 (fun r3 u4 => K r3 ((u.1.1, u.1.2.1, u.1.2.2.1, u.1.2.2.2.1, u.1.2.2.2.2.1, u.1.2.2.2.2.2.1, u.1.2.2.2.2.2.2.1, u.1.2.2.2.2.2.2.2.1, u.1.2.2.2.2.2.2.2.2.1, u4, u.1.2.2.2.2.2.2.2.2.2.2), u.2)) u.1.2.2.2.2.2.2.2.2.2.1 )) ∧
 (x1 = 2 → (V_X4_empty 6 4 24 (fun r5 u6 => K r5 ((u.1.1, u.1.2.1, u.1.2.2.1, u.1.2.2.2.1, u.1.2.2.2.2.1, u.1.2.2.2.2.2.1, u.1.2.2.2.2.2.2.1, u.1.2.2.2.2.2.2.2.1, u.1.2.2.2.2.2.2.2.2.1, u.1.2.2.2.2.2.2.2.2.2.1, u6, u.1.2.2.2.2.2.2.2.2.2.2.2), u.2)) u.1.2.2.2.2.2.2.2.2.2.2.1 )) ∧
 (¬ x1 = 0 ∧ ¬ x1 = 1 ∧ ¬ x1 = 2 → (V_X7_refuseBad (fun r7 u8 => K r7 u8) u (-2))))
set_option maxRecDepth 20000 in
set_option maxHeartbeats 4000000 in
theorem t_X7_forget_0 {a : Nat → Nat} {K : Int32 → US → Prop} (C : bx_C p (rmD 1) S m args meth c cX7_forget 2 yX7_forget.cls (some .int) E A 0 0)   (u : US) (x1 : Int32) (hv : V_X7_forget K u x1) : G_X7_forget p l e S m args below meth c E A a  K 0 [(0, .ref (a 0)), (1, .int x1)] [] (w_U E a u) := by
  unfold V_X7_forget at hv
  refine bx_iload_n C 1 dX7_forget_0 rfl rfl rfl ?_
  by_cases h0 : x1 = 0
  · replace hv := hv.1 h0
    refine bx_tin C 28 0 dX7_forget_1 h0 (by decide) (by decide) rfl (by decide) ?_
    refine bx_aload_n C 29 dX7_forget_28 rfl rfl rfl ?_
    refine bx_getf (v := .ref (a 1)) C 32 0 0 inX7 rfl (by decide) fl_X7_10 dX7_forget_29 at_U_0 rfl rfl ?_
    refine bx_getf (v := .ref (a 6)) C 35 1 8 inX0 rfl (by decide) fl_X7_203 dX7_forget_32 at_U_1 rfl rfl ?_
    refine bx_qVi C 6 at_U_6 rfl 38 fc_X7_75 (k_X4_empty l E (fun k => a (6 + k)) 5 3 15 _ _ hv) dX7_forget_35 ⟨rfl, rfl, Nat.le_of_ble_eq_true rfl, Nat.le_of_ble_eq_true rfl⟩ [6, 7] (fun u2 => w_U E a ((u.1.1, u.1.2.1, u.1.2.2.1, u.1.2.2.2.1, u.1.2.2.2.2.1, u.1.2.2.2.2.2.1, u.1.2.2.2.2.2.2.1, u.1.2.2.2.2.2.2.2.1, u2, u.1.2.2.2.2.2.2.2.2.2), u.2)) ps_U_T_6 (by decide) ad_T pu_U_T_6 rfl rfl (Nat.le_of_ble_eq_true rfl) rfl (fun r1 u2 hv => ?_)
    exact bx_iret C ((u.1.1, u.1.2.1, u.1.2.2.1, u.1.2.2.2.1, u.1.2.2.2.2.1, u.1.2.2.2.2.2.1, u.1.2.2.2.2.2.2.1, u.1.2.2.2.2.2.2.2.1, u2, u.1.2.2.2.2.2.2.2.2.2), u.2) rfl dX7_forget_38 rfl hv
  by_cases h1 : x1 = 1
  · replace hv := hv.2.1 h1
    refine bx_tin C 39 1 dX7_forget_1 h1 (by decide) (by decide) rfl (by decide) ?_
    refine bx_aload_n C 40 dX7_forget_39 rfl rfl rfl ?_
    refine bx_getf (v := .ref (a 1)) C 43 0 0 inX7 rfl (by decide) fl_X7_10 dX7_forget_40 at_U_0 rfl rfl ?_
    refine bx_getf (v := .ref (a 8)) C 46 1 9 inX0 rfl (by decide) fl_X7_219 dX7_forget_43 at_U_1 rfl rfl ?_
    refine bx_qVi C 8 at_U_8 rfl 49 fc_X7_75 (k_X4_empty l E (fun k => a (8 + k)) 6 3 18 _ _ hv) dX7_forget_46 ⟨rfl, rfl, Nat.le_of_ble_eq_true rfl, Nat.le_of_ble_eq_true rfl⟩ [8, 9] (fun u4 => w_U E a ((u.1.1, u.1.2.1, u.1.2.2.1, u.1.2.2.2.1, u.1.2.2.2.2.1, u.1.2.2.2.2.2.1, u.1.2.2.2.2.2.2.1, u.1.2.2.2.2.2.2.2.1, u.1.2.2.2.2.2.2.2.2.1, u4, u.1.2.2.2.2.2.2.2.2.2.2), u.2)) ps_U_T_8 (by decide) ad_T pu_U_T_8 rfl rfl (Nat.le_of_ble_eq_true rfl) rfl (fun r3 u4 hv => ?_)
    exact bx_iret C ((u.1.1, u.1.2.1, u.1.2.2.1, u.1.2.2.2.1, u.1.2.2.2.2.1, u.1.2.2.2.2.2.1, u.1.2.2.2.2.2.2.1, u.1.2.2.2.2.2.2.2.1, u.1.2.2.2.2.2.2.2.2.1, u4, u.1.2.2.2.2.2.2.2.2.2.2), u.2) rfl dX7_forget_49 rfl hv
  by_cases h2 : x1 = 2
  · replace hv := hv.2.2.1 h2
    refine bx_tin C 50 2 dX7_forget_1 h2 (by decide) (by decide) rfl (by decide) ?_
    refine bx_aload_n C 51 dX7_forget_50 rfl rfl rfl ?_
    refine bx_getf (v := .ref (a 1)) C 54 0 0 inX7 rfl (by decide) fl_X7_10 dX7_forget_51 at_U_0 rfl rfl ?_
    refine bx_getf (v := .ref (a 10)) C 57 1 10 inX0 rfl (by decide) fl_X7_222 dX7_forget_54 at_U_1 rfl rfl ?_
    refine bx_qVi C 10 at_U_10 rfl 60 fc_X7_75 (k_X4_empty l E (fun k => a (10 + k)) 6 4 24 _ _ hv) dX7_forget_57 ⟨rfl, rfl, Nat.le_of_ble_eq_true rfl, Nat.le_of_ble_eq_true rfl⟩ [10, 11] (fun u6 => w_U E a ((u.1.1, u.1.2.1, u.1.2.2.1, u.1.2.2.2.1, u.1.2.2.2.2.1, u.1.2.2.2.2.2.1, u.1.2.2.2.2.2.2.1, u.1.2.2.2.2.2.2.2.1, u.1.2.2.2.2.2.2.2.2.1, u.1.2.2.2.2.2.2.2.2.2.1, u6, u.1.2.2.2.2.2.2.2.2.2.2.2), u.2)) ps_U_T_10 (by decide) ad_T pu_U_T_10 rfl rfl (Nat.le_of_ble_eq_true rfl) rfl (fun r5 u6 hv => ?_)
    exact bx_iret C ((u.1.1, u.1.2.1, u.1.2.2.1, u.1.2.2.2.1, u.1.2.2.2.2.1, u.1.2.2.2.2.2.1, u.1.2.2.2.2.2.2.1, u.1.2.2.2.2.2.2.2.1, u.1.2.2.2.2.2.2.2.2.1, u.1.2.2.2.2.2.2.2.2.2.1, u6, u.1.2.2.2.2.2.2.2.2.2.2.2), u.2) rfl dX7_forget_60 rfl hv
  replace hv := hv.2.2.2 ⟨h0, h1, h2⟩
  have ho : (x1 : Int32).toInt < 0 ∨ 2 < (x1 : Int32).toInt := by
    have e0 := bx_ne (z := 0) h0 (by decide)
    have e1 := bx_ne (z := 1) h1 (by decide)
    have e2 := bx_ne (z := 2) h2 (by decide)
    omega
  refine bx_tout C 61 dX7_forget_1 ho (by decide) ?_
  refine bx_aload_n C 62 dX7_forget_61 rfl rfl rfl ?_
  refine bx_bipush C (-2) 64 dX7_forget_62 bp_m2 rfl ?_
  refine bx_qVi C 0 at_U_0 rfl 67 fc_X7_63 (k_X7_refuseBad l E a _ _ _ hv) dX7_forget_64 ⟨rfl, rfl, Nat.le_of_ble_eq_true rfl, Nat.le_of_ble_eq_true rfl⟩ [0, 1, 2, 3, 4, 5, 6, 7, 8, 9, 10, 11, 12, 13, 14, 15, 16, 17, 18, 19, 20, 21, 22, 23, 24, 25, 26, 27, 28, 29, 30, 31, 32, 33, 34, 35, 36, 37, 38, 39, 40, 41, 42, 43, 44, 45, 46, 47, 48, 49, 50, 51, 52, 53, 54, 55, 56, 57, 58, 59, 60, 61, 62, 63, 64, 65, 66, 67, 68, 69, 70, 71, 72, 73] (fun u8 => w_U E a u8) ps_U_U_0 (by decide) ad_U pu_U_U_0 rfl rfl (Nat.le_of_ble_eq_true rfl) rfl (fun r7 u8 hv => ?_)
  exact bx_iret C u8 rfl dX7_forget_67 rfl hv
theorem k_X7_forget (l : Launch) (E : bx_E) (a : Nat → Nat)  (K : Int32 → US → Prop) (u : US) (x1 : Int32) (hv : V_X7_forget  K u x1) : bx_Mi l E yX7_forget cX7_forget 2 (some .int) (rmD 1) [.ref (a 0), .int x1] (fun (u : US) => w_U E a u) u K :=
  bx_meti (by decide +kernel) (Nat.le_of_ble_eq_true rfl) (fun p e S m below meth c C => t_X7_forget_0 C u x1 hv)
abbrev G_X7_fitsNotes (p : Program) (l : Launch) (e : Env) (S : State) (m : MethodId) (args : Array Value) (below : List Frame) (meth : Method) (c : Code) (E : bx_E) (A : Nat → Prop) (a : Nat → Nat)  (u : US) (K : Int32 → Prop) (pc : Nat) (lv : List (Nat × Value)) (st : List Value) (ws : va_W) : Prop := bx_S p l e (rmD 2) S m args below meth c 4 E A (MQ below (va_Qi (fun r (_ : Unit) => K r) (fun (_ : Unit) t => bx_B E A (w_U E a u) t) A) args S 0 0 A) 0 0 pc lv st ws
def V_X7_fitsNotes_2  (K : Int32 → Prop)  : Nat → US → Int32 → Int32 → Int32 → Prop
  | 0, _, _, _, _ => False
  | n + 1, u, x1, x2, x3 => ((u.1.2.2.2.2.2.2.2.2.2.1.2 ≤ x3 → K 1) ∧
 (¬ u.1.2.2.2.2.2.2.2.2.2.1.2 ≤ x3 → (V_X4_at 6 3 18 (fun r1 => ((¬ r1 = x1 → V_X7_fitsNotes_2 K n u x1 x2 (x3 + 1)) ∧
 (r1 = x1 → (V_X4_at 6 3 18 (fun r2 => (V_X1_sight (fun r3 => (V_X4_at 6 3 18 (fun r4 => ((r3 = r4 → V_X7_fitsNotes_2 K n u x1 x2 (x3 + 1)) ∧
 (¬ r3 = r4 → K 0))) u.1.2.2.2.2.2.2.2.2.2.1 x3 2))  x2 r2)) u.1.2.2.2.2.2.2.2.2.2.1 x3 1)))) u.1.2.2.2.2.2.2.2.2.2.1 x3 0)))
set_option maxRecDepth 20000 in
set_option maxHeartbeats 4000000 in
theorem t_X7_fitsNotes_2 {a : Nat → Nat} {K : Int32 → Prop} (C : bx_C p (rmD 2) S m args meth c cX7_fitsNotes 4 yX7_fitsNotes.cls (some .boolean) E A 0 0) (u : US)  : ∀ (n : Nat)  (x1 : Int32) (x2 : Int32) (x3 : Int32), V_X7_fitsNotes_2 K n u x1 x2 x3 → G_X7_fitsNotes p l e S m args below meth c E A a  u K 2 [(0, .ref (a 0)), (1, .int x1), (2, .int x2), (3, .int x3)] [] (w_U E a u) := by
  intro n
  induction n with
  | zero =>
    intro x1 x2 x3 hv
    exact False.elim hv
  | succ n ih =>
    intro x1 x2 x3 hv
    unfold V_X7_fitsNotes_2 at hv
    refine bx_iload_n C 3 dX7_fitsNotes_2 rfl rfl rfl ?_
    refine bx_aload_n C 4 dX7_fitsNotes_3 rfl rfl rfl ?_
    refine bx_getf (v := .ref (a 1)) C 7 0 0 inX7 rfl (by decide) fl_X7_10 dX7_fitsNotes_4 at_U_0 rfl rfl ?_
    refine bx_getf (v := .ref (a 8)) C 10 1 9 inX0 rfl (by decide) fl_X7_219 dX7_fitsNotes_7 at_U_1 rfl rfl ?_
    refine bx_getf (v := .int u.1.2.2.2.2.2.2.2.2.2.1.2) C 13 8 3 inX4 rfl (by decide) fl_X7_148 dX7_fitsNotes_10 at_U_8 rfl rfl ?_
    refine bx_icmp_ge C 71 16 dX7_fitsNotes_13 (by decide) rfl (fun h => ?_) (fun h => ?_)
    · replace hv := hv.1 h
      refine bx_iconst C 1 72 dX7_fitsNotes_71 ic_1 rfl ?_
      exact bx_zret C () rfl dX7_fitsNotes_72 rfl (Or.inr rfl) hv
    · replace hv := hv.2 h
      refine bx_aload_n C 17 dX7_fitsNotes_16 rfl rfl rfl ?_
      refine bx_getf (v := .ref (a 1)) C 20 0 0 inX7 rfl (by decide) fl_X7_10 dX7_fitsNotes_17 at_U_0 rfl rfl ?_
      refine bx_getf (v := .ref (a 8)) C 23 1 9 inX0 rfl (by decide) fl_X7_219 dX7_fitsNotes_20 at_U_1 rfl rfl ?_
      refine bx_iload_n C 24 dX7_fitsNotes_23 rfl rfl rfl ?_
      refine bx_iconst C 0 25 dX7_fitsNotes_24 ic_0 rfl ?_
      refine bx_pVi C 8 at_U_8 rfl 28 fc_X7_308 (k_X4_at l E (fun k => a (8 + k)) 6 3 18 _ _ _ _ hv) dX7_fitsNotes_25 ⟨rfl, rfl, Nat.le_of_ble_eq_true rfl, Nat.le_of_ble_eq_true rfl⟩ [8, 9] ps_U_T_8 (by decide) rfl rfl (Nat.le_of_ble_eq_true rfl) rfl (fun r1 hv => ?_)
      refine bx_iload_n C 29 dX7_fitsNotes_28 rfl rfl rfl ?_
      refine bx_icmp_ne C 65 32 dX7_fitsNotes_29 (by decide) rfl (fun h => ?_) (fun h => ?_)
      · replace hv := hv.1 h
        refine bx_iinc C 1 68 dX7_fitsNotes_65 rfl (by decide) ic_1 rfl ?_
        refine bx_goto C 2 dX7_fitsNotes_68 (by decide) ?_
        exact bx_cut [1, 2, 3, 0] (w_U E a u) rfl rfl (ih  x1 x2 (x3 + 1) hv)
      · replace hv := hv.2 h
        refine bx_iload_n C 33 dX7_fitsNotes_32 rfl rfl rfl ?_
        refine bx_aload_n C 34 dX7_fitsNotes_33 rfl rfl rfl ?_
        refine bx_getf (v := .ref (a 1)) C 37 0 0 inX7 rfl (by decide) fl_X7_10 dX7_fitsNotes_34 at_U_0 rfl rfl ?_
        refine bx_getf (v := .ref (a 8)) C 40 1 9 inX0 rfl (by decide) fl_X7_219 dX7_fitsNotes_37 at_U_1 rfl rfl ?_
        refine bx_iload_n C 41 dX7_fitsNotes_40 rfl rfl rfl ?_
        refine bx_iconst C 1 42 dX7_fitsNotes_41 ic_1 rfl ?_
        refine bx_pVi C 8 at_U_8 rfl 45 fc_X7_308 (k_X4_at l E (fun k => a (8 + k)) 6 3 18 _ _ _ _ hv) dX7_fitsNotes_42 ⟨rfl, rfl, Nat.le_of_ble_eq_true rfl, Nat.le_of_ble_eq_true rfl⟩ [8, 9] ps_U_T_8 (by decide) rfl rfl (Nat.le_of_ble_eq_true rfl) rfl (fun r2 hv => ?_)
        refine bx_pSi C 48 fc_X7_320 (k_X1_sight l E  _ _ _ hv) dX7_fitsNotes_45 ⟨rfl, rfl, Nat.le_of_ble_eq_true rfl, Nat.le_of_ble_eq_true rfl⟩ [] rfl (by decide) rfl rfl (Nat.le_of_ble_eq_true rfl) rfl (fun r3 hv => ?_)
        refine bx_aload_n C 49 dX7_fitsNotes_48 rfl rfl rfl ?_
        refine bx_getf (v := .ref (a 1)) C 52 0 0 inX7 rfl (by decide) fl_X7_10 dX7_fitsNotes_49 at_U_0 rfl rfl ?_
        refine bx_getf (v := .ref (a 8)) C 55 1 9 inX0 rfl (by decide) fl_X7_219 dX7_fitsNotes_52 at_U_1 rfl rfl ?_
        refine bx_iload_n C 56 dX7_fitsNotes_55 rfl rfl rfl ?_
        refine bx_iconst C 2 57 dX7_fitsNotes_56 ic_2 rfl ?_
        refine bx_pVi C 8 at_U_8 rfl 60 fc_X7_308 (k_X4_at l E (fun k => a (8 + k)) 6 3 18 _ _ _ _ hv) dX7_fitsNotes_57 ⟨rfl, rfl, Nat.le_of_ble_eq_true rfl, Nat.le_of_ble_eq_true rfl⟩ [8, 9] ps_U_T_8 (by decide) rfl rfl (Nat.le_of_ble_eq_true rfl) rfl (fun r4 hv => ?_)
        refine bx_icmp_eq C 65 63 dX7_fitsNotes_60 (by decide) rfl (fun h => ?_) (fun h => ?_)
        · replace hv := hv.1 h
          refine bx_iinc C 1 68 dX7_fitsNotes_65 rfl (by decide) ic_1 rfl ?_
          refine bx_goto C 2 dX7_fitsNotes_68 (by decide) ?_
          exact bx_cut [1, 2, 3, 0] (w_U E a u) rfl rfl (ih  x1 x2 (x3 + 1) hv)
        · replace hv := hv.2 h
          refine bx_iconst C 0 64 dX7_fitsNotes_63 ic_0 rfl ?_
          exact bx_zret C () rfl dX7_fitsNotes_64 rfl (Or.inl rfl) hv
def V_X7_fitsNotes  (K : Int32 → Prop)  (u : US) (x1 : Int32) (x2 : Int32) : Prop := ∃ n5, V_X7_fitsNotes_2 K n5 u x1 x2 0
set_option maxRecDepth 20000 in
set_option maxHeartbeats 4000000 in
theorem t_X7_fitsNotes_0 {a : Nat → Nat} {K : Int32 → Prop} (C : bx_C p (rmD 2) S m args meth c cX7_fitsNotes 4 yX7_fitsNotes.cls (some .boolean) E A 0 0) (u : US)   (x1 : Int32) (x2 : Int32) (hv : V_X7_fitsNotes K u x1 x2) : G_X7_fitsNotes p l e S m args below meth c E A a  u K 0 [(0, .ref (a 0)), (1, .int x1), (2, .int x2)] [] (w_U E a u) := by
  unfold V_X7_fitsNotes at hv
  refine bx_iconst C 0 1 dX7_fitsNotes_0 ic_0 rfl ?_
  refine bx_istore_n C 2 dX7_fitsNotes_1 rfl (by decide) rfl ?_
  obtain ⟨n5, hv⟩ := hv
  exact bx_cut [1, 2, 3, 0] (w_U E a u) rfl rfl (t_X7_fitsNotes_2 C u  n5  x1 x2 0 hv)
theorem k_X7_fitsNotes (l : Launch) (E : bx_E) (a : Nat → Nat)  (K : Int32 → Prop) (u : US) (x1 : Int32) (x2 : Int32) (hv : V_X7_fitsNotes  K u x1 x2) : bx_Mi l E yX7_fitsNotes cX7_fitsNotes 4 (some .boolean) (rmD 2) [.ref (a 0), .int x1, .int x2] (fun (_ : Unit) => w_U E a u) () (fun r (_ : Unit) => K r) :=
  bx_meti (by decide +kernel) (Nat.le_of_ble_eq_true rfl) (fun p e S m below meth c C => t_X7_fitsNotes_0 C u x1 x2 hv)
abbrev G_X7_rowKindsThatFit (p : Program) (l : Launch) (e : Env) (S : State) (m : MethodId) (args : Array Value) (below : List Frame) (meth : Method) (c : Code) (E : bx_E) (A : Nat → Prop) (a : Nat → Nat)  (u : US) (K : Int32 → Prop) (pc : Nat) (lv : List (Nat × Value)) (st : List Value) (ws : va_W) : Prop := bx_S p l e (rmD 3) S m args below meth c 4 E A (MQ below (va_Qi (fun r (_ : Unit) => K r) (fun (_ : Unit) t => bx_B E A (w_U E a u) t) A) args S 0 0 A) 0 0 pc lv st ws
def V_X7_rowKindsThatFit_4  (K : Int32 → Prop)  : Nat → US → Int32 → Int32 → Int32 → Prop
  | 0, _, _, _, _ => False
  | n + 1, u, x1, x2, x3 => ((6 ≤ x3 → K x2) ∧
 (¬ 6 ≤ x3 → (V_X7_fitsNotes (fun r1 => ((r1 = 0 → V_X7_rowKindsThatFit_4 K n u x1 x2 (x3 + 1)) ∧
 (¬ r1 = 0 → V_X7_rowKindsThatFit_4 K n u x1 (x2 ||| (1 <<< (x3 &&& 31))) (x3 + 1)))) u x1 x3)))
set_option maxRecDepth 20000 in
set_option maxHeartbeats 4000000 in
theorem t_X7_rowKindsThatFit_4 {a : Nat → Nat} {K : Int32 → Prop} (C : bx_C p (rmD 3) S m args meth c cX7_rowKindsThatFit 4 yX7_rowKindsThatFit.cls (some .int) E A 0 0) (u : US)  : ∀ (n : Nat)  (x1 : Int32) (x2 : Int32) (x3 : Int32), V_X7_rowKindsThatFit_4 K n u x1 x2 x3 → G_X7_rowKindsThatFit p l e S m args below meth c E A a  u K 4 [(0, .ref (a 0)), (1, .int x1), (2, .int x2), (3, .int x3)] [] (w_U E a u) := by
  intro n
  induction n with
  | zero =>
    intro x1 x2 x3 hv
    exact False.elim hv
  | succ n ih =>
    intro x1 x2 x3 hv
    unfold V_X7_rowKindsThatFit_4 at hv
    refine bx_iload_n C 5 dX7_rowKindsThatFit_4 rfl rfl rfl ?_
    refine bx_bipush C 6 7 dX7_rowKindsThatFit_5 bp_6 rfl ?_
    refine bx_icmp_ge C 31 10 dX7_rowKindsThatFit_7 (by decide) rfl (fun h => ?_) (fun h => ?_)
    · replace hv := hv.1 h
      refine bx_iload_n C 32 dX7_rowKindsThatFit_31 rfl rfl rfl ?_
      exact bx_iret C () rfl dX7_rowKindsThatFit_32 rfl hv
    · replace hv := hv.2 h
      refine bx_aload_n C 11 dX7_rowKindsThatFit_10 rfl rfl rfl ?_
      refine bx_iload_n C 12 dX7_rowKindsThatFit_11 rfl rfl rfl ?_
      refine bx_iload_n C 13 dX7_rowKindsThatFit_12 rfl rfl rfl ?_
      refine bx_pVi C 0 at_U_0 rfl 16 fc_X7_317 (k_X7_fitsNotes l E a _ _ _ _ hv) dX7_rowKindsThatFit_13 ⟨rfl, rfl, Nat.le_of_ble_eq_true rfl, Nat.le_of_ble_eq_true rfl⟩ [0, 1, 2, 3, 4, 5, 6, 7, 8, 9, 10, 11, 12, 13, 14, 15, 16, 17, 18, 19, 20, 21, 22, 23, 24, 25, 26, 27, 28, 29, 30, 31, 32, 33, 34, 35, 36, 37, 38, 39, 40, 41, 42, 43, 44, 45, 46, 47, 48, 49, 50, 51, 52, 53, 54, 55, 56, 57, 58, 59, 60, 61, 62, 63, 64, 65, 66, 67, 68, 69, 70, 71, 72, 73] ps_U_U_0 (by decide) rfl rfl (Nat.le_of_ble_eq_true rfl) rfl (fun r1 hv => ?_)
      refine bx_if_eq C 25 19 dX7_rowKindsThatFit_16 (by decide) rfl (fun h => ?_) (fun h => ?_)
      · replace hv := hv.1 h
        refine bx_iinc C 1 28 dX7_rowKindsThatFit_25 rfl (by decide) ic_1 rfl ?_
        refine bx_goto C 4 dX7_rowKindsThatFit_28 (by decide) ?_
        exact bx_cut [1, 2, 3, 0] (w_U E a u) rfl rfl (ih  x1 x2 (x3 + 1) hv)
      · replace hv := hv.2 h
        refine bx_iload_n C 20 dX7_rowKindsThatFit_19 rfl rfl rfl ?_
        refine bx_iconst C 1 21 dX7_rowKindsThatFit_20 ic_1 rfl ?_
        refine bx_iload_n C 22 dX7_rowKindsThatFit_21 rfl rfl rfl ?_
        refine bx_ishl C 23 dX7_rowKindsThatFit_22 rfl ?_
        refine bx_ior C 24 dX7_rowKindsThatFit_23 rfl ?_
        refine bx_istore_n C 25 dX7_rowKindsThatFit_24 rfl (by decide) rfl ?_
        refine bx_iinc C 1 28 dX7_rowKindsThatFit_25 rfl (by decide) ic_1 rfl ?_
        refine bx_goto C 4 dX7_rowKindsThatFit_28 (by decide) ?_
        exact bx_cut [2, 3, 1, 0] (w_U E a u) rfl rfl (ih  x1 (x2 ||| (1 <<< (x3 &&& 31))) (x3 + 1) hv)
def V_X7_rowKindsThatFit  (K : Int32 → Prop)  (u : US) (x1 : Int32) : Prop := ∃ n2, V_X7_rowKindsThatFit_4 K n2 u x1 0 0
set_option maxRecDepth 20000 in
set_option maxHeartbeats 4000000 in
theorem t_X7_rowKindsThatFit_0 {a : Nat → Nat} {K : Int32 → Prop} (C : bx_C p (rmD 3) S m args meth c cX7_rowKindsThatFit 4 yX7_rowKindsThatFit.cls (some .int) E A 0 0) (u : US)   (x1 : Int32) (hv : V_X7_rowKindsThatFit K u x1) : G_X7_rowKindsThatFit p l e S m args below meth c E A a  u K 0 [(0, .ref (a 0)), (1, .int x1)] [] (w_U E a u) := by
  unfold V_X7_rowKindsThatFit at hv
  refine bx_iconst C 0 1 dX7_rowKindsThatFit_0 ic_0 rfl ?_
  refine bx_istore_n C 2 dX7_rowKindsThatFit_1 rfl (by decide) rfl ?_
  refine bx_iconst C 0 3 dX7_rowKindsThatFit_2 ic_0 rfl ?_
  refine bx_istore_n C 4 dX7_rowKindsThatFit_3 rfl (by decide) rfl ?_
  obtain ⟨n2, hv⟩ := hv
  exact bx_cut [2, 3, 1, 0] (w_U E a u) rfl rfl (t_X7_rowKindsThatFit_4 C u  n2  x1 0 0 hv)
theorem k_X7_rowKindsThatFit (l : Launch) (E : bx_E) (a : Nat → Nat)  (K : Int32 → Prop) (u : US) (x1 : Int32) (hv : V_X7_rowKindsThatFit  K u x1) : bx_Mi l E yX7_rowKindsThatFit cX7_rowKindsThatFit 4 (some .int) (rmD 3) [.ref (a 0), .int x1] (fun (_ : Unit) => w_U E a u) () (fun r (_ : Unit) => K r) :=
  bx_meti (by decide +kernel) (Nat.le_of_ble_eq_true rfl) (fun p e S m below meth c C => t_X7_rowKindsThatFit_0 C u x1 hv)
abbrev G_X7_is (p : Program) (l : Launch) (e : Env) (S : State) (m : MethodId) (args : Array Value) (below : List Frame) (meth : Method) (c : Code) (E : bx_E) (A : Nat → Prop) (a : Nat → Nat)  (K : Int32 → US → Prop) (pc : Nat) (lv : List (Nat × Value)) (st : List Value) (ws : va_W) : Prop := bx_S p l e (rmD 4) S m args below meth c 2 E A (MQ below (va_Qi K (fun (u : US) t => bx_B E A (w_U E a u) t) A) args S 0 0 A) 0 0 pc lv st ws
def V_X7_is  (K : Int32 → US → Prop)  (u : US) (x1 : Int32) : Prop := (V_X7_within (fun r1 => ((r1 = 0 → (V_X7_refuseBad (fun r2 u3 => K r2 u3) u (-2))) ∧
 (¬ r1 = 0 → (V_X7_rowKindsThatFit (fun r4 => K r4 u) u x1))))  x1 5)
set_option maxRecDepth 20000 in
set_option maxHeartbeats 4000000 in
theorem t_X7_is_0 {a : Nat → Nat} {K : Int32 → US → Prop} (C : bx_C p (rmD 4) S m args meth c cX7_is 2 yX7_is.cls (some .int) E A 0 0)   (u : US) (x1 : Int32) (hv : V_X7_is K u x1) : G_X7_is p l e S m args below meth c E A a  K 0 [(0, .ref (a 0)), (1, .int x1)] [] (w_U E a u) := by
  unfold V_X7_is at hv
  refine bx_iload_n C 1 dX7_is_0 rfl rfl rfl ?_
  refine bx_iconst C 5 2 dX7_is_1 ic_5 rfl ?_
  refine bx_pSi C 5 fc_X7_59 (k_X7_within l E  _ _ _ hv) dX7_is_2 ⟨rfl, rfl, Nat.le_of_ble_eq_true rfl, Nat.le_of_ble_eq_true rfl⟩ [] rfl (by decide) rfl rfl (Nat.le_of_ble_eq_true rfl) rfl (fun r1 hv => ?_)
  refine bx_if_eq C 16 8 dX7_is_5 (by decide) rfl (fun h => ?_) (fun h => ?_)
  · replace hv := hv.1 h
    refine bx_aload_n C 17 dX7_is_16 rfl rfl rfl ?_
    refine bx_bipush C (-2) 19 dX7_is_17 bp_m2 rfl ?_
    refine bx_qVi C 0 at_U_0 rfl 22 fc_X7_63 (k_X7_refuseBad l E a _ _ _ hv) dX7_is_19 ⟨rfl, rfl, Nat.le_of_ble_eq_true rfl, Nat.le_of_ble_eq_true rfl⟩ [0, 1, 2, 3, 4, 5, 6, 7, 8, 9, 10, 11, 12, 13, 14, 15, 16, 17, 18, 19, 20, 21, 22, 23, 24, 25, 26, 27, 28, 29, 30, 31, 32, 33, 34, 35, 36, 37, 38, 39, 40, 41, 42, 43, 44, 45, 46, 47, 48, 49, 50, 51, 52, 53, 54, 55, 56, 57, 58, 59, 60, 61, 62, 63, 64, 65, 66, 67, 68, 69, 70, 71, 72, 73] (fun u3 => w_U E a u3) ps_U_U_0 (by decide) ad_U pu_U_U_0 rfl rfl (Nat.le_of_ble_eq_true rfl) rfl (fun r2 u3 hv => ?_)
    exact bx_iret C u3 rfl dX7_is_22 rfl hv
  · replace hv := hv.2 h
    refine bx_aload_n C 9 dX7_is_8 rfl rfl rfl ?_
    refine bx_iload_n C 10 dX7_is_9 rfl rfl rfl ?_
    refine bx_pVi C 0 at_U_0 rfl 13 fc_X7_227 (k_X7_rowKindsThatFit l E a _ _ _ hv) dX7_is_10 ⟨rfl, rfl, Nat.le_of_ble_eq_true rfl, Nat.le_of_ble_eq_true rfl⟩ [0, 1, 2, 3, 4, 5, 6, 7, 8, 9, 10, 11, 12, 13, 14, 15, 16, 17, 18, 19, 20, 21, 22, 23, 24, 25, 26, 27, 28, 29, 30, 31, 32, 33, 34, 35, 36, 37, 38, 39, 40, 41, 42, 43, 44, 45, 46, 47, 48, 49, 50, 51, 52, 53, 54, 55, 56, 57, 58, 59, 60, 61, 62, 63, 64, 65, 66, 67, 68, 69, 70, 71, 72, 73] ps_U_U_0 (by decide) rfl rfl (Nat.le_of_ble_eq_true rfl) rfl (fun r4 hv => ?_)
    refine bx_goto C 22 dX7_is_13 (by decide) ?_
    exact bx_iret C u rfl dX7_is_22 rfl hv
theorem k_X7_is (l : Launch) (E : bx_E) (a : Nat → Nat)  (K : Int32 → US → Prop) (u : US) (x1 : Int32) (hv : V_X7_is  K u x1) : bx_Mi l E yX7_is cX7_is 2 (some .int) (rmD 4) [.ref (a 0), .int x1] (fun (u : US) => w_U E a u) u K :=
  bx_meti (by decide +kernel) (Nat.le_of_ble_eq_true rfl) (fun p e S m below meth c C => t_X7_is_0 C u x1 hv)
abbrev G_X7_mostRowKindsAlike (p : Program) (l : Launch) (e : Env) (S : State) (m : MethodId) (args : Array Value) (below : List Frame) (meth : Method) (c : Code) (E : bx_E) (A : Nat → Prop) (a : Nat → Nat)  (K : Int32 → US → Prop) (pc : Nat) (lv : List (Nat × Value)) (st : List Value) (ws : va_W) : Prop := bx_S p l e (rmD 2) S m args below meth c 4 E A (MQ below (va_Qi K (fun (u : US) t => bx_B E A (w_U E a u) t) A) args S 0 0 A) 0 0 pc lv st ws
def V_X7_mostRowKindsAlike_9  (K : Int32 → US → Prop)  : Nat → US → Int32 → Int32 → Int32 → Prop
  | 0, _, _, _, _ => False
  | n + 1, u, x1, x2, x3 => ((6 ≤ x3 → K u.2.2.2.2.2.2.2.1.2 u) ∧
 (¬ 6 ≤ x3 → (V_X7_has (fun r1 => ((r1 = 0 → V_X7_mostRowKindsAlike_9 K n u x1 x2 (x3 + 1)) ∧
 (¬ r1 = 0 → (V_X1_sight (fun r2 => (V_X5_add (fun u3 => V_X7_mostRowKindsAlike_9 K n (u.1, u.2.1, u.2.2.1, u.2.2.2.1, u.2.2.2.2.1, u.2.2.2.2.2.1, u.2.2.2.2.2.2.1, u3, u.2.2.2.2.2.2.2.2) x1 x2 (x3 + 1)) u.2.2.2.2.2.2.2.1 r2))  x3 x2))))  x1 x3)))
set_option maxRecDepth 20000 in
set_option maxHeartbeats 4000000 in
theorem t_X7_mostRowKindsAlike_9 {a : Nat → Nat} {K : Int32 → US → Prop} (C : bx_C p (rmD 2) S m args meth c cX7_mostRowKindsAlike 4 yX7_mostRowKindsAlike.cls (some .int) E A 0 0)   : ∀ (n : Nat) (u : US) (x1 : Int32) (x2 : Int32) (x3 : Int32), V_X7_mostRowKindsAlike_9 K n u x1 x2 x3 → G_X7_mostRowKindsAlike p l e S m args below meth c E A a  K 9 [(0, .ref (a 0)), (1, .int x1), (2, .int x2), (3, .int x3)] [] (w_U E a u) := by
  intro n
  induction n with
  | zero =>
    intro u x1 x2 x3 hv
    exact False.elim hv
  | succ n ih =>
    intro u x1 x2 x3 hv
    unfold V_X7_mostRowKindsAlike_9 at hv
    refine bx_iload_n C 10 dX7_mostRowKindsAlike_9 rfl rfl rfl ?_
    refine bx_bipush C 6 12 dX7_mostRowKindsAlike_10 bp_6 rfl ?_
    refine bx_icmp_ge C 41 15 dX7_mostRowKindsAlike_12 (by decide) rfl (fun h => ?_) (fun h => ?_)
    · replace hv := hv.1 h
      refine bx_aload_n C 42 dX7_mostRowKindsAlike_41 rfl rfl rfl ?_
      refine bx_getf (v := .ref (a 72)) C 45 0 6 inX7 rfl (by decide) fl_X7_44 dX7_mostRowKindsAlike_42 at_U_0 rfl rfl ?_
      refine bx_getf (v := .int u.2.2.2.2.2.2.2.1.2) C 48 72 1 inX5 rfl (by decide) fl_X7_314 dX7_mostRowKindsAlike_45 at_U_72 rfl rfl ?_
      exact bx_iret C u rfl dX7_mostRowKindsAlike_48 rfl hv
    · replace hv := hv.2 h
      refine bx_iload_n C 16 dX7_mostRowKindsAlike_15 rfl rfl rfl ?_
      refine bx_iload_n C 17 dX7_mostRowKindsAlike_16 rfl rfl rfl ?_
      refine bx_pSi C 20 fc_X7_213 (k_X7_has l E  _ _ _ hv) dX7_mostRowKindsAlike_17 ⟨rfl, rfl, Nat.le_of_ble_eq_true rfl, Nat.le_of_ble_eq_true rfl⟩ [] rfl (by decide) rfl rfl (Nat.le_of_ble_eq_true rfl) rfl (fun r1 hv => ?_)
      refine bx_if_eq C 35 23 dX7_mostRowKindsAlike_20 (by decide) rfl (fun h => ?_) (fun h => ?_)
      · replace hv := hv.1 h
        refine bx_iinc C 1 38 dX7_mostRowKindsAlike_35 rfl (by decide) ic_1 rfl ?_
        refine bx_goto C 9 dX7_mostRowKindsAlike_38 (by decide) ?_
        exact bx_cut [1, 2, 3, 0] (w_U E a u) rfl rfl (ih u x1 x2 (x3 + 1) hv)
      · replace hv := hv.2 h
        refine bx_aload_n C 24 dX7_mostRowKindsAlike_23 rfl rfl rfl ?_
        refine bx_getf (v := .ref (a 72)) C 27 0 6 inX7 rfl (by decide) fl_X7_44 dX7_mostRowKindsAlike_24 at_U_0 rfl rfl ?_
        refine bx_iload_n C 28 dX7_mostRowKindsAlike_27 rfl rfl rfl ?_
        refine bx_iload_n C 29 dX7_mostRowKindsAlike_28 rfl rfl rfl ?_
        refine bx_pSi C 32 fc_X7_320 (k_X1_sight l E  _ _ _ hv) dX7_mostRowKindsAlike_29 ⟨rfl, rfl, Nat.le_of_ble_eq_true rfl, Nat.le_of_ble_eq_true rfl⟩ [] rfl (by decide) rfl rfl (Nat.le_of_ble_eq_true rfl) rfl (fun r2 hv => ?_)
        refine bx_qVv C 72 at_U_72 rfl 35 fc_X7_312 (k_X5_add l E (fun k => a (72 + k)) _ _ _ hv) dX7_mostRowKindsAlike_32 ⟨rfl, rfl, Nat.le_of_ble_eq_true rfl, Nat.le_of_ble_eq_true rfl⟩ [72, 73] (fun u3 => w_U E a (u.1, u.2.1, u.2.2.1, u.2.2.2.1, u.2.2.2.2.1, u.2.2.2.2.2.1, u.2.2.2.2.2.2.1, u3, u.2.2.2.2.2.2.2.2)) ps_U_Y_72 (by decide) ad_Y pu_U_Y_72 rfl rfl (Nat.le_of_ble_eq_true rfl) rfl (fun u3 hv => ?_)
        refine bx_iinc C 1 38 dX7_mostRowKindsAlike_35 rfl (by decide) ic_1 rfl ?_
        refine bx_goto C 9 dX7_mostRowKindsAlike_38 (by decide) ?_
        exact bx_cut [1, 2, 3, 0] (w_U E a (u.1, u.2.1, u.2.2.1, u.2.2.2.1, u.2.2.2.2.1, u.2.2.2.2.2.1, u.2.2.2.2.2.2.1, u3, u.2.2.2.2.2.2.2.2)) rfl rfl (ih (u.1, u.2.1, u.2.2.1, u.2.2.2.1, u.2.2.2.2.1, u.2.2.2.2.2.1, u.2.2.2.2.2.2.1, u3, u.2.2.2.2.2.2.2.2) x1 x2 (x3 + 1) hv)
def V_X7_mostRowKindsAlike  (K : Int32 → US → Prop)  (u : US) (x1 : Int32) (x2 : Int32) : Prop := (V_X5_reset (fun u4 => ∃ n5, V_X7_mostRowKindsAlike_9 K n5 (u.1, u.2.1, u.2.2.1, u.2.2.2.1, u.2.2.2.2.1, u.2.2.2.2.2.1, u.2.2.2.2.2.2.1, u4, u.2.2.2.2.2.2.2.2) x1 x2 0) u.2.2.2.2.2.2.2.1 )
set_option maxRecDepth 20000 in
set_option maxHeartbeats 4000000 in
theorem t_X7_mostRowKindsAlike_0 {a : Nat → Nat} {K : Int32 → US → Prop} (C : bx_C p (rmD 2) S m args meth c cX7_mostRowKindsAlike 4 yX7_mostRowKindsAlike.cls (some .int) E A 0 0)   (u : US) (x1 : Int32) (x2 : Int32) (hv : V_X7_mostRowKindsAlike K u x1 x2) : G_X7_mostRowKindsAlike p l e S m args below meth c E A a  K 0 [(0, .ref (a 0)), (1, .int x1), (2, .int x2)] [] (w_U E a u) := by
  unfold V_X7_mostRowKindsAlike at hv
  refine bx_aload_n C 1 dX7_mostRowKindsAlike_0 rfl rfl rfl ?_
  refine bx_getf (v := .ref (a 72)) C 4 0 6 inX7 rfl (by decide) fl_X7_44 dX7_mostRowKindsAlike_1 at_U_0 rfl rfl ?_
  refine bx_qVv C 72 at_U_72 rfl 7 fc_X7_311 (k_X5_reset l E (fun k => a (72 + k)) _ _ hv) dX7_mostRowKindsAlike_4 ⟨rfl, rfl, Nat.le_of_ble_eq_true rfl, Nat.le_of_ble_eq_true rfl⟩ [72, 73] (fun u4 => w_U E a (u.1, u.2.1, u.2.2.1, u.2.2.2.1, u.2.2.2.2.1, u.2.2.2.2.2.1, u.2.2.2.2.2.2.1, u4, u.2.2.2.2.2.2.2.2)) ps_U_Y_72 (by decide) ad_Y pu_U_Y_72 rfl rfl (Nat.le_of_ble_eq_true rfl) rfl (fun u4 hv => ?_)
  refine bx_iconst C 0 8 dX7_mostRowKindsAlike_7 ic_0 rfl ?_
  refine bx_istore_n C 9 dX7_mostRowKindsAlike_8 rfl (by decide) rfl ?_
  obtain ⟨n5, hv⟩ := hv
  exact bx_cut [1, 2, 3, 0] (w_U E a (u.1, u.2.1, u.2.2.1, u.2.2.2.1, u.2.2.2.2.1, u.2.2.2.2.2.1, u.2.2.2.2.2.2.1, u4, u.2.2.2.2.2.2.2.2)) rfl rfl (t_X7_mostRowKindsAlike_9 C   n5 (u.1, u.2.1, u.2.2.1, u.2.2.2.1, u.2.2.2.2.1, u.2.2.2.2.2.1, u.2.2.2.2.2.2.1, u4, u.2.2.2.2.2.2.2.2) x1 x2 0 hv)
theorem k_X7_mostRowKindsAlike (l : Launch) (E : bx_E) (a : Nat → Nat)  (K : Int32 → US → Prop) (u : US) (x1 : Int32) (x2 : Int32) (hv : V_X7_mostRowKindsAlike  K u x1 x2) : bx_Mi l E yX7_mostRowKindsAlike cX7_mostRowKindsAlike 4 (some .int) (rmD 2) [.ref (a 0), .int x1, .int x2] (fun (u : US) => w_U E a u) u K :=
  bx_meti (by decide +kernel) (Nat.le_of_ble_eq_true rfl) (fun p e S m below meth c C => t_X7_mostRowKindsAlike_0 C u x1 x2 hv)
abbrev G_X7_look (p : Program) (l : Launch) (e : Env) (S : State) (m : MethodId) (args : Array Value) (below : List Frame) (meth : Method) (c : Code) (E : bx_E) (A : Nat → Prop) (a : Nat → Nat)  (K : Int32 → US → Prop) (pc : Nat) (lv : List (Nat × Value)) (st : List Value) (ws : va_W) : Prop := bx_S p l e (rmD 4) S m args below meth c 7 E A (MQ below (va_Qi K (fun (u : US) t => bx_B E A (w_U E a u) t) A) args S 0 0 A) 0 0 pc lv st ws
def V_X7_look_30  (K : Int32 → US → Prop)  : Nat → US → Int32 → Int32 → Int32 → Int32 → Prop
  | 0, _, _, _, _, _ => False
  | n + 1, u, x2, x3, x4, x5 => ((6 ≤ x5 → K x3 u) ∧
 (¬ 6 ≤ x5 → (V_X7_mostRowKindsAlike (fun r1 u2 => ((r1 ≤ 0 → V_X7_look_30 K n u2 x2 x3 x4 (x5 + 1)) ∧
 (¬ r1 ≤ 0 → ((x4 ≤ r1 → V_X7_look_30 K n u2 x2 x3 x4 (x5 + 1)) ∧
 (¬ x4 ≤ r1 → V_X7_look_30 K n u2 x2 x5 r1 (x5 + 1)))))) u x2 x5)))
set_option maxRecDepth 20000 in
set_option maxHeartbeats 4000000 in
theorem t_X7_look_30 {a : Nat → Nat} {K : Int32 → US → Prop} (C : bx_C p (rmD 4) S m args meth c cX7_look 7 yX7_look.cls (some .int) E A 0 0)   : ∀ (n : Nat) (u : US) (x2 : Int32) (x3 : Int32) (x4 : Int32) (x5 : Int32), V_X7_look_30 K n u x2 x3 x4 x5 → G_X7_look p l e S m args below meth c E A a  K 30 [(0, .ref (a 0)), (2, .int x2), (3, .int x3), (4, .int x4), (5, .int x5)] [] (w_U E a u) := by
  intro n
  induction n with
  | zero =>
    intro u x2 x3 x4 x5 hv
    exact False.elim hv
  | succ n ih =>
    intro u x2 x3 x4 x5 hv
    unfold V_X7_look_30 at hv
    refine bx_iload C 32 dX7_look_30 rfl rfl ?_
    refine bx_bipush C 6 34 dX7_look_32 bp_6 rfl ?_
    refine bx_icmp_ge C 71 37 dX7_look_34 (by decide) rfl (fun h => ?_) (fun h => ?_)
    · replace hv := hv.1 h
      refine bx_iload_n C 72 dX7_look_71 rfl rfl rfl ?_
      exact bx_iret C u rfl dX7_look_72 rfl hv
    · replace hv := hv.2 h
      refine bx_aload_n C 38 dX7_look_37 rfl rfl rfl ?_
      refine bx_iload_n C 39 dX7_look_38 rfl rfl rfl ?_
      refine bx_iload C 41 dX7_look_39 rfl rfl ?_
      refine bx_qVi C 0 at_U_0 rfl 44 fc_X7_230 (k_X7_mostRowKindsAlike l E a _ _ _ _ hv) dX7_look_41 ⟨rfl, rfl, Nat.le_of_ble_eq_true rfl, Nat.le_of_ble_eq_true rfl⟩ [0, 1, 2, 3, 4, 5, 6, 7, 8, 9, 10, 11, 12, 13, 14, 15, 16, 17, 18, 19, 20, 21, 22, 23, 24, 25, 26, 27, 28, 29, 30, 31, 32, 33, 34, 35, 36, 37, 38, 39, 40, 41, 42, 43, 44, 45, 46, 47, 48, 49, 50, 51, 52, 53, 54, 55, 56, 57, 58, 59, 60, 61, 62, 63, 64, 65, 66, 67, 68, 69, 70, 71, 72, 73] (fun u2 => w_U E a u2) ps_U_U_0 (by decide) ad_U pu_U_U_0 rfl rfl (Nat.le_of_ble_eq_true rfl) rfl (fun r1 u2 hv => ?_)
      refine bx_istore C 46 dX7_look_44 (by decide) rfl ?_
      refine bx_iload C 48 dX7_look_46 rfl rfl ?_
      refine bx_if_le C 65 51 dX7_look_48 (by decide) rfl (fun h => ?_) (fun h => ?_)
      · replace hv := hv.1 h
        refine bx_iinc C 1 68 dX7_look_65 rfl (by decide) ic_1 rfl ?_
        refine bx_goto C 30 dX7_look_68 (by decide) ?_
        exact bx_cut [2, 3, 4, 5, 0] (w_U E a u2) rfl rfl (ih u2 x2 x3 x4 (x5 + 1) hv)
      · replace hv := hv.2 h
        refine bx_iload C 53 dX7_look_51 rfl rfl ?_
        refine bx_iload C 55 dX7_look_53 rfl rfl ?_
        refine bx_icmp_ge C 65 58 dX7_look_55 (by decide) rfl (fun h => ?_) (fun h => ?_)
        · replace hv := hv.1 h
          refine bx_iinc C 1 68 dX7_look_65 rfl (by decide) ic_1 rfl ?_
          refine bx_goto C 30 dX7_look_68 (by decide) ?_
          exact bx_cut [2, 3, 4, 5, 0] (w_U E a u2) rfl rfl (ih u2 x2 x3 x4 (x5 + 1) hv)
        · replace hv := hv.2 h
          refine bx_iload C 60 dX7_look_58 rfl rfl ?_
          refine bx_istore C 62 dX7_look_60 (by decide) rfl ?_
          refine bx_iload C 64 dX7_look_62 rfl rfl ?_
          refine bx_istore_n C 65 dX7_look_64 rfl (by decide) rfl ?_
          refine bx_iinc C 1 68 dX7_look_65 rfl (by decide) ic_1 rfl ?_
          refine bx_goto C 30 dX7_look_68 (by decide) ?_
          exact bx_cut [4, 5, 1, 2, 0] (w_U E a u2) rfl rfl (ih u2 x2 x5 r1 (x5 + 1) hv)
def V_X7_look  (K : Int32 → US → Prop)  (u : US) (x1 : Int32) : Prop := (V_X7_within (fun r3 => ((¬ r3 = 0 → (V_X7_rowKindsThatFit (fun r4 => ∃ n5, V_X7_look_30 K n5 u r4 (-1) 7 0) u x1)) ∧
 (r3 = 0 → (V_X7_refuseBad (fun r6 u7 => K r6 u7) u (-2)))))  x1 5)
set_option maxRecDepth 20000 in
set_option maxHeartbeats 4000000 in
theorem t_X7_look_0 {a : Nat → Nat} {K : Int32 → US → Prop} (C : bx_C p (rmD 4) S m args meth c cX7_look 7 yX7_look.cls (some .int) E A 0 0)   (u : US) (x1 : Int32) (hv : V_X7_look K u x1) : G_X7_look p l e S m args below meth c E A a  K 0 [(0, .ref (a 0)), (1, .int x1)] [] (w_U E a u) := by
  unfold V_X7_look at hv
  refine bx_iload_n C 1 dX7_look_0 rfl rfl rfl ?_
  refine bx_iconst C 5 2 dX7_look_1 ic_5 rfl ?_
  refine bx_pSi C 5 fc_X7_59 (k_X7_within l E  _ _ _ hv) dX7_look_2 ⟨rfl, rfl, Nat.le_of_ble_eq_true rfl, Nat.le_of_ble_eq_true rfl⟩ [] rfl (by decide) rfl rfl (Nat.le_of_ble_eq_true rfl) rfl (fun r3 hv => ?_)
  refine bx_if_ne C 15 8 dX7_look_5 (by decide) rfl (fun h => ?_) (fun h => ?_)
  · replace hv := hv.1 h
    refine bx_aload_n C 16 dX7_look_15 rfl rfl rfl ?_
    refine bx_iload_n C 17 dX7_look_16 rfl rfl rfl ?_
    refine bx_pVi C 0 at_U_0 rfl 20 fc_X7_227 (k_X7_rowKindsThatFit l E a _ _ _ hv) dX7_look_17 ⟨rfl, rfl, Nat.le_of_ble_eq_true rfl, Nat.le_of_ble_eq_true rfl⟩ [0, 1, 2, 3, 4, 5, 6, 7, 8, 9, 10, 11, 12, 13, 14, 15, 16, 17, 18, 19, 20, 21, 22, 23, 24, 25, 26, 27, 28, 29, 30, 31, 32, 33, 34, 35, 36, 37, 38, 39, 40, 41, 42, 43, 44, 45, 46, 47, 48, 49, 50, 51, 52, 53, 54, 55, 56, 57, 58, 59, 60, 61, 62, 63, 64, 65, 66, 67, 68, 69, 70, 71, 72, 73] ps_U_U_0 (by decide) rfl rfl (Nat.le_of_ble_eq_true rfl) rfl (fun r4 hv => ?_)
    refine bx_istore_n C 21 dX7_look_20 rfl (by decide) rfl ?_
    refine bx_iconst C (-1) 22 dX7_look_21 ic_m1 rfl ?_
    refine bx_istore_n C 23 dX7_look_22 rfl (by decide) rfl ?_
    refine bx_bipush C 7 25 dX7_look_23 bp_7 rfl ?_
    refine bx_istore C 27 dX7_look_25 (by decide) rfl ?_
    refine bx_iconst C 0 28 dX7_look_27 ic_0 rfl ?_
    refine bx_istore C 30 dX7_look_28 (by decide) rfl ?_
    obtain ⟨n5, hv⟩ := hv
    exact bx_cut [4, 3, 2, 1, 0] (w_U E a u) rfl rfl (t_X7_look_30 C   n5 u r4 (-1) 7 0 hv)
  · replace hv := hv.2 h
    refine bx_aload_n C 9 dX7_look_8 rfl rfl rfl ?_
    refine bx_bipush C (-2) 11 dX7_look_9 bp_m2 rfl ?_
    refine bx_qVi C 0 at_U_0 rfl 14 fc_X7_63 (k_X7_refuseBad l E a _ _ _ hv) dX7_look_11 ⟨rfl, rfl, Nat.le_of_ble_eq_true rfl, Nat.le_of_ble_eq_true rfl⟩ [0, 1, 2, 3, 4, 5, 6, 7, 8, 9, 10, 11, 12, 13, 14, 15, 16, 17, 18, 19, 20, 21, 22, 23, 24, 25, 26, 27, 28, 29, 30, 31, 32, 33, 34, 35, 36, 37, 38, 39, 40, 41, 42, 43, 44, 45, 46, 47, 48, 49, 50, 51, 52, 53, 54, 55, 56, 57, 58, 59, 60, 61, 62, 63, 64, 65, 66, 67, 68, 69, 70, 71, 72, 73] (fun u7 => w_U E a u7) ps_U_U_0 (by decide) ad_U pu_U_U_0 rfl rfl (Nat.le_of_ble_eq_true rfl) rfl (fun r6 u7 hv => ?_)
    exact bx_iret C u7 rfl dX7_look_14 rfl hv
theorem k_X7_look (l : Launch) (E : bx_E) (a : Nat → Nat)  (K : Int32 → US → Prop) (u : US) (x1 : Int32) (hv : V_X7_look  K u x1) : bx_Mi l E yX7_look cX7_look 7 (some .int) (rmD 4) [.ref (a 0), .int x1] (fun (u : US) => w_U E a u) u K :=
  bx_meti (by decide +kernel) (Nat.le_of_ble_eq_true rfl) (fun p e S m below meth c C => t_X7_look_0 C u x1 hv)
abbrev G_X7_fitsMarks (p : Program) (l : Launch) (e : Env) (S : State) (m : MethodId) (args : Array Value) (below : List Frame) (meth : Method) (c : Code) (E : bx_E) (A : Nat → Prop) (a : Nat → Nat)  (u : US) (K : Int32 → Prop) (pc : Nat) (lv : List (Nat × Value)) (st : List Value) (ws : va_W) : Prop := bx_S p l e (rmD 2) S m args below meth c 4 E A (MQ below (va_Qi (fun r (_ : Unit) => K r) (fun (_ : Unit) t => bx_B E A (w_U E a u) t) A) args S 0 0 A) 0 0 pc lv st ws
def V_X7_fitsMarks_2  (K : Int32 → Prop)  : Nat → US → Int32 → Int32 → Int32 → Prop
  | 0, _, _, _, _ => False
  | n + 1, u, x1, x2, x3 => ((u.1.2.2.2.2.2.2.2.2.2.2.1.2 ≤ x3 → K 1) ∧
 (¬ u.1.2.2.2.2.2.2.2.2.2.2.1.2 ≤ x3 → (V_X4_at 6 4 24 (fun r1 => ((¬ r1 = x1 → V_X7_fitsMarks_2 K n u x1 x2 (x3 + 1)) ∧
 (r1 = x1 → (V_X4_at 6 4 24 (fun r2 => (V_X4_at 6 4 24 (fun r3 => (V_X1_fuss (fun r4 => (V_X4_at 6 4 24 (fun r5 => ((r4 = r5 → V_X7_fitsMarks_2 K n u x1 x2 (x3 + 1)) ∧
 (¬ r4 = r5 → K 0))) u.1.2.2.2.2.2.2.2.2.2.2.1 x3 3))  x2 r2 r3)) u.1.2.2.2.2.2.2.2.2.2.2.1 x3 2)) u.1.2.2.2.2.2.2.2.2.2.2.1 x3 1)))) u.1.2.2.2.2.2.2.2.2.2.2.1 x3 0)))
set_option maxRecDepth 20000 in
set_option maxHeartbeats 4000000 in
theorem t_X7_fitsMarks_2 {a : Nat → Nat} {K : Int32 → Prop} (C : bx_C p (rmD 2) S m args meth c cX7_fitsMarks 4 yX7_fitsMarks.cls (some .boolean) E A 0 0) (u : US)  : ∀ (n : Nat)  (x1 : Int32) (x2 : Int32) (x3 : Int32), V_X7_fitsMarks_2 K n u x1 x2 x3 → G_X7_fitsMarks p l e S m args below meth c E A a  u K 2 [(0, .ref (a 0)), (1, .int x1), (2, .int x2), (3, .int x3)] [] (w_U E a u) := by
  intro n
  induction n with
  | zero =>
    intro x1 x2 x3 hv
    exact False.elim hv
  | succ n ih =>
    intro x1 x2 x3 hv
    unfold V_X7_fitsMarks_2 at hv
    refine bx_iload_n C 3 dX7_fitsMarks_2 rfl rfl rfl ?_
    refine bx_aload_n C 4 dX7_fitsMarks_3 rfl rfl rfl ?_
    refine bx_getf (v := .ref (a 1)) C 7 0 0 inX7 rfl (by decide) fl_X7_10 dX7_fitsMarks_4 at_U_0 rfl rfl ?_
    refine bx_getf (v := .ref (a 10)) C 10 1 10 inX0 rfl (by decide) fl_X7_222 dX7_fitsMarks_7 at_U_1 rfl rfl ?_
    refine bx_getf (v := .int u.1.2.2.2.2.2.2.2.2.2.2.1.2) C 13 10 3 inX4 rfl (by decide) fl_X7_148 dX7_fitsMarks_10 at_U_10 rfl rfl ?_
    refine bx_icmp_ge C 83 16 dX7_fitsMarks_13 (by decide) rfl (fun h => ?_) (fun h => ?_)
    · replace hv := hv.1 h
      refine bx_iconst C 1 84 dX7_fitsMarks_83 ic_1 rfl ?_
      exact bx_zret C () rfl dX7_fitsMarks_84 rfl (Or.inr rfl) hv
    · replace hv := hv.2 h
      refine bx_aload_n C 17 dX7_fitsMarks_16 rfl rfl rfl ?_
      refine bx_getf (v := .ref (a 1)) C 20 0 0 inX7 rfl (by decide) fl_X7_10 dX7_fitsMarks_17 at_U_0 rfl rfl ?_
      refine bx_getf (v := .ref (a 10)) C 23 1 10 inX0 rfl (by decide) fl_X7_222 dX7_fitsMarks_20 at_U_1 rfl rfl ?_
      refine bx_iload_n C 24 dX7_fitsMarks_23 rfl rfl rfl ?_
      refine bx_iconst C 0 25 dX7_fitsMarks_24 ic_0 rfl ?_
      refine bx_pVi C 10 at_U_10 rfl 28 fc_X7_308 (k_X4_at l E (fun k => a (10 + k)) 6 4 24 _ _ _ _ hv) dX7_fitsMarks_25 ⟨rfl, rfl, Nat.le_of_ble_eq_true rfl, Nat.le_of_ble_eq_true rfl⟩ [10, 11] ps_U_T_10 (by decide) rfl rfl (Nat.le_of_ble_eq_true rfl) rfl (fun r1 hv => ?_)
      refine bx_iload_n C 29 dX7_fitsMarks_28 rfl rfl rfl ?_
      refine bx_icmp_ne C 77 32 dX7_fitsMarks_29 (by decide) rfl (fun h => ?_) (fun h => ?_)
      · replace hv := hv.1 h
        refine bx_iinc C 1 80 dX7_fitsMarks_77 rfl (by decide) ic_1 rfl ?_
        refine bx_goto C 2 dX7_fitsMarks_80 (by decide) ?_
        exact bx_cut [1, 2, 3, 0] (w_U E a u) rfl rfl (ih  x1 x2 (x3 + 1) hv)
      · replace hv := hv.2 h
        refine bx_iload_n C 33 dX7_fitsMarks_32 rfl rfl rfl ?_
        refine bx_aload_n C 34 dX7_fitsMarks_33 rfl rfl rfl ?_
        refine bx_getf (v := .ref (a 1)) C 37 0 0 inX7 rfl (by decide) fl_X7_10 dX7_fitsMarks_34 at_U_0 rfl rfl ?_
        refine bx_getf (v := .ref (a 10)) C 40 1 10 inX0 rfl (by decide) fl_X7_222 dX7_fitsMarks_37 at_U_1 rfl rfl ?_
        refine bx_iload_n C 41 dX7_fitsMarks_40 rfl rfl rfl ?_
        refine bx_iconst C 1 42 dX7_fitsMarks_41 ic_1 rfl ?_
        refine bx_pVi C 10 at_U_10 rfl 45 fc_X7_308 (k_X4_at l E (fun k => a (10 + k)) 6 4 24 _ _ _ _ hv) dX7_fitsMarks_42 ⟨rfl, rfl, Nat.le_of_ble_eq_true rfl, Nat.le_of_ble_eq_true rfl⟩ [10, 11] ps_U_T_10 (by decide) rfl rfl (Nat.le_of_ble_eq_true rfl) rfl (fun r2 hv => ?_)
        refine bx_aload_n C 46 dX7_fitsMarks_45 rfl rfl rfl ?_
        refine bx_getf (v := .ref (a 1)) C 49 0 0 inX7 rfl (by decide) fl_X7_10 dX7_fitsMarks_46 at_U_0 rfl rfl ?_
        refine bx_getf (v := .ref (a 10)) C 52 1 10 inX0 rfl (by decide) fl_X7_222 dX7_fitsMarks_49 at_U_1 rfl rfl ?_
        refine bx_iload_n C 53 dX7_fitsMarks_52 rfl rfl rfl ?_
        refine bx_iconst C 2 54 dX7_fitsMarks_53 ic_2 rfl ?_
        refine bx_pVi C 10 at_U_10 rfl 57 fc_X7_308 (k_X4_at l E (fun k => a (10 + k)) 6 4 24 _ _ _ _ hv) dX7_fitsMarks_54 ⟨rfl, rfl, Nat.le_of_ble_eq_true rfl, Nat.le_of_ble_eq_true rfl⟩ [10, 11] ps_U_T_10 (by decide) rfl rfl (Nat.le_of_ble_eq_true rfl) rfl (fun r3 hv => ?_)
        refine bx_pSi C 60 fc_X7_301 (k_X1_fuss l E  _ _ _ _ hv) dX7_fitsMarks_57 ⟨rfl, rfl, Nat.le_of_ble_eq_true rfl, Nat.le_of_ble_eq_true rfl⟩ [] rfl (by decide) rfl rfl (Nat.le_of_ble_eq_true rfl) rfl (fun r4 hv => ?_)
        refine bx_aload_n C 61 dX7_fitsMarks_60 rfl rfl rfl ?_
        refine bx_getf (v := .ref (a 1)) C 64 0 0 inX7 rfl (by decide) fl_X7_10 dX7_fitsMarks_61 at_U_0 rfl rfl ?_
        refine bx_getf (v := .ref (a 10)) C 67 1 10 inX0 rfl (by decide) fl_X7_222 dX7_fitsMarks_64 at_U_1 rfl rfl ?_
        refine bx_iload_n C 68 dX7_fitsMarks_67 rfl rfl rfl ?_
        refine bx_iconst C 3 69 dX7_fitsMarks_68 ic_3 rfl ?_
        refine bx_pVi C 10 at_U_10 rfl 72 fc_X7_308 (k_X4_at l E (fun k => a (10 + k)) 6 4 24 _ _ _ _ hv) dX7_fitsMarks_69 ⟨rfl, rfl, Nat.le_of_ble_eq_true rfl, Nat.le_of_ble_eq_true rfl⟩ [10, 11] ps_U_T_10 (by decide) rfl rfl (Nat.le_of_ble_eq_true rfl) rfl (fun r5 hv => ?_)
        refine bx_icmp_eq C 77 75 dX7_fitsMarks_72 (by decide) rfl (fun h => ?_) (fun h => ?_)
        · replace hv := hv.1 h
          refine bx_iinc C 1 80 dX7_fitsMarks_77 rfl (by decide) ic_1 rfl ?_
          refine bx_goto C 2 dX7_fitsMarks_80 (by decide) ?_
          exact bx_cut [1, 2, 3, 0] (w_U E a u) rfl rfl (ih  x1 x2 (x3 + 1) hv)
        · replace hv := hv.2 h
          refine bx_iconst C 0 76 dX7_fitsMarks_75 ic_0 rfl ?_
          exact bx_zret C () rfl dX7_fitsMarks_76 rfl (Or.inl rfl) hv
def V_X7_fitsMarks  (K : Int32 → Prop)  (u : US) (x1 : Int32) (x2 : Int32) : Prop := ∃ n6, V_X7_fitsMarks_2 K n6 u x1 x2 0
set_option maxRecDepth 20000 in
set_option maxHeartbeats 4000000 in
theorem t_X7_fitsMarks_0 {a : Nat → Nat} {K : Int32 → Prop} (C : bx_C p (rmD 2) S m args meth c cX7_fitsMarks 4 yX7_fitsMarks.cls (some .boolean) E A 0 0) (u : US)   (x1 : Int32) (x2 : Int32) (hv : V_X7_fitsMarks K u x1 x2) : G_X7_fitsMarks p l e S m args below meth c E A a  u K 0 [(0, .ref (a 0)), (1, .int x1), (2, .int x2)] [] (w_U E a u) := by
  unfold V_X7_fitsMarks at hv
  refine bx_iconst C 0 1 dX7_fitsMarks_0 ic_0 rfl ?_
  refine bx_istore_n C 2 dX7_fitsMarks_1 rfl (by decide) rfl ?_
  obtain ⟨n6, hv⟩ := hv
  exact bx_cut [1, 2, 3, 0] (w_U E a u) rfl rfl (t_X7_fitsMarks_2 C u  n6  x1 x2 0 hv)
theorem k_X7_fitsMarks (l : Launch) (E : bx_E) (a : Nat → Nat)  (K : Int32 → Prop) (u : US) (x1 : Int32) (x2 : Int32) (hv : V_X7_fitsMarks  K u x1 x2) : bx_Mi l E yX7_fitsMarks cX7_fitsMarks 4 (some .boolean) (rmD 2) [.ref (a 0), .int x1, .int x2] (fun (_ : Unit) => w_U E a u) () (fun r (_ : Unit) => K r) :=
  bx_meti (by decide +kernel) (Nat.le_of_ble_eq_true rfl) (fun p e S m below meth c C => t_X7_fitsMarks_0 C u x1 x2 hv)
abbrev G_X7_soulKindsThatFit (p : Program) (l : Launch) (e : Env) (S : State) (m : MethodId) (args : Array Value) (below : List Frame) (meth : Method) (c : Code) (E : bx_E) (A : Nat → Prop) (a : Nat → Nat)  (u : US) (K : Int32 → Prop) (pc : Nat) (lv : List (Nat × Value)) (st : List Value) (ws : va_W) : Prop := bx_S p l e (rmD 3) S m args below meth c 4 E A (MQ below (va_Qi (fun r (_ : Unit) => K r) (fun (_ : Unit) t => bx_B E A (w_U E a u) t) A) args S 0 0 A) 0 0 pc lv st ws
def V_X7_soulKindsThatFit_4  (K : Int32 → Prop)  : Nat → US → Int32 → Int32 → Int32 → Prop
  | 0, _, _, _, _ => False
  | n + 1, u, x1, x2, x3 => ((6 ≤ x3 → K x2) ∧
 (¬ 6 ≤ x3 → (V_X7_fitsMarks (fun r1 => ((r1 = 0 → V_X7_soulKindsThatFit_4 K n u x1 x2 (x3 + 1)) ∧
 (¬ r1 = 0 → V_X7_soulKindsThatFit_4 K n u x1 (x2 ||| (1 <<< (x3 &&& 31))) (x3 + 1)))) u x1 x3)))
set_option maxRecDepth 20000 in
set_option maxHeartbeats 4000000 in
theorem t_X7_soulKindsThatFit_4 {a : Nat → Nat} {K : Int32 → Prop} (C : bx_C p (rmD 3) S m args meth c cX7_soulKindsThatFit 4 yX7_soulKindsThatFit.cls (some .int) E A 0 0) (u : US)  : ∀ (n : Nat)  (x1 : Int32) (x2 : Int32) (x3 : Int32), V_X7_soulKindsThatFit_4 K n u x1 x2 x3 → G_X7_soulKindsThatFit p l e S m args below meth c E A a  u K 4 [(0, .ref (a 0)), (1, .int x1), (2, .int x2), (3, .int x3)] [] (w_U E a u) := by
  intro n
  induction n with
  | zero =>
    intro x1 x2 x3 hv
    exact False.elim hv
  | succ n ih =>
    intro x1 x2 x3 hv
    unfold V_X7_soulKindsThatFit_4 at hv
    refine bx_iload_n C 5 dX7_soulKindsThatFit_4 rfl rfl rfl ?_
    refine bx_bipush C 6 7 dX7_soulKindsThatFit_5 bp_6 rfl ?_
    refine bx_icmp_ge C 31 10 dX7_soulKindsThatFit_7 (by decide) rfl (fun h => ?_) (fun h => ?_)
    · replace hv := hv.1 h
      refine bx_iload_n C 32 dX7_soulKindsThatFit_31 rfl rfl rfl ?_
      exact bx_iret C () rfl dX7_soulKindsThatFit_32 rfl hv
    · replace hv := hv.2 h
      refine bx_aload_n C 11 dX7_soulKindsThatFit_10 rfl rfl rfl ?_
      refine bx_iload_n C 12 dX7_soulKindsThatFit_11 rfl rfl rfl ?_
      refine bx_iload_n C 13 dX7_soulKindsThatFit_12 rfl rfl rfl ?_
      refine bx_pVi C 0 at_U_0 rfl 16 fc_X7_323 (k_X7_fitsMarks l E a _ _ _ _ hv) dX7_soulKindsThatFit_13 ⟨rfl, rfl, Nat.le_of_ble_eq_true rfl, Nat.le_of_ble_eq_true rfl⟩ [0, 1, 2, 3, 4, 5, 6, 7, 8, 9, 10, 11, 12, 13, 14, 15, 16, 17, 18, 19, 20, 21, 22, 23, 24, 25, 26, 27, 28, 29, 30, 31, 32, 33, 34, 35, 36, 37, 38, 39, 40, 41, 42, 43, 44, 45, 46, 47, 48, 49, 50, 51, 52, 53, 54, 55, 56, 57, 58, 59, 60, 61, 62, 63, 64, 65, 66, 67, 68, 69, 70, 71, 72, 73] ps_U_U_0 (by decide) rfl rfl (Nat.le_of_ble_eq_true rfl) rfl (fun r1 hv => ?_)
      refine bx_if_eq C 25 19 dX7_soulKindsThatFit_16 (by decide) rfl (fun h => ?_) (fun h => ?_)
      · replace hv := hv.1 h
        refine bx_iinc C 1 28 dX7_soulKindsThatFit_25 rfl (by decide) ic_1 rfl ?_
        refine bx_goto C 4 dX7_soulKindsThatFit_28 (by decide) ?_
        exact bx_cut [1, 2, 3, 0] (w_U E a u) rfl rfl (ih  x1 x2 (x3 + 1) hv)
      · replace hv := hv.2 h
        refine bx_iload_n C 20 dX7_soulKindsThatFit_19 rfl rfl rfl ?_
        refine bx_iconst C 1 21 dX7_soulKindsThatFit_20 ic_1 rfl ?_
        refine bx_iload_n C 22 dX7_soulKindsThatFit_21 rfl rfl rfl ?_
        refine bx_ishl C 23 dX7_soulKindsThatFit_22 rfl ?_
        refine bx_ior C 24 dX7_soulKindsThatFit_23 rfl ?_
        refine bx_istore_n C 25 dX7_soulKindsThatFit_24 rfl (by decide) rfl ?_
        refine bx_iinc C 1 28 dX7_soulKindsThatFit_25 rfl (by decide) ic_1 rfl ?_
        refine bx_goto C 4 dX7_soulKindsThatFit_28 (by decide) ?_
        exact bx_cut [2, 3, 1, 0] (w_U E a u) rfl rfl (ih  x1 (x2 ||| (1 <<< (x3 &&& 31))) (x3 + 1) hv)
def V_X7_soulKindsThatFit  (K : Int32 → Prop)  (u : US) (x1 : Int32) : Prop := ∃ n2, V_X7_soulKindsThatFit_4 K n2 u x1 0 0
set_option maxRecDepth 20000 in
set_option maxHeartbeats 4000000 in
theorem t_X7_soulKindsThatFit_0 {a : Nat → Nat} {K : Int32 → Prop} (C : bx_C p (rmD 3) S m args meth c cX7_soulKindsThatFit 4 yX7_soulKindsThatFit.cls (some .int) E A 0 0) (u : US)   (x1 : Int32) (hv : V_X7_soulKindsThatFit K u x1) : G_X7_soulKindsThatFit p l e S m args below meth c E A a  u K 0 [(0, .ref (a 0)), (1, .int x1)] [] (w_U E a u) := by
  unfold V_X7_soulKindsThatFit at hv
  refine bx_iconst C 0 1 dX7_soulKindsThatFit_0 ic_0 rfl ?_
  refine bx_istore_n C 2 dX7_soulKindsThatFit_1 rfl (by decide) rfl ?_
  refine bx_iconst C 0 3 dX7_soulKindsThatFit_2 ic_0 rfl ?_
  refine bx_istore_n C 4 dX7_soulKindsThatFit_3 rfl (by decide) rfl ?_
  obtain ⟨n2, hv⟩ := hv
  exact bx_cut [2, 3, 1, 0] (w_U E a u) rfl rfl (t_X7_soulKindsThatFit_4 C u  n2  x1 0 0 hv)
theorem k_X7_soulKindsThatFit (l : Launch) (E : bx_E) (a : Nat → Nat)  (K : Int32 → Prop) (u : US) (x1 : Int32) (hv : V_X7_soulKindsThatFit  K u x1) : bx_Mi l E yX7_soulKindsThatFit cX7_soulKindsThatFit 4 (some .int) (rmD 3) [.ref (a 0), .int x1] (fun (_ : Unit) => w_U E a u) () (fun r (_ : Unit) => K r) :=
  bx_meti (by decide +kernel) (Nat.le_of_ble_eq_true rfl) (fun p e S m below meth c C => t_X7_soulKindsThatFit_0 C u x1 hv)
abbrev G_X7_kinds (p : Program) (l : Launch) (e : Env) (S : State) (m : MethodId) (args : Array Value) (below : List Frame) (meth : Method) (c : Code) (E : bx_E) (A : Nat → Prop) (a : Nat → Nat)  (K : Int32 → US → Prop) (pc : Nat) (lv : List (Nat × Value)) (st : List Value) (ws : va_W) : Prop := bx_S p l e (rmD 4) S m args below meth c 2 E A (MQ below (va_Qi K (fun (u : US) t => bx_B E A (w_U E a u) t) A) args S 0 0 A) 0 0 pc lv st ws
def V_X7_kinds  (K : Int32 → US → Prop)  (u : US) (x1 : Int32) : Prop := (V_X0_isSoul (fun r1 => ((r1 = 0 → (V_X7_refuseBad (fun r2 u3 => K r2 u3) u (-2))) ∧
 (¬ r1 = 0 → (V_X7_soulKindsThatFit (fun r4 => K r4 u) u x1)))) u.1 x1)
set_option maxRecDepth 20000 in
set_option maxHeartbeats 4000000 in
theorem t_X7_kinds_0 {a : Nat → Nat} {K : Int32 → US → Prop} (C : bx_C p (rmD 4) S m args meth c cX7_kinds 2 yX7_kinds.cls (some .int) E A 0 0)   (u : US) (x1 : Int32) (hv : V_X7_kinds K u x1) : G_X7_kinds p l e S m args below meth c E A a  K 0 [(0, .ref (a 0)), (1, .int x1)] [] (w_U E a u) := by
  unfold V_X7_kinds at hv
  refine bx_aload_n C 1 dX7_kinds_0 rfl rfl rfl ?_
  refine bx_getf (v := .ref (a 1)) C 4 0 0 inX7 rfl (by decide) fl_X7_10 dX7_kinds_1 at_U_0 rfl rfl ?_
  refine bx_iload_n C 5 dX7_kinds_4 rfl rfl rfl ?_
  refine bx_pVi C 1 at_U_1 rfl 8 fc_X7_106 (k_X0_isSoul l E (fun k => a (1 + k)) _ _ _ hv) dX7_kinds_5 ⟨rfl, rfl, Nat.le_of_ble_eq_true rfl, Nat.le_of_ble_eq_true rfl⟩ [1, 2, 3, 4, 5, 6, 7, 8, 9, 10, 11, 12, 13] ps_U_H_1 (by decide) rfl rfl (Nat.le_of_ble_eq_true rfl) rfl (fun r1 hv => ?_)
  refine bx_if_eq C 19 11 dX7_kinds_8 (by decide) rfl (fun h => ?_) (fun h => ?_)
  · replace hv := hv.1 h
    refine bx_aload_n C 20 dX7_kinds_19 rfl rfl rfl ?_
    refine bx_bipush C (-2) 22 dX7_kinds_20 bp_m2 rfl ?_
    refine bx_qVi C 0 at_U_0 rfl 25 fc_X7_63 (k_X7_refuseBad l E a _ _ _ hv) dX7_kinds_22 ⟨rfl, rfl, Nat.le_of_ble_eq_true rfl, Nat.le_of_ble_eq_true rfl⟩ [0, 1, 2, 3, 4, 5, 6, 7, 8, 9, 10, 11, 12, 13, 14, 15, 16, 17, 18, 19, 20, 21, 22, 23, 24, 25, 26, 27, 28, 29, 30, 31, 32, 33, 34, 35, 36, 37, 38, 39, 40, 41, 42, 43, 44, 45, 46, 47, 48, 49, 50, 51, 52, 53, 54, 55, 56, 57, 58, 59, 60, 61, 62, 63, 64, 65, 66, 67, 68, 69, 70, 71, 72, 73] (fun u3 => w_U E a u3) ps_U_U_0 (by decide) ad_U pu_U_U_0 rfl rfl (Nat.le_of_ble_eq_true rfl) rfl (fun r2 u3 hv => ?_)
    exact bx_iret C u3 rfl dX7_kinds_25 rfl hv
  · replace hv := hv.2 h
    refine bx_aload_n C 12 dX7_kinds_11 rfl rfl rfl ?_
    refine bx_iload_n C 13 dX7_kinds_12 rfl rfl rfl ?_
    refine bx_pVi C 0 at_U_0 rfl 16 fc_X7_233 (k_X7_soulKindsThatFit l E a _ _ _ hv) dX7_kinds_13 ⟨rfl, rfl, Nat.le_of_ble_eq_true rfl, Nat.le_of_ble_eq_true rfl⟩ [0, 1, 2, 3, 4, 5, 6, 7, 8, 9, 10, 11, 12, 13, 14, 15, 16, 17, 18, 19, 20, 21, 22, 23, 24, 25, 26, 27, 28, 29, 30, 31, 32, 33, 34, 35, 36, 37, 38, 39, 40, 41, 42, 43, 44, 45, 46, 47, 48, 49, 50, 51, 52, 53, 54, 55, 56, 57, 58, 59, 60, 61, 62, 63, 64, 65, 66, 67, 68, 69, 70, 71, 72, 73] ps_U_U_0 (by decide) rfl rfl (Nat.le_of_ble_eq_true rfl) rfl (fun r4 hv => ?_)
    refine bx_goto C 25 dX7_kinds_16 (by decide) ?_
    exact bx_iret C u rfl dX7_kinds_25 rfl hv
theorem k_X7_kinds (l : Launch) (E : bx_E) (a : Nat → Nat)  (K : Int32 → US → Prop) (u : US) (x1 : Int32) (hv : V_X7_kinds  K u x1) : bx_Mi l E yX7_kinds cX7_kinds 2 (some .int) (rmD 4) [.ref (a 0), .int x1] (fun (u : US) => w_U E a u) u K :=
  bx_meti (by decide +kernel) (Nat.le_of_ble_eq_true rfl) (fun p e S m below meth c C => t_X7_kinds_0 C u x1 hv)
abbrev G_X7_mostSoulKindsAlike (p : Program) (l : Launch) (e : Env) (S : State) (m : MethodId) (args : Array Value) (below : List Frame) (meth : Method) (c : Code) (E : bx_E) (A : Nat → Prop) (a : Nat → Nat)  (K : Int32 → US → Prop) (pc : Nat) (lv : List (Nat × Value)) (st : List Value) (ws : va_W) : Prop := bx_S p l e (rmD 2) S m args below meth c 5 E A (MQ below (va_Qi K (fun (u : US) t => bx_B E A (w_U E a u) t) A) args S 0 0 A) 0 0 pc lv st ws
def V_X7_mostSoulKindsAlike_10  (K : Int32 → US → Prop)  : Nat → US → Int32 → Int32 → Int32 → Int32 → Prop
  | 0, _, _, _, _, _ => False
  | n + 1, u, x1, x2, x3, x4 => ((6 ≤ x4 → K u.2.2.2.2.2.2.2.1.2 u) ∧
 (¬ 6 ≤ x4 → (V_X7_has (fun r1 => ((r1 = 0 → V_X7_mostSoulKindsAlike_10 K n u x1 x2 x3 (x4 + 1)) ∧
 (¬ r1 = 0 → (V_X1_fuss (fun r2 => (V_X5_add (fun u3 => V_X7_mostSoulKindsAlike_10 K n (u.1, u.2.1, u.2.2.1, u.2.2.2.1, u.2.2.2.2.1, u.2.2.2.2.2.1, u.2.2.2.2.2.2.1, u3, u.2.2.2.2.2.2.2.2) x1 x2 x3 (x4 + 1)) u.2.2.2.2.2.2.2.1 r2))  x4 x2 x3))))  x1 x4)))
set_option maxRecDepth 20000 in
set_option maxHeartbeats 4000000 in
theorem t_X7_mostSoulKindsAlike_10 {a : Nat → Nat} {K : Int32 → US → Prop} (C : bx_C p (rmD 2) S m args meth c cX7_mostSoulKindsAlike 5 yX7_mostSoulKindsAlike.cls (some .int) E A 0 0)   : ∀ (n : Nat) (u : US) (x1 : Int32) (x2 : Int32) (x3 : Int32) (x4 : Int32), V_X7_mostSoulKindsAlike_10 K n u x1 x2 x3 x4 → G_X7_mostSoulKindsAlike p l e S m args below meth c E A a  K 10 [(0, .ref (a 0)), (1, .int x1), (2, .int x2), (3, .int x3), (4, .int x4)] [] (w_U E a u) := by
  intro n
  induction n with
  | zero =>
    intro u x1 x2 x3 x4 hv
    exact False.elim hv
  | succ n ih =>
    intro u x1 x2 x3 x4 hv
    unfold V_X7_mostSoulKindsAlike_10 at hv
    refine bx_iload C 12 dX7_mostSoulKindsAlike_10 rfl rfl ?_
    refine bx_bipush C 6 14 dX7_mostSoulKindsAlike_12 bp_6 rfl ?_
    refine bx_icmp_ge C 46 17 dX7_mostSoulKindsAlike_14 (by decide) rfl (fun h => ?_) (fun h => ?_)
    · replace hv := hv.1 h
      refine bx_aload_n C 47 dX7_mostSoulKindsAlike_46 rfl rfl rfl ?_
      refine bx_getf (v := .ref (a 72)) C 50 0 6 inX7 rfl (by decide) fl_X7_44 dX7_mostSoulKindsAlike_47 at_U_0 rfl rfl ?_
      refine bx_getf (v := .int u.2.2.2.2.2.2.2.1.2) C 53 72 1 inX5 rfl (by decide) fl_X7_314 dX7_mostSoulKindsAlike_50 at_U_72 rfl rfl ?_
      exact bx_iret C u rfl dX7_mostSoulKindsAlike_53 rfl hv
    · replace hv := hv.2 h
      refine bx_iload_n C 18 dX7_mostSoulKindsAlike_17 rfl rfl rfl ?_
      refine bx_iload C 20 dX7_mostSoulKindsAlike_18 rfl rfl ?_
      refine bx_pSi C 23 fc_X7_213 (k_X7_has l E  _ _ _ hv) dX7_mostSoulKindsAlike_20 ⟨rfl, rfl, Nat.le_of_ble_eq_true rfl, Nat.le_of_ble_eq_true rfl⟩ [] rfl (by decide) rfl rfl (Nat.le_of_ble_eq_true rfl) rfl (fun r1 hv => ?_)
      refine bx_if_eq C 40 26 dX7_mostSoulKindsAlike_23 (by decide) rfl (fun h => ?_) (fun h => ?_)
      · replace hv := hv.1 h
        refine bx_iinc C 1 43 dX7_mostSoulKindsAlike_40 rfl (by decide) ic_1 rfl ?_
        refine bx_goto C 10 dX7_mostSoulKindsAlike_43 (by decide) ?_
        exact bx_cut [1, 2, 3, 4, 0] (w_U E a u) rfl rfl (ih u x1 x2 x3 (x4 + 1) hv)
      · replace hv := hv.2 h
        refine bx_aload_n C 27 dX7_mostSoulKindsAlike_26 rfl rfl rfl ?_
        refine bx_getf (v := .ref (a 72)) C 30 0 6 inX7 rfl (by decide) fl_X7_44 dX7_mostSoulKindsAlike_27 at_U_0 rfl rfl ?_
        refine bx_iload C 32 dX7_mostSoulKindsAlike_30 rfl rfl ?_
        refine bx_iload_n C 33 dX7_mostSoulKindsAlike_32 rfl rfl rfl ?_
        refine bx_iload_n C 34 dX7_mostSoulKindsAlike_33 rfl rfl rfl ?_
        refine bx_pSi C 37 fc_X7_301 (k_X1_fuss l E  _ _ _ _ hv) dX7_mostSoulKindsAlike_34 ⟨rfl, rfl, Nat.le_of_ble_eq_true rfl, Nat.le_of_ble_eq_true rfl⟩ [] rfl (by decide) rfl rfl (Nat.le_of_ble_eq_true rfl) rfl (fun r2 hv => ?_)
        refine bx_qVv C 72 at_U_72 rfl 40 fc_X7_312 (k_X5_add l E (fun k => a (72 + k)) _ _ _ hv) dX7_mostSoulKindsAlike_37 ⟨rfl, rfl, Nat.le_of_ble_eq_true rfl, Nat.le_of_ble_eq_true rfl⟩ [72, 73] (fun u3 => w_U E a (u.1, u.2.1, u.2.2.1, u.2.2.2.1, u.2.2.2.2.1, u.2.2.2.2.2.1, u.2.2.2.2.2.2.1, u3, u.2.2.2.2.2.2.2.2)) ps_U_Y_72 (by decide) ad_Y pu_U_Y_72 rfl rfl (Nat.le_of_ble_eq_true rfl) rfl (fun u3 hv => ?_)
        refine bx_iinc C 1 43 dX7_mostSoulKindsAlike_40 rfl (by decide) ic_1 rfl ?_
        refine bx_goto C 10 dX7_mostSoulKindsAlike_43 (by decide) ?_
        exact bx_cut [1, 2, 3, 4, 0] (w_U E a (u.1, u.2.1, u.2.2.1, u.2.2.2.1, u.2.2.2.2.1, u.2.2.2.2.2.1, u.2.2.2.2.2.2.1, u3, u.2.2.2.2.2.2.2.2)) rfl rfl (ih (u.1, u.2.1, u.2.2.1, u.2.2.2.1, u.2.2.2.2.1, u.2.2.2.2.2.1, u.2.2.2.2.2.2.1, u3, u.2.2.2.2.2.2.2.2) x1 x2 x3 (x4 + 1) hv)
def V_X7_mostSoulKindsAlike  (K : Int32 → US → Prop)  (u : US) (x1 : Int32) (x2 : Int32) (x3 : Int32) : Prop := (V_X5_reset (fun u4 => ∃ n5, V_X7_mostSoulKindsAlike_10 K n5 (u.1, u.2.1, u.2.2.1, u.2.2.2.1, u.2.2.2.2.1, u.2.2.2.2.2.1, u.2.2.2.2.2.2.1, u4, u.2.2.2.2.2.2.2.2) x1 x2 x3 0) u.2.2.2.2.2.2.2.1 )
set_option maxRecDepth 20000 in
set_option maxHeartbeats 4000000 in
theorem t_X7_mostSoulKindsAlike_0 {a : Nat → Nat} {K : Int32 → US → Prop} (C : bx_C p (rmD 2) S m args meth c cX7_mostSoulKindsAlike 5 yX7_mostSoulKindsAlike.cls (some .int) E A 0 0)   (u : US) (x1 : Int32) (x2 : Int32) (x3 : Int32) (hv : V_X7_mostSoulKindsAlike K u x1 x2 x3) : G_X7_mostSoulKindsAlike p l e S m args below meth c E A a  K 0 [(0, .ref (a 0)), (1, .int x1), (2, .int x2), (3, .int x3)] [] (w_U E a u) := by
  unfold V_X7_mostSoulKindsAlike at hv
  refine bx_aload_n C 1 dX7_mostSoulKindsAlike_0 rfl rfl rfl ?_
  refine bx_getf (v := .ref (a 72)) C 4 0 6 inX7 rfl (by decide) fl_X7_44 dX7_mostSoulKindsAlike_1 at_U_0 rfl rfl ?_
  refine bx_qVv C 72 at_U_72 rfl 7 fc_X7_311 (k_X5_reset l E (fun k => a (72 + k)) _ _ hv) dX7_mostSoulKindsAlike_4 ⟨rfl, rfl, Nat.le_of_ble_eq_true rfl, Nat.le_of_ble_eq_true rfl⟩ [72, 73] (fun u4 => w_U E a (u.1, u.2.1, u.2.2.1, u.2.2.2.1, u.2.2.2.2.1, u.2.2.2.2.2.1, u.2.2.2.2.2.2.1, u4, u.2.2.2.2.2.2.2.2)) ps_U_Y_72 (by decide) ad_Y pu_U_Y_72 rfl rfl (Nat.le_of_ble_eq_true rfl) rfl (fun u4 hv => ?_)
  refine bx_iconst C 0 8 dX7_mostSoulKindsAlike_7 ic_0 rfl ?_
  refine bx_istore C 10 dX7_mostSoulKindsAlike_8 (by decide) rfl ?_
  obtain ⟨n5, hv⟩ := hv
  exact bx_cut [1, 2, 3, 4, 0] (w_U E a (u.1, u.2.1, u.2.2.1, u.2.2.2.1, u.2.2.2.2.1, u.2.2.2.2.2.1, u.2.2.2.2.2.2.1, u4, u.2.2.2.2.2.2.2.2)) rfl rfl (t_X7_mostSoulKindsAlike_10 C   n5 (u.1, u.2.1, u.2.2.1, u.2.2.2.1, u.2.2.2.2.1, u.2.2.2.2.2.1, u.2.2.2.2.2.2.1, u4, u.2.2.2.2.2.2.2.2) x1 x2 x3 0 hv)
theorem k_X7_mostSoulKindsAlike (l : Launch) (E : bx_E) (a : Nat → Nat)  (K : Int32 → US → Prop) (u : US) (x1 : Int32) (x2 : Int32) (x3 : Int32) (hv : V_X7_mostSoulKindsAlike  K u x1 x2 x3) : bx_Mi l E yX7_mostSoulKindsAlike cX7_mostSoulKindsAlike 5 (some .int) (rmD 2) [.ref (a 0), .int x1, .int x2, .int x3] (fun (u : US) => w_U E a u) u K :=
  bx_meti (by decide +kernel) (Nat.le_of_ble_eq_true rfl) (fun p e S m below meth c C => t_X7_mostSoulKindsAlike_0 C u x1 x2 x3 hv)
end
