section
variable {p : Program} {l : Launch} {e : Env} {S : State} {m : MethodId} {args : Array Value} {below : List Frame} {meth : Method} {c : Code} {E : bx_E} {A : Nat → Prop}
abbrev G_X8_best (p : Program) (l : Launch) (e : Env) (S : State) (m : MethodId) (args : Array Value) (below : List Frame) (meth : Method) (c : Code) (E : bx_E) (A : Nat → Prop) (a : Nat → Nat)  (K : Int32 → MS → Prop) (pc : Nat) (lv : List (Nat × Value)) (st : List Value) (ws : va_W) : Prop := bx_S p l e (rmD 4) S m args below meth c 7 E A (MQ below (va_Qi K (fun (u : MS) t => bx_B E A (w_M E a u) t) A) args S 0 0 A) 0 0 pc lv st ws
def V_X8_best_18  (K : Int32 → MS → Prop)  (u : MS)  : Prop := (V_X8_badAs (fun r1 u2 => K r1 u2) u (-1001))
set_option maxRecDepth 20000 in
set_option maxHeartbeats 4000000 in
theorem t_X8_best_18 {a : Nat → Nat} {K : Int32 → MS → Prop} (C : bx_C p (rmD 4) S m args meth c cX8_best 7 yX8_best.cls (some .int) E A 0 0)   (u : MS)  (hv : V_X8_best_18 K u ) : G_X8_best p l e S m args below meth c E A a  K 18 [(0, .ref (a 0))] [] (w_M E a u) := by
  unfold V_X8_best_18 at hv
  refine bx_aload_n C 19 dX8_best_18 rfl rfl rfl ?_
  refine bx_sipush C (-1001) 22 dX8_best_19 sp_m1001 rfl ?_
  refine bx_qVi C 0 at_M_0 rfl 25 fc_X8_219 (k_X8_badAs l E a _ _ _ hv) dX8_best_22 ⟨rfl, rfl, Nat.le_of_ble_eq_true rfl, Nat.le_of_ble_eq_true rfl⟩ [0, 1, 2, 3, 4, 5, 6, 7, 8, 9] (fun u2 => w_M E a u2) ps_M_M_0 (by decide) ad_M pu_M_M_0 rfl rfl (Nat.le_of_ble_eq_true rfl) rfl (fun r1 u2 hv => ?_)
  exact bx_iret C u2 rfl dX8_best_25 rfl hv
def V_X8_best_58  (K : Int32 → MS → Prop)  : Nat → MS → Int32 → Int32 → Int32 → Int32 → Int32 → Prop
  | 0, _, _, _, _, _, _ => False
  | n + 1, u, x1, x2, x3, x4, x5 => ((30 ≤ x5 → ((¬ x2 = 0 → K x3 u) ∧
 (x2 = 0 → K x4 u))) ∧
 (¬ 30 ≤ x5 → (V_X8_seesFrom (fun r3 => (V_X8_makesBy (fun r4 => (V_X8_isFree (fun r5 => ((r5 = 0 → V_X8_best_58 K n u x1 x2 x3 x4 (x5 + 1)) ∧
 (¬ r5 = 0 → (((r3 - r4) ≤ x3 → V_X8_best_58 K n u x1 x2 x3 x4 (x5 + 1)) ∧
 (¬ (r3 - r4) ≤ x3 → V_X8_best_58 K n u x1 x2 (r3 - r4) x5 (x5 + 1)))))) u.1 x5)) u.1 x1 x5)) u.1 x5)))
set_option maxRecDepth 20000 in
set_option maxHeartbeats 4000000 in
theorem t_X8_best_58 {a : Nat → Nat} {K : Int32 → MS → Prop} (C : bx_C p (rmD 4) S m args meth c cX8_best 7 yX8_best.cls (some .int) E A 0 0)   : ∀ (n : Nat) (u : MS) (x1 : Int32) (x2 : Int32) (x3 : Int32) (x4 : Int32) (x5 : Int32), V_X8_best_58 K n u x1 x2 x3 x4 x5 → G_X8_best p l e S m args below meth c E A a  K 58 [(0, .ref (a 0)), (1, .int x1), (2, .int x2), (3, .int x3), (4, .int x4), (5, .int x5)] [] (w_M E a u) := by
  intro n
  induction n with
  | zero =>
    intro u x1 x2 x3 x4 x5 hv
    exact False.elim hv
  | succ n ih =>
    intro u x1 x2 x3 x4 x5 hv
    unfold V_X8_best_58 at hv
    refine bx_iload C 60 dX8_best_58 rfl rfl ?_
    refine bx_bipush C 30 62 dX8_best_60 bp_30 rfl ?_
    refine bx_icmp_ge C 118 65 dX8_best_62 (by decide) rfl (fun h => ?_) (fun h => ?_)
    · replace hv := hv.1 h
      refine bx_iload_n C 119 dX8_best_118 rfl rfl rfl ?_
      refine bx_if_ne C 127 122 dX8_best_119 (by decide) rfl (fun h => ?_) (fun h => ?_)
      · replace hv := hv.1 h
        refine bx_iload_n C 128 dX8_best_127 rfl rfl rfl ?_
        exact bx_iret C u rfl dX8_best_128 rfl hv
      · replace hv := hv.2 h
        refine bx_iload C 124 dX8_best_122 rfl rfl ?_
        refine bx_goto C 128 dX8_best_124 (by decide) ?_
        exact bx_iret C u rfl dX8_best_128 rfl hv
    · replace hv := hv.2 h
      refine bx_aload_n C 66 dX8_best_65 rfl rfl rfl ?_
      refine bx_getf (v := .ref (a 1)) C 69 0 0 inX8 rfl (by decide) fl_X8_7 dX8_best_66 at_M_0 rfl rfl ?_
      refine bx_iload C 71 dX8_best_69 rfl rfl ?_
      refine bx_pSi C 74 fc_X8_213 (k_X8_seesFrom l E (fun k => a (1 + k)) _ _ _ hv) dX8_best_71 ⟨rfl, rfl, Nat.le_of_ble_eq_true rfl, Nat.le_of_ble_eq_true rfl⟩ [1] ps_M_A_1 (by decide) rfl rfl (Nat.le_of_ble_eq_true rfl) rfl (fun r3 hv => ?_)
      refine bx_aload_n C 75 dX8_best_74 rfl rfl rfl ?_
      refine bx_getf (v := .ref (a 1)) C 78 0 0 inX8 rfl (by decide) fl_X8_7 dX8_best_75 at_M_0 rfl rfl ?_
      refine bx_iload_n C 79 dX8_best_78 rfl rfl rfl ?_
      refine bx_iload C 81 dX8_best_79 rfl rfl ?_
      refine bx_pSi C 84 fc_X8_82 (k_X8_makesBy l E (fun k => a (1 + k)) _ _ _ _ hv) dX8_best_81 ⟨rfl, rfl, Nat.le_of_ble_eq_true rfl, Nat.le_of_ble_eq_true rfl⟩ [1] ps_M_A_1 (by decide) rfl rfl (Nat.le_of_ble_eq_true rfl) rfl (fun r4 hv => ?_)
      refine bx_isub C 85 dX8_best_84 rfl ?_
      refine bx_istore C 87 dX8_best_85 (by decide) rfl ?_
      refine bx_aload_n C 88 dX8_best_87 rfl rfl rfl ?_
      refine bx_getf (v := .ref (a 1)) C 91 0 0 inX8 rfl (by decide) fl_X8_7 dX8_best_88 at_M_0 rfl rfl ?_
      refine bx_iload C 93 dX8_best_91 rfl rfl ?_
      refine bx_pSi C 96 fc_X8_171 (k_X8_isFree l E (fun k => a (1 + k)) _ _ _ hv) dX8_best_93 ⟨rfl, rfl, Nat.le_of_ble_eq_true rfl, Nat.le_of_ble_eq_true rfl⟩ [1] ps_M_A_1 (by decide) rfl rfl (Nat.le_of_ble_eq_true rfl) rfl (fun r5 hv => ?_)
      refine bx_if_eq C 112 99 dX8_best_96 (by decide) rfl (fun h => ?_) (fun h => ?_)
      · replace hv := hv.1 h
        refine bx_iinc C 1 115 dX8_best_112 rfl (by decide) ic_1 rfl ?_
        refine bx_goto C 58 dX8_best_115 (by decide) ?_
        exact bx_cut [2, 3, 4, 5, 6, 0] (w_M E a u) rfl rfl (ih u x1 x2 x3 x4 (x5 + 1) hv)
      · replace hv := hv.2 h
        refine bx_iload C 101 dX8_best_99 rfl rfl ?_
        refine bx_iload_n C 102 dX8_best_101 rfl rfl rfl ?_
        refine bx_icmp_le C 112 105 dX8_best_102 (by decide) rfl (fun h => ?_) (fun h => ?_)
        · replace hv := hv.1 h
          refine bx_iinc C 1 115 dX8_best_112 rfl (by decide) ic_1 rfl ?_
          refine bx_goto C 58 dX8_best_115 (by decide) ?_
          exact bx_cut [2, 3, 4, 5, 6, 0] (w_M E a u) rfl rfl (ih u x1 x2 x3 x4 (x5 + 1) hv)
        · replace hv := hv.2 h
          refine bx_iload C 107 dX8_best_105 rfl rfl ?_
          refine bx_istore_n C 108 dX8_best_107 rfl (by decide) rfl ?_
          refine bx_iload C 110 dX8_best_108 rfl rfl ?_
          refine bx_istore C 112 dX8_best_110 (by decide) rfl ?_
          refine bx_iinc C 1 115 dX8_best_112 rfl (by decide) ic_1 rfl ?_
          refine bx_goto C 58 dX8_best_115 (by decide) ?_
          exact bx_cut [4, 5, 6, 2, 1, 0] (w_M E a u) rfl rfl (ih u x1 x2 (r3 - r4) x5 (x5 + 1) hv)
def V_X8_best  (K : Int32 → MS → Prop)  (u : MS) (x1 : Int32) (x2 : Int32) : Prop := (V_X8_isSoul (fun r6 => ((r6 = 0 → V_X8_best_18 K u ) ∧
 (¬ r6 = 0 → (V_X8_in (fun r7 => ((¬ r7 = 0 → (V_X8_isOut (fun r8 => ((¬ r8 = 0 → ∃ n9, V_X8_best_58 K n9 u x1 x2 (-1000) (-1) 0) ∧
 (r8 = 0 → K (-1002) (u.1, u.2.1, u.2.2.1, u.2.2.2.1, u.2.2.2.2.1, u.2.2.2.2.2.1, (upd u.2.2.2.2.2.2.1 1 ((u.2.2.2.2.2.2.1 1) + 1)), u.2.2.2.2.2.2.2)))) u x1)) ∧
 (r7 = 0 → V_X8_best_18 K u )))  ((x2 : Int32).toInt64) 0 1)))) u x1)
set_option maxRecDepth 20000 in
set_option maxHeartbeats 4000000 in
theorem t_X8_best_0 {a : Nat → Nat} {K : Int32 → MS → Prop} (C : bx_C p (rmD 4) S m args meth c cX8_best 7 yX8_best.cls (some .int) E A 0 0)   (u : MS) (x1 : Int32) (x2 : Int32) (hv : V_X8_best K u x1 x2) : G_X8_best p l e S m args below meth c E A a  K 0 [(0, .ref (a 0)), (1, .int x1), (2, .int x2)] [] (w_M E a u) := by
  unfold V_X8_best at hv
  refine bx_aload_n C 1 dX8_best_0 rfl rfl rfl ?_
  refine bx_iload_n C 2 dX8_best_1 rfl rfl rfl ?_
  refine bx_pVi C 0 at_M_0 rfl 5 fc_X8_203 (k_X8_isSoul l E a _ _ _ hv) dX8_best_2 ⟨rfl, rfl, Nat.le_of_ble_eq_true rfl, Nat.le_of_ble_eq_true rfl⟩ [0, 1, 2, 3, 4, 5, 6, 7, 8, 9] ps_M_M_0 (by decide) rfl rfl (Nat.le_of_ble_eq_true rfl) rfl (fun r6 hv => ?_)
  refine bx_if_eq C 18 8 dX8_best_5 (by decide) rfl (fun h => ?_) (fun h => ?_)
  · replace hv := hv.1 h
    exact bx_cut [0] (w_M E a u) rfl rfl (t_X8_best_18 C   u  hv)
  · replace hv := hv.2 h
    refine bx_iload_n C 9 dX8_best_8 rfl rfl rfl ?_
    refine bx_i2l C 10 dX8_best_9 rfl ?_
    refine bx_lconst C 0 11 dX8_best_10 lc_0 rfl ?_
    refine bx_lconst C 1 12 dX8_best_11 lc_1 rfl ?_
    refine bx_pSi C 15 fc_X8_46 (k_X8_in l E  _ _ _ _ hv) dX8_best_12 ⟨rfl, rfl, Nat.le_of_ble_eq_true rfl, Nat.le_of_ble_eq_true rfl⟩ [] rfl (by decide) rfl rfl (Nat.le_of_ble_eq_true rfl) rfl (fun r7 hv => ?_)
    refine bx_if_ne C 26 18 dX8_best_15 (by decide) rfl (fun h => ?_) (fun h => ?_)
    · replace hv := hv.1 h
      refine bx_aload_n C 27 dX8_best_26 rfl rfl rfl ?_
      refine bx_iload_n C 28 dX8_best_27 rfl rfl rfl ?_
      refine bx_pVi C 0 at_M_0 rfl 31 fc_X8_216 (k_X8_isOut l E a _ _ _ hv) dX8_best_28 ⟨rfl, rfl, Nat.le_of_ble_eq_true rfl, Nat.le_of_ble_eq_true rfl⟩ [0, 1, 2, 3, 4, 5, 6, 7, 8, 9] ps_M_M_0 (by decide) rfl rfl (Nat.le_of_ble_eq_true rfl) rfl (fun r8 hv => ?_)
      refine bx_if_ne C 48 34 dX8_best_31 (by decide) rfl (fun h => ?_) (fun h => ?_)
      · replace hv := hv.1 h
        refine bx_sipush C (-1000) 51 dX8_best_48 sp_m1000 rfl ?_
        refine bx_istore_n C 52 dX8_best_51 rfl (by decide) rfl ?_
        refine bx_iconst C (-1) 53 dX8_best_52 ic_m1 rfl ?_
        refine bx_istore C 55 dX8_best_53 (by decide) rfl ?_
        refine bx_iconst C 0 56 dX8_best_55 ic_0 rfl ?_
        refine bx_istore C 58 dX8_best_56 (by decide) rfl ?_
        obtain ⟨n9, hv⟩ := hv
        exact bx_cut [3, 4, 5, 2, 1, 0] (w_M E a u) rfl rfl (t_X8_best_58 C   n9 u x1 x2 (-1000) (-1) 0 hv)
      · replace hv := hv.2 h
        refine bx_aload_n C 35 dX8_best_34 rfl rfl rfl ?_
        refine bx_getf (v := .ref (a 5)) C 38 0 6 inX8 rfl (by decide) fl_X8_27 dX8_best_35 at_M_0 rfl rfl ?_
        refine bx_iconst C 1 39 dX8_best_38 ic_1 rfl ?_
        refine bx_dup2_11 C 40 dX8_best_39 rfl rfl rfl ?_
        refine bx_iald_k (f := u.2.2.2.2.2.2.1) C 41 5 1 dX8_best_40 at_M_5 vin_1_3 cl_1 rfl ?_
        refine bx_iconst C 1 42 dX8_best_41 ic_1 rfl ?_
        refine bx_iadd C 43 dX8_best_42 rfl ?_
        refine bx_iast_k C 44 5 1 (w_M E a (u.1, u.2.1, u.2.2.1, u.2.2.2.1, u.2.2.2.2.1, u.2.2.2.2.2.1, (upd u.2.2.2.2.2.2.1 1 ((u.2.2.2.2.2.2.1 1) + 1)), u.2.2.2.2.2.2.2)) dX8_best_43 rfl vin_1_3 cl_1 rfl rfl ?_
        refine bx_sipush C (-1002) 47 dX8_best_44 sp_m1002 rfl ?_
        exact bx_iret C (u.1, u.2.1, u.2.2.1, u.2.2.2.1, u.2.2.2.2.1, u.2.2.2.2.2.1, (upd u.2.2.2.2.2.2.1 1 ((u.2.2.2.2.2.2.1 1) + 1)), u.2.2.2.2.2.2.2) rfl dX8_best_47 rfl hv
    · replace hv := hv.2 h
      exact bx_cut [0] (w_M E a u) rfl rfl (t_X8_best_18 C   u  hv)
theorem k_X8_best (l : Launch) (E : bx_E) (a : Nat → Nat)  (K : Int32 → MS → Prop) (u : MS) (x1 : Int32) (x2 : Int32) (hv : V_X8_best  K u x1 x2) : bx_Mi l E yX8_best cX8_best 7 (some .int) (rmD 4) [.ref (a 0), .int x1, .int x2] (fun (u : MS) => w_M E a u) u K :=
  bx_meti (by decide +kernel) (Nat.le_of_ble_eq_true rfl) (fun p e S m below meth c C => t_X8_best_0 C u x1 x2 hv)
abbrev G_X8_beside (p : Program) (l : Launch) (e : Env) (S : State) (m : MethodId) (args : Array Value) (below : List Frame) (meth : Method) (c : Code) (E : bx_E) (A : Nat → Prop) (a : Nat → Nat)  (K : Int32 → MS → Prop) (pc : Nat) (lv : List (Nat × Value)) (st : List Value) (ws : va_W) : Prop := bx_S p l e (rmD 5) S m args below meth c 9 E A (MQ below (va_Qi K (fun (u : MS) t => bx_B E A (w_M E a u) t) A) args S 0 0 A) 0 0 pc lv st ws
def V_X8_beside_31  (K : Int32 → MS → Prop)  (u : MS)  : Prop := (V_X8_bad (fun r1 u2 => K r1 u2) u )
set_option maxRecDepth 20000 in
set_option maxHeartbeats 4000000 in
theorem t_X8_beside_31 {a : Nat → Nat} {K : Int32 → MS → Prop} (C : bx_C p (rmD 5) S m args meth c cX8_beside 9 yX8_beside.cls (some .int) E A 0 0)   (u : MS)  (hv : V_X8_beside_31 K u ) : G_X8_beside p l e S m args below meth c E A a  K 31 [(0, .ref (a 0))] [] (w_M E a u) := by
  unfold V_X8_beside_31 at hv
  refine bx_aload_n C 32 dX8_beside_31 rfl rfl rfl ?_
  refine bx_qVi C 0 at_M_0 rfl 35 fc_X8_101 (k_X8_bad l E a _ _ hv) dX8_beside_32 ⟨rfl, rfl, Nat.le_of_ble_eq_true rfl, Nat.le_of_ble_eq_true rfl⟩ [0, 1, 2, 3, 4, 5, 6, 7, 8, 9] (fun u2 => w_M E a u2) ps_M_M_0 (by decide) ad_M pu_M_M_0 rfl rfl (Nat.le_of_ble_eq_true rfl) rfl (fun r1 u2 hv => ?_)
  exact bx_iret C u2 rfl dX8_beside_35 rfl hv
def V_X8_beside_52  (K : Int32 → MS → Prop)  (u : MS)  : Prop := (V_X8_no (fun r3 u4 => K r3 u4) u )
set_option maxRecDepth 20000 in
set_option maxHeartbeats 4000000 in
theorem t_X8_beside_52 {a : Nat → Nat} {K : Int32 → MS → Prop} (C : bx_C p (rmD 5) S m args meth c cX8_beside 9 yX8_beside.cls (some .int) E A 0 0)   (u : MS)  (hv : V_X8_beside_52 K u ) : G_X8_beside p l e S m args below meth c E A a  K 52 [(0, .ref (a 0))] [] (w_M E a u) := by
  unfold V_X8_beside_52 at hv
  refine bx_aload_n C 53 dX8_beside_52 rfl rfl rfl ?_
  refine bx_qVi C 0 at_M_0 rfl 56 fc_X8_200 (k_X8_no l E a _ _ hv) dX8_beside_53 ⟨rfl, rfl, Nat.le_of_ble_eq_true rfl, Nat.le_of_ble_eq_true rfl⟩ [0, 1, 2, 3, 4, 5, 6, 7, 8, 9] (fun u4 => w_M E a u4) ps_M_M_0 (by decide) ad_M pu_M_M_0 rfl rfl (Nat.le_of_ble_eq_true rfl) rfl (fun r3 u4 hv => ?_)
  exact bx_iret C u4 rfl dX8_beside_56 rfl hv
def V_X8_beside_184  (K : Int32 → MS → Prop) (B66 : MS → Int32 → Int32 → Int32 → Int32 → Int32 → Int32 → Prop) (B79 : MS → Int32 → Int32 → Int32 → Int32 → Int32 → Int32 → Int32 → Prop) (u : MS) (x1 : Int32) (x2 : Int32) (x3 : Int32) (x6 : Int32) (x7 : Int32) (x8 : Int32) : Prop := B79 u x1 x2 x3 x8 ((100 * x6) + x7) x6 (x7 + 1)
set_option maxRecDepth 20000 in
set_option maxHeartbeats 4000000 in
theorem t_X8_beside_184 {a : Nat → Nat} {K : Int32 → MS → Prop} (C : bx_C p (rmD 5) S m args meth c cX8_beside 9 yX8_beside.cls (some .int) E A 0 0)  (B66 : MS → Int32 → Int32 → Int32 → Int32 → Int32 → Int32 → Prop) (hB66 : ∀ (u : MS) (x1 : Int32) (x2 : Int32) (x3 : Int32) (x4 : Int32) (x5 : Int32) (x6 : Int32), B66 u x1 x2 x3 x4 x5 x6 → G_X8_beside p l e S m args below meth c E A a  K 66 [(0, .ref (a 0)), (1, .int x1), (2, .int x2), (3, .int x3), (4, .int x4), (5, .int x5), (6, .int x6)] [] (w_M E a u)) (B79 : MS → Int32 → Int32 → Int32 → Int32 → Int32 → Int32 → Int32 → Prop) (hB79 : ∀ (u : MS) (x1 : Int32) (x2 : Int32) (x3 : Int32) (x4 : Int32) (x5 : Int32) (x6 : Int32) (x7 : Int32), B79 u x1 x2 x3 x4 x5 x6 x7 → G_X8_beside p l e S m args below meth c E A a  K 79 [(0, .ref (a 0)), (1, .int x1), (2, .int x2), (3, .int x3), (4, .int x4), (5, .int x5), (6, .int x6), (7, .int x7)] [] (w_M E a u)) (u : MS) (x1 : Int32) (x2 : Int32) (x3 : Int32) (x6 : Int32) (x7 : Int32) (x8 : Int32) (hv : V_X8_beside_184 K B66 B79 u x1 x2 x3 x6 x7 x8) : G_X8_beside p l e S m args below meth c E A a  K 184 [(0, .ref (a 0)), (1, .int x1), (2, .int x2), (3, .int x3), (6, .int x6), (7, .int x7), (8, .int x8)] [] (w_M E a u) := by
  unfold V_X8_beside_184 at hv
  refine bx_iload C 186 dX8_beside_184 rfl rfl ?_
  refine bx_istore C 188 dX8_beside_186 (by decide) rfl ?_
  refine bx_bipush C 100 190 dX8_beside_188 bp_100 rfl ?_
  refine bx_iload C 192 dX8_beside_190 rfl rfl ?_
  refine bx_imul C 193 dX8_beside_192 rfl ?_
  refine bx_iload C 195 dX8_beside_193 rfl rfl ?_
  refine bx_iadd C 196 dX8_beside_195 rfl ?_
  refine bx_istore C 198 dX8_beside_196 (by decide) rfl ?_
  refine bx_iinc C 1 201 dX8_beside_198 rfl (by decide) ic_1 rfl ?_
  refine bx_goto C 79 dX8_beside_201 (by decide) ?_
  exact bx_cut [3, 4, 5, 6, 2, 1, 7, 0] (w_M E a u) rfl rfl (hB79 u x1 x2 x3 x8 ((100 * x6) + x7) x6 (x7 + 1) hv)
def V_X8_beside_79  (K : Int32 → MS → Prop) (B66 : MS → Int32 → Int32 → Int32 → Int32 → Int32 → Int32 → Prop) : Nat → MS → Int32 → Int32 → Int32 → Int32 → Int32 → Int32 → Int32 → Prop
  | 0, _, _, _, _, _, _, _, _ => False
  | n + 1, u, x1, x2, x3, x4, x5, x6, x7 => (((x6 + 2) ≤ x7 → B66 u x1 x2 x3 x4 x5 (x6 + 1)) ∧
 (¬ (x6 + 2) ≤ x7 → ((x7 = x6 → V_X8_beside_79 K B66 n u x1 x2 x3 x4 x5 x6 (x7 + 1)) ∧
 (¬ x7 = x6 → (V_X8_isCell (fun r5 => ((r5 = 0 → V_X8_beside_79 K B66 n u x1 x2 x3 x4 x5 x6 (x7 + 1)) ∧
 (¬ r5 = 0 → ((¬ (x7 / 6) = (x6 / 6) → V_X8_beside_79 K B66 n u x1 x2 x3 x4 x5 x6 (x7 + 1)) ∧
 ((x7 / 6) = (x6 / 6) → (V_X8_isFree (fun r6 => ((r6 = 0 → V_X8_beside_79 K B66 n u x1 x2 x3 x4 x5 x6 (x7 + 1)) ∧
 (¬ r6 = 0 → (V_X8_isFree (fun r7 => ((r7 = 0 → V_X8_beside_79 K B66 n u x1 x2 x3 x4 x5 x6 (x7 + 1)) ∧
 (¬ r7 = 0 → (V_X8_layFresh (fun u8 => (V_X8_goes (fun r9 u10 => (V_X8_goes (fun r11 u12 => ((x4 = (-1) → V_X8_beside_184 K B66 (fun v y0 y1 y2 y3 y4 y5 y6 => V_X8_beside_79 K B66 n v y0 y1 y2 y3 y4 y5 y6) (u8.1, u12, u8.2.2) x1 x2 x3 x6 x7 (r9 + r11)) ∧
 (¬ x4 = (-1) → ((x4 ≤ (r9 + r11) → V_X8_beside_79 K B66 n (u8.1, u12, u8.2.2) x1 x2 x3 x4 x5 x6 (x7 + 1)) ∧
 (¬ x4 ≤ (r9 + r11) → V_X8_beside_184 K B66 (fun v y0 y1 y2 y3 y4 y5 y6 => V_X8_beside_79 K B66 n v y0 y1 y2 y3 y4 y5 y6) (u8.1, u12, u8.2.2) x1 x2 x3 x6 x7 (r9 + r11)))))) u10 x2 x7)) u8.2.1 x1 x6)) u )))) u.1 x7)))) u.1 x6))))))  x7)))))
set_option maxRecDepth 20000 in
set_option maxHeartbeats 4000000 in
theorem t_X8_beside_79 {a : Nat → Nat} {K : Int32 → MS → Prop} (C : bx_C p (rmD 5) S m args meth c cX8_beside 9 yX8_beside.cls (some .int) E A 0 0)  (B66 : MS → Int32 → Int32 → Int32 → Int32 → Int32 → Int32 → Prop) (hB66 : ∀ (u : MS) (x1 : Int32) (x2 : Int32) (x3 : Int32) (x4 : Int32) (x5 : Int32) (x6 : Int32), B66 u x1 x2 x3 x4 x5 x6 → G_X8_beside p l e S m args below meth c E A a  K 66 [(0, .ref (a 0)), (1, .int x1), (2, .int x2), (3, .int x3), (4, .int x4), (5, .int x5), (6, .int x6)] [] (w_M E a u)) : ∀ (n : Nat) (u : MS) (x1 : Int32) (x2 : Int32) (x3 : Int32) (x4 : Int32) (x5 : Int32) (x6 : Int32) (x7 : Int32), V_X8_beside_79 K B66 n u x1 x2 x3 x4 x5 x6 x7 → G_X8_beside p l e S m args below meth c E A a  K 79 [(0, .ref (a 0)), (1, .int x1), (2, .int x2), (3, .int x3), (4, .int x4), (5, .int x5), (6, .int x6), (7, .int x7)] [] (w_M E a u) := by
  intro n
  induction n with
  | zero =>
    intro u x1 x2 x3 x4 x5 x6 x7 hv
    exact False.elim hv
  | succ n ih =>
    intro u x1 x2 x3 x4 x5 x6 x7 hv
    unfold V_X8_beside_79 at hv
    refine bx_iload C 81 dX8_beside_79 rfl rfl ?_
    refine bx_iload C 83 dX8_beside_81 rfl rfl ?_
    refine bx_iconst C 2 84 dX8_beside_83 ic_2 rfl ?_
    refine bx_iadd C 85 dX8_beside_84 rfl ?_
    refine bx_icmp_ge C 204 88 dX8_beside_85 (by decide) rfl (fun h => ?_) (fun h => ?_)
    · replace hv := hv.1 h
      refine bx_iinc C 1 207 dX8_beside_204 rfl (by decide) ic_1 rfl ?_
      refine bx_goto C 66 dX8_beside_207 (by decide) ?_
      exact bx_cut [1, 2, 3, 4, 5, 6, 0] (w_M E a u) rfl rfl (hB66 u x1 x2 x3 x4 x5 (x6 + 1) hv)
    · replace hv := hv.2 h
      refine bx_iload C 90 dX8_beside_88 rfl rfl ?_
      refine bx_iload C 92 dX8_beside_90 rfl rfl ?_
      refine bx_icmp_eq C 198 95 dX8_beside_92 (by decide) rfl (fun h => ?_) (fun h => ?_)
      · replace hv := hv.1 h
        refine bx_iinc C 1 201 dX8_beside_198 rfl (by decide) ic_1 rfl ?_
        refine bx_goto C 79 dX8_beside_201 (by decide) ?_
        exact bx_cut [1, 2, 3, 4, 5, 6, 7, 0] (w_M E a u) rfl rfl (ih u x1 x2 x3 x4 x5 x6 (x7 + 1) hv)
      · replace hv := hv.2 h
        refine bx_iload C 97 dX8_beside_95 rfl rfl ?_
        refine bx_pSi C 100 fc_X8_105 (k_X8_isCell l E  _ _ hv) dX8_beside_97 ⟨rfl, rfl, Nat.le_of_ble_eq_true rfl, Nat.le_of_ble_eq_true rfl⟩ [] rfl (by decide) rfl rfl (Nat.le_of_ble_eq_true rfl) rfl (fun r5 hv => ?_)
        refine bx_if_eq C 198 103 dX8_beside_100 (by decide) rfl (fun h => ?_) (fun h => ?_)
        · replace hv := hv.1 h
          refine bx_iinc C 1 201 dX8_beside_198 rfl (by decide) ic_1 rfl ?_
          refine bx_goto C 79 dX8_beside_201 (by decide) ?_
          exact bx_cut [1, 2, 3, 4, 5, 6, 7, 0] (w_M E a u) rfl rfl (ih u x1 x2 x3 x4 x5 x6 (x7 + 1) hv)
        · replace hv := hv.2 h
          refine bx_iload C 105 dX8_beside_103 rfl rfl ?_
          refine bx_bipush C 6 107 dX8_beside_105 bp_6 rfl ?_
          refine bx_idiv C 108 dX8_beside_107 nz32_6 rfl ?_
          refine bx_iload C 110 dX8_beside_108 rfl rfl ?_
          refine bx_bipush C 6 112 dX8_beside_110 bp_6 rfl ?_
          refine bx_idiv C 113 dX8_beside_112 nz32_6 rfl ?_
          refine bx_icmp_ne C 198 116 dX8_beside_113 (by decide) rfl (fun h => ?_) (fun h => ?_)
          · replace hv := hv.1 h
            refine bx_iinc C 1 201 dX8_beside_198 rfl (by decide) ic_1 rfl ?_
            refine bx_goto C 79 dX8_beside_201 (by decide) ?_
            exact bx_cut [1, 2, 3, 4, 5, 6, 7, 0] (w_M E a u) rfl rfl (ih u x1 x2 x3 x4 x5 x6 (x7 + 1) hv)
          · replace hv := hv.2 h
            refine bx_aload_n C 117 dX8_beside_116 rfl rfl rfl ?_
            refine bx_getf (v := .ref (a 1)) C 120 0 0 inX8 rfl (by decide) fl_X8_7 dX8_beside_117 at_M_0 rfl rfl ?_
            refine bx_iload C 122 dX8_beside_120 rfl rfl ?_
            refine bx_pSi C 125 fc_X8_171 (k_X8_isFree l E (fun k => a (1 + k)) _ _ _ hv) dX8_beside_122 ⟨rfl, rfl, Nat.le_of_ble_eq_true rfl, Nat.le_of_ble_eq_true rfl⟩ [1] ps_M_A_1 (by decide) rfl rfl (Nat.le_of_ble_eq_true rfl) rfl (fun r6 hv => ?_)
            refine bx_if_eq C 198 128 dX8_beside_125 (by decide) rfl (fun h => ?_) (fun h => ?_)
            · replace hv := hv.1 h
              refine bx_iinc C 1 201 dX8_beside_198 rfl (by decide) ic_1 rfl ?_
              refine bx_goto C 79 dX8_beside_201 (by decide) ?_
              exact bx_cut [1, 2, 3, 4, 5, 6, 7, 0] (w_M E a u) rfl rfl (ih u x1 x2 x3 x4 x5 x6 (x7 + 1) hv)
            · replace hv := hv.2 h
              refine bx_aload_n C 129 dX8_beside_128 rfl rfl rfl ?_
              refine bx_getf (v := .ref (a 1)) C 132 0 0 inX8 rfl (by decide) fl_X8_7 dX8_beside_129 at_M_0 rfl rfl ?_
              refine bx_iload C 134 dX8_beside_132 rfl rfl ?_
              refine bx_pSi C 137 fc_X8_171 (k_X8_isFree l E (fun k => a (1 + k)) _ _ _ hv) dX8_beside_134 ⟨rfl, rfl, Nat.le_of_ble_eq_true rfl, Nat.le_of_ble_eq_true rfl⟩ [1] ps_M_A_1 (by decide) rfl rfl (Nat.le_of_ble_eq_true rfl) rfl (fun r7 hv => ?_)
              refine bx_if_eq C 198 140 dX8_beside_137 (by decide) rfl (fun h => ?_) (fun h => ?_)
              · replace hv := hv.1 h
                refine bx_iinc C 1 201 dX8_beside_198 rfl (by decide) ic_1 rfl ?_
                refine bx_goto C 79 dX8_beside_201 (by decide) ?_
                exact bx_cut [1, 2, 3, 4, 5, 6, 7, 0] (w_M E a u) rfl rfl (ih u x1 x2 x3 x4 x5 x6 (x7 + 1) hv)
              · replace hv := hv.2 h
                refine bx_aload_n C 141 dX8_beside_140 rfl rfl rfl ?_
                refine bx_qVv C 0 at_M_0 rfl 144 fc_X8_225 (k_X8_layFresh l E a _ _ hv) dX8_beside_141 ⟨rfl, rfl, Nat.le_of_ble_eq_true rfl, Nat.le_of_ble_eq_true rfl⟩ [0, 1, 2, 3, 4, 5, 6, 7, 8, 9] (fun u8 => w_M E a u8) ps_M_M_0 (by decide) ad_M pu_M_M_0 rfl rfl (Nat.le_of_ble_eq_true rfl) rfl (fun u8 hv => ?_)
                refine bx_aload_n C 145 dX8_beside_144 rfl rfl rfl ?_
                refine bx_getf (v := .ref (a 2)) C 148 0 1 inX8 rfl (by decide) fl_X8_13 dX8_beside_145 at_M_0 rfl rfl ?_
                refine bx_iload_n C 149 dX8_beside_148 rfl rfl rfl ?_
                refine bx_iload C 151 dX8_beside_149 rfl rfl ?_
                refine bx_qSi C 154 fc_X8_182 (k_X8_goes l E (fun k => a (2 + k)) _ _ _ _ hv) dX8_beside_151 ⟨rfl, rfl, Nat.le_of_ble_eq_true rfl, Nat.le_of_ble_eq_true rfl⟩ [2] (fun u10 => w_M E a (u8.1, u10, u8.2.2)) ps_M_A_2 (by decide) ad_A pu_M_A_2 rfl rfl (Nat.le_of_ble_eq_true rfl) rfl (fun r9 u10 hv => ?_)
                refine bx_istore C 156 dX8_beside_154 (by decide) rfl ?_
                refine bx_iload C 158 dX8_beside_156 rfl rfl ?_
                refine bx_aload_n C 159 dX8_beside_158 rfl rfl rfl ?_
                refine bx_getf (v := .ref (a 2)) C 162 0 1 inX8 rfl (by decide) fl_X8_13 dX8_beside_159 at_M_0 rfl rfl ?_
                refine bx_iload_n C 163 dX8_beside_162 rfl rfl rfl ?_
                refine bx_iload C 165 dX8_beside_163 rfl rfl ?_
                refine bx_qSi C 168 fc_X8_182 (k_X8_goes l E (fun k => a (2 + k)) _ _ _ _ hv) dX8_beside_165 ⟨rfl, rfl, Nat.le_of_ble_eq_true rfl, Nat.le_of_ble_eq_true rfl⟩ [2] (fun u12 => w_M E a (u8.1, u12, u8.2.2)) ps_M_A_2 (by decide) ad_A pu_M_A_2 rfl rfl (Nat.le_of_ble_eq_true rfl) rfl (fun r11 u12 hv => ?_)
                refine bx_iadd C 169 dX8_beside_168 rfl ?_
                refine bx_istore C 171 dX8_beside_169 (by decide) rfl ?_
                refine bx_iload C 173 dX8_beside_171 rfl rfl ?_
                refine bx_iconst C (-1) 174 dX8_beside_173 ic_m1 rfl ?_
                refine bx_icmp_eq C 184 177 dX8_beside_174 (by decide) rfl (fun h => ?_) (fun h => ?_)
                · replace hv := hv.1 h
                  exact bx_cut [1, 2, 3, 4, 7, 8, 0] (w_M E a (u8.1, u12, u8.2.2)) rfl rfl (t_X8_beside_184 C  _ hB66 _ (fun v y0 y1 y2 y3 y4 y5 y6 hv => ih v y0 y1 y2 y3 y4 y5 y6 hv) (u8.1, u12, u8.2.2) x1 x2 x3 x6 x7 (r9 + r11) hv)
                · replace hv := hv.2 h
                  refine bx_iload C 179 dX8_beside_177 rfl rfl ?_
                  refine bx_iload C 181 dX8_beside_179 rfl rfl ?_
                  refine bx_icmp_ge C 198 184 dX8_beside_181 (by decide) rfl (fun h => ?_) (fun h => ?_)
                  · replace hv := hv.1 h
                    refine bx_iinc C 1 201 dX8_beside_198 rfl (by decide) ic_1 rfl ?_
                    refine bx_goto C 79 dX8_beside_201 (by decide) ?_
                    exact bx_cut [2, 3, 4, 5, 6, 7, 8, 0] (w_M E a (u8.1, u12, u8.2.2)) rfl rfl (ih (u8.1, u12, u8.2.2) x1 x2 x3 x4 x5 x6 (x7 + 1) hv)
                  · replace hv := hv.2 h
                    exact bx_cut [1, 2, 3, 4, 7, 8, 0] (w_M E a (u8.1, u12, u8.2.2)) rfl rfl (t_X8_beside_184 C  _ hB66 _ (fun v y0 y1 y2 y3 y4 y5 y6 hv => ih v y0 y1 y2 y3 y4 y5 y6 hv) (u8.1, u12, u8.2.2) x1 x2 x3 x6 x7 (r9 + r11) hv)
def V_X8_beside_66  (K : Int32 → MS → Prop)  : Nat → MS → Int32 → Int32 → Int32 → Int32 → Int32 → Int32 → Prop
  | 0, _, _, _, _, _, _, _ => False
  | n + 1, u, x1, x2, x3, x4, x5, x6 => ((30 ≤ x6 → ((¬ x3 = 0 → K x5 u) ∧
 (x3 = 0 → K x4 u))) ∧
 (¬ 30 ≤ x6 → ∃ n13, V_X8_beside_79 K (fun v y0 y1 y2 y3 y4 y5 => V_X8_beside_66 K n v y0 y1 y2 y3 y4 y5) n13 u x1 x2 x3 x4 x5 x6 (x6 - 1)))
set_option maxRecDepth 20000 in
set_option maxHeartbeats 4000000 in
theorem t_X8_beside_66 {a : Nat → Nat} {K : Int32 → MS → Prop} (C : bx_C p (rmD 5) S m args meth c cX8_beside 9 yX8_beside.cls (some .int) E A 0 0)   : ∀ (n : Nat) (u : MS) (x1 : Int32) (x2 : Int32) (x3 : Int32) (x4 : Int32) (x5 : Int32) (x6 : Int32), V_X8_beside_66 K n u x1 x2 x3 x4 x5 x6 → G_X8_beside p l e S m args below meth c E A a  K 66 [(0, .ref (a 0)), (1, .int x1), (2, .int x2), (3, .int x3), (4, .int x4), (5, .int x5), (6, .int x6)] [] (w_M E a u) := by
  intro n
  induction n with
  | zero =>
    intro u x1 x2 x3 x4 x5 x6 hv
    exact False.elim hv
  | succ n ih =>
    intro u x1 x2 x3 x4 x5 x6 hv
    unfold V_X8_beside_66 at hv
    refine bx_iload C 68 dX8_beside_66 rfl rfl ?_
    refine bx_bipush C 30 70 dX8_beside_68 bp_30 rfl ?_
    refine bx_icmp_ge C 210 73 dX8_beside_70 (by decide) rfl (fun h => ?_) (fun h => ?_)
    · replace hv := hv.1 h
      refine bx_iload_n C 211 dX8_beside_210 rfl rfl rfl ?_
      refine bx_if_ne C 219 214 dX8_beside_211 (by decide) rfl (fun h => ?_) (fun h => ?_)
      · replace hv := hv.1 h
        refine bx_iload C 221 dX8_beside_219 rfl rfl ?_
        exact bx_iret C u rfl dX8_beside_221 rfl hv
      · replace hv := hv.2 h
        refine bx_iload C 216 dX8_beside_214 rfl rfl ?_
        refine bx_goto C 221 dX8_beside_216 (by decide) ?_
        exact bx_iret C u rfl dX8_beside_221 rfl hv
    · replace hv := hv.2 h
      refine bx_iload C 75 dX8_beside_73 rfl rfl ?_
      refine bx_iconst C 1 76 dX8_beside_75 ic_1 rfl ?_
      refine bx_isub C 77 dX8_beside_76 rfl ?_
      refine bx_istore C 79 dX8_beside_77 (by decide) rfl ?_
      obtain ⟨n13, hv⟩ := hv
      exact bx_cut [1, 2, 3, 4, 5, 6, 7, 0] (w_M E a u) rfl rfl (t_X8_beside_79 C  _ (fun v y0 y1 y2 y3 y4 y5 hv => ih v y0 y1 y2 y3 y4 y5 hv) n13 u x1 x2 x3 x4 x5 x6 (x6 - 1) hv)
def V_X8_beside  (K : Int32 → MS → Prop)  (u : MS) (x1 : Int32) (x2 : Int32) (x3 : Int32) : Prop := (V_X8_isSoul (fun r14 => ((r14 = 0 → V_X8_beside_31 K u ) ∧
 (¬ r14 = 0 → (V_X8_isSoul (fun r15 => ((r15 = 0 → V_X8_beside_31 K u ) ∧
 (¬ r15 = 0 → ((x1 = x2 → V_X8_beside_31 K u ) ∧
 (¬ x1 = x2 → (V_X8_in (fun r16 => ((¬ r16 = 0 → (V_X8_isOut (fun r17 => ((r17 = 0 → V_X8_beside_52 K u ) ∧
 (¬ r17 = 0 → (V_X8_isOut (fun r18 => ((¬ r18 = 0 → ∃ n19, V_X8_beside_66 K n19 u x1 x2 x3 (-1) (-1) 0) ∧
 (r18 = 0 → V_X8_beside_52 K u ))) u x2)))) u x1)) ∧
 (r16 = 0 → V_X8_beside_31 K u )))  ((x3 : Int32).toInt64) 0 1)))))) u x2)))) u x1)
set_option maxRecDepth 20000 in
set_option maxHeartbeats 4000000 in
theorem t_X8_beside_0 {a : Nat → Nat} {K : Int32 → MS → Prop} (C : bx_C p (rmD 5) S m args meth c cX8_beside 9 yX8_beside.cls (some .int) E A 0 0)   (u : MS) (x1 : Int32) (x2 : Int32) (x3 : Int32) (hv : V_X8_beside K u x1 x2 x3) : G_X8_beside p l e S m args below meth c E A a  K 0 [(0, .ref (a 0)), (1, .int x1), (2, .int x2), (3, .int x3)] [] (w_M E a u) := by
  unfold V_X8_beside at hv
  refine bx_aload_n C 1 dX8_beside_0 rfl rfl rfl ?_
  refine bx_iload_n C 2 dX8_beside_1 rfl rfl rfl ?_
  refine bx_pVi C 0 at_M_0 rfl 5 fc_X8_203 (k_X8_isSoul l E a _ _ _ hv) dX8_beside_2 ⟨rfl, rfl, Nat.le_of_ble_eq_true rfl, Nat.le_of_ble_eq_true rfl⟩ [0, 1, 2, 3, 4, 5, 6, 7, 8, 9] ps_M_M_0 (by decide) rfl rfl (Nat.le_of_ble_eq_true rfl) rfl (fun r14 hv => ?_)
  refine bx_if_eq C 31 8 dX8_beside_5 (by decide) rfl (fun h => ?_) (fun h => ?_)
  · replace hv := hv.1 h
    exact bx_cut [0] (w_M E a u) rfl rfl (t_X8_beside_31 C   u  hv)
  · replace hv := hv.2 h
    refine bx_aload_n C 9 dX8_beside_8 rfl rfl rfl ?_
    refine bx_iload_n C 10 dX8_beside_9 rfl rfl rfl ?_
    refine bx_pVi C 0 at_M_0 rfl 13 fc_X8_203 (k_X8_isSoul l E a _ _ _ hv) dX8_beside_10 ⟨rfl, rfl, Nat.le_of_ble_eq_true rfl, Nat.le_of_ble_eq_true rfl⟩ [0, 1, 2, 3, 4, 5, 6, 7, 8, 9] ps_M_M_0 (by decide) rfl rfl (Nat.le_of_ble_eq_true rfl) rfl (fun r15 hv => ?_)
    refine bx_if_eq C 31 16 dX8_beside_13 (by decide) rfl (fun h => ?_) (fun h => ?_)
    · replace hv := hv.1 h
      exact bx_cut [0] (w_M E a u) rfl rfl (t_X8_beside_31 C   u  hv)
    · replace hv := hv.2 h
      refine bx_iload_n C 17 dX8_beside_16 rfl rfl rfl ?_
      refine bx_iload_n C 18 dX8_beside_17 rfl rfl rfl ?_
      refine bx_icmp_eq C 31 21 dX8_beside_18 (by decide) rfl (fun h => ?_) (fun h => ?_)
      · replace hv := hv.1 h
        exact bx_cut [0] (w_M E a u) rfl rfl (t_X8_beside_31 C   u  hv)
      · replace hv := hv.2 h
        refine bx_iload_n C 22 dX8_beside_21 rfl rfl rfl ?_
        refine bx_i2l C 23 dX8_beside_22 rfl ?_
        refine bx_lconst C 0 24 dX8_beside_23 lc_0 rfl ?_
        refine bx_lconst C 1 25 dX8_beside_24 lc_1 rfl ?_
        refine bx_pSi C 28 fc_X8_46 (k_X8_in l E  _ _ _ _ hv) dX8_beside_25 ⟨rfl, rfl, Nat.le_of_ble_eq_true rfl, Nat.le_of_ble_eq_true rfl⟩ [] rfl (by decide) rfl rfl (Nat.le_of_ble_eq_true rfl) rfl (fun r16 hv => ?_)
        refine bx_if_ne C 36 31 dX8_beside_28 (by decide) rfl (fun h => ?_) (fun h => ?_)
        · replace hv := hv.1 h
          refine bx_aload_n C 37 dX8_beside_36 rfl rfl rfl ?_
          refine bx_iload_n C 38 dX8_beside_37 rfl rfl rfl ?_
          refine bx_pVi C 0 at_M_0 rfl 41 fc_X8_216 (k_X8_isOut l E a _ _ _ hv) dX8_beside_38 ⟨rfl, rfl, Nat.le_of_ble_eq_true rfl, Nat.le_of_ble_eq_true rfl⟩ [0, 1, 2, 3, 4, 5, 6, 7, 8, 9] ps_M_M_0 (by decide) rfl rfl (Nat.le_of_ble_eq_true rfl) rfl (fun r17 hv => ?_)
          refine bx_if_eq C 52 44 dX8_beside_41 (by decide) rfl (fun h => ?_) (fun h => ?_)
          · replace hv := hv.1 h
            exact bx_cut [0] (w_M E a u) rfl rfl (t_X8_beside_52 C   u  hv)
          · replace hv := hv.2 h
            refine bx_aload_n C 45 dX8_beside_44 rfl rfl rfl ?_
            refine bx_iload_n C 46 dX8_beside_45 rfl rfl rfl ?_
            refine bx_pVi C 0 at_M_0 rfl 49 fc_X8_216 (k_X8_isOut l E a _ _ _ hv) dX8_beside_46 ⟨rfl, rfl, Nat.le_of_ble_eq_true rfl, Nat.le_of_ble_eq_true rfl⟩ [0, 1, 2, 3, 4, 5, 6, 7, 8, 9] ps_M_M_0 (by decide) rfl rfl (Nat.le_of_ble_eq_true rfl) rfl (fun r18 hv => ?_)
            refine bx_if_ne C 57 52 dX8_beside_49 (by decide) rfl (fun h => ?_) (fun h => ?_)
            · replace hv := hv.1 h
              refine bx_iconst C (-1) 58 dX8_beside_57 ic_m1 rfl ?_
              refine bx_istore C 60 dX8_beside_58 (by decide) rfl ?_
              refine bx_iconst C (-1) 61 dX8_beside_60 ic_m1 rfl ?_
              refine bx_istore C 63 dX8_beside_61 (by decide) rfl ?_
              refine bx_iconst C 0 64 dX8_beside_63 ic_0 rfl ?_
              refine bx_istore C 66 dX8_beside_64 (by decide) rfl ?_
              obtain ⟨n19, hv⟩ := hv
              exact bx_cut [3, 4, 5, 6, 2, 1, 0] (w_M E a u) rfl rfl (t_X8_beside_66 C   n19 u x1 x2 x3 (-1) (-1) 0 hv)
            · replace hv := hv.2 h
              exact bx_cut [0] (w_M E a u) rfl rfl (t_X8_beside_52 C   u  hv)
        · replace hv := hv.2 h
          exact bx_cut [0] (w_M E a u) rfl rfl (t_X8_beside_31 C   u  hv)
theorem k_X8_beside (l : Launch) (E : bx_E) (a : Nat → Nat)  (K : Int32 → MS → Prop) (u : MS) (x1 : Int32) (x2 : Int32) (x3 : Int32) (hv : V_X8_beside  K u x1 x2 x3) : bx_Mi l E yX8_beside cX8_beside 9 (some .int) (rmD 5) [.ref (a 0), .int x1, .int x2, .int x3] (fun (u : MS) => w_M E a u) u K :=
  bx_meti (by decide +kernel) (Nat.le_of_ble_eq_true rfl) (fun p e S m below meth c C => t_X8_beside_0 C u x1 x2 x3 hv)
abbrev G_X8_wrong (p : Program) (l : Launch) (e : Env) (S : State) (m : MethodId) (args : Array Value) (below : List Frame) (meth : Method) (c : Code) (E : bx_E) (A : Nat → Prop) (a : Nat → Nat)  (u : MS) (K : Int32 → Prop) (pc : Nat) (lv : List (Nat × Value)) (st : List Value) (ws : va_W) : Prop := bx_S p l e (rmD 3) S m args below meth c 3 E A (MQ below (va_Qi (fun r (_ : Unit) => K r) (fun (_ : Unit) t => bx_B E A (w_M E a u) t) A) args S 0 0 A) 0 0 pc lv st ws
def V_X8_wrong_4  (K : Int32 → Prop)  : Nat → MS → Int32 → Int32 → Prop
  | 0, _, _, _ => False
  | n + 1, u, x1, x2 => (((u.1 8) ≤ x2 → K x1) ∧
 (¬ (u.1 8) ≤ x2 → (V_X8_isOut (fun r1 => ((¬ r1 = 0 → V_X8_wrong_4 K n u (x1 ||| 0) (x2 + 1)) ∧
 (r1 = 0 → (V_X8_cellOf (fun r2 => (V_X8_soulOf (fun r3 => ((r2 = r3 → V_X8_wrong_4 K n u (x1 ||| 0) (x2 + 1)) ∧
 (¬ r2 = r3 → V_X8_wrong_4 K n u (x1 ||| (1 <<< (x2 &&& 31))) (x2 + 1)))) u.1 x2 1)) u.1 x2)))) u x2)))
set_option maxRecDepth 20000 in
set_option maxHeartbeats 4000000 in
theorem t_X8_wrong_4 {a : Nat → Nat} {K : Int32 → Prop} (C : bx_C p (rmD 3) S m args meth c cX8_wrong 3 yX8_wrong.cls (some .int) E A 0 0) (u : MS)  : ∀ (n : Nat)  (x1 : Int32) (x2 : Int32), V_X8_wrong_4 K n u x1 x2 → G_X8_wrong p l e S m args below meth c E A a  u K 4 [(0, .ref (a 0)), (1, .int x1), (2, .int x2)] [] (w_M E a u) := by
  intro n
  induction n with
  | zero =>
    intro x1 x2 hv
    exact False.elim hv
  | succ n ih =>
    intro x1 x2 hv
    unfold V_X8_wrong_4 at hv
    refine bx_iload_n C 5 dX8_wrong_4 rfl rfl rfl ?_
    refine bx_aload_n C 6 dX8_wrong_5 rfl rfl rfl ?_
    refine bx_getf (v := .ref (a 1)) C 9 0 0 inX8 rfl (by decide) fl_X8_7 dX8_wrong_6 at_M_0 rfl rfl ?_
    refine bx_bipush C 8 11 dX8_wrong_9 bp_8 rfl ?_
    refine bx_iald_k (f := u.1) C 12 1 8 dX8_wrong_11 at_M_1 vin_8_171 cl_8 rfl ?_
    refine bx_icmp_ge C 59 15 dX8_wrong_12 (by decide) rfl (fun h => ?_) (fun h => ?_)
    · replace hv := hv.1 h
      refine bx_iload_n C 60 dX8_wrong_59 rfl rfl rfl ?_
      exact bx_iret C () rfl dX8_wrong_60 rfl hv
    · replace hv := hv.2 h
      refine bx_iload_n C 16 dX8_wrong_15 rfl rfl rfl ?_
      refine bx_aload_n C 17 dX8_wrong_16 rfl rfl rfl ?_
      refine bx_iload_n C 18 dX8_wrong_17 rfl rfl rfl ?_
      refine bx_pVi C 0 at_M_0 rfl 21 fc_X8_216 (k_X8_isOut l E a _ _ _ hv) dX8_wrong_18 ⟨rfl, rfl, Nat.le_of_ble_eq_true rfl, Nat.le_of_ble_eq_true rfl⟩ [0, 1, 2, 3, 4, 5, 6, 7, 8, 9] ps_M_M_0 (by decide) rfl rfl (Nat.le_of_ble_eq_true rfl) rfl (fun r1 hv => ?_)
      refine bx_if_ne C 50 24 dX8_wrong_21 (by decide) rfl (fun h => ?_) (fun h => ?_)
      · replace hv := hv.1 h
        refine bx_iconst C 0 51 dX8_wrong_50 ic_0 rfl ?_
        refine bx_ior C 52 dX8_wrong_51 rfl ?_
        refine bx_istore_n C 53 dX8_wrong_52 rfl (by decide) rfl ?_
        refine bx_iinc C 1 56 dX8_wrong_53 rfl (by decide) ic_1 rfl ?_
        refine bx_goto C 4 dX8_wrong_56 (by decide) ?_
        exact bx_cut [2, 1, 0] (w_M E a u) rfl rfl (ih  (x1 ||| 0) (x2 + 1) hv)
      · replace hv := hv.2 h
        refine bx_aload_n C 25 dX8_wrong_24 rfl rfl rfl ?_
        refine bx_getf (v := .ref (a 1)) C 28 0 0 inX8 rfl (by decide) fl_X8_7 dX8_wrong_25 at_M_0 rfl rfl ?_
        refine bx_iload_n C 29 dX8_wrong_28 rfl rfl rfl ?_
        refine bx_pSi C 32 fc_X8_59 (k_X8_cellOf l E (fun k => a (1 + k)) _ _ _ hv) dX8_wrong_29 ⟨rfl, rfl, Nat.le_of_ble_eq_true rfl, Nat.le_of_ble_eq_true rfl⟩ [1] ps_M_A_1 (by decide) rfl rfl (Nat.le_of_ble_eq_true rfl) rfl (fun r2 hv => ?_)
        refine bx_aload_n C 33 dX8_wrong_32 rfl rfl rfl ?_
        refine bx_getf (v := .ref (a 1)) C 36 0 0 inX8 rfl (by decide) fl_X8_7 dX8_wrong_33 at_M_0 rfl rfl ?_
        refine bx_iload_n C 37 dX8_wrong_36 rfl rfl rfl ?_
        refine bx_iconst C 1 38 dX8_wrong_37 ic_1 rfl ?_
        refine bx_pSi C 41 fc_X8_55 (k_X8_soulOf l E (fun k => a (1 + k)) _ _ _ _ hv) dX8_wrong_38 ⟨rfl, rfl, Nat.le_of_ble_eq_true rfl, Nat.le_of_ble_eq_true rfl⟩ [1] ps_M_A_1 (by decide) rfl rfl (Nat.le_of_ble_eq_true rfl) rfl (fun r3 hv => ?_)
        refine bx_icmp_eq C 50 44 dX8_wrong_41 (by decide) rfl (fun h => ?_) (fun h => ?_)
        · replace hv := hv.1 h
          refine bx_iconst C 0 51 dX8_wrong_50 ic_0 rfl ?_
          refine bx_ior C 52 dX8_wrong_51 rfl ?_
          refine bx_istore_n C 53 dX8_wrong_52 rfl (by decide) rfl ?_
          refine bx_iinc C 1 56 dX8_wrong_53 rfl (by decide) ic_1 rfl ?_
          refine bx_goto C 4 dX8_wrong_56 (by decide) ?_
          exact bx_cut [2, 1, 0] (w_M E a u) rfl rfl (ih  (x1 ||| 0) (x2 + 1) hv)
        · replace hv := hv.2 h
          refine bx_iconst C 1 45 dX8_wrong_44 ic_1 rfl ?_
          refine bx_iload_n C 46 dX8_wrong_45 rfl rfl rfl ?_
          refine bx_ishl C 47 dX8_wrong_46 rfl ?_
          refine bx_goto C 51 dX8_wrong_47 (by decide) ?_
          refine bx_ior C 52 dX8_wrong_51 rfl ?_
          refine bx_istore_n C 53 dX8_wrong_52 rfl (by decide) rfl ?_
          refine bx_iinc C 1 56 dX8_wrong_53 rfl (by decide) ic_1 rfl ?_
          refine bx_goto C 4 dX8_wrong_56 (by decide) ?_
          exact bx_cut [2, 1, 0] (w_M E a u) rfl rfl (ih  (x1 ||| (1 <<< (x2 &&& 31))) (x2 + 1) hv)
def V_X8_wrong  (K : Int32 → Prop)  (u : MS)  : Prop := ∃ n4, V_X8_wrong_4 K n4 u 0 0
set_option maxRecDepth 20000 in
set_option maxHeartbeats 4000000 in
theorem t_X8_wrong_0 {a : Nat → Nat} {K : Int32 → Prop} (C : bx_C p (rmD 3) S m args meth c cX8_wrong 3 yX8_wrong.cls (some .int) E A 0 0) (u : MS)    (hv : V_X8_wrong K u ) : G_X8_wrong p l e S m args below meth c E A a  u K 0 [(0, .ref (a 0))] [] (w_M E a u) := by
  unfold V_X8_wrong at hv
  refine bx_iconst C 0 1 dX8_wrong_0 ic_0 rfl ?_
  refine bx_istore_n C 2 dX8_wrong_1 rfl (by decide) rfl ?_
  refine bx_iconst C 0 3 dX8_wrong_2 ic_0 rfl ?_
  refine bx_istore_n C 4 dX8_wrong_3 rfl (by decide) rfl ?_
  obtain ⟨n4, hv⟩ := hv
  exact bx_cut [2, 1, 0] (w_M E a u) rfl rfl (t_X8_wrong_4 C u  n4  0 0 hv)
theorem k_X8_wrong (l : Launch) (E : bx_E) (a : Nat → Nat)  (K : Int32 → Prop) (u : MS)  (hv : V_X8_wrong  K u ) : bx_Mi l E yX8_wrong cX8_wrong 3 (some .int) (rmD 3) [.ref (a 0)] (fun (_ : Unit) => w_M E a u) () (fun r (_ : Unit) => K r) :=
  bx_meti (by decide +kernel) (Nat.le_of_ble_eq_true rfl) (fun p e S m below meth c C => t_X8_wrong_0 C u  hv)
abbrev G_X8_isBound (p : Program) (l : Launch) (e : Env) (S : State) (m : MethodId) (args : Array Value) (below : List Frame) (meth : Method) (c : Code) (E : bx_E) (A : Nat → Prop) (a : Nat → Nat)  (u : MS) (K : Int32 → Prop) (pc : Nat) (lv : List (Nat × Value)) (st : List Value) (ws : va_W) : Prop := bx_S p l e (rmD 3) S m args below meth c 4 E A (MQ below (va_Qi (fun r (_ : Unit) => K r) (fun (_ : Unit) t => bx_B E A (w_M E a u) t) A) args S 0 0 A) 0 0 pc lv st ws
def V_X8_isBound_16  (K : Int32 → Prop)  : Nat → MS → Int32 → Int32 → Int32 → Prop
  | 0, _, _, _, _ => False
  | n + 1, u, x1, x2, x3 => ((x1 ≤ x3 → ((x2 = 0 ∨ x2 = 1) ∧ K x2)) ∧
 (¬ x1 ≤ x3 → ((x2 = 0 → V_X8_isBound_16 K n u x1 0 (x3 + 1)) ∧
 (¬ x2 = 0 → (V_X8_isOut (fun r1 => ((¬ r1 = 0 → V_X8_isBound_16 K n u x1 1 (x3 + 1)) ∧
 (r1 = 0 → (V_X8_soulOf (fun r2 => (V_X8_soulOf (fun r3 => ((r2 = r3 → V_X8_isBound_16 K n u x1 0 (x3 + 1)) ∧
 (¬ r2 = r3 → V_X8_isBound_16 K n u x1 1 (x3 + 1)))) u.1 x1 1)) u.1 x3 1)))) u x3)))))
set_option maxRecDepth 20000 in
set_option maxHeartbeats 4000000 in
theorem t_X8_isBound_16 {a : Nat → Nat} {K : Int32 → Prop} (C : bx_C p (rmD 3) S m args meth c cX8_isBound 4 yX8_isBound.cls (some .boolean) E A 0 0) (u : MS)  : ∀ (n : Nat)  (x1 : Int32) (x2 : Int32) (x3 : Int32), V_X8_isBound_16 K n u x1 x2 x3 → G_X8_isBound p l e S m args below meth c E A a  u K 16 [(0, .ref (a 0)), (1, .int x1), (2, .int x2), (3, .int x3)] [] (w_M E a u) := by
  intro n
  induction n with
  | zero =>
    intro x1 x2 x3 hv
    exact False.elim hv
  | succ n ih =>
    intro x1 x2 x3 hv
    unfold V_X8_isBound_16 at hv
    refine bx_iload_n C 17 dX8_isBound_16 rfl rfl rfl ?_
    refine bx_iload_n C 18 dX8_isBound_17 rfl rfl rfl ?_
    refine bx_icmp_ge C 66 21 dX8_isBound_18 (by decide) rfl (fun h => ?_) (fun h => ?_)
    · replace hv := hv.1 h
      refine bx_iload_n C 67 dX8_isBound_66 rfl rfl rfl ?_
      exact bx_zret C () rfl dX8_isBound_67 rfl hv.1 hv.2
    · replace hv := hv.2 h
      refine bx_iload_n C 22 dX8_isBound_21 rfl rfl rfl ?_
      refine bx_if_eq C 58 25 dX8_isBound_22 (by decide) rfl (fun h => ?_) (fun h => ?_)
      · replace hv := hv.1 h
        refine bx_iconst C 0 59 dX8_isBound_58 ic_0 rfl ?_
        refine bx_istore_n C 60 dX8_isBound_59 rfl (by decide) rfl ?_
        refine bx_iinc C 1 63 dX8_isBound_60 rfl (by decide) ic_1 rfl ?_
        refine bx_goto C 16 dX8_isBound_63 (by decide) ?_
        exact bx_cut [2, 3, 1, 0] (w_M E a u) rfl rfl (ih  x1 0 (x3 + 1) hv)
      · replace hv := hv.2 h
        refine bx_aload_n C 26 dX8_isBound_25 rfl rfl rfl ?_
        refine bx_iload_n C 27 dX8_isBound_26 rfl rfl rfl ?_
        refine bx_pVi C 0 at_M_0 rfl 30 fc_X8_216 (k_X8_isOut l E a _ _ _ hv) dX8_isBound_27 ⟨rfl, rfl, Nat.le_of_ble_eq_true rfl, Nat.le_of_ble_eq_true rfl⟩ [0, 1, 2, 3, 4, 5, 6, 7, 8, 9] ps_M_M_0 (by decide) rfl rfl (Nat.le_of_ble_eq_true rfl) rfl (fun r1 hv => ?_)
        refine bx_if_ne C 54 33 dX8_isBound_30 (by decide) rfl (fun h => ?_) (fun h => ?_)
        · replace hv := hv.1 h
          refine bx_iconst C 1 55 dX8_isBound_54 ic_1 rfl ?_
          refine bx_goto C 59 dX8_isBound_55 (by decide) ?_
          refine bx_istore_n C 60 dX8_isBound_59 rfl (by decide) rfl ?_
          refine bx_iinc C 1 63 dX8_isBound_60 rfl (by decide) ic_1 rfl ?_
          refine bx_goto C 16 dX8_isBound_63 (by decide) ?_
          exact bx_cut [2, 3, 1, 0] (w_M E a u) rfl rfl (ih  x1 1 (x3 + 1) hv)
        · replace hv := hv.2 h
          refine bx_aload_n C 34 dX8_isBound_33 rfl rfl rfl ?_
          refine bx_getf (v := .ref (a 1)) C 37 0 0 inX8 rfl (by decide) fl_X8_7 dX8_isBound_34 at_M_0 rfl rfl ?_
          refine bx_iload_n C 38 dX8_isBound_37 rfl rfl rfl ?_
          refine bx_iconst C 1 39 dX8_isBound_38 ic_1 rfl ?_
          refine bx_pSi C 42 fc_X8_55 (k_X8_soulOf l E (fun k => a (1 + k)) _ _ _ _ hv) dX8_isBound_39 ⟨rfl, rfl, Nat.le_of_ble_eq_true rfl, Nat.le_of_ble_eq_true rfl⟩ [1] ps_M_A_1 (by decide) rfl rfl (Nat.le_of_ble_eq_true rfl) rfl (fun r2 hv => ?_)
          refine bx_aload_n C 43 dX8_isBound_42 rfl rfl rfl ?_
          refine bx_getf (v := .ref (a 1)) C 46 0 0 inX8 rfl (by decide) fl_X8_7 dX8_isBound_43 at_M_0 rfl rfl ?_
          refine bx_iload_n C 47 dX8_isBound_46 rfl rfl rfl ?_
          refine bx_iconst C 1 48 dX8_isBound_47 ic_1 rfl ?_
          refine bx_pSi C 51 fc_X8_55 (k_X8_soulOf l E (fun k => a (1 + k)) _ _ _ _ hv) dX8_isBound_48 ⟨rfl, rfl, Nat.le_of_ble_eq_true rfl, Nat.le_of_ble_eq_true rfl⟩ [1] ps_M_A_1 (by decide) rfl rfl (Nat.le_of_ble_eq_true rfl) rfl (fun r3 hv => ?_)
          refine bx_icmp_eq C 58 54 dX8_isBound_51 (by decide) rfl (fun h => ?_) (fun h => ?_)
          · replace hv := hv.1 h
            refine bx_iconst C 0 59 dX8_isBound_58 ic_0 rfl ?_
            refine bx_istore_n C 60 dX8_isBound_59 rfl (by decide) rfl ?_
            refine bx_iinc C 1 63 dX8_isBound_60 rfl (by decide) ic_1 rfl ?_
            refine bx_goto C 16 dX8_isBound_63 (by decide) ?_
            exact bx_cut [2, 3, 1, 0] (w_M E a u) rfl rfl (ih  x1 0 (x3 + 1) hv)
          · replace hv := hv.2 h
            refine bx_iconst C 1 55 dX8_isBound_54 ic_1 rfl ?_
            refine bx_goto C 59 dX8_isBound_55 (by decide) ?_
            refine bx_istore_n C 60 dX8_isBound_59 rfl (by decide) rfl ?_
            refine bx_iinc C 1 63 dX8_isBound_60 rfl (by decide) ic_1 rfl ?_
            refine bx_goto C 16 dX8_isBound_63 (by decide) ?_
            exact bx_cut [2, 3, 1, 0] (w_M E a u) rfl rfl (ih  x1 1 (x3 + 1) hv)
def V_X8_isBound  (K : Int32 → Prop)  (u : MS) (x1 : Int32) : Prop := (V_X8_isOut (fun r4 => ((¬ r4 = 0 → ∃ n5, V_X8_isBound_16 K n5 u x1 0 0) ∧
 (r4 = 0 → ∃ n6, V_X8_isBound_16 K n6 u x1 1 0))) u x1)
set_option maxRecDepth 20000 in
set_option maxHeartbeats 4000000 in
theorem t_X8_isBound_0 {a : Nat → Nat} {K : Int32 → Prop} (C : bx_C p (rmD 3) S m args meth c cX8_isBound 4 yX8_isBound.cls (some .boolean) E A 0 0) (u : MS)   (x1 : Int32) (hv : V_X8_isBound K u x1) : G_X8_isBound p l e S m args below meth c E A a  u K 0 [(0, .ref (a 0)), (1, .int x1)] [] (w_M E a u) := by
  unfold V_X8_isBound at hv
  refine bx_aload_n C 1 dX8_isBound_0 rfl rfl rfl ?_
  refine bx_iload_n C 2 dX8_isBound_1 rfl rfl rfl ?_
  refine bx_pVi C 0 at_M_0 rfl 5 fc_X8_216 (k_X8_isOut l E a _ _ _ hv) dX8_isBound_2 ⟨rfl, rfl, Nat.le_of_ble_eq_true rfl, Nat.le_of_ble_eq_true rfl⟩ [0, 1, 2, 3, 4, 5, 6, 7, 8, 9] ps_M_M_0 (by decide) rfl rfl (Nat.le_of_ble_eq_true rfl) rfl (fun r4 hv => ?_)
  refine bx_if_ne C 12 8 dX8_isBound_5 (by decide) rfl (fun h => ?_) (fun h => ?_)
  · replace hv := hv.1 h
    refine bx_iconst C 0 13 dX8_isBound_12 ic_0 rfl ?_
    refine bx_istore_n C 14 dX8_isBound_13 rfl (by decide) rfl ?_
    refine bx_iconst C 0 15 dX8_isBound_14 ic_0 rfl ?_
    refine bx_istore_n C 16 dX8_isBound_15 rfl (by decide) rfl ?_
    obtain ⟨n5, hv⟩ := hv
    exact bx_cut [2, 3, 1, 0] (w_M E a u) rfl rfl (t_X8_isBound_16 C u  n5  x1 0 0 hv)
  · replace hv := hv.2 h
    refine bx_iconst C 1 9 dX8_isBound_8 ic_1 rfl ?_
    refine bx_goto C 13 dX8_isBound_9 (by decide) ?_
    refine bx_istore_n C 14 dX8_isBound_13 rfl (by decide) rfl ?_
    refine bx_iconst C 0 15 dX8_isBound_14 ic_0 rfl ?_
    refine bx_istore_n C 16 dX8_isBound_15 rfl (by decide) rfl ?_
    obtain ⟨n6, hv⟩ := hv
    exact bx_cut [2, 3, 1, 0] (w_M E a u) rfl rfl (t_X8_isBound_16 C u  n6  x1 1 0 hv)
theorem k_X8_isBound (l : Launch) (E : bx_E) (a : Nat → Nat)  (K : Int32 → Prop) (u : MS) (x1 : Int32) (hv : V_X8_isBound  K u x1) : bx_Mi l E yX8_isBound cX8_isBound 4 (some .boolean) (rmD 3) [.ref (a 0), .int x1] (fun (_ : Unit) => w_M E a u) () (fun r (_ : Unit) => K r) :=
  bx_meti (by decide +kernel) (Nat.le_of_ble_eq_true rfl) (fun p e S m below meth c C => t_X8_isBound_0 C u x1 hv)
abbrev G_X8_inStubOf (p : Program) (l : Launch) (e : Env) (S : State) (m : MethodId) (args : Array Value) (below : List Frame) (meth : Method) (c : Code) (E : bx_E) (A : Nat → Prop) (a : Nat → Nat)  (u : MS) (K : Int32 → Prop) (pc : Nat) (lv : List (Nat × Value)) (st : List Value) (ws : va_W) : Prop := bx_S p l e (rmD 4) S m args below meth c 3 E A (MQ below (va_Qi (fun r (_ : Unit) => K r) (fun (_ : Unit) t => bx_B E A (w_M E a u) t) A) args S 0 0 A) 0 0 pc lv st ws
def V_X8_inStubOf  (K : Int32 → Prop)  (u : MS) (x1 : Int32) : Prop := (V_X8_soulOf (fun r1 => (V_X8_whoSits (fun r2 => ((r2 = (-1) → K (-1)) ∧
 (¬ r2 = (-1) → (V_X8_isBound (fun r3 => ((r3 = 0 → K (-1)) ∧
 (¬ r3 = 0 → K r2))) u r2)))) u.1 r1)) u.1 x1 1)
set_option maxRecDepth 20000 in
set_option maxHeartbeats 4000000 in
theorem t_X8_inStubOf_0 {a : Nat → Nat} {K : Int32 → Prop} (C : bx_C p (rmD 4) S m args meth c cX8_inStubOf 3 yX8_inStubOf.cls (some .int) E A 0 0) (u : MS)   (x1 : Int32) (hv : V_X8_inStubOf K u x1) : G_X8_inStubOf p l e S m args below meth c E A a  u K 0 [(0, .ref (a 0)), (1, .int x1)] [] (w_M E a u) := by
  unfold V_X8_inStubOf at hv
  refine bx_aload_n C 1 dX8_inStubOf_0 rfl rfl rfl ?_
  refine bx_getf (v := .ref (a 1)) C 4 0 0 inX8 rfl (by decide) fl_X8_7 dX8_inStubOf_1 at_M_0 rfl rfl ?_
  refine bx_aload_n C 5 dX8_inStubOf_4 rfl rfl rfl ?_
  refine bx_getf (v := .ref (a 1)) C 8 0 0 inX8 rfl (by decide) fl_X8_7 dX8_inStubOf_5 at_M_0 rfl rfl ?_
  refine bx_iload_n C 9 dX8_inStubOf_8 rfl rfl rfl ?_
  refine bx_iconst C 1 10 dX8_inStubOf_9 ic_1 rfl ?_
  refine bx_pSi C 13 fc_X8_55 (k_X8_soulOf l E (fun k => a (1 + k)) _ _ _ _ hv) dX8_inStubOf_10 ⟨rfl, rfl, Nat.le_of_ble_eq_true rfl, Nat.le_of_ble_eq_true rfl⟩ [1] ps_M_A_1 (by decide) rfl rfl (Nat.le_of_ble_eq_true rfl) rfl (fun r1 hv => ?_)
  refine bx_pSi C 16 fc_X8_63 (k_X8_whoSits l E (fun k => a (1 + k)) _ _ _ hv) dX8_inStubOf_13 ⟨rfl, rfl, Nat.le_of_ble_eq_true rfl, Nat.le_of_ble_eq_true rfl⟩ [1] ps_M_A_1 (by decide) rfl rfl (Nat.le_of_ble_eq_true rfl) rfl (fun r2 hv => ?_)
  refine bx_istore_n C 17 dX8_inStubOf_16 rfl (by decide) rfl ?_
  refine bx_iload_n C 18 dX8_inStubOf_17 rfl rfl rfl ?_
  refine bx_iconst C (-1) 19 dX8_inStubOf_18 ic_m1 rfl ?_
  refine bx_icmp_eq C 34 22 dX8_inStubOf_19 (by decide) rfl (fun h => ?_) (fun h => ?_)
  · replace hv := hv.1 h
    refine bx_iconst C (-1) 35 dX8_inStubOf_34 ic_m1 rfl ?_
    exact bx_iret C () rfl dX8_inStubOf_35 rfl hv
  · replace hv := hv.2 h
    refine bx_aload_n C 23 dX8_inStubOf_22 rfl rfl rfl ?_
    refine bx_iload_n C 24 dX8_inStubOf_23 rfl rfl rfl ?_
    refine bx_pVi C 0 at_M_0 rfl 27 fc_X8_231 (k_X8_isBound l E a _ _ _ hv) dX8_inStubOf_24 ⟨rfl, rfl, Nat.le_of_ble_eq_true rfl, Nat.le_of_ble_eq_true rfl⟩ [0, 1, 2, 3, 4, 5, 6, 7, 8, 9] ps_M_M_0 (by decide) rfl rfl (Nat.le_of_ble_eq_true rfl) rfl (fun r3 hv => ?_)
    refine bx_if_eq C 34 30 dX8_inStubOf_27 (by decide) rfl (fun h => ?_) (fun h => ?_)
    · replace hv := hv.1 h
      refine bx_iconst C (-1) 35 dX8_inStubOf_34 ic_m1 rfl ?_
      exact bx_iret C () rfl dX8_inStubOf_35 rfl hv
    · replace hv := hv.2 h
      refine bx_iload_n C 31 dX8_inStubOf_30 rfl rfl rfl ?_
      refine bx_goto C 35 dX8_inStubOf_31 (by decide) ?_
      exact bx_iret C () rfl dX8_inStubOf_35 rfl hv
theorem k_X8_inStubOf (l : Launch) (E : bx_E) (a : Nat → Nat)  (K : Int32 → Prop) (u : MS) (x1 : Int32) (hv : V_X8_inStubOf  K u x1) : bx_Mi l E yX8_inStubOf cX8_inStubOf 3 (some .int) (rmD 4) [.ref (a 0), .int x1] (fun (_ : Unit) => w_M E a u) () (fun r (_ : Unit) => K r) :=
  bx_meti (by decide +kernel) (Nat.le_of_ble_eq_true rfl) (fun p e S m below meth c C => t_X8_inStubOf_0 C u x1 hv)
abbrev G_X8_swaps (p : Program) (l : Launch) (e : Env) (S : State) (m : MethodId) (args : Array Value) (below : List Frame) (meth : Method) (c : Code) (E : bx_E) (A : Nat → Prop) (a : Nat → Nat)  (u : MS) (K : Int32 → Prop) (pc : Nat) (lv : List (Nat × Value)) (st : List Value) (ws : va_W) : Prop := bx_S p l e (rmD 5) S m args below meth c 6 E A (MQ below (va_Qi (fun r (_ : Unit) => K r) (fun (_ : Unit) t => bx_B E A (w_M E a u) t) A) args S 0 0 A) 0 0 pc lv st ws
def V_X8_swaps_85  (K : Int32 → Prop) (B6 : Int32 → Int32 → Int32 → Prop) (u : MS) (x1 : Int32) (x2 : Int32) (x3 : Int32) (x4 : Int32) : Prop := ((¬ x4 = x3 → B6  x1 (x2 + 0) (x3 + 1)) ∧
 (x4 = x3 → B6  x1 (x2 + 1) (x3 + 1)))
set_option maxRecDepth 20000 in
set_option maxHeartbeats 4000000 in
theorem t_X8_swaps_85 {a : Nat → Nat} {K : Int32 → Prop} (C : bx_C p (rmD 5) S m args meth c cX8_swaps 6 yX8_swaps.cls (some .int) E A 0 0) (u : MS) (B6 : Int32 → Int32 → Int32 → Prop) (hB6 : ∀  (x1 : Int32) (x2 : Int32) (x3 : Int32), B6  x1 x2 x3 → G_X8_swaps p l e S m args below meth c E A a  u K 6 [(0, .ref (a 0)), (1, .int x1), (2, .int x2), (3, .int x3)] [] (w_M E a u))  (x1 : Int32) (x2 : Int32) (x3 : Int32) (x4 : Int32) (hv : V_X8_swaps_85 K B6 u x1 x2 x3 x4) : G_X8_swaps p l e S m args below meth c E A a  u K 85 [(0, .ref (a 0)), (1, .int x1), (2, .int x2), (3, .int x3), (4, .int x4)] [] (w_M E a u) := by
  unfold V_X8_swaps_85 at hv
  refine bx_iload_n C 86 dX8_swaps_85 rfl rfl rfl ?_
  refine bx_iload C 88 dX8_swaps_86 rfl rfl ?_
  refine bx_iload_n C 89 dX8_swaps_88 rfl rfl rfl ?_
  refine bx_icmp_ne C 96 92 dX8_swaps_89 (by decide) rfl (fun h => ?_) (fun h => ?_)
  · replace hv := hv.1 h
    refine bx_iconst C 0 97 dX8_swaps_96 ic_0 rfl ?_
    refine bx_iadd C 98 dX8_swaps_97 rfl ?_
    refine bx_istore_n C 99 dX8_swaps_98 rfl (by decide) rfl ?_
    refine bx_iinc C 1 102 dX8_swaps_99 rfl (by decide) ic_1 rfl ?_
    refine bx_goto C 6 dX8_swaps_102 (by decide) ?_
    exact bx_cut [2, 3, 1, 0] (w_M E a u) rfl rfl (hB6  x1 (x2 + 0) (x3 + 1) hv)
  · replace hv := hv.2 h
    refine bx_iconst C 1 93 dX8_swaps_92 ic_1 rfl ?_
    refine bx_goto C 97 dX8_swaps_93 (by decide) ?_
    refine bx_iadd C 98 dX8_swaps_97 rfl ?_
    refine bx_istore_n C 99 dX8_swaps_98 rfl (by decide) rfl ?_
    refine bx_iinc C 1 102 dX8_swaps_99 rfl (by decide) ic_1 rfl ?_
    refine bx_goto C 6 dX8_swaps_102 (by decide) ?_
    exact bx_cut [2, 3, 1, 0] (w_M E a u) rfl rfl (hB6  x1 (x2 + 1) (x3 + 1) hv)
def V_X8_swaps_58  (K : Int32 → Prop) (B6 : Int32 → Int32 → Int32 → Prop) : Nat → MS → Int32 → Int32 → Int32 → Int32 → Int32 → Prop
  | 0, _, _, _, _, _, _ => False
  | n + 1, u, x1, x2, x3, x4, x5 => ((7 ≤ x5 → V_X8_swaps_85 K B6 u x1 x2 x3 x4) ∧
 (¬ 7 ≤ x5 → ((x4 ≤ x3 → V_X8_swaps_85 K B6 u x1 x2 x3 x4) ∧
 (¬ x4 ≤ x3 → (V_X8_inStubOf (fun r1 => V_X8_swaps_58 K B6 n u x1 x2 x3 r1 (x5 + 1)) u x4)))))
set_option maxRecDepth 20000 in
set_option maxHeartbeats 4000000 in
theorem t_X8_swaps_58 {a : Nat → Nat} {K : Int32 → Prop} (C : bx_C p (rmD 5) S m args meth c cX8_swaps 6 yX8_swaps.cls (some .int) E A 0 0) (u : MS) (B6 : Int32 → Int32 → Int32 → Prop) (hB6 : ∀  (x1 : Int32) (x2 : Int32) (x3 : Int32), B6  x1 x2 x3 → G_X8_swaps p l e S m args below meth c E A a  u K 6 [(0, .ref (a 0)), (1, .int x1), (2, .int x2), (3, .int x3)] [] (w_M E a u)) : ∀ (n : Nat)  (x1 : Int32) (x2 : Int32) (x3 : Int32) (x4 : Int32) (x5 : Int32), V_X8_swaps_58 K B6 n u x1 x2 x3 x4 x5 → G_X8_swaps p l e S m args below meth c E A a  u K 58 [(0, .ref (a 0)), (1, .int x1), (2, .int x2), (3, .int x3), (4, .int x4), (5, .int x5)] [] (w_M E a u) := by
  intro n
  induction n with
  | zero =>
    intro x1 x2 x3 x4 x5 hv
    exact False.elim hv
  | succ n ih =>
    intro x1 x2 x3 x4 x5 hv
    unfold V_X8_swaps_58 at hv
    refine bx_iload C 60 dX8_swaps_58 rfl rfl ?_
    refine bx_bipush C 7 62 dX8_swaps_60 bp_7 rfl ?_
    refine bx_icmp_ge C 85 65 dX8_swaps_62 (by decide) rfl (fun h => ?_) (fun h => ?_)
    · replace hv := hv.1 h
      exact bx_cut [0, 1, 2, 3, 4] (w_M E a u) rfl rfl (t_X8_swaps_85 C u _ hB6  x1 x2 x3 x4 hv)
    · replace hv := hv.2 h
      refine bx_iload C 67 dX8_swaps_65 rfl rfl ?_
      refine bx_iload_n C 68 dX8_swaps_67 rfl rfl rfl ?_
      refine bx_icmp_le C 85 71 dX8_swaps_68 (by decide) rfl (fun h => ?_) (fun h => ?_)
      · replace hv := hv.1 h
        exact bx_cut [0, 1, 2, 3, 4] (w_M E a u) rfl rfl (t_X8_swaps_85 C u _ hB6  x1 x2 x3 x4 hv)
      · replace hv := hv.2 h
        refine bx_aload_n C 72 dX8_swaps_71 rfl rfl rfl ?_
        refine bx_iload C 74 dX8_swaps_72 rfl rfl ?_
        refine bx_pVi C 0 at_M_0 rfl 77 fc_X8_234 (k_X8_inStubOf l E a _ _ _ hv) dX8_swaps_74 ⟨rfl, rfl, Nat.le_of_ble_eq_true rfl, Nat.le_of_ble_eq_true rfl⟩ [0, 1, 2, 3, 4, 5, 6, 7, 8, 9] ps_M_M_0 (by decide) rfl rfl (Nat.le_of_ble_eq_true rfl) rfl (fun r1 hv => ?_)
        refine bx_istore C 79 dX8_swaps_77 (by decide) rfl ?_
        refine bx_iinc C 1 82 dX8_swaps_79 rfl (by decide) ic_1 rfl ?_
        refine bx_goto C 58 dX8_swaps_82 (by decide) ?_
        exact bx_cut [2, 3, 4, 5, 1, 0] (w_M E a u) rfl rfl (ih  x1 x2 x3 r1 (x5 + 1) hv)
def V_X8_swaps_6  (K : Int32 → Prop)  : Nat → MS → Int32 → Int32 → Int32 → Prop
  | 0, _, _, _, _ => False
  | n + 1, u, x1, x2, x3 => (((u.1 8) ≤ x3 → K (x1 - x2)) ∧
 (¬ (u.1 8) ≤ x3 → (V_X8_isBound (fun r2 => ((r2 = 0 → V_X8_swaps_6 K n u x1 x2 (x3 + 1)) ∧
 (¬ r2 = 0 → (V_X8_cellOf (fun r3 => (V_X8_soulOf (fun r4 => ((r3 = r4 → V_X8_swaps_6 K n u x1 x2 (x3 + 1)) ∧
 (¬ r3 = r4 → (V_X8_inStubOf (fun r5 => ∃ n6, V_X8_swaps_58 K (fun y0 y1 y2 => V_X8_swaps_6 K n u y0 y1 y2) n6 u (x1 + 1) x2 x3 r5 0) u x3)))) u.1 x3 1)) u.1 x3)))) u x3)))
set_option maxRecDepth 20000 in
set_option maxHeartbeats 4000000 in
theorem t_X8_swaps_6 {a : Nat → Nat} {K : Int32 → Prop} (C : bx_C p (rmD 5) S m args meth c cX8_swaps 6 yX8_swaps.cls (some .int) E A 0 0) (u : MS)  : ∀ (n : Nat)  (x1 : Int32) (x2 : Int32) (x3 : Int32), V_X8_swaps_6 K n u x1 x2 x3 → G_X8_swaps p l e S m args below meth c E A a  u K 6 [(0, .ref (a 0)), (1, .int x1), (2, .int x2), (3, .int x3)] [] (w_M E a u) := by
  intro n
  induction n with
  | zero =>
    intro x1 x2 x3 hv
    exact False.elim hv
  | succ n ih =>
    intro x1 x2 x3 hv
    unfold V_X8_swaps_6 at hv
    refine bx_iload_n C 7 dX8_swaps_6 rfl rfl rfl ?_
    refine bx_aload_n C 8 dX8_swaps_7 rfl rfl rfl ?_
    refine bx_getf (v := .ref (a 1)) C 11 0 0 inX8 rfl (by decide) fl_X8_7 dX8_swaps_8 at_M_0 rfl rfl ?_
    refine bx_bipush C 8 13 dX8_swaps_11 bp_8 rfl ?_
    refine bx_iald_k (f := u.1) C 14 1 8 dX8_swaps_13 at_M_1 vin_8_171 cl_8 rfl ?_
    refine bx_icmp_ge C 105 17 dX8_swaps_14 (by decide) rfl (fun h => ?_) (fun h => ?_)
    · replace hv := hv.1 h
      refine bx_iload_n C 106 dX8_swaps_105 rfl rfl rfl ?_
      refine bx_iload_n C 107 dX8_swaps_106 rfl rfl rfl ?_
      refine bx_isub C 108 dX8_swaps_107 rfl ?_
      exact bx_iret C () rfl dX8_swaps_108 rfl hv
    · replace hv := hv.2 h
      refine bx_aload_n C 18 dX8_swaps_17 rfl rfl rfl ?_
      refine bx_iload_n C 19 dX8_swaps_18 rfl rfl rfl ?_
      refine bx_pVi C 0 at_M_0 rfl 22 fc_X8_231 (k_X8_isBound l E a _ _ _ hv) dX8_swaps_19 ⟨rfl, rfl, Nat.le_of_ble_eq_true rfl, Nat.le_of_ble_eq_true rfl⟩ [0, 1, 2, 3, 4, 5, 6, 7, 8, 9] ps_M_M_0 (by decide) rfl rfl (Nat.le_of_ble_eq_true rfl) rfl (fun r2 hv => ?_)
      refine bx_if_eq C 99 25 dX8_swaps_22 (by decide) rfl (fun h => ?_) (fun h => ?_)
      · replace hv := hv.1 h
        refine bx_iinc C 1 102 dX8_swaps_99 rfl (by decide) ic_1 rfl ?_
        refine bx_goto C 6 dX8_swaps_102 (by decide) ?_
        exact bx_cut [1, 2, 3, 0] (w_M E a u) rfl rfl (ih  x1 x2 (x3 + 1) hv)
      · replace hv := hv.2 h
        refine bx_aload_n C 26 dX8_swaps_25 rfl rfl rfl ?_
        refine bx_getf (v := .ref (a 1)) C 29 0 0 inX8 rfl (by decide) fl_X8_7 dX8_swaps_26 at_M_0 rfl rfl ?_
        refine bx_iload_n C 30 dX8_swaps_29 rfl rfl rfl ?_
        refine bx_pSi C 33 fc_X8_59 (k_X8_cellOf l E (fun k => a (1 + k)) _ _ _ hv) dX8_swaps_30 ⟨rfl, rfl, Nat.le_of_ble_eq_true rfl, Nat.le_of_ble_eq_true rfl⟩ [1] ps_M_A_1 (by decide) rfl rfl (Nat.le_of_ble_eq_true rfl) rfl (fun r3 hv => ?_)
        refine bx_aload_n C 34 dX8_swaps_33 rfl rfl rfl ?_
        refine bx_getf (v := .ref (a 1)) C 37 0 0 inX8 rfl (by decide) fl_X8_7 dX8_swaps_34 at_M_0 rfl rfl ?_
        refine bx_iload_n C 38 dX8_swaps_37 rfl rfl rfl ?_
        refine bx_iconst C 1 39 dX8_swaps_38 ic_1 rfl ?_
        refine bx_pSi C 42 fc_X8_55 (k_X8_soulOf l E (fun k => a (1 + k)) _ _ _ _ hv) dX8_swaps_39 ⟨rfl, rfl, Nat.le_of_ble_eq_true rfl, Nat.le_of_ble_eq_true rfl⟩ [1] ps_M_A_1 (by decide) rfl rfl (Nat.le_of_ble_eq_true rfl) rfl (fun r4 hv => ?_)
        refine bx_icmp_eq C 99 45 dX8_swaps_42 (by decide) rfl (fun h => ?_) (fun h => ?_)
        · replace hv := hv.1 h
          refine bx_iinc C 1 102 dX8_swaps_99 rfl (by decide) ic_1 rfl ?_
          refine bx_goto C 6 dX8_swaps_102 (by decide) ?_
          exact bx_cut [1, 2, 3, 0] (w_M E a u) rfl rfl (ih  x1 x2 (x3 + 1) hv)
        · replace hv := hv.2 h
          refine bx_iinc C 1 48 dX8_swaps_45 rfl (by decide) ic_1 rfl ?_
          refine bx_aload_n C 49 dX8_swaps_48 rfl rfl rfl ?_
          refine bx_iload_n C 50 dX8_swaps_49 rfl rfl rfl ?_
          refine bx_pVi C 0 at_M_0 rfl 53 fc_X8_234 (k_X8_inStubOf l E a _ _ _ hv) dX8_swaps_50 ⟨rfl, rfl, Nat.le_of_ble_eq_true rfl, Nat.le_of_ble_eq_true rfl⟩ [0, 1, 2, 3, 4, 5, 6, 7, 8, 9] ps_M_M_0 (by decide) rfl rfl (Nat.le_of_ble_eq_true rfl) rfl (fun r5 hv => ?_)
          refine bx_istore C 55 dX8_swaps_53 (by decide) rfl ?_
          refine bx_iconst C 0 56 dX8_swaps_55 ic_0 rfl ?_
          refine bx_istore C 58 dX8_swaps_56 (by decide) rfl ?_
          obtain ⟨n6, hv⟩ := hv
          exact bx_cut [3, 2, 4, 5, 1, 0] (w_M E a u) rfl rfl (t_X8_swaps_58 C u _ (fun y0 y1 y2 hv => ih y0 y1 y2 hv) n6  (x1 + 1) x2 x3 r5 0 hv)
def V_X8_swaps  (K : Int32 → Prop)  (u : MS)  : Prop := ∃ n7, V_X8_swaps_6 K n7 u 0 0 0
set_option maxRecDepth 20000 in
set_option maxHeartbeats 4000000 in
theorem t_X8_swaps_0 {a : Nat → Nat} {K : Int32 → Prop} (C : bx_C p (rmD 5) S m args meth c cX8_swaps 6 yX8_swaps.cls (some .int) E A 0 0) (u : MS)    (hv : V_X8_swaps K u ) : G_X8_swaps p l e S m args below meth c E A a  u K 0 [(0, .ref (a 0))] [] (w_M E a u) := by
  unfold V_X8_swaps at hv
  refine bx_iconst C 0 1 dX8_swaps_0 ic_0 rfl ?_
  refine bx_istore_n C 2 dX8_swaps_1 rfl (by decide) rfl ?_
  refine bx_iconst C 0 3 dX8_swaps_2 ic_0 rfl ?_
  refine bx_istore_n C 4 dX8_swaps_3 rfl (by decide) rfl ?_
  refine bx_iconst C 0 5 dX8_swaps_4 ic_0 rfl ?_
  refine bx_istore_n C 6 dX8_swaps_5 rfl (by decide) rfl ?_
  obtain ⟨n7, hv⟩ := hv
  exact bx_cut [3, 2, 1, 0] (w_M E a u) rfl rfl (t_X8_swaps_6 C u  n7  0 0 0 hv)
theorem k_X8_swaps (l : Launch) (E : bx_E) (a : Nat → Nat)  (K : Int32 → Prop) (u : MS)  (hv : V_X8_swaps  K u ) : bx_Mi l E yX8_swaps cX8_swaps 6 (some .int) (rmD 5) [.ref (a 0)] (fun (_ : Unit) => w_M E a u) () (fun r (_ : Unit) => K r) :=
  bx_meti (by decide +kernel) (Nat.le_of_ble_eq_true rfl) (fun p e S m below meth c C => t_X8_swaps_0 C u  hv)
abbrev G_X8_comesRow (p : Program) (l : Launch) (e : Env) (S : State) (m : MethodId) (args : Array Value) (below : List Frame) (meth : Method) (c : Code) (E : bx_E) (A : Nat → Prop) (a : Nat → Nat)  (K : (Nat → Int32) → Prop) (pc : Nat) (lv : List (Nat × Value)) (st : List Value) (ws : va_W) : Prop := bx_S p l e (rmD 0) S m args below meth c 8 E A (MQ below (va_Qv K (fun (u : (Nat → Int32)) t => bx_B E A (w_A E a u) t) A) args S 0 0 A) 0 0 pc lv st ws
def V_X8_comesRow_45  (K : (Nat → Int32) → Prop)  (u : (Nat → Int32)) (x1 : Int32) : Prop := (vp_in x1 171 ∧ (vp_in x1 171 ∧ K (upd u (x1 : Int32).toNatClampNeg ((u (x1 : Int32).toNatClampNeg) + 1))))
set_option maxRecDepth 20000 in
set_option maxHeartbeats 4000000 in
theorem t_X8_comesRow_45 {a : Nat → Nat} {K : (Nat → Int32) → Prop} (C : bx_C p (rmD 0) S m args meth c cX8_comesRow 8 yX8_comesRow.cls none E A 0 0)   (u : (Nat → Int32)) (x1 : Int32) (hv : V_X8_comesRow_45 K u x1) : G_X8_comesRow p l e S m args below meth c E A a  K 45 [(0, .ref (a 0)), (1, .int x1)] [] (w_A E a u) := by
  unfold V_X8_comesRow_45 at hv
  refine bx_aload_n C 46 dX8_comesRow_45 rfl rfl rfl ?_
  refine bx_iload_n C 47 dX8_comesRow_46 rfl rfl rfl ?_
  refine bx_dup2_11 C 48 dX8_comesRow_47 rfl rfl rfl ?_
  refine bx_iald (f := u) C 49 0 dX8_comesRow_48 rfl hv.1 rfl ?_
  replace hv := hv.2
  refine bx_iconst C 1 50 dX8_comesRow_49 ic_1 rfl ?_
  refine bx_iadd C 51 dX8_comesRow_50 rfl ?_
  refine bx_iast C 52 0 (w_A E a (upd u (x1 : Int32).toNatClampNeg ((u (x1 : Int32).toNatClampNeg) + 1))) dX8_comesRow_51 rfl hv.1 rfl rfl ?_
  replace hv := hv.2
  exact bx_vret C (upd u (x1 : Int32).toNatClampNeg ((u (x1 : Int32).toNatClampNeg) + 1)) rfl dX8_comesRow_52 rfl hv
def V_X8_comesRow  (K : (Nat → Int32) → Prop)  (u : (Nat → Int32)) (x1 : Int32) (x2 : Int32) (x3 : Int32) (x4 : Int32) (x5 : Int32) (x6 : Int32) : Prop := (vp_in x1 171 ∧ (vp_in ((x1 + 1) + (x2 * (u (x1 : Int32).toNatClampNeg))) 171 ∧ (vp_in (((x1 + 1) + (x2 * (u (x1 : Int32).toNatClampNeg))) + 1) 171 ∧ (vp_in (((x1 + 1) + (x2 * (u (x1 : Int32).toNatClampNeg))) + 2) 171 ∧ ((¬ x2 = 4 → V_X8_comesRow_45 K (upd (upd (upd u (((x1 + 1) + (x2 * (u (x1 : Int32).toNatClampNeg))) : Int32).toNatClampNeg x3) ((((x1 + 1) + (x2 * (u (x1 : Int32).toNatClampNeg))) + 1) : Int32).toNatClampNeg x4) ((((x1 + 1) + (x2 * (u (x1 : Int32).toNatClampNeg))) + 2) : Int32).toNatClampNeg x5) x1) ∧
 (x2 = 4 → (vp_in (((x1 + 1) + (x2 * (u (x1 : Int32).toNatClampNeg))) + 3) 171 ∧ V_X8_comesRow_45 K (upd (upd (upd (upd u (((x1 + 1) + (x2 * (u (x1 : Int32).toNatClampNeg))) : Int32).toNatClampNeg x3) ((((x1 + 1) + (x2 * (u (x1 : Int32).toNatClampNeg))) + 1) : Int32).toNatClampNeg x4) ((((x1 + 1) + (x2 * (u (x1 : Int32).toNatClampNeg))) + 2) : Int32).toNatClampNeg x5) ((((x1 + 1) + (x2 * (u (x1 : Int32).toNatClampNeg))) + 3) : Int32).toNatClampNeg x6) x1)))))))
set_option maxRecDepth 20000 in
set_option maxHeartbeats 4000000 in
theorem t_X8_comesRow_0 {a : Nat → Nat} {K : (Nat → Int32) → Prop} (C : bx_C p (rmD 0) S m args meth c cX8_comesRow 8 yX8_comesRow.cls none E A 0 0)   (u : (Nat → Int32)) (x1 : Int32) (x2 : Int32) (x3 : Int32) (x4 : Int32) (x5 : Int32) (x6 : Int32) (hv : V_X8_comesRow K u x1 x2 x3 x4 x5 x6) : G_X8_comesRow p l e S m args below meth c E A a  K 0 [(0, .ref (a 0)), (1, .int x1), (2, .int x2), (3, .int x3), (4, .int x4), (5, .int x5), (6, .int x6)] [] (w_A E a u) := by
  unfold V_X8_comesRow at hv
  refine bx_iload_n C 1 dX8_comesRow_0 rfl rfl rfl ?_
  refine bx_iconst C 1 2 dX8_comesRow_1 ic_1 rfl ?_
  refine bx_iadd C 3 dX8_comesRow_2 rfl ?_
  refine bx_iload_n C 4 dX8_comesRow_3 rfl rfl rfl ?_
  refine bx_aload_n C 5 dX8_comesRow_4 rfl rfl rfl ?_
  refine bx_iload_n C 6 dX8_comesRow_5 rfl rfl rfl ?_
  refine bx_iald (f := u) C 7 0 dX8_comesRow_6 rfl hv.1 rfl ?_
  replace hv := hv.2
  refine bx_imul C 8 dX8_comesRow_7 rfl ?_
  refine bx_iadd C 9 dX8_comesRow_8 rfl ?_
  refine bx_istore C 11 dX8_comesRow_9 (by decide) rfl ?_
  refine bx_aload_n C 12 dX8_comesRow_11 rfl rfl rfl ?_
  refine bx_iload C 14 dX8_comesRow_12 rfl rfl ?_
  refine bx_iload_n C 15 dX8_comesRow_14 rfl rfl rfl ?_
  refine bx_iast C 16 0 (w_A E a (upd u (((x1 + 1) + (x2 * (u (x1 : Int32).toNatClampNeg))) : Int32).toNatClampNeg x3)) dX8_comesRow_15 rfl hv.1 rfl rfl ?_
  replace hv := hv.2
  refine bx_aload_n C 17 dX8_comesRow_16 rfl rfl rfl ?_
  refine bx_iload C 19 dX8_comesRow_17 rfl rfl ?_
  refine bx_iconst C 1 20 dX8_comesRow_19 ic_1 rfl ?_
  refine bx_iadd C 21 dX8_comesRow_20 rfl ?_
  refine bx_iload C 23 dX8_comesRow_21 rfl rfl ?_
  refine bx_iast C 24 0 (w_A E a (upd (upd u (((x1 + 1) + (x2 * (u (x1 : Int32).toNatClampNeg))) : Int32).toNatClampNeg x3) ((((x1 + 1) + (x2 * (u (x1 : Int32).toNatClampNeg))) + 1) : Int32).toNatClampNeg x4)) dX8_comesRow_23 rfl hv.1 rfl rfl ?_
  replace hv := hv.2
  refine bx_aload_n C 25 dX8_comesRow_24 rfl rfl rfl ?_
  refine bx_iload C 27 dX8_comesRow_25 rfl rfl ?_
  refine bx_iconst C 2 28 dX8_comesRow_27 ic_2 rfl ?_
  refine bx_iadd C 29 dX8_comesRow_28 rfl ?_
  refine bx_iload C 31 dX8_comesRow_29 rfl rfl ?_
  refine bx_iast C 32 0 (w_A E a (upd (upd (upd u (((x1 + 1) + (x2 * (u (x1 : Int32).toNatClampNeg))) : Int32).toNatClampNeg x3) ((((x1 + 1) + (x2 * (u (x1 : Int32).toNatClampNeg))) + 1) : Int32).toNatClampNeg x4) ((((x1 + 1) + (x2 * (u (x1 : Int32).toNatClampNeg))) + 2) : Int32).toNatClampNeg x5)) dX8_comesRow_31 rfl hv.1 rfl rfl ?_
  replace hv := hv.2
  refine bx_iload_n C 33 dX8_comesRow_32 rfl rfl rfl ?_
  refine bx_iconst C 4 34 dX8_comesRow_33 ic_4 rfl ?_
  refine bx_icmp_ne C 45 37 dX8_comesRow_34 (by decide) rfl (fun h => ?_) (fun h => ?_)
  · replace hv := hv.1 h
    exact bx_cut [1, 2] (w_A E a (upd (upd (upd u (((x1 + 1) + (x2 * (u (x1 : Int32).toNatClampNeg))) : Int32).toNatClampNeg x3) ((((x1 + 1) + (x2 * (u (x1 : Int32).toNatClampNeg))) + 1) : Int32).toNatClampNeg x4) ((((x1 + 1) + (x2 * (u (x1 : Int32).toNatClampNeg))) + 2) : Int32).toNatClampNeg x5)) rfl rfl (t_X8_comesRow_45 C   (upd (upd (upd u (((x1 + 1) + (x2 * (u (x1 : Int32).toNatClampNeg))) : Int32).toNatClampNeg x3) ((((x1 + 1) + (x2 * (u (x1 : Int32).toNatClampNeg))) + 1) : Int32).toNatClampNeg x4) ((((x1 + 1) + (x2 * (u (x1 : Int32).toNatClampNeg))) + 2) : Int32).toNatClampNeg x5) x1 hv)
  · replace hv := hv.2 h
    refine bx_aload_n C 38 dX8_comesRow_37 rfl rfl rfl ?_
    refine bx_iload C 40 dX8_comesRow_38 rfl rfl ?_
    refine bx_iconst C 3 41 dX8_comesRow_40 ic_3 rfl ?_
    refine bx_iadd C 42 dX8_comesRow_41 rfl ?_
    refine bx_iload C 44 dX8_comesRow_42 rfl rfl ?_
    refine bx_iast C 45 0 (w_A E a (upd (upd (upd (upd u (((x1 + 1) + (x2 * (u (x1 : Int32).toNatClampNeg))) : Int32).toNatClampNeg x3) ((((x1 + 1) + (x2 * (u (x1 : Int32).toNatClampNeg))) + 1) : Int32).toNatClampNeg x4) ((((x1 + 1) + (x2 * (u (x1 : Int32).toNatClampNeg))) + 2) : Int32).toNatClampNeg x5) ((((x1 + 1) + (x2 * (u (x1 : Int32).toNatClampNeg))) + 3) : Int32).toNatClampNeg x6)) dX8_comesRow_44 rfl hv.1 rfl rfl ?_
    replace hv := hv.2
    exact bx_cut [1, 2] (w_A E a (upd (upd (upd (upd u (((x1 + 1) + (x2 * (u (x1 : Int32).toNatClampNeg))) : Int32).toNatClampNeg x3) ((((x1 + 1) + (x2 * (u (x1 : Int32).toNatClampNeg))) + 1) : Int32).toNatClampNeg x4) ((((x1 + 1) + (x2 * (u (x1 : Int32).toNatClampNeg))) + 2) : Int32).toNatClampNeg x5) ((((x1 + 1) + (x2 * (u (x1 : Int32).toNatClampNeg))) + 3) : Int32).toNatClampNeg x6)) rfl rfl (t_X8_comesRow_45 C   (upd (upd (upd (upd u (((x1 + 1) + (x2 * (u (x1 : Int32).toNatClampNeg))) : Int32).toNatClampNeg x3) ((((x1 + 1) + (x2 * (u (x1 : Int32).toNatClampNeg))) + 1) : Int32).toNatClampNeg x4) ((((x1 + 1) + (x2 * (u (x1 : Int32).toNatClampNeg))) + 2) : Int32).toNatClampNeg x5) ((((x1 + 1) + (x2 * (u (x1 : Int32).toNatClampNeg))) + 3) : Int32).toNatClampNeg x6) x1 hv)
theorem k_X8_comesRow (l : Launch) (E : bx_E) (a : Nat → Nat)  (K : (Nat → Int32) → Prop) (u : (Nat → Int32)) (x1 : Int32) (x2 : Int32) (x3 : Int32) (x4 : Int32) (x5 : Int32) (x6 : Int32) (hv : V_X8_comesRow  K u x1 x2 x3 x4 x5 x6) : bx_Mv l E yX8_comesRow cX8_comesRow 8 none (rmD 0) [.ref (a 0), .int x1, .int x2, .int x3, .int x4, .int x5, .int x6] (fun (u : (Nat → Int32)) => w_A E a u) u K :=
  bx_metv (by decide +kernel) (Nat.le_of_ble_eq_true rfl) (fun p e S m below meth c C => t_X8_comesRow_0 C u x1 x2 x3 x4 x5 x6 hv)
abbrev G_X8_told (p : Program) (l : Launch) (e : Env) (S : State) (m : MethodId) (args : Array Value) (below : List Frame) (meth : Method) (c : Code) (E : bx_E) (A : Nat → Prop) (a : Nat → Nat)  (u : MS) (K : Int32 → Prop) (pc : Nat) (lv : List (Nat × Value)) (st : List Value) (ws : va_W) : Prop := bx_S p l e (rmD 0) S m args below meth c 5 E A (MQ below (va_Qi (fun r (_ : Unit) => K r) (fun (_ : Unit) t => bx_B E A (w_M E a u) t) A) args S 0 0 A) 0 0 pc lv st ws
def V_X8_told  (K : Int32 → Prop)  (u : MS) (x1 : Int32) (x2 : Int32) (x3 : Int32) (x4 : Int32) : Prop := (vp_in (((x1 + 1) + (x2 * x3)) + x4) 171 ∧ K (u.1 ((((x1 + 1) + (x2 * x3)) + x4) : Int32).toNatClampNeg))
set_option maxRecDepth 20000 in
set_option maxHeartbeats 4000000 in
theorem t_X8_told_0 {a : Nat → Nat} {K : Int32 → Prop} (C : bx_C p (rmD 0) S m args meth c cX8_told 5 yX8_told.cls (some .int) E A 0 0) (u : MS)   (x1 : Int32) (x2 : Int32) (x3 : Int32) (x4 : Int32) (hv : V_X8_told K u x1 x2 x3 x4) : G_X8_told p l e S m args below meth c E A a  u K 0 [(0, .ref (a 0)), (1, .int x1), (2, .int x2), (3, .int x3), (4, .int x4)] [] (w_M E a u) := by
  unfold V_X8_told at hv
  refine bx_aload_n C 1 dX8_told_0 rfl rfl rfl ?_
  refine bx_getf (v := .ref (a 1)) C 4 0 0 inX8 rfl (by decide) fl_X8_7 dX8_told_1 at_M_0 rfl rfl ?_
  refine bx_iload_n C 5 dX8_told_4 rfl rfl rfl ?_
  refine bx_iconst C 1 6 dX8_told_5 ic_1 rfl ?_
  refine bx_iadd C 7 dX8_told_6 rfl ?_
  refine bx_iload_n C 8 dX8_told_7 rfl rfl rfl ?_
  refine bx_iload_n C 9 dX8_told_8 rfl rfl rfl ?_
  refine bx_imul C 10 dX8_told_9 rfl ?_
  refine bx_iadd C 11 dX8_told_10 rfl ?_
  refine bx_iload C 13 dX8_told_11 rfl rfl ?_
  refine bx_iadd C 14 dX8_told_13 rfl ?_
  refine bx_iald (f := u.1) C 15 1 dX8_told_14 at_M_1 hv.1 rfl ?_
  replace hv := hv.2
  exact bx_iret C () rfl dX8_told_15 rfl hv
theorem k_X8_told (l : Launch) (E : bx_E) (a : Nat → Nat)  (K : Int32 → Prop) (u : MS) (x1 : Int32) (x2 : Int32) (x3 : Int32) (x4 : Int32) (hv : V_X8_told  K u x1 x2 x3 x4) : bx_Mi l E yX8_told cX8_told 5 (some .int) (rmD 0) [.ref (a 0), .int x1, .int x2, .int x3, .int x4] (fun (_ : Unit) => w_M E a u) () (fun r (_ : Unit) => K r) :=
  bx_meti (by decide +kernel) (Nat.le_of_ble_eq_true rfl) (fun p e S m below meth c C => t_X8_told_0 C u x1 x2 x3 x4 hv)
abbrev G_X8_seen (p : Program) (l : Launch) (e : Env) (S : State) (m : MethodId) (args : Array Value) (below : List Frame) (meth : Method) (c : Code) (E : bx_E) (A : Nat → Prop) (a : Nat → Nat)  (K : Int32 → MS → Prop) (pc : Nat) (lv : List (Nat × Value)) (st : List Value) (ws : va_W) : Prop := bx_S p l e (rmD 2) S m args below meth c 4 E A (MQ below (va_Qi K (fun (u : MS) t => bx_B E A (w_M E a u) t) A) args S 0 0 A) 0 0 pc lv st ws
def V_X8_seen_32  (K : Int32 → MS → Prop)  (u : MS)  : Prop := (V_X8_bad (fun r1 u2 => K r1 u2) u )
set_option maxRecDepth 20000 in
set_option maxHeartbeats 4000000 in
theorem t_X8_seen_32 {a : Nat → Nat} {K : Int32 → MS → Prop} (C : bx_C p (rmD 2) S m args meth c cX8_seen 4 yX8_seen.cls (some .int) E A 0 0)   (u : MS)  (hv : V_X8_seen_32 K u ) : G_X8_seen p l e S m args below meth c E A a  K 32 [(0, .ref (a 0))] [] (w_M E a u) := by
  unfold V_X8_seen_32 at hv
  refine bx_aload_n C 33 dX8_seen_32 rfl rfl rfl ?_
  refine bx_qVi C 0 at_M_0 rfl 36 fc_X8_101 (k_X8_bad l E a _ _ hv) dX8_seen_33 ⟨rfl, rfl, Nat.le_of_ble_eq_true rfl, Nat.le_of_ble_eq_true rfl⟩ [0, 1, 2, 3, 4, 5, 6, 7, 8, 9] (fun u2 => w_M E a u2) ps_M_M_0 (by decide) ad_M pu_M_M_0 rfl rfl (Nat.le_of_ble_eq_true rfl) rfl (fun r1 u2 hv => ?_)
  exact bx_iret C u2 rfl dX8_seen_36 rfl hv
def V_X8_seen  (K : Int32 → MS → Prop)  (u : MS) (x1 : Int32) (x2 : Int32) (x3 : Int32) : Prop := (V_X8_isSoul (fun r3 => ((r3 = 0 → V_X8_seen_32 K u ) ∧
 (¬ r3 = 0 → (V_X8_in (fun r4 => ((r4 = 0 → V_X8_seen_32 K u ) ∧
 (¬ r4 = 0 → (V_X8_in (fun r5 => ((¬ r5 = 0 → ((¬ (u.1 30) = 5 → (V_X8_comesRow (fun u6 => K (u6 30) (u6, u.2)) u.1 30 3 x1 x2 x3 0)) ∧
 ((u.1 30) = 5 → (V_X8_full (fun r7 u8 => K r7 u8) u )))) ∧
 (r5 = 0 → V_X8_seen_32 K u )))  ((x3 : Int32).toInt64) 0 40))))  ((x2 : Int32).toInt64) 0 99)))) u x1)
set_option maxRecDepth 20000 in
set_option maxHeartbeats 4000000 in
theorem t_X8_seen_0 {a : Nat → Nat} {K : Int32 → MS → Prop} (C : bx_C p (rmD 2) S m args meth c cX8_seen 4 yX8_seen.cls (some .int) E A 0 0)   (u : MS) (x1 : Int32) (x2 : Int32) (x3 : Int32) (hv : V_X8_seen K u x1 x2 x3) : G_X8_seen p l e S m args below meth c E A a  K 0 [(0, .ref (a 0)), (1, .int x1), (2, .int x2), (3, .int x3)] [] (w_M E a u) := by
  unfold V_X8_seen at hv
  refine bx_aload_n C 1 dX8_seen_0 rfl rfl rfl ?_
  refine bx_iload_n C 2 dX8_seen_1 rfl rfl rfl ?_
  refine bx_pVi C 0 at_M_0 rfl 5 fc_X8_203 (k_X8_isSoul l E a _ _ _ hv) dX8_seen_2 ⟨rfl, rfl, Nat.le_of_ble_eq_true rfl, Nat.le_of_ble_eq_true rfl⟩ [0, 1, 2, 3, 4, 5, 6, 7, 8, 9] ps_M_M_0 (by decide) rfl rfl (Nat.le_of_ble_eq_true rfl) rfl (fun r3 hv => ?_)
  refine bx_if_eq C 32 8 dX8_seen_5 (by decide) rfl (fun h => ?_) (fun h => ?_)
  · replace hv := hv.1 h
    exact bx_cut [0] (w_M E a u) rfl rfl (t_X8_seen_32 C   u  hv)
  · replace hv := hv.2 h
    refine bx_iload_n C 9 dX8_seen_8 rfl rfl rfl ?_
    refine bx_i2l C 10 dX8_seen_9 rfl ?_
    refine bx_lconst C 0 11 dX8_seen_10 lc_0 rfl ?_
    refine bx_ldc2 C 14 cs_X8_209 dX8_seen_11 rfl ?_
    refine bx_pSi C 17 fc_X8_46 (k_X8_in l E  _ _ _ _ hv) dX8_seen_14 ⟨rfl, rfl, Nat.le_of_ble_eq_true rfl, Nat.le_of_ble_eq_true rfl⟩ [] rfl (by decide) rfl rfl (Nat.le_of_ble_eq_true rfl) rfl (fun r4 hv => ?_)
    refine bx_if_eq C 32 20 dX8_seen_17 (by decide) rfl (fun h => ?_) (fun h => ?_)
    · replace hv := hv.1 h
      exact bx_cut [0] (w_M E a u) rfl rfl (t_X8_seen_32 C   u  hv)
    · replace hv := hv.2 h
      refine bx_iload_n C 21 dX8_seen_20 rfl rfl rfl ?_
      refine bx_i2l C 22 dX8_seen_21 rfl ?_
      refine bx_lconst C 0 23 dX8_seen_22 lc_0 rfl ?_
      refine bx_ldc2 C 26 cs_X8_237 dX8_seen_23 rfl ?_
      refine bx_pSi C 29 fc_X8_46 (k_X8_in l E  _ _ _ _ hv) dX8_seen_26 ⟨rfl, rfl, Nat.le_of_ble_eq_true rfl, Nat.le_of_ble_eq_true rfl⟩ [] rfl (by decide) rfl rfl (Nat.le_of_ble_eq_true rfl) rfl (fun r5 hv => ?_)
      refine bx_if_ne C 37 32 dX8_seen_29 (by decide) rfl (fun h => ?_) (fun h => ?_)
      · replace hv := hv.1 h
        refine bx_aload_n C 38 dX8_seen_37 rfl rfl rfl ?_
        refine bx_getf (v := .ref (a 1)) C 41 0 0 inX8 rfl (by decide) fl_X8_7 dX8_seen_38 at_M_0 rfl rfl ?_
        refine bx_bipush C 30 43 dX8_seen_41 bp_30 rfl ?_
        refine bx_iald_k (f := u.1) C 44 1 30 dX8_seen_43 at_M_1 vin_30_171 cl_30 rfl ?_
        refine bx_iconst C 5 45 dX8_seen_44 ic_5 rfl ?_
        refine bx_icmp_ne C 53 48 dX8_seen_45 (by decide) rfl (fun h => ?_) (fun h => ?_)
        · replace hv := hv.1 h
          refine bx_aload_n C 54 dX8_seen_53 rfl rfl rfl ?_
          refine bx_getf (v := .ref (a 1)) C 57 0 0 inX8 rfl (by decide) fl_X8_7 dX8_seen_54 at_M_0 rfl rfl ?_
          refine bx_bipush C 30 59 dX8_seen_57 bp_30 rfl ?_
          refine bx_iconst C 3 60 dX8_seen_59 ic_3 rfl ?_
          refine bx_iload_n C 61 dX8_seen_60 rfl rfl rfl ?_
          refine bx_iload_n C 62 dX8_seen_61 rfl rfl rfl ?_
          refine bx_iload_n C 63 dX8_seen_62 rfl rfl rfl ?_
          refine bx_iconst C 0 64 dX8_seen_63 ic_0 rfl ?_
          refine bx_qSv C 67 fc_X8_239 (k_X8_comesRow l E (fun k => a (1 + k)) _ _ _ _ _ _ _ _ hv) dX8_seen_64 ⟨rfl, rfl, Nat.le_of_ble_eq_true rfl, Nat.le_of_ble_eq_true rfl⟩ [1] (fun u6 => w_M E a (u6, u.2)) ps_M_A_1 (by decide) ad_A pu_M_A_1 rfl rfl (Nat.le_of_ble_eq_true rfl) rfl (fun u6 hv => ?_)
          refine bx_aload_n C 68 dX8_seen_67 rfl rfl rfl ?_
          refine bx_getf (v := .ref (a 1)) C 71 0 0 inX8 rfl (by decide) fl_X8_7 dX8_seen_68 at_M_0 rfl rfl ?_
          refine bx_bipush C 30 73 dX8_seen_71 bp_30 rfl ?_
          refine bx_iald_k (f := u6) C 74 1 30 dX8_seen_73 at_M_1 vin_30_171 cl_30 rfl ?_
          exact bx_iret C (u6, u.2) rfl dX8_seen_74 rfl hv
        · replace hv := hv.2 h
          refine bx_aload_n C 49 dX8_seen_48 rfl rfl rfl ?_
          refine bx_qVi C 0 at_M_0 rfl 52 fc_X8_109 (k_X8_full l E a _ _ hv) dX8_seen_49 ⟨rfl, rfl, Nat.le_of_ble_eq_true rfl, Nat.le_of_ble_eq_true rfl⟩ [0, 1, 2, 3, 4, 5, 6, 7, 8, 9] (fun u8 => w_M E a u8) ps_M_M_0 (by decide) ad_M pu_M_M_0 rfl rfl (Nat.le_of_ble_eq_true rfl) rfl (fun r7 u8 hv => ?_)
          exact bx_iret C u8 rfl dX8_seen_52 rfl hv
      · replace hv := hv.2 h
        exact bx_cut [0] (w_M E a u) rfl rfl (t_X8_seen_32 C   u  hv)
theorem k_X8_seen (l : Launch) (E : bx_E) (a : Nat → Nat)  (K : Int32 → MS → Prop) (u : MS) (x1 : Int32) (x2 : Int32) (x3 : Int32) (hv : V_X8_seen  K u x1 x2 x3) : bx_Mi l E yX8_seen cX8_seen 4 (some .int) (rmD 2) [.ref (a 0), .int x1, .int x2, .int x3] (fun (u : MS) => w_M E a u) u K :=
  bx_meti (by decide +kernel) (Nat.le_of_ble_eq_true rfl) (fun p e S m below meth c C => t_X8_seen_0 C u x1 x2 x3 hv)
abbrev G_X8_passes (p : Program) (l : Launch) (e : Env) (S : State) (m : MethodId) (args : Array Value) (below : List Frame) (meth : Method) (c : Code) (E : bx_E) (A : Nat → Prop) (a : Nat → Nat)  (u : MS) (K : Int32 → Prop) (pc : Nat) (lv : List (Nat × Value)) (st : List Value) (ws : va_W) : Prop := bx_S p l e (rmD 3) S m args below meth c 2 E A (MQ below (va_Qi (fun r (_ : Unit) => K r) (fun (_ : Unit) t => bx_B E A (w_M E a u) t) A) args S 0 0 A) 0 0 pc lv st ws
def V_X8_passes  (K : Int32 → Prop)  (u : MS) (x1 : Int32) : Prop := (V_X8_knees (fun r1 => K r1) u.1 x1 (-1))
set_option maxRecDepth 20000 in
set_option maxHeartbeats 4000000 in
theorem t_X8_passes_0 {a : Nat → Nat} {K : Int32 → Prop} (C : bx_C p (rmD 3) S m args meth c cX8_passes 2 yX8_passes.cls (some .int) E A 0 0) (u : MS)   (x1 : Int32) (hv : V_X8_passes K u x1) : G_X8_passes p l e S m args below meth c E A a  u K 0 [(0, .ref (a 0)), (1, .int x1)] [] (w_M E a u) := by
  unfold V_X8_passes at hv
  refine bx_aload_n C 1 dX8_passes_0 rfl rfl rfl ?_
  refine bx_getf (v := .ref (a 1)) C 4 0 0 inX8 rfl (by decide) fl_X8_7 dX8_passes_1 at_M_0 rfl rfl ?_
  refine bx_iload_n C 5 dX8_passes_4 rfl rfl rfl ?_
  refine bx_iconst C (-1) 6 dX8_passes_5 ic_m1 rfl ?_
  refine bx_pSi C 9 fc_X8_70 (k_X8_knees l E (fun k => a (1 + k)) _ _ _ _ hv) dX8_passes_6 ⟨rfl, rfl, Nat.le_of_ble_eq_true rfl, Nat.le_of_ble_eq_true rfl⟩ [1] ps_M_A_1 (by decide) rfl rfl (Nat.le_of_ble_eq_true rfl) rfl (fun r1 hv => ?_)
  exact bx_iret C () rfl dX8_passes_9 rfl hv
theorem k_X8_passes (l : Launch) (E : bx_E) (a : Nat → Nat)  (K : Int32 → Prop) (u : MS) (x1 : Int32) (hv : V_X8_passes  K u x1) : bx_Mi l E yX8_passes cX8_passes 2 (some .int) (rmD 3) [.ref (a 0), .int x1] (fun (_ : Unit) => w_M E a u) () (fun r (_ : Unit) => K r) :=
  bx_meti (by decide +kernel) (Nat.le_of_ble_eq_true rfl) (fun p e S m below meth c C => t_X8_passes_0 C u x1 hv)
abbrev G_X8_mayBe (p : Program) (l : Launch) (e : Env) (S : State) (m : MethodId) (args : Array Value) (below : List Frame) (meth : Method) (c : Code) (E : bx_E) (A : Nat → Prop) (a : Nat → Nat)  (u : MS) (K : Int32 → Prop) (pc : Nat) (lv : List (Nat × Value)) (st : List Value) (ws : va_W) : Prop := bx_S p l e (rmD 4) S m args below meth c 5 E A (MQ below (va_Qi (fun r (_ : Unit) => K r) (fun (_ : Unit) t => bx_B E A (w_M E a u) t) A) args S 0 0 A) 0 0 pc lv st ws
def V_X8_mayBe_12  (K : Int32 → Prop)  : Nat → MS → Int32 → Int32 → Int32 → Int32 → Prop
  | 0, _, _, _, _, _ => False
  | n + 1, u, x1, x2, x3, x4 => (((u.1 30) ≤ x4 → ((x3 = 0 ∨ x3 = 1) ∧ K x3)) ∧
 (¬ (u.1 30) ≤ x4 → ((x3 = 0 → V_X8_mayBe_12 K n u x1 x2 0 (x4 + 1)) ∧
 (¬ x3 = 0 → (V_X8_told (fun r1 => ((¬ r1 = x1 → V_X8_mayBe_12 K n u x1 x2 1 (x4 + 1)) ∧
 (r1 = x1 → (V_X8_soulOf (fun r2 => (V_X8_passes (fun r3 => (V_X8_told (fun r4 => (V_X8_fussBy (fun r5 => (V_X8_told (fun r6 => ((¬ r5 = r6 → V_X8_mayBe_12 K n u x1 x2 0 (x4 + 1)) ∧
 (r5 = r6 → V_X8_mayBe_12 K n u x1 x2 1 (x4 + 1)))) u 30 3 x4 2))  r2 r3 r4)) u 30 3 x4 1)) u x2)) u.1 x1 0)))) u 30 3 x4 0)))))
set_option maxRecDepth 20000 in
set_option maxHeartbeats 4000000 in
theorem t_X8_mayBe_12 {a : Nat → Nat} {K : Int32 → Prop} (C : bx_C p (rmD 4) S m args meth c cX8_mayBe 5 yX8_mayBe.cls (some .boolean) E A 0 0) (u : MS)  : ∀ (n : Nat)  (x1 : Int32) (x2 : Int32) (x3 : Int32) (x4 : Int32), V_X8_mayBe_12 K n u x1 x2 x3 x4 → G_X8_mayBe p l e S m args below meth c E A a  u K 12 [(0, .ref (a 0)), (1, .int x1), (2, .int x2), (3, .int x3), (4, .int x4)] [] (w_M E a u) := by
  intro n
  induction n with
  | zero =>
    intro x1 x2 x3 x4 hv
    exact False.elim hv
  | succ n ih =>
    intro x1 x2 x3 x4 hv
    unfold V_X8_mayBe_12 at hv
    refine bx_iload C 14 dX8_mayBe_12 rfl rfl ?_
    refine bx_aload_n C 15 dX8_mayBe_14 rfl rfl rfl ?_
    refine bx_getf (v := .ref (a 1)) C 18 0 0 inX8 rfl (by decide) fl_X8_7 dX8_mayBe_15 at_M_0 rfl rfl ?_
    refine bx_bipush C 30 20 dX8_mayBe_18 bp_30 rfl ?_
    refine bx_iald_k (f := u.1) C 21 1 30 dX8_mayBe_20 at_M_1 vin_30_171 cl_30 rfl ?_
    refine bx_icmp_ge C 94 24 dX8_mayBe_21 (by decide) rfl (fun h => ?_) (fun h => ?_)
    · replace hv := hv.1 h
      refine bx_iload_n C 95 dX8_mayBe_94 rfl rfl rfl ?_
      exact bx_zret C () rfl dX8_mayBe_95 rfl hv.1 hv.2
    · replace hv := hv.2 h
      refine bx_iload_n C 25 dX8_mayBe_24 rfl rfl rfl ?_
      refine bx_if_eq C 86 28 dX8_mayBe_25 (by decide) rfl (fun h => ?_) (fun h => ?_)
      · replace hv := hv.1 h
        refine bx_iconst C 0 87 dX8_mayBe_86 ic_0 rfl ?_
        refine bx_istore_n C 88 dX8_mayBe_87 rfl (by decide) rfl ?_
        refine bx_iinc C 1 91 dX8_mayBe_88 rfl (by decide) ic_1 rfl ?_
        refine bx_goto C 12 dX8_mayBe_91 (by decide) ?_
        exact bx_cut [2, 3, 4, 1, 0] (w_M E a u) rfl rfl (ih  x1 x2 0 (x4 + 1) hv)
      · replace hv := hv.2 h
        refine bx_aload_n C 29 dX8_mayBe_28 rfl rfl rfl ?_
        refine bx_bipush C 30 31 dX8_mayBe_29 bp_30 rfl ?_
        refine bx_iconst C 3 32 dX8_mayBe_31 ic_3 rfl ?_
        refine bx_iload C 34 dX8_mayBe_32 rfl rfl ?_
        refine bx_iconst C 0 35 dX8_mayBe_34 ic_0 rfl ?_
        refine bx_pVi C 0 at_M_0 rfl 38 fc_X8_243 (k_X8_told l E a _ _ _ _ _ _ hv) dX8_mayBe_35 ⟨rfl, rfl, Nat.le_of_ble_eq_true rfl, Nat.le_of_ble_eq_true rfl⟩ [0, 1, 2, 3, 4, 5, 6, 7, 8, 9] ps_M_M_0 (by decide) rfl rfl (Nat.le_of_ble_eq_true rfl) rfl (fun r1 hv => ?_)
        refine bx_iload_n C 39 dX8_mayBe_38 rfl rfl rfl ?_
        refine bx_icmp_ne C 82 42 dX8_mayBe_39 (by decide) rfl (fun h => ?_) (fun h => ?_)
        · replace hv := hv.1 h
          refine bx_iconst C 1 83 dX8_mayBe_82 ic_1 rfl ?_
          refine bx_goto C 87 dX8_mayBe_83 (by decide) ?_
          refine bx_istore_n C 88 dX8_mayBe_87 rfl (by decide) rfl ?_
          refine bx_iinc C 1 91 dX8_mayBe_88 rfl (by decide) ic_1 rfl ?_
          refine bx_goto C 12 dX8_mayBe_91 (by decide) ?_
          exact bx_cut [2, 3, 4, 1, 0] (w_M E a u) rfl rfl (ih  x1 x2 1 (x4 + 1) hv)
        · replace hv := hv.2 h
          refine bx_aload_n C 43 dX8_mayBe_42 rfl rfl rfl ?_
          refine bx_getf (v := .ref (a 1)) C 46 0 0 inX8 rfl (by decide) fl_X8_7 dX8_mayBe_43 at_M_0 rfl rfl ?_
          refine bx_iload_n C 47 dX8_mayBe_46 rfl rfl rfl ?_
          refine bx_iconst C 0 48 dX8_mayBe_47 ic_0 rfl ?_
          refine bx_pSi C 51 fc_X8_55 (k_X8_soulOf l E (fun k => a (1 + k)) _ _ _ _ hv) dX8_mayBe_48 ⟨rfl, rfl, Nat.le_of_ble_eq_true rfl, Nat.le_of_ble_eq_true rfl⟩ [1] ps_M_A_1 (by decide) rfl rfl (Nat.le_of_ble_eq_true rfl) rfl (fun r2 hv => ?_)
          refine bx_aload_n C 52 dX8_mayBe_51 rfl rfl rfl ?_
          refine bx_iload_n C 53 dX8_mayBe_52 rfl rfl rfl ?_
          refine bx_pVi C 0 at_M_0 rfl 56 fc_X8_247 (k_X8_passes l E a _ _ _ hv) dX8_mayBe_53 ⟨rfl, rfl, Nat.le_of_ble_eq_true rfl, Nat.le_of_ble_eq_true rfl⟩ [0, 1, 2, 3, 4, 5, 6, 7, 8, 9] ps_M_M_0 (by decide) rfl rfl (Nat.le_of_ble_eq_true rfl) rfl (fun r3 hv => ?_)
          refine bx_aload_n C 57 dX8_mayBe_56 rfl rfl rfl ?_
          refine bx_bipush C 30 59 dX8_mayBe_57 bp_30 rfl ?_
          refine bx_iconst C 3 60 dX8_mayBe_59 ic_3 rfl ?_
          refine bx_iload C 62 dX8_mayBe_60 rfl rfl ?_
          refine bx_iconst C 1 63 dX8_mayBe_62 ic_1 rfl ?_
          refine bx_pVi C 0 at_M_0 rfl 66 fc_X8_243 (k_X8_told l E a _ _ _ _ _ _ hv) dX8_mayBe_63 ⟨rfl, rfl, Nat.le_of_ble_eq_true rfl, Nat.le_of_ble_eq_true rfl⟩ [0, 1, 2, 3, 4, 5, 6, 7, 8, 9] ps_M_M_0 (by decide) rfl rfl (Nat.le_of_ble_eq_true rfl) rfl (fun r4 hv => ?_)
          refine bx_pSi C 69 fc_X8_73 (k_X8_fussBy l E  _ _ _ _ hv) dX8_mayBe_66 ⟨rfl, rfl, Nat.le_of_ble_eq_true rfl, Nat.le_of_ble_eq_true rfl⟩ [] rfl (by decide) rfl rfl (Nat.le_of_ble_eq_true rfl) rfl (fun r5 hv => ?_)
          refine bx_aload_n C 70 dX8_mayBe_69 rfl rfl rfl ?_
          refine bx_bipush C 30 72 dX8_mayBe_70 bp_30 rfl ?_
          refine bx_iconst C 3 73 dX8_mayBe_72 ic_3 rfl ?_
          refine bx_iload C 75 dX8_mayBe_73 rfl rfl ?_
          refine bx_iconst C 2 76 dX8_mayBe_75 ic_2 rfl ?_
          refine bx_pVi C 0 at_M_0 rfl 79 fc_X8_243 (k_X8_told l E a _ _ _ _ _ _ hv) dX8_mayBe_76 ⟨rfl, rfl, Nat.le_of_ble_eq_true rfl, Nat.le_of_ble_eq_true rfl⟩ [0, 1, 2, 3, 4, 5, 6, 7, 8, 9] ps_M_M_0 (by decide) rfl rfl (Nat.le_of_ble_eq_true rfl) rfl (fun r6 hv => ?_)
          refine bx_icmp_ne C 86 82 dX8_mayBe_79 (by decide) rfl (fun h => ?_) (fun h => ?_)
          · replace hv := hv.1 h
            refine bx_iconst C 0 87 dX8_mayBe_86 ic_0 rfl ?_
            refine bx_istore_n C 88 dX8_mayBe_87 rfl (by decide) rfl ?_
            refine bx_iinc C 1 91 dX8_mayBe_88 rfl (by decide) ic_1 rfl ?_
            refine bx_goto C 12 dX8_mayBe_91 (by decide) ?_
            exact bx_cut [2, 3, 4, 1, 0] (w_M E a u) rfl rfl (ih  x1 x2 0 (x4 + 1) hv)
          · replace hv := hv.2 h
            refine bx_iconst C 1 83 dX8_mayBe_82 ic_1 rfl ?_
            refine bx_goto C 87 dX8_mayBe_83 (by decide) ?_
            refine bx_istore_n C 88 dX8_mayBe_87 rfl (by decide) rfl ?_
            refine bx_iinc C 1 91 dX8_mayBe_88 rfl (by decide) ic_1 rfl ?_
            refine bx_goto C 12 dX8_mayBe_91 (by decide) ?_
            exact bx_cut [2, 3, 4, 1, 0] (w_M E a u) rfl rfl (ih  x1 x2 1 (x4 + 1) hv)
def V_X8_mayBe  (K : Int32 → Prop)  (u : MS) (x1 : Int32) (x2 : Int32) : Prop := (V_X8_isFree (fun r7 => ∃ n8, V_X8_mayBe_12 K n8 u x1 x2 r7 0) u.1 x2)
set_option maxRecDepth 20000 in
set_option maxHeartbeats 4000000 in
theorem t_X8_mayBe_0 {a : Nat → Nat} {K : Int32 → Prop} (C : bx_C p (rmD 4) S m args meth c cX8_mayBe 5 yX8_mayBe.cls (some .boolean) E A 0 0) (u : MS)   (x1 : Int32) (x2 : Int32) (hv : V_X8_mayBe K u x1 x2) : G_X8_mayBe p l e S m args below meth c E A a  u K 0 [(0, .ref (a 0)), (1, .int x1), (2, .int x2)] [] (w_M E a u) := by
  unfold V_X8_mayBe at hv
  refine bx_aload_n C 1 dX8_mayBe_0 rfl rfl rfl ?_
  refine bx_getf (v := .ref (a 1)) C 4 0 0 inX8 rfl (by decide) fl_X8_7 dX8_mayBe_1 at_M_0 rfl rfl ?_
  refine bx_iload_n C 5 dX8_mayBe_4 rfl rfl rfl ?_
  refine bx_pSi C 8 fc_X8_171 (k_X8_isFree l E (fun k => a (1 + k)) _ _ _ hv) dX8_mayBe_5 ⟨rfl, rfl, Nat.le_of_ble_eq_true rfl, Nat.le_of_ble_eq_true rfl⟩ [1] ps_M_A_1 (by decide) rfl rfl (Nat.le_of_ble_eq_true rfl) rfl (fun r7 hv => ?_)
  refine bx_istore_n C 9 dX8_mayBe_8 rfl (by decide) rfl ?_
  refine bx_iconst C 0 10 dX8_mayBe_9 ic_0 rfl ?_
  refine bx_istore C 12 dX8_mayBe_10 (by decide) rfl ?_
  obtain ⟨n8, hv⟩ := hv
  exact bx_cut [2, 3, 4, 1, 0] (w_M E a u) rfl rfl (t_X8_mayBe_12 C u  n8  x1 x2 r7 0 hv)
theorem k_X8_mayBe (l : Launch) (E : bx_E) (a : Nat → Nat)  (K : Int32 → Prop) (u : MS) (x1 : Int32) (x2 : Int32) (hv : V_X8_mayBe  K u x1 x2) : bx_Mi l E yX8_mayBe cX8_mayBe 5 (some .boolean) (rmD 4) [.ref (a 0), .int x1, .int x2] (fun (_ : Unit) => w_M E a u) () (fun r (_ : Unit) => K r) :=
  bx_meti (by decide +kernel) (Nat.le_of_ble_eq_true rfl) (fun p e S m below meth c C => t_X8_mayBe_0 C u x1 x2 hv)
end
