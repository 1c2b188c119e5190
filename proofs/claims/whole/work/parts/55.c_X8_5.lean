section
variable {p : Program} {l : Launch} {e : Env} {S : State} {m : MethodId} {args : Array Value} {below : List Frame} {meth : Method} {c : Code} {E : bx_E} {A : Nat → Prop}
abbrev G_X8_where (p : Program) (l : Launch) (e : Env) (S : State) (m : MethodId) (args : Array Value) (below : List Frame) (meth : Method) (c : Code) (E : bx_E) (A : Nat → Prop) (a : Nat → Nat)  (K : Int32 → MS → Prop) (pc : Nat) (lv : List (Nat × Value)) (st : List Value) (ws : va_W) : Prop := bx_S p l e (rmD 5) S m args below meth c 6 E A (MQ below (va_Qi K (fun (u : MS) t => bx_B E A (w_M E a u) t) A) args S 0 0 A) 0 0 pc lv st ws
def V_X8_where_13  (K : Int32 → MS → Prop)  (u : MS)  : Prop := (V_X8_badAs (fun r1 u2 => K r1 u2) u (-10))
set_option maxRecDepth 20000 in
set_option maxHeartbeats 4000000 in
theorem t_X8_where_13 {a : Nat → Nat} {K : Int32 → MS → Prop} (C : bx_C p (rmD 5) S m args meth c cX8_where 6 yX8_where.cls (some .int) E A 0 0)   (u : MS)  (hv : V_X8_where_13 K u ) : G_X8_where p l e S m args below meth c E A a  K 13 [(0, .ref (a 0))] [] (w_M E a u) := by
  unfold V_X8_where_13 at hv
  refine bx_aload_n C 14 dX8_where_13 rfl rfl rfl ?_
  refine bx_bipush C (-10) 16 dX8_where_14 bp_m10 rfl ?_
  refine bx_qVi C 0 at_M_0 rfl 19 fc_X8_219 (k_X8_badAs l E a _ _ _ hv) dX8_where_16 ⟨rfl, rfl, Nat.le_of_ble_eq_true rfl, Nat.le_of_ble_eq_true rfl⟩ [0, 1, 2, 3, 4, 5, 6, 7, 8, 9] (fun u2 => w_M E a u2) ps_M_M_0 (by decide) ad_M pu_M_M_0 rfl rfl (Nat.le_of_ble_eq_true rfl) rfl (fun r1 u2 hv => ?_)
  exact bx_iret C u2 rfl dX8_where_19 rfl hv
def V_X8_where_29  (K : Int32 → MS → Prop)  : Nat → MS → Int32 → Int32 → Int32 → Int32 → Int32 → Prop
  | 0, _, _, _, _, _, _ => False
  | n + 1, u, x1, x2, x3, x4, x5 => ((30 ≤ x5 → ((¬ x2 = (-1) → K x4 u) ∧
 (x2 = (-1) → K x3 u))) ∧
 (¬ 30 ≤ x5 → (V_X8_mayBe (fun r3 => ((r3 = 0 → V_X8_where_29 K n u x1 x2 x3 x4 (x5 + 1)) ∧
 (¬ r3 = 0 → ((¬ x3 = x2 → V_X8_where_29 K n u x1 x2 (x3 + 1) x4 (x5 + 1)) ∧
 (x3 = x2 → V_X8_where_29 K n u x1 x2 (x3 + 1) x5 (x5 + 1)))))) u x1 x5)))
set_option maxRecDepth 20000 in
set_option maxHeartbeats 4000000 in
theorem t_X8_where_29 {a : Nat → Nat} {K : Int32 → MS → Prop} (C : bx_C p (rmD 5) S m args meth c cX8_where 6 yX8_where.cls (some .int) E A 0 0)   : ∀ (n : Nat) (u : MS) (x1 : Int32) (x2 : Int32) (x3 : Int32) (x4 : Int32) (x5 : Int32), V_X8_where_29 K n u x1 x2 x3 x4 x5 → G_X8_where p l e S m args below meth c E A a  K 29 [(0, .ref (a 0)), (1, .int x1), (2, .int x2), (3, .int x3), (4, .int x4), (5, .int x5)] [] (w_M E a u) := by
  intro n
  induction n with
  | zero =>
    intro u x1 x2 x3 x4 x5 hv
    exact False.elim hv
  | succ n ih =>
    intro u x1 x2 x3 x4 x5 hv
    unfold V_X8_where_29 at hv
    refine bx_iload C 31 dX8_where_29 rfl rfl ?_
    refine bx_bipush C 30 33 dX8_where_31 bp_30 rfl ?_
    refine bx_icmp_ge C 69 36 dX8_where_33 (by decide) rfl (fun h => ?_) (fun h => ?_)
    · replace hv := hv.1 h
      refine bx_iload_n C 70 dX8_where_69 rfl rfl rfl ?_
      refine bx_iconst C (-1) 71 dX8_where_70 ic_m1 rfl ?_
      refine bx_icmp_ne C 78 74 dX8_where_71 (by decide) rfl (fun h => ?_) (fun h => ?_)
      · replace hv := hv.1 h
        refine bx_iload C 80 dX8_where_78 rfl rfl ?_
        exact bx_iret C u rfl dX8_where_80 rfl hv
      · replace hv := hv.2 h
        refine bx_iload_n C 75 dX8_where_74 rfl rfl rfl ?_
        refine bx_goto C 80 dX8_where_75 (by decide) ?_
        exact bx_iret C u rfl dX8_where_80 rfl hv
    · replace hv := hv.2 h
      refine bx_aload_n C 37 dX8_where_36 rfl rfl rfl ?_
      refine bx_iload_n C 38 dX8_where_37 rfl rfl rfl ?_
      refine bx_iload C 40 dX8_where_38 rfl rfl ?_
      refine bx_pVi C 0 at_M_0 rfl 43 fc_X8_250 (k_X8_mayBe l E a _ _ _ _ hv) dX8_where_40 ⟨rfl, rfl, Nat.le_of_ble_eq_true rfl, Nat.le_of_ble_eq_true rfl⟩ [0, 1, 2, 3, 4, 5, 6, 7, 8, 9] ps_M_M_0 (by decide) rfl rfl (Nat.le_of_ble_eq_true rfl) rfl (fun r3 hv => ?_)
      refine bx_if_eq C 63 46 dX8_where_43 (by decide) rfl (fun h => ?_) (fun h => ?_)
      · replace hv := hv.1 h
        refine bx_iinc C 1 66 dX8_where_63 rfl (by decide) ic_1 rfl ?_
        refine bx_goto C 29 dX8_where_66 (by decide) ?_
        exact bx_cut [1, 2, 3, 4, 5, 0] (w_M E a u) rfl rfl (ih u x1 x2 x3 x4 (x5 + 1) hv)
      · replace hv := hv.2 h
        refine bx_iload_n C 47 dX8_where_46 rfl rfl rfl ?_
        refine bx_iload_n C 48 dX8_where_47 rfl rfl rfl ?_
        refine bx_icmp_ne C 56 51 dX8_where_48 (by decide) rfl (fun h => ?_) (fun h => ?_)
        · replace hv := hv.1 h
          refine bx_iload C 58 dX8_where_56 rfl rfl ?_
          refine bx_istore C 60 dX8_where_58 (by decide) rfl ?_
          refine bx_iinc C 1 63 dX8_where_60 rfl (by decide) ic_1 rfl ?_
          refine bx_iinc C 1 66 dX8_where_63 rfl (by decide) ic_1 rfl ?_
          refine bx_goto C 29 dX8_where_66 (by decide) ?_
          exact bx_cut [3, 4, 5, 1, 2, 0] (w_M E a u) rfl rfl (ih u x1 x2 (x3 + 1) x4 (x5 + 1) hv)
        · replace hv := hv.2 h
          refine bx_iload C 53 dX8_where_51 rfl rfl ?_
          refine bx_goto C 58 dX8_where_53 (by decide) ?_
          refine bx_istore C 60 dX8_where_58 (by decide) rfl ?_
          refine bx_iinc C 1 63 dX8_where_60 rfl (by decide) ic_1 rfl ?_
          refine bx_iinc C 1 66 dX8_where_63 rfl (by decide) ic_1 rfl ?_
          refine bx_goto C 29 dX8_where_66 (by decide) ?_
          exact bx_cut [3, 4, 5, 1, 2, 0] (w_M E a u) rfl rfl (ih u x1 x2 (x3 + 1) x5 (x5 + 1) hv)
def V_X8_where  (K : Int32 → MS → Prop)  (u : MS) (x1 : Int32) (x2 : Int32) : Prop := (V_X8_isSoul (fun r4 => ((r4 = 0 → V_X8_where_13 K u ) ∧
 (¬ r4 = 0 → (((-1) ≤ x2 → ∃ n5, V_X8_where_29 K n5 u x1 x2 0 (-5) 0) ∧
 (¬ (-1) ≤ x2 → V_X8_where_13 K u ))))) u x1)
set_option maxRecDepth 20000 in
set_option maxHeartbeats 4000000 in
theorem t_X8_where_0 {a : Nat → Nat} {K : Int32 → MS → Prop} (C : bx_C p (rmD 5) S m args meth c cX8_where 6 yX8_where.cls (some .int) E A 0 0)   (u : MS) (x1 : Int32) (x2 : Int32) (hv : V_X8_where K u x1 x2) : G_X8_where p l e S m args below meth c E A a  K 0 [(0, .ref (a 0)), (1, .int x1), (2, .int x2)] [] (w_M E a u) := by
  unfold V_X8_where at hv
  refine bx_aload_n C 1 dX8_where_0 rfl rfl rfl ?_
  refine bx_iload_n C 2 dX8_where_1 rfl rfl rfl ?_
  refine bx_pVi C 0 at_M_0 rfl 5 fc_X8_203 (k_X8_isSoul l E a _ _ _ hv) dX8_where_2 ⟨rfl, rfl, Nat.le_of_ble_eq_true rfl, Nat.le_of_ble_eq_true rfl⟩ [0, 1, 2, 3, 4, 5, 6, 7, 8, 9] ps_M_M_0 (by decide) rfl rfl (Nat.le_of_ble_eq_true rfl) rfl (fun r4 hv => ?_)
  refine bx_if_eq C 13 8 dX8_where_5 (by decide) rfl (fun h => ?_) (fun h => ?_)
  · replace hv := hv.1 h
    exact bx_cut [0] (w_M E a u) rfl rfl (t_X8_where_13 C   u  hv)
  · replace hv := hv.2 h
    refine bx_iload_n C 9 dX8_where_8 rfl rfl rfl ?_
    refine bx_iconst C (-1) 10 dX8_where_9 ic_m1 rfl ?_
    refine bx_icmp_ge C 20 13 dX8_where_10 (by decide) rfl (fun h => ?_) (fun h => ?_)
    · replace hv := hv.1 h
      refine bx_iconst C 0 21 dX8_where_20 ic_0 rfl ?_
      refine bx_istore_n C 22 dX8_where_21 rfl (by decide) rfl ?_
      refine bx_bipush C (-5) 24 dX8_where_22 bp_m5 rfl ?_
      refine bx_istore C 26 dX8_where_24 (by decide) rfl ?_
      refine bx_iconst C 0 27 dX8_where_26 ic_0 rfl ?_
      refine bx_istore C 29 dX8_where_27 (by decide) rfl ?_
      obtain ⟨n5, hv⟩ := hv
      exact bx_cut [3, 4, 5, 2, 1, 0] (w_M E a u) rfl rfl (t_X8_where_29 C   n5 u x1 x2 0 (-5) 0 hv)
    · replace hv := hv.2 h
      exact bx_cut [0] (w_M E a u) rfl rfl (t_X8_where_13 C   u  hv)
theorem k_X8_where (l : Launch) (E : bx_E) (a : Nat → Nat)  (K : Int32 → MS → Prop) (u : MS) (x1 : Int32) (x2 : Int32) (hv : V_X8_where  K u x1 x2) : bx_Mi l E yX8_where cX8_where 6 (some .int) (rmD 5) [.ref (a 0), .int x1, .int x2] (fun (u : MS) => w_M E a u) u K :=
  bx_meti (by decide +kernel) (Nat.le_of_ble_eq_true rfl) (fun p e S m below meth c C => t_X8_where_0 C u x1 x2 hv)
abbrev G_X8_clearAlike (p : Program) (l : Launch) (e : Env) (S : State) (m : MethodId) (args : Array Value) (below : List Frame) (meth : Method) (c : Code) (E : bx_E) (A : Nat → Prop) (a : Nat → Nat)  (K : MS → Prop) (pc : Nat) (lv : List (Nat × Value)) (st : List Value) (ws : va_W) : Prop := bx_S p l e (rmD 0) S m args below meth c 2 E A (MQ below (va_Qv K (fun (u : MS) t => bx_B E A (w_M E a u) t) A) args S 0 0 A) 0 0 pc lv st ws
def V_X8_clearAlike_2  (K : MS → Prop)  : Nat → MS → Int32 → Prop
  | 0, _, _ => False
  | n + 1, u, x1 => ((41 ≤ x1 → K u) ∧
 (¬ 41 ≤ x1 → (vp_in x1 41 ∧ V_X8_clearAlike_2 K n (u.1, u.2.1, u.2.2.1, u.2.2.2.1, u.2.2.2.2.1, u.2.2.2.2.2.1, u.2.2.2.2.2.2.1, u.2.2.2.2.2.2.2.1, u.2.2.2.2.2.2.2.2.1, u.2.2.2.2.2.2.2.2.2.1, u.2.2.2.2.2.2.2.2.2.2.1, u.2.2.2.2.2.2.2.2.2.2.2.1, u.2.2.2.2.2.2.2.2.2.2.2.2.1, u.2.2.2.2.2.2.2.2.2.2.2.2.2.1, u.2.2.2.2.2.2.2.2.2.2.2.2.2.2.1, (upd u.2.2.2.2.2.2.2.2.2.2.2.2.2.2.2 (x1 : Int32).toNatClampNeg 0)) (x1 + 1))))
set_option maxRecDepth 20000 in
set_option maxHeartbeats 4000000 in
theorem t_X8_clearAlike_2 {a : Nat → Nat} {K : MS → Prop} (C : bx_C p (rmD 0) S m args meth c cX8_clearAlike 2 yX8_clearAlike.cls none E A 0 0)   : ∀ (n : Nat) (u : MS) (x1 : Int32), V_X8_clearAlike_2 K n u x1 → G_X8_clearAlike p l e S m args below meth c E A a  K 2 [(0, .ref (a 0)), (1, .int x1)] [] (w_M E a u) := by
  intro n
  induction n with
  | zero =>
    intro u x1 hv
    exact False.elim hv
  | succ n ih =>
    intro u x1 hv
    unfold V_X8_clearAlike_2 at hv
    refine bx_iload_n C 3 dX8_clearAlike_2 rfl rfl rfl ?_
    refine bx_bipush C 41 5 dX8_clearAlike_3 bp_41 rfl ?_
    refine bx_icmp_ge C 21 8 dX8_clearAlike_5 (by decide) rfl (fun h => ?_) (fun h => ?_)
    · replace hv := hv.1 h
      exact bx_vret C u rfl dX8_clearAlike_21 rfl hv
    · replace hv := hv.2 h
      refine bx_aload_n C 9 dX8_clearAlike_8 rfl rfl rfl ?_
      refine bx_getf (v := .ref (a 9)) C 12 0 15 inX8 rfl (by decide) fl_X8_43 dX8_clearAlike_9 at_M_0 rfl rfl ?_
      refine bx_iload_n C 13 dX8_clearAlike_12 rfl rfl rfl ?_
      refine bx_iconst C 0 14 dX8_clearAlike_13 ic_0 rfl ?_
      refine bx_iast C 15 9 (w_M E a (u.1, u.2.1, u.2.2.1, u.2.2.2.1, u.2.2.2.2.1, u.2.2.2.2.2.1, u.2.2.2.2.2.2.1, u.2.2.2.2.2.2.2.1, u.2.2.2.2.2.2.2.2.1, u.2.2.2.2.2.2.2.2.2.1, u.2.2.2.2.2.2.2.2.2.2.1, u.2.2.2.2.2.2.2.2.2.2.2.1, u.2.2.2.2.2.2.2.2.2.2.2.2.1, u.2.2.2.2.2.2.2.2.2.2.2.2.2.1, u.2.2.2.2.2.2.2.2.2.2.2.2.2.2.1, (upd u.2.2.2.2.2.2.2.2.2.2.2.2.2.2.2 (x1 : Int32).toNatClampNeg 0))) dX8_clearAlike_14 rfl hv.1 rfl rfl ?_
      replace hv := hv.2
      refine bx_iinc C 1 18 dX8_clearAlike_15 rfl (by decide) ic_1 rfl ?_
      refine bx_goto C 2 dX8_clearAlike_18 (by decide) ?_
      exact bx_cut [1, 0] (w_M E a (u.1, u.2.1, u.2.2.1, u.2.2.2.1, u.2.2.2.2.1, u.2.2.2.2.2.1, u.2.2.2.2.2.2.1, u.2.2.2.2.2.2.2.1, u.2.2.2.2.2.2.2.2.1, u.2.2.2.2.2.2.2.2.2.1, u.2.2.2.2.2.2.2.2.2.2.1, u.2.2.2.2.2.2.2.2.2.2.2.1, u.2.2.2.2.2.2.2.2.2.2.2.2.1, u.2.2.2.2.2.2.2.2.2.2.2.2.2.1, u.2.2.2.2.2.2.2.2.2.2.2.2.2.2.1, (upd u.2.2.2.2.2.2.2.2.2.2.2.2.2.2.2 (x1 : Int32).toNatClampNeg 0))) rfl rfl (ih (u.1, u.2.1, u.2.2.1, u.2.2.2.1, u.2.2.2.2.1, u.2.2.2.2.2.1, u.2.2.2.2.2.2.1, u.2.2.2.2.2.2.2.1, u.2.2.2.2.2.2.2.2.1, u.2.2.2.2.2.2.2.2.2.1, u.2.2.2.2.2.2.2.2.2.2.1, u.2.2.2.2.2.2.2.2.2.2.2.1, u.2.2.2.2.2.2.2.2.2.2.2.2.1, u.2.2.2.2.2.2.2.2.2.2.2.2.2.1, u.2.2.2.2.2.2.2.2.2.2.2.2.2.2.1, (upd u.2.2.2.2.2.2.2.2.2.2.2.2.2.2.2 (x1 : Int32).toNatClampNeg 0)) (x1 + 1) hv)
def V_X8_clearAlike  (K : MS → Prop)  (u : MS)  : Prop := ∃ n1, V_X8_clearAlike_2 K n1 u 0
set_option maxRecDepth 20000 in
set_option maxHeartbeats 4000000 in
theorem t_X8_clearAlike_0 {a : Nat → Nat} {K : MS → Prop} (C : bx_C p (rmD 0) S m args meth c cX8_clearAlike 2 yX8_clearAlike.cls none E A 0 0)   (u : MS)  (hv : V_X8_clearAlike K u ) : G_X8_clearAlike p l e S m args below meth c E A a  K 0 [(0, .ref (a 0))] [] (w_M E a u) := by
  unfold V_X8_clearAlike at hv
  refine bx_iconst C 0 1 dX8_clearAlike_0 ic_0 rfl ?_
  refine bx_istore_n C 2 dX8_clearAlike_1 rfl (by decide) rfl ?_
  obtain ⟨n1, hv⟩ := hv
  exact bx_cut [1, 0] (w_M E a u) rfl rfl (t_X8_clearAlike_2 C   n1 u 0 hv)
theorem k_X8_clearAlike (l : Launch) (E : bx_E) (a : Nat → Nat)  (K : MS → Prop) (u : MS)  (hv : V_X8_clearAlike  K u ) : bx_Mv l E yX8_clearAlike cX8_clearAlike 2 none (rmD 0) [.ref (a 0)] (fun (u : MS) => w_M E a u) u K :=
  bx_metv (by decide +kernel) (Nat.le_of_ble_eq_true rfl) (fun p e S m below meth c C => t_X8_clearAlike_0 C u  hv)
abbrev G_X8_mostAlike (p : Program) (l : Launch) (e : Env) (S : State) (m : MethodId) (args : Array Value) (below : List Frame) (meth : Method) (c : Code) (E : bx_E) (A : Nat → Prop) (a : Nat → Nat)  (u : MS) (K : Int32 → Prop) (pc : Nat) (lv : List (Nat × Value)) (st : List Value) (ws : va_W) : Prop := bx_S p l e (rmD 0) S m args below meth c 3 E A (MQ below (va_Qi (fun r (_ : Unit) => K r) (fun (_ : Unit) t => bx_B E A (w_M E a u) t) A) args S 0 0 A) 0 0 pc lv st ws
def V_X8_mostAlike_4  (K : Int32 → Prop)  : Nat → MS → Int32 → Int32 → Prop
  | 0, _, _, _ => False
  | n + 1, u, x1, x2 => ((41 ≤ x2 → K x1) ∧
 (¬ 41 ≤ x2 → (vp_in x2 41 ∧ (((u.2.2.2.2.2.2.2.2.2.2.2.2.2.2.2 (x2 : Int32).toNatClampNeg) ≤ x1 → V_X8_mostAlike_4 K n u x1 (x2 + 1)) ∧
 (¬ (u.2.2.2.2.2.2.2.2.2.2.2.2.2.2.2 (x2 : Int32).toNatClampNeg) ≤ x1 → (vp_in x2 41 ∧ V_X8_mostAlike_4 K n u (u.2.2.2.2.2.2.2.2.2.2.2.2.2.2.2 (x2 : Int32).toNatClampNeg) (x2 + 1)))))))
set_option maxRecDepth 20000 in
set_option maxHeartbeats 4000000 in
theorem t_X8_mostAlike_4 {a : Nat → Nat} {K : Int32 → Prop} (C : bx_C p (rmD 0) S m args meth c cX8_mostAlike 3 yX8_mostAlike.cls (some .int) E A 0 0) (u : MS)  : ∀ (n : Nat)  (x1 : Int32) (x2 : Int32), V_X8_mostAlike_4 K n u x1 x2 → G_X8_mostAlike p l e S m args below meth c E A a  u K 4 [(0, .ref (a 0)), (1, .int x1), (2, .int x2)] [] (w_M E a u) := by
  intro n
  induction n with
  | zero =>
    intro x1 x2 hv
    exact False.elim hv
  | succ n ih =>
    intro x1 x2 hv
    unfold V_X8_mostAlike_4 at hv
    refine bx_iload_n C 5 dX8_mostAlike_4 rfl rfl rfl ?_
    refine bx_bipush C 41 7 dX8_mostAlike_5 bp_41 rfl ?_
    refine bx_icmp_ge C 37 10 dX8_mostAlike_7 (by decide) rfl (fun h => ?_) (fun h => ?_)
    · replace hv := hv.1 h
      refine bx_iload_n C 38 dX8_mostAlike_37 rfl rfl rfl ?_
      exact bx_iret C () rfl dX8_mostAlike_38 rfl hv
    · replace hv := hv.2 h
      refine bx_aload_n C 11 dX8_mostAlike_10 rfl rfl rfl ?_
      refine bx_getf (v := .ref (a 9)) C 14 0 15 inX8 rfl (by decide) fl_X8_43 dX8_mostAlike_11 at_M_0 rfl rfl ?_
      refine bx_iload_n C 15 dX8_mostAlike_14 rfl rfl rfl ?_
      refine bx_iald (f := u.2.2.2.2.2.2.2.2.2.2.2.2.2.2.2) C 16 9 dX8_mostAlike_15 at_M_9 hv.1 rfl ?_
      replace hv := hv.2
      refine bx_iload_n C 17 dX8_mostAlike_16 rfl rfl rfl ?_
      refine bx_icmp_le C 29 20 dX8_mostAlike_17 (by decide) rfl (fun h => ?_) (fun h => ?_)
      · replace hv := hv.1 h
        refine bx_iload_n C 30 dX8_mostAlike_29 rfl rfl rfl ?_
        refine bx_istore_n C 31 dX8_mostAlike_30 rfl (by decide) rfl ?_
        refine bx_iinc C 1 34 dX8_mostAlike_31 rfl (by decide) ic_1 rfl ?_
        refine bx_goto C 4 dX8_mostAlike_34 (by decide) ?_
        exact bx_cut [2, 1, 0] (w_M E a u) rfl rfl (ih  x1 (x2 + 1) hv)
      · replace hv := hv.2 h
        refine bx_aload_n C 21 dX8_mostAlike_20 rfl rfl rfl ?_
        refine bx_getf (v := .ref (a 9)) C 24 0 15 inX8 rfl (by decide) fl_X8_43 dX8_mostAlike_21 at_M_0 rfl rfl ?_
        refine bx_iload_n C 25 dX8_mostAlike_24 rfl rfl rfl ?_
        refine bx_iald (f := u.2.2.2.2.2.2.2.2.2.2.2.2.2.2.2) C 26 9 dX8_mostAlike_25 at_M_9 hv.1 rfl ?_
        replace hv := hv.2
        refine bx_goto C 30 dX8_mostAlike_26 (by decide) ?_
        refine bx_istore_n C 31 dX8_mostAlike_30 rfl (by decide) rfl ?_
        refine bx_iinc C 1 34 dX8_mostAlike_31 rfl (by decide) ic_1 rfl ?_
        refine bx_goto C 4 dX8_mostAlike_34 (by decide) ?_
        exact bx_cut [2, 1, 0] (w_M E a u) rfl rfl (ih  (u.2.2.2.2.2.2.2.2.2.2.2.2.2.2.2 (x2 : Int32).toNatClampNeg) (x2 + 1) hv)
def V_X8_mostAlike  (K : Int32 → Prop)  (u : MS)  : Prop := ∃ n1, V_X8_mostAlike_4 K n1 u 0 0
set_option maxRecDepth 20000 in
set_option maxHeartbeats 4000000 in
theorem t_X8_mostAlike_0 {a : Nat → Nat} {K : Int32 → Prop} (C : bx_C p (rmD 0) S m args meth c cX8_mostAlike 3 yX8_mostAlike.cls (some .int) E A 0 0) (u : MS)    (hv : V_X8_mostAlike K u ) : G_X8_mostAlike p l e S m args below meth c E A a  u K 0 [(0, .ref (a 0))] [] (w_M E a u) := by
  unfold V_X8_mostAlike at hv
  refine bx_iconst C 0 1 dX8_mostAlike_0 ic_0 rfl ?_
  refine bx_istore_n C 2 dX8_mostAlike_1 rfl (by decide) rfl ?_
  refine bx_iconst C 0 3 dX8_mostAlike_2 ic_0 rfl ?_
  refine bx_istore_n C 4 dX8_mostAlike_3 rfl (by decide) rfl ?_
  obtain ⟨n1, hv⟩ := hv
  exact bx_cut [2, 1, 0] (w_M E a u) rfl rfl (t_X8_mostAlike_4 C u  n1  0 0 hv)
theorem k_X8_mostAlike (l : Launch) (E : bx_E) (a : Nat → Nat)  (K : Int32 → Prop) (u : MS)  (hv : V_X8_mostAlike  K u ) : bx_Mi l E yX8_mostAlike cX8_mostAlike 3 (some .int) (rmD 0) [.ref (a 0)] (fun (_ : Unit) => w_M E a u) () (fun r (_ : Unit) => K r) :=
  bx_meti (by decide +kernel) (Nat.le_of_ble_eq_true rfl) (fun p e S m below meth c C => t_X8_mostAlike_0 C u  hv)
abbrev G_X8_tell (p : Program) (l : Launch) (e : Env) (S : State) (m : MethodId) (args : Array Value) (below : List Frame) (meth : Method) (c : Code) (E : bx_E) (A : Nat → Prop) (a : Nat → Nat)  (K : Int32 → MS → Prop) (pc : Nat) (lv : List (Nat × Value)) (st : List Value) (ws : va_W) : Prop := bx_S p l e (rmD 5) S m args below meth c 6 E A (MQ below (va_Qi K (fun (u : MS) t => bx_B E A (w_M E a u) t) A) args S 0 0 A) 0 0 pc lv st ws
def V_X8_tell_35  (K : Int32 → MS → Prop) (B21 : MS → Int32 → Int32 → Int32 → Int32 → Prop) : Nat → MS → Int32 → Int32 → Int32 → Int32 → Int32 → Prop
  | 0, _, _, _, _, _, _ => False
  | n + 1, u, x1, x2, x3, x4, x5 => ((30 ≤ x5 → (V_X8_mostAlike (fun r1 => ((r1 ≤ 0 → B21 u x1 x2 x3 (x4 + 1)) ∧
 (¬ r1 ≤ 0 → (V_X8_mostAlike (fun r2 => ((x3 ≤ r2 → B21 u x1 x2 x3 (x4 + 1)) ∧
 (¬ x3 ≤ r2 → (V_X8_mostAlike (fun r3 => B21 u x1 x4 r3 (x4 + 1)) u )))) u )))) u )) ∧
 (¬ 30 ≤ x5 → (V_X8_mayBe (fun r4 => ((r4 = 0 → V_X8_tell_35 K B21 n u x1 x2 x3 x4 (x5 + 1)) ∧
 (¬ r4 = 0 → (V_X8_soulOf (fun r5 => (V_X8_passes (fun r6 => (V_X8_fussBy (fun r7 => (vp_in r7 41 ∧ (vp_in r7 41 ∧ V_X8_tell_35 K B21 n (u.1, u.2.1, u.2.2.1, u.2.2.2.1, u.2.2.2.2.1, u.2.2.2.2.2.1, u.2.2.2.2.2.2.1, u.2.2.2.2.2.2.2.1, u.2.2.2.2.2.2.2.2.1, u.2.2.2.2.2.2.2.2.2.1, u.2.2.2.2.2.2.2.2.2.2.1, u.2.2.2.2.2.2.2.2.2.2.2.1, u.2.2.2.2.2.2.2.2.2.2.2.2.1, u.2.2.2.2.2.2.2.2.2.2.2.2.2.1, u.2.2.2.2.2.2.2.2.2.2.2.2.2.2.1, (upd u.2.2.2.2.2.2.2.2.2.2.2.2.2.2.2 (r7 : Int32).toNatClampNeg ((u.2.2.2.2.2.2.2.2.2.2.2.2.2.2.2 (r7 : Int32).toNatClampNeg) + 1))) x1 x2 x3 x4 (x5 + 1))))  r5 r6 x4)) u x5)) u.1 x1 0)))) u x1 x5)))
set_option maxRecDepth 20000 in
set_option maxHeartbeats 4000000 in
theorem t_X8_tell_35 {a : Nat → Nat} {K : Int32 → MS → Prop} (C : bx_C p (rmD 5) S m args meth c cX8_tell 6 yX8_tell.cls (some .int) E A 0 0)  (B21 : MS → Int32 → Int32 → Int32 → Int32 → Prop) (hB21 : ∀ (u : MS) (x1 : Int32) (x2 : Int32) (x3 : Int32) (x4 : Int32), B21 u x1 x2 x3 x4 → G_X8_tell p l e S m args below meth c E A a  K 21 [(0, .ref (a 0)), (1, .int x1), (2, .int x2), (3, .int x3), (4, .int x4)] [] (w_M E a u)) : ∀ (n : Nat) (u : MS) (x1 : Int32) (x2 : Int32) (x3 : Int32) (x4 : Int32) (x5 : Int32), V_X8_tell_35 K B21 n u x1 x2 x3 x4 x5 → G_X8_tell p l e S m args below meth c E A a  K 35 [(0, .ref (a 0)), (1, .int x1), (2, .int x2), (3, .int x3), (4, .int x4), (5, .int x5)] [] (w_M E a u) := by
  intro n
  induction n with
  | zero =>
    intro u x1 x2 x3 x4 x5 hv
    exact False.elim hv
  | succ n ih =>
    intro u x1 x2 x3 x4 x5 hv
    unfold V_X8_tell_35 at hv
    refine bx_iload C 37 dX8_tell_35 rfl rfl ?_
    refine bx_bipush C 30 39 dX8_tell_37 bp_30 rfl ?_
    refine bx_icmp_ge C 87 42 dX8_tell_39 (by decide) rfl (fun h => ?_) (fun h => ?_)
    · replace hv := hv.1 h
      refine bx_aload_n C 88 dX8_tell_87 rfl rfl rfl ?_
      refine bx_pVi C 0 at_M_0 rfl 91 fc_X8_256 (k_X8_mostAlike l E a _ _ hv) dX8_tell_88 ⟨rfl, rfl, Nat.le_of_ble_eq_true rfl, Nat.le_of_ble_eq_true rfl⟩ [0, 1, 2, 3, 4, 5, 6, 7, 8, 9] ps_M_M_0 (by decide) rfl rfl (Nat.le_of_ble_eq_true rfl) rfl (fun r1 hv => ?_)
      refine bx_if_le C 110 94 dX8_tell_91 (by decide) rfl (fun h => ?_) (fun h => ?_)
      · replace hv := hv.1 h
        refine bx_iinc C 1 113 dX8_tell_110 rfl (by decide) ic_1 rfl ?_
        refine bx_goto C 21 dX8_tell_113 (by decide) ?_
        exact bx_cut [1, 2, 3, 4, 0] (w_M E a u) rfl rfl (hB21 u x1 x2 x3 (x4 + 1) hv)
      · replace hv := hv.2 h
        refine bx_aload_n C 95 dX8_tell_94 rfl rfl rfl ?_
        refine bx_pVi C 0 at_M_0 rfl 98 fc_X8_256 (k_X8_mostAlike l E a _ _ hv) dX8_tell_95 ⟨rfl, rfl, Nat.le_of_ble_eq_true rfl, Nat.le_of_ble_eq_true rfl⟩ [0, 1, 2, 3, 4, 5, 6, 7, 8, 9] ps_M_M_0 (by decide) rfl rfl (Nat.le_of_ble_eq_true rfl) rfl (fun r2 hv => ?_)
        refine bx_iload_n C 99 dX8_tell_98 rfl rfl rfl ?_
        refine bx_icmp_ge C 110 102 dX8_tell_99 (by decide) rfl (fun h => ?_) (fun h => ?_)
        · replace hv := hv.1 h
          refine bx_iinc C 1 113 dX8_tell_110 rfl (by decide) ic_1 rfl ?_
          refine bx_goto C 21 dX8_tell_113 (by decide) ?_
          exact bx_cut [1, 2, 3, 4, 0] (w_M E a u) rfl rfl (hB21 u x1 x2 x3 (x4 + 1) hv)
        · replace hv := hv.2 h
          refine bx_aload_n C 103 dX8_tell_102 rfl rfl rfl ?_
          refine bx_pVi C 0 at_M_0 rfl 106 fc_X8_256 (k_X8_mostAlike l E a _ _ hv) dX8_tell_103 ⟨rfl, rfl, Nat.le_of_ble_eq_true rfl, Nat.le_of_ble_eq_true rfl⟩ [0, 1, 2, 3, 4, 5, 6, 7, 8, 9] ps_M_M_0 (by decide) rfl rfl (Nat.le_of_ble_eq_true rfl) rfl (fun r3 hv => ?_)
          refine bx_istore_n C 107 dX8_tell_106 rfl (by decide) rfl ?_
          refine bx_iload C 109 dX8_tell_107 rfl rfl ?_
          refine bx_istore_n C 110 dX8_tell_109 rfl (by decide) rfl ?_
          refine bx_iinc C 1 113 dX8_tell_110 rfl (by decide) ic_1 rfl ?_
          refine bx_goto C 21 dX8_tell_113 (by decide) ?_
          exact bx_cut [3, 4, 1, 2, 0] (w_M E a u) rfl rfl (hB21 u x1 x4 r3 (x4 + 1) hv)
    · replace hv := hv.2 h
      refine bx_aload_n C 43 dX8_tell_42 rfl rfl rfl ?_
      refine bx_iload_n C 44 dX8_tell_43 rfl rfl rfl ?_
      refine bx_iload C 46 dX8_tell_44 rfl rfl ?_
      refine bx_pVi C 0 at_M_0 rfl 49 fc_X8_250 (k_X8_mayBe l E a _ _ _ _ hv) dX8_tell_46 ⟨rfl, rfl, Nat.le_of_ble_eq_true rfl, Nat.le_of_ble_eq_true rfl⟩ [0, 1, 2, 3, 4, 5, 6, 7, 8, 9] ps_M_M_0 (by decide) rfl rfl (Nat.le_of_ble_eq_true rfl) rfl (fun r4 hv => ?_)
      refine bx_if_eq C 81 52 dX8_tell_49 (by decide) rfl (fun h => ?_) (fun h => ?_)
      · replace hv := hv.1 h
        refine bx_iinc C 1 84 dX8_tell_81 rfl (by decide) ic_1 rfl ?_
        refine bx_goto C 35 dX8_tell_84 (by decide) ?_
        exact bx_cut [1, 2, 3, 4, 5, 0] (w_M E a u) rfl rfl (ih u x1 x2 x3 x4 (x5 + 1) hv)
      · replace hv := hv.2 h
        refine bx_aload_n C 53 dX8_tell_52 rfl rfl rfl ?_
        refine bx_getf (v := .ref (a 9)) C 56 0 15 inX8 rfl (by decide) fl_X8_43 dX8_tell_53 at_M_0 rfl rfl ?_
        refine bx_aload_n C 57 dX8_tell_56 rfl rfl rfl ?_
        refine bx_getf (v := .ref (a 1)) C 60 0 0 inX8 rfl (by decide) fl_X8_7 dX8_tell_57 at_M_0 rfl rfl ?_
        refine bx_iload_n C 61 dX8_tell_60 rfl rfl rfl ?_
        refine bx_iconst C 0 62 dX8_tell_61 ic_0 rfl ?_
        refine bx_pSi C 65 fc_X8_55 (k_X8_soulOf l E (fun k => a (1 + k)) _ _ _ _ hv) dX8_tell_62 ⟨rfl, rfl, Nat.le_of_ble_eq_true rfl, Nat.le_of_ble_eq_true rfl⟩ [1] ps_M_A_1 (by decide) rfl rfl (Nat.le_of_ble_eq_true rfl) rfl (fun r5 hv => ?_)
        refine bx_aload_n C 66 dX8_tell_65 rfl rfl rfl ?_
        refine bx_iload C 68 dX8_tell_66 rfl rfl ?_
        refine bx_pVi C 0 at_M_0 rfl 71 fc_X8_247 (k_X8_passes l E a _ _ _ hv) dX8_tell_68 ⟨rfl, rfl, Nat.le_of_ble_eq_true rfl, Nat.le_of_ble_eq_true rfl⟩ [0, 1, 2, 3, 4, 5, 6, 7, 8, 9] ps_M_M_0 (by decide) rfl rfl (Nat.le_of_ble_eq_true rfl) rfl (fun r6 hv => ?_)
        refine bx_iload C 73 dX8_tell_71 rfl rfl ?_
        refine bx_pSi C 76 fc_X8_73 (k_X8_fussBy l E  _ _ _ _ hv) dX8_tell_73 ⟨rfl, rfl, Nat.le_of_ble_eq_true rfl, Nat.le_of_ble_eq_true rfl⟩ [] rfl (by decide) rfl rfl (Nat.le_of_ble_eq_true rfl) rfl (fun r7 hv => ?_)
        refine bx_dup2_11 C 77 dX8_tell_76 rfl rfl rfl ?_
        refine bx_iald (f := u.2.2.2.2.2.2.2.2.2.2.2.2.2.2.2) C 78 9 dX8_tell_77 at_M_9 hv.1 rfl ?_
        replace hv := hv.2
        refine bx_iconst C 1 79 dX8_tell_78 ic_1 rfl ?_
        refine bx_iadd C 80 dX8_tell_79 rfl ?_
        refine bx_iast C 81 9 (w_M E a (u.1, u.2.1, u.2.2.1, u.2.2.2.1, u.2.2.2.2.1, u.2.2.2.2.2.1, u.2.2.2.2.2.2.1, u.2.2.2.2.2.2.2.1, u.2.2.2.2.2.2.2.2.1, u.2.2.2.2.2.2.2.2.2.1, u.2.2.2.2.2.2.2.2.2.2.1, u.2.2.2.2.2.2.2.2.2.2.2.1, u.2.2.2.2.2.2.2.2.2.2.2.2.1, u.2.2.2.2.2.2.2.2.2.2.2.2.2.1, u.2.2.2.2.2.2.2.2.2.2.2.2.2.2.1, (upd u.2.2.2.2.2.2.2.2.2.2.2.2.2.2.2 (r7 : Int32).toNatClampNeg ((u.2.2.2.2.2.2.2.2.2.2.2.2.2.2.2 (r7 : Int32).toNatClampNeg) + 1)))) dX8_tell_80 rfl hv.1 rfl rfl ?_
        replace hv := hv.2
        refine bx_iinc C 1 84 dX8_tell_81 rfl (by decide) ic_1 rfl ?_
        refine bx_goto C 35 dX8_tell_84 (by decide) ?_
        exact bx_cut [1, 2, 3, 4, 5, 0] (w_M E a (u.1, u.2.1, u.2.2.1, u.2.2.2.1, u.2.2.2.2.1, u.2.2.2.2.2.1, u.2.2.2.2.2.2.1, u.2.2.2.2.2.2.2.1, u.2.2.2.2.2.2.2.2.1, u.2.2.2.2.2.2.2.2.2.1, u.2.2.2.2.2.2.2.2.2.2.1, u.2.2.2.2.2.2.2.2.2.2.2.1, u.2.2.2.2.2.2.2.2.2.2.2.2.1, u.2.2.2.2.2.2.2.2.2.2.2.2.2.1, u.2.2.2.2.2.2.2.2.2.2.2.2.2.2.1, (upd u.2.2.2.2.2.2.2.2.2.2.2.2.2.2.2 (r7 : Int32).toNatClampNeg ((u.2.2.2.2.2.2.2.2.2.2.2.2.2.2.2 (r7 : Int32).toNatClampNeg) + 1)))) rfl rfl (ih (u.1, u.2.1, u.2.2.1, u.2.2.2.1, u.2.2.2.2.1, u.2.2.2.2.2.1, u.2.2.2.2.2.2.1, u.2.2.2.2.2.2.2.1, u.2.2.2.2.2.2.2.2.1, u.2.2.2.2.2.2.2.2.2.1, u.2.2.2.2.2.2.2.2.2.2.1, u.2.2.2.2.2.2.2.2.2.2.2.1, u.2.2.2.2.2.2.2.2.2.2.2.2.1, u.2.2.2.2.2.2.2.2.2.2.2.2.2.1, u.2.2.2.2.2.2.2.2.2.2.2.2.2.2.1, (upd u.2.2.2.2.2.2.2.2.2.2.2.2.2.2.2 (r7 : Int32).toNatClampNeg ((u.2.2.2.2.2.2.2.2.2.2.2.2.2.2.2 (r7 : Int32).toNatClampNeg) + 1))) x1 x2 x3 x4 (x5 + 1) hv)
def V_X8_tell_21  (K : Int32 → MS → Prop)  : Nat → MS → Int32 → Int32 → Int32 → Int32 → Prop
  | 0, _, _, _, _, _ => False
  | n + 1, u, x1, x2, x3, x4 => ((20 ≤ x4 → K x2 u) ∧
 (¬ 20 ≤ x4 → (V_X8_clearAlike (fun u8 => ∃ n9, V_X8_tell_35 K (fun v y0 y1 y2 y3 => V_X8_tell_21 K n v y0 y1 y2 y3) n9 u8 x1 x2 x3 x4 0) u )))
set_option maxRecDepth 20000 in
set_option maxHeartbeats 4000000 in
theorem t_X8_tell_21 {a : Nat → Nat} {K : Int32 → MS → Prop} (C : bx_C p (rmD 5) S m args meth c cX8_tell 6 yX8_tell.cls (some .int) E A 0 0)   : ∀ (n : Nat) (u : MS) (x1 : Int32) (x2 : Int32) (x3 : Int32) (x4 : Int32), V_X8_tell_21 K n u x1 x2 x3 x4 → G_X8_tell p l e S m args below meth c E A a  K 21 [(0, .ref (a 0)), (1, .int x1), (2, .int x2), (3, .int x3), (4, .int x4)] [] (w_M E a u) := by
  intro n
  induction n with
  | zero =>
    intro u x1 x2 x3 x4 hv
    exact False.elim hv
  | succ n ih =>
    intro u x1 x2 x3 x4 hv
    unfold V_X8_tell_21 at hv
    refine bx_iload C 23 dX8_tell_21 rfl rfl ?_
    refine bx_bipush C 20 25 dX8_tell_23 bp_20 rfl ?_
    refine bx_icmp_ge C 116 28 dX8_tell_25 (by decide) rfl (fun h => ?_) (fun h => ?_)
    · replace hv := hv.1 h
      refine bx_iload_n C 117 dX8_tell_116 rfl rfl rfl ?_
      exact bx_iret C u rfl dX8_tell_117 rfl hv
    · replace hv := hv.2 h
      refine bx_aload_n C 29 dX8_tell_28 rfl rfl rfl ?_
      refine bx_qVv C 0 at_M_0 rfl 32 fc_X8_253 (k_X8_clearAlike l E a _ _ hv) dX8_tell_29 ⟨rfl, rfl, Nat.le_of_ble_eq_true rfl, Nat.le_of_ble_eq_true rfl⟩ [0, 1, 2, 3, 4, 5, 6, 7, 8, 9] (fun u8 => w_M E a u8) ps_M_M_0 (by decide) ad_M pu_M_M_0 rfl rfl (Nat.le_of_ble_eq_true rfl) rfl (fun u8 hv => ?_)
      refine bx_iconst C 0 33 dX8_tell_32 ic_0 rfl ?_
      refine bx_istore C 35 dX8_tell_33 (by decide) rfl ?_
      obtain ⟨n9, hv⟩ := hv
      exact bx_cut [1, 2, 3, 4, 5, 0] (w_M E a u8) rfl rfl (t_X8_tell_35 C  _ (fun v y0 y1 y2 y3 hv => ih v y0 y1 y2 y3 hv) n9 u8 x1 x2 x3 x4 0 hv)
def V_X8_tell  (K : Int32 → MS → Prop)  (u : MS) (x1 : Int32) : Prop := (V_X8_isSoul (fun r10 => ((¬ r10 = 0 → ∃ n11, V_X8_tell_21 K n11 u x1 (-1) 99 0) ∧
 (r10 = 0 → (V_X8_bad (fun r12 u13 => K r12 u13) u )))) u x1)
set_option maxRecDepth 20000 in
set_option maxHeartbeats 4000000 in
theorem t_X8_tell_0 {a : Nat → Nat} {K : Int32 → MS → Prop} (C : bx_C p (rmD 5) S m args meth c cX8_tell 6 yX8_tell.cls (some .int) E A 0 0)   (u : MS) (x1 : Int32) (hv : V_X8_tell K u x1) : G_X8_tell p l e S m args below meth c E A a  K 0 [(0, .ref (a 0)), (1, .int x1)] [] (w_M E a u) := by
  unfold V_X8_tell at hv
  refine bx_aload_n C 1 dX8_tell_0 rfl rfl rfl ?_
  refine bx_iload_n C 2 dX8_tell_1 rfl rfl rfl ?_
  refine bx_pVi C 0 at_M_0 rfl 5 fc_X8_203 (k_X8_isSoul l E a _ _ _ hv) dX8_tell_2 ⟨rfl, rfl, Nat.le_of_ble_eq_true rfl, Nat.le_of_ble_eq_true rfl⟩ [0, 1, 2, 3, 4, 5, 6, 7, 8, 9] ps_M_M_0 (by decide) rfl rfl (Nat.le_of_ble_eq_true rfl) rfl (fun r10 hv => ?_)
  refine bx_if_ne C 13 8 dX8_tell_5 (by decide) rfl (fun h => ?_) (fun h => ?_)
  · replace hv := hv.1 h
    refine bx_iconst C (-1) 14 dX8_tell_13 ic_m1 rfl ?_
    refine bx_istore_n C 15 dX8_tell_14 rfl (by decide) rfl ?_
    refine bx_bipush C 99 17 dX8_tell_15 bp_99 rfl ?_
    refine bx_istore_n C 18 dX8_tell_17 rfl (by decide) rfl ?_
    refine bx_iconst C 0 19 dX8_tell_18 ic_0 rfl ?_
    refine bx_istore C 21 dX8_tell_19 (by decide) rfl ?_
    obtain ⟨n11, hv⟩ := hv
    exact bx_cut [3, 4, 2, 1, 0] (w_M E a u) rfl rfl (t_X8_tell_21 C   n11 u x1 (-1) 99 0 hv)
  · replace hv := hv.2 h
    refine bx_aload_n C 9 dX8_tell_8 rfl rfl rfl ?_
    refine bx_qVi C 0 at_M_0 rfl 12 fc_X8_101 (k_X8_bad l E a _ _ hv) dX8_tell_9 ⟨rfl, rfl, Nat.le_of_ble_eq_true rfl, Nat.le_of_ble_eq_true rfl⟩ [0, 1, 2, 3, 4, 5, 6, 7, 8, 9] (fun u13 => w_M E a u13) ps_M_M_0 (by decide) ad_M pu_M_M_0 rfl rfl (Nat.le_of_ble_eq_true rfl) rfl (fun r12 u13 hv => ?_)
    exact bx_iret C u13 rfl dX8_tell_12 rfl hv
theorem k_X8_tell (l : Launch) (E : bx_E) (a : Nat → Nat)  (K : Int32 → MS → Prop) (u : MS) (x1 : Int32) (hv : V_X8_tell  K u x1) : bx_Mi l E yX8_tell cX8_tell 6 (some .int) (rmD 5) [.ref (a 0), .int x1] (fun (u : MS) => w_M E a u) u K :=
  bx_meti (by decide +kernel) (Nat.le_of_ble_eq_true rfl) (fun p e S m below meth c C => t_X8_tell_0 C u x1 hv)
abbrev G_X8_note (p : Program) (l : Launch) (e : Env) (S : State) (m : MethodId) (args : Array Value) (below : List Frame) (meth : Method) (c : Code) (E : bx_E) (A : Nat → Prop) (a : Nat → Nat)  (K : Int32 → MS → Prop) (pc : Nat) (lv : List (Nat × Value)) (st : List Value) (ws : va_W) : Prop := bx_S p l e (rmD 1) S m args below meth c 4 E A (MQ below (va_Qi K (fun (u : MS) t => bx_B E A (w_M E a u) t) A) args S 0 0 A) 0 0 pc lv st ws
def V_X8_note_36  (K : Int32 → MS → Prop)  (u : MS)  : Prop := (V_X8_bad (fun r1 u2 => K r1 u2) u )
set_option maxRecDepth 20000 in
set_option maxHeartbeats 4000000 in
theorem t_X8_note_36 {a : Nat → Nat} {K : Int32 → MS → Prop} (C : bx_C p (rmD 1) S m args meth c cX8_note 4 yX8_note.cls (some .int) E A 0 0)   (u : MS)  (hv : V_X8_note_36 K u ) : G_X8_note p l e S m args below meth c E A a  K 36 [(0, .ref (a 0))] [] (w_M E a u) := by
  unfold V_X8_note_36 at hv
  refine bx_aload_n C 37 dX8_note_36 rfl rfl rfl ?_
  refine bx_qVi C 0 at_M_0 rfl 40 fc_X8_101 (k_X8_bad l E a _ _ hv) dX8_note_37 ⟨rfl, rfl, Nat.le_of_ble_eq_true rfl, Nat.le_of_ble_eq_true rfl⟩ [0, 1, 2, 3, 4, 5, 6, 7, 8, 9] (fun u2 => w_M E a u2) ps_M_M_0 (by decide) ad_M pu_M_M_0 rfl rfl (Nat.le_of_ble_eq_true rfl) rfl (fun r1 u2 hv => ?_)
  exact bx_iret C u2 rfl dX8_note_40 rfl hv
def V_X8_note  (K : Int32 → MS → Prop)  (u : MS) (x1 : Int32) (x2 : Int32) (x3 : Int32) : Prop := (V_X8_in (fun r3 => ((r3 = 0 → V_X8_note_36 K u ) ∧
 (¬ r3 = 0 → (V_X8_in (fun r4 => ((r4 = 0 → V_X8_note_36 K u ) ∧
 (¬ r4 = 0 → (V_X8_in (fun r5 => ((¬ r5 = 0 → ((¬ (u.1 46) = 6 → (V_X8_comesRow (fun u6 => K (u6 46) (u6, u.2)) u.1 46 3 x1 x2 x3 0)) ∧
 ((u.1 46) = 6 → (V_X8_full (fun r7 u8 => K r7 u8) u )))) ∧
 (r5 = 0 → V_X8_note_36 K u )))  ((x3 : Int32).toInt64) 0 20))))  ((x2 : Int32).toInt64) 0 5))))  ((x1 : Int32).toInt64) 0 4)
set_option maxRecDepth 20000 in
set_option maxHeartbeats 4000000 in
theorem t_X8_note_0 {a : Nat → Nat} {K : Int32 → MS → Prop} (C : bx_C p (rmD 1) S m args meth c cX8_note 4 yX8_note.cls (some .int) E A 0 0)   (u : MS) (x1 : Int32) (x2 : Int32) (x3 : Int32) (hv : V_X8_note K u x1 x2 x3) : G_X8_note p l e S m args below meth c E A a  K 0 [(0, .ref (a 0)), (1, .int x1), (2, .int x2), (3, .int x3)] [] (w_M E a u) := by
  unfold V_X8_note at hv
  refine bx_iload_n C 1 dX8_note_0 rfl rfl rfl ?_
  refine bx_i2l C 2 dX8_note_1 rfl ?_
  refine bx_lconst C 0 3 dX8_note_2 lc_0 rfl ?_
  refine bx_ldc2 C 6 cs_X8_97 dX8_note_3 rfl ?_
  refine bx_pSi C 9 fc_X8_46 (k_X8_in l E  _ _ _ _ hv) dX8_note_6 ⟨rfl, rfl, Nat.le_of_ble_eq_true rfl, Nat.le_of_ble_eq_true rfl⟩ [] rfl (by decide) rfl rfl (Nat.le_of_ble_eq_true rfl) rfl (fun r3 hv => ?_)
  refine bx_if_eq C 36 12 dX8_note_9 (by decide) rfl (fun h => ?_) (fun h => ?_)
  · replace hv := hv.1 h
    exact bx_cut [0] (w_M E a u) rfl rfl (t_X8_note_36 C   u  hv)
  · replace hv := hv.2 h
    refine bx_iload_n C 13 dX8_note_12 rfl rfl rfl ?_
    refine bx_i2l C 14 dX8_note_13 rfl ?_
    refine bx_lconst C 0 15 dX8_note_14 lc_0 rfl ?_
    refine bx_ldc2 C 18 cs_X8_99 dX8_note_15 rfl ?_
    refine bx_pSi C 21 fc_X8_46 (k_X8_in l E  _ _ _ _ hv) dX8_note_18 ⟨rfl, rfl, Nat.le_of_ble_eq_true rfl, Nat.le_of_ble_eq_true rfl⟩ [] rfl (by decide) rfl rfl (Nat.le_of_ble_eq_true rfl) rfl (fun r4 hv => ?_)
    refine bx_if_eq C 36 24 dX8_note_21 (by decide) rfl (fun h => ?_) (fun h => ?_)
    · replace hv := hv.1 h
      exact bx_cut [0] (w_M E a u) rfl rfl (t_X8_note_36 C   u  hv)
    · replace hv := hv.2 h
      refine bx_iload_n C 25 dX8_note_24 rfl rfl rfl ?_
      refine bx_i2l C 26 dX8_note_25 rfl ?_
      refine bx_lconst C 0 27 dX8_note_26 lc_0 rfl ?_
      refine bx_ldc2 C 30 cs_X8_259 dX8_note_27 rfl ?_
      refine bx_pSi C 33 fc_X8_46 (k_X8_in l E  _ _ _ _ hv) dX8_note_30 ⟨rfl, rfl, Nat.le_of_ble_eq_true rfl, Nat.le_of_ble_eq_true rfl⟩ [] rfl (by decide) rfl rfl (Nat.le_of_ble_eq_true rfl) rfl (fun r5 hv => ?_)
      refine bx_if_ne C 41 36 dX8_note_33 (by decide) rfl (fun h => ?_) (fun h => ?_)
      · replace hv := hv.1 h
        refine bx_aload_n C 42 dX8_note_41 rfl rfl rfl ?_
        refine bx_getf (v := .ref (a 1)) C 45 0 0 inX8 rfl (by decide) fl_X8_7 dX8_note_42 at_M_0 rfl rfl ?_
        refine bx_bipush C 46 47 dX8_note_45 bp_46 rfl ?_
        refine bx_iald_k (f := u.1) C 48 1 46 dX8_note_47 at_M_1 vin_46_171 cl_46 rfl ?_
        refine bx_bipush C 6 50 dX8_note_48 bp_6 rfl ?_
        refine bx_icmp_ne C 58 53 dX8_note_50 (by decide) rfl (fun h => ?_) (fun h => ?_)
        · replace hv := hv.1 h
          refine bx_aload_n C 59 dX8_note_58 rfl rfl rfl ?_
          refine bx_getf (v := .ref (a 1)) C 62 0 0 inX8 rfl (by decide) fl_X8_7 dX8_note_59 at_M_0 rfl rfl ?_
          refine bx_bipush C 46 64 dX8_note_62 bp_46 rfl ?_
          refine bx_iconst C 3 65 dX8_note_64 ic_3 rfl ?_
          refine bx_iload_n C 66 dX8_note_65 rfl rfl rfl ?_
          refine bx_iload_n C 67 dX8_note_66 rfl rfl rfl ?_
          refine bx_iload_n C 68 dX8_note_67 rfl rfl rfl ?_
          refine bx_iconst C 0 69 dX8_note_68 ic_0 rfl ?_
          refine bx_qSv C 72 fc_X8_239 (k_X8_comesRow l E (fun k => a (1 + k)) _ _ _ _ _ _ _ _ hv) dX8_note_69 ⟨rfl, rfl, Nat.le_of_ble_eq_true rfl, Nat.le_of_ble_eq_true rfl⟩ [1] (fun u6 => w_M E a (u6, u.2)) ps_M_A_1 (by decide) ad_A pu_M_A_1 rfl rfl (Nat.le_of_ble_eq_true rfl) rfl (fun u6 hv => ?_)
          refine bx_aload_n C 73 dX8_note_72 rfl rfl rfl ?_
          refine bx_getf (v := .ref (a 1)) C 76 0 0 inX8 rfl (by decide) fl_X8_7 dX8_note_73 at_M_0 rfl rfl ?_
          refine bx_bipush C 46 78 dX8_note_76 bp_46 rfl ?_
          refine bx_iald_k (f := u6) C 79 1 46 dX8_note_78 at_M_1 vin_46_171 cl_46 rfl ?_
          exact bx_iret C (u6, u.2) rfl dX8_note_79 rfl hv
        · replace hv := hv.2 h
          refine bx_aload_n C 54 dX8_note_53 rfl rfl rfl ?_
          refine bx_qVi C 0 at_M_0 rfl 57 fc_X8_109 (k_X8_full l E a _ _ hv) dX8_note_54 ⟨rfl, rfl, Nat.le_of_ble_eq_true rfl, Nat.le_of_ble_eq_true rfl⟩ [0, 1, 2, 3, 4, 5, 6, 7, 8, 9] (fun u8 => w_M E a u8) ps_M_M_0 (by decide) ad_M pu_M_M_0 rfl rfl (Nat.le_of_ble_eq_true rfl) rfl (fun r7 u8 hv => ?_)
          exact bx_iret C u8 rfl dX8_note_57 rfl hv
      · replace hv := hv.2 h
        exact bx_cut [0] (w_M E a u) rfl rfl (t_X8_note_36 C   u  hv)
theorem k_X8_note (l : Launch) (E : bx_E) (a : Nat → Nat)  (K : Int32 → MS → Prop) (u : MS) (x1 : Int32) (x2 : Int32) (x3 : Int32) (hv : V_X8_note  K u x1 x2 x3) : bx_Mi l E yX8_note cX8_note 4 (some .int) (rmD 1) [.ref (a 0), .int x1, .int x2, .int x3] (fun (u : MS) => w_M E a u) u K :=
  bx_meti (by decide +kernel) (Nat.le_of_ble_eq_true rfl) (fun p e S m below meth c C => t_X8_note_0 C u x1 x2 x3 hv)
abbrev G_X8_mark (p : Program) (l : Launch) (e : Env) (S : State) (m : MethodId) (args : Array Value) (below : List Frame) (meth : Method) (c : Code) (E : bx_E) (A : Nat → Prop) (a : Nat → Nat)  (K : Int32 → MS → Prop) (pc : Nat) (lv : List (Nat × Value)) (st : List Value) (ws : va_W) : Prop := bx_S p l e (rmD 2) S m args below meth c 5 E A (MQ below (va_Qi K (fun (u : MS) t => bx_B E A (w_M E a u) t) A) args S 0 0 A) 0 0 pc lv st ws
def V_X8_mark_45  (K : Int32 → MS → Prop)  (u : MS)  : Prop := (V_X8_bad (fun r1 u2 => K r1 u2) u )
set_option maxRecDepth 20000 in
set_option maxHeartbeats 4000000 in
theorem t_X8_mark_45 {a : Nat → Nat} {K : Int32 → MS → Prop} (C : bx_C p (rmD 2) S m args meth c cX8_mark 5 yX8_mark.cls (some .int) E A 0 0)   (u : MS)  (hv : V_X8_mark_45 K u ) : G_X8_mark p l e S m args below meth c E A a  K 45 [(0, .ref (a 0))] [] (w_M E a u) := by
  unfold V_X8_mark_45 at hv
  refine bx_aload_n C 46 dX8_mark_45 rfl rfl rfl ?_
  refine bx_qVi C 0 at_M_0 rfl 49 fc_X8_101 (k_X8_bad l E a _ _ hv) dX8_mark_46 ⟨rfl, rfl, Nat.le_of_ble_eq_true rfl, Nat.le_of_ble_eq_true rfl⟩ [0, 1, 2, 3, 4, 5, 6, 7, 8, 9] (fun u2 => w_M E a u2) ps_M_M_0 (by decide) ad_M pu_M_M_0 rfl rfl (Nat.le_of_ble_eq_true rfl) rfl (fun r1 u2 hv => ?_)
  exact bx_iret C u2 rfl dX8_mark_49 rfl hv
def V_X8_mark  (K : Int32 → MS → Prop)  (u : MS) (x1 : Int32) (x2 : Int32) (x3 : Int32) (x4 : Int32) : Prop := (V_X8_isSoul (fun r3 => ((r3 = 0 → V_X8_mark_45 K u ) ∧
 (¬ r3 = 0 → (V_X8_in (fun r4 => ((r4 = 0 → V_X8_mark_45 K u ) ∧
 (¬ r4 = 0 → (V_X8_in (fun r5 => ((r5 = 0 → V_X8_mark_45 K u ) ∧
 (¬ r5 = 0 → (V_X8_in (fun r6 => ((¬ r6 = 0 → ((¬ (u.1 65) = 6 → (V_X8_comesRow (fun u7 => K (u7 65) (u7, u.2)) u.1 65 4 x1 x2 x3 x4)) ∧
 ((u.1 65) = 6 → (V_X8_full (fun r8 u9 => K r8 u9) u )))) ∧
 (r6 = 0 → V_X8_mark_45 K u )))  ((x4 : Int32).toInt64) 0 40))))  ((x3 : Int32).toInt64) 0 99))))  ((x2 : Int32).toInt64) 0 5)))) u x1)
set_option maxRecDepth 20000 in
set_option maxHeartbeats 4000000 in
theorem t_X8_mark_0 {a : Nat → Nat} {K : Int32 → MS → Prop} (C : bx_C p (rmD 2) S m args meth c cX8_mark 5 yX8_mark.cls (some .int) E A 0 0)   (u : MS) (x1 : Int32) (x2 : Int32) (x3 : Int32) (x4 : Int32) (hv : V_X8_mark K u x1 x2 x3 x4) : G_X8_mark p l e S m args below meth c E A a  K 0 [(0, .ref (a 0)), (1, .int x1), (2, .int x2), (3, .int x3), (4, .int x4)] [] (w_M E a u) := by
  unfold V_X8_mark at hv
  refine bx_aload_n C 1 dX8_mark_0 rfl rfl rfl ?_
  refine bx_iload_n C 2 dX8_mark_1 rfl rfl rfl ?_
  refine bx_pVi C 0 at_M_0 rfl 5 fc_X8_203 (k_X8_isSoul l E a _ _ _ hv) dX8_mark_2 ⟨rfl, rfl, Nat.le_of_ble_eq_true rfl, Nat.le_of_ble_eq_true rfl⟩ [0, 1, 2, 3, 4, 5, 6, 7, 8, 9] ps_M_M_0 (by decide) rfl rfl (Nat.le_of_ble_eq_true rfl) rfl (fun r3 hv => ?_)
  refine bx_if_eq C 45 8 dX8_mark_5 (by decide) rfl (fun h => ?_) (fun h => ?_)
  · replace hv := hv.1 h
    exact bx_cut [0] (w_M E a u) rfl rfl (t_X8_mark_45 C   u  hv)
  · replace hv := hv.2 h
    refine bx_iload_n C 9 dX8_mark_8 rfl rfl rfl ?_
    refine bx_i2l C 10 dX8_mark_9 rfl ?_
    refine bx_lconst C 0 11 dX8_mark_10 lc_0 rfl ?_
    refine bx_ldc2 C 14 cs_X8_99 dX8_mark_11 rfl ?_
    refine bx_pSi C 17 fc_X8_46 (k_X8_in l E  _ _ _ _ hv) dX8_mark_14 ⟨rfl, rfl, Nat.le_of_ble_eq_true rfl, Nat.le_of_ble_eq_true rfl⟩ [] rfl (by decide) rfl rfl (Nat.le_of_ble_eq_true rfl) rfl (fun r4 hv => ?_)
    refine bx_if_eq C 45 20 dX8_mark_17 (by decide) rfl (fun h => ?_) (fun h => ?_)
    · replace hv := hv.1 h
      exact bx_cut [0] (w_M E a u) rfl rfl (t_X8_mark_45 C   u  hv)
    · replace hv := hv.2 h
      refine bx_iload_n C 21 dX8_mark_20 rfl rfl rfl ?_
      refine bx_i2l C 22 dX8_mark_21 rfl ?_
      refine bx_lconst C 0 23 dX8_mark_22 lc_0 rfl ?_
      refine bx_ldc2 C 26 cs_X8_209 dX8_mark_23 rfl ?_
      refine bx_pSi C 29 fc_X8_46 (k_X8_in l E  _ _ _ _ hv) dX8_mark_26 ⟨rfl, rfl, Nat.le_of_ble_eq_true rfl, Nat.le_of_ble_eq_true rfl⟩ [] rfl (by decide) rfl rfl (Nat.le_of_ble_eq_true rfl) rfl (fun r5 hv => ?_)
      refine bx_if_eq C 45 32 dX8_mark_29 (by decide) rfl (fun h => ?_) (fun h => ?_)
      · replace hv := hv.1 h
        exact bx_cut [0] (w_M E a u) rfl rfl (t_X8_mark_45 C   u  hv)
      · replace hv := hv.2 h
        refine bx_iload C 34 dX8_mark_32 rfl rfl ?_
        refine bx_i2l C 35 dX8_mark_34 rfl ?_
        refine bx_lconst C 0 36 dX8_mark_35 lc_0 rfl ?_
        refine bx_ldc2 C 39 cs_X8_237 dX8_mark_36 rfl ?_
        refine bx_pSi C 42 fc_X8_46 (k_X8_in l E  _ _ _ _ hv) dX8_mark_39 ⟨rfl, rfl, Nat.le_of_ble_eq_true rfl, Nat.le_of_ble_eq_true rfl⟩ [] rfl (by decide) rfl rfl (Nat.le_of_ble_eq_true rfl) rfl (fun r6 hv => ?_)
        refine bx_if_ne C 50 45 dX8_mark_42 (by decide) rfl (fun h => ?_) (fun h => ?_)
        · replace hv := hv.1 h
          refine bx_aload_n C 51 dX8_mark_50 rfl rfl rfl ?_
          refine bx_getf (v := .ref (a 1)) C 54 0 0 inX8 rfl (by decide) fl_X8_7 dX8_mark_51 at_M_0 rfl rfl ?_
          refine bx_bipush C 65 56 dX8_mark_54 bp_65 rfl ?_
          refine bx_iald_k (f := u.1) C 57 1 65 dX8_mark_56 at_M_1 vin_65_171 cl_65 rfl ?_
          refine bx_bipush C 6 59 dX8_mark_57 bp_6 rfl ?_
          refine bx_icmp_ne C 67 62 dX8_mark_59 (by decide) rfl (fun h => ?_) (fun h => ?_)
          · replace hv := hv.1 h
            refine bx_aload_n C 68 dX8_mark_67 rfl rfl rfl ?_
            refine bx_getf (v := .ref (a 1)) C 71 0 0 inX8 rfl (by decide) fl_X8_7 dX8_mark_68 at_M_0 rfl rfl ?_
            refine bx_bipush C 65 73 dX8_mark_71 bp_65 rfl ?_
            refine bx_iconst C 4 74 dX8_mark_73 ic_4 rfl ?_
            refine bx_iload_n C 75 dX8_mark_74 rfl rfl rfl ?_
            refine bx_iload_n C 76 dX8_mark_75 rfl rfl rfl ?_
            refine bx_iload_n C 77 dX8_mark_76 rfl rfl rfl ?_
            refine bx_iload C 79 dX8_mark_77 rfl rfl ?_
            refine bx_qSv C 82 fc_X8_239 (k_X8_comesRow l E (fun k => a (1 + k)) _ _ _ _ _ _ _ _ hv) dX8_mark_79 ⟨rfl, rfl, Nat.le_of_ble_eq_true rfl, Nat.le_of_ble_eq_true rfl⟩ [1] (fun u7 => w_M E a (u7, u.2)) ps_M_A_1 (by decide) ad_A pu_M_A_1 rfl rfl (Nat.le_of_ble_eq_true rfl) rfl (fun u7 hv => ?_)
            refine bx_aload_n C 83 dX8_mark_82 rfl rfl rfl ?_
            refine bx_getf (v := .ref (a 1)) C 86 0 0 inX8 rfl (by decide) fl_X8_7 dX8_mark_83 at_M_0 rfl rfl ?_
            refine bx_bipush C 65 88 dX8_mark_86 bp_65 rfl ?_
            refine bx_iald_k (f := u7) C 89 1 65 dX8_mark_88 at_M_1 vin_65_171 cl_65 rfl ?_
            exact bx_iret C (u7, u.2) rfl dX8_mark_89 rfl hv
          · replace hv := hv.2 h
            refine bx_aload_n C 63 dX8_mark_62 rfl rfl rfl ?_
            refine bx_qVi C 0 at_M_0 rfl 66 fc_X8_109 (k_X8_full l E a _ _ hv) dX8_mark_63 ⟨rfl, rfl, Nat.le_of_ble_eq_true rfl, Nat.le_of_ble_eq_true rfl⟩ [0, 1, 2, 3, 4, 5, 6, 7, 8, 9] (fun u9 => w_M E a u9) ps_M_M_0 (by decide) ad_M pu_M_M_0 rfl rfl (Nat.le_of_ble_eq_true rfl) rfl (fun r8 u9 hv => ?_)
            exact bx_iret C u9 rfl dX8_mark_66 rfl hv
        · replace hv := hv.2 h
          exact bx_cut [0] (w_M E a u) rfl rfl (t_X8_mark_45 C   u  hv)
theorem k_X8_mark (l : Launch) (E : bx_E) (a : Nat → Nat)  (K : Int32 → MS → Prop) (u : MS) (x1 : Int32) (x2 : Int32) (x3 : Int32) (x4 : Int32) (hv : V_X8_mark  K u x1 x2 x3 x4) : bx_Mi l E yX8_mark cX8_mark 5 (some .int) (rmD 2) [.ref (a 0), .int x1, .int x2, .int x3, .int x4] (fun (u : MS) => w_M E a u) u K :=
  bx_meti (by decide +kernel) (Nat.le_of_ble_eq_true rfl) (fun p e S m below meth c C => t_X8_mark_0 C u x1 x2 x3 x4 hv)
abbrev G_X8_forget (p : Program) (l : Launch) (e : Env) (S : State) (m : MethodId) (args : Array Value) (below : List Frame) (meth : Method) (c : Code) (E : bx_E) (A : Nat → Prop) (a : Nat → Nat)  (K : Int32 → MS → Prop) (pc : Nat) (lv : List (Nat × Value)) (st : List Value) (ws : va_W) : Prop := bx_S p l e (rmD 1) S m args below meth c 4 E A (MQ below (va_Qi K (fun (u : MS) t => bx_B E A (w_M E a u) t) A) args S 0 0 A) 0 0 pc lv st ws
def V_X8_forget_38  (K : Int32 → MS → Prop)  (u : MS) (z0 : Int32) : Prop := (vp_in z0 171 ∧ (vp_in z0 171 ∧ K (u.1 (z0 : Int32).toNatClampNeg) ((upd u.1 (z0 : Int32).toNatClampNeg 0), u.2)))
set_option maxRecDepth 20000 in
set_option maxHeartbeats 4000000 in
theorem t_X8_forget_38 {a : Nat → Nat} {K : Int32 → MS → Prop} (C : bx_C p (rmD 1) S m args meth c cX8_forget 4 yX8_forget.cls (some .int) E A 0 0)   (u : MS) (z0 : Int32) (hv : V_X8_forget_38 K u z0) : G_X8_forget p l e S m args below meth c E A a  K 38 [(0, .ref (a 0))] [.int z0] (w_M E a u) := by
  unfold V_X8_forget_38 at hv
  refine bx_istore_n C 39 dX8_forget_38 rfl (by decide) rfl ?_
  refine bx_aload_n C 40 dX8_forget_39 rfl rfl rfl ?_
  refine bx_getf (v := .ref (a 1)) C 43 0 0 inX8 rfl (by decide) fl_X8_7 dX8_forget_40 at_M_0 rfl rfl ?_
  refine bx_iload_n C 44 dX8_forget_43 rfl rfl rfl ?_
  refine bx_iald (f := u.1) C 45 1 dX8_forget_44 at_M_1 hv.1 rfl ?_
  replace hv := hv.2
  refine bx_istore_n C 46 dX8_forget_45 rfl (by decide) rfl ?_
  refine bx_aload_n C 47 dX8_forget_46 rfl rfl rfl ?_
  refine bx_getf (v := .ref (a 1)) C 50 0 0 inX8 rfl (by decide) fl_X8_7 dX8_forget_47 at_M_0 rfl rfl ?_
  refine bx_iload_n C 51 dX8_forget_50 rfl rfl rfl ?_
  refine bx_iconst C 0 52 dX8_forget_51 ic_0 rfl ?_
  refine bx_iast C 53 1 (w_M E a ((upd u.1 (z0 : Int32).toNatClampNeg 0), u.2)) dX8_forget_52 rfl hv.1 rfl rfl ?_
  replace hv := hv.2
  refine bx_iload_n C 54 dX8_forget_53 rfl rfl rfl ?_
  exact bx_iret C ((upd u.1 (z0 : Int32).toNatClampNeg 0), u.2) rfl dX8_forget_54 rfl hv
def V_X8_forget  (K : Int32 → MS → Prop)  (u : MS) (x1 : Int32) : Prop := (V_X8_in (fun r1 => ((¬ r1 = 0 → ((¬ x1 = 0 → ((¬ x1 = 1 → V_X8_forget_38 K u 65) ∧
 (x1 = 1 → V_X8_forget_38 K u 46))) ∧
 (x1 = 0 → V_X8_forget_38 K u 30))) ∧
 (r1 = 0 → (V_X8_bad (fun r2 u3 => K r2 u3) u ))))  ((x1 : Int32).toInt64) 0 2)
set_option maxRecDepth 20000 in
set_option maxHeartbeats 4000000 in
theorem t_X8_forget_0 {a : Nat → Nat} {K : Int32 → MS → Prop} (C : bx_C p (rmD 1) S m args meth c cX8_forget 4 yX8_forget.cls (some .int) E A 0 0)   (u : MS) (x1 : Int32) (hv : V_X8_forget K u x1) : G_X8_forget p l e S m args below meth c E A a  K 0 [(0, .ref (a 0)), (1, .int x1)] [] (w_M E a u) := by
  unfold V_X8_forget at hv
  refine bx_iload_n C 1 dX8_forget_0 rfl rfl rfl ?_
  refine bx_i2l C 2 dX8_forget_1 rfl ?_
  refine bx_lconst C 0 3 dX8_forget_2 lc_0 rfl ?_
  refine bx_ldc2 C 6 cs_X8_211 dX8_forget_3 rfl ?_
  refine bx_pSi C 9 fc_X8_46 (k_X8_in l E  _ _ _ _ hv) dX8_forget_6 ⟨rfl, rfl, Nat.le_of_ble_eq_true rfl, Nat.le_of_ble_eq_true rfl⟩ [] rfl (by decide) rfl rfl (Nat.le_of_ble_eq_true rfl) rfl (fun r1 hv => ?_)
  refine bx_if_ne C 17 12 dX8_forget_9 (by decide) rfl (fun h => ?_) (fun h => ?_)
  · replace hv := hv.1 h
    refine bx_iload_n C 18 dX8_forget_17 rfl rfl rfl ?_
    refine bx_if_ne C 26 21 dX8_forget_18 (by decide) rfl (fun h => ?_) (fun h => ?_)
    · replace hv := hv.1 h
      refine bx_iload_n C 27 dX8_forget_26 rfl rfl rfl ?_
      refine bx_iconst C 1 28 dX8_forget_27 ic_1 rfl ?_
      refine bx_icmp_ne C 36 31 dX8_forget_28 (by decide) rfl (fun h => ?_) (fun h => ?_)
      · replace hv := hv.1 h
        refine bx_bipush C 65 38 dX8_forget_36 bp_65 rfl ?_
        exact bx_cut [0] (w_M E a u) rfl rfl (t_X8_forget_38 C   u 65 hv)
      · replace hv := hv.2 h
        refine bx_bipush C 46 33 dX8_forget_31 bp_46 rfl ?_
        refine bx_goto C 38 dX8_forget_33 (by decide) ?_
        exact bx_cut [0] (w_M E a u) rfl rfl (t_X8_forget_38 C   u 46 hv)
    · replace hv := hv.2 h
      refine bx_bipush C 30 23 dX8_forget_21 bp_30 rfl ?_
      refine bx_goto C 38 dX8_forget_23 (by decide) ?_
      exact bx_cut [0] (w_M E a u) rfl rfl (t_X8_forget_38 C   u 30 hv)
  · replace hv := hv.2 h
    refine bx_aload_n C 13 dX8_forget_12 rfl rfl rfl ?_
    refine bx_qVi C 0 at_M_0 rfl 16 fc_X8_101 (k_X8_bad l E a _ _ hv) dX8_forget_13 ⟨rfl, rfl, Nat.le_of_ble_eq_true rfl, Nat.le_of_ble_eq_true rfl⟩ [0, 1, 2, 3, 4, 5, 6, 7, 8, 9] (fun u3 => w_M E a u3) ps_M_M_0 (by decide) ad_M pu_M_M_0 rfl rfl (Nat.le_of_ble_eq_true rfl) rfl (fun r2 u3 hv => ?_)
    exact bx_iret C u3 rfl dX8_forget_16 rfl hv
theorem k_X8_forget (l : Launch) (E : bx_E) (a : Nat → Nat)  (K : Int32 → MS → Prop) (u : MS) (x1 : Int32) (hv : V_X8_forget  K u x1) : bx_Mi l E yX8_forget cX8_forget 4 (some .int) (rmD 1) [.ref (a 0), .int x1] (fun (u : MS) => w_M E a u) u K :=
  bx_meti (by decide +kernel) (Nat.le_of_ble_eq_true rfl) (fun p e S m below meth c C => t_X8_forget_0 C u x1 hv)
abbrev G_X8_isBits (p : Program) (l : Launch) (e : Env) (S : State) (m : MethodId) (args : Array Value) (below : List Frame) (meth : Method) (c : Code) (E : bx_E) (A : Nat → Prop) (a : Nat → Nat)  (u : MS) (K : Int32 → Prop) (pc : Nat) (lv : List (Nat × Value)) (st : List Value) (ws : va_W) : Prop := bx_S p l e (rmD 1) S m args below meth c 6 E A (MQ below (va_Qi (fun r (_ : Unit) => K r) (fun (_ : Unit) t => bx_B E A (w_M E a u) t) A) args S 0 0 A) 0 0 pc lv st ws
def V_X8_isBits_16  (K : Int32 → Prop) (B4 : Int32 → Int32 → Int32 → Prop) : Nat → MS → Int32 → Int32 → Int32 → Int32 → Int32 → Prop
  | 0, _, _, _, _, _, _ => False
  | n + 1, u, x1, x2, x3, x4, x5 => (((u.1 46) ≤ x5 → ((x4 = 0 → B4  x1 (x2 ||| 0) (x3 + 1)) ∧
 (¬ x4 = 0 → B4  x1 (x2 ||| (1 <<< (x3 &&& 31))) (x3 + 1)))) ∧
 (¬ (u.1 46) ≤ x5 → ((x4 = 0 → V_X8_isBits_16 K B4 n u x1 x2 x3 0 (x5 + 1)) ∧
 (¬ x4 = 0 → (V_X8_told (fun r1 => ((¬ r1 = x1 → V_X8_isBits_16 K B4 n u x1 x2 x3 1 (x5 + 1)) ∧
 (r1 = x1 → (V_X8_told (fun r2 => (V_X8_seesBy (fun r3 => (V_X8_told (fun r4 => ((¬ r3 = r4 → V_X8_isBits_16 K B4 n u x1 x2 x3 0 (x5 + 1)) ∧
 (r3 = r4 → V_X8_isBits_16 K B4 n u x1 x2 x3 1 (x5 + 1)))) u 46 3 x5 2))  x3 r2)) u 46 3 x5 1)))) u 46 3 x5 0)))))
set_option maxRecDepth 20000 in
set_option maxHeartbeats 4000000 in
theorem t_X8_isBits_16 {a : Nat → Nat} {K : Int32 → Prop} (C : bx_C p (rmD 1) S m args meth c cX8_isBits 6 yX8_isBits.cls (some .int) E A 0 0) (u : MS) (B4 : Int32 → Int32 → Int32 → Prop) (hB4 : ∀  (x1 : Int32) (x2 : Int32) (x3 : Int32), B4  x1 x2 x3 → G_X8_isBits p l e S m args below meth c E A a  u K 4 [(0, .ref (a 0)), (1, .int x1), (2, .int x2), (3, .int x3)] [] (w_M E a u)) : ∀ (n : Nat)  (x1 : Int32) (x2 : Int32) (x3 : Int32) (x4 : Int32) (x5 : Int32), V_X8_isBits_16 K B4 n u x1 x2 x3 x4 x5 → G_X8_isBits p l e S m args below meth c E A a  u K 16 [(0, .ref (a 0)), (1, .int x1), (2, .int x2), (3, .int x3), (4, .int x4), (5, .int x5)] [] (w_M E a u) := by
  intro n
  induction n with
  | zero =>
    intro x1 x2 x3 x4 x5 hv
    exact False.elim hv
  | succ n ih =>
    intro x1 x2 x3 x4 x5 hv
    unfold V_X8_isBits_16 at hv
    refine bx_iload C 18 dX8_isBits_16 rfl rfl ?_
    refine bx_aload_n C 19 dX8_isBits_18 rfl rfl rfl ?_
    refine bx_getf (v := .ref (a 1)) C 22 0 0 inX8 rfl (by decide) fl_X8_7 dX8_isBits_19 at_M_0 rfl rfl ?_
    refine bx_bipush C 46 24 dX8_isBits_22 bp_46 rfl ?_
    refine bx_iald_k (f := u.1) C 25 1 46 dX8_isBits_24 at_M_1 vin_46_171 cl_46 rfl ?_
    refine bx_icmp_ge C 87 28 dX8_isBits_25 (by decide) rfl (fun h => ?_) (fun h => ?_)
    · replace hv := hv.1 h
      refine bx_iload_n C 88 dX8_isBits_87 rfl rfl rfl ?_
      refine bx_iload C 90 dX8_isBits_88 rfl rfl ?_
      refine bx_if_eq C 99 93 dX8_isBits_90 (by decide) rfl (fun h => ?_) (fun h => ?_)
      · replace hv := hv.1 h
        refine bx_iconst C 0 100 dX8_isBits_99 ic_0 rfl ?_
        refine bx_ior C 101 dX8_isBits_100 rfl ?_
        refine bx_istore_n C 102 dX8_isBits_101 rfl (by decide) rfl ?_
        refine bx_iinc C 1 105 dX8_isBits_102 rfl (by decide) ic_1 rfl ?_
        refine bx_goto C 4 dX8_isBits_105 (by decide) ?_
        exact bx_cut [2, 3, 1, 0] (w_M E a u) rfl rfl (hB4  x1 (x2 ||| 0) (x3 + 1) hv)
      · replace hv := hv.2 h
        refine bx_iconst C 1 94 dX8_isBits_93 ic_1 rfl ?_
        refine bx_iload_n C 95 dX8_isBits_94 rfl rfl rfl ?_
        refine bx_ishl C 96 dX8_isBits_95 rfl ?_
        refine bx_goto C 100 dX8_isBits_96 (by decide) ?_
        refine bx_ior C 101 dX8_isBits_100 rfl ?_
        refine bx_istore_n C 102 dX8_isBits_101 rfl (by decide) rfl ?_
        refine bx_iinc C 1 105 dX8_isBits_102 rfl (by decide) ic_1 rfl ?_
        refine bx_goto C 4 dX8_isBits_105 (by decide) ?_
        exact bx_cut [2, 3, 1, 0] (w_M E a u) rfl rfl (hB4  x1 (x2 ||| (1 <<< (x3 &&& 31))) (x3 + 1) hv)
    · replace hv := hv.2 h
      refine bx_iload C 30 dX8_isBits_28 rfl rfl ?_
      refine bx_if_eq C 78 33 dX8_isBits_30 (by decide) rfl (fun h => ?_) (fun h => ?_)
      · replace hv := hv.1 h
        refine bx_iconst C 0 79 dX8_isBits_78 ic_0 rfl ?_
        refine bx_istore C 81 dX8_isBits_79 (by decide) rfl ?_
        refine bx_iinc C 1 84 dX8_isBits_81 rfl (by decide) ic_1 rfl ?_
        refine bx_goto C 16 dX8_isBits_84 (by decide) ?_
        exact bx_cut [2, 3, 4, 5, 1, 0] (w_M E a u) rfl rfl (ih  x1 x2 x3 0 (x5 + 1) hv)
      · replace hv := hv.2 h
        refine bx_aload_n C 34 dX8_isBits_33 rfl rfl rfl ?_
        refine bx_bipush C 46 36 dX8_isBits_34 bp_46 rfl ?_
        refine bx_iconst C 3 37 dX8_isBits_36 ic_3 rfl ?_
        refine bx_iload C 39 dX8_isBits_37 rfl rfl ?_
        refine bx_iconst C 0 40 dX8_isBits_39 ic_0 rfl ?_
        refine bx_pVi C 0 at_M_0 rfl 43 fc_X8_243 (k_X8_told l E a _ _ _ _ _ _ hv) dX8_isBits_40 ⟨rfl, rfl, Nat.le_of_ble_eq_true rfl, Nat.le_of_ble_eq_true rfl⟩ [0, 1, 2, 3, 4, 5, 6, 7, 8, 9] ps_M_M_0 (by decide) rfl rfl (Nat.le_of_ble_eq_true rfl) rfl (fun r1 hv => ?_)
        refine bx_iload_n C 44 dX8_isBits_43 rfl rfl rfl ?_
        refine bx_icmp_ne C 74 47 dX8_isBits_44 (by decide) rfl (fun h => ?_) (fun h => ?_)
        · replace hv := hv.1 h
          refine bx_iconst C 1 75 dX8_isBits_74 ic_1 rfl ?_
          refine bx_goto C 79 dX8_isBits_75 (by decide) ?_
          refine bx_istore C 81 dX8_isBits_79 (by decide) rfl ?_
          refine bx_iinc C 1 84 dX8_isBits_81 rfl (by decide) ic_1 rfl ?_
          refine bx_goto C 16 dX8_isBits_84 (by decide) ?_
          exact bx_cut [2, 3, 4, 5, 1, 0] (w_M E a u) rfl rfl (ih  x1 x2 x3 1 (x5 + 1) hv)
        · replace hv := hv.2 h
          refine bx_iload_n C 48 dX8_isBits_47 rfl rfl rfl ?_
          refine bx_aload_n C 49 dX8_isBits_48 rfl rfl rfl ?_
          refine bx_bipush C 46 51 dX8_isBits_49 bp_46 rfl ?_
          refine bx_iconst C 3 52 dX8_isBits_51 ic_3 rfl ?_
          refine bx_iload C 54 dX8_isBits_52 rfl rfl ?_
          refine bx_iconst C 1 55 dX8_isBits_54 ic_1 rfl ?_
          refine bx_pVi C 0 at_M_0 rfl 58 fc_X8_243 (k_X8_told l E a _ _ _ _ _ _ hv) dX8_isBits_55 ⟨rfl, rfl, Nat.le_of_ble_eq_true rfl, Nat.le_of_ble_eq_true rfl⟩ [0, 1, 2, 3, 4, 5, 6, 7, 8, 9] ps_M_M_0 (by decide) rfl rfl (Nat.le_of_ble_eq_true rfl) rfl (fun r2 hv => ?_)
          refine bx_pSi C 61 fc_X8_77 (k_X8_seesBy l E  _ _ _ hv) dX8_isBits_58 ⟨rfl, rfl, Nat.le_of_ble_eq_true rfl, Nat.le_of_ble_eq_true rfl⟩ [] rfl (by decide) rfl rfl (Nat.le_of_ble_eq_true rfl) rfl (fun r3 hv => ?_)
          refine bx_aload_n C 62 dX8_isBits_61 rfl rfl rfl ?_
          refine bx_bipush C 46 64 dX8_isBits_62 bp_46 rfl ?_
          refine bx_iconst C 3 65 dX8_isBits_64 ic_3 rfl ?_
          refine bx_iload C 67 dX8_isBits_65 rfl rfl ?_
          refine bx_iconst C 2 68 dX8_isBits_67 ic_2 rfl ?_
          refine bx_pVi C 0 at_M_0 rfl 71 fc_X8_243 (k_X8_told l E a _ _ _ _ _ _ hv) dX8_isBits_68 ⟨rfl, rfl, Nat.le_of_ble_eq_true rfl, Nat.le_of_ble_eq_true rfl⟩ [0, 1, 2, 3, 4, 5, 6, 7, 8, 9] ps_M_M_0 (by decide) rfl rfl (Nat.le_of_ble_eq_true rfl) rfl (fun r4 hv => ?_)
          refine bx_icmp_ne C 78 74 dX8_isBits_71 (by decide) rfl (fun h => ?_) (fun h => ?_)
          · replace hv := hv.1 h
            refine bx_iconst C 0 79 dX8_isBits_78 ic_0 rfl ?_
            refine bx_istore C 81 dX8_isBits_79 (by decide) rfl ?_
            refine bx_iinc C 1 84 dX8_isBits_81 rfl (by decide) ic_1 rfl ?_
            refine bx_goto C 16 dX8_isBits_84 (by decide) ?_
            exact bx_cut [2, 3, 4, 5, 1, 0] (w_M E a u) rfl rfl (ih  x1 x2 x3 0 (x5 + 1) hv)
          · replace hv := hv.2 h
            refine bx_iconst C 1 75 dX8_isBits_74 ic_1 rfl ?_
            refine bx_goto C 79 dX8_isBits_75 (by decide) ?_
            refine bx_istore C 81 dX8_isBits_79 (by decide) rfl ?_
            refine bx_iinc C 1 84 dX8_isBits_81 rfl (by decide) ic_1 rfl ?_
            refine bx_goto C 16 dX8_isBits_84 (by decide) ?_
            exact bx_cut [2, 3, 4, 5, 1, 0] (w_M E a u) rfl rfl (ih  x1 x2 x3 1 (x5 + 1) hv)
def V_X8_isBits_4  (K : Int32 → Prop)  : Nat → MS → Int32 → Int32 → Int32 → Prop
  | 0, _, _, _, _ => False
  | n + 1, u, x1, x2, x3 => ((6 ≤ x3 → K x2) ∧
 (¬ 6 ≤ x3 → ∃ n5, V_X8_isBits_16 K (fun y0 y1 y2 => V_X8_isBits_4 K n u y0 y1 y2) n5 u x1 x2 x3 1 0))
set_option maxRecDepth 20000 in
set_option maxHeartbeats 4000000 in
theorem t_X8_isBits_4 {a : Nat → Nat} {K : Int32 → Prop} (C : bx_C p (rmD 1) S m args meth c cX8_isBits 6 yX8_isBits.cls (some .int) E A 0 0) (u : MS)  : ∀ (n : Nat)  (x1 : Int32) (x2 : Int32) (x3 : Int32), V_X8_isBits_4 K n u x1 x2 x3 → G_X8_isBits p l e S m args below meth c E A a  u K 4 [(0, .ref (a 0)), (1, .int x1), (2, .int x2), (3, .int x3)] [] (w_M E a u) := by
  intro n
  induction n with
  | zero =>
    intro x1 x2 x3 hv
    exact False.elim hv
  | succ n ih =>
    intro x1 x2 x3 hv
    unfold V_X8_isBits_4 at hv
    refine bx_iload_n C 5 dX8_isBits_4 rfl rfl rfl ?_
    refine bx_bipush C 6 7 dX8_isBits_5 bp_6 rfl ?_
    refine bx_icmp_ge C 108 10 dX8_isBits_7 (by decide) rfl (fun h => ?_) (fun h => ?_)
    · replace hv := hv.1 h
      refine bx_iload_n C 109 dX8_isBits_108 rfl rfl rfl ?_
      exact bx_iret C () rfl dX8_isBits_109 rfl hv
    · replace hv := hv.2 h
      refine bx_iconst C 1 11 dX8_isBits_10 ic_1 rfl ?_
      refine bx_istore C 13 dX8_isBits_11 (by decide) rfl ?_
      refine bx_iconst C 0 14 dX8_isBits_13 ic_0 rfl ?_
      refine bx_istore C 16 dX8_isBits_14 (by decide) rfl ?_
      obtain ⟨n5, hv⟩ := hv
      exact bx_cut [2, 3, 4, 5, 1, 0] (w_M E a u) rfl rfl (t_X8_isBits_16 C u _ (fun y0 y1 y2 hv => ih y0 y1 y2 hv) n5  x1 x2 x3 1 0 hv)
def V_X8_isBits  (K : Int32 → Prop)  (u : MS) (x1 : Int32) : Prop := ∃ n6, V_X8_isBits_4 K n6 u x1 0 0
set_option maxRecDepth 20000 in
set_option maxHeartbeats 4000000 in
theorem t_X8_isBits_0 {a : Nat → Nat} {K : Int32 → Prop} (C : bx_C p (rmD 1) S m args meth c cX8_isBits 6 yX8_isBits.cls (some .int) E A 0 0) (u : MS)   (x1 : Int32) (hv : V_X8_isBits K u x1) : G_X8_isBits p l e S m args below meth c E A a  u K 0 [(0, .ref (a 0)), (1, .int x1)] [] (w_M E a u) := by
  unfold V_X8_isBits at hv
  refine bx_iconst C 0 1 dX8_isBits_0 ic_0 rfl ?_
  refine bx_istore_n C 2 dX8_isBits_1 rfl (by decide) rfl ?_
  refine bx_iconst C 0 3 dX8_isBits_2 ic_0 rfl ?_
  refine bx_istore_n C 4 dX8_isBits_3 rfl (by decide) rfl ?_
  obtain ⟨n6, hv⟩ := hv
  exact bx_cut [2, 3, 1, 0] (w_M E a u) rfl rfl (t_X8_isBits_4 C u  n6  x1 0 0 hv)
theorem k_X8_isBits (l : Launch) (E : bx_E) (a : Nat → Nat)  (K : Int32 → Prop) (u : MS) (x1 : Int32) (hv : V_X8_isBits  K u x1) : bx_Mi l E yX8_isBits cX8_isBits 6 (some .int) (rmD 1) [.ref (a 0), .int x1] (fun (_ : Unit) => w_M E a u) () (fun r (_ : Unit) => K r) :=
  bx_meti (by decide +kernel) (Nat.le_of_ble_eq_true rfl) (fun p e S m below meth c C => t_X8_isBits_0 C u x1 hv)
abbrev G_X8_is (p : Program) (l : Launch) (e : Env) (S : State) (m : MethodId) (args : Array Value) (below : List Frame) (meth : Method) (c : Code) (E : bx_E) (A : Nat → Prop) (a : Nat → Nat)  (K : Int32 → MS → Prop) (pc : Nat) (lv : List (Nat × Value)) (st : List Value) (ws : va_W) : Prop := bx_S p l e (rmD 2) S m args below meth c 2 E A (MQ below (va_Qi K (fun (u : MS) t => bx_B E A (w_M E a u) t) A) args S 0 0 A) 0 0 pc lv st ws
def V_X8_is  (K : Int32 → MS → Prop)  (u : MS) (x1 : Int32) : Prop := (V_X8_in (fun r1 => ((r1 = 0 → (V_X8_bad (fun r2 u3 => K r2 u3) u )) ∧
 (¬ r1 = 0 → (V_X8_isBits (fun r4 => K r4 u) u x1))))  ((x1 : Int32).toInt64) 0 4)
set_option maxRecDepth 20000 in
set_option maxHeartbeats 4000000 in
theorem t_X8_is_0 {a : Nat → Nat} {K : Int32 → MS → Prop} (C : bx_C p (rmD 2) S m args meth c cX8_is 2 yX8_is.cls (some .int) E A 0 0)   (u : MS) (x1 : Int32) (hv : V_X8_is K u x1) : G_X8_is p l e S m args below meth c E A a  K 0 [(0, .ref (a 0)), (1, .int x1)] [] (w_M E a u) := by
  unfold V_X8_is at hv
  refine bx_iload_n C 1 dX8_is_0 rfl rfl rfl ?_
  refine bx_i2l C 2 dX8_is_1 rfl ?_
  refine bx_lconst C 0 3 dX8_is_2 lc_0 rfl ?_
  refine bx_ldc2 C 6 cs_X8_97 dX8_is_3 rfl ?_
  refine bx_pSi C 9 fc_X8_46 (k_X8_in l E  _ _ _ _ hv) dX8_is_6 ⟨rfl, rfl, Nat.le_of_ble_eq_true rfl, Nat.le_of_ble_eq_true rfl⟩ [] rfl (by decide) rfl rfl (Nat.le_of_ble_eq_true rfl) rfl (fun r1 hv => ?_)
  refine bx_if_eq C 20 12 dX8_is_9 (by decide) rfl (fun h => ?_) (fun h => ?_)
  · replace hv := hv.1 h
    refine bx_aload_n C 21 dX8_is_20 rfl rfl rfl ?_
    refine bx_qVi C 0 at_M_0 rfl 24 fc_X8_101 (k_X8_bad l E a _ _ hv) dX8_is_21 ⟨rfl, rfl, Nat.le_of_ble_eq_true rfl, Nat.le_of_ble_eq_true rfl⟩ [0, 1, 2, 3, 4, 5, 6, 7, 8, 9] (fun u3 => w_M E a u3) ps_M_M_0 (by decide) ad_M pu_M_M_0 rfl rfl (Nat.le_of_ble_eq_true rfl) rfl (fun r2 u3 hv => ?_)
    exact bx_iret C u3 rfl dX8_is_24 rfl hv
  · replace hv := hv.2 h
    refine bx_aload_n C 13 dX8_is_12 rfl rfl rfl ?_
    refine bx_iload_n C 14 dX8_is_13 rfl rfl rfl ?_
    refine bx_pVi C 0 at_M_0 rfl 17 fc_X8_261 (k_X8_isBits l E a _ _ _ hv) dX8_is_14 ⟨rfl, rfl, Nat.le_of_ble_eq_true rfl, Nat.le_of_ble_eq_true rfl⟩ [0, 1, 2, 3, 4, 5, 6, 7, 8, 9] ps_M_M_0 (by decide) rfl rfl (Nat.le_of_ble_eq_true rfl) rfl (fun r4 hv => ?_)
    refine bx_goto C 24 dX8_is_17 (by decide) ?_
    exact bx_iret C u rfl dX8_is_24 rfl hv
theorem k_X8_is (l : Launch) (E : bx_E) (a : Nat → Nat)  (K : Int32 → MS → Prop) (u : MS) (x1 : Int32) (hv : V_X8_is  K u x1) : bx_Mi l E yX8_is cX8_is 2 (some .int) (rmD 2) [.ref (a 0), .int x1] (fun (u : MS) => w_M E a u) u K :=
  bx_meti (by decide +kernel) (Nat.le_of_ble_eq_true rfl) (fun p e S m below meth c C => t_X8_is_0 C u x1 hv)
abbrev G_X8_look (p : Program) (l : Launch) (e : Env) (S : State) (m : MethodId) (args : Array Value) (below : List Frame) (meth : Method) (c : Code) (E : bx_E) (A : Nat → Prop) (a : Nat → Nat)  (K : Int32 → MS → Prop) (pc : Nat) (lv : List (Nat × Value)) (st : List Value) (ws : va_W) : Prop := bx_S p l e (rmD 2) S m args below meth c 7 E A (MQ below (va_Qi K (fun (u : MS) t => bx_B E A (w_M E a u) t) A) args S 0 0 A) 0 0 pc lv st ws
def V_X8_look_50  (K : Int32 → MS → Prop) (B32 : MS → Int32 → Int32 → Int32 → Int32 → Prop) : Nat → MS → Int32 → Int32 → Int32 → Int32 → Int32 → Prop
  | 0, _, _, _, _, _, _ => False
  | n + 1, u, x2, x3, x4, x5, x6 => ((6 ≤ x6 → (V_X8_mostAlike (fun r1 => ((x4 ≤ r1 → B32 u x2 x3 x4 (x5 + 1)) ∧
 (¬ x4 ≤ r1 → (V_X8_mostAlike (fun r2 => B32 u x2 x5 r2 (x5 + 1)) u )))) u )) ∧
 (¬ 6 ≤ x6 → (V_X8_has (fun r3 => ((r3 = 0 → V_X8_look_50 K B32 n u x2 x3 x4 x5 (x6 + 1)) ∧
 (¬ r3 = 0 → (V_X8_seesBy (fun r4 => (vp_in r4 41 ∧ (vp_in r4 41 ∧ V_X8_look_50 K B32 n (u.1, u.2.1, u.2.2.1, u.2.2.2.1, u.2.2.2.2.1, u.2.2.2.2.2.1, u.2.2.2.2.2.2.1, u.2.2.2.2.2.2.2.1, u.2.2.2.2.2.2.2.2.1, u.2.2.2.2.2.2.2.2.2.1, u.2.2.2.2.2.2.2.2.2.2.1, u.2.2.2.2.2.2.2.2.2.2.2.1, u.2.2.2.2.2.2.2.2.2.2.2.2.1, u.2.2.2.2.2.2.2.2.2.2.2.2.2.1, u.2.2.2.2.2.2.2.2.2.2.2.2.2.2.1, (upd u.2.2.2.2.2.2.2.2.2.2.2.2.2.2.2 (r4 : Int32).toNatClampNeg ((u.2.2.2.2.2.2.2.2.2.2.2.2.2.2.2 (r4 : Int32).toNatClampNeg) + 1))) x2 x3 x4 x5 (x6 + 1))))  x6 x5))))  x2 x6)))
set_option maxRecDepth 20000 in
set_option maxHeartbeats 4000000 in
theorem t_X8_look_50 {a : Nat → Nat} {K : Int32 → MS → Prop} (C : bx_C p (rmD 2) S m args meth c cX8_look 7 yX8_look.cls (some .int) E A 0 0)  (B32 : MS → Int32 → Int32 → Int32 → Int32 → Prop) (hB32 : ∀ (u : MS) (x2 : Int32) (x3 : Int32) (x4 : Int32) (x5 : Int32), B32 u x2 x3 x4 x5 → G_X8_look p l e S m args below meth c E A a  K 32 [(0, .ref (a 0)), (2, .int x2), (3, .int x3), (4, .int x4), (5, .int x5)] [] (w_M E a u)) : ∀ (n : Nat) (u : MS) (x2 : Int32) (x3 : Int32) (x4 : Int32) (x5 : Int32) (x6 : Int32), V_X8_look_50 K B32 n u x2 x3 x4 x5 x6 → G_X8_look p l e S m args below meth c E A a  K 50 [(0, .ref (a 0)), (2, .int x2), (3, .int x3), (4, .int x4), (5, .int x5), (6, .int x6)] [] (w_M E a u) := by
  intro n
  induction n with
  | zero =>
    intro u x2 x3 x4 x5 x6 hv
    exact False.elim hv
  | succ n ih =>
    intro u x2 x3 x4 x5 x6 hv
    unfold V_X8_look_50 at hv
    refine bx_iload C 52 dX8_look_50 rfl rfl ?_
    refine bx_bipush C 6 54 dX8_look_52 bp_6 rfl ?_
    refine bx_icmp_ge C 88 57 dX8_look_54 (by decide) rfl (fun h => ?_) (fun h => ?_)
    · replace hv := hv.1 h
      refine bx_aload_n C 89 dX8_look_88 rfl rfl rfl ?_
      refine bx_pVi C 0 at_M_0 rfl 92 fc_X8_256 (k_X8_mostAlike l E a _ _ hv) dX8_look_89 ⟨rfl, rfl, Nat.le_of_ble_eq_true rfl, Nat.le_of_ble_eq_true rfl⟩ [0, 1, 2, 3, 4, 5, 6, 7, 8, 9] ps_M_M_0 (by decide) rfl rfl (Nat.le_of_ble_eq_true rfl) rfl (fun r1 hv => ?_)
      refine bx_iload C 94 dX8_look_92 rfl rfl ?_
      refine bx_icmp_ge C 106 97 dX8_look_94 (by decide) rfl (fun h => ?_) (fun h => ?_)
      · replace hv := hv.1 h
        refine bx_iinc C 1 109 dX8_look_106 rfl (by decide) ic_1 rfl ?_
        refine bx_goto C 32 dX8_look_109 (by decide) ?_
        exact bx_cut [1, 2, 3, 4, 0] (w_M E a u) rfl rfl (hB32 u x2 x3 x4 (x5 + 1) hv)
      · replace hv := hv.2 h
        refine bx_aload_n C 98 dX8_look_97 rfl rfl rfl ?_
        refine bx_pVi C 0 at_M_0 rfl 101 fc_X8_256 (k_X8_mostAlike l E a _ _ hv) dX8_look_98 ⟨rfl, rfl, Nat.le_of_ble_eq_true rfl, Nat.le_of_ble_eq_true rfl⟩ [0, 1, 2, 3, 4, 5, 6, 7, 8, 9] ps_M_M_0 (by decide) rfl rfl (Nat.le_of_ble_eq_true rfl) rfl (fun r2 hv => ?_)
        refine bx_istore C 103 dX8_look_101 (by decide) rfl ?_
        refine bx_iload C 105 dX8_look_103 rfl rfl ?_
        refine bx_istore_n C 106 dX8_look_105 rfl (by decide) rfl ?_
        refine bx_iinc C 1 109 dX8_look_106 rfl (by decide) ic_1 rfl ?_
        refine bx_goto C 32 dX8_look_109 (by decide) ?_
        exact bx_cut [3, 4, 1, 2, 0] (w_M E a u) rfl rfl (hB32 u x2 x5 r2 (x5 + 1) hv)
    · replace hv := hv.2 h
      refine bx_iload_n C 58 dX8_look_57 rfl rfl rfl ?_
      refine bx_iload C 60 dX8_look_58 rfl rfl ?_
      refine bx_pSi C 63 fc_X8_66 (k_X8_has l E  _ _ _ hv) dX8_look_60 ⟨rfl, rfl, Nat.le_of_ble_eq_true rfl, Nat.le_of_ble_eq_true rfl⟩ [] rfl (by decide) rfl rfl (Nat.le_of_ble_eq_true rfl) rfl (fun r3 hv => ?_)
      refine bx_if_eq C 82 66 dX8_look_63 (by decide) rfl (fun h => ?_) (fun h => ?_)
      · replace hv := hv.1 h
        refine bx_iinc C 1 85 dX8_look_82 rfl (by decide) ic_1 rfl ?_
        refine bx_goto C 50 dX8_look_85 (by decide) ?_
        exact bx_cut [1, 2, 3, 4, 5, 0] (w_M E a u) rfl rfl (ih u x2 x3 x4 x5 (x6 + 1) hv)
      · replace hv := hv.2 h
        refine bx_aload_n C 67 dX8_look_66 rfl rfl rfl ?_
        refine bx_getf (v := .ref (a 9)) C 70 0 15 inX8 rfl (by decide) fl_X8_43 dX8_look_67 at_M_0 rfl rfl ?_
        refine bx_iload C 72 dX8_look_70 rfl rfl ?_
        refine bx_iload C 74 dX8_look_72 rfl rfl ?_
        refine bx_pSi C 77 fc_X8_77 (k_X8_seesBy l E  _ _ _ hv) dX8_look_74 ⟨rfl, rfl, Nat.le_of_ble_eq_true rfl, Nat.le_of_ble_eq_true rfl⟩ [] rfl (by decide) rfl rfl (Nat.le_of_ble_eq_true rfl) rfl (fun r4 hv => ?_)
        refine bx_dup2_11 C 78 dX8_look_77 rfl rfl rfl ?_
        refine bx_iald (f := u.2.2.2.2.2.2.2.2.2.2.2.2.2.2.2) C 79 9 dX8_look_78 at_M_9 hv.1 rfl ?_
        replace hv := hv.2
        refine bx_iconst C 1 80 dX8_look_79 ic_1 rfl ?_
        refine bx_iadd C 81 dX8_look_80 rfl ?_
        refine bx_iast C 82 9 (w_M E a (u.1, u.2.1, u.2.2.1, u.2.2.2.1, u.2.2.2.2.1, u.2.2.2.2.2.1, u.2.2.2.2.2.2.1, u.2.2.2.2.2.2.2.1, u.2.2.2.2.2.2.2.2.1, u.2.2.2.2.2.2.2.2.2.1, u.2.2.2.2.2.2.2.2.2.2.1, u.2.2.2.2.2.2.2.2.2.2.2.1, u.2.2.2.2.2.2.2.2.2.2.2.2.1, u.2.2.2.2.2.2.2.2.2.2.2.2.2.1, u.2.2.2.2.2.2.2.2.2.2.2.2.2.2.1, (upd u.2.2.2.2.2.2.2.2.2.2.2.2.2.2.2 (r4 : Int32).toNatClampNeg ((u.2.2.2.2.2.2.2.2.2.2.2.2.2.2.2 (r4 : Int32).toNatClampNeg) + 1)))) dX8_look_81 rfl hv.1 rfl rfl ?_
        replace hv := hv.2
        refine bx_iinc C 1 85 dX8_look_82 rfl (by decide) ic_1 rfl ?_
        refine bx_goto C 50 dX8_look_85 (by decide) ?_
        exact bx_cut [1, 2, 3, 4, 5, 0] (w_M E a (u.1, u.2.1, u.2.2.1, u.2.2.2.1, u.2.2.2.2.1, u.2.2.2.2.2.1, u.2.2.2.2.2.2.1, u.2.2.2.2.2.2.2.1, u.2.2.2.2.2.2.2.2.1, u.2.2.2.2.2.2.2.2.2.1, u.2.2.2.2.2.2.2.2.2.2.1, u.2.2.2.2.2.2.2.2.2.2.2.1, u.2.2.2.2.2.2.2.2.2.2.2.2.1, u.2.2.2.2.2.2.2.2.2.2.2.2.2.1, u.2.2.2.2.2.2.2.2.2.2.2.2.2.2.1, (upd u.2.2.2.2.2.2.2.2.2.2.2.2.2.2.2 (r4 : Int32).toNatClampNeg ((u.2.2.2.2.2.2.2.2.2.2.2.2.2.2.2 (r4 : Int32).toNatClampNeg) + 1)))) rfl rfl (ih (u.1, u.2.1, u.2.2.1, u.2.2.2.1, u.2.2.2.2.1, u.2.2.2.2.2.1, u.2.2.2.2.2.2.1, u.2.2.2.2.2.2.2.1, u.2.2.2.2.2.2.2.2.1, u.2.2.2.2.2.2.2.2.2.1, u.2.2.2.2.2.2.2.2.2.2.1, u.2.2.2.2.2.2.2.2.2.2.2.1, u.2.2.2.2.2.2.2.2.2.2.2.2.1, u.2.2.2.2.2.2.2.2.2.2.2.2.2.1, u.2.2.2.2.2.2.2.2.2.2.2.2.2.2.1, (upd u.2.2.2.2.2.2.2.2.2.2.2.2.2.2.2 (r4 : Int32).toNatClampNeg ((u.2.2.2.2.2.2.2.2.2.2.2.2.2.2.2 (r4 : Int32).toNatClampNeg) + 1))) x2 x3 x4 x5 (x6 + 1) hv)
def V_X8_look_32  (K : Int32 → MS → Prop)  : Nat → MS → Int32 → Int32 → Int32 → Int32 → Prop
  | 0, _, _, _, _, _ => False
  | n + 1, u, x2, x3, x4, x5 => ((6 ≤ x5 → K x3 u) ∧
 (¬ 6 ≤ x5 → ((x2 = 0 → K x3 u) ∧
 (¬ x2 = 0 → (V_X8_clearAlike (fun u5 => ∃ n6, V_X8_look_50 K (fun v y0 y1 y2 y3 => V_X8_look_32 K n v y0 y1 y2 y3) n6 u5 x2 x3 x4 x5 0) u )))))
set_option maxRecDepth 20000 in
set_option maxHeartbeats 4000000 in
theorem t_X8_look_32 {a : Nat → Nat} {K : Int32 → MS → Prop} (C : bx_C p (rmD 2) S m args meth c cX8_look 7 yX8_look.cls (some .int) E A 0 0)   : ∀ (n : Nat) (u : MS) (x2 : Int32) (x3 : Int32) (x4 : Int32) (x5 : Int32), V_X8_look_32 K n u x2 x3 x4 x5 → G_X8_look p l e S m args below meth c E A a  K 32 [(0, .ref (a 0)), (2, .int x2), (3, .int x3), (4, .int x4), (5, .int x5)] [] (w_M E a u) := by
  intro n
  induction n with
  | zero =>
    intro u x2 x3 x4 x5 hv
    exact False.elim hv
  | succ n ih =>
    intro u x2 x3 x4 x5 hv
    unfold V_X8_look_32 at hv
    refine bx_iload C 34 dX8_look_32 rfl rfl ?_
    refine bx_bipush C 6 36 dX8_look_34 bp_6 rfl ?_
    refine bx_icmp_ge C 112 39 dX8_look_36 (by decide) rfl (fun h => ?_) (fun h => ?_)
    · replace hv := hv.1 h
      refine bx_iload_n C 113 dX8_look_112 rfl rfl rfl ?_
      exact bx_iret C u rfl dX8_look_113 rfl hv
    · replace hv := hv.2 h
      refine bx_iload_n C 40 dX8_look_39 rfl rfl rfl ?_
      refine bx_if_eq C 112 43 dX8_look_40 (by decide) rfl (fun h => ?_) (fun h => ?_)
      · replace hv := hv.1 h
        refine bx_iload_n C 113 dX8_look_112 rfl rfl rfl ?_
        exact bx_iret C u rfl dX8_look_113 rfl hv
      · replace hv := hv.2 h
        refine bx_aload_n C 44 dX8_look_43 rfl rfl rfl ?_
        refine bx_qVv C 0 at_M_0 rfl 47 fc_X8_253 (k_X8_clearAlike l E a _ _ hv) dX8_look_44 ⟨rfl, rfl, Nat.le_of_ble_eq_true rfl, Nat.le_of_ble_eq_true rfl⟩ [0, 1, 2, 3, 4, 5, 6, 7, 8, 9] (fun u5 => w_M E a u5) ps_M_M_0 (by decide) ad_M pu_M_M_0 rfl rfl (Nat.le_of_ble_eq_true rfl) rfl (fun u5 hv => ?_)
        refine bx_iconst C 0 48 dX8_look_47 ic_0 rfl ?_
        refine bx_istore C 50 dX8_look_48 (by decide) rfl ?_
        obtain ⟨n6, hv⟩ := hv
        exact bx_cut [1, 2, 3, 4, 5, 0] (w_M E a u5) rfl rfl (t_X8_look_50 C  _ (fun v y0 y1 y2 y3 hv => ih v y0 y1 y2 y3 hv) n6 u5 x2 x3 x4 x5 0 hv)
def V_X8_look  (K : Int32 → MS → Prop)  (u : MS) (x1 : Int32) : Prop := (V_X8_in (fun r7 => ((¬ r7 = 0 → (V_X8_isBits (fun r8 => ∃ n9, V_X8_look_32 K n9 u r8 (-1) 9 0) u x1)) ∧
 (r7 = 0 → (V_X8_bad (fun r10 u11 => K r10 u11) u ))))  ((x1 : Int32).toInt64) 0 4)
set_option maxRecDepth 20000 in
set_option maxHeartbeats 4000000 in
theorem t_X8_look_0 {a : Nat → Nat} {K : Int32 → MS → Prop} (C : bx_C p (rmD 2) S m args meth c cX8_look 7 yX8_look.cls (some .int) E A 0 0)   (u : MS) (x1 : Int32) (hv : V_X8_look K u x1) : G_X8_look p l e S m args below meth c E A a  K 0 [(0, .ref (a 0)), (1, .int x1)] [] (w_M E a u) := by
  unfold V_X8_look at hv
  refine bx_iload_n C 1 dX8_look_0 rfl rfl rfl ?_
  refine bx_i2l C 2 dX8_look_1 rfl ?_
  refine bx_lconst C 0 3 dX8_look_2 lc_0 rfl ?_
  refine bx_ldc2 C 6 cs_X8_97 dX8_look_3 rfl ?_
  refine bx_pSi C 9 fc_X8_46 (k_X8_in l E  _ _ _ _ hv) dX8_look_6 ⟨rfl, rfl, Nat.le_of_ble_eq_true rfl, Nat.le_of_ble_eq_true rfl⟩ [] rfl (by decide) rfl rfl (Nat.le_of_ble_eq_true rfl) rfl (fun r7 hv => ?_)
  refine bx_if_ne C 17 12 dX8_look_9 (by decide) rfl (fun h => ?_) (fun h => ?_)
  · replace hv := hv.1 h
    refine bx_aload_n C 18 dX8_look_17 rfl rfl rfl ?_
    refine bx_iload_n C 19 dX8_look_18 rfl rfl rfl ?_
    refine bx_pVi C 0 at_M_0 rfl 22 fc_X8_261 (k_X8_isBits l E a _ _ _ hv) dX8_look_19 ⟨rfl, rfl, Nat.le_of_ble_eq_true rfl, Nat.le_of_ble_eq_true rfl⟩ [0, 1, 2, 3, 4, 5, 6, 7, 8, 9] ps_M_M_0 (by decide) rfl rfl (Nat.le_of_ble_eq_true rfl) rfl (fun r8 hv => ?_)
    refine bx_istore_n C 23 dX8_look_22 rfl (by decide) rfl ?_
    refine bx_iconst C (-1) 24 dX8_look_23 ic_m1 rfl ?_
    refine bx_istore_n C 25 dX8_look_24 rfl (by decide) rfl ?_
    refine bx_bipush C 9 27 dX8_look_25 bp_9 rfl ?_
    refine bx_istore C 29 dX8_look_27 (by decide) rfl ?_
    refine bx_iconst C 0 30 dX8_look_29 ic_0 rfl ?_
    refine bx_istore C 32 dX8_look_30 (by decide) rfl ?_
    obtain ⟨n9, hv⟩ := hv
    exact bx_cut [4, 3, 2, 1, 0] (w_M E a u) rfl rfl (t_X8_look_32 C   n9 u r8 (-1) 9 0 hv)
  · replace hv := hv.2 h
    refine bx_aload_n C 13 dX8_look_12 rfl rfl rfl ?_
    refine bx_qVi C 0 at_M_0 rfl 16 fc_X8_101 (k_X8_bad l E a _ _ hv) dX8_look_13 ⟨rfl, rfl, Nat.le_of_ble_eq_true rfl, Nat.le_of_ble_eq_true rfl⟩ [0, 1, 2, 3, 4, 5, 6, 7, 8, 9] (fun u11 => w_M E a u11) ps_M_M_0 (by decide) ad_M pu_M_M_0 rfl rfl (Nat.le_of_ble_eq_true rfl) rfl (fun r10 u11 hv => ?_)
    exact bx_iret C u11 rfl dX8_look_16 rfl hv
theorem k_X8_look (l : Launch) (E : bx_E) (a : Nat → Nat)  (K : Int32 → MS → Prop) (u : MS) (x1 : Int32) (hv : V_X8_look  K u x1) : bx_Mi l E yX8_look cX8_look 7 (some .int) (rmD 2) [.ref (a 0), .int x1] (fun (u : MS) => w_M E a u) u K :=
  bx_meti (by decide +kernel) (Nat.le_of_ble_eq_true rfl) (fun p e S m below meth c C => t_X8_look_0 C u x1 hv)
abbrev G_X8_whatBits (p : Program) (l : Launch) (e : Env) (S : State) (m : MethodId) (args : Array Value) (below : List Frame) (meth : Method) (c : Code) (E : bx_E) (A : Nat → Prop) (a : Nat → Nat)  (u : MS) (K : Int32 → Prop) (pc : Nat) (lv : List (Nat × Value)) (st : List Value) (ws : va_W) : Prop := bx_S p l e (rmD 1) S m args below meth c 6 E A (MQ below (va_Qi (fun r (_ : Unit) => K r) (fun (_ : Unit) t => bx_B E A (w_M E a u) t) A) args S 0 0 A) 0 0 pc lv st ws
def V_X8_whatBits_16  (K : Int32 → Prop) (B4 : Int32 → Int32 → Int32 → Prop) : Nat → MS → Int32 → Int32 → Int32 → Int32 → Int32 → Prop
  | 0, _, _, _, _, _, _ => False
  | n + 1, u, x1, x2, x3, x4, x5 => (((u.1 65) ≤ x5 → ((x4 = 0 → B4  x1 (x2 ||| 0) (x3 + 1)) ∧
 (¬ x4 = 0 → B4  x1 (x2 ||| (1 <<< (x3 &&& 31))) (x3 + 1)))) ∧
 (¬ (u.1 65) ≤ x5 → ((x4 = 0 → V_X8_whatBits_16 K B4 n u x1 x2 x3 0 (x5 + 1)) ∧
 (¬ x4 = 0 → (V_X8_told (fun r1 => ((¬ r1 = x1 → V_X8_whatBits_16 K B4 n u x1 x2 x3 1 (x5 + 1)) ∧
 (r1 = x1 → (V_X8_told (fun r2 => (V_X8_told (fun r3 => (V_X8_fussBy (fun r4 => (V_X8_told (fun r5 => ((¬ r4 = r5 → V_X8_whatBits_16 K B4 n u x1 x2 x3 0 (x5 + 1)) ∧
 (r4 = r5 → V_X8_whatBits_16 K B4 n u x1 x2 x3 1 (x5 + 1)))) u 65 4 x5 3))  x3 r2 r3)) u 65 4 x5 2)) u 65 4 x5 1)))) u 65 4 x5 0)))))
set_option maxRecDepth 20000 in
set_option maxHeartbeats 4000000 in
theorem t_X8_whatBits_16 {a : Nat → Nat} {K : Int32 → Prop} (C : bx_C p (rmD 1) S m args meth c cX8_whatBits 6 yX8_whatBits.cls (some .int) E A 0 0) (u : MS) (B4 : Int32 → Int32 → Int32 → Prop) (hB4 : ∀  (x1 : Int32) (x2 : Int32) (x3 : Int32), B4  x1 x2 x3 → G_X8_whatBits p l e S m args below meth c E A a  u K 4 [(0, .ref (a 0)), (1, .int x1), (2, .int x2), (3, .int x3)] [] (w_M E a u)) : ∀ (n : Nat)  (x1 : Int32) (x2 : Int32) (x3 : Int32) (x4 : Int32) (x5 : Int32), V_X8_whatBits_16 K B4 n u x1 x2 x3 x4 x5 → G_X8_whatBits p l e S m args below meth c E A a  u K 16 [(0, .ref (a 0)), (1, .int x1), (2, .int x2), (3, .int x3), (4, .int x4), (5, .int x5)] [] (w_M E a u) := by
  intro n
  induction n with
  | zero =>
    intro x1 x2 x3 x4 x5 hv
    exact False.elim hv
  | succ n ih =>
    intro x1 x2 x3 x4 x5 hv
    unfold V_X8_whatBits_16 at hv
    refine bx_iload C 18 dX8_whatBits_16 rfl rfl ?_
    refine bx_aload_n C 19 dX8_whatBits_18 rfl rfl rfl ?_
    refine bx_getf (v := .ref (a 1)) C 22 0 0 inX8 rfl (by decide) fl_X8_7 dX8_whatBits_19 at_M_0 rfl rfl ?_
    refine bx_bipush C 65 24 dX8_whatBits_22 bp_65 rfl ?_
    refine bx_iald_k (f := u.1) C 25 1 65 dX8_whatBits_24 at_M_1 vin_65_171 cl_65 rfl ?_
    refine bx_icmp_ge C 97 28 dX8_whatBits_25 (by decide) rfl (fun h => ?_) (fun h => ?_)
    · replace hv := hv.1 h
      refine bx_iload_n C 98 dX8_whatBits_97 rfl rfl rfl ?_
      refine bx_iload C 100 dX8_whatBits_98 rfl rfl ?_
      refine bx_if_eq C 109 103 dX8_whatBits_100 (by decide) rfl (fun h => ?_) (fun h => ?_)
      · replace hv := hv.1 h
        refine bx_iconst C 0 110 dX8_whatBits_109 ic_0 rfl ?_
        refine bx_ior C 111 dX8_whatBits_110 rfl ?_
        refine bx_istore_n C 112 dX8_whatBits_111 rfl (by decide) rfl ?_
        refine bx_iinc C 1 115 dX8_whatBits_112 rfl (by decide) ic_1 rfl ?_
        refine bx_goto C 4 dX8_whatBits_115 (by decide) ?_
        exact bx_cut [2, 3, 1, 0] (w_M E a u) rfl rfl (hB4  x1 (x2 ||| 0) (x3 + 1) hv)
      · replace hv := hv.2 h
        refine bx_iconst C 1 104 dX8_whatBits_103 ic_1 rfl ?_
        refine bx_iload_n C 105 dX8_whatBits_104 rfl rfl rfl ?_
        refine bx_ishl C 106 dX8_whatBits_105 rfl ?_
        refine bx_goto C 110 dX8_whatBits_106 (by decide) ?_
        refine bx_ior C 111 dX8_whatBits_110 rfl ?_
        refine bx_istore_n C 112 dX8_whatBits_111 rfl (by decide) rfl ?_
        refine bx_iinc C 1 115 dX8_whatBits_112 rfl (by decide) ic_1 rfl ?_
        refine bx_goto C 4 dX8_whatBits_115 (by decide) ?_
        exact bx_cut [2, 3, 1, 0] (w_M E a u) rfl rfl (hB4  x1 (x2 ||| (1 <<< (x3 &&& 31))) (x3 + 1) hv)
    · replace hv := hv.2 h
      refine bx_iload C 30 dX8_whatBits_28 rfl rfl ?_
      refine bx_if_eq C 88 33 dX8_whatBits_30 (by decide) rfl (fun h => ?_) (fun h => ?_)
      · replace hv := hv.1 h
        refine bx_iconst C 0 89 dX8_whatBits_88 ic_0 rfl ?_
        refine bx_istore C 91 dX8_whatBits_89 (by decide) rfl ?_
        refine bx_iinc C 1 94 dX8_whatBits_91 rfl (by decide) ic_1 rfl ?_
        refine bx_goto C 16 dX8_whatBits_94 (by decide) ?_
        exact bx_cut [2, 3, 4, 5, 1, 0] (w_M E a u) rfl rfl (ih  x1 x2 x3 0 (x5 + 1) hv)
      · replace hv := hv.2 h
        refine bx_aload_n C 34 dX8_whatBits_33 rfl rfl rfl ?_
        refine bx_bipush C 65 36 dX8_whatBits_34 bp_65 rfl ?_
        refine bx_iconst C 4 37 dX8_whatBits_36 ic_4 rfl ?_
        refine bx_iload C 39 dX8_whatBits_37 rfl rfl ?_
        refine bx_iconst C 0 40 dX8_whatBits_39 ic_0 rfl ?_
        refine bx_pVi C 0 at_M_0 rfl 43 fc_X8_243 (k_X8_told l E a _ _ _ _ _ _ hv) dX8_whatBits_40 ⟨rfl, rfl, Nat.le_of_ble_eq_true rfl, Nat.le_of_ble_eq_true rfl⟩ [0, 1, 2, 3, 4, 5, 6, 7, 8, 9] ps_M_M_0 (by decide) rfl rfl (Nat.le_of_ble_eq_true rfl) rfl (fun r1 hv => ?_)
        refine bx_iload_n C 44 dX8_whatBits_43 rfl rfl rfl ?_
        refine bx_icmp_ne C 84 47 dX8_whatBits_44 (by decide) rfl (fun h => ?_) (fun h => ?_)
        · replace hv := hv.1 h
          refine bx_iconst C 1 85 dX8_whatBits_84 ic_1 rfl ?_
          refine bx_goto C 89 dX8_whatBits_85 (by decide) ?_
          refine bx_istore C 91 dX8_whatBits_89 (by decide) rfl ?_
          refine bx_iinc C 1 94 dX8_whatBits_91 rfl (by decide) ic_1 rfl ?_
          refine bx_goto C 16 dX8_whatBits_94 (by decide) ?_
          exact bx_cut [2, 3, 4, 5, 1, 0] (w_M E a u) rfl rfl (ih  x1 x2 x3 1 (x5 + 1) hv)
        · replace hv := hv.2 h
          refine bx_iload_n C 48 dX8_whatBits_47 rfl rfl rfl ?_
          refine bx_aload_n C 49 dX8_whatBits_48 rfl rfl rfl ?_
          refine bx_bipush C 65 51 dX8_whatBits_49 bp_65 rfl ?_
          refine bx_iconst C 4 52 dX8_whatBits_51 ic_4 rfl ?_
          refine bx_iload C 54 dX8_whatBits_52 rfl rfl ?_
          refine bx_iconst C 1 55 dX8_whatBits_54 ic_1 rfl ?_
          refine bx_pVi C 0 at_M_0 rfl 58 fc_X8_243 (k_X8_told l E a _ _ _ _ _ _ hv) dX8_whatBits_55 ⟨rfl, rfl, Nat.le_of_ble_eq_true rfl, Nat.le_of_ble_eq_true rfl⟩ [0, 1, 2, 3, 4, 5, 6, 7, 8, 9] ps_M_M_0 (by decide) rfl rfl (Nat.le_of_ble_eq_true rfl) rfl (fun r2 hv => ?_)
          refine bx_aload_n C 59 dX8_whatBits_58 rfl rfl rfl ?_
          refine bx_bipush C 65 61 dX8_whatBits_59 bp_65 rfl ?_
          refine bx_iconst C 4 62 dX8_whatBits_61 ic_4 rfl ?_
          refine bx_iload C 64 dX8_whatBits_62 rfl rfl ?_
          refine bx_iconst C 2 65 dX8_whatBits_64 ic_2 rfl ?_
          refine bx_pVi C 0 at_M_0 rfl 68 fc_X8_243 (k_X8_told l E a _ _ _ _ _ _ hv) dX8_whatBits_65 ⟨rfl, rfl, Nat.le_of_ble_eq_true rfl, Nat.le_of_ble_eq_true rfl⟩ [0, 1, 2, 3, 4, 5, 6, 7, 8, 9] ps_M_M_0 (by decide) rfl rfl (Nat.le_of_ble_eq_true rfl) rfl (fun r3 hv => ?_)
          refine bx_pSi C 71 fc_X8_73 (k_X8_fussBy l E  _ _ _ _ hv) dX8_whatBits_68 ⟨rfl, rfl, Nat.le_of_ble_eq_true rfl, Nat.le_of_ble_eq_true rfl⟩ [] rfl (by decide) rfl rfl (Nat.le_of_ble_eq_true rfl) rfl (fun r4 hv => ?_)
          refine bx_aload_n C 72 dX8_whatBits_71 rfl rfl rfl ?_
          refine bx_bipush C 65 74 dX8_whatBits_72 bp_65 rfl ?_
          refine bx_iconst C 4 75 dX8_whatBits_74 ic_4 rfl ?_
          refine bx_iload C 77 dX8_whatBits_75 rfl rfl ?_
          refine bx_iconst C 3 78 dX8_whatBits_77 ic_3 rfl ?_
          refine bx_pVi C 0 at_M_0 rfl 81 fc_X8_243 (k_X8_told l E a _ _ _ _ _ _ hv) dX8_whatBits_78 ⟨rfl, rfl, Nat.le_of_ble_eq_true rfl, Nat.le_of_ble_eq_true rfl⟩ [0, 1, 2, 3, 4, 5, 6, 7, 8, 9] ps_M_M_0 (by decide) rfl rfl (Nat.le_of_ble_eq_true rfl) rfl (fun r5 hv => ?_)
          refine bx_icmp_ne C 88 84 dX8_whatBits_81 (by decide) rfl (fun h => ?_) (fun h => ?_)
          · replace hv := hv.1 h
            refine bx_iconst C 0 89 dX8_whatBits_88 ic_0 rfl ?_
            refine bx_istore C 91 dX8_whatBits_89 (by decide) rfl ?_
            refine bx_iinc C 1 94 dX8_whatBits_91 rfl (by decide) ic_1 rfl ?_
            refine bx_goto C 16 dX8_whatBits_94 (by decide) ?_
            exact bx_cut [2, 3, 4, 5, 1, 0] (w_M E a u) rfl rfl (ih  x1 x2 x3 0 (x5 + 1) hv)
          · replace hv := hv.2 h
            refine bx_iconst C 1 85 dX8_whatBits_84 ic_1 rfl ?_
            refine bx_goto C 89 dX8_whatBits_85 (by decide) ?_
            refine bx_istore C 91 dX8_whatBits_89 (by decide) rfl ?_
            refine bx_iinc C 1 94 dX8_whatBits_91 rfl (by decide) ic_1 rfl ?_
            refine bx_goto C 16 dX8_whatBits_94 (by decide) ?_
            exact bx_cut [2, 3, 4, 5, 1, 0] (w_M E a u) rfl rfl (ih  x1 x2 x3 1 (x5 + 1) hv)
def V_X8_whatBits_4  (K : Int32 → Prop)  : Nat → MS → Int32 → Int32 → Int32 → Prop
  | 0, _, _, _, _ => False
  | n + 1, u, x1, x2, x3 => ((6 ≤ x3 → K x2) ∧
 (¬ 6 ≤ x3 → ∃ n6, V_X8_whatBits_16 K (fun y0 y1 y2 => V_X8_whatBits_4 K n u y0 y1 y2) n6 u x1 x2 x3 1 0))
set_option maxRecDepth 20000 in
set_option maxHeartbeats 4000000 in
theorem t_X8_whatBits_4 {a : Nat → Nat} {K : Int32 → Prop} (C : bx_C p (rmD 1) S m args meth c cX8_whatBits 6 yX8_whatBits.cls (some .int) E A 0 0) (u : MS)  : ∀ (n : Nat)  (x1 : Int32) (x2 : Int32) (x3 : Int32), V_X8_whatBits_4 K n u x1 x2 x3 → G_X8_whatBits p l e S m args below meth c E A a  u K 4 [(0, .ref (a 0)), (1, .int x1), (2, .int x2), (3, .int x3)] [] (w_M E a u) := by
  intro n
  induction n with
  | zero =>
    intro x1 x2 x3 hv
    exact False.elim hv
  | succ n ih =>
    intro x1 x2 x3 hv
    unfold V_X8_whatBits_4 at hv
    refine bx_iload_n C 5 dX8_whatBits_4 rfl rfl rfl ?_
    refine bx_bipush C 6 7 dX8_whatBits_5 bp_6 rfl ?_
    refine bx_icmp_ge C 118 10 dX8_whatBits_7 (by decide) rfl (fun h => ?_) (fun h => ?_)
    · replace hv := hv.1 h
      refine bx_iload_n C 119 dX8_whatBits_118 rfl rfl rfl ?_
      exact bx_iret C () rfl dX8_whatBits_119 rfl hv
    · replace hv := hv.2 h
      refine bx_iconst C 1 11 dX8_whatBits_10 ic_1 rfl ?_
      refine bx_istore C 13 dX8_whatBits_11 (by decide) rfl ?_
      refine bx_iconst C 0 14 dX8_whatBits_13 ic_0 rfl ?_
      refine bx_istore C 16 dX8_whatBits_14 (by decide) rfl ?_
      obtain ⟨n6, hv⟩ := hv
      exact bx_cut [2, 3, 4, 5, 1, 0] (w_M E a u) rfl rfl (t_X8_whatBits_16 C u _ (fun y0 y1 y2 hv => ih y0 y1 y2 hv) n6  x1 x2 x3 1 0 hv)
def V_X8_whatBits  (K : Int32 → Prop)  (u : MS) (x1 : Int32) : Prop := ∃ n7, V_X8_whatBits_4 K n7 u x1 0 0
set_option maxRecDepth 20000 in
set_option maxHeartbeats 4000000 in
theorem t_X8_whatBits_0 {a : Nat → Nat} {K : Int32 → Prop} (C : bx_C p (rmD 1) S m args meth c cX8_whatBits 6 yX8_whatBits.cls (some .int) E A 0 0) (u : MS)   (x1 : Int32) (hv : V_X8_whatBits K u x1) : G_X8_whatBits p l e S m args below meth c E A a  u K 0 [(0, .ref (a 0)), (1, .int x1)] [] (w_M E a u) := by
  unfold V_X8_whatBits at hv
  refine bx_iconst C 0 1 dX8_whatBits_0 ic_0 rfl ?_
  refine bx_istore_n C 2 dX8_whatBits_1 rfl (by decide) rfl ?_
  refine bx_iconst C 0 3 dX8_whatBits_2 ic_0 rfl ?_
  refine bx_istore_n C 4 dX8_whatBits_3 rfl (by decide) rfl ?_
  obtain ⟨n7, hv⟩ := hv
  exact bx_cut [2, 3, 1, 0] (w_M E a u) rfl rfl (t_X8_whatBits_4 C u  n7  x1 0 0 hv)
theorem k_X8_whatBits (l : Launch) (E : bx_E) (a : Nat → Nat)  (K : Int32 → Prop) (u : MS) (x1 : Int32) (hv : V_X8_whatBits  K u x1) : bx_Mi l E yX8_whatBits cX8_whatBits 6 (some .int) (rmD 1) [.ref (a 0), .int x1] (fun (_ : Unit) => w_M E a u) () (fun r (_ : Unit) => K r) :=
  bx_meti (by decide +kernel) (Nat.le_of_ble_eq_true rfl) (fun p e S m below meth c C => t_X8_whatBits_0 C u x1 hv)
end
