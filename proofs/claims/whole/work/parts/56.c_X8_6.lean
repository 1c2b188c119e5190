section
variable {p : Program} {l : Launch} {e : Env} {S : State} {m : MethodId} {args : Array Value} {below : List Frame} {meth : Method} {c : Code} {E : bx_E} {A : Nat → Prop}
abbrev G_X8_kinds (p : Program) (l : Launch) (e : Env) (S : State) (m : MethodId) (args : Array Value) (below : List Frame) (meth : Method) (c : Code) (E : bx_E) (A : Nat → Prop) (a : Nat → Nat)  (K : Int32 → MS → Prop) (pc : Nat) (lv : List (Nat × Value)) (st : List Value) (ws : va_W) : Prop := bx_S p l e (rmD 2) S m args below meth c 2 E A (MQ below (va_Qi K (fun (u : MS) t => bx_B E A (w_M E a u) t) A) args S 0 0 A) 0 0 pc lv st ws
def V_X8_kinds  (K : Int32 → MS → Prop)  (u : MS) (x1 : Int32) : Prop := (V_X8_isSoul (fun r1 => ((r1 = 0 → (V_X8_bad (fun r2 u3 => K r2 u3) u )) ∧
 (¬ r1 = 0 → (V_X8_whatBits (fun r4 => K r4 u) u x1)))) u x1)
set_option maxRecDepth 20000 in
set_option maxHeartbeats 4000000 in
theorem t_X8_kinds_0 {a : Nat → Nat} {K : Int32 → MS → Prop} (C : bx_C p (rmD 2) S m args meth c cX8_kinds 2 yX8_kinds.cls (some .int) E A 0 0)   (u : MS) (x1 : Int32) (hv : V_X8_kinds K u x1) : G_X8_kinds p l e S m args below meth c E A a  K 0 [(0, .ref (a 0)), (1, .int x1)] [] (w_M E a u) := by
  unfold V_X8_kinds at hv
  refine bx_aload_n C 1 dX8_kinds_0 rfl rfl rfl ?_
  refine bx_iload_n C 2 dX8_kinds_1 rfl rfl rfl ?_
  refine bx_pVi C 0 at_M_0 rfl 5 fc_X8_203 (k_X8_isSoul l E a _ _ _ hv) dX8_kinds_2 ⟨rfl, rfl, Nat.le_of_ble_eq_true rfl, Nat.le_of_ble_eq_true rfl⟩ [0, 1, 2, 3, 4, 5, 6, 7, 8, 9] ps_M_M_0 (by decide) rfl rfl (Nat.le_of_ble_eq_true rfl) rfl (fun r1 hv => ?_)
  refine bx_if_eq C 16 8 dX8_kinds_5 (by decide) rfl (fun h => ?_) (fun h => ?_)
  · replace hv := hv.1 h
    refine bx_aload_n C 17 dX8_kinds_16 rfl rfl rfl ?_
    refine bx_qVi C 0 at_M_0 rfl 20 fc_X8_101 (k_X8_bad l E a _ _ hv) dX8_kinds_17 ⟨rfl, rfl, Nat.le_of_ble_eq_true rfl, Nat.le_of_ble_eq_true rfl⟩ [0, 1, 2, 3, 4, 5, 6, 7, 8, 9] (fun u3 => w_M E a u3) ps_M_M_0 (by decide) ad_M pu_M_M_0 rfl rfl (Nat.le_of_ble_eq_true rfl) rfl (fun r2 u3 hv => ?_)
    exact bx_iret C u3 rfl dX8_kinds_20 rfl hv
  · replace hv := hv.2 h
    refine bx_aload_n C 9 dX8_kinds_8 rfl rfl rfl ?_
    refine bx_iload_n C 10 dX8_kinds_9 rfl rfl rfl ?_
    refine bx_pVi C 0 at_M_0 rfl 13 fc_X8_264 (k_X8_whatBits l E a _ _ _ hv) dX8_kinds_10 ⟨rfl, rfl, Nat.le_of_ble_eq_true rfl, Nat.le_of_ble_eq_true rfl⟩ [0, 1, 2, 3, 4, 5, 6, 7, 8, 9] ps_M_M_0 (by decide) rfl rfl (Nat.le_of_ble_eq_true rfl) rfl (fun r4 hv => ?_)
    refine bx_goto C 20 dX8_kinds_13 (by decide) ?_
    exact bx_iret C u rfl dX8_kinds_20 rfl hv
theorem k_X8_kinds (l : Launch) (E : bx_E) (a : Nat → Nat)  (K : Int32 → MS → Prop) (u : MS) (x1 : Int32) (hv : V_X8_kinds  K u x1) : bx_Mi l E yX8_kinds cX8_kinds 2 (some .int) (rmD 2) [.ref (a 0), .int x1] (fun (u : MS) => w_M E a u) u K :=
  bx_meti (by decide +kernel) (Nat.le_of_ble_eq_true rfl) (fun p e S m below meth c C => t_X8_kinds_0 C u x1 hv)
abbrev G_X8_ask (p : Program) (l : Launch) (e : Env) (S : State) (m : MethodId) (args : Array Value) (below : List Frame) (meth : Method) (c : Code) (E : bx_E) (A : Nat → Prop) (a : Nat → Nat)  (K : Int32 → MS → Prop) (pc : Nat) (lv : List (Nat × Value)) (st : List Value) (ws : va_W) : Prop := bx_S p l e (rmD 2) S m args below meth c 8 E A (MQ below (va_Qi K (fun (u : MS) t => bx_B E A (w_M E a u) t) A) args S 0 0 A) 0 0 pc lv st ws
def V_X8_ask_56  (K : Int32 → MS → Prop) (B28 : MS → Int32 → Int32 → Int32 → Int32 → Prop) (B38 : MS → Int32 → Int32 → Int32 → Int32 → Int32 → Prop) : Nat → MS → Int32 → Int32 → Int32 → Int32 → Int32 → Int32 → Prop
  | 0, _, _, _, _, _, _, _ => False
  | n + 1, u, x2, x3, x4, x5, x6, x7 => ((6 ≤ x7 → (V_X8_mostAlike (fun r1 => ((x4 ≤ r1 → B38 u x2 x3 x4 x5 (x6 + 1)) ∧
 (¬ x4 ≤ r1 → (V_X8_mostAlike (fun r2 => B38 u x2 ((100 * x5) + x6) r2 x5 (x6 + 1)) u )))) u )) ∧
 (¬ 6 ≤ x7 → (V_X8_has (fun r3 => ((r3 = 0 → V_X8_ask_56 K B28 B38 n u x2 x3 x4 x5 x6 (x7 + 1)) ∧
 (¬ r3 = 0 → (V_X8_fussBy (fun r4 => (vp_in r4 41 ∧ (vp_in r4 41 ∧ V_X8_ask_56 K B28 B38 n (u.1, u.2.1, u.2.2.1, u.2.2.2.1, u.2.2.2.2.1, u.2.2.2.2.2.1, u.2.2.2.2.2.2.1, u.2.2.2.2.2.2.2.1, u.2.2.2.2.2.2.2.2.1, u.2.2.2.2.2.2.2.2.2.1, u.2.2.2.2.2.2.2.2.2.2.1, u.2.2.2.2.2.2.2.2.2.2.2.1, u.2.2.2.2.2.2.2.2.2.2.2.2.1, u.2.2.2.2.2.2.2.2.2.2.2.2.2.1, u.2.2.2.2.2.2.2.2.2.2.2.2.2.2.1, (upd u.2.2.2.2.2.2.2.2.2.2.2.2.2.2.2 (r4 : Int32).toNatClampNeg ((u.2.2.2.2.2.2.2.2.2.2.2.2.2.2.2 (r4 : Int32).toNatClampNeg) + 1))) x2 x3 x4 x5 x6 (x7 + 1))))  x7 x5 x6))))  x2 x7)))
set_option maxRecDepth 20000 in
set_option maxHeartbeats 4000000 in
theorem t_X8_ask_56 {a : Nat → Nat} {K : Int32 → MS → Prop} (C : bx_C p (rmD 2) S m args meth c cX8_ask 8 yX8_ask.cls (some .int) E A 0 0)  (B28 : MS → Int32 → Int32 → Int32 → Int32 → Prop) (hB28 : ∀ (u : MS) (x2 : Int32) (x3 : Int32) (x4 : Int32) (x5 : Int32), B28 u x2 x3 x4 x5 → G_X8_ask p l e S m args below meth c E A a  K 28 [(0, .ref (a 0)), (2, .int x2), (3, .int x3), (4, .int x4), (5, .int x5)] [] (w_M E a u)) (B38 : MS → Int32 → Int32 → Int32 → Int32 → Int32 → Prop) (hB38 : ∀ (u : MS) (x2 : Int32) (x3 : Int32) (x4 : Int32) (x5 : Int32) (x6 : Int32), B38 u x2 x3 x4 x5 x6 → G_X8_ask p l e S m args below meth c E A a  K 38 [(0, .ref (a 0)), (2, .int x2), (3, .int x3), (4, .int x4), (5, .int x5), (6, .int x6)] [] (w_M E a u)) : ∀ (n : Nat) (u : MS) (x2 : Int32) (x3 : Int32) (x4 : Int32) (x5 : Int32) (x6 : Int32) (x7 : Int32), V_X8_ask_56 K B28 B38 n u x2 x3 x4 x5 x6 x7 → G_X8_ask p l e S m args below meth c E A a  K 56 [(0, .ref (a 0)), (2, .int x2), (3, .int x3), (4, .int x4), (5, .int x5), (6, .int x6), (7, .int x7)] [] (w_M E a u) := by
  intro n
  induction n with
  | zero =>
    intro u x2 x3 x4 x5 x6 x7 hv
    exact False.elim hv
  | succ n ih =>
    intro u x2 x3 x4 x5 x6 x7 hv
    unfold V_X8_ask_56 at hv
    refine bx_iload C 58 dX8_ask_56 rfl rfl ?_
    refine bx_bipush C 6 60 dX8_ask_58 bp_6 rfl ?_
    refine bx_icmp_ge C 96 63 dX8_ask_60 (by decide) rfl (fun h => ?_) (fun h => ?_)
    · replace hv := hv.1 h
      refine bx_aload_n C 97 dX8_ask_96 rfl rfl rfl ?_
      refine bx_pVi C 0 at_M_0 rfl 100 fc_X8_256 (k_X8_mostAlike l E a _ _ hv) dX8_ask_97 ⟨rfl, rfl, Nat.le_of_ble_eq_true rfl, Nat.le_of_ble_eq_true rfl⟩ [0, 1, 2, 3, 4, 5, 6, 7, 8, 9] ps_M_M_0 (by decide) rfl rfl (Nat.le_of_ble_eq_true rfl) rfl (fun r1 hv => ?_)
      refine bx_iload C 102 dX8_ask_100 rfl rfl ?_
      refine bx_icmp_ge C 120 105 dX8_ask_102 (by decide) rfl (fun h => ?_) (fun h => ?_)
      · replace hv := hv.1 h
        refine bx_iinc C 1 123 dX8_ask_120 rfl (by decide) ic_1 rfl ?_
        refine bx_goto C 38 dX8_ask_123 (by decide) ?_
        exact bx_cut [1, 2, 3, 4, 5, 0] (w_M E a u) rfl rfl (hB38 u x2 x3 x4 x5 (x6 + 1) hv)
      · replace hv := hv.2 h
        refine bx_aload_n C 106 dX8_ask_105 rfl rfl rfl ?_
        refine bx_pVi C 0 at_M_0 rfl 109 fc_X8_256 (k_X8_mostAlike l E a _ _ hv) dX8_ask_106 ⟨rfl, rfl, Nat.le_of_ble_eq_true rfl, Nat.le_of_ble_eq_true rfl⟩ [0, 1, 2, 3, 4, 5, 6, 7, 8, 9] ps_M_M_0 (by decide) rfl rfl (Nat.le_of_ble_eq_true rfl) rfl (fun r2 hv => ?_)
        refine bx_istore C 111 dX8_ask_109 (by decide) rfl ?_
        refine bx_bipush C 100 113 dX8_ask_111 bp_100 rfl ?_
        refine bx_iload C 115 dX8_ask_113 rfl rfl ?_
        refine bx_imul C 116 dX8_ask_115 rfl ?_
        refine bx_iload C 118 dX8_ask_116 rfl rfl ?_
        refine bx_iadd C 119 dX8_ask_118 rfl ?_
        refine bx_istore_n C 120 dX8_ask_119 rfl (by decide) rfl ?_
        refine bx_iinc C 1 123 dX8_ask_120 rfl (by decide) ic_1 rfl ?_
        refine bx_goto C 38 dX8_ask_123 (by decide) ?_
        exact bx_cut [3, 4, 1, 2, 5, 0] (w_M E a u) rfl rfl (hB38 u x2 ((100 * x5) + x6) r2 x5 (x6 + 1) hv)
    · replace hv := hv.2 h
      refine bx_iload_n C 64 dX8_ask_63 rfl rfl rfl ?_
      refine bx_iload C 66 dX8_ask_64 rfl rfl ?_
      refine bx_pSi C 69 fc_X8_66 (k_X8_has l E  _ _ _ hv) dX8_ask_66 ⟨rfl, rfl, Nat.le_of_ble_eq_true rfl, Nat.le_of_ble_eq_true rfl⟩ [] rfl (by decide) rfl rfl (Nat.le_of_ble_eq_true rfl) rfl (fun r3 hv => ?_)
      refine bx_if_eq C 90 72 dX8_ask_69 (by decide) rfl (fun h => ?_) (fun h => ?_)
      · replace hv := hv.1 h
        refine bx_iinc C 1 93 dX8_ask_90 rfl (by decide) ic_1 rfl ?_
        refine bx_goto C 56 dX8_ask_93 (by decide) ?_
        exact bx_cut [1, 2, 3, 4, 5, 6, 0] (w_M E a u) rfl rfl (ih u x2 x3 x4 x5 x6 (x7 + 1) hv)
      · replace hv := hv.2 h
        refine bx_aload_n C 73 dX8_ask_72 rfl rfl rfl ?_
        refine bx_getf (v := .ref (a 9)) C 76 0 15 inX8 rfl (by decide) fl_X8_43 dX8_ask_73 at_M_0 rfl rfl ?_
        refine bx_iload C 78 dX8_ask_76 rfl rfl ?_
        refine bx_iload C 80 dX8_ask_78 rfl rfl ?_
        refine bx_iload C 82 dX8_ask_80 rfl rfl ?_
        refine bx_pSi C 85 fc_X8_73 (k_X8_fussBy l E  _ _ _ _ hv) dX8_ask_82 ⟨rfl, rfl, Nat.le_of_ble_eq_true rfl, Nat.le_of_ble_eq_true rfl⟩ [] rfl (by decide) rfl rfl (Nat.le_of_ble_eq_true rfl) rfl (fun r4 hv => ?_)
        refine bx_dup2_11 C 86 dX8_ask_85 rfl rfl rfl ?_
        refine bx_iald (f := u.2.2.2.2.2.2.2.2.2.2.2.2.2.2.2) C 87 9 dX8_ask_86 at_M_9 hv.1 rfl ?_
        replace hv := hv.2
        refine bx_iconst C 1 88 dX8_ask_87 ic_1 rfl ?_
        refine bx_iadd C 89 dX8_ask_88 rfl ?_
        refine bx_iast C 90 9 (w_M E a (u.1, u.2.1, u.2.2.1, u.2.2.2.1, u.2.2.2.2.1, u.2.2.2.2.2.1, u.2.2.2.2.2.2.1, u.2.2.2.2.2.2.2.1, u.2.2.2.2.2.2.2.2.1, u.2.2.2.2.2.2.2.2.2.1, u.2.2.2.2.2.2.2.2.2.2.1, u.2.2.2.2.2.2.2.2.2.2.2.1, u.2.2.2.2.2.2.2.2.2.2.2.2.1, u.2.2.2.2.2.2.2.2.2.2.2.2.2.1, u.2.2.2.2.2.2.2.2.2.2.2.2.2.2.1, (upd u.2.2.2.2.2.2.2.2.2.2.2.2.2.2.2 (r4 : Int32).toNatClampNeg ((u.2.2.2.2.2.2.2.2.2.2.2.2.2.2.2 (r4 : Int32).toNatClampNeg) + 1)))) dX8_ask_89 rfl hv.1 rfl rfl ?_
        replace hv := hv.2
        refine bx_iinc C 1 93 dX8_ask_90 rfl (by decide) ic_1 rfl ?_
        refine bx_goto C 56 dX8_ask_93 (by decide) ?_
        exact bx_cut [1, 2, 3, 4, 5, 6, 0] (w_M E a (u.1, u.2.1, u.2.2.1, u.2.2.2.1, u.2.2.2.2.1, u.2.2.2.2.2.1, u.2.2.2.2.2.2.1, u.2.2.2.2.2.2.2.1, u.2.2.2.2.2.2.2.2.1, u.2.2.2.2.2.2.2.2.2.1, u.2.2.2.2.2.2.2.2.2.2.1, u.2.2.2.2.2.2.2.2.2.2.2.1, u.2.2.2.2.2.2.2.2.2.2.2.2.1, u.2.2.2.2.2.2.2.2.2.2.2.2.2.1, u.2.2.2.2.2.2.2.2.2.2.2.2.2.2.1, (upd u.2.2.2.2.2.2.2.2.2.2.2.2.2.2.2 (r4 : Int32).toNatClampNeg ((u.2.2.2.2.2.2.2.2.2.2.2.2.2.2.2 (r4 : Int32).toNatClampNeg) + 1)))) rfl rfl (ih (u.1, u.2.1, u.2.2.1, u.2.2.2.1, u.2.2.2.2.1, u.2.2.2.2.2.1, u.2.2.2.2.2.2.1, u.2.2.2.2.2.2.2.1, u.2.2.2.2.2.2.2.2.1, u.2.2.2.2.2.2.2.2.2.1, u.2.2.2.2.2.2.2.2.2.2.1, u.2.2.2.2.2.2.2.2.2.2.2.1, u.2.2.2.2.2.2.2.2.2.2.2.2.1, u.2.2.2.2.2.2.2.2.2.2.2.2.2.1, u.2.2.2.2.2.2.2.2.2.2.2.2.2.2.1, (upd u.2.2.2.2.2.2.2.2.2.2.2.2.2.2.2 (r4 : Int32).toNatClampNeg ((u.2.2.2.2.2.2.2.2.2.2.2.2.2.2.2 (r4 : Int32).toNatClampNeg) + 1))) x2 x3 x4 x5 x6 (x7 + 1) hv)
def V_X8_ask_38  (K : Int32 → MS → Prop) (B28 : MS → Int32 → Int32 → Int32 → Int32 → Prop) : Nat → MS → Int32 → Int32 → Int32 → Int32 → Int32 → Prop
  | 0, _, _, _, _, _, _ => False
  | n + 1, u, x2, x3, x4, x5, x6 => ((11 ≤ x6 → B28 u x2 x3 x4 (x5 + 1)) ∧
 (¬ 11 ≤ x6 → ((x2 = 0 → B28 u x2 x3 x4 (x5 + 1)) ∧
 (¬ x2 = 0 → (V_X8_clearAlike (fun u5 => ∃ n6, V_X8_ask_56 K B28 (fun v y0 y1 y2 y3 y4 => V_X8_ask_38 K B28 n v y0 y1 y2 y3 y4) n6 u5 x2 x3 x4 x5 x6 0) u )))))
set_option maxRecDepth 20000 in
set_option maxHeartbeats 4000000 in
theorem t_X8_ask_38 {a : Nat → Nat} {K : Int32 → MS → Prop} (C : bx_C p (rmD 2) S m args meth c cX8_ask 8 yX8_ask.cls (some .int) E A 0 0)  (B28 : MS → Int32 → Int32 → Int32 → Int32 → Prop) (hB28 : ∀ (u : MS) (x2 : Int32) (x3 : Int32) (x4 : Int32) (x5 : Int32), B28 u x2 x3 x4 x5 → G_X8_ask p l e S m args below meth c E A a  K 28 [(0, .ref (a 0)), (2, .int x2), (3, .int x3), (4, .int x4), (5, .int x5)] [] (w_M E a u)) : ∀ (n : Nat) (u : MS) (x2 : Int32) (x3 : Int32) (x4 : Int32) (x5 : Int32) (x6 : Int32), V_X8_ask_38 K B28 n u x2 x3 x4 x5 x6 → G_X8_ask p l e S m args below meth c E A a  K 38 [(0, .ref (a 0)), (2, .int x2), (3, .int x3), (4, .int x4), (5, .int x5), (6, .int x6)] [] (w_M E a u) := by
  intro n
  induction n with
  | zero =>
    intro u x2 x3 x4 x5 x6 hv
    exact False.elim hv
  | succ n ih =>
    intro u x2 x3 x4 x5 x6 hv
    unfold V_X8_ask_38 at hv
    refine bx_iload C 40 dX8_ask_38 rfl rfl ?_
    refine bx_bipush C 11 42 dX8_ask_40 bp_11 rfl ?_
    refine bx_icmp_ge C 126 45 dX8_ask_42 (by decide) rfl (fun h => ?_) (fun h => ?_)
    · replace hv := hv.1 h
      refine bx_iinc C 1 129 dX8_ask_126 rfl (by decide) ic_1 rfl ?_
      refine bx_goto C 28 dX8_ask_129 (by decide) ?_
      exact bx_cut [1, 2, 3, 4, 0] (w_M E a u) rfl rfl (hB28 u x2 x3 x4 (x5 + 1) hv)
    · replace hv := hv.2 h
      refine bx_iload_n C 46 dX8_ask_45 rfl rfl rfl ?_
      refine bx_if_eq C 126 49 dX8_ask_46 (by decide) rfl (fun h => ?_) (fun h => ?_)
      · replace hv := hv.1 h
        refine bx_iinc C 1 129 dX8_ask_126 rfl (by decide) ic_1 rfl ?_
        refine bx_goto C 28 dX8_ask_129 (by decide) ?_
        exact bx_cut [1, 2, 3, 4, 0] (w_M E a u) rfl rfl (hB28 u x2 x3 x4 (x5 + 1) hv)
      · replace hv := hv.2 h
        refine bx_aload_n C 50 dX8_ask_49 rfl rfl rfl ?_
        refine bx_qVv C 0 at_M_0 rfl 53 fc_X8_253 (k_X8_clearAlike l E a _ _ hv) dX8_ask_50 ⟨rfl, rfl, Nat.le_of_ble_eq_true rfl, Nat.le_of_ble_eq_true rfl⟩ [0, 1, 2, 3, 4, 5, 6, 7, 8, 9] (fun u5 => w_M E a u5) ps_M_M_0 (by decide) ad_M pu_M_M_0 rfl rfl (Nat.le_of_ble_eq_true rfl) rfl (fun u5 hv => ?_)
        refine bx_iconst C 0 54 dX8_ask_53 ic_0 rfl ?_
        refine bx_istore C 56 dX8_ask_54 (by decide) rfl ?_
        obtain ⟨n6, hv⟩ := hv
        exact bx_cut [1, 2, 3, 4, 5, 6, 0] (w_M E a u5) rfl rfl (t_X8_ask_56 C  _ hB28 _ (fun v y0 y1 y2 y3 y4 hv => ih v y0 y1 y2 y3 y4 hv) n6 u5 x2 x3 x4 x5 x6 0 hv)
def V_X8_ask_28  (K : Int32 → MS → Prop)  : Nat → MS → Int32 → Int32 → Int32 → Int32 → Prop
  | 0, _, _, _, _, _ => False
  | n + 1, u, x2, x3, x4, x5 => ((6 ≤ x5 → K x3 u) ∧
 (¬ 6 ≤ x5 → ∃ n7, V_X8_ask_38 K (fun v y0 y1 y2 y3 => V_X8_ask_28 K n v y0 y1 y2 y3) n7 u x2 x3 x4 x5 0))
set_option maxRecDepth 20000 in
set_option maxHeartbeats 4000000 in
theorem t_X8_ask_28 {a : Nat → Nat} {K : Int32 → MS → Prop} (C : bx_C p (rmD 2) S m args meth c cX8_ask 8 yX8_ask.cls (some .int) E A 0 0)   : ∀ (n : Nat) (u : MS) (x2 : Int32) (x3 : Int32) (x4 : Int32) (x5 : Int32), V_X8_ask_28 K n u x2 x3 x4 x5 → G_X8_ask p l e S m args below meth c E A a  K 28 [(0, .ref (a 0)), (2, .int x2), (3, .int x3), (4, .int x4), (5, .int x5)] [] (w_M E a u) := by
  intro n
  induction n with
  | zero =>
    intro u x2 x3 x4 x5 hv
    exact False.elim hv
  | succ n ih =>
    intro u x2 x3 x4 x5 hv
    unfold V_X8_ask_28 at hv
    refine bx_iload C 30 dX8_ask_28 rfl rfl ?_
    refine bx_bipush C 6 32 dX8_ask_30 bp_6 rfl ?_
    refine bx_icmp_ge C 132 35 dX8_ask_32 (by decide) rfl (fun h => ?_) (fun h => ?_)
    · replace hv := hv.1 h
      refine bx_iload_n C 133 dX8_ask_132 rfl rfl rfl ?_
      exact bx_iret C u rfl dX8_ask_133 rfl hv
    · replace hv := hv.2 h
      refine bx_iconst C 0 36 dX8_ask_35 ic_0 rfl ?_
      refine bx_istore C 38 dX8_ask_36 (by decide) rfl ?_
      obtain ⟨n7, hv⟩ := hv
      exact bx_cut [1, 2, 3, 4, 5, 0] (w_M E a u) rfl rfl (t_X8_ask_38 C  _ (fun v y0 y1 y2 y3 hv => ih v y0 y1 y2 y3 hv) n7 u x2 x3 x4 x5 0 hv)
def V_X8_ask  (K : Int32 → MS → Prop)  (u : MS) (x1 : Int32) : Prop := (V_X8_isSoul (fun r8 => ((¬ r8 = 0 → (V_X8_whatBits (fun r9 => ∃ n10, V_X8_ask_28 K n10 u r9 (-1) 9 0) u x1)) ∧
 (r8 = 0 → (V_X8_bad (fun r11 u12 => K r11 u12) u )))) u x1)
set_option maxRecDepth 20000 in
set_option maxHeartbeats 4000000 in
theorem t_X8_ask_0 {a : Nat → Nat} {K : Int32 → MS → Prop} (C : bx_C p (rmD 2) S m args meth c cX8_ask 8 yX8_ask.cls (some .int) E A 0 0)   (u : MS) (x1 : Int32) (hv : V_X8_ask K u x1) : G_X8_ask p l e S m args below meth c E A a  K 0 [(0, .ref (a 0)), (1, .int x1)] [] (w_M E a u) := by
  unfold V_X8_ask at hv
  refine bx_aload_n C 1 dX8_ask_0 rfl rfl rfl ?_
  refine bx_iload_n C 2 dX8_ask_1 rfl rfl rfl ?_
  refine bx_pVi C 0 at_M_0 rfl 5 fc_X8_203 (k_X8_isSoul l E a _ _ _ hv) dX8_ask_2 ⟨rfl, rfl, Nat.le_of_ble_eq_true rfl, Nat.le_of_ble_eq_true rfl⟩ [0, 1, 2, 3, 4, 5, 6, 7, 8, 9] ps_M_M_0 (by decide) rfl rfl (Nat.le_of_ble_eq_true rfl) rfl (fun r8 hv => ?_)
  refine bx_if_ne C 13 8 dX8_ask_5 (by decide) rfl (fun h => ?_) (fun h => ?_)
  · replace hv := hv.1 h
    refine bx_aload_n C 14 dX8_ask_13 rfl rfl rfl ?_
    refine bx_iload_n C 15 dX8_ask_14 rfl rfl rfl ?_
    refine bx_pVi C 0 at_M_0 rfl 18 fc_X8_264 (k_X8_whatBits l E a _ _ _ hv) dX8_ask_15 ⟨rfl, rfl, Nat.le_of_ble_eq_true rfl, Nat.le_of_ble_eq_true rfl⟩ [0, 1, 2, 3, 4, 5, 6, 7, 8, 9] ps_M_M_0 (by decide) rfl rfl (Nat.le_of_ble_eq_true rfl) rfl (fun r9 hv => ?_)
    refine bx_istore_n C 19 dX8_ask_18 rfl (by decide) rfl ?_
    refine bx_iconst C (-1) 20 dX8_ask_19 ic_m1 rfl ?_
    refine bx_istore_n C 21 dX8_ask_20 rfl (by decide) rfl ?_
    refine bx_bipush C 9 23 dX8_ask_21 bp_9 rfl ?_
    refine bx_istore C 25 dX8_ask_23 (by decide) rfl ?_
    refine bx_iconst C 0 26 dX8_ask_25 ic_0 rfl ?_
    refine bx_istore C 28 dX8_ask_26 (by decide) rfl ?_
    obtain ⟨n10, hv⟩ := hv
    exact bx_cut [4, 3, 2, 1, 0] (w_M E a u) rfl rfl (t_X8_ask_28 C   n10 u r9 (-1) 9 0 hv)
  · replace hv := hv.2 h
    refine bx_aload_n C 9 dX8_ask_8 rfl rfl rfl ?_
    refine bx_qVi C 0 at_M_0 rfl 12 fc_X8_101 (k_X8_bad l E a _ _ hv) dX8_ask_9 ⟨rfl, rfl, Nat.le_of_ble_eq_true rfl, Nat.le_of_ble_eq_true rfl⟩ [0, 1, 2, 3, 4, 5, 6, 7, 8, 9] (fun u12 => w_M E a u12) ps_M_M_0 (by decide) ad_M pu_M_M_0 rfl rfl (Nat.le_of_ble_eq_true rfl) rfl (fun r11 u12 hv => ?_)
    exact bx_iret C u12 rfl dX8_ask_12 rfl hv
theorem k_X8_ask (l : Launch) (E : bx_E) (a : Nat → Nat)  (K : Int32 → MS → Prop) (u : MS) (x1 : Int32) (hv : V_X8_ask  K u x1) : bx_Mi l E yX8_ask cX8_ask 8 (some .int) (rmD 2) [.ref (a 0), .int x1] (fun (u : MS) => w_M E a u) u K :=
  bx_meti (by decide +kernel) (Nat.le_of_ble_eq_true rfl) (fun p e S m below meth c C => t_X8_ask_0 C u x1 hv)
abbrev G_X8_has0 (p : Program) (l : Launch) (e : Env) (S : State) (m : MethodId) (args : Array Value) (below : List Frame) (meth : Method) (c : Code) (E : bx_E) (A : Nat → Prop) (a : Nat → Nat)  (u : MS) (K : Int32 → Prop) (pc : Nat) (lv : List (Nat × Value)) (st : List Value) (ws : va_W) : Prop := bx_S p l e (rmD 4) S m args below meth c 6 E A (MQ below (va_Qi (fun r (_ : Unit) => K r) (fun (_ : Unit) t => bx_B E A (w_M E a u) t) A) args S 0 0 A) 0 0 pc lv st ws
def V_X8_has0  (K : Int32 → Prop)  (u : MS) (x1 : Int32) (x2 : Int32) (x3 : Int32) (x4 : Int32) : Prop := (V_X8_seesFrom (fun r1 => ((x3 = 0 → ((x4 = 0 → (V_X8_soulOf (fun r2 => (V_X8_passes (fun r3 => (V_X8_fussBy (fun r4 => K (-r4))  r2 r3 (u.1 6))) u x2)) u.1 x1 0)) ∧
 (¬ x4 = 0 → K r1))) ∧
 (¬ x3 = 0 → ((x4 = 0 → K 2) ∧
 (¬ x4 = 0 → K (r1 / 2)))))) u.1 x2)
set_option maxRecDepth 20000 in
set_option maxHeartbeats 4000000 in
theorem t_X8_has0_0 {a : Nat → Nat} {K : Int32 → Prop} (C : bx_C p (rmD 4) S m args meth c cX8_has0 6 yX8_has0.cls (some .int) E A 0 0) (u : MS)   (x1 : Int32) (x2 : Int32) (x3 : Int32) (x4 : Int32) (hv : V_X8_has0 K u x1 x2 x3 x4) : G_X8_has0 p l e S m args below meth c E A a  u K 0 [(0, .ref (a 0)), (1, .int x1), (2, .int x2), (3, .int x3), (4, .int x4)] [] (w_M E a u) := by
  unfold V_X8_has0 at hv
  refine bx_aload_n C 1 dX8_has0_0 rfl rfl rfl ?_
  refine bx_getf (v := .ref (a 1)) C 4 0 0 inX8 rfl (by decide) fl_X8_7 dX8_has0_1 at_M_0 rfl rfl ?_
  refine bx_iload_n C 5 dX8_has0_4 rfl rfl rfl ?_
  refine bx_pSi C 8 fc_X8_213 (k_X8_seesFrom l E (fun k => a (1 + k)) _ _ _ hv) dX8_has0_5 ⟨rfl, rfl, Nat.le_of_ble_eq_true rfl, Nat.le_of_ble_eq_true rfl⟩ [1] ps_M_A_1 (by decide) rfl rfl (Nat.le_of_ble_eq_true rfl) rfl (fun r1 hv => ?_)
  refine bx_istore C 10 dX8_has0_8 (by decide) rfl ?_
  refine bx_iload_n C 11 dX8_has0_10 rfl rfl rfl ?_
  refine bx_if_eq C 28 14 dX8_has0_11 (by decide) rfl (fun h => ?_) (fun h => ?_)
  · replace hv := hv.1 h
    refine bx_iload C 30 dX8_has0_28 rfl rfl ?_
    refine bx_if_eq C 38 33 dX8_has0_30 (by decide) rfl (fun h => ?_) (fun h => ?_)
    · replace hv := hv.1 h
      refine bx_aload_n C 39 dX8_has0_38 rfl rfl rfl ?_
      refine bx_getf (v := .ref (a 1)) C 42 0 0 inX8 rfl (by decide) fl_X8_7 dX8_has0_39 at_M_0 rfl rfl ?_
      refine bx_iload_n C 43 dX8_has0_42 rfl rfl rfl ?_
      refine bx_iconst C 0 44 dX8_has0_43 ic_0 rfl ?_
      refine bx_pSi C 47 fc_X8_55 (k_X8_soulOf l E (fun k => a (1 + k)) _ _ _ _ hv) dX8_has0_44 ⟨rfl, rfl, Nat.le_of_ble_eq_true rfl, Nat.le_of_ble_eq_true rfl⟩ [1] ps_M_A_1 (by decide) rfl rfl (Nat.le_of_ble_eq_true rfl) rfl (fun r2 hv => ?_)
      refine bx_aload_n C 48 dX8_has0_47 rfl rfl rfl ?_
      refine bx_iload_n C 49 dX8_has0_48 rfl rfl rfl ?_
      refine bx_pVi C 0 at_M_0 rfl 52 fc_X8_247 (k_X8_passes l E a _ _ _ hv) dX8_has0_49 ⟨rfl, rfl, Nat.le_of_ble_eq_true rfl, Nat.le_of_ble_eq_true rfl⟩ [0, 1, 2, 3, 4, 5, 6, 7, 8, 9] ps_M_M_0 (by decide) rfl rfl (Nat.le_of_ble_eq_true rfl) rfl (fun r3 hv => ?_)
      refine bx_aload_n C 53 dX8_has0_52 rfl rfl rfl ?_
      refine bx_getf (v := .ref (a 1)) C 56 0 0 inX8 rfl (by decide) fl_X8_7 dX8_has0_53 at_M_0 rfl rfl ?_
      refine bx_bipush C 6 58 dX8_has0_56 bp_6 rfl ?_
      refine bx_iald_k (f := u.1) C 59 1 6 dX8_has0_58 at_M_1 vin_6_171 cl_6 rfl ?_
      refine bx_pSi C 62 fc_X8_73 (k_X8_fussBy l E  _ _ _ _ hv) dX8_has0_59 ⟨rfl, rfl, Nat.le_of_ble_eq_true rfl, Nat.le_of_ble_eq_true rfl⟩ [] rfl (by decide) rfl rfl (Nat.le_of_ble_eq_true rfl) rfl (fun r4 hv => ?_)
      refine bx_ineg C 63 dX8_has0_62 rfl ?_
      exact bx_iret C () rfl dX8_has0_63 rfl hv
    · replace hv := hv.2 h
      refine bx_iload C 35 dX8_has0_33 rfl rfl ?_
      refine bx_goto C 63 dX8_has0_35 (by decide) ?_
      exact bx_iret C () rfl dX8_has0_63 rfl hv
  · replace hv := hv.2 h
    refine bx_iload C 16 dX8_has0_14 rfl rfl ?_
    refine bx_if_eq C 26 19 dX8_has0_16 (by decide) rfl (fun h => ?_) (fun h => ?_)
    · replace hv := hv.1 h
      refine bx_iconst C 2 27 dX8_has0_26 ic_2 rfl ?_
      exact bx_iret C () rfl dX8_has0_27 rfl hv
    · replace hv := hv.2 h
      refine bx_iload C 21 dX8_has0_19 rfl rfl ?_
      refine bx_iconst C 2 22 dX8_has0_21 ic_2 rfl ?_
      refine bx_idiv C 23 dX8_has0_22 nz32_2 rfl ?_
      refine bx_goto C 27 dX8_has0_23 (by decide) ?_
      exact bx_iret C () rfl dX8_has0_27 rfl hv
theorem k_X8_has0 (l : Launch) (E : bx_E) (a : Nat → Nat)  (K : Int32 → Prop) (u : MS) (x1 : Int32) (x2 : Int32) (x3 : Int32) (x4 : Int32) (hv : V_X8_has0  K u x1 x2 x3 x4) : bx_Mi l E yX8_has0 cX8_has0 6 (some .int) (rmD 4) [.ref (a 0), .int x1, .int x2, .int x3, .int x4] (fun (_ : Unit) => w_M E a u) () (fun r (_ : Unit) => K r) :=
  bx_meti (by decide +kernel) (Nat.le_of_ble_eq_true rfl) (fun p e S m below meth c C => t_X8_has0_0 C u x1 x2 x3 x4 hv)
abbrev G_X8_whispers (p : Program) (l : Launch) (e : Env) (S : State) (m : MethodId) (args : Array Value) (below : List Frame) (meth : Method) (c : Code) (E : bx_E) (A : Nat → Prop) (a : Nat → Nat)  (K : Int32 → MS → Prop) (pc : Nat) (lv : List (Nat × Value)) (st : List Value) (ws : va_W) : Prop := bx_S p l e (rmD 5) S m args below meth c 9 E A (MQ below (va_Qi K (fun (u : MS) t => bx_B E A (w_M E a u) t) A) args S 0 0 A) 0 0 pc lv st ws
def V_X8_whispers_28  (K : Int32 → MS → Prop)  (u : MS)  : Prop := (V_X8_bad (fun r1 u2 => K r1 u2) u )
set_option maxRecDepth 20000 in
set_option maxHeartbeats 4000000 in
theorem t_X8_whispers_28 {a : Nat → Nat} {K : Int32 → MS → Prop} (C : bx_C p (rmD 5) S m args meth c cX8_whispers 9 yX8_whispers.cls (some .int) E A 0 0)   (u : MS)  (hv : V_X8_whispers_28 K u ) : G_X8_whispers p l e S m args below meth c E A a  K 28 [(0, .ref (a 0))] [] (w_M E a u) := by
  unfold V_X8_whispers_28 at hv
  refine bx_aload_n C 29 dX8_whispers_28 rfl rfl rfl ?_
  refine bx_qVi C 0 at_M_0 rfl 32 fc_X8_101 (k_X8_bad l E a _ _ hv) dX8_whispers_29 ⟨rfl, rfl, Nat.le_of_ble_eq_true rfl, Nat.le_of_ble_eq_true rfl⟩ [0, 1, 2, 3, 4, 5, 6, 7, 8, 9] (fun u2 => w_M E a u2) ps_M_M_0 (by decide) ad_M pu_M_M_0 rfl rfl (Nat.le_of_ble_eq_true rfl) rfl (fun r1 u2 hv => ?_)
  exact bx_iret C u2 rfl dX8_whispers_32 rfl hv
def V_X8_whispers_140  (K : Int32 → MS → Prop) (B39 : MS → Int32 → Int32 → Int32 → Int32 → Int32 → Prop) (u : MS) (x1 : Int32) (x2 : Int32) (x3 : Int32) (x4 : Int32) (x5 : Int32) (z0 : Int32) : Prop := ((z0 = 0 → B39 u x1 x2 x3 (x4 ||| 0) (x5 + 1)) ∧
 (¬ z0 = 0 → B39 u x1 x2 x3 (x4 ||| (1 <<< (x5 &&& 31))) (x5 + 1)))
set_option maxRecDepth 20000 in
set_option maxHeartbeats 4000000 in
theorem t_X8_whispers_140 {a : Nat → Nat} {K : Int32 → MS → Prop} (C : bx_C p (rmD 5) S m args meth c cX8_whispers 9 yX8_whispers.cls (some .int) E A 0 0)  (B39 : MS → Int32 → Int32 → Int32 → Int32 → Int32 → Prop) (hB39 : ∀ (u : MS) (x1 : Int32) (x2 : Int32) (x3 : Int32) (x4 : Int32) (x5 : Int32), B39 u x1 x2 x3 x4 x5 → G_X8_whispers p l e S m args below meth c E A a  K 39 [(0, .ref (a 0)), (1, .int x1), (2, .int x2), (3, .int x3), (4, .int x4), (5, .int x5)] [] (w_M E a u)) (u : MS) (x1 : Int32) (x2 : Int32) (x3 : Int32) (x4 : Int32) (x5 : Int32) (z0 : Int32) (hv : V_X8_whispers_140 K B39 u x1 x2 x3 x4 x5 z0) : G_X8_whispers p l e S m args below meth c E A a  K 140 [(0, .ref (a 0)), (1, .int x1), (2, .int x2), (3, .int x3), (4, .int x4), (5, .int x5)] [.int z0] (w_M E a u) := by
  unfold V_X8_whispers_140 at hv
  refine bx_istore C 142 dX8_whispers_140 (by decide) rfl ?_
  refine bx_iload C 144 dX8_whispers_142 rfl rfl ?_
  refine bx_iload C 146 dX8_whispers_144 rfl rfl ?_
  refine bx_if_eq C 156 149 dX8_whispers_146 (by decide) rfl (fun h => ?_) (fun h => ?_)
  · replace hv := hv.1 h
    refine bx_iconst C 0 157 dX8_whispers_156 ic_0 rfl ?_
    refine bx_ior C 158 dX8_whispers_157 rfl ?_
    refine bx_istore C 160 dX8_whispers_158 (by decide) rfl ?_
    refine bx_iinc C 1 163 dX8_whispers_160 rfl (by decide) ic_1 rfl ?_
    refine bx_goto C 39 dX8_whispers_163 (by decide) ?_
    exact bx_cut [3, 4, 5, 6, 1, 0] (w_M E a u) rfl rfl (hB39 u x1 x2 x3 (x4 ||| 0) (x5 + 1) hv)
  · replace hv := hv.2 h
    refine bx_iconst C 1 150 dX8_whispers_149 ic_1 rfl ?_
    refine bx_iload C 152 dX8_whispers_150 rfl rfl ?_
    refine bx_ishl C 153 dX8_whispers_152 rfl ?_
    refine bx_goto C 157 dX8_whispers_153 (by decide) ?_
    refine bx_ior C 158 dX8_whispers_157 rfl ?_
    refine bx_istore C 160 dX8_whispers_158 (by decide) rfl ?_
    refine bx_iinc C 1 163 dX8_whispers_160 rfl (by decide) ic_1 rfl ?_
    refine bx_goto C 39 dX8_whispers_163 (by decide) ?_
    exact bx_cut [3, 4, 5, 6, 1, 0] (w_M E a u) rfl rfl (hB39 u x1 x2 x3 (x4 ||| (1 <<< (x5 &&& 31))) (x5 + 1) hv)
def V_X8_whispers_139  (K : Int32 → MS → Prop) (B39 : MS → Int32 → Int32 → Int32 → Int32 → Int32 → Prop) (u : MS) (x1 : Int32) (x2 : Int32) (x3 : Int32) (x4 : Int32) (x5 : Int32) : Prop := V_X8_whispers_140 K B39 u x1 x2 x3 x4 x5 0
set_option maxRecDepth 20000 in
set_option maxHeartbeats 4000000 in
theorem t_X8_whispers_139 {a : Nat → Nat} {K : Int32 → MS → Prop} (C : bx_C p (rmD 5) S m args meth c cX8_whispers 9 yX8_whispers.cls (some .int) E A 0 0)  (B39 : MS → Int32 → Int32 → Int32 → Int32 → Int32 → Prop) (hB39 : ∀ (u : MS) (x1 : Int32) (x2 : Int32) (x3 : Int32) (x4 : Int32) (x5 : Int32), B39 u x1 x2 x3 x4 x5 → G_X8_whispers p l e S m args below meth c E A a  K 39 [(0, .ref (a 0)), (1, .int x1), (2, .int x2), (3, .int x3), (4, .int x4), (5, .int x5)] [] (w_M E a u)) (u : MS) (x1 : Int32) (x2 : Int32) (x3 : Int32) (x4 : Int32) (x5 : Int32) (hv : V_X8_whispers_139 K B39 u x1 x2 x3 x4 x5) : G_X8_whispers p l e S m args below meth c E A a  K 139 [(0, .ref (a 0)), (1, .int x1), (2, .int x2), (3, .int x3), (4, .int x4), (5, .int x5)] [] (w_M E a u) := by
  unfold V_X8_whispers_139 at hv
  refine bx_iconst C 0 140 dX8_whispers_139 ic_0 rfl ?_
  exact bx_cut [0, 1, 2, 3, 4, 5] (w_M E a u) rfl rfl (t_X8_whispers_140 C  _ hB39 u x1 x2 x3 x4 x5 0 hv)
def V_X8_whispers_127  (K : Int32 → MS → Prop) (B39 : MS → Int32 → Int32 → Int32 → Int32 → Int32 → Prop) (u : MS) (x1 : Int32) (x2 : Int32) (x3 : Int32) (x4 : Int32) (x5 : Int32) (x6 : Int32) (z0 : Int32) (z2 : Int32) (z3 : Int32) (z4 : Int32) : Prop := (V_X8_has0 (fun r3 => ((z0 < r3 → V_X8_whispers_139 K B39 u x1 x2 x3 x4 x5) ∧
 (¬ z0 < r3 → V_X8_whispers_140 K B39 u x1 x2 x3 x4 x5 1))) u z2 z3 z4 x6)
set_option maxRecDepth 20000 in
set_option maxHeartbeats 4000000 in
theorem t_X8_whispers_127 {a : Nat → Nat} {K : Int32 → MS → Prop} (C : bx_C p (rmD 5) S m args meth c cX8_whispers 9 yX8_whispers.cls (some .int) E A 0 0)  (B39 : MS → Int32 → Int32 → Int32 → Int32 → Int32 → Prop) (hB39 : ∀ (u : MS) (x1 : Int32) (x2 : Int32) (x3 : Int32) (x4 : Int32) (x5 : Int32), B39 u x1 x2 x3 x4 x5 → G_X8_whispers p l e S m args below meth c E A a  K 39 [(0, .ref (a 0)), (1, .int x1), (2, .int x2), (3, .int x3), (4, .int x4), (5, .int x5)] [] (w_M E a u)) (u : MS) (x1 : Int32) (x2 : Int32) (x3 : Int32) (x4 : Int32) (x5 : Int32) (x6 : Int32) (z0 : Int32) (z2 : Int32) (z3 : Int32) (z4 : Int32) (hv : V_X8_whispers_127 K B39 u x1 x2 x3 x4 x5 x6 z0 z2 z3 z4) : G_X8_whispers p l e S m args below meth c E A a  K 127 [(0, .ref (a 0)), (1, .int x1), (2, .int x2), (3, .int x3), (4, .int x4), (5, .int x5), (6, .int x6)] [.int z4, .int z3, .int z2, .ref (a 0), .int z0] (w_M E a u) := by
  unfold V_X8_whispers_127 at hv
  refine bx_iload C 129 dX8_whispers_127 rfl rfl ?_
  refine bx_pVi C 0 at_M_0 rfl 132 fc_X8_267 (k_X8_has0 l E a _ _ _ _ _ _ hv) dX8_whispers_129 ⟨rfl, rfl, Nat.le_of_ble_eq_true rfl, Nat.le_of_ble_eq_true rfl⟩ [0, 1, 2, 3, 4, 5, 6, 7, 8, 9] ps_M_M_0 (by decide) rfl rfl (Nat.le_of_ble_eq_true rfl) rfl (fun r3 hv => ?_)
  refine bx_icmp_lt C 139 135 dX8_whispers_132 (by decide) rfl (fun h => ?_) (fun h => ?_)
  · replace hv := hv.1 h
    exact bx_cut [0, 1, 2, 3, 4, 5] (w_M E a u) rfl rfl (t_X8_whispers_139 C  _ hB39 u x1 x2 x3 x4 x5 hv)
  · replace hv := hv.2 h
    refine bx_iconst C 1 136 dX8_whispers_135 ic_1 rfl ?_
    refine bx_goto C 140 dX8_whispers_136 (by decide) ?_
    exact bx_cut [0, 1, 2, 3, 4, 5] (w_M E a u) rfl rfl (t_X8_whispers_140 C  _ hB39 u x1 x2 x3 x4 x5 1 hv)
def V_X8_whispers_96  (K : Int32 → MS → Prop) (B39 : MS → Int32 → Int32 → Int32 → Int32 → Int32 → Prop) (u : MS) (x1 : Int32) (x2 : Int32) (x3 : Int32) (x4 : Int32) (x5 : Int32) (x6 : Int32) (x7 : Int32) (z0 : Int32) (z2 : Int32) (z3 : Int32) (z4 : Int32) : Prop := (V_X8_has0 (fun r4 => ((z0 < r4 → V_X8_whispers_139 K B39 u x1 x2 x3 x4 x5) ∧
 (¬ z0 < r4 → (V_X8_has0 (fun r5 => ((¬ x7 = 0 → V_X8_whispers_127 K B39 u x1 x2 x3 x4 x5 x6 r5 x2 x3 0) ∧
 (x7 = 0 → V_X8_whispers_127 K B39 u x1 x2 x3 x4 x5 x6 r5 x2 x3 1))) u x2 x3 x7 x6)))) u z2 z3 z4 x7)
set_option maxRecDepth 20000 in
set_option maxHeartbeats 4000000 in
theorem t_X8_whispers_96 {a : Nat → Nat} {K : Int32 → MS → Prop} (C : bx_C p (rmD 5) S m args meth c cX8_whispers 9 yX8_whispers.cls (some .int) E A 0 0)  (B39 : MS → Int32 → Int32 → Int32 → Int32 → Int32 → Prop) (hB39 : ∀ (u : MS) (x1 : Int32) (x2 : Int32) (x3 : Int32) (x4 : Int32) (x5 : Int32), B39 u x1 x2 x3 x4 x5 → G_X8_whispers p l e S m args below meth c E A a  K 39 [(0, .ref (a 0)), (1, .int x1), (2, .int x2), (3, .int x3), (4, .int x4), (5, .int x5)] [] (w_M E a u)) (u : MS) (x1 : Int32) (x2 : Int32) (x3 : Int32) (x4 : Int32) (x5 : Int32) (x6 : Int32) (x7 : Int32) (z0 : Int32) (z2 : Int32) (z3 : Int32) (z4 : Int32) (hv : V_X8_whispers_96 K B39 u x1 x2 x3 x4 x5 x6 x7 z0 z2 z3 z4) : G_X8_whispers p l e S m args below meth c E A a  K 96 [(0, .ref (a 0)), (1, .int x1), (2, .int x2), (3, .int x3), (4, .int x4), (5, .int x5), (6, .int x6), (7, .int x7)] [.int z4, .int z3, .int z2, .ref (a 0), .int z0] (w_M E a u) := by
  unfold V_X8_whispers_96 at hv
  refine bx_iload C 98 dX8_whispers_96 rfl rfl ?_
  refine bx_pVi C 0 at_M_0 rfl 101 fc_X8_267 (k_X8_has0 l E a _ _ _ _ _ _ hv) dX8_whispers_98 ⟨rfl, rfl, Nat.le_of_ble_eq_true rfl, Nat.le_of_ble_eq_true rfl⟩ [0, 1, 2, 3, 4, 5, 6, 7, 8, 9] ps_M_M_0 (by decide) rfl rfl (Nat.le_of_ble_eq_true rfl) rfl (fun r4 hv => ?_)
  refine bx_icmp_lt C 139 104 dX8_whispers_101 (by decide) rfl (fun h => ?_) (fun h => ?_)
  · replace hv := hv.1 h
    exact bx_cut [0, 1, 2, 3, 4, 5] (w_M E a u) rfl rfl (t_X8_whispers_139 C  _ hB39 u x1 x2 x3 x4 x5 hv)
  · replace hv := hv.2 h
    refine bx_aload_n C 105 dX8_whispers_104 rfl rfl rfl ?_
    refine bx_iload_n C 106 dX8_whispers_105 rfl rfl rfl ?_
    refine bx_iload_n C 107 dX8_whispers_106 rfl rfl rfl ?_
    refine bx_iload C 109 dX8_whispers_107 rfl rfl ?_
    refine bx_iload C 111 dX8_whispers_109 rfl rfl ?_
    refine bx_pVi C 0 at_M_0 rfl 114 fc_X8_267 (k_X8_has0 l E a _ _ _ _ _ _ hv) dX8_whispers_111 ⟨rfl, rfl, Nat.le_of_ble_eq_true rfl, Nat.le_of_ble_eq_true rfl⟩ [0, 1, 2, 3, 4, 5, 6, 7, 8, 9] ps_M_M_0 (by decide) rfl rfl (Nat.le_of_ble_eq_true rfl) rfl (fun r5 hv => ?_)
    refine bx_aload_n C 115 dX8_whispers_114 rfl rfl rfl ?_
    refine bx_iload_n C 116 dX8_whispers_115 rfl rfl rfl ?_
    refine bx_iload_n C 117 dX8_whispers_116 rfl rfl rfl ?_
    refine bx_iload C 119 dX8_whispers_117 rfl rfl ?_
    refine bx_if_ne C 126 122 dX8_whispers_119 (by decide) rfl (fun h => ?_) (fun h => ?_)
    · replace hv := hv.1 h
      refine bx_iconst C 0 127 dX8_whispers_126 ic_0 rfl ?_
      exact bx_cut [0, 1, 2, 3, 4, 5, 6] (w_M E a u) rfl rfl (t_X8_whispers_127 C  _ hB39 u x1 x2 x3 x4 x5 x6 r5 x2 x3 0 hv)
    · replace hv := hv.2 h
      refine bx_iconst C 1 123 dX8_whispers_122 ic_1 rfl ?_
      refine bx_goto C 127 dX8_whispers_123 (by decide) ?_
      exact bx_cut [0, 1, 2, 3, 4, 5, 6] (w_M E a u) rfl rfl (t_X8_whispers_127 C  _ hB39 u x1 x2 x3 x4 x5 x6 r5 x2 x3 1 hv)
def V_X8_whispers_71  (K : Int32 → MS → Prop) (B39 : MS → Int32 → Int32 → Int32 → Int32 → Int32 → Prop) (u : MS) (x1 : Int32) (x2 : Int32) (x3 : Int32) (x4 : Int32) (x5 : Int32) (x6 : Int32) (z0 : Int32) : Prop := (V_X8_has0 (fun r6 => ((¬ x6 = 0 → V_X8_whispers_96 K B39 u x1 x2 x3 x4 x5 x6 z0 r6 x1 x3 0) ∧
 (x6 = 0 → V_X8_whispers_96 K B39 u x1 x2 x3 x4 x5 x6 z0 r6 x1 x3 1))) u x1 x3 x6 z0)
set_option maxRecDepth 20000 in
set_option maxHeartbeats 4000000 in
theorem t_X8_whispers_71 {a : Nat → Nat} {K : Int32 → MS → Prop} (C : bx_C p (rmD 5) S m args meth c cX8_whispers 9 yX8_whispers.cls (some .int) E A 0 0)  (B39 : MS → Int32 → Int32 → Int32 → Int32 → Int32 → Prop) (hB39 : ∀ (u : MS) (x1 : Int32) (x2 : Int32) (x3 : Int32) (x4 : Int32) (x5 : Int32), B39 u x1 x2 x3 x4 x5 → G_X8_whispers p l e S m args below meth c E A a  K 39 [(0, .ref (a 0)), (1, .int x1), (2, .int x2), (3, .int x3), (4, .int x4), (5, .int x5)] [] (w_M E a u)) (u : MS) (x1 : Int32) (x2 : Int32) (x3 : Int32) (x4 : Int32) (x5 : Int32) (x6 : Int32) (z0 : Int32) (hv : V_X8_whispers_71 K B39 u x1 x2 x3 x4 x5 x6 z0) : G_X8_whispers p l e S m args below meth c E A a  K 71 [(0, .ref (a 0)), (1, .int x1), (2, .int x2), (3, .int x3), (4, .int x4), (5, .int x5), (6, .int x6)] [.int z0] (w_M E a u) := by
  unfold V_X8_whispers_71 at hv
  refine bx_istore C 73 dX8_whispers_71 (by decide) rfl ?_
  refine bx_aload_n C 74 dX8_whispers_73 rfl rfl rfl ?_
  refine bx_iload_n C 75 dX8_whispers_74 rfl rfl rfl ?_
  refine bx_iload_n C 76 dX8_whispers_75 rfl rfl rfl ?_
  refine bx_iload C 78 dX8_whispers_76 rfl rfl ?_
  refine bx_iload C 80 dX8_whispers_78 rfl rfl ?_
  refine bx_pVi C 0 at_M_0 rfl 83 fc_X8_267 (k_X8_has0 l E a _ _ _ _ _ _ hv) dX8_whispers_80 ⟨rfl, rfl, Nat.le_of_ble_eq_true rfl, Nat.le_of_ble_eq_true rfl⟩ [0, 1, 2, 3, 4, 5, 6, 7, 8, 9] ps_M_M_0 (by decide) rfl rfl (Nat.le_of_ble_eq_true rfl) rfl (fun r6 hv => ?_)
  refine bx_aload_n C 84 dX8_whispers_83 rfl rfl rfl ?_
  refine bx_iload_n C 85 dX8_whispers_84 rfl rfl rfl ?_
  refine bx_iload_n C 86 dX8_whispers_85 rfl rfl rfl ?_
  refine bx_iload C 88 dX8_whispers_86 rfl rfl ?_
  refine bx_if_ne C 95 91 dX8_whispers_88 (by decide) rfl (fun h => ?_) (fun h => ?_)
  · replace hv := hv.1 h
    refine bx_iconst C 0 96 dX8_whispers_95 ic_0 rfl ?_
    exact bx_cut [1, 2, 3, 4, 5, 6, 7, 0] (w_M E a u) rfl rfl (t_X8_whispers_96 C  _ hB39 u x1 x2 x3 x4 x5 x6 z0 r6 x1 x3 0 hv)
  · replace hv := hv.2 h
    refine bx_iconst C 1 92 dX8_whispers_91 ic_1 rfl ?_
    refine bx_goto C 96 dX8_whispers_92 (by decide) ?_
    exact bx_cut [1, 2, 3, 4, 5, 6, 7, 0] (w_M E a u) rfl rfl (t_X8_whispers_96 C  _ hB39 u x1 x2 x3 x4 x5 x6 z0 r6 x1 x3 1 hv)
def V_X8_whispers_57  (K : Int32 → MS → Prop) (B39 : MS → Int32 → Int32 → Int32 → Int32 → Int32 → Prop) (u : MS) (x1 : Int32) (x2 : Int32) (x3 : Int32) (x4 : Int32) (x5 : Int32) (z0 : Int32) : Prop := ((¬ (x5 &&& 2) = 0 → V_X8_whispers_71 K B39 u x1 x2 x3 x4 x5 z0 0) ∧
 ((x5 &&& 2) = 0 → V_X8_whispers_71 K B39 u x1 x2 x3 x4 x5 z0 1))
set_option maxRecDepth 20000 in
set_option maxHeartbeats 4000000 in
theorem t_X8_whispers_57 {a : Nat → Nat} {K : Int32 → MS → Prop} (C : bx_C p (rmD 5) S m args meth c cX8_whispers 9 yX8_whispers.cls (some .int) E A 0 0)  (B39 : MS → Int32 → Int32 → Int32 → Int32 → Int32 → Prop) (hB39 : ∀ (u : MS) (x1 : Int32) (x2 : Int32) (x3 : Int32) (x4 : Int32) (x5 : Int32), B39 u x1 x2 x3 x4 x5 → G_X8_whispers p l e S m args below meth c E A a  K 39 [(0, .ref (a 0)), (1, .int x1), (2, .int x2), (3, .int x3), (4, .int x4), (5, .int x5)] [] (w_M E a u)) (u : MS) (x1 : Int32) (x2 : Int32) (x3 : Int32) (x4 : Int32) (x5 : Int32) (z0 : Int32) (hv : V_X8_whispers_57 K B39 u x1 x2 x3 x4 x5 z0) : G_X8_whispers p l e S m args below meth c E A a  K 57 [(0, .ref (a 0)), (1, .int x1), (2, .int x2), (3, .int x3), (4, .int x4), (5, .int x5)] [.int z0] (w_M E a u) := by
  unfold V_X8_whispers_57 at hv
  refine bx_istore C 59 dX8_whispers_57 (by decide) rfl ?_
  refine bx_iload C 61 dX8_whispers_59 rfl rfl ?_
  refine bx_iconst C 2 62 dX8_whispers_61 ic_2 rfl ?_
  refine bx_iand C 63 dX8_whispers_62 rfl ?_
  refine bx_if_ne C 70 66 dX8_whispers_63 (by decide) rfl (fun h => ?_) (fun h => ?_)
  · replace hv := hv.1 h
    refine bx_iconst C 0 71 dX8_whispers_70 ic_0 rfl ?_
    exact bx_cut [1, 2, 3, 4, 5, 6, 0] (w_M E a u) rfl rfl (t_X8_whispers_71 C  _ hB39 u x1 x2 x3 x4 x5 z0 0 hv)
  · replace hv := hv.2 h
    refine bx_iconst C 1 67 dX8_whispers_66 ic_1 rfl ?_
    refine bx_goto C 71 dX8_whispers_67 (by decide) ?_
    exact bx_cut [1, 2, 3, 4, 5, 6, 0] (w_M E a u) rfl rfl (t_X8_whispers_71 C  _ hB39 u x1 x2 x3 x4 x5 z0 1 hv)
def V_X8_whispers_39  (K : Int32 → MS → Prop)  : Nat → MS → Int32 → Int32 → Int32 → Int32 → Int32 → Prop
  | 0, _, _, _, _, _, _ => False
  | n + 1, u, x1, x2, x3, x4, x5 => ((4 ≤ x5 → K x4 u) ∧
 (¬ 4 ≤ x5 → ((¬ (x5 &&& 1) = 0 → V_X8_whispers_57 K (fun v y0 y1 y2 y3 y4 => V_X8_whispers_39 K n v y0 y1 y2 y3 y4) u x1 x2 x3 x4 x5 0) ∧
 ((x5 &&& 1) = 0 → V_X8_whispers_57 K (fun v y0 y1 y2 y3 y4 => V_X8_whispers_39 K n v y0 y1 y2 y3 y4) u x1 x2 x3 x4 x5 1))))
set_option maxRecDepth 20000 in
set_option maxHeartbeats 4000000 in
theorem t_X8_whispers_39 {a : Nat → Nat} {K : Int32 → MS → Prop} (C : bx_C p (rmD 5) S m args meth c cX8_whispers 9 yX8_whispers.cls (some .int) E A 0 0)   : ∀ (n : Nat) (u : MS) (x1 : Int32) (x2 : Int32) (x3 : Int32) (x4 : Int32) (x5 : Int32), V_X8_whispers_39 K n u x1 x2 x3 x4 x5 → G_X8_whispers p l e S m args below meth c E A a  K 39 [(0, .ref (a 0)), (1, .int x1), (2, .int x2), (3, .int x3), (4, .int x4), (5, .int x5)] [] (w_M E a u) := by
  intro n
  induction n with
  | zero =>
    intro u x1 x2 x3 x4 x5 hv
    exact False.elim hv
  | succ n ih =>
    intro u x1 x2 x3 x4 x5 hv
    unfold V_X8_whispers_39 at hv
    refine bx_iload C 41 dX8_whispers_39 rfl rfl ?_
    refine bx_iconst C 4 42 dX8_whispers_41 ic_4 rfl ?_
    refine bx_icmp_ge C 166 45 dX8_whispers_42 (by decide) rfl (fun h => ?_) (fun h => ?_)
    · replace hv := hv.1 h
      refine bx_iload C 168 dX8_whispers_166 rfl rfl ?_
      exact bx_iret C u rfl dX8_whispers_168 rfl hv
    · replace hv := hv.2 h
      refine bx_iload C 47 dX8_whispers_45 rfl rfl ?_
      refine bx_iconst C 1 48 dX8_whispers_47 ic_1 rfl ?_
      refine bx_iand C 49 dX8_whispers_48 rfl ?_
      refine bx_if_ne C 56 52 dX8_whispers_49 (by decide) rfl (fun h => ?_) (fun h => ?_)
      · replace hv := hv.1 h
        refine bx_iconst C 0 57 dX8_whispers_56 ic_0 rfl ?_
        exact bx_cut [0, 1, 2, 3, 4, 5] (w_M E a u) rfl rfl (t_X8_whispers_57 C  _ (fun v y0 y1 y2 y3 y4 hv => ih v y0 y1 y2 y3 y4 hv) u x1 x2 x3 x4 x5 0 hv)
      · replace hv := hv.2 h
        refine bx_iconst C 1 53 dX8_whispers_52 ic_1 rfl ?_
        refine bx_goto C 57 dX8_whispers_53 (by decide) ?_
        exact bx_cut [0, 1, 2, 3, 4, 5] (w_M E a u) rfl rfl (t_X8_whispers_57 C  _ (fun v y0 y1 y2 y3 y4 hv => ih v y0 y1 y2 y3 y4 hv) u x1 x2 x3 x4 x5 1 hv)
def V_X8_whispers  (K : Int32 → MS → Prop)  (u : MS) (x1 : Int32) (x2 : Int32) (x3 : Int32) : Prop := (V_X8_isSoul (fun r7 => ((r7 = 0 → V_X8_whispers_28 K u ) ∧
 (¬ r7 = 0 → (V_X8_isSoul (fun r8 => ((r8 = 0 → V_X8_whispers_28 K u ) ∧
 (¬ r8 = 0 → ((x1 = x2 → V_X8_whispers_28 K u ) ∧
 (¬ x1 = x2 → (V_X8_isCell (fun r9 => ((¬ r9 = 0 → ∃ n10, V_X8_whispers_39 K n10 u x1 x2 x3 0 0) ∧
 (r9 = 0 → V_X8_whispers_28 K u )))  x3)))))) u x2)))) u x1)
set_option maxRecDepth 20000 in
set_option maxHeartbeats 4000000 in
theorem t_X8_whispers_0 {a : Nat → Nat} {K : Int32 → MS → Prop} (C : bx_C p (rmD 5) S m args meth c cX8_whispers 9 yX8_whispers.cls (some .int) E A 0 0)   (u : MS) (x1 : Int32) (x2 : Int32) (x3 : Int32) (hv : V_X8_whispers K u x1 x2 x3) : G_X8_whispers p l e S m args below meth c E A a  K 0 [(0, .ref (a 0)), (1, .int x1), (2, .int x2), (3, .int x3)] [] (w_M E a u) := by
  unfold V_X8_whispers at hv
  refine bx_aload_n C 1 dX8_whispers_0 rfl rfl rfl ?_
  refine bx_iload_n C 2 dX8_whispers_1 rfl rfl rfl ?_
  refine bx_pVi C 0 at_M_0 rfl 5 fc_X8_203 (k_X8_isSoul l E a _ _ _ hv) dX8_whispers_2 ⟨rfl, rfl, Nat.le_of_ble_eq_true rfl, Nat.le_of_ble_eq_true rfl⟩ [0, 1, 2, 3, 4, 5, 6, 7, 8, 9] ps_M_M_0 (by decide) rfl rfl (Nat.le_of_ble_eq_true rfl) rfl (fun r7 hv => ?_)
  refine bx_if_eq C 28 8 dX8_whispers_5 (by decide) rfl (fun h => ?_) (fun h => ?_)
  · replace hv := hv.1 h
    exact bx_cut [0] (w_M E a u) rfl rfl (t_X8_whispers_28 C   u  hv)
  · replace hv := hv.2 h
    refine bx_aload_n C 9 dX8_whispers_8 rfl rfl rfl ?_
    refine bx_iload_n C 10 dX8_whispers_9 rfl rfl rfl ?_
    refine bx_pVi C 0 at_M_0 rfl 13 fc_X8_203 (k_X8_isSoul l E a _ _ _ hv) dX8_whispers_10 ⟨rfl, rfl, Nat.le_of_ble_eq_true rfl, Nat.le_of_ble_eq_true rfl⟩ [0, 1, 2, 3, 4, 5, 6, 7, 8, 9] ps_M_M_0 (by decide) rfl rfl (Nat.le_of_ble_eq_true rfl) rfl (fun r8 hv => ?_)
    refine bx_if_eq C 28 16 dX8_whispers_13 (by decide) rfl (fun h => ?_) (fun h => ?_)
    · replace hv := hv.1 h
      exact bx_cut [0] (w_M E a u) rfl rfl (t_X8_whispers_28 C   u  hv)
    · replace hv := hv.2 h
      refine bx_iload_n C 17 dX8_whispers_16 rfl rfl rfl ?_
      refine bx_iload_n C 18 dX8_whispers_17 rfl rfl rfl ?_
      refine bx_icmp_eq C 28 21 dX8_whispers_18 (by decide) rfl (fun h => ?_) (fun h => ?_)
      · replace hv := hv.1 h
        exact bx_cut [0] (w_M E a u) rfl rfl (t_X8_whispers_28 C   u  hv)
      · replace hv := hv.2 h
        refine bx_iload_n C 22 dX8_whispers_21 rfl rfl rfl ?_
        refine bx_pSi C 25 fc_X8_105 (k_X8_isCell l E  _ _ hv) dX8_whispers_22 ⟨rfl, rfl, Nat.le_of_ble_eq_true rfl, Nat.le_of_ble_eq_true rfl⟩ [] rfl (by decide) rfl rfl (Nat.le_of_ble_eq_true rfl) rfl (fun r9 hv => ?_)
        refine bx_if_ne C 33 28 dX8_whispers_25 (by decide) rfl (fun h => ?_) (fun h => ?_)
        · replace hv := hv.1 h
          refine bx_iconst C 0 34 dX8_whispers_33 ic_0 rfl ?_
          refine bx_istore C 36 dX8_whispers_34 (by decide) rfl ?_
          refine bx_iconst C 0 37 dX8_whispers_36 ic_0 rfl ?_
          refine bx_istore C 39 dX8_whispers_37 (by decide) rfl ?_
          obtain ⟨n10, hv⟩ := hv
          exact bx_cut [2, 3, 4, 5, 1, 0] (w_M E a u) rfl rfl (t_X8_whispers_39 C   n10 u x1 x2 x3 0 0 hv)
        · replace hv := hv.2 h
          exact bx_cut [0] (w_M E a u) rfl rfl (t_X8_whispers_28 C   u  hv)
theorem k_X8_whispers (l : Launch) (E : bx_E) (a : Nat → Nat)  (K : Int32 → MS → Prop) (u : MS) (x1 : Int32) (x2 : Int32) (x3 : Int32) (hv : V_X8_whispers  K u x1 x2 x3) : bx_Mi l E yX8_whispers cX8_whispers 9 (some .int) (rmD 5) [.ref (a 0), .int x1, .int x2, .int x3] (fun (u : MS) => w_M E a u) u K :=
  bx_meti (by decide +kernel) (Nat.le_of_ble_eq_true rfl) (fun p e S m below meth c C => t_X8_whispers_0 C u x1 x2 x3 hv)
abbrev G_X8_wet (p : Program) (l : Launch) (e : Env) (S : State) (m : MethodId) (args : Array Value) (below : List Frame) (meth : Method) (c : Code) (E : bx_E) (A : Nat → Prop) (a : Nat → Nat)  (K : Int32 → MS → Prop) (pc : Nat) (lv : List (Nat × Value)) (st : List Value) (ws : va_W) : Prop := bx_S p l e (rmD 4) S m args below meth c 6 E A (MQ below (va_Qi K (fun (u : MS) t => bx_B E A (w_M E a u) t) A) args S 0 0 A) 0 0 pc lv st ws
def V_X8_wet_20  (K : Int32 → MS → Prop)  (u : MS)  : Prop := (V_X8_bad (fun r1 u2 => K r1 u2) u )
set_option maxRecDepth 20000 in
set_option maxHeartbeats 4000000 in
theorem t_X8_wet_20 {a : Nat → Nat} {K : Int32 → MS → Prop} (C : bx_C p (rmD 4) S m args meth c cX8_wet 6 yX8_wet.cls (some .int) E A 0 0)   (u : MS)  (hv : V_X8_wet_20 K u ) : G_X8_wet p l e S m args below meth c E A a  K 20 [(0, .ref (a 0))] [] (w_M E a u) := by
  unfold V_X8_wet_20 at hv
  refine bx_aload_n C 21 dX8_wet_20 rfl rfl rfl ?_
  refine bx_qVi C 0 at_M_0 rfl 24 fc_X8_101 (k_X8_bad l E a _ _ hv) dX8_wet_21 ⟨rfl, rfl, Nat.le_of_ble_eq_true rfl, Nat.le_of_ble_eq_true rfl⟩ [0, 1, 2, 3, 4, 5, 6, 7, 8, 9] (fun u2 => w_M E a u2) ps_M_M_0 (by decide) ad_M pu_M_M_0 rfl rfl (Nat.le_of_ble_eq_true rfl) rfl (fun r1 u2 hv => ?_)
  exact bx_iret C u2 rfl dX8_wet_24 rfl hv
def V_X8_wet_86  (K : Int32 → MS → Prop)  (u : MS) (z0 : Int64) (z1 : Int64) (z3 : Int32) (z4 : Int32) : Prop := (V_X8_makesBy (fun r3 => (V_X8_fraction (fun r4 u5 => K r4 u5) u (z0 + (z1 * (r3 : Int32).toInt64)) 10)) u.1 z3 z4)
set_option maxRecDepth 20000 in
set_option maxHeartbeats 4000000 in
theorem t_X8_wet_86 {a : Nat → Nat} {K : Int32 → MS → Prop} (C : bx_C p (rmD 4) S m args meth c cX8_wet 6 yX8_wet.cls (some .int) E A 0 0)   (u : MS) (z0 : Int64) (z1 : Int64) (z3 : Int32) (z4 : Int32) (hv : V_X8_wet_86 K u z0 z1 z3 z4) : G_X8_wet p l e S m args below meth c E A a  K 86 [(0, .ref (a 0))] [.int z4, .int z3, .ref (a 1), .long z1, .long z0] (w_M E a u) := by
  unfold V_X8_wet_86 at hv
  refine bx_pSi C 89 fc_X8_82 (k_X8_makesBy l E (fun k => a (1 + k)) _ _ _ _ hv) dX8_wet_86 ⟨rfl, rfl, Nat.le_of_ble_eq_true rfl, Nat.le_of_ble_eq_true rfl⟩ [1] ps_M_A_1 (by decide) rfl rfl (Nat.le_of_ble_eq_true rfl) rfl (fun r3 hv => ?_)
  refine bx_i2l C 90 dX8_wet_89 rfl ?_
  refine bx_lmul C 91 dX8_wet_90 rfl ?_
  refine bx_ladd C 92 dX8_wet_91 rfl ?_
  refine bx_lstore C 94 dX8_wet_92 (by decide) rfl ?_
  refine bx_aload_n C 95 dX8_wet_94 rfl rfl rfl ?_
  refine bx_lload C 97 dX8_wet_95 rfl rfl ?_
  refine bx_ldc2 C 100 cs_X8_271 dX8_wet_97 rfl ?_
  refine bx_qVi C 0 at_M_0 rfl 103 fc_X8_273 (k_X8_fraction l E a _ _ _ _ hv) dX8_wet_100 ⟨rfl, rfl, Nat.le_of_ble_eq_true rfl, Nat.le_of_ble_eq_true rfl⟩ [0, 1, 2, 3, 4, 5, 6, 7, 8, 9] (fun u5 => w_M E a u5) ps_M_M_0 (by decide) ad_M pu_M_M_0 rfl rfl (Nat.le_of_ble_eq_true rfl) rfl (fun r4 u5 hv => ?_)
  exact bx_iret C u5 rfl dX8_wet_103 rfl hv
def V_X8_wet  (K : Int32 → MS → Prop)  (u : MS) (x1 : Int32) (x2 : Int32) : Prop := (V_X8_isSoul (fun r6 => ((r6 = 0 → V_X8_wet_20 K u ) ∧
 (¬ r6 = 0 → (V_X8_in (fun r7 => ((¬ r7 = 0 → (V_X8_isOut (fun r8 => ((¬ r8 = 0 → (V_X8_soulOf (fun r9 => (V_X8_makesBy (fun r10 => ((24 ≤ r9 → V_X8_wet_86 K u ((10 - (x2 : Int32).toInt64) * (r10 : Int32).toInt64) ((x2 : Int32).toInt64) x1 r9) ∧
 (¬ 24 ≤ r9 → V_X8_wet_86 K u ((10 - (x2 : Int32).toInt64) * (r10 : Int32).toInt64) ((x2 : Int32).toInt64) x1 (r9 + 6)))) u.1 x1 r9)) u.1 x1 1)) ∧
 (r8 = 0 → (V_X8_no (fun r11 u12 => K r11 u12) u )))) u x1)) ∧
 (r7 = 0 → V_X8_wet_20 K u )))  ((x2 : Int32).toInt64) 0 10)))) u x1)
set_option maxRecDepth 20000 in
set_option maxHeartbeats 4000000 in
theorem t_X8_wet_0 {a : Nat → Nat} {K : Int32 → MS → Prop} (C : bx_C p (rmD 4) S m args meth c cX8_wet 6 yX8_wet.cls (some .int) E A 0 0)   (u : MS) (x1 : Int32) (x2 : Int32) (hv : V_X8_wet K u x1 x2) : G_X8_wet p l e S m args below meth c E A a  K 0 [(0, .ref (a 0)), (1, .int x1), (2, .int x2)] [] (w_M E a u) := by
  unfold V_X8_wet at hv
  refine bx_aload_n C 1 dX8_wet_0 rfl rfl rfl ?_
  refine bx_iload_n C 2 dX8_wet_1 rfl rfl rfl ?_
  refine bx_pVi C 0 at_M_0 rfl 5 fc_X8_203 (k_X8_isSoul l E a _ _ _ hv) dX8_wet_2 ⟨rfl, rfl, Nat.le_of_ble_eq_true rfl, Nat.le_of_ble_eq_true rfl⟩ [0, 1, 2, 3, 4, 5, 6, 7, 8, 9] ps_M_M_0 (by decide) rfl rfl (Nat.le_of_ble_eq_true rfl) rfl (fun r6 hv => ?_)
  refine bx_if_eq C 20 8 dX8_wet_5 (by decide) rfl (fun h => ?_) (fun h => ?_)
  · replace hv := hv.1 h
    exact bx_cut [0] (w_M E a u) rfl rfl (t_X8_wet_20 C   u  hv)
  · replace hv := hv.2 h
    refine bx_iload_n C 9 dX8_wet_8 rfl rfl rfl ?_
    refine bx_i2l C 10 dX8_wet_9 rfl ?_
    refine bx_lconst C 0 11 dX8_wet_10 lc_0 rfl ?_
    refine bx_ldc2 C 14 cs_X8_271 dX8_wet_11 rfl ?_
    refine bx_pSi C 17 fc_X8_46 (k_X8_in l E  _ _ _ _ hv) dX8_wet_14 ⟨rfl, rfl, Nat.le_of_ble_eq_true rfl, Nat.le_of_ble_eq_true rfl⟩ [] rfl (by decide) rfl rfl (Nat.le_of_ble_eq_true rfl) rfl (fun r7 hv => ?_)
    refine bx_if_ne C 25 20 dX8_wet_17 (by decide) rfl (fun h => ?_) (fun h => ?_)
    · replace hv := hv.1 h
      refine bx_aload_n C 26 dX8_wet_25 rfl rfl rfl ?_
      refine bx_iload_n C 27 dX8_wet_26 rfl rfl rfl ?_
      refine bx_pVi C 0 at_M_0 rfl 30 fc_X8_216 (k_X8_isOut l E a _ _ _ hv) dX8_wet_27 ⟨rfl, rfl, Nat.le_of_ble_eq_true rfl, Nat.le_of_ble_eq_true rfl⟩ [0, 1, 2, 3, 4, 5, 6, 7, 8, 9] ps_M_M_0 (by decide) rfl rfl (Nat.le_of_ble_eq_true rfl) rfl (fun r8 hv => ?_)
      refine bx_if_ne C 38 33 dX8_wet_30 (by decide) rfl (fun h => ?_) (fun h => ?_)
      · replace hv := hv.1 h
        refine bx_aload_n C 39 dX8_wet_38 rfl rfl rfl ?_
        refine bx_getf (v := .ref (a 1)) C 42 0 0 inX8 rfl (by decide) fl_X8_7 dX8_wet_39 at_M_0 rfl rfl ?_
        refine bx_iload_n C 43 dX8_wet_42 rfl rfl rfl ?_
        refine bx_iconst C 1 44 dX8_wet_43 ic_1 rfl ?_
        refine bx_pSi C 47 fc_X8_55 (k_X8_soulOf l E (fun k => a (1 + k)) _ _ _ _ hv) dX8_wet_44 ⟨rfl, rfl, Nat.le_of_ble_eq_true rfl, Nat.le_of_ble_eq_true rfl⟩ [1] ps_M_A_1 (by decide) rfl rfl (Nat.le_of_ble_eq_true rfl) rfl (fun r9 hv => ?_)
        refine bx_istore_n C 48 dX8_wet_47 rfl (by decide) rfl ?_
        refine bx_ldc2 C 51 cs_X8_271 dX8_wet_48 rfl ?_
        refine bx_iload_n C 52 dX8_wet_51 rfl rfl rfl ?_
        refine bx_i2l C 53 dX8_wet_52 rfl ?_
        refine bx_lsub C 54 dX8_wet_53 rfl ?_
        refine bx_aload_n C 55 dX8_wet_54 rfl rfl rfl ?_
        refine bx_getf (v := .ref (a 1)) C 58 0 0 inX8 rfl (by decide) fl_X8_7 dX8_wet_55 at_M_0 rfl rfl ?_
        refine bx_iload_n C 59 dX8_wet_58 rfl rfl rfl ?_
        refine bx_iload_n C 60 dX8_wet_59 rfl rfl rfl ?_
        refine bx_pSi C 63 fc_X8_82 (k_X8_makesBy l E (fun k => a (1 + k)) _ _ _ _ hv) dX8_wet_60 ⟨rfl, rfl, Nat.le_of_ble_eq_true rfl, Nat.le_of_ble_eq_true rfl⟩ [1] ps_M_A_1 (by decide) rfl rfl (Nat.le_of_ble_eq_true rfl) rfl (fun r10 hv => ?_)
        refine bx_i2l C 64 dX8_wet_63 rfl ?_
        refine bx_lmul C 65 dX8_wet_64 rfl ?_
        refine bx_iload_n C 66 dX8_wet_65 rfl rfl rfl ?_
        refine bx_i2l C 67 dX8_wet_66 rfl ?_
        refine bx_aload_n C 68 dX8_wet_67 rfl rfl rfl ?_
        refine bx_getf (v := .ref (a 1)) C 71 0 0 inX8 rfl (by decide) fl_X8_7 dX8_wet_68 at_M_0 rfl rfl ?_
        refine bx_iload_n C 72 dX8_wet_71 rfl rfl rfl ?_
        refine bx_iload_n C 73 dX8_wet_72 rfl rfl rfl ?_
        refine bx_bipush C 24 75 dX8_wet_73 bp_24 rfl ?_
        refine bx_icmp_ge C 85 78 dX8_wet_75 (by decide) rfl (fun h => ?_) (fun h => ?_)
        · replace hv := hv.1 h
          refine bx_iload_n C 86 dX8_wet_85 rfl rfl rfl ?_
          exact bx_cut [1] (w_M E a u) rfl rfl (t_X8_wet_86 C   u ((10 - (x2 : Int32).toInt64) * (r10 : Int32).toInt64) ((x2 : Int32).toInt64) x1 r9 hv)
        · replace hv := hv.2 h
          refine bx_iload_n C 79 dX8_wet_78 rfl rfl rfl ?_
          refine bx_bipush C 6 81 dX8_wet_79 bp_6 rfl ?_
          refine bx_iadd C 82 dX8_wet_81 rfl ?_
          refine bx_goto C 86 dX8_wet_82 (by decide) ?_
          exact bx_cut [1] (w_M E a u) rfl rfl (t_X8_wet_86 C   u ((10 - (x2 : Int32).toInt64) * (r10 : Int32).toInt64) ((x2 : Int32).toInt64) x1 (r9 + 6) hv)
      · replace hv := hv.2 h
        refine bx_aload_n C 34 dX8_wet_33 rfl rfl rfl ?_
        refine bx_qVi C 0 at_M_0 rfl 37 fc_X8_200 (k_X8_no l E a _ _ hv) dX8_wet_34 ⟨rfl, rfl, Nat.le_of_ble_eq_true rfl, Nat.le_of_ble_eq_true rfl⟩ [0, 1, 2, 3, 4, 5, 6, 7, 8, 9] (fun u12 => w_M E a u12) ps_M_M_0 (by decide) ad_M pu_M_M_0 rfl rfl (Nat.le_of_ble_eq_true rfl) rfl (fun r11 u12 hv => ?_)
        exact bx_iret C u12 rfl dX8_wet_37 rfl hv
    · replace hv := hv.2 h
      exact bx_cut [0] (w_M E a u) rfl rfl (t_X8_wet_20 C   u  hv)
theorem k_X8_wet (l : Launch) (E : bx_E) (a : Nat → Nat)  (K : Int32 → MS → Prop) (u : MS) (x1 : Int32) (x2 : Int32) (hv : V_X8_wet  K u x1 x2) : bx_Mi l E yX8_wet cX8_wet 6 (some .int) (rmD 4) [.ref (a 0), .int x1, .int x2] (fun (u : MS) => w_M E a u) u K :=
  bx_meti (by decide +kernel) (Nat.le_of_ble_eq_true rfl) (fun p e S m below meth c C => t_X8_wet_0 C u x1 x2 hv)
abbrev G_X8_evenings (p : Program) (l : Launch) (e : Env) (S : State) (m : MethodId) (args : Array Value) (below : List Frame) (meth : Method) (c : Code) (E : bx_E) (A : Nat → Prop) (a : Nat → Nat)  (K : Int32 → MS → Prop) (pc : Nat) (lv : List (Nat × Value)) (st : List Value) (ws : va_W) : Prop := bx_S p l e (rmD 5) S m args below meth c 10 E A (MQ below (va_Qi K (fun (u : MS) t => bx_B E A (w_M E a u) t) A) args S 0 0 A) 0 0 pc lv st ws
def V_X8_evenings_24  (K : Int32 → MS → Prop)  (u : MS)  : Prop := (V_X8_bad (fun r1 u2 => K r1 u2) u )
set_option maxRecDepth 20000 in
set_option maxHeartbeats 4000000 in
theorem t_X8_evenings_24 {a : Nat → Nat} {K : Int32 → MS → Prop} (C : bx_C p (rmD 5) S m args meth c cX8_evenings 10 yX8_evenings.cls (some .int) E A 0 0)   (u : MS)  (hv : V_X8_evenings_24 K u ) : G_X8_evenings p l e S m args below meth c E A a  K 24 [(0, .ref (a 0))] [] (w_M E a u) := by
  unfold V_X8_evenings_24 at hv
  refine bx_aload_n C 25 dX8_evenings_24 rfl rfl rfl ?_
  refine bx_qVi C 0 at_M_0 rfl 28 fc_X8_101 (k_X8_bad l E a _ _ hv) dX8_evenings_25 ⟨rfl, rfl, Nat.le_of_ble_eq_true rfl, Nat.le_of_ble_eq_true rfl⟩ [0, 1, 2, 3, 4, 5, 6, 7, 8, 9] (fun u2 => w_M E a u2) ps_M_M_0 (by decide) ad_M pu_M_M_0 rfl rfl (Nat.le_of_ble_eq_true rfl) rfl (fun r1 u2 hv => ?_)
  exact bx_iret C u2 rfl dX8_evenings_28 rfl hv
def V_X8_evenings_177  (K : Int32 → MS → Prop) (B42 : MS → Int32 → Int64 → Int32 → Int32 → Prop) (u : MS) (x2 : Int32) (x3 : Int64) (x5 : Int32) (x6 : Int32) : Prop := B42 (u.1, (upd u.2.1 6 ((u.2.1 6) + 1)), u.2.2) x2 x3 x5 (x6 + 1)
set_option maxRecDepth 20000 in
set_option maxHeartbeats 4000000 in
theorem t_X8_evenings_177 {a : Nat → Nat} {K : Int32 → MS → Prop} (C : bx_C p (rmD 5) S m args meth c cX8_evenings 10 yX8_evenings.cls (some .int) E A 0 0)  (B42 : MS → Int32 → Int64 → Int32 → Int32 → Prop) (hB42 : ∀ (u : MS) (x2 : Int32) (x3 : Int64) (x5 : Int32) (x6 : Int32), B42 u x2 x3 x5 x6 → G_X8_evenings p l e S m args below meth c E A a  K 42 [(0, .ref (a 0)), (2, .int x2), (3, .long x3), (5, .int x5), (6, .int x6)] [] (w_M E a u)) (u : MS) (x2 : Int32) (x3 : Int64) (x5 : Int32) (x6 : Int32) (hv : V_X8_evenings_177 K B42 u x2 x3 x5 x6) : G_X8_evenings p l e S m args below meth c E A a  K 177 [(0, .ref (a 0)), (2, .int x2), (3, .long x3), (5, .int x5), (6, .int x6)] [] (w_M E a u) := by
  unfold V_X8_evenings_177 at hv
  refine bx_aload_n C 178 dX8_evenings_177 rfl rfl rfl ?_
  refine bx_getf (v := .ref (a 2)) C 181 0 1 inX8 rfl (by decide) fl_X8_13 dX8_evenings_178 at_M_0 rfl rfl ?_
  refine bx_bipush C 6 183 dX8_evenings_181 bp_6 rfl ?_
  refine bx_dup2_11 C 184 dX8_evenings_183 rfl rfl rfl ?_
  refine bx_iald_k (f := u.2.1) C 185 2 6 dX8_evenings_184 at_M_2 vin_6_171 cl_6 rfl ?_
  refine bx_iconst C 1 186 dX8_evenings_185 ic_1 rfl ?_
  refine bx_iadd C 187 dX8_evenings_186 rfl ?_
  refine bx_iast_k C 188 2 6 (w_M E a (u.1, (upd u.2.1 6 ((u.2.1 6) + 1)), u.2.2)) dX8_evenings_187 rfl vin_6_171 cl_6 rfl rfl ?_
  refine bx_iinc C 1 191 dX8_evenings_188 rfl (by decide) ic_1 rfl ?_
  refine bx_goto C 42 dX8_evenings_191 (by decide) ?_
  exact bx_cut [1, 2, 3, 4, 0] (w_M E a (u.1, (upd u.2.1 6 ((u.2.1 6) + 1)), u.2.2)) rfl rfl (hB42 (u.1, (upd u.2.1 6 ((u.2.1 6) + 1)), u.2.2) x2 x3 x5 (x6 + 1) hv)
def V_X8_evenings_141  (K : Int32 → MS → Prop) (B42 : MS → Int32 → Int64 → Int32 → Int32 → Prop) (u : MS) (x2 : Int32) (x3 : Int64) (x5 : Int32) (x6 : Int32) (x7 : Int32) (x8 : Int32) (x9 : Int32) : Prop := ((x9 = 0 → V_X8_evenings_177 K B42 u x2 x3 x5 x6) ∧
 (¬ x9 = 0 → (V_X8_isFree (fun r3 => ((r3 = 0 → V_X8_evenings_177 K B42 u x2 x3 x5 x6) ∧
 (¬ r3 = 0 → (V_X8_goes (fun r4 u5 => B42 (u.1, u5, u.2.2) x2 x3 (x5 + r4) (x6 + 1)) u.2.1 x7 x8)))) u.2.1 x8)))
set_option maxRecDepth 20000 in
set_option maxHeartbeats 4000000 in
theorem t_X8_evenings_141 {a : Nat → Nat} {K : Int32 → MS → Prop} (C : bx_C p (rmD 5) S m args meth c cX8_evenings 10 yX8_evenings.cls (some .int) E A 0 0)  (B42 : MS → Int32 → Int64 → Int32 → Int32 → Prop) (hB42 : ∀ (u : MS) (x2 : Int32) (x3 : Int64) (x5 : Int32) (x6 : Int32), B42 u x2 x3 x5 x6 → G_X8_evenings p l e S m args below meth c E A a  K 42 [(0, .ref (a 0)), (2, .int x2), (3, .long x3), (5, .int x5), (6, .int x6)] [] (w_M E a u)) (u : MS) (x2 : Int32) (x3 : Int64) (x5 : Int32) (x6 : Int32) (x7 : Int32) (x8 : Int32) (x9 : Int32) (hv : V_X8_evenings_141 K B42 u x2 x3 x5 x6 x7 x8 x9) : G_X8_evenings p l e S m args below meth c E A a  K 141 [(0, .ref (a 0)), (2, .int x2), (3, .long x3), (5, .int x5), (6, .int x6), (7, .int x7), (8, .int x8), (9, .int x9)] [] (w_M E a u) := by
  unfold V_X8_evenings_141 at hv
  refine bx_iload C 143 dX8_evenings_141 rfl rfl ?_
  refine bx_if_eq C 177 146 dX8_evenings_143 (by decide) rfl (fun h => ?_) (fun h => ?_)
  · replace hv := hv.1 h
    exact bx_cut [0, 1, 2, 3, 4] (w_M E a u) rfl rfl (t_X8_evenings_177 C  _ hB42 u x2 x3 x5 x6 hv)
  · replace hv := hv.2 h
    refine bx_aload_n C 147 dX8_evenings_146 rfl rfl rfl ?_
    refine bx_getf (v := .ref (a 2)) C 150 0 1 inX8 rfl (by decide) fl_X8_13 dX8_evenings_147 at_M_0 rfl rfl ?_
    refine bx_iload C 152 dX8_evenings_150 rfl rfl ?_
    refine bx_pSi C 155 fc_X8_171 (k_X8_isFree l E (fun k => a (2 + k)) _ _ _ hv) dX8_evenings_152 ⟨rfl, rfl, Nat.le_of_ble_eq_true rfl, Nat.le_of_ble_eq_true rfl⟩ [2] ps_M_A_2 (by decide) rfl rfl (Nat.le_of_ble_eq_true rfl) rfl (fun r3 hv => ?_)
    refine bx_if_eq C 177 158 dX8_evenings_155 (by decide) rfl (fun h => ?_) (fun h => ?_)
    · replace hv := hv.1 h
      exact bx_cut [0, 1, 2, 3, 4] (w_M E a u) rfl rfl (t_X8_evenings_177 C  _ hB42 u x2 x3 x5 x6 hv)
    · replace hv := hv.2 h
      refine bx_iload C 160 dX8_evenings_158 rfl rfl ?_
      refine bx_aload_n C 161 dX8_evenings_160 rfl rfl rfl ?_
      refine bx_getf (v := .ref (a 2)) C 164 0 1 inX8 rfl (by decide) fl_X8_13 dX8_evenings_161 at_M_0 rfl rfl ?_
      refine bx_iload C 166 dX8_evenings_164 rfl rfl ?_
      refine bx_iload C 168 dX8_evenings_166 rfl rfl ?_
      refine bx_qSi C 171 fc_X8_182 (k_X8_goes l E (fun k => a (2 + k)) _ _ _ _ hv) dX8_evenings_168 ⟨rfl, rfl, Nat.le_of_ble_eq_true rfl, Nat.le_of_ble_eq_true rfl⟩ [2] (fun u5 => w_M E a (u.1, u5, u.2.2)) ps_M_A_2 (by decide) ad_A pu_M_A_2 rfl rfl (Nat.le_of_ble_eq_true rfl) rfl (fun r4 u5 hv => ?_)
      refine bx_iadd C 172 dX8_evenings_171 rfl ?_
      refine bx_istore C 174 dX8_evenings_172 (by decide) rfl ?_
      refine bx_goto C 188 dX8_evenings_174 (by decide) ?_
      refine bx_iinc C 1 191 dX8_evenings_188 rfl (by decide) ic_1 rfl ?_
      refine bx_goto C 42 dX8_evenings_191 (by decide) ?_
      exact bx_cut [2, 3, 4, 1, 0] (w_M E a (u.1, u5, u.2.2)) rfl rfl (hB42 (u.1, u5, u.2.2) x2 x3 (x5 + r4) (x6 + 1) hv)
def V_X8_evenings_103  (K : Int32 → MS → Prop) (B42 : MS → Int32 → Int64 → Int32 → Int32 → Prop) (u : MS) (x2 : Int32) (x3 : Int64) (x5 : Int32) (x6 : Int32) (x7 : Int32) (x8 : Int32) (z0 : Int32) : Prop := ((z0 = 0 → V_X8_evenings_141 K B42 u x2 x3 x5 x6 x7 x8 z0) ∧
 (¬ z0 = 0 → (V_X8_cellOf (fun r6 => ((r6 = (-1) → V_X8_evenings_141 K B42 u x2 x3 x5 x6 x7 x8 z0) ∧
 (¬ r6 = (-1) → (V_X8_goes (fun r7 u8 => B42 (u.1, u8, u.2.2) x2 x3 (x5 + r7) (x6 + 1)) u.2.1 x7 (-1))))) u.2.1 x7)))
set_option maxRecDepth 20000 in
set_option maxHeartbeats 4000000 in
theorem t_X8_evenings_103 {a : Nat → Nat} {K : Int32 → MS → Prop} (C : bx_C p (rmD 5) S m args meth c cX8_evenings 10 yX8_evenings.cls (some .int) E A 0 0)  (B42 : MS → Int32 → Int64 → Int32 → Int32 → Prop) (hB42 : ∀ (u : MS) (x2 : Int32) (x3 : Int64) (x5 : Int32) (x6 : Int32), B42 u x2 x3 x5 x6 → G_X8_evenings p l e S m args below meth c E A a  K 42 [(0, .ref (a 0)), (2, .int x2), (3, .long x3), (5, .int x5), (6, .int x6)] [] (w_M E a u)) (u : MS) (x2 : Int32) (x3 : Int64) (x5 : Int32) (x6 : Int32) (x7 : Int32) (x8 : Int32) (z0 : Int32) (hv : V_X8_evenings_103 K B42 u x2 x3 x5 x6 x7 x8 z0) : G_X8_evenings p l e S m args below meth c E A a  K 103 [(0, .ref (a 0)), (2, .int x2), (3, .long x3), (5, .int x5), (6, .int x6), (7, .int x7), (8, .int x8)] [.int z0] (w_M E a u) := by
  unfold V_X8_evenings_103 at hv
  refine bx_istore C 105 dX8_evenings_103 (by decide) rfl ?_
  refine bx_iload C 107 dX8_evenings_105 rfl rfl ?_
  refine bx_if_eq C 141 110 dX8_evenings_107 (by decide) rfl (fun h => ?_) (fun h => ?_)
  · replace hv := hv.1 h
    exact bx_cut [1, 2, 3, 4, 5, 6, 7, 0] (w_M E a u) rfl rfl (t_X8_evenings_141 C  _ hB42 u x2 x3 x5 x6 x7 x8 z0 hv)
  · replace hv := hv.2 h
    refine bx_aload_n C 111 dX8_evenings_110 rfl rfl rfl ?_
    refine bx_getf (v := .ref (a 2)) C 114 0 1 inX8 rfl (by decide) fl_X8_13 dX8_evenings_111 at_M_0 rfl rfl ?_
    refine bx_iload C 116 dX8_evenings_114 rfl rfl ?_
    refine bx_pSi C 119 fc_X8_59 (k_X8_cellOf l E (fun k => a (2 + k)) _ _ _ hv) dX8_evenings_116 ⟨rfl, rfl, Nat.le_of_ble_eq_true rfl, Nat.le_of_ble_eq_true rfl⟩ [2] ps_M_A_2 (by decide) rfl rfl (Nat.le_of_ble_eq_true rfl) rfl (fun r6 hv => ?_)
    refine bx_iconst C (-1) 120 dX8_evenings_119 ic_m1 rfl ?_
    refine bx_icmp_eq C 141 123 dX8_evenings_120 (by decide) rfl (fun h => ?_) (fun h => ?_)
    · replace hv := hv.1 h
      exact bx_cut [1, 2, 3, 4, 5, 6, 7, 0] (w_M E a u) rfl rfl (t_X8_evenings_141 C  _ hB42 u x2 x3 x5 x6 x7 x8 z0 hv)
    · replace hv := hv.2 h
      refine bx_iload C 125 dX8_evenings_123 rfl rfl ?_
      refine bx_aload_n C 126 dX8_evenings_125 rfl rfl rfl ?_
      refine bx_getf (v := .ref (a 2)) C 129 0 1 inX8 rfl (by decide) fl_X8_13 dX8_evenings_126 at_M_0 rfl rfl ?_
      refine bx_iload C 131 dX8_evenings_129 rfl rfl ?_
      refine bx_iconst C (-1) 132 dX8_evenings_131 ic_m1 rfl ?_
      refine bx_qSi C 135 fc_X8_182 (k_X8_goes l E (fun k => a (2 + k)) _ _ _ _ hv) dX8_evenings_132 ⟨rfl, rfl, Nat.le_of_ble_eq_true rfl, Nat.le_of_ble_eq_true rfl⟩ [2] (fun u8 => w_M E a (u.1, u8, u.2.2)) ps_M_A_2 (by decide) ad_A pu_M_A_2 rfl rfl (Nat.le_of_ble_eq_true rfl) rfl (fun r7 u8 hv => ?_)
      refine bx_iadd C 136 dX8_evenings_135 rfl ?_
      refine bx_istore C 138 dX8_evenings_136 (by decide) rfl ?_
      refine bx_goto C 188 dX8_evenings_138 (by decide) ?_
      refine bx_iinc C 1 191 dX8_evenings_188 rfl (by decide) ic_1 rfl ?_
      refine bx_goto C 42 dX8_evenings_191 (by decide) ?_
      exact bx_cut [3, 4, 5, 1, 0] (w_M E a (u.1, u8, u.2.2)) rfl rfl (hB42 (u.1, u8, u.2.2) x2 x3 (x5 + r7) (x6 + 1) hv)
def V_X8_evenings_42  (K : Int32 → MS → Prop)  : Nat → MS → Int32 → Int64 → Int32 → Int32 → Prop
  | 0, _, _, _, _, _ => False
  | n + 1, u, x2, x3, x5, x6 => ((x2 ≤ x6 → K x5 u) ∧
 (¬ x2 ≤ x6 → (((u.2.1 8) ≤ ((((((x3 * 1103515245) + 12345) - ((x3 * 1103515245) + 12345) / 2147483648 * 2147483648) / 65536) - ((((x3 * 1103515245) + 12345) - ((x3 * 1103515245) + 12345) / 2147483648 * 2147483648) / 65536) / 7 * 7) : Int64).toInt32 → V_X8_evenings_103 K (fun v y0 y1 y2 y3 => V_X8_evenings_42 K n v y0 y1 y2 y3) u x2 (((x3 * 1103515245) + 12345) - ((x3 * 1103515245) + 12345) / 2147483648 * 2147483648) x5 x6 (((((((x3 * 1103515245) + 12345) - ((x3 * 1103515245) + 12345) / 2147483648 * 2147483648) / 65536) - ((((x3 * 1103515245) + 12345) - ((x3 * 1103515245) + 12345) / 2147483648 * 2147483648) / 65536) / 7 * 7) : Int64).toInt32) (((((((x3 * 1103515245) + 12345) - ((x3 * 1103515245) + 12345) / 2147483648 * 2147483648) / 1048576) - ((((x3 * 1103515245) + 12345) - ((x3 * 1103515245) + 12345) / 2147483648 * 2147483648) / 1048576) / 30 * 30) : Int64).toInt32) 0) ∧
 (¬ (u.2.1 8) ≤ ((((((x3 * 1103515245) + 12345) - ((x3 * 1103515245) + 12345) / 2147483648 * 2147483648) / 65536) - ((((x3 * 1103515245) + 12345) - ((x3 * 1103515245) + 12345) / 2147483648 * 2147483648) / 65536) / 7 * 7) : Int64).toInt32 → V_X8_evenings_103 K (fun v y0 y1 y2 y3 => V_X8_evenings_42 K n v y0 y1 y2 y3) u x2 (((x3 * 1103515245) + 12345) - ((x3 * 1103515245) + 12345) / 2147483648 * 2147483648) x5 x6 (((((((x3 * 1103515245) + 12345) - ((x3 * 1103515245) + 12345) / 2147483648 * 2147483648) / 65536) - ((((x3 * 1103515245) + 12345) - ((x3 * 1103515245) + 12345) / 2147483648 * 2147483648) / 65536) / 7 * 7) : Int64).toInt32) (((((((x3 * 1103515245) + 12345) - ((x3 * 1103515245) + 12345) / 2147483648 * 2147483648) / 1048576) - ((((x3 * 1103515245) + 12345) - ((x3 * 1103515245) + 12345) / 2147483648 * 2147483648) / 1048576) / 30 * 30) : Int64).toInt32) 1))))
set_option maxRecDepth 20000 in
set_option maxHeartbeats 4000000 in
theorem t_X8_evenings_42 {a : Nat → Nat} {K : Int32 → MS → Prop} (C : bx_C p (rmD 5) S m args meth c cX8_evenings 10 yX8_evenings.cls (some .int) E A 0 0)   : ∀ (n : Nat) (u : MS) (x2 : Int32) (x3 : Int64) (x5 : Int32) (x6 : Int32), V_X8_evenings_42 K n u x2 x3 x5 x6 → G_X8_evenings p l e S m args below meth c E A a  K 42 [(0, .ref (a 0)), (2, .int x2), (3, .long x3), (5, .int x5), (6, .int x6)] [] (w_M E a u) := by
  intro n
  induction n with
  | zero =>
    intro u x2 x3 x5 x6 hv
    exact False.elim hv
  | succ n ih =>
    intro u x2 x3 x5 x6 hv
    unfold V_X8_evenings_42 at hv
    refine bx_iload C 44 dX8_evenings_42 rfl rfl ?_
    refine bx_iload_n C 45 dX8_evenings_44 rfl rfl rfl ?_
    refine bx_icmp_ge C 194 48 dX8_evenings_45 (by decide) rfl (fun h => ?_) (fun h => ?_)
    · replace hv := hv.1 h
      refine bx_iload C 196 dX8_evenings_194 rfl rfl ?_
      exact bx_iret C u rfl dX8_evenings_196 rfl hv
    · replace hv := hv.2 h
      refine bx_lload_n C 49 dX8_evenings_48 rfl rfl rfl ?_
      refine bx_ldc2 C 52 cs_X8_281 dX8_evenings_49 rfl ?_
      refine bx_lmul C 53 dX8_evenings_52 rfl ?_
      refine bx_ldc2 C 56 cs_X8_283 dX8_evenings_53 rfl ?_
      refine bx_ladd C 57 dX8_evenings_56 rfl ?_
      refine bx_ldc2 C 60 cs_X8_285 dX8_evenings_57 rfl ?_
      refine bx_lrem C 61 dX8_evenings_60 nz64_2147483648 rfl ?_
      refine bx_lstore_n C 62 dX8_evenings_61 rfl (by decide) rfl ?_
      refine bx_lload_n C 63 dX8_evenings_62 rfl rfl rfl ?_
      refine bx_ldc2 C 66 cs_X8_287 dX8_evenings_63 rfl ?_
      refine bx_ldiv C 67 dX8_evenings_66 nz64_65536 rfl ?_
      refine bx_ldc2 C 70 cs_X8_289 dX8_evenings_67 rfl ?_
      refine bx_lrem C 71 dX8_evenings_70 nz64_7 rfl ?_
      refine bx_l2i C 72 dX8_evenings_71 rfl ?_
      refine bx_istore C 74 dX8_evenings_72 (by decide) rfl ?_
      refine bx_lload_n C 75 dX8_evenings_74 rfl rfl rfl ?_
      refine bx_ldc2 C 78 cs_X8_291 dX8_evenings_75 rfl ?_
      refine bx_ldiv C 79 dX8_evenings_78 nz64_1048576 rfl ?_
      refine bx_ldc2 C 82 cs_X8_293 dX8_evenings_79 rfl ?_
      refine bx_lrem C 83 dX8_evenings_82 nz64_30 rfl ?_
      refine bx_l2i C 84 dX8_evenings_83 rfl ?_
      refine bx_istore C 86 dX8_evenings_84 (by decide) rfl ?_
      refine bx_iload C 88 dX8_evenings_86 rfl rfl ?_
      refine bx_aload_n C 89 dX8_evenings_88 rfl rfl rfl ?_
      refine bx_getf (v := .ref (a 2)) C 92 0 1 inX8 rfl (by decide) fl_X8_13 dX8_evenings_89 at_M_0 rfl rfl ?_
      refine bx_bipush C 8 94 dX8_evenings_92 bp_8 rfl ?_
      refine bx_iald_k (f := u.2.1) C 95 2 8 dX8_evenings_94 at_M_2 vin_8_171 cl_8 rfl ?_
      refine bx_icmp_ge C 102 98 dX8_evenings_95 (by decide) rfl (fun h => ?_) (fun h => ?_)
      · replace hv := hv.1 h
        refine bx_iconst C 0 103 dX8_evenings_102 ic_0 rfl ?_
        exact bx_cut [3, 4, 2, 5, 6, 1, 0] (w_M E a u) rfl rfl (t_X8_evenings_103 C  _ (fun v y0 y1 y2 y3 hv => ih v y0 y1 y2 y3 hv) u x2 (((x3 * 1103515245) + 12345) - ((x3 * 1103515245) + 12345) / 2147483648 * 2147483648) x5 x6 (((((((x3 * 1103515245) + 12345) - ((x3 * 1103515245) + 12345) / 2147483648 * 2147483648) / 65536) - ((((x3 * 1103515245) + 12345) - ((x3 * 1103515245) + 12345) / 2147483648 * 2147483648) / 65536) / 7 * 7) : Int64).toInt32) (((((((x3 * 1103515245) + 12345) - ((x3 * 1103515245) + 12345) / 2147483648 * 2147483648) / 1048576) - ((((x3 * 1103515245) + 12345) - ((x3 * 1103515245) + 12345) / 2147483648 * 2147483648) / 1048576) / 30 * 30) : Int64).toInt32) 0 hv)
      · replace hv := hv.2 h
        refine bx_iconst C 1 99 dX8_evenings_98 ic_1 rfl ?_
        refine bx_goto C 103 dX8_evenings_99 (by decide) ?_
        exact bx_cut [3, 4, 2, 5, 6, 1, 0] (w_M E a u) rfl rfl (t_X8_evenings_103 C  _ (fun v y0 y1 y2 y3 hv => ih v y0 y1 y2 y3 hv) u x2 (((x3 * 1103515245) + 12345) - ((x3 * 1103515245) + 12345) / 2147483648 * 2147483648) x5 x6 (((((((x3 * 1103515245) + 12345) - ((x3 * 1103515245) + 12345) / 2147483648 * 2147483648) / 65536) - ((((x3 * 1103515245) + 12345) - ((x3 * 1103515245) + 12345) / 2147483648 * 2147483648) / 65536) / 7 * 7) : Int64).toInt32) (((((((x3 * 1103515245) + 12345) - ((x3 * 1103515245) + 12345) / 2147483648 * 2147483648) / 1048576) - ((((x3 * 1103515245) + 12345) - ((x3 * 1103515245) + 12345) / 2147483648 * 2147483648) / 1048576) / 30 * 30) : Int64).toInt32) 1 hv)
def V_X8_evenings  (K : Int32 → MS → Prop)  (u : MS) (x1 : Int32) (x2 : Int32) : Prop := (V_X8_in (fun r9 => ((r9 = 0 → V_X8_evenings_24 K u ) ∧
 (¬ r9 = 0 → (V_X8_in (fun r10 => ((¬ r10 = 0 → (V_X8_layFresh (fun u11 => ∃ n12, V_X8_evenings_42 K n12 u11 x2 ((x1 : Int32).toInt64) 0 0) u )) ∧
 (r10 = 0 → V_X8_evenings_24 K u )))  ((x2 : Int32).toInt64) 0 60))))  ((x1 : Int32).toInt64) 0 999999)
set_option maxRecDepth 20000 in
set_option maxHeartbeats 4000000 in
theorem t_X8_evenings_0 {a : Nat → Nat} {K : Int32 → MS → Prop} (C : bx_C p (rmD 5) S m args meth c cX8_evenings 10 yX8_evenings.cls (some .int) E A 0 0)   (u : MS) (x1 : Int32) (x2 : Int32) (hv : V_X8_evenings K u x1 x2) : G_X8_evenings p l e S m args below meth c E A a  K 0 [(0, .ref (a 0)), (1, .int x1), (2, .int x2)] [] (w_M E a u) := by
  unfold V_X8_evenings at hv
  refine bx_iload_n C 1 dX8_evenings_0 rfl rfl rfl ?_
  refine bx_i2l C 2 dX8_evenings_1 rfl ?_
  refine bx_lconst C 0 3 dX8_evenings_2 lc_0 rfl ?_
  refine bx_ldc2 C 6 cs_X8_277 dX8_evenings_3 rfl ?_
  refine bx_pSi C 9 fc_X8_46 (k_X8_in l E  _ _ _ _ hv) dX8_evenings_6 ⟨rfl, rfl, Nat.le_of_ble_eq_true rfl, Nat.le_of_ble_eq_true rfl⟩ [] rfl (by decide) rfl rfl (Nat.le_of_ble_eq_true rfl) rfl (fun r9 hv => ?_)
  refine bx_if_eq C 24 12 dX8_evenings_9 (by decide) rfl (fun h => ?_) (fun h => ?_)
  · replace hv := hv.1 h
    exact bx_cut [0] (w_M E a u) rfl rfl (t_X8_evenings_24 C   u  hv)
  · replace hv := hv.2 h
    refine bx_iload_n C 13 dX8_evenings_12 rfl rfl rfl ?_
    refine bx_i2l C 14 dX8_evenings_13 rfl ?_
    refine bx_lconst C 0 15 dX8_evenings_14 lc_0 rfl ?_
    refine bx_ldc2 C 18 cs_X8_279 dX8_evenings_15 rfl ?_
    refine bx_pSi C 21 fc_X8_46 (k_X8_in l E  _ _ _ _ hv) dX8_evenings_18 ⟨rfl, rfl, Nat.le_of_ble_eq_true rfl, Nat.le_of_ble_eq_true rfl⟩ [] rfl (by decide) rfl rfl (Nat.le_of_ble_eq_true rfl) rfl (fun r10 hv => ?_)
    refine bx_if_ne C 29 24 dX8_evenings_21 (by decide) rfl (fun h => ?_) (fun h => ?_)
    · replace hv := hv.1 h
      refine bx_aload_n C 30 dX8_evenings_29 rfl rfl rfl ?_
      refine bx_qVv C 0 at_M_0 rfl 33 fc_X8_225 (k_X8_layFresh l E a _ _ hv) dX8_evenings_30 ⟨rfl, rfl, Nat.le_of_ble_eq_true rfl, Nat.le_of_ble_eq_true rfl⟩ [0, 1, 2, 3, 4, 5, 6, 7, 8, 9] (fun u11 => w_M E a u11) ps_M_M_0 (by decide) ad_M pu_M_M_0 rfl rfl (Nat.le_of_ble_eq_true rfl) rfl (fun u11 hv => ?_)
      refine bx_iload_n C 34 dX8_evenings_33 rfl rfl rfl ?_
      refine bx_i2l C 35 dX8_evenings_34 rfl ?_
      refine bx_lstore_n C 36 dX8_evenings_35 rfl (by decide) rfl ?_
      refine bx_iconst C 0 37 dX8_evenings_36 ic_0 rfl ?_
      refine bx_istore C 39 dX8_evenings_37 (by decide) rfl ?_
      refine bx_iconst C 0 40 dX8_evenings_39 ic_0 rfl ?_
      refine bx_istore C 42 dX8_evenings_40 (by decide) rfl ?_
      obtain ⟨n12, hv⟩ := hv
      exact bx_cut [3, 5, 2, 1, 0] (w_M E a u11) rfl rfl (t_X8_evenings_42 C   n12 u11 x2 ((x1 : Int32).toInt64) 0 0 hv)
    · replace hv := hv.2 h
      exact bx_cut [0] (w_M E a u) rfl rfl (t_X8_evenings_24 C   u  hv)
theorem k_X8_evenings (l : Launch) (E : bx_E) (a : Nat → Nat)  (K : Int32 → MS → Prop) (u : MS) (x1 : Int32) (x2 : Int32) (hv : V_X8_evenings  K u x1 x2) : bx_Mi l E yX8_evenings cX8_evenings 10 (some .int) (rmD 5) [.ref (a 0), .int x1, .int x2] (fun (u : MS) => w_M E a u) u K :=
  bx_meti (by decide +kernel) (Nat.le_of_ble_eq_true rfl) (fun p e S m below meth c C => t_X8_evenings_0 C u x1 x2 hv)
abbrev G_X8_part (p : Program) (l : Launch) (e : Env) (S : State) (m : MethodId) (args : Array Value) (below : List Frame) (meth : Method) (c : Code) (E : bx_E) (A : Nat → Prop) (a : Nat → Nat)  (K : Int64 → MS → Prop) (pc : Nat) (lv : List (Nat × Value)) (st : List Value) (ws : va_W) : Prop := bx_S p l e (rmD 1) S m args below meth c 2 E A (MQ below (va_Ql K (fun (u : MS) t => bx_B E A (w_M E a u) t) A) args S 0 0 A) 0 0 pc lv st ws
def V_X8_part  (K : Int64 → MS → Prop)  (u : MS) (x1 : Int32) : Prop := (V_X8_in (fun r1 => ((r1 = 0 → (V_X8_bad (fun r2 u3 => K ((r2 : Int32).toInt64) u3) u )) ∧
 (¬ r1 = 0 → ((¬ x1 = 0 → K u.2.2.2.2.2.1 u) ∧
 (x1 = 0 → K u.2.2.2.2.1 u)))))  ((x1 : Int32).toInt64) 0 1)
set_option maxRecDepth 20000 in
set_option maxHeartbeats 4000000 in
theorem t_X8_part_0 {a : Nat → Nat} {K : Int64 → MS → Prop} (C : bx_C p (rmD 1) S m args meth c cX8_part 2 yX8_part.cls (some .long) E A 0 0)   (u : MS) (x1 : Int32) (hv : V_X8_part K u x1) : G_X8_part p l e S m args below meth c E A a  K 0 [(0, .ref (a 0)), (1, .int x1)] [] (w_M E a u) := by
  unfold V_X8_part at hv
  refine bx_iload_n C 1 dX8_part_0 rfl rfl rfl ?_
  refine bx_i2l C 2 dX8_part_1 rfl ?_
  refine bx_lconst C 0 3 dX8_part_2 lc_0 rfl ?_
  refine bx_lconst C 1 4 dX8_part_3 lc_1 rfl ?_
  refine bx_pSi C 7 fc_X8_46 (k_X8_in l E  _ _ _ _ hv) dX8_part_4 ⟨rfl, rfl, Nat.le_of_ble_eq_true rfl, Nat.le_of_ble_eq_true rfl⟩ [] rfl (by decide) rfl rfl (Nat.le_of_ble_eq_true rfl) rfl (fun r1 hv => ?_)
  refine bx_if_eq C 28 10 dX8_part_7 (by decide) rfl (fun h => ?_) (fun h => ?_)
  · replace hv := hv.1 h
    refine bx_aload_n C 29 dX8_part_28 rfl rfl rfl ?_
    refine bx_qVi C 0 at_M_0 rfl 32 fc_X8_101 (k_X8_bad l E a _ _ hv) dX8_part_29 ⟨rfl, rfl, Nat.le_of_ble_eq_true rfl, Nat.le_of_ble_eq_true rfl⟩ [0, 1, 2, 3, 4, 5, 6, 7, 8, 9] (fun u3 => w_M E a u3) ps_M_M_0 (by decide) ad_M pu_M_M_0 rfl rfl (Nat.le_of_ble_eq_true rfl) rfl (fun r2 u3 hv => ?_)
    refine bx_i2l C 33 dX8_part_32 rfl ?_
    exact bx_lret C u3 rfl dX8_part_33 rfl hv
  · replace hv := hv.2 h
    refine bx_iload_n C 11 dX8_part_10 rfl rfl rfl ?_
    refine bx_if_ne C 21 14 dX8_part_11 (by decide) rfl (fun h => ?_) (fun h => ?_)
    · replace hv := hv.1 h
      refine bx_aload_n C 22 dX8_part_21 rfl rfl rfl ?_
      refine bx_getf (v := .long u.2.2.2.2.2.1) C 25 0 5 inX8 rfl (by decide) fl_X8_23 dX8_part_22 at_M_0 rfl rfl ?_
      refine bx_goto C 33 dX8_part_25 (by decide) ?_
      exact bx_lret C u rfl dX8_part_33 rfl hv
    · replace hv := hv.2 h
      refine bx_aload_n C 15 dX8_part_14 rfl rfl rfl ?_
      refine bx_getf (v := .long u.2.2.2.2.1) C 18 0 4 inX8 rfl (by decide) fl_X8_52 dX8_part_15 at_M_0 rfl rfl ?_
      refine bx_goto C 33 dX8_part_18 (by decide) ?_
      exact bx_lret C u rfl dX8_part_33 rfl hv
theorem k_X8_part (l : Launch) (E : bx_E) (a : Nat → Nat)  (K : Int64 → MS → Prop) (u : MS) (x1 : Int32) (hv : V_X8_part  K u x1) : bx_Ml l E yX8_part cX8_part 2 (some .long) (rmD 1) [.ref (a 0), .int x1] (fun (u : MS) => w_M E a u) u K :=
  bx_metl (by decide +kernel) (Nat.le_of_ble_eq_true rfl) (fun p e S m below meth c C => t_X8_part_0 C u x1 hv)
abbrev G_X8_image (p : Program) (l : Launch) (e : Env) (S : State) (m : MethodId) (args : Array Value) (below : List Frame) (meth : Method) (c : Code) (E : bx_E) (A : Nat → Prop) (a : Nat → Nat)  (K : Int32 → MS → Prop) (pc : Nat) (lv : List (Nat × Value)) (st : List Value) (ws : va_W) : Prop := bx_S p l e (rmD 1) S m args below meth c 3 E A (MQ below (va_Qi K (fun (u : MS) t => bx_B E A (w_M E a u) t) A) args S 0 0 A) 0 0 pc lv st ws
def V_X8_image_17  (K : Int32 → MS → Prop)  : Nat → MS → Int32 → Int32 → Prop
  | 0, _, _, _ => False
  | n + 1, u, x1, x2 => ((171 ≤ x2 → (vp_in x1 2 ∧ K 1 (u.1, u.2.1, u.2.2.1, (upd u.2.2.2.1 (x1 : Int32).toNatClampNeg (vp_nar .boolean 1)), u.2.2.2.2))) ∧
 (¬ 171 ≤ x2 → (vp_in x2 171 ∧ (vp_in ((171 * x1) + x2) 342 ∧ V_X8_image_17 K n (u.1, u.2.1, (upd u.2.2.1 (((171 * x1) + x2) : Int32).toNatClampNeg (u.1 (x2 : Int32).toNatClampNeg)), u.2.2.2) x1 (x2 + 1)))))
set_option maxRecDepth 20000 in
set_option maxHeartbeats 4000000 in
theorem t_X8_image_17 {a : Nat → Nat} {K : Int32 → MS → Prop} (C : bx_C p (rmD 1) S m args meth c cX8_image 3 yX8_image.cls (some .int) E A 0 0)   : ∀ (n : Nat) (u : MS) (x1 : Int32) (x2 : Int32), V_X8_image_17 K n u x1 x2 → G_X8_image p l e S m args below meth c E A a  K 17 [(0, .ref (a 0)), (1, .int x1), (2, .int x2)] [] (w_M E a u) := by
  intro n
  induction n with
  | zero =>
    intro u x1 x2 hv
    exact False.elim hv
  | succ n ih =>
    intro u x1 x2 hv
    unfold V_X8_image_17 at hv
    refine bx_iload_n C 18 dX8_image_17 rfl rfl rfl ?_
    refine bx_sipush C 171 21 dX8_image_18 sp_171 rfl ?_
    refine bx_icmp_ge C 48 24 dX8_image_21 (by decide) rfl (fun h => ?_) (fun h => ?_)
    · replace hv := hv.1 h
      refine bx_aload_n C 49 dX8_image_48 rfl rfl rfl ?_
      refine bx_getf (v := .ref (a 4)) C 52 0 3 inX8 rfl (by decide) fl_X8_19 dX8_image_49 at_M_0 rfl rfl ?_
      refine bx_iload_n C 53 dX8_image_52 rfl rfl rfl ?_
      refine bx_iconst C 1 54 dX8_image_53 ic_1 rfl ?_
      refine bx_zast C 55 4 (w_M E a (u.1, u.2.1, u.2.2.1, (upd u.2.2.2.1 (x1 : Int32).toNatClampNeg (vp_nar .boolean 1)), u.2.2.2.2)) dX8_image_54 rfl hv.1 rfl rfl ?_
      replace hv := hv.2
      refine bx_iconst C 1 56 dX8_image_55 ic_1 rfl ?_
      exact bx_iret C (u.1, u.2.1, u.2.2.1, (upd u.2.2.2.1 (x1 : Int32).toNatClampNeg (vp_nar .boolean 1)), u.2.2.2.2) rfl dX8_image_56 rfl hv
    · replace hv := hv.2 h
      refine bx_aload_n C 25 dX8_image_24 rfl rfl rfl ?_
      refine bx_getf (v := .ref (a 3)) C 28 0 2 inX8 rfl (by decide) fl_X8_16 dX8_image_25 at_M_0 rfl rfl ?_
      refine bx_sipush C 171 31 dX8_image_28 sp_171 rfl ?_
      refine bx_iload_n C 32 dX8_image_31 rfl rfl rfl ?_
      refine bx_imul C 33 dX8_image_32 rfl ?_
      refine bx_iload_n C 34 dX8_image_33 rfl rfl rfl ?_
      refine bx_iadd C 35 dX8_image_34 rfl ?_
      refine bx_aload_n C 36 dX8_image_35 rfl rfl rfl ?_
      refine bx_getf (v := .ref (a 1)) C 39 0 0 inX8 rfl (by decide) fl_X8_7 dX8_image_36 at_M_0 rfl rfl ?_
      refine bx_iload_n C 40 dX8_image_39 rfl rfl rfl ?_
      refine bx_iald (f := u.1) C 41 1 dX8_image_40 at_M_1 hv.1 rfl ?_
      replace hv := hv.2
      refine bx_iast C 42 3 (w_M E a (u.1, u.2.1, (upd u.2.2.1 (((171 * x1) + x2) : Int32).toNatClampNeg (u.1 (x2 : Int32).toNatClampNeg)), u.2.2.2)) dX8_image_41 rfl hv.1 rfl rfl ?_
      replace hv := hv.2
      refine bx_iinc C 1 45 dX8_image_42 rfl (by decide) ic_1 rfl ?_
      refine bx_goto C 17 dX8_image_45 (by decide) ?_
      exact bx_cut [1, 2, 0] (w_M E a (u.1, u.2.1, (upd u.2.2.1 (((171 * x1) + x2) : Int32).toNatClampNeg (u.1 (x2 : Int32).toNatClampNeg)), u.2.2.2)) rfl rfl (ih (u.1, u.2.1, (upd u.2.2.1 (((171 * x1) + x2) : Int32).toNatClampNeg (u.1 (x2 : Int32).toNatClampNeg)), u.2.2.2) x1 (x2 + 1) hv)
def V_X8_image  (K : Int32 → MS → Prop)  (u : MS) (x1 : Int32) : Prop := (V_X8_in (fun r1 => ((¬ r1 = 0 → ∃ n2, V_X8_image_17 K n2 u x1 0) ∧
 (r1 = 0 → (V_X8_bad (fun r3 u4 => K r3 u4) u ))))  ((x1 : Int32).toInt64) 0 1)
set_option maxRecDepth 20000 in
set_option maxHeartbeats 4000000 in
theorem t_X8_image_0 {a : Nat → Nat} {K : Int32 → MS → Prop} (C : bx_C p (rmD 1) S m args meth c cX8_image 3 yX8_image.cls (some .int) E A 0 0)   (u : MS) (x1 : Int32) (hv : V_X8_image K u x1) : G_X8_image p l e S m args below meth c E A a  K 0 [(0, .ref (a 0)), (1, .int x1)] [] (w_M E a u) := by
  unfold V_X8_image at hv
  refine bx_iload_n C 1 dX8_image_0 rfl rfl rfl ?_
  refine bx_i2l C 2 dX8_image_1 rfl ?_
  refine bx_lconst C 0 3 dX8_image_2 lc_0 rfl ?_
  refine bx_lconst C 1 4 dX8_image_3 lc_1 rfl ?_
  refine bx_pSi C 7 fc_X8_46 (k_X8_in l E  _ _ _ _ hv) dX8_image_4 ⟨rfl, rfl, Nat.le_of_ble_eq_true rfl, Nat.le_of_ble_eq_true rfl⟩ [] rfl (by decide) rfl rfl (Nat.le_of_ble_eq_true rfl) rfl (fun r1 hv => ?_)
  refine bx_if_ne C 15 10 dX8_image_7 (by decide) rfl (fun h => ?_) (fun h => ?_)
  · replace hv := hv.1 h
    refine bx_iconst C 0 16 dX8_image_15 ic_0 rfl ?_
    refine bx_istore_n C 17 dX8_image_16 rfl (by decide) rfl ?_
    obtain ⟨n2, hv⟩ := hv
    exact bx_cut [1, 2, 0] (w_M E a u) rfl rfl (t_X8_image_17 C   n2 u x1 0 hv)
  · replace hv := hv.2 h
    refine bx_aload_n C 11 dX8_image_10 rfl rfl rfl ?_
    refine bx_qVi C 0 at_M_0 rfl 14 fc_X8_101 (k_X8_bad l E a _ _ hv) dX8_image_11 ⟨rfl, rfl, Nat.le_of_ble_eq_true rfl, Nat.le_of_ble_eq_true rfl⟩ [0, 1, 2, 3, 4, 5, 6, 7, 8, 9] (fun u4 => w_M E a u4) ps_M_M_0 (by decide) ad_M pu_M_M_0 rfl rfl (Nat.le_of_ble_eq_true rfl) rfl (fun r3 u4 hv => ?_)
    exact bx_iret C u4 rfl dX8_image_14 rfl hv
theorem k_X8_image (l : Launch) (E : bx_E) (a : Nat → Nat)  (K : Int32 → MS → Prop) (u : MS) (x1 : Int32) (hv : V_X8_image  K u x1) : bx_Mi l E yX8_image cX8_image 3 (some .int) (rmD 1) [.ref (a 0), .int x1] (fun (u : MS) => w_M E a u) u K :=
  bx_meti (by decide +kernel) (Nat.le_of_ble_eq_true rfl) (fun p e S m below meth c C => t_X8_image_0 C u x1 hv)
abbrev G_X8_from (p : Program) (l : Launch) (e : Env) (S : State) (m : MethodId) (args : Array Value) (below : List Frame) (meth : Method) (c : Code) (E : bx_E) (A : Nat → Prop) (a : Nat → Nat)  (K : Int32 → MS → Prop) (pc : Nat) (lv : List (Nat × Value)) (st : List Value) (ws : va_W) : Prop := bx_S p l e (rmD 1) S m args below meth c 3 E A (MQ below (va_Qi K (fun (u : MS) t => bx_B E A (w_M E a u) t) A) args S 0 0 A) 0 0 pc lv st ws
def V_X8_from_31  (K : Int32 → MS → Prop)  : Nat → MS → Int32 → Int32 → Prop
  | 0, _, _, _ => False
  | n + 1, u, x1, x2 => ((171 ≤ x2 → K 1 u) ∧
 (¬ 171 ≤ x2 → (vp_in ((171 * x1) + x2) 342 ∧ (vp_in x2 171 ∧ V_X8_from_31 K n ((upd u.1 (x2 : Int32).toNatClampNeg (u.2.2.1 (((171 * x1) + x2) : Int32).toNatClampNeg)), u.2) x1 (x2 + 1)))))
set_option maxRecDepth 20000 in
set_option maxHeartbeats 4000000 in
theorem t_X8_from_31 {a : Nat → Nat} {K : Int32 → MS → Prop} (C : bx_C p (rmD 1) S m args meth c cX8_from 3 yX8_from.cls (some .int) E A 0 0)   : ∀ (n : Nat) (u : MS) (x1 : Int32) (x2 : Int32), V_X8_from_31 K n u x1 x2 → G_X8_from p l e S m args below meth c E A a  K 31 [(0, .ref (a 0)), (1, .int x1), (2, .int x2)] [] (w_M E a u) := by
  intro n
  induction n with
  | zero =>
    intro u x1 x2 hv
    exact False.elim hv
  | succ n ih =>
    intro u x1 x2 hv
    unfold V_X8_from_31 at hv
    refine bx_iload_n C 32 dX8_from_31 rfl rfl rfl ?_
    refine bx_sipush C 171 35 dX8_from_32 sp_171 rfl ?_
    refine bx_icmp_ge C 62 38 dX8_from_35 (by decide) rfl (fun h => ?_) (fun h => ?_)
    · replace hv := hv.1 h
      refine bx_iconst C 1 63 dX8_from_62 ic_1 rfl ?_
      exact bx_iret C u rfl dX8_from_63 rfl hv
    · replace hv := hv.2 h
      refine bx_aload_n C 39 dX8_from_38 rfl rfl rfl ?_
      refine bx_getf (v := .ref (a 1)) C 42 0 0 inX8 rfl (by decide) fl_X8_7 dX8_from_39 at_M_0 rfl rfl ?_
      refine bx_iload_n C 43 dX8_from_42 rfl rfl rfl ?_
      refine bx_aload_n C 44 dX8_from_43 rfl rfl rfl ?_
      refine bx_getf (v := .ref (a 3)) C 47 0 2 inX8 rfl (by decide) fl_X8_16 dX8_from_44 at_M_0 rfl rfl ?_
      refine bx_sipush C 171 50 dX8_from_47 sp_171 rfl ?_
      refine bx_iload_n C 51 dX8_from_50 rfl rfl rfl ?_
      refine bx_imul C 52 dX8_from_51 rfl ?_
      refine bx_iload_n C 53 dX8_from_52 rfl rfl rfl ?_
      refine bx_iadd C 54 dX8_from_53 rfl ?_
      refine bx_iald (f := u.2.2.1) C 55 3 dX8_from_54 at_M_3 hv.1 rfl ?_
      replace hv := hv.2
      refine bx_iast C 56 1 (w_M E a ((upd u.1 (x2 : Int32).toNatClampNeg (u.2.2.1 (((171 * x1) + x2) : Int32).toNatClampNeg)), u.2)) dX8_from_55 rfl hv.1 rfl rfl ?_
      replace hv := hv.2
      refine bx_iinc C 1 59 dX8_from_56 rfl (by decide) ic_1 rfl ?_
      refine bx_goto C 31 dX8_from_59 (by decide) ?_
      exact bx_cut [1, 2, 0] (w_M E a ((upd u.1 (x2 : Int32).toNatClampNeg (u.2.2.1 (((171 * x1) + x2) : Int32).toNatClampNeg)), u.2)) rfl rfl (ih ((upd u.1 (x2 : Int32).toNatClampNeg (u.2.2.1 (((171 * x1) + x2) : Int32).toNatClampNeg)), u.2) x1 (x2 + 1) hv)
def V_X8_from  (K : Int32 → MS → Prop)  (u : MS) (x1 : Int32) : Prop := (V_X8_in (fun r1 => ((¬ r1 = 0 → (vp_in x1 2 ∧ ((¬ (u.2.2.2.1 (x1 : Int32).toNatClampNeg) = 0 → ∃ n2, V_X8_from_31 K n2 u x1 0) ∧
 ((u.2.2.2.1 (x1 : Int32).toNatClampNeg) = 0 → (V_X8_no (fun r3 u4 => K r3 u4) u ))))) ∧
 (r1 = 0 → (V_X8_bad (fun r5 u6 => K r5 u6) u ))))  ((x1 : Int32).toInt64) 0 1)
set_option maxRecDepth 20000 in
set_option maxHeartbeats 4000000 in
theorem t_X8_from_0 {a : Nat → Nat} {K : Int32 → MS → Prop} (C : bx_C p (rmD 1) S m args meth c cX8_from 3 yX8_from.cls (some .int) E A 0 0)   (u : MS) (x1 : Int32) (hv : V_X8_from K u x1) : G_X8_from p l e S m args below meth c E A a  K 0 [(0, .ref (a 0)), (1, .int x1)] [] (w_M E a u) := by
  unfold V_X8_from at hv
  refine bx_iload_n C 1 dX8_from_0 rfl rfl rfl ?_
  refine bx_i2l C 2 dX8_from_1 rfl ?_
  refine bx_lconst C 0 3 dX8_from_2 lc_0 rfl ?_
  refine bx_lconst C 1 4 dX8_from_3 lc_1 rfl ?_
  refine bx_pSi C 7 fc_X8_46 (k_X8_in l E  _ _ _ _ hv) dX8_from_4 ⟨rfl, rfl, Nat.le_of_ble_eq_true rfl, Nat.le_of_ble_eq_true rfl⟩ [] rfl (by decide) rfl rfl (Nat.le_of_ble_eq_true rfl) rfl (fun r1 hv => ?_)
  refine bx_if_ne C 15 10 dX8_from_7 (by decide) rfl (fun h => ?_) (fun h => ?_)
  · replace hv := hv.1 h
    refine bx_aload_n C 16 dX8_from_15 rfl rfl rfl ?_
    refine bx_getf (v := .ref (a 4)) C 19 0 3 inX8 rfl (by decide) fl_X8_19 dX8_from_16 at_M_0 rfl rfl ?_
    refine bx_iload_n C 20 dX8_from_19 rfl rfl rfl ?_
    refine bx_zald (f := u.2.2.2.1) C 21 4 dX8_from_20 at_M_4 hv.1 rfl ?_
    replace hv := hv.2
    refine bx_if_ne C 29 24 dX8_from_21 (by decide) rfl (fun h => ?_) (fun h => ?_)
    · replace hv := hv.1 h
      refine bx_iconst C 0 30 dX8_from_29 ic_0 rfl ?_
      refine bx_istore_n C 31 dX8_from_30 rfl (by decide) rfl ?_
      obtain ⟨n2, hv⟩ := hv
      exact bx_cut [1, 2, 0] (w_M E a u) rfl rfl (t_X8_from_31 C   n2 u x1 0 hv)
    · replace hv := hv.2 h
      refine bx_aload_n C 25 dX8_from_24 rfl rfl rfl ?_
      refine bx_qVi C 0 at_M_0 rfl 28 fc_X8_200 (k_X8_no l E a _ _ hv) dX8_from_25 ⟨rfl, rfl, Nat.le_of_ble_eq_true rfl, Nat.le_of_ble_eq_true rfl⟩ [0, 1, 2, 3, 4, 5, 6, 7, 8, 9] (fun u4 => w_M E a u4) ps_M_M_0 (by decide) ad_M pu_M_M_0 rfl rfl (Nat.le_of_ble_eq_true rfl) rfl (fun r3 u4 hv => ?_)
      exact bx_iret C u4 rfl dX8_from_28 rfl hv
  · replace hv := hv.2 h
    refine bx_aload_n C 11 dX8_from_10 rfl rfl rfl ?_
    refine bx_qVi C 0 at_M_0 rfl 14 fc_X8_101 (k_X8_bad l E a _ _ hv) dX8_from_11 ⟨rfl, rfl, Nat.le_of_ble_eq_true rfl, Nat.le_of_ble_eq_true rfl⟩ [0, 1, 2, 3, 4, 5, 6, 7, 8, 9] (fun u6 => w_M E a u6) ps_M_M_0 (by decide) ad_M pu_M_M_0 rfl rfl (Nat.le_of_ble_eq_true rfl) rfl (fun r5 u6 hv => ?_)
    exact bx_iret C u6 rfl dX8_from_14 rfl hv
theorem k_X8_from (l : Launch) (E : bx_E) (a : Nat → Nat)  (K : Int32 → MS → Prop) (u : MS) (x1 : Int32) (hv : V_X8_from  K u x1) : bx_Mi l E yX8_from cX8_from 3 (some .int) (rmD 1) [.ref (a 0), .int x1] (fun (u : MS) => w_M E a u) u K :=
  bx_meti (by decide +kernel) (Nat.le_of_ble_eq_true rfl) (fun p e S m below meth c C => t_X8_from_0 C u x1 hv)
end
