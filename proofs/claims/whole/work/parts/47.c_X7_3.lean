section
variable {p : Program} {l : Launch} {e : Env} {S : State} {m : MethodId} {args : Array Value} {below : List Frame} {meth : Method} {c : Code} {E : bx_E} {A : Nat → Prop}
abbrev G_X7_ask (p : Program) (l : Launch) (e : Env) (S : State) (m : MethodId) (args : Array Value) (below : List Frame) (meth : Method) (c : Code) (E : bx_E) (A : Nat → Prop) (a : Nat → Nat)  (K : Int32 → US → Prop) (pc : Nat) (lv : List (Nat × Value)) (st : List Value) (ws : va_W) : Prop := bx_S p l e (rmD 4) S m args below meth c 8 E A (MQ below (va_Qi K (fun (u : US) t => bx_B E A (w_U E a u) t) A) args S 0 0 A) 0 0 pc lv st ws
def V_X7_ask_43  (K : Int32 → US → Prop) (B33 : US → Int32 → Int32 → Int32 → Int32 → Prop) : Nat → US → Int32 → Int32 → Int32 → Int32 → Int32 → Prop
  | 0, _, _, _, _, _, _ => False
  | n + 1, u, x2, x3, x4, x5, x6 => ((10 < x6 → B33 u x2 x3 x4 (x5 + 1)) ∧
 (¬ 10 < x6 → (V_X7_mostSoulKindsAlike (fun r1 u2 => ((r1 ≤ 0 → V_X7_ask_43 K B33 n u2 x2 x3 x4 x5 (x6 + 1)) ∧
 (¬ r1 ≤ 0 → ((x4 ≤ r1 → V_X7_ask_43 K B33 n u2 x2 x3 x4 x5 (x6 + 1)) ∧
 (¬ x4 ≤ r1 → V_X7_ask_43 K B33 n u2 x2 ((100 * x5) + x6) r1 x5 (x6 + 1)))))) u x2 x5 x6)))
set_option maxRecDepth 20000 in
set_option maxHeartbeats 4000000 in
theorem t_X7_ask_43 {a : Nat → Nat} {K : Int32 → US → Prop} (C : bx_C p (rmD 4) S m args meth c cX7_ask 8 yX7_ask.cls (some .int) E A 0 0)  (B33 : US → Int32 → Int32 → Int32 → Int32 → Prop) (hB33 : ∀ (u : US) (x2 : Int32) (x3 : Int32) (x4 : Int32) (x5 : Int32), B33 u x2 x3 x4 x5 → G_X7_ask p l e S m args below meth c E A a  K 33 [(0, .ref (a 0)), (2, .int x2), (3, .int x3), (4, .int x4), (5, .int x5)] [] (w_U E a u)) : ∀ (n : Nat) (u : US) (x2 : Int32) (x3 : Int32) (x4 : Int32) (x5 : Int32) (x6 : Int32), V_X7_ask_43 K B33 n u x2 x3 x4 x5 x6 → G_X7_ask p l e S m args below meth c E A a  K 43 [(0, .ref (a 0)), (2, .int x2), (3, .int x3), (4, .int x4), (5, .int x5), (6, .int x6)] [] (w_U E a u) := by
  intro n
  induction n with
  | zero =>
    intro u x2 x3 x4 x5 x6 hv
    exact False.elim hv
  | succ n ih =>
    intro u x2 x3 x4 x5 x6 hv
    unfold V_X7_ask_43 at hv
    refine bx_iload C 45 dX7_ask_43 rfl rfl ?_
    refine bx_bipush C 10 47 dX7_ask_45 bp_10 rfl ?_
    refine bx_icmp_gt C 92 50 dX7_ask_47 (by decide) rfl (fun h => ?_) (fun h => ?_)
    · replace hv := hv.1 h
      refine bx_iinc C 1 95 dX7_ask_92 rfl (by decide) ic_1 rfl ?_
      refine bx_goto C 33 dX7_ask_95 (by decide) ?_
      exact bx_cut [1, 2, 3, 4, 0] (w_U E a u) rfl rfl (hB33 u x2 x3 x4 (x5 + 1) hv)
    · replace hv := hv.2 h
      refine bx_aload_n C 51 dX7_ask_50 rfl rfl rfl ?_
      refine bx_iload_n C 52 dX7_ask_51 rfl rfl rfl ?_
      refine bx_iload C 54 dX7_ask_52 rfl rfl ?_
      refine bx_iload C 56 dX7_ask_54 rfl rfl ?_
      refine bx_qVi C 0 at_U_0 rfl 59 fc_X7_236 (k_X7_mostSoulKindsAlike l E a _ _ _ _ _ hv) dX7_ask_56 ⟨rfl, rfl, Nat.le_of_ble_eq_true rfl, Nat.le_of_ble_eq_true rfl⟩ [0, 1, 2, 3, 4, 5, 6, 7, 8, 9, 10, 11, 12, 13, 14, 15, 16, 17, 18, 19, 20, 21, 22, 23, 24, 25, 26, 27, 28, 29, 30, 31, 32, 33, 34, 35, 36, 37, 38, 39, 40, 41, 42, 43, 44, 45, 46, 47, 48, 49, 50, 51, 52, 53, 54, 55, 56, 57, 58, 59, 60, 61, 62, 63, 64, 65, 66, 67, 68, 69, 70, 71, 72, 73] (fun u2 => w_U E a u2) ps_U_U_0 (by decide) ad_U pu_U_U_0 rfl rfl (Nat.le_of_ble_eq_true rfl) rfl (fun r1 u2 hv => ?_)
      refine bx_istore C 61 dX7_ask_59 (by decide) rfl ?_
      refine bx_iload C 63 dX7_ask_61 rfl rfl ?_
      refine bx_if_le C 86 66 dX7_ask_63 (by decide) rfl (fun h => ?_) (fun h => ?_)
      · replace hv := hv.1 h
        refine bx_iinc C 1 89 dX7_ask_86 rfl (by decide) ic_1 rfl ?_
        refine bx_goto C 43 dX7_ask_89 (by decide) ?_
        exact bx_cut [2, 3, 4, 5, 6, 0] (w_U E a u2) rfl rfl (ih u2 x2 x3 x4 x5 (x6 + 1) hv)
      · replace hv := hv.2 h
        refine bx_iload C 68 dX7_ask_66 rfl rfl ?_
        refine bx_iload C 70 dX7_ask_68 rfl rfl ?_
        refine bx_icmp_ge C 86 73 dX7_ask_70 (by decide) rfl (fun h => ?_) (fun h => ?_)
        · replace hv := hv.1 h
          refine bx_iinc C 1 89 dX7_ask_86 rfl (by decide) ic_1 rfl ?_
          refine bx_goto C 43 dX7_ask_89 (by decide) ?_
          exact bx_cut [2, 3, 4, 5, 6, 0] (w_U E a u2) rfl rfl (ih u2 x2 x3 x4 x5 (x6 + 1) hv)
        · replace hv := hv.2 h
          refine bx_iload C 75 dX7_ask_73 rfl rfl ?_
          refine bx_istore C 77 dX7_ask_75 (by decide) rfl ?_
          refine bx_bipush C 100 79 dX7_ask_77 bp_100 rfl ?_
          refine bx_iload C 81 dX7_ask_79 rfl rfl ?_
          refine bx_imul C 82 dX7_ask_81 rfl ?_
          refine bx_iload C 84 dX7_ask_82 rfl rfl ?_
          refine bx_iadd C 85 dX7_ask_84 rfl ?_
          refine bx_istore_n C 86 dX7_ask_85 rfl (by decide) rfl ?_
          refine bx_iinc C 1 89 dX7_ask_86 rfl (by decide) ic_1 rfl ?_
          refine bx_goto C 43 dX7_ask_89 (by decide) ?_
          exact bx_cut [4, 5, 1, 2, 6, 0] (w_U E a u2) rfl rfl (ih u2 x2 ((100 * x5) + x6) r1 x5 (x6 + 1) hv)
def V_X7_ask_33  (K : Int32 → US → Prop)  : Nat → US → Int32 → Int32 → Int32 → Int32 → Prop
  | 0, _, _, _, _, _ => False
  | n + 1, u, x2, x3, x4, x5 => ((6 ≤ x5 → K x3 u) ∧
 (¬ 6 ≤ x5 → ∃ n3, V_X7_ask_43 K (fun v y0 y1 y2 y3 => V_X7_ask_33 K n v y0 y1 y2 y3) n3 u x2 x3 x4 x5 0))
set_option maxRecDepth 20000 in
set_option maxHeartbeats 4000000 in
theorem t_X7_ask_33 {a : Nat → Nat} {K : Int32 → US → Prop} (C : bx_C p (rmD 4) S m args meth c cX7_ask 8 yX7_ask.cls (some .int) E A 0 0)   : ∀ (n : Nat) (u : US) (x2 : Int32) (x3 : Int32) (x4 : Int32) (x5 : Int32), V_X7_ask_33 K n u x2 x3 x4 x5 → G_X7_ask p l e S m args below meth c E A a  K 33 [(0, .ref (a 0)), (2, .int x2), (3, .int x3), (4, .int x4), (5, .int x5)] [] (w_U E a u) := by
  intro n
  induction n with
  | zero =>
    intro u x2 x3 x4 x5 hv
    exact False.elim hv
  | succ n ih =>
    intro u x2 x3 x4 x5 hv
    unfold V_X7_ask_33 at hv
    refine bx_iload C 35 dX7_ask_33 rfl rfl ?_
    refine bx_bipush C 6 37 dX7_ask_35 bp_6 rfl ?_
    refine bx_icmp_ge C 98 40 dX7_ask_37 (by decide) rfl (fun h => ?_) (fun h => ?_)
    · replace hv := hv.1 h
      refine bx_iload_n C 99 dX7_ask_98 rfl rfl rfl ?_
      exact bx_iret C u rfl dX7_ask_99 rfl hv
    · replace hv := hv.2 h
      refine bx_iconst C 0 41 dX7_ask_40 ic_0 rfl ?_
      refine bx_istore C 43 dX7_ask_41 (by decide) rfl ?_
      obtain ⟨n3, hv⟩ := hv
      exact bx_cut [1, 2, 3, 4, 5, 0] (w_U E a u) rfl rfl (t_X7_ask_43 C  _ (fun v y0 y1 y2 y3 hv => ih v y0 y1 y2 y3 hv) n3 u x2 x3 x4 x5 0 hv)
def V_X7_ask  (K : Int32 → US → Prop)  (u : US) (x1 : Int32) : Prop := (V_X0_isSoul (fun r4 => ((¬ r4 = 0 → (V_X7_soulKindsThatFit (fun r5 => ∃ n6, V_X7_ask_33 K n6 u r5 (-1) 7 0) u x1)) ∧
 (r4 = 0 → (V_X7_refuseBad (fun r7 u8 => K r7 u8) u (-2))))) u.1 x1)
set_option maxRecDepth 20000 in
set_option maxHeartbeats 4000000 in
theorem t_X7_ask_0 {a : Nat → Nat} {K : Int32 → US → Prop} (C : bx_C p (rmD 4) S m args meth c cX7_ask 8 yX7_ask.cls (some .int) E A 0 0)   (u : US) (x1 : Int32) (hv : V_X7_ask K u x1) : G_X7_ask p l e S m args below meth c E A a  K 0 [(0, .ref (a 0)), (1, .int x1)] [] (w_U E a u) := by
  unfold V_X7_ask at hv
  refine bx_aload_n C 1 dX7_ask_0 rfl rfl rfl ?_
  refine bx_getf (v := .ref (a 1)) C 4 0 0 inX7 rfl (by decide) fl_X7_10 dX7_ask_1 at_U_0 rfl rfl ?_
  refine bx_iload_n C 5 dX7_ask_4 rfl rfl rfl ?_
  refine bx_pVi C 1 at_U_1 rfl 8 fc_X7_106 (k_X0_isSoul l E (fun k => a (1 + k)) _ _ _ hv) dX7_ask_5 ⟨rfl, rfl, Nat.le_of_ble_eq_true rfl, Nat.le_of_ble_eq_true rfl⟩ [1, 2, 3, 4, 5, 6, 7, 8, 9, 10, 11, 12, 13] ps_U_H_1 (by decide) rfl rfl (Nat.le_of_ble_eq_true rfl) rfl (fun r4 hv => ?_)
  refine bx_if_ne C 18 11 dX7_ask_8 (by decide) rfl (fun h => ?_) (fun h => ?_)
  · replace hv := hv.1 h
    refine bx_aload_n C 19 dX7_ask_18 rfl rfl rfl ?_
    refine bx_iload_n C 20 dX7_ask_19 rfl rfl rfl ?_
    refine bx_pVi C 0 at_U_0 rfl 23 fc_X7_233 (k_X7_soulKindsThatFit l E a _ _ _ hv) dX7_ask_20 ⟨rfl, rfl, Nat.le_of_ble_eq_true rfl, Nat.le_of_ble_eq_true rfl⟩ [0, 1, 2, 3, 4, 5, 6, 7, 8, 9, 10, 11, 12, 13, 14, 15, 16, 17, 18, 19, 20, 21, 22, 23, 24, 25, 26, 27, 28, 29, 30, 31, 32, 33, 34, 35, 36, 37, 38, 39, 40, 41, 42, 43, 44, 45, 46, 47, 48, 49, 50, 51, 52, 53, 54, 55, 56, 57, 58, 59, 60, 61, 62, 63, 64, 65, 66, 67, 68, 69, 70, 71, 72, 73] ps_U_U_0 (by decide) rfl rfl (Nat.le_of_ble_eq_true rfl) rfl (fun r5 hv => ?_)
    refine bx_istore_n C 24 dX7_ask_23 rfl (by decide) rfl ?_
    refine bx_iconst C (-1) 25 dX7_ask_24 ic_m1 rfl ?_
    refine bx_istore_n C 26 dX7_ask_25 rfl (by decide) rfl ?_
    refine bx_bipush C 7 28 dX7_ask_26 bp_7 rfl ?_
    refine bx_istore C 30 dX7_ask_28 (by decide) rfl ?_
    refine bx_iconst C 0 31 dX7_ask_30 ic_0 rfl ?_
    refine bx_istore C 33 dX7_ask_31 (by decide) rfl ?_
    obtain ⟨n6, hv⟩ := hv
    exact bx_cut [4, 3, 2, 1, 0] (w_U E a u) rfl rfl (t_X7_ask_33 C   n6 u r5 (-1) 7 0 hv)
  · replace hv := hv.2 h
    refine bx_aload_n C 12 dX7_ask_11 rfl rfl rfl ?_
    refine bx_bipush C (-2) 14 dX7_ask_12 bp_m2 rfl ?_
    refine bx_qVi C 0 at_U_0 rfl 17 fc_X7_63 (k_X7_refuseBad l E a _ _ _ hv) dX7_ask_14 ⟨rfl, rfl, Nat.le_of_ble_eq_true rfl, Nat.le_of_ble_eq_true rfl⟩ [0, 1, 2, 3, 4, 5, 6, 7, 8, 9, 10, 11, 12, 13, 14, 15, 16, 17, 18, 19, 20, 21, 22, 23, 24, 25, 26, 27, 28, 29, 30, 31, 32, 33, 34, 35, 36, 37, 38, 39, 40, 41, 42, 43, 44, 45, 46, 47, 48, 49, 50, 51, 52, 53, 54, 55, 56, 57, 58, 59, 60, 61, 62, 63, 64, 65, 66, 67, 68, 69, 70, 71, 72, 73] (fun u8 => w_U E a u8) ps_U_U_0 (by decide) ad_U pu_U_U_0 rfl rfl (Nat.le_of_ble_eq_true rfl) rfl (fun r7 u8 hv => ?_)
    exact bx_iret C u8 rfl dX7_ask_17 rfl hv
theorem k_X7_ask (l : Launch) (E : bx_E) (a : Nat → Nat)  (K : Int32 → US → Prop) (u : US) (x1 : Int32) (hv : V_X7_ask  K u x1) : bx_Mi l E yX7_ask cX7_ask 8 (some .int) (rmD 4) [.ref (a 0), .int x1] (fun (u : US) => w_U E a u) u K :=
  bx_meti (by decide +kernel) (Nat.le_of_ble_eq_true rfl) (fun p e S m below meth c C => t_X7_ask_0 C u x1 hv)
abbrev G_X7_whispers (p : Program) (l : Launch) (e : Env) (S : State) (m : MethodId) (args : Array Value) (below : List Frame) (meth : Method) (c : Code) (E : bx_E) (A : Nat → Prop) (a : Nat → Nat)  (K : Int32 → US → Prop) (pc : Nat) (lv : List (Nat × Value)) (st : List Value) (ws : va_W) : Prop := bx_S p l e (rmD 3) S m args below meth c 10 E A (MQ below (va_Qi K (fun (u : US) t => bx_B E A (w_U E a u) t) A) args S 0 0 A) 0 0 pc lv st ws
def V_X7_whispers_36  (K : Int32 → US → Prop)  (u : US)  : Prop := (V_X7_refuseBad (fun r1 u2 => K r1 u2) u (-2))
set_option maxRecDepth 20000 in
set_option maxHeartbeats 4000000 in
theorem t_X7_whispers_36 {a : Nat → Nat} {K : Int32 → US → Prop} (C : bx_C p (rmD 3) S m args meth c cX7_whispers 10 yX7_whispers.cls (some .int) E A 0 0)   (u : US)  (hv : V_X7_whispers_36 K u ) : G_X7_whispers p l e S m args below meth c E A a  K 36 [(0, .ref (a 0))] [] (w_U E a u) := by
  unfold V_X7_whispers_36 at hv
  refine bx_aload_n C 37 dX7_whispers_36 rfl rfl rfl ?_
  refine bx_bipush C (-2) 39 dX7_whispers_37 bp_m2 rfl ?_
  refine bx_qVi C 0 at_U_0 rfl 42 fc_X7_63 (k_X7_refuseBad l E a _ _ _ hv) dX7_whispers_39 ⟨rfl, rfl, Nat.le_of_ble_eq_true rfl, Nat.le_of_ble_eq_true rfl⟩ [0, 1, 2, 3, 4, 5, 6, 7, 8, 9, 10, 11, 12, 13, 14, 15, 16, 17, 18, 19, 20, 21, 22, 23, 24, 25, 26, 27, 28, 29, 30, 31, 32, 33, 34, 35, 36, 37, 38, 39, 40, 41, 42, 43, 44, 45, 46, 47, 48, 49, 50, 51, 52, 53, 54, 55, 56, 57, 58, 59, 60, 61, 62, 63, 64, 65, 66, 67, 68, 69, 70, 71, 72, 73] (fun u2 => w_U E a u2) ps_U_U_0 (by decide) ad_U pu_U_U_0 rfl rfl (Nat.le_of_ble_eq_true rfl) rfl (fun r1 u2 hv => ?_)
  exact bx_iret C u2 rfl dX7_whispers_42 rfl hv
def V_X7_whispers_142  (K : Int32 → US → Prop)  (u : US) (x6 : Int32) (x7 : Int32) (x8 : Int32) (x9 : Int32) : Prop := ((x7 < x6 → K x9 u) ∧
 (¬ x7 < x6 → ((x8 < x6 → K x9 u) ∧
 (¬ x8 < x6 → K (x9 ||| 8) u))))
set_option maxRecDepth 20000 in
set_option maxHeartbeats 4000000 in
theorem t_X7_whispers_142 {a : Nat → Nat} {K : Int32 → US → Prop} (C : bx_C p (rmD 3) S m args meth c cX7_whispers 10 yX7_whispers.cls (some .int) E A 0 0)   (u : US) (x6 : Int32) (x7 : Int32) (x8 : Int32) (x9 : Int32) (hv : V_X7_whispers_142 K u x6 x7 x8 x9) : G_X7_whispers p l e S m args below meth c E A a  K 142 [(0, .ref (a 0)), (6, .int x6), (7, .int x7), (8, .int x8), (9, .int x9)] [] (w_U E a u) := by
  unfold V_X7_whispers_142 at hv
  refine bx_iload C 144 dX7_whispers_142 rfl rfl ?_
  refine bx_iload C 146 dX7_whispers_144 rfl rfl ?_
  refine bx_icmp_lt C 163 149 dX7_whispers_146 (by decide) rfl (fun h => ?_) (fun h => ?_)
  · replace hv := hv.1 h
    refine bx_iload C 165 dX7_whispers_163 rfl rfl ?_
    exact bx_iret C u rfl dX7_whispers_165 rfl hv
  · replace hv := hv.2 h
    refine bx_iload C 151 dX7_whispers_149 rfl rfl ?_
    refine bx_iload C 153 dX7_whispers_151 rfl rfl ?_
    refine bx_icmp_lt C 163 156 dX7_whispers_153 (by decide) rfl (fun h => ?_) (fun h => ?_)
    · replace hv := hv.1 h
      refine bx_iload C 165 dX7_whispers_163 rfl rfl ?_
      exact bx_iret C u rfl dX7_whispers_165 rfl hv
    · replace hv := hv.2 h
      refine bx_iload C 158 dX7_whispers_156 rfl rfl ?_
      refine bx_bipush C 8 160 dX7_whispers_158 bp_8 rfl ?_
      refine bx_ior C 161 dX7_whispers_160 rfl ?_
      refine bx_istore C 163 dX7_whispers_161 (by decide) rfl ?_
      refine bx_iload C 165 dX7_whispers_163 rfl rfl ?_
      exact bx_iret C u rfl dX7_whispers_165 rfl hv
def V_X7_whispers_122  (K : Int32 → US → Prop)  (u : US) (x4 : Int32) (x5 : Int32) (x6 : Int32) (x7 : Int32) (x8 : Int32) (x9 : Int32) : Prop := ((x4 < x5 → V_X7_whispers_142 K u x6 x7 x8 x9) ∧
 (¬ x4 < x5 → ((x6 < x7 → V_X7_whispers_142 K u x6 x7 x8 x9) ∧
 (¬ x6 < x7 → V_X7_whispers_142 K u x6 x7 x8 (x9 ||| 4)))))
set_option maxRecDepth 20000 in
set_option maxHeartbeats 4000000 in
theorem t_X7_whispers_122 {a : Nat → Nat} {K : Int32 → US → Prop} (C : bx_C p (rmD 3) S m args meth c cX7_whispers 10 yX7_whispers.cls (some .int) E A 0 0)   (u : US) (x4 : Int32) (x5 : Int32) (x6 : Int32) (x7 : Int32) (x8 : Int32) (x9 : Int32) (hv : V_X7_whispers_122 K u x4 x5 x6 x7 x8 x9) : G_X7_whispers p l e S m args below meth c E A a  K 122 [(0, .ref (a 0)), (4, .int x4), (5, .int x5), (6, .int x6), (7, .int x7), (8, .int x8), (9, .int x9)] [] (w_U E a u) := by
  unfold V_X7_whispers_122 at hv
  refine bx_iload C 124 dX7_whispers_122 rfl rfl ?_
  refine bx_iload C 126 dX7_whispers_124 rfl rfl ?_
  refine bx_icmp_lt C 142 129 dX7_whispers_126 (by decide) rfl (fun h => ?_) (fun h => ?_)
  · replace hv := hv.1 h
    exact bx_cut [0, 3, 4, 5, 6] (w_U E a u) rfl rfl (t_X7_whispers_142 C   u x6 x7 x8 x9 hv)
  · replace hv := hv.2 h
    refine bx_iload C 131 dX7_whispers_129 rfl rfl ?_
    refine bx_iload C 133 dX7_whispers_131 rfl rfl ?_
    refine bx_icmp_lt C 142 136 dX7_whispers_133 (by decide) rfl (fun h => ?_) (fun h => ?_)
    · replace hv := hv.1 h
      exact bx_cut [0, 3, 4, 5, 6] (w_U E a u) rfl rfl (t_X7_whispers_142 C   u x6 x7 x8 x9 hv)
    · replace hv := hv.2 h
      refine bx_iload C 138 dX7_whispers_136 rfl rfl ?_
      refine bx_iconst C 4 139 dX7_whispers_138 ic_4 rfl ?_
      refine bx_ior C 140 dX7_whispers_139 rfl ?_
      refine bx_istore C 142 dX7_whispers_140 (by decide) rfl ?_
      exact bx_cut [1, 4, 5, 6, 0] (w_U E a u) rfl rfl (t_X7_whispers_142 C   u x6 x7 x8 (x9 ||| 4) hv)
def V_X7_whispers_102  (K : Int32 → US → Prop)  (u : US) (x4 : Int32) (x5 : Int32) (x6 : Int32) (x7 : Int32) (x8 : Int32) (x9 : Int32) : Prop := ((x4 < x5 → V_X7_whispers_122 K u x4 x5 x6 x7 x8 x9) ∧
 (¬ x4 < x5 → ((x6 < x8 → V_X7_whispers_122 K u x4 x5 x6 x7 x8 x9) ∧
 (¬ x6 < x8 → V_X7_whispers_122 K u x4 x5 x6 x7 x8 (x9 ||| 2)))))
set_option maxRecDepth 20000 in
set_option maxHeartbeats 4000000 in
theorem t_X7_whispers_102 {a : Nat → Nat} {K : Int32 → US → Prop} (C : bx_C p (rmD 3) S m args meth c cX7_whispers 10 yX7_whispers.cls (some .int) E A 0 0)   (u : US) (x4 : Int32) (x5 : Int32) (x6 : Int32) (x7 : Int32) (x8 : Int32) (x9 : Int32) (hv : V_X7_whispers_102 K u x4 x5 x6 x7 x8 x9) : G_X7_whispers p l e S m args below meth c E A a  K 102 [(0, .ref (a 0)), (4, .int x4), (5, .int x5), (6, .int x6), (7, .int x7), (8, .int x8), (9, .int x9)] [] (w_U E a u) := by
  unfold V_X7_whispers_102 at hv
  refine bx_iload C 104 dX7_whispers_102 rfl rfl ?_
  refine bx_iload C 106 dX7_whispers_104 rfl rfl ?_
  refine bx_icmp_lt C 122 109 dX7_whispers_106 (by decide) rfl (fun h => ?_) (fun h => ?_)
  · replace hv := hv.1 h
    exact bx_cut [0, 1, 2, 3, 4, 5, 6] (w_U E a u) rfl rfl (t_X7_whispers_122 C   u x4 x5 x6 x7 x8 x9 hv)
  · replace hv := hv.2 h
    refine bx_iload C 111 dX7_whispers_109 rfl rfl ?_
    refine bx_iload C 113 dX7_whispers_111 rfl rfl ?_
    refine bx_icmp_lt C 122 116 dX7_whispers_113 (by decide) rfl (fun h => ?_) (fun h => ?_)
    · replace hv := hv.1 h
      exact bx_cut [0, 1, 2, 3, 4, 5, 6] (w_U E a u) rfl rfl (t_X7_whispers_122 C   u x4 x5 x6 x7 x8 x9 hv)
    · replace hv := hv.2 h
      refine bx_iload C 118 dX7_whispers_116 rfl rfl ?_
      refine bx_iconst C 2 119 dX7_whispers_118 ic_2 rfl ?_
      refine bx_ior C 120 dX7_whispers_119 rfl ?_
      refine bx_istore C 122 dX7_whispers_120 (by decide) rfl ?_
      exact bx_cut [1, 2, 3, 4, 5, 6, 0] (w_U E a u) rfl rfl (t_X7_whispers_122 C   u x4 x5 x6 x7 x8 (x9 ||| 2) hv)
def V_X7_whispers  (K : Int32 → US → Prop)  (u : US) (x1 : Int32) (x2 : Int32) (x3 : Int32) : Prop := (V_X0_isSoul (fun r3 => ((r3 = 0 → V_X7_whispers_36 K u ) ∧
 (¬ r3 = 0 → (V_X0_isSoul (fun r4 => ((r4 = 0 → V_X7_whispers_36 K u ) ∧
 (¬ r4 = 0 → ((x1 = x2 → V_X7_whispers_36 K u ) ∧
 (¬ x1 = x2 → (V_X7_within (fun r5 => ((¬ r5 = 0 → (V_X0_sightFrom (fun r6 => (V_X0_fussTo (fun r7 => (V_X0_fussTo (fun r8 => (((r6 / 2) < r6 → V_X7_whispers_102 K u r6 (r6 / 2) 2 (-r7) (-r8) 0) ∧
 (¬ (r6 / 2) < r6 → V_X7_whispers_102 K u r6 (r6 / 2) 2 (-r7) (-r8) (0 ||| 1)))) u.1 x2 x3)) u.1 x1 x3)) u.1 x3)) ∧
 (r5 = 0 → V_X7_whispers_36 K u )))  x3 30)))))) u.1 x2)))) u.1 x1)
set_option maxRecDepth 20000 in
set_option maxHeartbeats 4000000 in
theorem t_X7_whispers_0 {a : Nat → Nat} {K : Int32 → US → Prop} (C : bx_C p (rmD 3) S m args meth c cX7_whispers 10 yX7_whispers.cls (some .int) E A 0 0)   (u : US) (x1 : Int32) (x2 : Int32) (x3 : Int32) (hv : V_X7_whispers K u x1 x2 x3) : G_X7_whispers p l e S m args below meth c E A a  K 0 [(0, .ref (a 0)), (1, .int x1), (2, .int x2), (3, .int x3)] [] (w_U E a u) := by
  unfold V_X7_whispers at hv
  refine bx_aload_n C 1 dX7_whispers_0 rfl rfl rfl ?_
  refine bx_getf (v := .ref (a 1)) C 4 0 0 inX7 rfl (by decide) fl_X7_10 dX7_whispers_1 at_U_0 rfl rfl ?_
  refine bx_iload_n C 5 dX7_whispers_4 rfl rfl rfl ?_
  refine bx_pVi C 1 at_U_1 rfl 8 fc_X7_106 (k_X0_isSoul l E (fun k => a (1 + k)) _ _ _ hv) dX7_whispers_5 ⟨rfl, rfl, Nat.le_of_ble_eq_true rfl, Nat.le_of_ble_eq_true rfl⟩ [1, 2, 3, 4, 5, 6, 7, 8, 9, 10, 11, 12, 13] ps_U_H_1 (by decide) rfl rfl (Nat.le_of_ble_eq_true rfl) rfl (fun r3 hv => ?_)
  refine bx_if_eq C 36 11 dX7_whispers_8 (by decide) rfl (fun h => ?_) (fun h => ?_)
  · replace hv := hv.1 h
    exact bx_cut [0] (w_U E a u) rfl rfl (t_X7_whispers_36 C   u  hv)
  · replace hv := hv.2 h
    refine bx_aload_n C 12 dX7_whispers_11 rfl rfl rfl ?_
    refine bx_getf (v := .ref (a 1)) C 15 0 0 inX7 rfl (by decide) fl_X7_10 dX7_whispers_12 at_U_0 rfl rfl ?_
    refine bx_iload_n C 16 dX7_whispers_15 rfl rfl rfl ?_
    refine bx_pVi C 1 at_U_1 rfl 19 fc_X7_106 (k_X0_isSoul l E (fun k => a (1 + k)) _ _ _ hv) dX7_whispers_16 ⟨rfl, rfl, Nat.le_of_ble_eq_true rfl, Nat.le_of_ble_eq_true rfl⟩ [1, 2, 3, 4, 5, 6, 7, 8, 9, 10, 11, 12, 13] ps_U_H_1 (by decide) rfl rfl (Nat.le_of_ble_eq_true rfl) rfl (fun r4 hv => ?_)
    refine bx_if_eq C 36 22 dX7_whispers_19 (by decide) rfl (fun h => ?_) (fun h => ?_)
    · replace hv := hv.1 h
      exact bx_cut [0] (w_U E a u) rfl rfl (t_X7_whispers_36 C   u  hv)
    · replace hv := hv.2 h
      refine bx_iload_n C 23 dX7_whispers_22 rfl rfl rfl ?_
      refine bx_iload_n C 24 dX7_whispers_23 rfl rfl rfl ?_
      refine bx_icmp_eq C 36 27 dX7_whispers_24 (by decide) rfl (fun h => ?_) (fun h => ?_)
      · replace hv := hv.1 h
        exact bx_cut [0] (w_U E a u) rfl rfl (t_X7_whispers_36 C   u  hv)
      · replace hv := hv.2 h
        refine bx_iload_n C 28 dX7_whispers_27 rfl rfl rfl ?_
        refine bx_bipush C 30 30 dX7_whispers_28 bp_30 rfl ?_
        refine bx_pSi C 33 fc_X7_59 (k_X7_within l E  _ _ _ hv) dX7_whispers_30 ⟨rfl, rfl, Nat.le_of_ble_eq_true rfl, Nat.le_of_ble_eq_true rfl⟩ [] rfl (by decide) rfl rfl (Nat.le_of_ble_eq_true rfl) rfl (fun r5 hv => ?_)
        refine bx_if_ne C 43 36 dX7_whispers_33 (by decide) rfl (fun h => ?_) (fun h => ?_)
        · replace hv := hv.1 h
          refine bx_aload_n C 44 dX7_whispers_43 rfl rfl rfl ?_
          refine bx_getf (v := .ref (a 1)) C 47 0 0 inX7 rfl (by decide) fl_X7_10 dX7_whispers_44 at_U_0 rfl rfl ?_
          refine bx_iload_n C 48 dX7_whispers_47 rfl rfl rfl ?_
          refine bx_pVi C 1 at_U_1 rfl 51 fc_X7_166 (k_X0_sightFrom l E (fun k => a (1 + k)) _ _ _ hv) dX7_whispers_48 ⟨rfl, rfl, Nat.le_of_ble_eq_true rfl, Nat.le_of_ble_eq_true rfl⟩ [1, 2, 3, 4, 5, 6, 7, 8, 9, 10, 11, 12, 13] ps_U_H_1 (by decide) rfl rfl (Nat.le_of_ble_eq_true rfl) rfl (fun r6 hv => ?_)
          refine bx_istore C 53 dX7_whispers_51 (by decide) rfl ?_
          refine bx_iload C 55 dX7_whispers_53 rfl rfl ?_
          refine bx_iconst C 2 56 dX7_whispers_55 ic_2 rfl ?_
          refine bx_idiv C 57 dX7_whispers_56 nz32_2 rfl ?_
          refine bx_istore C 59 dX7_whispers_57 (by decide) rfl ?_
          refine bx_iconst C 2 60 dX7_whispers_59 ic_2 rfl ?_
          refine bx_istore C 62 dX7_whispers_60 (by decide) rfl ?_
          refine bx_aload_n C 63 dX7_whispers_62 rfl rfl rfl ?_
          refine bx_getf (v := .ref (a 1)) C 66 0 0 inX7 rfl (by decide) fl_X7_10 dX7_whispers_63 at_U_0 rfl rfl ?_
          refine bx_iload_n C 67 dX7_whispers_66 rfl rfl rfl ?_
          refine bx_iload_n C 68 dX7_whispers_67 rfl rfl rfl ?_
          refine bx_pVi C 1 at_U_1 rfl 71 fc_X7_169 (k_X0_fussTo l E (fun k => a (1 + k)) _ _ _ _ hv) dX7_whispers_68 ⟨rfl, rfl, Nat.le_of_ble_eq_true rfl, Nat.le_of_ble_eq_true rfl⟩ [1, 2, 3, 4, 5, 6, 7, 8, 9, 10, 11, 12, 13] ps_U_H_1 (by decide) rfl rfl (Nat.le_of_ble_eq_true rfl) rfl (fun r7 hv => ?_)
          refine bx_ineg C 72 dX7_whispers_71 rfl ?_
          refine bx_istore C 74 dX7_whispers_72 (by decide) rfl ?_
          refine bx_aload_n C 75 dX7_whispers_74 rfl rfl rfl ?_
          refine bx_getf (v := .ref (a 1)) C 78 0 0 inX7 rfl (by decide) fl_X7_10 dX7_whispers_75 at_U_0 rfl rfl ?_
          refine bx_iload_n C 79 dX7_whispers_78 rfl rfl rfl ?_
          refine bx_iload_n C 80 dX7_whispers_79 rfl rfl rfl ?_
          refine bx_pVi C 1 at_U_1 rfl 83 fc_X7_169 (k_X0_fussTo l E (fun k => a (1 + k)) _ _ _ _ hv) dX7_whispers_80 ⟨rfl, rfl, Nat.le_of_ble_eq_true rfl, Nat.le_of_ble_eq_true rfl⟩ [1, 2, 3, 4, 5, 6, 7, 8, 9, 10, 11, 12, 13] ps_U_H_1 (by decide) rfl rfl (Nat.le_of_ble_eq_true rfl) rfl (fun r8 hv => ?_)
          refine bx_ineg C 84 dX7_whispers_83 rfl ?_
          refine bx_istore C 86 dX7_whispers_84 (by decide) rfl ?_
          refine bx_iconst C 0 87 dX7_whispers_86 ic_0 rfl ?_
          refine bx_istore C 89 dX7_whispers_87 (by decide) rfl ?_
          refine bx_iload C 91 dX7_whispers_89 rfl rfl ?_
          refine bx_iload C 93 dX7_whispers_91 rfl rfl ?_
          refine bx_icmp_lt C 102 96 dX7_whispers_93 (by decide) rfl (fun h => ?_) (fun h => ?_)
          · replace hv := hv.1 h
            exact bx_cut [6, 5, 4, 3, 2, 1, 0] (w_U E a u) rfl rfl (t_X7_whispers_102 C   u r6 (r6 / 2) 2 (-r7) (-r8) 0 hv)
          · replace hv := hv.2 h
            refine bx_iload C 98 dX7_whispers_96 rfl rfl ?_
            refine bx_iconst C 1 99 dX7_whispers_98 ic_1 rfl ?_
            refine bx_ior C 100 dX7_whispers_99 rfl ?_
            refine bx_istore C 102 dX7_whispers_100 (by decide) rfl ?_
            exact bx_cut [6, 5, 4, 3, 2, 1, 0] (w_U E a u) rfl rfl (t_X7_whispers_102 C   u r6 (r6 / 2) 2 (-r7) (-r8) (0 ||| 1) hv)
        · replace hv := hv.2 h
          exact bx_cut [0] (w_U E a u) rfl rfl (t_X7_whispers_36 C   u  hv)
theorem k_X7_whispers (l : Launch) (E : bx_E) (a : Nat → Nat)  (K : Int32 → US → Prop) (u : US) (x1 : Int32) (x2 : Int32) (x3 : Int32) (hv : V_X7_whispers  K u x1 x2 x3) : bx_Mi l E yX7_whispers cX7_whispers 10 (some .int) (rmD 3) [.ref (a 0), .int x1, .int x2, .int x3] (fun (u : US) => w_U E a u) u K :=
  bx_meti (by decide +kernel) (Nat.le_of_ble_eq_true rfl) (fun p e S m below meth c C => t_X7_whispers_0 C u x1 x2 x3 hv)
abbrev G_X7_setTenths (p : Program) (l : Launch) (e : Env) (S : State) (m : MethodId) (args : Array Value) (below : List Frame) (meth : Method) (c : Code) (E : bx_E) (A : Nat → Prop) (a : Nat → Nat)  (K : US → Prop) (pc : Nat) (lv : List (Nat × Value)) (st : List Value) (ws : va_W) : Prop := bx_S p l e (rmD 0) S m args below meth c 3 E A (MQ below (va_Qv K (fun (u : US) t => bx_B E A (w_U E a u) t) A) args S 0 0 A) 0 0 pc lv st ws
def V_X7_setTenths_3  (K : US → Prop)  : Nat → US → Int32 → Int32 → Prop
  | 0, _, _, _ => False
  | n + 1, u, x1, x2 => ((x2 < 1 → K u) ∧
 (¬ x2 < 1 → (¬ x2 = 0 ∧ ((¬ (10 - 10 / x2 * x2) = 0 → V_X7_setTenths_3 K n u x1 (x2 + (-1))) ∧
 ((10 - 10 / x2 * x2) = 0 → (¬ x2 = 0 ∧ ((¬ (x1 - x1 / x2 * x2) = 0 → V_X7_setTenths_3 K n u x1 (x2 + (-1))) ∧
 ((x1 - x1 / x2 * x2) = 0 → (¬ x2 = 0 ∧ (¬ x2 = 0 ∧ K (u.1, u.2.1, u.2.2.1, u.2.2.2.1, u.2.2.2.2.1, u.2.2.2.2.2.1, u.2.2.2.2.2.2.1, u.2.2.2.2.2.2.2.1, ((x1 / x2) : Int32).toInt64, ((10 / x2) : Int32).toInt64, u.2.2.2.2.2.2.2.2.2.2)))))))))))
set_option maxRecDepth 20000 in
set_option maxHeartbeats 4000000 in
theorem t_X7_setTenths_3 {a : Nat → Nat} {K : US → Prop} (C : bx_C p (rmD 0) S m args meth c cX7_setTenths 3 yX7_setTenths.cls none E A 0 0)   : ∀ (n : Nat) (u : US) (x1 : Int32) (x2 : Int32), V_X7_setTenths_3 K n u x1 x2 → G_X7_setTenths p l e S m args below meth c E A a  K 3 [(0, .ref (a 0)), (1, .int x1), (2, .int x2)] [] (w_U E a u) := by
  intro n
  induction n with
  | zero =>
    intro u x1 x2 hv
    exact False.elim hv
  | succ n ih =>
    intro u x1 x2 hv
    unfold V_X7_setTenths_3 at hv
    refine bx_iload_n C 4 dX7_setTenths_3 rfl rfl rfl ?_
    refine bx_iconst C 1 5 dX7_setTenths_4 ic_1 rfl ?_
    refine bx_icmp_lt C 45 8 dX7_setTenths_5 (by decide) rfl (fun h => ?_) (fun h => ?_)
    · replace hv := hv.1 h
      exact bx_vret C u rfl dX7_setTenths_45 rfl hv
    · replace hv := hv.2 h
      refine bx_bipush C 10 10 dX7_setTenths_8 bp_10 rfl ?_
      refine bx_iload_n C 11 dX7_setTenths_10 rfl rfl rfl ?_
      refine bx_irem C 12 dX7_setTenths_11 hv.1 rfl ?_
      replace hv := hv.2
      refine bx_if_ne C 39 15 dX7_setTenths_12 (by decide) rfl (fun h => ?_) (fun h => ?_)
      · replace hv := hv.1 h
        refine bx_iinc C (-1) 42 dX7_setTenths_39 rfl (by decide) ic_m1 rfl ?_
        refine bx_goto C 3 dX7_setTenths_42 (by decide) ?_
        exact bx_cut [1, 2, 0] (w_U E a u) rfl rfl (ih u x1 (x2 + (-1)) hv)
      · replace hv := hv.2 h
        refine bx_iload_n C 16 dX7_setTenths_15 rfl rfl rfl ?_
        refine bx_iload_n C 17 dX7_setTenths_16 rfl rfl rfl ?_
        refine bx_irem C 18 dX7_setTenths_17 hv.1 rfl ?_
        replace hv := hv.2
        refine bx_if_ne C 39 21 dX7_setTenths_18 (by decide) rfl (fun h => ?_) (fun h => ?_)
        · replace hv := hv.1 h
          refine bx_iinc C (-1) 42 dX7_setTenths_39 rfl (by decide) ic_m1 rfl ?_
          refine bx_goto C 3 dX7_setTenths_42 (by decide) ?_
          exact bx_cut [1, 2, 0] (w_U E a u) rfl rfl (ih u x1 (x2 + (-1)) hv)
        · replace hv := hv.2 h
          refine bx_aload_n C 22 dX7_setTenths_21 rfl rfl rfl ?_
          refine bx_iload_n C 23 dX7_setTenths_22 rfl rfl rfl ?_
          refine bx_iload_n C 24 dX7_setTenths_23 rfl rfl rfl ?_
          refine bx_idiv C 25 dX7_setTenths_24 hv.1 rfl ?_
          replace hv := hv.2
          refine bx_i2l C 26 dX7_setTenths_25 rfl ?_
          refine bx_putf C 29 0 7 (w_U E a (u.1, u.2.1, u.2.2.1, u.2.2.2.1, u.2.2.2.2.1, u.2.2.2.2.2.1, u.2.2.2.2.2.2.1, u.2.2.2.2.2.2.2.1, ((x1 / x2) : Int32).toInt64, u.2.2.2.2.2.2.2.2.2)) inX7 tyX7 tyX7_ok nmX7 rfl (by decide) fl_X7_261 rfl dX7_setTenths_26 rfl rfl rfl (Nat.le_of_ble_eq_true rfl) rfl rfl ?_
          refine bx_aload_n C 30 dX7_setTenths_29 rfl rfl rfl ?_
          refine bx_bipush C 10 32 dX7_setTenths_30 bp_10 rfl ?_
          refine bx_iload_n C 33 dX7_setTenths_32 rfl rfl rfl ?_
          refine bx_idiv C 34 dX7_setTenths_33 hv.1 rfl ?_
          replace hv := hv.2
          refine bx_i2l C 35 dX7_setTenths_34 rfl ?_
          refine bx_putf C 38 0 8 (w_U E a (u.1, u.2.1, u.2.2.1, u.2.2.2.1, u.2.2.2.2.1, u.2.2.2.2.2.1, u.2.2.2.2.2.2.1, u.2.2.2.2.2.2.2.1, ((x1 / x2) : Int32).toInt64, ((10 / x2) : Int32).toInt64, u.2.2.2.2.2.2.2.2.2.2)) inX7 tyX7 tyX7_ok nmX7 rfl (by decide) fl_X7_48 rfl dX7_setTenths_35 rfl rfl rfl (Nat.le_of_ble_eq_true rfl) rfl rfl ?_
          exact bx_vret C (u.1, u.2.1, u.2.2.1, u.2.2.2.1, u.2.2.2.2.1, u.2.2.2.2.2.1, u.2.2.2.2.2.2.1, u.2.2.2.2.2.2.2.1, ((x1 / x2) : Int32).toInt64, ((10 / x2) : Int32).toInt64, u.2.2.2.2.2.2.2.2.2.2) rfl dX7_setTenths_38 rfl hv
def V_X7_setTenths  (K : US → Prop)  (u : US) (x1 : Int32) : Prop := ∃ n1, V_X7_setTenths_3 K n1 u x1 10
set_option maxRecDepth 20000 in
set_option maxHeartbeats 4000000 in
theorem t_X7_setTenths_0 {a : Nat → Nat} {K : US → Prop} (C : bx_C p (rmD 0) S m args meth c cX7_setTenths 3 yX7_setTenths.cls none E A 0 0)   (u : US) (x1 : Int32) (hv : V_X7_setTenths K u x1) : G_X7_setTenths p l e S m args below meth c E A a  K 0 [(0, .ref (a 0)), (1, .int x1)] [] (w_U E a u) := by
  unfold V_X7_setTenths at hv
  refine bx_bipush C 10 2 dX7_setTenths_0 bp_10 rfl ?_
  refine bx_istore_n C 3 dX7_setTenths_2 rfl (by decide) rfl ?_
  obtain ⟨n1, hv⟩ := hv
  exact bx_cut [1, 2, 0] (w_U E a u) rfl rfl (t_X7_setTenths_3 C   n1 u x1 10 hv)
theorem k_X7_setTenths (l : Launch) (E : bx_E) (a : Nat → Nat)  (K : US → Prop) (u : US) (x1 : Int32) (hv : V_X7_setTenths  K u x1) : bx_Mv l E yX7_setTenths cX7_setTenths 3 none (rmD 0) [.ref (a 0), .int x1] (fun (u : US) => w_U E a u) u K :=
  bx_metv (by decide +kernel) (Nat.le_of_ble_eq_true rfl) (fun p e S m below meth c C => t_X7_setTenths_0 C u x1 hv)
abbrev G_X7_wet (p : Program) (l : Launch) (e : Env) (S : State) (m : MethodId) (args : Array Value) (below : List Frame) (meth : Method) (c : Code) (E : bx_E) (A : Nat → Prop) (a : Nat → Nat)  (K : Int32 → US → Prop) (pc : Nat) (lv : List (Nat × Value)) (st : List Value) (ws : va_W) : Prop := bx_S p l e (rmD 2) S m args below meth c 5 E A (MQ below (va_Qi K (fun (u : US) t => bx_B E A (w_U E a u) t) A) args S 0 0 A) 0 0 pc lv st ws
def V_X7_wet_20  (K : Int32 → US → Prop)  (u : US)  : Prop := (V_X7_refuseBad (fun r1 u2 => K r1 u2) u (-2))
set_option maxRecDepth 20000 in
set_option maxHeartbeats 4000000 in
theorem t_X7_wet_20 {a : Nat → Nat} {K : Int32 → US → Prop} (C : bx_C p (rmD 2) S m args meth c cX7_wet 5 yX7_wet.cls (some .int) E A 0 0)   (u : US)  (hv : V_X7_wet_20 K u ) : G_X7_wet p l e S m args below meth c E A a  K 20 [(0, .ref (a 0))] [] (w_U E a u) := by
  unfold V_X7_wet_20 at hv
  refine bx_aload_n C 21 dX7_wet_20 rfl rfl rfl ?_
  refine bx_bipush C (-2) 23 dX7_wet_21 bp_m2 rfl ?_
  refine bx_qVi C 0 at_U_0 rfl 26 fc_X7_63 (k_X7_refuseBad l E a _ _ _ hv) dX7_wet_23 ⟨rfl, rfl, Nat.le_of_ble_eq_true rfl, Nat.le_of_ble_eq_true rfl⟩ [0, 1, 2, 3, 4, 5, 6, 7, 8, 9, 10, 11, 12, 13, 14, 15, 16, 17, 18, 19, 20, 21, 22, 23, 24, 25, 26, 27, 28, 29, 30, 31, 32, 33, 34, 35, 36, 37, 38, 39, 40, 41, 42, 43, 44, 45, 46, 47, 48, 49, 50, 51, 52, 53, 54, 55, 56, 57, 58, 59, 60, 61, 62, 63, 64, 65, 66, 67, 68, 69, 70, 71, 72, 73] (fun u2 => w_U E a u2) ps_U_U_0 (by decide) ad_U pu_U_U_0 rfl rfl (Nat.le_of_ble_eq_true rfl) rfl (fun r1 u2 hv => ?_)
  exact bx_iret C u2 rfl dX7_wet_26 rfl hv
def V_X7_wet_72  (K : Int32 → US → Prop)  (u : US) (x1 : Int32) (x2 : Int32) (x3 : Int32) (z0 : Int32) : Prop := (V_X0_fussTo (fun r3 => (V_X0_fussTo (fun r4 => (V_X7_setTenths (fun u5 => K 1 u5) u (((10 - x2) * r3) + (x2 * r4)))) u.1 x1 z0)) u.1 x1 x3)
set_option maxRecDepth 20000 in
set_option maxHeartbeats 4000000 in
theorem t_X7_wet_72 {a : Nat → Nat} {K : Int32 → US → Prop} (C : bx_C p (rmD 2) S m args meth c cX7_wet 5 yX7_wet.cls (some .int) E A 0 0)   (u : US) (x1 : Int32) (x2 : Int32) (x3 : Int32) (z0 : Int32) (hv : V_X7_wet_72 K u x1 x2 x3 z0) : G_X7_wet p l e S m args below meth c E A a  K 72 [(0, .ref (a 0)), (1, .int x1), (2, .int x2), (3, .int x3)] [.int z0] (w_U E a u) := by
  unfold V_X7_wet_72 at hv
  refine bx_istore C 74 dX7_wet_72 (by decide) rfl ?_
  refine bx_aload_n C 75 dX7_wet_74 rfl rfl rfl ?_
  refine bx_bipush C 10 77 dX7_wet_75 bp_10 rfl ?_
  refine bx_iload_n C 78 dX7_wet_77 rfl rfl rfl ?_
  refine bx_isub C 79 dX7_wet_78 rfl ?_
  refine bx_aload_n C 80 dX7_wet_79 rfl rfl rfl ?_
  refine bx_getf (v := .ref (a 1)) C 83 0 0 inX7 rfl (by decide) fl_X7_10 dX7_wet_80 at_U_0 rfl rfl ?_
  refine bx_iload_n C 84 dX7_wet_83 rfl rfl rfl ?_
  refine bx_iload_n C 85 dX7_wet_84 rfl rfl rfl ?_
  refine bx_pVi C 1 at_U_1 rfl 88 fc_X7_169 (k_X0_fussTo l E (fun k => a (1 + k)) _ _ _ _ hv) dX7_wet_85 ⟨rfl, rfl, Nat.le_of_ble_eq_true rfl, Nat.le_of_ble_eq_true rfl⟩ [1, 2, 3, 4, 5, 6, 7, 8, 9, 10, 11, 12, 13] ps_U_H_1 (by decide) rfl rfl (Nat.le_of_ble_eq_true rfl) rfl (fun r3 hv => ?_)
  refine bx_imul C 89 dX7_wet_88 rfl ?_
  refine bx_iload_n C 90 dX7_wet_89 rfl rfl rfl ?_
  refine bx_aload_n C 91 dX7_wet_90 rfl rfl rfl ?_
  refine bx_getf (v := .ref (a 1)) C 94 0 0 inX7 rfl (by decide) fl_X7_10 dX7_wet_91 at_U_0 rfl rfl ?_
  refine bx_iload_n C 95 dX7_wet_94 rfl rfl rfl ?_
  refine bx_iload C 97 dX7_wet_95 rfl rfl ?_
  refine bx_pVi C 1 at_U_1 rfl 100 fc_X7_169 (k_X0_fussTo l E (fun k => a (1 + k)) _ _ _ _ hv) dX7_wet_97 ⟨rfl, rfl, Nat.le_of_ble_eq_true rfl, Nat.le_of_ble_eq_true rfl⟩ [1, 2, 3, 4, 5, 6, 7, 8, 9, 10, 11, 12, 13] ps_U_H_1 (by decide) rfl rfl (Nat.le_of_ble_eq_true rfl) rfl (fun r4 hv => ?_)
  refine bx_imul C 101 dX7_wet_100 rfl ?_
  refine bx_iadd C 102 dX7_wet_101 rfl ?_
  refine bx_qVv C 0 at_U_0 rfl 105 fc_X7_239 (k_X7_setTenths l E a _ _ _ hv) dX7_wet_102 ⟨rfl, rfl, Nat.le_of_ble_eq_true rfl, Nat.le_of_ble_eq_true rfl⟩ [0, 1, 2, 3, 4, 5, 6, 7, 8, 9, 10, 11, 12, 13, 14, 15, 16, 17, 18, 19, 20, 21, 22, 23, 24, 25, 26, 27, 28, 29, 30, 31, 32, 33, 34, 35, 36, 37, 38, 39, 40, 41, 42, 43, 44, 45, 46, 47, 48, 49, 50, 51, 52, 53, 54, 55, 56, 57, 58, 59, 60, 61, 62, 63, 64, 65, 66, 67, 68, 69, 70, 71, 72, 73] (fun u5 => w_U E a u5) ps_U_U_0 (by decide) ad_U pu_U_U_0 rfl rfl (Nat.le_of_ble_eq_true rfl) rfl (fun u5 hv => ?_)
  refine bx_iconst C 1 106 dX7_wet_105 ic_1 rfl ?_
  exact bx_iret C u5 rfl dX7_wet_106 rfl hv
def V_X7_wet  (K : Int32 → US → Prop)  (u : US) (x1 : Int32) (x2 : Int32) : Prop := (V_X0_isSoul (fun r6 => ((r6 = 0 → V_X7_wet_20 K u ) ∧
 (¬ r6 = 0 → (V_X7_within (fun r7 => ((¬ r7 = 0 → (V_X0_sits (fun r8 => ((r8 = 0 → (vp_in x1 7 ∧ ((30 ≤ ((u.1.2.2.1 (x1 : Int32).toNatClampNeg) + 6) → V_X7_wet_72 K u x1 x2 (u.1.2.2.1 (x1 : Int32).toNatClampNeg) (u.1.2.2.1 (x1 : Int32).toNatClampNeg)) ∧
 (¬ 30 ≤ ((u.1.2.2.1 (x1 : Int32).toNatClampNeg) + 6) → V_X7_wet_72 K u x1 x2 (u.1.2.2.1 (x1 : Int32).toNatClampNeg) ((u.1.2.2.1 (x1 : Int32).toNatClampNeg) + 6))))) ∧
 (¬ r8 = 0 → (V_X7_refuseNo (fun r9 u10 => K r9 u10) u (-3))))) u.1 x1)) ∧
 (r7 = 0 → V_X7_wet_20 K u )))  x2 11)))) u.1 x1)
set_option maxRecDepth 20000 in
set_option maxHeartbeats 4000000 in
theorem t_X7_wet_0 {a : Nat → Nat} {K : Int32 → US → Prop} (C : bx_C p (rmD 2) S m args meth c cX7_wet 5 yX7_wet.cls (some .int) E A 0 0)   (u : US) (x1 : Int32) (x2 : Int32) (hv : V_X7_wet K u x1 x2) : G_X7_wet p l e S m args below meth c E A a  K 0 [(0, .ref (a 0)), (1, .int x1), (2, .int x2)] [] (w_U E a u) := by
  unfold V_X7_wet at hv
  refine bx_aload_n C 1 dX7_wet_0 rfl rfl rfl ?_
  refine bx_getf (v := .ref (a 1)) C 4 0 0 inX7 rfl (by decide) fl_X7_10 dX7_wet_1 at_U_0 rfl rfl ?_
  refine bx_iload_n C 5 dX7_wet_4 rfl rfl rfl ?_
  refine bx_pVi C 1 at_U_1 rfl 8 fc_X7_106 (k_X0_isSoul l E (fun k => a (1 + k)) _ _ _ hv) dX7_wet_5 ⟨rfl, rfl, Nat.le_of_ble_eq_true rfl, Nat.le_of_ble_eq_true rfl⟩ [1, 2, 3, 4, 5, 6, 7, 8, 9, 10, 11, 12, 13] ps_U_H_1 (by decide) rfl rfl (Nat.le_of_ble_eq_true rfl) rfl (fun r6 hv => ?_)
  refine bx_if_eq C 20 11 dX7_wet_8 (by decide) rfl (fun h => ?_) (fun h => ?_)
  · replace hv := hv.1 h
    exact bx_cut [0] (w_U E a u) rfl rfl (t_X7_wet_20 C   u  hv)
  · replace hv := hv.2 h
    refine bx_iload_n C 12 dX7_wet_11 rfl rfl rfl ?_
    refine bx_bipush C 11 14 dX7_wet_12 bp_11 rfl ?_
    refine bx_pSi C 17 fc_X7_59 (k_X7_within l E  _ _ _ hv) dX7_wet_14 ⟨rfl, rfl, Nat.le_of_ble_eq_true rfl, Nat.le_of_ble_eq_true rfl⟩ [] rfl (by decide) rfl rfl (Nat.le_of_ble_eq_true rfl) rfl (fun r7 hv => ?_)
    refine bx_if_ne C 27 20 dX7_wet_17 (by decide) rfl (fun h => ?_) (fun h => ?_)
    · replace hv := hv.1 h
      refine bx_aload_n C 28 dX7_wet_27 rfl rfl rfl ?_
      refine bx_getf (v := .ref (a 1)) C 31 0 0 inX7 rfl (by decide) fl_X7_10 dX7_wet_28 at_U_0 rfl rfl ?_
      refine bx_iload_n C 32 dX7_wet_31 rfl rfl rfl ?_
      refine bx_pVi C 1 at_U_1 rfl 35 fc_X7_110 (k_X0_sits l E (fun k => a (1 + k)) _ _ _ hv) dX7_wet_32 ⟨rfl, rfl, Nat.le_of_ble_eq_true rfl, Nat.le_of_ble_eq_true rfl⟩ [1, 2, 3, 4, 5, 6, 7, 8, 9, 10, 11, 12, 13] ps_U_H_1 (by decide) rfl rfl (Nat.le_of_ble_eq_true rfl) rfl (fun r8 hv => ?_)
      refine bx_if_eq C 45 38 dX7_wet_35 (by decide) rfl (fun h => ?_) (fun h => ?_)
      · replace hv := hv.1 h
        refine bx_aload_n C 46 dX7_wet_45 rfl rfl rfl ?_
        refine bx_getf (v := .ref (a 1)) C 49 0 0 inX7 rfl (by decide) fl_X7_10 dX7_wet_46 at_U_0 rfl rfl ?_
        refine bx_getf (v := .ref (a 4)) C 52 1 2 inX0 rfl (by decide) fl_X7_157 dX7_wet_49 at_U_1 rfl rfl ?_
        refine bx_iload_n C 53 dX7_wet_52 rfl rfl rfl ?_
        refine bx_iald (f := u.1.2.2.1) C 54 4 dX7_wet_53 at_U_4 hv.1 rfl ?_
        replace hv := hv.2
        refine bx_istore_n C 55 dX7_wet_54 rfl (by decide) rfl ?_
        refine bx_iload_n C 56 dX7_wet_55 rfl rfl rfl ?_
        refine bx_bipush C 6 58 dX7_wet_56 bp_6 rfl ?_
        refine bx_iadd C 59 dX7_wet_58 rfl ?_
        refine bx_bipush C 30 61 dX7_wet_59 bp_30 rfl ?_
        refine bx_icmp_ge C 71 64 dX7_wet_61 (by decide) rfl (fun h => ?_) (fun h => ?_)
        · replace hv := hv.1 h
          refine bx_iload_n C 72 dX7_wet_71 rfl rfl rfl ?_
          exact bx_cut [1, 2, 3, 0] (w_U E a u) rfl rfl (t_X7_wet_72 C   u x1 x2 (u.1.2.2.1 (x1 : Int32).toNatClampNeg) (u.1.2.2.1 (x1 : Int32).toNatClampNeg) hv)
        · replace hv := hv.2 h
          refine bx_iload_n C 65 dX7_wet_64 rfl rfl rfl ?_
          refine bx_bipush C 6 67 dX7_wet_65 bp_6 rfl ?_
          refine bx_iadd C 68 dX7_wet_67 rfl ?_
          refine bx_goto C 72 dX7_wet_68 (by decide) ?_
          exact bx_cut [1, 2, 3, 0] (w_U E a u) rfl rfl (t_X7_wet_72 C   u x1 x2 (u.1.2.2.1 (x1 : Int32).toNatClampNeg) ((u.1.2.2.1 (x1 : Int32).toNatClampNeg) + 6) hv)
      · replace hv := hv.2 h
        refine bx_aload_n C 39 dX7_wet_38 rfl rfl rfl ?_
        refine bx_bipush C (-3) 41 dX7_wet_39 bp_m3 rfl ?_
        refine bx_qVi C 0 at_U_0 rfl 44 fc_X7_119 (k_X7_refuseNo l E a _ _ _ hv) dX7_wet_41 ⟨rfl, rfl, Nat.le_of_ble_eq_true rfl, Nat.le_of_ble_eq_true rfl⟩ [0, 1, 2, 3, 4, 5, 6, 7, 8, 9, 10, 11, 12, 13, 14, 15, 16, 17, 18, 19, 20, 21, 22, 23, 24, 25, 26, 27, 28, 29, 30, 31, 32, 33, 34, 35, 36, 37, 38, 39, 40, 41, 42, 43, 44, 45, 46, 47, 48, 49, 50, 51, 52, 53, 54, 55, 56, 57, 58, 59, 60, 61, 62, 63, 64, 65, 66, 67, 68, 69, 70, 71, 72, 73] (fun u10 => w_U E a u10) ps_U_U_0 (by decide) ad_U pu_U_U_0 rfl rfl (Nat.le_of_ble_eq_true rfl) rfl (fun r9 u10 hv => ?_)
        exact bx_iret C u10 rfl dX7_wet_44 rfl hv
    · replace hv := hv.2 h
      exact bx_cut [0] (w_U E a u) rfl rfl (t_X7_wet_20 C   u  hv)
theorem k_X7_wet (l : Launch) (E : bx_E) (a : Nat → Nat)  (K : Int32 → US → Prop) (u : US) (x1 : Int32) (x2 : Int32) (hv : V_X7_wet  K u x1 x2) : bx_Mi l E yX7_wet cX7_wet 5 (some .int) (rmD 2) [.ref (a 0), .int x1, .int x2] (fun (u : US) => w_U E a u) u K :=
  bx_meti (by decide +kernel) (Nat.le_of_ble_eq_true rfl) (fun p e S m below meth c C => t_X7_wet_0 C u x1 x2 hv)
abbrev G_X7_evenings (p : Program) (l : Launch) (e : Env) (S : State) (m : MethodId) (args : Array Value) (below : List Frame) (meth : Method) (c : Code) (E : bx_E) (A : Nat → Prop) (a : Nat → Nat)  (K : Int32 → US → Prop) (pc : Nat) (lv : List (Nat × Value)) (st : List Value) (ws : va_W) : Prop := bx_S p l e (rmD 4) S m args below meth c 7 E A (MQ below (va_Qi K (fun (u : US) t => bx_B E A (w_U E a u) t) A) args S 0 0 A) 0 0 pc lv st ws
def V_X7_evenings_18  (K : Int32 → US → Prop)  (u : US)  : Prop := (V_X7_refuseBad (fun r1 u2 => K r1 u2) u (-2))
set_option maxRecDepth 20000 in
set_option maxHeartbeats 4000000 in
theorem t_X7_evenings_18 {a : Nat → Nat} {K : Int32 → US → Prop} (C : bx_C p (rmD 4) S m args meth c cX7_evenings 7 yX7_evenings.cls (some .int) E A 0 0)   (u : US)  (hv : V_X7_evenings_18 K u ) : G_X7_evenings p l e S m args below meth c E A a  K 18 [(0, .ref (a 0))] [] (w_U E a u) := by
  unfold V_X7_evenings_18 at hv
  refine bx_aload_n C 19 dX7_evenings_18 rfl rfl rfl ?_
  refine bx_bipush C (-2) 21 dX7_evenings_19 bp_m2 rfl ?_
  refine bx_qVi C 0 at_U_0 rfl 24 fc_X7_63 (k_X7_refuseBad l E a _ _ _ hv) dX7_evenings_21 ⟨rfl, rfl, Nat.le_of_ble_eq_true rfl, Nat.le_of_ble_eq_true rfl⟩ [0, 1, 2, 3, 4, 5, 6, 7, 8, 9, 10, 11, 12, 13, 14, 15, 16, 17, 18, 19, 20, 21, 22, 23, 24, 25, 26, 27, 28, 29, 30, 31, 32, 33, 34, 35, 36, 37, 38, 39, 40, 41, 42, 43, 44, 45, 46, 47, 48, 49, 50, 51, 52, 53, 54, 55, 56, 57, 58, 59, 60, 61, 62, 63, 64, 65, 66, 67, 68, 69, 70, 71, 72, 73] (fun u2 => w_U E a u2) ps_U_U_0 (by decide) ad_U pu_U_U_0 rfl rfl (Nat.le_of_ble_eq_true rfl) rfl (fun r1 u2 hv => ?_)
  exact bx_iret C u2 rfl dX7_evenings_24 rfl hv
def V_X7_evenings_45  (K : Int32 → US → Prop)  : Nat → US → Int32 → Int64 → Int32 → Int32 → Prop
  | 0, _, _, _, _, _ => False
  | n + 1, u, x2, x3, x5, x6 => ((x2 ≤ x6 → K x5 u) ∧
 (¬ x2 ≤ x6 → (V_X0_liveThrough (fun r3 u4 => V_X7_evenings_45 K n (u.1, u4, u.2.2) x2 (((x3 * 1103515245) + 12345) - ((x3 * 1103515245) + 12345) / 2147483648 * 2147483648) (x5 + r3) (x6 + 1)) u.2.1 (((((((x3 * 1103515245) + 12345) - ((x3 * 1103515245) + 12345) / 2147483648 * 2147483648) / 65536) - ((((x3 * 1103515245) + 12345) - ((x3 * 1103515245) + 12345) / 2147483648 * 2147483648) / 65536) / 7 * 7) : Int64).toInt32) (((((((x3 * 1103515245) + 12345) - ((x3 * 1103515245) + 12345) / 2147483648 * 2147483648) / 1048576) - ((((x3 * 1103515245) + 12345) - ((x3 * 1103515245) + 12345) / 2147483648 * 2147483648) / 1048576) / 30 * 30) : Int64).toInt32))))
set_option maxRecDepth 20000 in
set_option maxHeartbeats 4000000 in
theorem t_X7_evenings_45 {a : Nat → Nat} {K : Int32 → US → Prop} (C : bx_C p (rmD 4) S m args meth c cX7_evenings 7 yX7_evenings.cls (some .int) E A 0 0)   : ∀ (n : Nat) (u : US) (x2 : Int32) (x3 : Int64) (x5 : Int32) (x6 : Int32), V_X7_evenings_45 K n u x2 x3 x5 x6 → G_X7_evenings p l e S m args below meth c E A a  K 45 [(0, .ref (a 0)), (2, .int x2), (3, .long x3), (5, .int x5), (6, .int x6)] [] (w_U E a u) := by
  intro n
  induction n with
  | zero =>
    intro u x2 x3 x5 x6 hv
    exact False.elim hv
  | succ n ih =>
    intro u x2 x3 x5 x6 hv
    unfold V_X7_evenings_45 at hv
    refine bx_iload C 47 dX7_evenings_45 rfl rfl ?_
    refine bx_iload_n C 48 dX7_evenings_47 rfl rfl rfl ?_
    refine bx_icmp_ge C 103 51 dX7_evenings_48 (by decide) rfl (fun h => ?_) (fun h => ?_)
    · replace hv := hv.1 h
      refine bx_iload C 105 dX7_evenings_103 rfl rfl ?_
      exact bx_iret C u rfl dX7_evenings_105 rfl hv
    · replace hv := hv.2 h
      refine bx_lload_n C 52 dX7_evenings_51 rfl rfl rfl ?_
      refine bx_ldc2 C 55 cs_X7_244 dX7_evenings_52 rfl ?_
      refine bx_lmul C 56 dX7_evenings_55 rfl ?_
      refine bx_ldc2 C 59 cs_X7_246 dX7_evenings_56 rfl ?_
      refine bx_ladd C 60 dX7_evenings_59 rfl ?_
      refine bx_ldc2 C 63 cs_X7_248 dX7_evenings_60 rfl ?_
      refine bx_lrem C 64 dX7_evenings_63 nz64_2147483648 rfl ?_
      refine bx_lstore_n C 65 dX7_evenings_64 rfl (by decide) rfl ?_
      refine bx_iload C 67 dX7_evenings_65 rfl rfl ?_
      refine bx_aload_n C 68 dX7_evenings_67 rfl rfl rfl ?_
      refine bx_getf (v := .ref (a 14)) C 71 0 1 inX7 rfl (by decide) fl_X7_16 dX7_evenings_68 at_U_0 rfl rfl ?_
      refine bx_lload_n C 72 dX7_evenings_71 rfl rfl rfl ?_
      refine bx_ldc2 C 75 cs_X7_250 dX7_evenings_72 rfl ?_
      refine bx_ldiv C 76 dX7_evenings_75 nz64_65536 rfl ?_
      refine bx_ldc2 C 79 cs_X7_252 dX7_evenings_76 rfl ?_
      refine bx_lrem C 80 dX7_evenings_79 nz64_7 rfl ?_
      refine bx_l2i C 81 dX7_evenings_80 rfl ?_
      refine bx_lload_n C 82 dX7_evenings_81 rfl rfl rfl ?_
      refine bx_ldc2 C 85 cs_X7_254 dX7_evenings_82 rfl ?_
      refine bx_ldiv C 86 dX7_evenings_85 nz64_1048576 rfl ?_
      refine bx_ldc2 C 89 cs_X7_256 dX7_evenings_86 rfl ?_
      refine bx_lrem C 90 dX7_evenings_89 nz64_30 rfl ?_
      refine bx_l2i C 91 dX7_evenings_90 rfl ?_
      refine bx_qVi C 14 at_U_14 rfl 94 fc_X7_258 (k_X0_liveThrough l E (fun k => a (14 + k)) _ _ _ _ hv) dX7_evenings_91 ⟨rfl, rfl, Nat.le_of_ble_eq_true rfl, Nat.le_of_ble_eq_true rfl⟩ [14, 15, 16, 17, 18, 19, 20, 21, 22, 23, 24, 25, 26] (fun u4 => w_U E a (u.1, u4, u.2.2)) ps_U_H_14 (by decide) ad_H pu_U_H_14 rfl rfl (Nat.le_of_ble_eq_true rfl) rfl (fun r3 u4 hv => ?_)
      refine bx_iadd C 95 dX7_evenings_94 rfl ?_
      refine bx_istore C 97 dX7_evenings_95 (by decide) rfl ?_
      refine bx_iinc C 1 100 dX7_evenings_97 rfl (by decide) ic_1 rfl ?_
      refine bx_goto C 45 dX7_evenings_100 (by decide) ?_
      exact bx_cut [3, 4, 2, 1, 0] (w_U E a (u.1, u4, u.2.2)) rfl rfl (ih (u.1, u4, u.2.2) x2 (((x3 * 1103515245) + 12345) - ((x3 * 1103515245) + 12345) / 2147483648 * 2147483648) (x5 + r3) (x6 + 1) hv)
def V_X7_evenings  (K : Int32 → US → Prop)  (u : US) (x1 : Int32) (x2 : Int32) : Prop := (V_X7_within (fun r5 => ((r5 = 0 → V_X7_evenings_18 K u ) ∧
 (¬ r5 = 0 → (V_X7_within (fun r6 => ((¬ r6 = 0 → (V_X0_takeFrom (fun u7 => ∃ n8, V_X7_evenings_45 K n8 (u7.2, u7.1, u.2.2) x2 ((x1 : Int32).toInt64) 0 0) (u.2.1, u.1) )) ∧
 (r6 = 0 → V_X7_evenings_18 K u )))  x2 61))))  x1 1000000)
set_option maxRecDepth 20000 in
set_option maxHeartbeats 4000000 in
theorem t_X7_evenings_0 {a : Nat → Nat} {K : Int32 → US → Prop} (C : bx_C p (rmD 4) S m args meth c cX7_evenings 7 yX7_evenings.cls (some .int) E A 0 0)   (u : US) (x1 : Int32) (x2 : Int32) (hv : V_X7_evenings K u x1 x2) : G_X7_evenings p l e S m args below meth c E A a  K 0 [(0, .ref (a 0)), (1, .int x1), (2, .int x2)] [] (w_U E a u) := by
  unfold V_X7_evenings at hv
  refine bx_iload_n C 1 dX7_evenings_0 rfl rfl rfl ?_
  refine bx_ldc C 3 cs_X7_243 dX7_evenings_1 rfl ?_
  refine bx_pSi C 6 fc_X7_59 (k_X7_within l E  _ _ _ hv) dX7_evenings_3 ⟨rfl, rfl, Nat.le_of_ble_eq_true rfl, Nat.le_of_ble_eq_true rfl⟩ [] rfl (by decide) rfl rfl (Nat.le_of_ble_eq_true rfl) rfl (fun r5 hv => ?_)
  refine bx_if_eq C 18 9 dX7_evenings_6 (by decide) rfl (fun h => ?_) (fun h => ?_)
  · replace hv := hv.1 h
    exact bx_cut [0] (w_U E a u) rfl rfl (t_X7_evenings_18 C   u  hv)
  · replace hv := hv.2 h
    refine bx_iload_n C 10 dX7_evenings_9 rfl rfl rfl ?_
    refine bx_bipush C 61 12 dX7_evenings_10 bp_61 rfl ?_
    refine bx_pSi C 15 fc_X7_59 (k_X7_within l E  _ _ _ hv) dX7_evenings_12 ⟨rfl, rfl, Nat.le_of_ble_eq_true rfl, Nat.le_of_ble_eq_true rfl⟩ [] rfl (by decide) rfl rfl (Nat.le_of_ble_eq_true rfl) rfl (fun r6 hv => ?_)
    refine bx_if_ne C 25 18 dX7_evenings_15 (by decide) rfl (fun h => ?_) (fun h => ?_)
    · replace hv := hv.1 h
      refine bx_aload_n C 26 dX7_evenings_25 rfl rfl rfl ?_
      refine bx_getf (v := .ref (a 14)) C 29 0 1 inX7 rfl (by decide) fl_X7_16 dX7_evenings_26 at_U_0 rfl rfl ?_
      refine bx_aload_n C 30 dX7_evenings_29 rfl rfl rfl ?_
      refine bx_getf (v := .ref (a 1)) C 33 0 0 inX7 rfl (by decide) fl_X7_10 dX7_evenings_30 at_U_0 rfl rfl ?_
      refine bx_qVv C 14 at_U_14 rfl 36 fc_X7_102 (k_X0_takeFrom l E (fun k => a (14 + k)) (fun k => a (1 + k)) _ _ hv) dX7_evenings_33 ⟨rfl, rfl, Nat.le_of_ble_eq_true rfl, Nat.le_of_ble_eq_true rfl⟩ [14, 15, 16, 17, 18, 19, 20, 21, 22, 23, 24, 25, 26, 1, 2, 3, 4, 5, 6, 7, 8, 9, 10, 11, 12, 13] (fun u7 => w_U E a (u7.2, u7.1, u.2.2)) ps_U_HH_14_1 (by decide) ad_HH pu_U_HH_14_1 rfl rfl (Nat.le_of_ble_eq_true rfl) rfl (fun u7 hv => ?_)
      refine bx_iload_n C 37 dX7_evenings_36 rfl rfl rfl ?_
      refine bx_i2l C 38 dX7_evenings_37 rfl ?_
      refine bx_lstore_n C 39 dX7_evenings_38 rfl (by decide) rfl ?_
      refine bx_iconst C 0 40 dX7_evenings_39 ic_0 rfl ?_
      refine bx_istore C 42 dX7_evenings_40 (by decide) rfl ?_
      refine bx_iconst C 0 43 dX7_evenings_42 ic_0 rfl ?_
      refine bx_istore C 45 dX7_evenings_43 (by decide) rfl ?_
      obtain ⟨n8, hv⟩ := hv
      exact bx_cut [3, 5, 2, 1, 0] (w_U E a (u7.2, u7.1, u.2.2)) rfl rfl (t_X7_evenings_45 C   n8 (u7.2, u7.1, u.2.2) x2 ((x1 : Int32).toInt64) 0 0 hv)
    · replace hv := hv.2 h
      exact bx_cut [0] (w_U E a u) rfl rfl (t_X7_evenings_18 C   u  hv)
theorem k_X7_evenings (l : Launch) (E : bx_E) (a : Nat → Nat)  (K : Int32 → US → Prop) (u : US) (x1 : Int32) (x2 : Int32) (hv : V_X7_evenings  K u x1 x2) : bx_Mi l E yX7_evenings cX7_evenings 7 (some .int) (rmD 4) [.ref (a 0), .int x1, .int x2] (fun (u : US) => w_U E a u) u K :=
  bx_meti (by decide +kernel) (Nat.le_of_ble_eq_true rfl) (fun p e S m below meth c C => t_X7_evenings_0 C u x1 x2 hv)
abbrev G_X7_part (p : Program) (l : Launch) (e : Env) (S : State) (m : MethodId) (args : Array Value) (below : List Frame) (meth : Method) (c : Code) (E : bx_E) (A : Nat → Prop) (a : Nat → Nat)  (K : Int64 → US → Prop) (pc : Nat) (lv : List (Nat × Value)) (st : List Value) (ws : va_W) : Prop := bx_S p l e (rmD 1) S m args below meth c 2 E A (MQ below (va_Ql K (fun (u : US) t => bx_B E A (w_U E a u) t) A) args S 0 0 A) 0 0 pc lv st ws
def V_X7_part  (K : Int64 → US → Prop)  (u : US) (x1 : Int32) : Prop := ((x1 = 0 → K u.2.2.2.2.2.2.2.2.1 u) ∧
 (x1 = 1 → K u.2.2.2.2.2.2.2.2.2.1 u) ∧
 (¬ x1 = 0 ∧ ¬ x1 = 1 → (V_X7_refuseBad (fun r1 u2 => K ((r1 : Int32).toInt64) u2) u (-2))))
set_option maxRecDepth 20000 in
set_option maxHeartbeats 4000000 in
theorem t_X7_part_0 {a : Nat → Nat} {K : Int64 → US → Prop} (C : bx_C p (rmD 1) S m args meth c cX7_part 2 yX7_part.cls (some .long) E A 0 0)   (u : US) (x1 : Int32) (hv : V_X7_part K u x1) : G_X7_part p l e S m args below meth c E A a  K 0 [(0, .ref (a 0)), (1, .int x1)] [] (w_U E a u) := by
  unfold V_X7_part at hv
  refine bx_iload_n C 1 dX7_part_0 rfl rfl rfl ?_
  by_cases h0 : x1 = 0
  · replace hv := hv.1 h0
    refine bx_lin C 28 0 dX7_part_1 h0 rfl (off := 27) (by decide) (by decide) ?_
    refine bx_aload_n C 29 dX7_part_28 rfl rfl rfl ?_
    refine bx_getf (v := .long u.2.2.2.2.2.2.2.2.1) C 32 0 7 inX7 rfl (by decide) fl_X7_261 dX7_part_29 at_U_0 rfl rfl ?_
    exact bx_lret C u rfl dX7_part_32 rfl hv
  by_cases h1 : x1 = 1
  · replace hv := hv.2.1 h1
    refine bx_lin C 33 1 dX7_part_1 h1 rfl (off := 32) (by decide) (by decide) ?_
    refine bx_aload_n C 34 dX7_part_33 rfl rfl rfl ?_
    refine bx_getf (v := .long u.2.2.2.2.2.2.2.2.2.1) C 37 0 8 inX7 rfl (by decide) fl_X7_48 dX7_part_34 at_U_0 rfl rfl ?_
    exact bx_lret C u rfl dX7_part_37 rfl hv
  replace hv := hv.2.2 ⟨h0, h1⟩
  refine bx_lout C 38 dX7_part_1 h0 h1 (by decide) ?_
  refine bx_aload_n C 39 dX7_part_38 rfl rfl rfl ?_
  refine bx_bipush C (-2) 41 dX7_part_39 bp_m2 rfl ?_
  refine bx_qVi C 0 at_U_0 rfl 44 fc_X7_63 (k_X7_refuseBad l E a _ _ _ hv) dX7_part_41 ⟨rfl, rfl, Nat.le_of_ble_eq_true rfl, Nat.le_of_ble_eq_true rfl⟩ [0, 1, 2, 3, 4, 5, 6, 7, 8, 9, 10, 11, 12, 13, 14, 15, 16, 17, 18, 19, 20, 21, 22, 23, 24, 25, 26, 27, 28, 29, 30, 31, 32, 33, 34, 35, 36, 37, 38, 39, 40, 41, 42, 43, 44, 45, 46, 47, 48, 49, 50, 51, 52, 53, 54, 55, 56, 57, 58, 59, 60, 61, 62, 63, 64, 65, 66, 67, 68, 69, 70, 71, 72, 73] (fun u2 => w_U E a u2) ps_U_U_0 (by decide) ad_U pu_U_U_0 rfl rfl (Nat.le_of_ble_eq_true rfl) rfl (fun r1 u2 hv => ?_)
  refine bx_i2l C 45 dX7_part_44 rfl ?_
  exact bx_lret C u2 rfl dX7_part_45 rfl hv
theorem k_X7_part (l : Launch) (E : bx_E) (a : Nat → Nat)  (K : Int64 → US → Prop) (u : US) (x1 : Int32) (hv : V_X7_part  K u x1) : bx_Ml l E yX7_part cX7_part 2 (some .long) (rmD 1) [.ref (a 0), .int x1] (fun (u : US) => w_U E a u) u K :=
  bx_metl (by decide +kernel) (Nat.le_of_ble_eq_true rfl) (fun p e S m below meth c C => t_X7_part_0 C u x1 hv)
abbrev G_X7_image (p : Program) (l : Launch) (e : Env) (S : State) (m : MethodId) (args : Array Value) (below : List Frame) (meth : Method) (c : Code) (E : bx_E) (A : Nat → Prop) (a : Nat → Nat)  (K : Int32 → US → Prop) (pc : Nat) (lv : List (Nat × Value)) (st : List Value) (ws : va_W) : Prop := bx_S p l e (rmD 3) S m args below meth c 2 E A (MQ below (va_Qi K (fun (u : US) t => bx_B E A (w_U E a u) t) A) args S 0 0 A) 0 0 pc lv st ws
def V_X7_image  (K : Int32 → US → Prop)  (u : US) (x1 : Int32) : Prop := (V_X7_within (fun r1 => ((¬ r1 = 0 → ((x1 = 0 ∨ x1 = 1) ∧ (x1 = 0 → (V_X0_takeFrom (fun u2 => (vp_in x1 2 ∧ K 1 (u2.2, u.2.1, u2.1, u.2.2.2.1, (upd u.2.2.2.2.1 (x1 : Int32).toNatClampNeg (vp_nar .boolean 1)), u.2.2.2.2.2))) (u.2.2.1, u.1) )) ∧
 (x1 = 1 → (V_X0_takeFrom (fun u3 => (vp_in x1 2 ∧ K 1 (u3.2, u.2.1, u.2.2.1, u3.1, (upd u.2.2.2.2.1 (x1 : Int32).toNatClampNeg (vp_nar .boolean 1)), u.2.2.2.2.2))) (u.2.2.2.1, u.1) )))) ∧
 (r1 = 0 → (V_X7_refuseBad (fun r4 u5 => K r4 u5) u (-2)))))  x1 2)
set_option maxRecDepth 20000 in
set_option maxHeartbeats 4000000 in
theorem t_X7_image_0 {a : Nat → Nat} {K : Int32 → US → Prop} (C : bx_C p (rmD 3) S m args meth c cX7_image 2 yX7_image.cls (some .int) E A 0 0)   (u : US) (x1 : Int32) (hv : V_X7_image K u x1) : G_X7_image p l e S m args below meth c E A a  K 0 [(0, .ref (a 0)), (1, .int x1)] [] (w_U E a u) := by
  unfold V_X7_image at hv
  refine bx_iload_n C 1 dX7_image_0 rfl rfl rfl ?_
  refine bx_aload_n C 2 dX7_image_1 rfl rfl rfl ?_
  refine bx_getf (v := .ref (a 27)) C 5 0 2 inX7 rfl (by decide) fl_X7_19 dX7_image_2 at_U_0 rfl rfl ?_
  refine bx_alen (t0 := 3) C 6 27 dX7_image_5 rfl rfl al_2 rfl ?_
  refine bx_pSi C 9 fc_X7_59 (k_X7_within l E  _ _ _ hv) dX7_image_6 ⟨rfl, rfl, Nat.le_of_ble_eq_true rfl, Nat.le_of_ble_eq_true rfl⟩ [] rfl (by decide) rfl rfl (Nat.le_of_ble_eq_true rfl) rfl (fun r1 hv => ?_)
  refine bx_if_ne C 19 12 dX7_image_9 (by decide) rfl (fun h => ?_) (fun h => ?_)
  · replace hv := hv.1 h
    refine bx_aload_n C 20 dX7_image_19 rfl rfl rfl ?_
    refine bx_getf (v := .ref (a 27)) C 23 0 2 inX7 rfl (by decide) fl_X7_19 dX7_image_20 at_U_0 rfl rfl ?_
    refine bx_iload_n C 24 dX7_image_23 rfl rfl rfl ?_
    rcases hv.1 with h | h
    · replace hv := hv.2.1 h
      refine bx_aald C 25 27 dX7_image_24 rfl (by rw [h]; exact vin_0_2) (by rw [h]; rfl) rfl ?_
      refine bx_aload_n C 26 dX7_image_25 rfl rfl rfl ?_
      refine bx_getf (v := .ref (a 1)) C 29 0 0 inX7 rfl (by decide) fl_X7_10 dX7_image_26 at_U_0 rfl rfl ?_
      refine bx_qVv C 28 at_U_28 rfl 32 fc_X7_102 (k_X0_takeFrom l E (fun k => a (28 + k)) (fun k => a (1 + k)) _ _ hv) dX7_image_29 ⟨rfl, rfl, Nat.le_of_ble_eq_true rfl, Nat.le_of_ble_eq_true rfl⟩ [28, 29, 30, 31, 32, 33, 34, 35, 36, 37, 38, 39, 40, 1, 2, 3, 4, 5, 6, 7, 8, 9, 10, 11, 12, 13] (fun u2 => w_U E a (u2.2, u.2.1, u2.1, u.2.2.2)) ps_U_HH_28_1 (by decide) ad_HH pu_U_HH_28_1 rfl rfl (Nat.le_of_ble_eq_true rfl) rfl (fun u2 hv => ?_)
      refine bx_aload_n C 33 dX7_image_32 rfl rfl rfl ?_
      refine bx_getf (v := .ref (a 54)) C 36 0 3 inX7 rfl (by decide) fl_X7_23 dX7_image_33 at_U_0 rfl rfl ?_
      refine bx_iload_n C 37 dX7_image_36 rfl rfl rfl ?_
      refine bx_iconst C 1 38 dX7_image_37 ic_1 rfl ?_
      refine bx_zast C 39 54 (w_U E a (u2.2, u.2.1, u2.1, u.2.2.2.1, (upd u.2.2.2.2.1 (x1 : Int32).toNatClampNeg (vp_nar .boolean 1)), u.2.2.2.2.2)) dX7_image_38 rfl hv.1 rfl rfl ?_
      replace hv := hv.2
      refine bx_iconst C 1 40 dX7_image_39 ic_1 rfl ?_
      exact bx_iret C (u2.2, u.2.1, u2.1, u.2.2.2.1, (upd u.2.2.2.2.1 (x1 : Int32).toNatClampNeg (vp_nar .boolean 1)), u.2.2.2.2.2) rfl dX7_image_40 rfl hv
    · replace hv := hv.2.2 h
      refine bx_aald C 25 27 dX7_image_24 rfl (by rw [h]; exact vin_1_2) (by rw [h]; rfl) rfl ?_
      refine bx_aload_n C 26 dX7_image_25 rfl rfl rfl ?_
      refine bx_getf (v := .ref (a 1)) C 29 0 0 inX7 rfl (by decide) fl_X7_10 dX7_image_26 at_U_0 rfl rfl ?_
      refine bx_qVv C 41 at_U_41 rfl 32 fc_X7_102 (k_X0_takeFrom l E (fun k => a (41 + k)) (fun k => a (1 + k)) _ _ hv) dX7_image_29 ⟨rfl, rfl, Nat.le_of_ble_eq_true rfl, Nat.le_of_ble_eq_true rfl⟩ [41, 42, 43, 44, 45, 46, 47, 48, 49, 50, 51, 52, 53, 1, 2, 3, 4, 5, 6, 7, 8, 9, 10, 11, 12, 13] (fun u3 => w_U E a (u3.2, u.2.1, u.2.2.1, u3.1, u.2.2.2.2)) ps_U_HH_41_1 (by decide) ad_HH pu_U_HH_41_1 rfl rfl (Nat.le_of_ble_eq_true rfl) rfl (fun u3 hv => ?_)
      refine bx_aload_n C 33 dX7_image_32 rfl rfl rfl ?_
      refine bx_getf (v := .ref (a 54)) C 36 0 3 inX7 rfl (by decide) fl_X7_23 dX7_image_33 at_U_0 rfl rfl ?_
      refine bx_iload_n C 37 dX7_image_36 rfl rfl rfl ?_
      refine bx_iconst C 1 38 dX7_image_37 ic_1 rfl ?_
      refine bx_zast C 39 54 (w_U E a (u3.2, u.2.1, u.2.2.1, u3.1, (upd u.2.2.2.2.1 (x1 : Int32).toNatClampNeg (vp_nar .boolean 1)), u.2.2.2.2.2)) dX7_image_38 rfl hv.1 rfl rfl ?_
      replace hv := hv.2
      refine bx_iconst C 1 40 dX7_image_39 ic_1 rfl ?_
      exact bx_iret C (u3.2, u.2.1, u.2.2.1, u3.1, (upd u.2.2.2.2.1 (x1 : Int32).toNatClampNeg (vp_nar .boolean 1)), u.2.2.2.2.2) rfl dX7_image_40 rfl hv
  · replace hv := hv.2 h
    refine bx_aload_n C 13 dX7_image_12 rfl rfl rfl ?_
    refine bx_bipush C (-2) 15 dX7_image_13 bp_m2 rfl ?_
    refine bx_qVi C 0 at_U_0 rfl 18 fc_X7_63 (k_X7_refuseBad l E a _ _ _ hv) dX7_image_15 ⟨rfl, rfl, Nat.le_of_ble_eq_true rfl, Nat.le_of_ble_eq_true rfl⟩ [0, 1, 2, 3, 4, 5, 6, 7, 8, 9, 10, 11, 12, 13, 14, 15, 16, 17, 18, 19, 20, 21, 22, 23, 24, 25, 26, 27, 28, 29, 30, 31, 32, 33, 34, 35, 36, 37, 38, 39, 40, 41, 42, 43, 44, 45, 46, 47, 48, 49, 50, 51, 52, 53, 54, 55, 56, 57, 58, 59, 60, 61, 62, 63, 64, 65, 66, 67, 68, 69, 70, 71, 72, 73] (fun u5 => w_U E a u5) ps_U_U_0 (by decide) ad_U pu_U_U_0 rfl rfl (Nat.le_of_ble_eq_true rfl) rfl (fun r4 u5 hv => ?_)
    exact bx_iret C u5 rfl dX7_image_18 rfl hv
theorem k_X7_image (l : Launch) (E : bx_E) (a : Nat → Nat)  (K : Int32 → US → Prop) (u : US) (x1 : Int32) (hv : V_X7_image  K u x1) : bx_Mi l E yX7_image cX7_image 2 (some .int) (rmD 3) [.ref (a 0), .int x1] (fun (u : US) => w_U E a u) u K :=
  bx_meti (by decide +kernel) (Nat.le_of_ble_eq_true rfl) (fun p e S m below meth c C => t_X7_image_0 C u x1 hv)
abbrev G_X7_from (p : Program) (l : Launch) (e : Env) (S : State) (m : MethodId) (args : Array Value) (below : List Frame) (meth : Method) (c : Code) (E : bx_E) (A : Nat → Prop) (a : Nat → Nat)  (K : Int32 → US → Prop) (pc : Nat) (lv : List (Nat × Value)) (st : List Value) (ws : va_W) : Prop := bx_S p l e (rmD 3) S m args below meth c 2 E A (MQ below (va_Qi K (fun (u : US) t => bx_B E A (w_U E a u) t) A) args S 0 0 A) 0 0 pc lv st ws
def V_X7_from  (K : Int32 → US → Prop)  (u : US) (x1 : Int32) : Prop := (V_X7_within (fun r1 => ((¬ r1 = 0 → (vp_in x1 2 ∧ ((¬ (u.2.2.2.2.1 (x1 : Int32).toNatClampNeg) = 0 → ((x1 = 0 ∨ x1 = 1) ∧ (x1 = 0 → (V_X0_takeFrom (fun u2 => K 1 (u2.1, u.2.1, u2.2, u.2.2.2)) (u.1, u.2.2.1) )) ∧
 (x1 = 1 → (V_X0_takeFrom (fun u3 => K 1 (u3.1, u.2.1, u.2.2.1, u3.2, u.2.2.2.2)) (u.1, u.2.2.2.1) )))) ∧
 ((u.2.2.2.2.1 (x1 : Int32).toNatClampNeg) = 0 → (V_X7_refuseNo (fun r4 u5 => K r4 u5) u (-3)))))) ∧
 (r1 = 0 → (V_X7_refuseBad (fun r6 u7 => K r6 u7) u (-2)))))  x1 2)
set_option maxRecDepth 20000 in
set_option maxHeartbeats 4000000 in
theorem t_X7_from_0 {a : Nat → Nat} {K : Int32 → US → Prop} (C : bx_C p (rmD 3) S m args meth c cX7_from 2 yX7_from.cls (some .int) E A 0 0)   (u : US) (x1 : Int32) (hv : V_X7_from K u x1) : G_X7_from p l e S m args below meth c E A a  K 0 [(0, .ref (a 0)), (1, .int x1)] [] (w_U E a u) := by
  unfold V_X7_from at hv
  refine bx_iload_n C 1 dX7_from_0 rfl rfl rfl ?_
  refine bx_aload_n C 2 dX7_from_1 rfl rfl rfl ?_
  refine bx_getf (v := .ref (a 27)) C 5 0 2 inX7 rfl (by decide) fl_X7_19 dX7_from_2 at_U_0 rfl rfl ?_
  refine bx_alen (t0 := 3) C 6 27 dX7_from_5 rfl rfl al_2 rfl ?_
  refine bx_pSi C 9 fc_X7_59 (k_X7_within l E  _ _ _ hv) dX7_from_6 ⟨rfl, rfl, Nat.le_of_ble_eq_true rfl, Nat.le_of_ble_eq_true rfl⟩ [] rfl (by decide) rfl rfl (Nat.le_of_ble_eq_true rfl) rfl (fun r1 hv => ?_)
  refine bx_if_ne C 19 12 dX7_from_9 (by decide) rfl (fun h => ?_) (fun h => ?_)
  · replace hv := hv.1 h
    refine bx_aload_n C 20 dX7_from_19 rfl rfl rfl ?_
    refine bx_getf (v := .ref (a 54)) C 23 0 3 inX7 rfl (by decide) fl_X7_23 dX7_from_20 at_U_0 rfl rfl ?_
    refine bx_iload_n C 24 dX7_from_23 rfl rfl rfl ?_
    refine bx_zald (f := u.2.2.2.2.1) C 25 54 dX7_from_24 at_U_54 hv.1 rfl ?_
    replace hv := hv.2
    refine bx_if_ne C 35 28 dX7_from_25 (by decide) rfl (fun h => ?_) (fun h => ?_)
    · replace hv := hv.1 h
      refine bx_aload_n C 36 dX7_from_35 rfl rfl rfl ?_
      refine bx_getf (v := .ref (a 1)) C 39 0 0 inX7 rfl (by decide) fl_X7_10 dX7_from_36 at_U_0 rfl rfl ?_
      refine bx_aload_n C 40 dX7_from_39 rfl rfl rfl ?_
      refine bx_getf (v := .ref (a 27)) C 43 0 2 inX7 rfl (by decide) fl_X7_19 dX7_from_40 at_U_0 rfl rfl ?_
      refine bx_iload_n C 44 dX7_from_43 rfl rfl rfl ?_
      rcases hv.1 with h | h
      · replace hv := hv.2.1 h
        refine bx_aald C 45 27 dX7_from_44 rfl (by rw [h]; exact vin_0_2) (by rw [h]; rfl) rfl ?_
        refine bx_qVv C 1 at_U_1 rfl 48 fc_X7_102 (k_X0_takeFrom l E (fun k => a (1 + k)) (fun k => a (28 + k)) _ _ hv) dX7_from_45 ⟨rfl, rfl, Nat.le_of_ble_eq_true rfl, Nat.le_of_ble_eq_true rfl⟩ [1, 2, 3, 4, 5, 6, 7, 8, 9, 10, 11, 12, 13, 28, 29, 30, 31, 32, 33, 34, 35, 36, 37, 38, 39, 40] (fun u2 => w_U E a (u2.1, u.2.1, u2.2, u.2.2.2)) ps_U_HH_1_28 (by decide) ad_HH pu_U_HH_1_28 rfl rfl (Nat.le_of_ble_eq_true rfl) rfl (fun u2 hv => ?_)
        refine bx_iconst C 1 49 dX7_from_48 ic_1 rfl ?_
        exact bx_iret C (u2.1, u.2.1, u2.2, u.2.2.2) rfl dX7_from_49 rfl hv
      · replace hv := hv.2.2 h
        refine bx_aald C 45 27 dX7_from_44 rfl (by rw [h]; exact vin_1_2) (by rw [h]; rfl) rfl ?_
        refine bx_qVv C 1 at_U_1 rfl 48 fc_X7_102 (k_X0_takeFrom l E (fun k => a (1 + k)) (fun k => a (41 + k)) _ _ hv) dX7_from_45 ⟨rfl, rfl, Nat.le_of_ble_eq_true rfl, Nat.le_of_ble_eq_true rfl⟩ [1, 2, 3, 4, 5, 6, 7, 8, 9, 10, 11, 12, 13, 41, 42, 43, 44, 45, 46, 47, 48, 49, 50, 51, 52, 53] (fun u3 => w_U E a (u3.1, u.2.1, u.2.2.1, u3.2, u.2.2.2.2)) ps_U_HH_1_41 (by decide) ad_HH pu_U_HH_1_41 rfl rfl (Nat.le_of_ble_eq_true rfl) rfl (fun u3 hv => ?_)
        refine bx_iconst C 1 49 dX7_from_48 ic_1 rfl ?_
        exact bx_iret C (u3.1, u.2.1, u.2.2.1, u3.2, u.2.2.2.2) rfl dX7_from_49 rfl hv
    · replace hv := hv.2 h
      refine bx_aload_n C 29 dX7_from_28 rfl rfl rfl ?_
      refine bx_bipush C (-3) 31 dX7_from_29 bp_m3 rfl ?_
      refine bx_qVi C 0 at_U_0 rfl 34 fc_X7_119 (k_X7_refuseNo l E a _ _ _ hv) dX7_from_31 ⟨rfl, rfl, Nat.le_of_ble_eq_true rfl, Nat.le_of_ble_eq_true rfl⟩ [0, 1, 2, 3, 4, 5, 6, 7, 8, 9, 10, 11, 12, 13, 14, 15, 16, 17, 18, 19, 20, 21, 22, 23, 24, 25, 26, 27, 28, 29, 30, 31, 32, 33, 34, 35, 36, 37, 38, 39, 40, 41, 42, 43, 44, 45, 46, 47, 48, 49, 50, 51, 52, 53, 54, 55, 56, 57, 58, 59, 60, 61, 62, 63, 64, 65, 66, 67, 68, 69, 70, 71, 72, 73] (fun u5 => w_U E a u5) ps_U_U_0 (by decide) ad_U pu_U_U_0 rfl rfl (Nat.le_of_ble_eq_true rfl) rfl (fun r4 u5 hv => ?_)
      exact bx_iret C u5 rfl dX7_from_34 rfl hv
  · replace hv := hv.2 h
    refine bx_aload_n C 13 dX7_from_12 rfl rfl rfl ?_
    refine bx_bipush C (-2) 15 dX7_from_13 bp_m2 rfl ?_
    refine bx_qVi C 0 at_U_0 rfl 18 fc_X7_63 (k_X7_refuseBad l E a _ _ _ hv) dX7_from_15 ⟨rfl, rfl, Nat.le_of_ble_eq_true rfl, Nat.le_of_ble_eq_true rfl⟩ [0, 1, 2, 3, 4, 5, 6, 7, 8, 9, 10, 11, 12, 13, 14, 15, 16, 17, 18, 19, 20, 21, 22, 23, 24, 25, 26, 27, 28, 29, 30, 31, 32, 33, 34, 35, 36, 37, 38, 39, 40, 41, 42, 43, 44, 45, 46, 47, 48, 49, 50, 51, 52, 53, 54, 55, 56, 57, 58, 59, 60, 61, 62, 63, 64, 65, 66, 67, 68, 69, 70, 71, 72, 73] (fun u7 => w_U E a u7) ps_U_U_0 (by decide) ad_U pu_U_U_0 rfl rfl (Nat.le_of_ble_eq_true rfl) rfl (fun r6 u7 hv => ?_)
    exact bx_iret C u7 rfl dX7_from_18 rfl hv
theorem k_X7_from (l : Launch) (E : bx_E) (a : Nat → Nat)  (K : Int32 → US → Prop) (u : US) (x1 : Int32) (hv : V_X7_from  K u x1) : bx_Mi l E yX7_from cX7_from 2 (some .int) (rmD 3) [.ref (a 0), .int x1] (fun (u : US) => w_U E a u) u K :=
  bx_meti (by decide +kernel) (Nat.le_of_ble_eq_true rfl) (fun p e S m below meth c C => t_X7_from_0 C u x1 hv)
abbrev G_X7_status (p : Program) (l : Launch) (e : Env) (S : State) (m : MethodId) (args : Array Value) (below : List Frame) (meth : Method) (c : Code) (E : bx_E) (A : Nat → Prop) (a : Nat → Nat)  (K : Int32 → US → Prop) (pc : Nat) (lv : List (Nat × Value)) (st : List Value) (ws : va_W) : Prop := bx_S p l e (rmD 1) S m args below meth c 2 E A (MQ below (va_Qi K (fun (u : US) t => bx_B E A (w_U E a u) t) A) args S 0 0 A) 0 0 pc lv st ws
def V_X7_status  (K : Int32 → US → Prop)  (u : US) (x1 : Int32) : Prop := ((x1 = 0 → K u.2.2.2.2.2.2.2.2.2.2.1 u) ∧
 (x1 = 1 → K u.2.2.2.2.2.2.2.2.2.2.2.1 u) ∧
 (x1 = 2 → K u.2.2.2.2.2.2.2.2.2.2.2.2 u) ∧
 (¬ x1 = 0 ∧ ¬ x1 = 1 ∧ ¬ x1 = 2 → (V_X7_refuseBad (fun r1 u2 => K r1 u2) u (-1))))
set_option maxRecDepth 20000 in
set_option maxHeartbeats 4000000 in
theorem t_X7_status_0 {a : Nat → Nat} {K : Int32 → US → Prop} (C : bx_C p (rmD 1) S m args meth c cX7_status 2 yX7_status.cls (some .int) E A 0 0)   (u : US) (x1 : Int32) (hv : V_X7_status K u x1) : G_X7_status p l e S m args below meth c E A a  K 0 [(0, .ref (a 0)), (1, .int x1)] [] (w_U E a u) := by
  unfold V_X7_status at hv
  refine bx_iload_n C 1 dX7_status_0 rfl rfl rfl ?_
  by_cases h0 : x1 = 0
  · replace hv := hv.1 h0
    refine bx_tin C 28 0 dX7_status_1 h0 (by decide) (by decide) rfl (by decide) ?_
    refine bx_aload_n C 29 dX7_status_28 rfl rfl rfl ?_
    refine bx_getf (v := .int u.2.2.2.2.2.2.2.2.2.2.1) C 32 0 9 inX7 rfl (by decide) fl_X7_264 dX7_status_29 at_U_0 rfl rfl ?_
    exact bx_iret C u rfl dX7_status_32 rfl hv
  by_cases h1 : x1 = 1
  · replace hv := hv.2.1 h1
    refine bx_tin C 33 1 dX7_status_1 h1 (by decide) (by decide) rfl (by decide) ?_
    refine bx_aload_n C 34 dX7_status_33 rfl rfl rfl ?_
    refine bx_getf (v := .int u.2.2.2.2.2.2.2.2.2.2.2.1) C 37 0 10 inX7 rfl (by decide) fl_X7_267 dX7_status_34 at_U_0 rfl rfl ?_
    exact bx_iret C u rfl dX7_status_37 rfl hv
  by_cases h2 : x1 = 2
  · replace hv := hv.2.2.1 h2
    refine bx_tin C 38 2 dX7_status_1 h2 (by decide) (by decide) rfl (by decide) ?_
    refine bx_aload_n C 39 dX7_status_38 rfl rfl rfl ?_
    refine bx_getf (v := .int u.2.2.2.2.2.2.2.2.2.2.2.2) C 42 0 11 inX7 rfl (by decide) fl_X7_270 dX7_status_39 at_U_0 rfl rfl ?_
    exact bx_iret C u rfl dX7_status_42 rfl hv
  replace hv := hv.2.2.2 ⟨h0, h1, h2⟩
  have ho : (x1 : Int32).toInt < 0 ∨ 2 < (x1 : Int32).toInt := by
    have e0 := bx_ne (z := 0) h0 (by decide)
    have e1 := bx_ne (z := 1) h1 (by decide)
    have e2 := bx_ne (z := 2) h2 (by decide)
    omega
  refine bx_tout C 43 dX7_status_1 ho (by decide) ?_
  refine bx_aload_n C 44 dX7_status_43 rfl rfl rfl ?_
  refine bx_iconst C (-1) 45 dX7_status_44 ic_m1 rfl ?_
  refine bx_qVi C 0 at_U_0 rfl 48 fc_X7_63 (k_X7_refuseBad l E a _ _ _ hv) dX7_status_45 ⟨rfl, rfl, Nat.le_of_ble_eq_true rfl, Nat.le_of_ble_eq_true rfl⟩ [0, 1, 2, 3, 4, 5, 6, 7, 8, 9, 10, 11, 12, 13, 14, 15, 16, 17, 18, 19, 20, 21, 22, 23, 24, 25, 26, 27, 28, 29, 30, 31, 32, 33, 34, 35, 36, 37, 38, 39, 40, 41, 42, 43, 44, 45, 46, 47, 48, 49, 50, 51, 52, 53, 54, 55, 56, 57, 58, 59, 60, 61, 62, 63, 64, 65, 66, 67, 68, 69, 70, 71, 72, 73] (fun u2 => w_U E a u2) ps_U_U_0 (by decide) ad_U pu_U_U_0 rfl rfl (Nat.le_of_ble_eq_true rfl) rfl (fun r1 u2 hv => ?_)
  exact bx_iret C u2 rfl dX7_status_48 rfl hv
theorem k_X7_status (l : Launch) (E : bx_E) (a : Nat → Nat)  (K : Int32 → US → Prop) (u : US) (x1 : Int32) (hv : V_X7_status  K u x1) : bx_Mi l E yX7_status cX7_status 2 (some .int) (rmD 1) [.ref (a 0), .int x1] (fun (u : US) => w_U E a u) u K :=
  bx_meti (by decide +kernel) (Nat.le_of_ble_eq_true rfl) (fun p e S m below meth c C => t_X7_status_0 C u x1 hv)
abbrev G_X7_howMany (p : Program) (l : Launch) (e : Env) (S : State) (m : MethodId) (args : Array Value) (below : List Frame) (meth : Method) (c : Code) (E : bx_E) (A : Nat → Prop) (a : Nat → Nat)  (u : US) (K : Int32 → Prop) (pc : Nat) (lv : List (Nat × Value)) (st : List Value) (ws : va_W) : Prop := bx_S p l e (rmD 2) S m args below meth c 2 E A (MQ below (va_Qi (fun r (_ : Unit) => K r) (fun (_ : Unit) t => bx_B E A (w_U E a u) t) A) args S 0 0 A) 0 0 pc lv st ws
def V_X7_howMany  (K : Int32 → Prop)  (u : US) (x1 : Int32) : Prop := ((x1 = 0 → K u.1.2.2.2.2.1) ∧
 (x1 = 1 → (V_X0_howManySit (fun r1 => K r1) u.1 )) ∧
 (x1 = 2 → (V_J6_bitCount_0f7a4 (fun r2 => K r2)  u.1.2.2.2.2.2.1)) ∧
 (x1 = 3 → K u.1.2.2.2.2.2.2.1) ∧
 (x1 = 4 → K u.1.2.2.2.2.2.2.2.1) ∧
 (x1 = 5 → K u.1.2.2.2.2.2.2.2.2.1.2) ∧
 (x1 = 6 → K u.1.2.2.2.2.2.2.2.2.2.1.2) ∧
 (x1 = 7 → K u.1.2.2.2.2.2.2.2.2.2.2.1.2) ∧
 (x1 = 8 → K u.1.2.2.2.2.2.2.2.2.2.2.2.2) ∧
 (¬ x1 = 0 ∧ ¬ x1 = 1 ∧ ¬ x1 = 2 ∧ ¬ x1 = 3 ∧ ¬ x1 = 4 ∧ ¬ x1 = 5 ∧ ¬ x1 = 6 ∧ ¬ x1 = 7 ∧ ¬ x1 = 8 → K u.2.2.2.2.2.1.2.2.1))
set_option maxRecDepth 20000 in
set_option maxHeartbeats 4000000 in
theorem t_X7_howMany_0 {a : Nat → Nat} {K : Int32 → Prop} (C : bx_C p (rmD 2) S m args meth c cX7_howMany 2 yX7_howMany.cls (some .int) E A 0 0) (u : US)   (x1 : Int32) (hv : V_X7_howMany K u x1) : G_X7_howMany p l e S m args below meth c E A a  u K 0 [(0, .ref (a 0)), (1, .int x1)] [] (w_U E a u) := by
  unfold V_X7_howMany at hv
  refine bx_iload_n C 1 dX7_howMany_0 rfl rfl rfl ?_
  by_cases h0 : x1 = 0
  · replace hv := hv.1 h0
    refine bx_tin C 52 0 dX7_howMany_1 h0 (by decide) (by decide) rfl (by decide) ?_
    refine bx_aload_n C 53 dX7_howMany_52 rfl rfl rfl ?_
    refine bx_getf (v := .ref (a 1)) C 56 0 0 inX7 rfl (by decide) fl_X7_10 dX7_howMany_53 at_U_0 rfl rfl ?_
    refine bx_getf (v := .int u.1.2.2.2.2.1) C 59 1 4 inX0 rfl (by decide) fl_X7_52 dX7_howMany_56 at_U_1 rfl rfl ?_
    exact bx_iret C () rfl dX7_howMany_59 rfl hv
  by_cases h1 : x1 = 1
  · replace hv := hv.2.1 h1
    refine bx_tin C 60 1 dX7_howMany_1 h1 (by decide) (by decide) rfl (by decide) ?_
    refine bx_aload_n C 61 dX7_howMany_60 rfl rfl rfl ?_
    refine bx_getf (v := .ref (a 1)) C 64 0 0 inX7 rfl (by decide) fl_X7_10 dX7_howMany_61 at_U_0 rfl rfl ?_
    refine bx_pVi C 1 at_U_1 rfl 67 fc_X7_284 (k_X0_howManySit l E (fun k => a (1 + k)) _ _ hv) dX7_howMany_64 ⟨rfl, rfl, Nat.le_of_ble_eq_true rfl, Nat.le_of_ble_eq_true rfl⟩ [1, 2, 3, 4, 5, 6, 7, 8, 9, 10, 11, 12, 13] ps_U_H_1 (by decide) rfl rfl (Nat.le_of_ble_eq_true rfl) rfl (fun r1 hv => ?_)
    exact bx_iret C () rfl dX7_howMany_67 rfl hv
  by_cases h2 : x1 = 2
  · replace hv := hv.2.2.1 h2
    refine bx_tin C 68 2 dX7_howMany_1 h2 (by decide) (by decide) rfl (by decide) ?_
    refine bx_aload_n C 69 dX7_howMany_68 rfl rfl rfl ?_
    refine bx_getf (v := .ref (a 1)) C 72 0 0 inX7 rfl (by decide) fl_X7_10 dX7_howMany_69 at_U_0 rfl rfl ?_
    refine bx_getf (v := .int u.1.2.2.2.2.2.1) C 75 1 5 inX0 rfl (by decide) fl_X7_140 dX7_howMany_72 at_U_1 rfl rfl ?_
    refine bx_pSi C 78 fc_X7_287 (k_J6_bitCount_0f7a4 l E  _ _ hv) dX7_howMany_75 ⟨rfl, rfl, Nat.le_of_ble_eq_true rfl, Nat.le_of_ble_eq_true rfl⟩ [] rfl (by decide) rfl rfl (Nat.le_of_ble_eq_true rfl) rfl (fun r2 hv => ?_)
    exact bx_iret C () rfl dX7_howMany_78 rfl hv
  by_cases h3 : x1 = 3
  · replace hv := hv.2.2.2.1 h3
    refine bx_tin C 79 3 dX7_howMany_1 h3 (by decide) (by decide) rfl (by decide) ?_
    refine bx_aload_n C 80 dX7_howMany_79 rfl rfl rfl ?_
    refine bx_getf (v := .ref (a 1)) C 83 0 0 inX7 rfl (by decide) fl_X7_10 dX7_howMany_80 at_U_0 rfl rfl ?_
    refine bx_getf (v := .int u.1.2.2.2.2.2.2.1) C 86 1 6 inX0 rfl (by decide) fl_X7_116 dX7_howMany_83 at_U_1 rfl rfl ?_
    exact bx_iret C () rfl dX7_howMany_86 rfl hv
  by_cases h4 : x1 = 4
  · replace hv := hv.2.2.2.2.1 h4
    refine bx_tin C 87 4 dX7_howMany_1 h4 (by decide) (by decide) rfl (by decide) ?_
    refine bx_aload_n C 88 dX7_howMany_87 rfl rfl rfl ?_
    refine bx_getf (v := .ref (a 1)) C 91 0 0 inX7 rfl (by decide) fl_X7_10 dX7_howMany_88 at_U_0 rfl rfl ?_
    refine bx_getf (v := .int u.1.2.2.2.2.2.2.2.1) C 94 1 7 inX0 rfl (by decide) fl_X7_292 dX7_howMany_91 at_U_1 rfl rfl ?_
    exact bx_iret C () rfl dX7_howMany_94 rfl hv
  by_cases h5 : x1 = 5
  · replace hv := hv.2.2.2.2.2.1 h5
    refine bx_tin C 95 5 dX7_howMany_1 h5 (by decide) (by decide) rfl (by decide) ?_
    refine bx_aload_n C 96 dX7_howMany_95 rfl rfl rfl ?_
    refine bx_getf (v := .ref (a 1)) C 99 0 0 inX7 rfl (by decide) fl_X7_10 dX7_howMany_96 at_U_0 rfl rfl ?_
    refine bx_getf (v := .ref (a 6)) C 102 1 8 inX0 rfl (by decide) fl_X7_203 dX7_howMany_99 at_U_1 rfl rfl ?_
    refine bx_getf (v := .int u.1.2.2.2.2.2.2.2.2.1.2) C 105 6 3 inX4 rfl (by decide) fl_X7_148 dX7_howMany_102 at_U_6 rfl rfl ?_
    exact bx_iret C () rfl dX7_howMany_105 rfl hv
  by_cases h6 : x1 = 6
  · replace hv := hv.2.2.2.2.2.2.1 h6
    refine bx_tin C 106 6 dX7_howMany_1 h6 (by decide) (by decide) rfl (by decide) ?_
    refine bx_aload_n C 107 dX7_howMany_106 rfl rfl rfl ?_
    refine bx_getf (v := .ref (a 1)) C 110 0 0 inX7 rfl (by decide) fl_X7_10 dX7_howMany_107 at_U_0 rfl rfl ?_
    refine bx_getf (v := .ref (a 8)) C 113 1 9 inX0 rfl (by decide) fl_X7_219 dX7_howMany_110 at_U_1 rfl rfl ?_
    refine bx_getf (v := .int u.1.2.2.2.2.2.2.2.2.2.1.2) C 116 8 3 inX4 rfl (by decide) fl_X7_148 dX7_howMany_113 at_U_8 rfl rfl ?_
    exact bx_iret C () rfl dX7_howMany_116 rfl hv
  by_cases h7 : x1 = 7
  · replace hv := hv.2.2.2.2.2.2.2.1 h7
    refine bx_tin C 117 7 dX7_howMany_1 h7 (by decide) (by decide) rfl (by decide) ?_
    refine bx_aload_n C 118 dX7_howMany_117 rfl rfl rfl ?_
    refine bx_getf (v := .ref (a 1)) C 121 0 0 inX7 rfl (by decide) fl_X7_10 dX7_howMany_118 at_U_0 rfl rfl ?_
    refine bx_getf (v := .ref (a 10)) C 124 1 10 inX0 rfl (by decide) fl_X7_222 dX7_howMany_121 at_U_1 rfl rfl ?_
    refine bx_getf (v := .int u.1.2.2.2.2.2.2.2.2.2.2.1.2) C 127 10 3 inX4 rfl (by decide) fl_X7_148 dX7_howMany_124 at_U_10 rfl rfl ?_
    exact bx_iret C () rfl dX7_howMany_127 rfl hv
  by_cases h8 : x1 = 8
  · replace hv := hv.2.2.2.2.2.2.2.2.1 h8
    refine bx_tin C 128 8 dX7_howMany_1 h8 (by decide) (by decide) rfl (by decide) ?_
    refine bx_aload_n C 129 dX7_howMany_128 rfl rfl rfl ?_
    refine bx_getf (v := .ref (a 1)) C 132 0 0 inX7 rfl (by decide) fl_X7_10 dX7_howMany_129 at_U_0 rfl rfl ?_
    refine bx_getf (v := .ref (a 12)) C 135 1 11 inX0 rfl (by decide) fl_X7_71 dX7_howMany_132 at_U_1 rfl rfl ?_
    refine bx_getf (v := .int u.1.2.2.2.2.2.2.2.2.2.2.2.2) C 138 12 3 inX4 rfl (by decide) fl_X7_148 dX7_howMany_135 at_U_12 rfl rfl ?_
    exact bx_iret C () rfl dX7_howMany_138 rfl hv
  replace hv := hv.2.2.2.2.2.2.2.2.2 ⟨h0, h1, h2, h3, h4, h5, h6, h7, h8⟩
  have ho : (x1 : Int32).toInt < 0 ∨ 8 < (x1 : Int32).toInt := by
    have e0 := bx_ne (z := 0) h0 (by decide)
    have e1 := bx_ne (z := 1) h1 (by decide)
    have e2 := bx_ne (z := 2) h2 (by decide)
    have e3 := bx_ne (z := 3) h3 (by decide)
    have e4 := bx_ne (z := 4) h4 (by decide)
    have e5 := bx_ne (z := 5) h5 (by decide)
    have e6 := bx_ne (z := 6) h6 (by decide)
    have e7 := bx_ne (z := 7) h7 (by decide)
    have e8 := bx_ne (z := 8) h8 (by decide)
    omega
  refine bx_tout C 139 dX7_howMany_1 ho (by decide) ?_
  refine bx_aload_n C 140 dX7_howMany_139 rfl rfl rfl ?_
  refine bx_getf (v := .ref (a 55)) C 143 0 4 inX7 rfl (by decide) fl_X7_30 dX7_howMany_140 at_U_0 rfl rfl ?_
  refine bx_getf (v := .int u.2.2.2.2.2.1.2.2.1) C 146 55 2 inX6 rfl (by decide) fl_X7_295 dX7_howMany_143 at_U_55 rfl rfl ?_
  exact bx_iret C () rfl dX7_howMany_146 rfl hv
theorem k_X7_howMany (l : Launch) (E : bx_E) (a : Nat → Nat)  (K : Int32 → Prop) (u : US) (x1 : Int32) (hv : V_X7_howMany  K u x1) : bx_Mi l E yX7_howMany cX7_howMany 2 (some .int) (rmD 2) [.ref (a 0), .int x1] (fun (_ : Unit) => w_U E a u) () (fun r (_ : Unit) => K r) :=
  bx_meti (by decide +kernel) (Nat.le_of_ble_eq_true rfl) (fun p e S m below meth c C => t_X7_howMany_0 C u x1 hv)
abbrev G_X7_count (p : Program) (l : Launch) (e : Env) (S : State) (m : MethodId) (args : Array Value) (below : List Frame) (meth : Method) (c : Code) (E : bx_E) (A : Nat → Prop) (a : Nat → Nat)  (K : Int32 → US → Prop) (pc : Nat) (lv : List (Nat × Value)) (st : List Value) (ws : va_W) : Prop := bx_S p l e (rmD 3) S m args below meth c 2 E A (MQ below (va_Qi K (fun (u : US) t => bx_B E A (w_U E a u) t) A) args S 0 0 A) 0 0 pc lv st ws
def V_X7_count  (K : Int32 → US → Prop)  (u : US) (x1 : Int32) : Prop := (V_X7_within (fun r1 => ((r1 = 0 → (V_X7_refuseBad (fun r2 u3 => K r2 u3) u (-2))) ∧
 (¬ r1 = 0 → (V_X7_howMany (fun r4 => K r4 u) u x1))))  x1 10)
set_option maxRecDepth 20000 in
set_option maxHeartbeats 4000000 in
theorem t_X7_count_0 {a : Nat → Nat} {K : Int32 → US → Prop} (C : bx_C p (rmD 3) S m args meth c cX7_count 2 yX7_count.cls (some .int) E A 0 0)   (u : US) (x1 : Int32) (hv : V_X7_count K u x1) : G_X7_count p l e S m args below meth c E A a  K 0 [(0, .ref (a 0)), (1, .int x1)] [] (w_U E a u) := by
  unfold V_X7_count at hv
  refine bx_iload_n C 1 dX7_count_0 rfl rfl rfl ?_
  refine bx_bipush C 10 3 dX7_count_1 bp_10 rfl ?_
  refine bx_pSi C 6 fc_X7_59 (k_X7_within l E  _ _ _ hv) dX7_count_3 ⟨rfl, rfl, Nat.le_of_ble_eq_true rfl, Nat.le_of_ble_eq_true rfl⟩ [] rfl (by decide) rfl rfl (Nat.le_of_ble_eq_true rfl) rfl (fun r1 hv => ?_)
  refine bx_if_eq C 17 9 dX7_count_6 (by decide) rfl (fun h => ?_) (fun h => ?_)
  · replace hv := hv.1 h
    refine bx_aload_n C 18 dX7_count_17 rfl rfl rfl ?_
    refine bx_bipush C (-2) 20 dX7_count_18 bp_m2 rfl ?_
    refine bx_qVi C 0 at_U_0 rfl 23 fc_X7_63 (k_X7_refuseBad l E a _ _ _ hv) dX7_count_20 ⟨rfl, rfl, Nat.le_of_ble_eq_true rfl, Nat.le_of_ble_eq_true rfl⟩ [0, 1, 2, 3, 4, 5, 6, 7, 8, 9, 10, 11, 12, 13, 14, 15, 16, 17, 18, 19, 20, 21, 22, 23, 24, 25, 26, 27, 28, 29, 30, 31, 32, 33, 34, 35, 36, 37, 38, 39, 40, 41, 42, 43, 44, 45, 46, 47, 48, 49, 50, 51, 52, 53, 54, 55, 56, 57, 58, 59, 60, 61, 62, 63, 64, 65, 66, 67, 68, 69, 70, 71, 72, 73] (fun u3 => w_U E a u3) ps_U_U_0 (by decide) ad_U pu_U_U_0 rfl rfl (Nat.le_of_ble_eq_true rfl) rfl (fun r2 u3 hv => ?_)
    exact bx_iret C u3 rfl dX7_count_23 rfl hv
  · replace hv := hv.2 h
    refine bx_aload_n C 10 dX7_count_9 rfl rfl rfl ?_
    refine bx_iload_n C 11 dX7_count_10 rfl rfl rfl ?_
    refine bx_pVi C 0 at_U_0 rfl 14 fc_X7_273 (k_X7_howMany l E a _ _ _ hv) dX7_count_11 ⟨rfl, rfl, Nat.le_of_ble_eq_true rfl, Nat.le_of_ble_eq_true rfl⟩ [0, 1, 2, 3, 4, 5, 6, 7, 8, 9, 10, 11, 12, 13, 14, 15, 16, 17, 18, 19, 20, 21, 22, 23, 24, 25, 26, 27, 28, 29, 30, 31, 32, 33, 34, 35, 36, 37, 38, 39, 40, 41, 42, 43, 44, 45, 46, 47, 48, 49, 50, 51, 52, 53, 54, 55, 56, 57, 58, 59, 60, 61, 62, 63, 64, 65, 66, 67, 68, 69, 70, 71, 72, 73] ps_U_U_0 (by decide) rfl rfl (Nat.le_of_ble_eq_true rfl) rfl (fun r4 hv => ?_)
    refine bx_goto C 23 dX7_count_14 (by decide) ?_
    exact bx_iret C u rfl dX7_count_23 rfl hv
theorem k_X7_count (l : Launch) (E : bx_E) (a : Nat → Nat)  (K : Int32 → US → Prop) (u : US) (x1 : Int32) (hv : V_X7_count  K u x1) : bx_Mi l E yX7_count cX7_count 2 (some .int) (rmD 3) [.ref (a 0), .int x1] (fun (u : US) => w_U E a u) u K :=
  bx_meti (by decide +kernel) (Nat.le_of_ble_eq_true rfl) (fun p e S m below meth c C => t_X7_count_0 C u x1 hv)
end
