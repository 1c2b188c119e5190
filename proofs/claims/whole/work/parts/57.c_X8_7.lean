section
variable {p : Program} {l : Launch} {e : Env} {S : State} {m : MethodId} {args : Array Value} {below : List Frame} {meth : Method} {c : Code} {E : bx_E} {A : Nat → Prop}
abbrev G_X8_status (p : Program) (l : Launch) (e : Env) (S : State) (m : MethodId) (args : Array Value) (below : List Frame) (meth : Method) (c : Code) (E : bx_E) (A : Nat → Prop) (a : Nat → Nat)  (K : Int32 → MS → Prop) (pc : Nat) (lv : List (Nat × Value)) (st : List Value) (ws : va_W) : Prop := bx_S p l e (rmD 1) S m args below meth c 2 E A (MQ below (va_Qi K (fun (u : MS) t => bx_B E A (w_M E a u) t) A) args S 0 0 A) 0 0 pc lv st ws
def V_X8_status  (K : Int32 → MS → Prop)  (u : MS) (x1 : Int32) : Prop := (V_X8_in (fun r1 => ((¬ r1 = 0 → (vp_in x1 3 ∧ K (u.2.2.2.2.2.2.1 (x1 : Int32).toNatClampNeg) u)) ∧
 (r1 = 0 → K (-1) (u.1, u.2.1, u.2.2.1, u.2.2.2.1, u.2.2.2.2.1, u.2.2.2.2.2.1, (upd u.2.2.2.2.2.2.1 0 ((u.2.2.2.2.2.2.1 0) + 1)), u.2.2.2.2.2.2.2))))  ((x1 : Int32).toInt64) 0 2)
set_option maxRecDepth 20000 in
set_option maxHeartbeats 4000000 in
theorem t_X8_status_0 {a : Nat → Nat} {K : Int32 → MS → Prop} (C : bx_C p (rmD 1) S m args meth c cX8_status 2 yX8_status.cls (some .int) E A 0 0)   (u : MS) (x1 : Int32) (hv : V_X8_status K u x1) : G_X8_status p l e S m args below meth c E A a  K 0 [(0, .ref (a 0)), (1, .int x1)] [] (w_M E a u) := by
  unfold V_X8_status at hv
  refine bx_iload_n C 1 dX8_status_0 rfl rfl rfl ?_
  refine bx_i2l C 2 dX8_status_1 rfl ?_
  refine bx_lconst C 0 3 dX8_status_2 lc_0 rfl ?_
  refine bx_ldc2 C 6 cs_X8_211 dX8_status_3 rfl ?_
  refine bx_pSi C 9 fc_X8_46 (k_X8_in l E  _ _ _ _ hv) dX8_status_6 ⟨rfl, rfl, Nat.le_of_ble_eq_true rfl, Nat.le_of_ble_eq_true rfl⟩ [] rfl (by decide) rfl rfl (Nat.le_of_ble_eq_true rfl) rfl (fun r1 hv => ?_)
  refine bx_if_ne C 24 12 dX8_status_9 (by decide) rfl (fun h => ?_) (fun h => ?_)
  · replace hv := hv.1 h
    refine bx_aload_n C 25 dX8_status_24 rfl rfl rfl ?_
    refine bx_getf (v := .ref (a 5)) C 28 0 6 inX8 rfl (by decide) fl_X8_27 dX8_status_25 at_M_0 rfl rfl ?_
    refine bx_iload_n C 29 dX8_status_28 rfl rfl rfl ?_
    refine bx_iald (f := u.2.2.2.2.2.2.1) C 30 5 dX8_status_29 at_M_5 hv.1 rfl ?_
    replace hv := hv.2
    exact bx_iret C u rfl dX8_status_30 rfl hv
  · replace hv := hv.2 h
    refine bx_aload_n C 13 dX8_status_12 rfl rfl rfl ?_
    refine bx_getf (v := .ref (a 5)) C 16 0 6 inX8 rfl (by decide) fl_X8_27 dX8_status_13 at_M_0 rfl rfl ?_
    refine bx_iconst C 0 17 dX8_status_16 ic_0 rfl ?_
    refine bx_dup2_11 C 18 dX8_status_17 rfl rfl rfl ?_
    refine bx_iald_k (f := u.2.2.2.2.2.2.1) C 19 5 0 dX8_status_18 at_M_5 vin_0_3 cl_0 rfl ?_
    refine bx_iconst C 1 20 dX8_status_19 ic_1 rfl ?_
    refine bx_iadd C 21 dX8_status_20 rfl ?_
    refine bx_iast_k C 22 5 0 (w_M E a (u.1, u.2.1, u.2.2.1, u.2.2.2.1, u.2.2.2.2.1, u.2.2.2.2.2.1, (upd u.2.2.2.2.2.2.1 0 ((u.2.2.2.2.2.2.1 0) + 1)), u.2.2.2.2.2.2.2)) dX8_status_21 rfl vin_0_3 cl_0 rfl rfl ?_
    refine bx_iconst C (-1) 23 dX8_status_22 ic_m1 rfl ?_
    exact bx_iret C (u.1, u.2.1, u.2.2.1, u.2.2.2.1, u.2.2.2.2.1, u.2.2.2.2.2.1, (upd u.2.2.2.2.2.2.1 0 ((u.2.2.2.2.2.2.1 0) + 1)), u.2.2.2.2.2.2.2) rfl dX8_status_23 rfl hv
theorem k_X8_status (l : Launch) (E : bx_E) (a : Nat → Nat)  (K : Int32 → MS → Prop) (u : MS) (x1 : Int32) (hv : V_X8_status  K u x1) : bx_Mi l E yX8_status cX8_status 2 (some .int) (rmD 1) [.ref (a 0), .int x1] (fun (u : MS) => w_M E a u) u K :=
  bx_meti (by decide +kernel) (Nat.le_of_ble_eq_true rfl) (fun p e S m below meth c C => t_X8_status_0 C u x1 hv)
abbrev G_X8_counted (p : Program) (l : Launch) (e : Env) (S : State) (m : MethodId) (args : Array Value) (below : List Frame) (meth : Method) (c : Code) (E : bx_E) (A : Nat → Prop) (a : Nat → Nat)  (u : MS) (K : Int32 → Prop) (pc : Nat) (lv : List (Nat × Value)) (st : List Value) (ws : va_W) : Prop := bx_S p l e (rmD 3) S m args below meth c 5 E A (MQ below (va_Qi (fun r (_ : Unit) => K r) (fun (_ : Unit) t => bx_B E A (w_M E a u) t) A) args S 0 0 A) 0 0 pc lv st ws
def V_X8_counted_42  (K : Int32 → Prop)  : Nat → MS → Int32 → Int32 → Int32 → Int32 → Prop
  | 0, _, _, _, _, _ => False
  | n + 1, u, x1, x2, x3, x4 => ((30 ≤ x4 → ((x1 = 0 → K (u.1 8)) ∧
 (x1 = 1 → K x2) ∧
 (x1 = 2 → K x3) ∧
 (x1 = 3 → K (u.1 6)) ∧
 (x1 = 4 → K (u.1 7)) ∧
 (x1 = 5 → K (u.1 30)) ∧
 (x1 = 6 → K (u.1 46)) ∧
 (x1 = 7 → K (u.1 65)) ∧
 (x1 = 8 → K (u.1 90)) ∧
 (¬ x1 = 0 ∧ ¬ x1 = 1 ∧ ¬ x1 = 2 ∧ ¬ x1 = 3 ∧ ¬ x1 = 4 ∧ ¬ x1 = 5 ∧ ¬ x1 = 6 ∧ ¬ x1 = 7 ∧ ¬ x1 = 8 → K u.2.2.2.2.2.2.2.2.1))) ∧
 (¬ 30 ≤ x4 → (V_X8_has (fun r1 => ((r1 = 0 → V_X8_counted_42 K n u x1 x2 (x3 + 0) (x4 + 1)) ∧
 (¬ r1 = 0 → V_X8_counted_42 K n u x1 x2 (x3 + 1) (x4 + 1))))  (u.1 5) x4)))
set_option maxRecDepth 20000 in
set_option maxHeartbeats 4000000 in
theorem t_X8_counted_42 {a : Nat → Nat} {K : Int32 → Prop} (C : bx_C p (rmD 3) S m args meth c cX8_counted 5 yX8_counted.cls (some .int) E A 0 0) (u : MS)  : ∀ (n : Nat)  (x1 : Int32) (x2 : Int32) (x3 : Int32) (x4 : Int32), V_X8_counted_42 K n u x1 x2 x3 x4 → G_X8_counted p l e S m args below meth c E A a  u K 42 [(0, .ref (a 0)), (1, .int x1), (2, .int x2), (3, .int x3), (4, .int x4)] [] (w_M E a u) := by
  intro n
  induction n with
  | zero =>
    intro x1 x2 x3 x4 hv
    exact False.elim hv
  | succ n ih =>
    intro x1 x2 x3 x4 hv
    unfold V_X8_counted_42 at hv
    refine bx_iload C 44 dX8_counted_42 rfl rfl ?_
    refine bx_bipush C 30 46 dX8_counted_44 bp_30 rfl ?_
    refine bx_icmp_ge C 77 49 dX8_counted_46 (by decide) rfl (fun h => ?_) (fun h => ?_)
    · replace hv := hv.1 h
      refine bx_iload_n C 78 dX8_counted_77 rfl rfl rfl ?_
      by_cases h0 : x1 = 0
      · replace hv := hv.1 h0
        refine bx_tin C 128 0 dX8_counted_78 h0 (by decide) (by decide) rfl (by decide) ?_
        refine bx_aload_n C 129 dX8_counted_128 rfl rfl rfl ?_
        refine bx_getf (v := .ref (a 1)) C 132 0 0 inX8 rfl (by decide) fl_X8_7 dX8_counted_129 at_M_0 rfl rfl ?_
        refine bx_bipush C 8 134 dX8_counted_132 bp_8 rfl ?_
        refine bx_iald_k (f := u.1) C 135 1 8 dX8_counted_134 at_M_1 vin_8_171 cl_8 rfl ?_
        exact bx_iret C () rfl dX8_counted_135 rfl hv
      by_cases h1 : x1 = 1
      · replace hv := hv.2.1 h1
        refine bx_tin C 136 1 dX8_counted_78 h1 (by decide) (by decide) rfl (by decide) ?_
        refine bx_iload_n C 137 dX8_counted_136 rfl rfl rfl ?_
        exact bx_iret C () rfl dX8_counted_137 rfl hv
      by_cases h2 : x1 = 2
      · replace hv := hv.2.2.1 h2
        refine bx_tin C 138 2 dX8_counted_78 h2 (by decide) (by decide) rfl (by decide) ?_
        refine bx_iload_n C 139 dX8_counted_138 rfl rfl rfl ?_
        exact bx_iret C () rfl dX8_counted_139 rfl hv
      by_cases h3 : x1 = 3
      · replace hv := hv.2.2.2.1 h3
        refine bx_tin C 140 3 dX8_counted_78 h3 (by decide) (by decide) rfl (by decide) ?_
        refine bx_aload_n C 141 dX8_counted_140 rfl rfl rfl ?_
        refine bx_getf (v := .ref (a 1)) C 144 0 0 inX8 rfl (by decide) fl_X8_7 dX8_counted_141 at_M_0 rfl rfl ?_
        refine bx_bipush C 6 146 dX8_counted_144 bp_6 rfl ?_
        refine bx_iald_k (f := u.1) C 147 1 6 dX8_counted_146 at_M_1 vin_6_171 cl_6 rfl ?_
        exact bx_iret C () rfl dX8_counted_147 rfl hv
      by_cases h4 : x1 = 4
      · replace hv := hv.2.2.2.2.1 h4
        refine bx_tin C 148 4 dX8_counted_78 h4 (by decide) (by decide) rfl (by decide) ?_
        refine bx_aload_n C 149 dX8_counted_148 rfl rfl rfl ?_
        refine bx_getf (v := .ref (a 1)) C 152 0 0 inX8 rfl (by decide) fl_X8_7 dX8_counted_149 at_M_0 rfl rfl ?_
        refine bx_bipush C 7 154 dX8_counted_152 bp_7 rfl ?_
        refine bx_iald_k (f := u.1) C 155 1 7 dX8_counted_154 at_M_1 vin_7_171 cl_7 rfl ?_
        exact bx_iret C () rfl dX8_counted_155 rfl hv
      by_cases h5 : x1 = 5
      · replace hv := hv.2.2.2.2.2.1 h5
        refine bx_tin C 156 5 dX8_counted_78 h5 (by decide) (by decide) rfl (by decide) ?_
        refine bx_aload_n C 157 dX8_counted_156 rfl rfl rfl ?_
        refine bx_getf (v := .ref (a 1)) C 160 0 0 inX8 rfl (by decide) fl_X8_7 dX8_counted_157 at_M_0 rfl rfl ?_
        refine bx_bipush C 30 162 dX8_counted_160 bp_30 rfl ?_
        refine bx_iald_k (f := u.1) C 163 1 30 dX8_counted_162 at_M_1 vin_30_171 cl_30 rfl ?_
        exact bx_iret C () rfl dX8_counted_163 rfl hv
      by_cases h6 : x1 = 6
      · replace hv := hv.2.2.2.2.2.2.1 h6
        refine bx_tin C 164 6 dX8_counted_78 h6 (by decide) (by decide) rfl (by decide) ?_
        refine bx_aload_n C 165 dX8_counted_164 rfl rfl rfl ?_
        refine bx_getf (v := .ref (a 1)) C 168 0 0 inX8 rfl (by decide) fl_X8_7 dX8_counted_165 at_M_0 rfl rfl ?_
        refine bx_bipush C 46 170 dX8_counted_168 bp_46 rfl ?_
        refine bx_iald_k (f := u.1) C 171 1 46 dX8_counted_170 at_M_1 vin_46_171 cl_46 rfl ?_
        exact bx_iret C () rfl dX8_counted_171 rfl hv
      by_cases h7 : x1 = 7
      · replace hv := hv.2.2.2.2.2.2.2.1 h7
        refine bx_tin C 172 7 dX8_counted_78 h7 (by decide) (by decide) rfl (by decide) ?_
        refine bx_aload_n C 173 dX8_counted_172 rfl rfl rfl ?_
        refine bx_getf (v := .ref (a 1)) C 176 0 0 inX8 rfl (by decide) fl_X8_7 dX8_counted_173 at_M_0 rfl rfl ?_
        refine bx_bipush C 65 178 dX8_counted_176 bp_65 rfl ?_
        refine bx_iald_k (f := u.1) C 179 1 65 dX8_counted_178 at_M_1 vin_65_171 cl_65 rfl ?_
        exact bx_iret C () rfl dX8_counted_179 rfl hv
      by_cases h8 : x1 = 8
      · replace hv := hv.2.2.2.2.2.2.2.2.1 h8
        refine bx_tin C 180 8 dX8_counted_78 h8 (by decide) (by decide) rfl (by decide) ?_
        refine bx_aload_n C 181 dX8_counted_180 rfl rfl rfl ?_
        refine bx_getf (v := .ref (a 1)) C 184 0 0 inX8 rfl (by decide) fl_X8_7 dX8_counted_181 at_M_0 rfl rfl ?_
        refine bx_bipush C 90 186 dX8_counted_184 bp_90 rfl ?_
        refine bx_iald_k (f := u.1) C 187 1 90 dX8_counted_186 at_M_1 vin_90_171 cl_90 rfl ?_
        exact bx_iret C () rfl dX8_counted_187 rfl hv
      replace hv := hv.2.2.2.2.2.2.2.2.2 ⟨h0, h1, h2, h3, h4, h5, h6, h7, h8⟩
      have ho : (x1 : Int32).toInt < 0 ∨ 8 < (x1 : Int32).toInt := by
        have e0 := bx_ne (z := 0) h0 (by decide)
        have e1 := bx_ne (z := 1) h1 (by decide)
        have e2 := bx_ne (z := 2) h2 (by decide)
        have e3 := bx_ne (z := 3) h3 (by decide)
        have e4 := bx_ne (z := 4) h4 (by decide)
        have e5 := bx_ne (z := 5) h5 (by decide)
        have e6 := bx_ne (z := 6) h6 (by decide)
        have e7 := bx_ne (z := 7) h7 (by decide)
        have e8 := bx_ne (z := 8) h8 (by decide)
        omega
      refine bx_tout C 188 dX8_counted_78 ho (by decide) ?_
      refine bx_aload_n C 189 dX8_counted_188 rfl rfl rfl ?_
      refine bx_getf (v := .int u.2.2.2.2.2.2.2.2.1) C 192 0 8 inX8 rfl (by decide) fl_X8_117 dX8_counted_189 at_M_0 rfl rfl ?_
      exact bx_iret C () rfl dX8_counted_192 rfl hv
    · replace hv := hv.2 h
      refine bx_iload_n C 50 dX8_counted_49 rfl rfl rfl ?_
      refine bx_aload_n C 51 dX8_counted_50 rfl rfl rfl ?_
      refine bx_getf (v := .ref (a 1)) C 54 0 0 inX8 rfl (by decide) fl_X8_7 dX8_counted_51 at_M_0 rfl rfl ?_
      refine bx_iconst C 5 55 dX8_counted_54 ic_5 rfl ?_
      refine bx_iald_k (f := u.1) C 56 1 5 dX8_counted_55 at_M_1 vin_5_171 cl_5 rfl ?_
      refine bx_iload C 58 dX8_counted_56 rfl rfl ?_
      refine bx_pSi C 61 fc_X8_66 (k_X8_has l E  _ _ _ hv) dX8_counted_58 ⟨rfl, rfl, Nat.le_of_ble_eq_true rfl, Nat.le_of_ble_eq_true rfl⟩ [] rfl (by decide) rfl rfl (Nat.le_of_ble_eq_true rfl) rfl (fun r1 hv => ?_)
      refine bx_if_eq C 68 64 dX8_counted_61 (by decide) rfl (fun h => ?_) (fun h => ?_)
      · replace hv := hv.1 h
        refine bx_iconst C 0 69 dX8_counted_68 ic_0 rfl ?_
        refine bx_iadd C 70 dX8_counted_69 rfl ?_
        refine bx_istore_n C 71 dX8_counted_70 rfl (by decide) rfl ?_
        refine bx_iinc C 1 74 dX8_counted_71 rfl (by decide) ic_1 rfl ?_
        refine bx_goto C 42 dX8_counted_74 (by decide) ?_
        exact bx_cut [2, 3, 4, 1, 0] (w_M E a u) rfl rfl (ih  x1 x2 (x3 + 0) (x4 + 1) hv)
      · replace hv := hv.2 h
        refine bx_iconst C 1 65 dX8_counted_64 ic_1 rfl ?_
        refine bx_goto C 69 dX8_counted_65 (by decide) ?_
        refine bx_iadd C 70 dX8_counted_69 rfl ?_
        refine bx_istore_n C 71 dX8_counted_70 rfl (by decide) rfl ?_
        refine bx_iinc C 1 74 dX8_counted_71 rfl (by decide) ic_1 rfl ?_
        refine bx_goto C 42 dX8_counted_74 (by decide) ?_
        exact bx_cut [2, 3, 4, 1, 0] (w_M E a u) rfl rfl (ih  x1 x2 (x3 + 1) (x4 + 1) hv)
def V_X8_counted_4  (K : Int32 → Prop)  : Nat → MS → Int32 → Int32 → Int32 → Prop
  | 0, _, _, _, _ => False
  | n + 1, u, x1, x2, x3 => (((u.1 8) ≤ x3 → ∃ n2, V_X8_counted_42 K n2 u x1 x2 0 0) ∧
 (¬ (u.1 8) ≤ x3 → (V_X8_isOut (fun r3 => ((r3 = 0 → V_X8_counted_4 K n u x1 (x2 + 1) (x3 + 1)) ∧
 (¬ r3 = 0 → V_X8_counted_4 K n u x1 (x2 + 0) (x3 + 1)))) u x3)))
set_option maxRecDepth 20000 in
set_option maxHeartbeats 4000000 in
theorem t_X8_counted_4 {a : Nat → Nat} {K : Int32 → Prop} (C : bx_C p (rmD 3) S m args meth c cX8_counted 5 yX8_counted.cls (some .int) E A 0 0) (u : MS)  : ∀ (n : Nat)  (x1 : Int32) (x2 : Int32) (x3 : Int32), V_X8_counted_4 K n u x1 x2 x3 → G_X8_counted p l e S m args below meth c E A a  u K 4 [(0, .ref (a 0)), (1, .int x1), (2, .int x2), (3, .int x3)] [] (w_M E a u) := by
  intro n
  induction n with
  | zero =>
    intro x1 x2 x3 hv
    exact False.elim hv
  | succ n ih =>
    intro x1 x2 x3 hv
    unfold V_X8_counted_4 at hv
    refine bx_iload_n C 5 dX8_counted_4 rfl rfl rfl ?_
    refine bx_aload_n C 6 dX8_counted_5 rfl rfl rfl ?_
    refine bx_getf (v := .ref (a 1)) C 9 0 0 inX8 rfl (by decide) fl_X8_7 dX8_counted_6 at_M_0 rfl rfl ?_
    refine bx_bipush C 8 11 dX8_counted_9 bp_8 rfl ?_
    refine bx_iald_k (f := u.1) C 12 1 8 dX8_counted_11 at_M_1 vin_8_171 cl_8 rfl ?_
    refine bx_icmp_ge C 37 15 dX8_counted_12 (by decide) rfl (fun h => ?_) (fun h => ?_)
    · replace hv := hv.1 h
      refine bx_iconst C 0 38 dX8_counted_37 ic_0 rfl ?_
      refine bx_istore_n C 39 dX8_counted_38 rfl (by decide) rfl ?_
      refine bx_iconst C 0 40 dX8_counted_39 ic_0 rfl ?_
      refine bx_istore C 42 dX8_counted_40 (by decide) rfl ?_
      obtain ⟨n2, hv⟩ := hv
      exact bx_cut [2, 3, 4, 1, 0] (w_M E a u) rfl rfl (t_X8_counted_42 C u  n2  x1 x2 0 0 hv)
    · replace hv := hv.2 h
      refine bx_iload_n C 16 dX8_counted_15 rfl rfl rfl ?_
      refine bx_aload_n C 17 dX8_counted_16 rfl rfl rfl ?_
      refine bx_iload_n C 18 dX8_counted_17 rfl rfl rfl ?_
      refine bx_pVi C 0 at_M_0 rfl 21 fc_X8_216 (k_X8_isOut l E a _ _ _ hv) dX8_counted_18 ⟨rfl, rfl, Nat.le_of_ble_eq_true rfl, Nat.le_of_ble_eq_true rfl⟩ [0, 1, 2, 3, 4, 5, 6, 7, 8, 9] ps_M_M_0 (by decide) rfl rfl (Nat.le_of_ble_eq_true rfl) rfl (fun r3 hv => ?_)
      refine bx_if_eq C 28 24 dX8_counted_21 (by decide) rfl (fun h => ?_) (fun h => ?_)
      · replace hv := hv.1 h
        refine bx_iconst C 1 29 dX8_counted_28 ic_1 rfl ?_
        refine bx_iadd C 30 dX8_counted_29 rfl ?_
        refine bx_istore_n C 31 dX8_counted_30 rfl (by decide) rfl ?_
        refine bx_iinc C 1 34 dX8_counted_31 rfl (by decide) ic_1 rfl ?_
        refine bx_goto C 4 dX8_counted_34 (by decide) ?_
        exact bx_cut [2, 3, 1, 0] (w_M E a u) rfl rfl (ih  x1 (x2 + 1) (x3 + 1) hv)
      · replace hv := hv.2 h
        refine bx_iconst C 0 25 dX8_counted_24 ic_0 rfl ?_
        refine bx_goto C 29 dX8_counted_25 (by decide) ?_
        refine bx_iadd C 30 dX8_counted_29 rfl ?_
        refine bx_istore_n C 31 dX8_counted_30 rfl (by decide) rfl ?_
        refine bx_iinc C 1 34 dX8_counted_31 rfl (by decide) ic_1 rfl ?_
        refine bx_goto C 4 dX8_counted_34 (by decide) ?_
        exact bx_cut [2, 3, 1, 0] (w_M E a u) rfl rfl (ih  x1 (x2 + 0) (x3 + 1) hv)
def V_X8_counted  (K : Int32 → Prop)  (u : MS) (x1 : Int32) : Prop := ∃ n4, V_X8_counted_4 K n4 u x1 0 0
set_option maxRecDepth 20000 in
set_option maxHeartbeats 4000000 in
theorem t_X8_counted_0 {a : Nat → Nat} {K : Int32 → Prop} (C : bx_C p (rmD 3) S m args meth c cX8_counted 5 yX8_counted.cls (some .int) E A 0 0) (u : MS)   (x1 : Int32) (hv : V_X8_counted K u x1) : G_X8_counted p l e S m args below meth c E A a  u K 0 [(0, .ref (a 0)), (1, .int x1)] [] (w_M E a u) := by
  unfold V_X8_counted at hv
  refine bx_iconst C 0 1 dX8_counted_0 ic_0 rfl ?_
  refine bx_istore_n C 2 dX8_counted_1 rfl (by decide) rfl ?_
  refine bx_iconst C 0 3 dX8_counted_2 ic_0 rfl ?_
  refine bx_istore_n C 4 dX8_counted_3 rfl (by decide) rfl ?_
  obtain ⟨n4, hv⟩ := hv
  exact bx_cut [2, 3, 1, 0] (w_M E a u) rfl rfl (t_X8_counted_4 C u  n4  x1 0 0 hv)
theorem k_X8_counted (l : Launch) (E : bx_E) (a : Nat → Nat)  (K : Int32 → Prop) (u : MS) (x1 : Int32) (hv : V_X8_counted  K u x1) : bx_Mi l E yX8_counted cX8_counted 5 (some .int) (rmD 3) [.ref (a 0), .int x1] (fun (_ : Unit) => w_M E a u) () (fun r (_ : Unit) => K r) :=
  bx_meti (by decide +kernel) (Nat.le_of_ble_eq_true rfl) (fun p e S m below meth c C => t_X8_counted_0 C u x1 hv)
abbrev G_X8_count (p : Program) (l : Launch) (e : Env) (S : State) (m : MethodId) (args : Array Value) (below : List Frame) (meth : Method) (c : Code) (E : bx_E) (A : Nat → Prop) (a : Nat → Nat)  (K : Int32 → MS → Prop) (pc : Nat) (lv : List (Nat × Value)) (st : List Value) (ws : va_W) : Prop := bx_S p l e (rmD 4) S m args below meth c 2 E A (MQ below (va_Qi K (fun (u : MS) t => bx_B E A (w_M E a u) t) A) args S 0 0 A) 0 0 pc lv st ws
def V_X8_count  (K : Int32 → MS → Prop)  (u : MS) (x1 : Int32) : Prop := (V_X8_in (fun r1 => ((r1 = 0 → (V_X8_bad (fun r2 u3 => K r2 u3) u )) ∧
 (¬ r1 = 0 → (V_X8_counted (fun r4 => K r4 u) u x1))))  ((x1 : Int32).toInt64) 0 9)
set_option maxRecDepth 20000 in
set_option maxHeartbeats 4000000 in
theorem t_X8_count_0 {a : Nat → Nat} {K : Int32 → MS → Prop} (C : bx_C p (rmD 4) S m args meth c cX8_count 2 yX8_count.cls (some .int) E A 0 0)   (u : MS) (x1 : Int32) (hv : V_X8_count K u x1) : G_X8_count p l e S m args below meth c E A a  K 0 [(0, .ref (a 0)), (1, .int x1)] [] (w_M E a u) := by
  unfold V_X8_count at hv
  refine bx_iload_n C 1 dX8_count_0 rfl rfl rfl ?_
  refine bx_i2l C 2 dX8_count_1 rfl ?_
  refine bx_lconst C 0 3 dX8_count_2 lc_0 rfl ?_
  refine bx_ldc2 C 6 cs_X8_295 dX8_count_3 rfl ?_
  refine bx_pSi C 9 fc_X8_46 (k_X8_in l E  _ _ _ _ hv) dX8_count_6 ⟨rfl, rfl, Nat.le_of_ble_eq_true rfl, Nat.le_of_ble_eq_true rfl⟩ [] rfl (by decide) rfl rfl (Nat.le_of_ble_eq_true rfl) rfl (fun r1 hv => ?_)
  refine bx_if_eq C 20 12 dX8_count_9 (by decide) rfl (fun h => ?_) (fun h => ?_)
  · replace hv := hv.1 h
    refine bx_aload_n C 21 dX8_count_20 rfl rfl rfl ?_
    refine bx_qVi C 0 at_M_0 rfl 24 fc_X8_101 (k_X8_bad l E a _ _ hv) dX8_count_21 ⟨rfl, rfl, Nat.le_of_ble_eq_true rfl, Nat.le_of_ble_eq_true rfl⟩ [0, 1, 2, 3, 4, 5, 6, 7, 8, 9] (fun u3 => w_M E a u3) ps_M_M_0 (by decide) ad_M pu_M_M_0 rfl rfl (Nat.le_of_ble_eq_true rfl) rfl (fun r2 u3 hv => ?_)
    exact bx_iret C u3 rfl dX8_count_24 rfl hv
  · replace hv := hv.2 h
    refine bx_aload_n C 13 dX8_count_12 rfl rfl rfl ?_
    refine bx_iload_n C 14 dX8_count_13 rfl rfl rfl ?_
    refine bx_pVi C 0 at_M_0 rfl 17 fc_X8_297 (k_X8_counted l E a _ _ _ hv) dX8_count_14 ⟨rfl, rfl, Nat.le_of_ble_eq_true rfl, Nat.le_of_ble_eq_true rfl⟩ [0, 1, 2, 3, 4, 5, 6, 7, 8, 9] ps_M_M_0 (by decide) rfl rfl (Nat.le_of_ble_eq_true rfl) rfl (fun r4 hv => ?_)
    refine bx_goto C 24 dX8_count_17 (by decide) ?_
    exact bx_iret C u rfl dX8_count_24 rfl hv
theorem k_X8_count (l : Launch) (E : bx_E) (a : Nat → Nat)  (K : Int32 → MS → Prop) (u : MS) (x1 : Int32) (hv : V_X8_count  K u x1) : bx_Mi l E yX8_count cX8_count 2 (some .int) (rmD 4) [.ref (a 0), .int x1] (fun (u : MS) => w_M E a u) u K :=
  bx_meti (by decide +kernel) (Nat.le_of_ble_eq_true rfl) (fun p e S m below meth c C => t_X8_count_0 C u x1 hv)
abbrev G_X8_digestOf (p : Program) (l : Launch) (e : Env) (S : State) (m : MethodId) (args : Array Value) (below : List Frame) (meth : Method) (c : Code) (E : bx_E) (A : Nat → Prop) (a : Nat → Nat)  (u : MS) (K : Int64 → Prop) (pc : Nat) (lv : List (Nat × Value)) (st : List Value) (ws : va_W) : Prop := bx_S p l e (rmD 0) S m args below meth c 8 E A (MQ below (va_Ql (fun r (_ : Unit) => K r) (fun (_ : Unit) t => bx_B E A (w_M E a u) t) A) args S 0 0 A) 0 0 pc lv st ws
def V_X8_digestOf_6  (K : Int64 → Prop)  : Nat → MS → Int32 → Int32 → Int64 → Int32 → Prop
  | 0, _, _, _, _, _ => False
  | n + 1, u, x3, x4, x5, x7 => ((x4 ≤ x7 → K x5) ∧
 (¬ x4 ≤ x7 → (vp_in (x3 + x7) 171 ∧ V_X8_digestOf_6 K n u x3 x4 ((31 * x5) + ((u.1 ((x3 + x7) : Int32).toNatClampNeg) : Int32).toInt64) (x7 + 1))))
set_option maxRecDepth 20000 in
set_option maxHeartbeats 4000000 in
theorem t_X8_digestOf_6 {a : Nat → Nat} {K : Int64 → Prop} (C : bx_C p (rmD 0) S m args meth c cX8_digestOf 8 yX8_digestOf.cls (some .long) E A 0 0) (u : MS)  : ∀ (n : Nat)  (x3 : Int32) (x4 : Int32) (x5 : Int64) (x7 : Int32), V_X8_digestOf_6 K n u x3 x4 x5 x7 → G_X8_digestOf p l e S m args below meth c E A a  u K 6 [(0, .ref (a 0)), (3, .int x3), (4, .int x4), (5, .long x5), (7, .int x7)] [] (w_M E a u) := by
  intro n
  induction n with
  | zero =>
    intro x3 x4 x5 x7 hv
    exact False.elim hv
  | succ n ih =>
    intro x3 x4 x5 x7 hv
    unfold V_X8_digestOf_6 at hv
    refine bx_iload C 8 dX8_digestOf_6 rfl rfl ?_
    refine bx_iload C 10 dX8_digestOf_8 rfl rfl ?_
    refine bx_icmp_ge C 38 13 dX8_digestOf_10 (by decide) rfl (fun h => ?_) (fun h => ?_)
    · replace hv := hv.1 h
      refine bx_lload C 40 dX8_digestOf_38 rfl rfl ?_
      exact bx_lret C () rfl dX8_digestOf_40 rfl hv
    · replace hv := hv.2 h
      refine bx_ldc2 C 16 cs_X8_300 dX8_digestOf_13 rfl ?_
      refine bx_lload C 18 dX8_digestOf_16 rfl rfl ?_
      refine bx_lmul C 19 dX8_digestOf_18 rfl ?_
      refine bx_aload_n C 20 dX8_digestOf_19 rfl rfl rfl ?_
      refine bx_getf (v := .ref (a 1)) C 23 0 0 inX8 rfl (by decide) fl_X8_7 dX8_digestOf_20 at_M_0 rfl rfl ?_
      refine bx_iload_n C 24 dX8_digestOf_23 rfl rfl rfl ?_
      refine bx_iload C 26 dX8_digestOf_24 rfl rfl ?_
      refine bx_iadd C 27 dX8_digestOf_26 rfl ?_
      refine bx_iald (f := u.1) C 28 1 dX8_digestOf_27 at_M_1 hv.1 rfl ?_
      replace hv := hv.2
      refine bx_i2l C 29 dX8_digestOf_28 rfl ?_
      refine bx_ladd C 30 dX8_digestOf_29 rfl ?_
      refine bx_lstore C 32 dX8_digestOf_30 (by decide) rfl ?_
      refine bx_iinc C 1 35 dX8_digestOf_32 rfl (by decide) ic_1 rfl ?_
      refine bx_goto C 6 dX8_digestOf_35 (by decide) ?_
      exact bx_cut [2, 3, 4, 1, 0] (w_M E a u) rfl rfl (ih  x3 x4 ((31 * x5) + ((u.1 ((x3 + x7) : Int32).toNatClampNeg) : Int32).toInt64) (x7 + 1) hv)
def V_X8_digestOf  (K : Int64 → Prop)  (u : MS) (x1 : Int64) (x3 : Int32) (x4 : Int32) : Prop := ∃ n1, V_X8_digestOf_6 K n1 u x3 x4 x1 0
set_option maxRecDepth 20000 in
set_option maxHeartbeats 4000000 in
theorem t_X8_digestOf_0 {a : Nat → Nat} {K : Int64 → Prop} (C : bx_C p (rmD 0) S m args meth c cX8_digestOf 8 yX8_digestOf.cls (some .long) E A 0 0) (u : MS)   (x1 : Int64) (x3 : Int32) (x4 : Int32) (hv : V_X8_digestOf K u x1 x3 x4) : G_X8_digestOf p l e S m args below meth c E A a  u K 0 [(0, .ref (a 0)), (1, .long x1), (3, .int x3), (4, .int x4)] [] (w_M E a u) := by
  unfold V_X8_digestOf at hv
  refine bx_lload_n C 1 dX8_digestOf_0 rfl rfl rfl ?_
  refine bx_lstore C 3 dX8_digestOf_1 (by decide) rfl ?_
  refine bx_iconst C 0 4 dX8_digestOf_3 ic_0 rfl ?_
  refine bx_istore C 6 dX8_digestOf_4 (by decide) rfl ?_
  obtain ⟨n1, hv⟩ := hv
  exact bx_cut [2, 4, 5, 1, 0] (w_M E a u) rfl rfl (t_X8_digestOf_6 C u  n1  x3 x4 x1 0 hv)
theorem k_X8_digestOf (l : Launch) (E : bx_E) (a : Nat → Nat)  (K : Int64 → Prop) (u : MS) (x1 : Int64) (x3 : Int32) (x4 : Int32) (hv : V_X8_digestOf  K u x1 x3 x4) : bx_Ml l E yX8_digestOf cX8_digestOf 8 (some .long) (rmD 0) [.ref (a 0), .long x1, .int x3, .int x4] (fun (_ : Unit) => w_M E a u) () (fun r (_ : Unit) => K r) :=
  bx_metl (by decide +kernel) (Nat.le_of_ble_eq_true rfl) (fun p e S m below meth c C => t_X8_digestOf_0 C u x1 x3 x4 hv)
abbrev G_X8_digest (p : Program) (l : Launch) (e : Env) (S : State) (m : MethodId) (args : Array Value) (below : List Frame) (meth : Method) (c : Code) (E : bx_E) (A : Nat → Prop) (a : Nat → Nat)  (u : MS) (K : Int64 → Prop) (pc : Nat) (lv : List (Nat × Value)) (st : List Value) (ws : va_W) : Prop := bx_S p l e (rmD 4) S m args below meth c 4 E A (MQ below (va_Ql (fun r (_ : Unit) => K r) (fun (_ : Unit) t => bx_B E A (w_M E a u) t) A) args S 0 0 A) 0 0 pc lv st ws
def V_X8_digest_42  (K : Int64 → Prop)  : Nat → MS → Int64 → Int32 → Prop
  | 0, _, _, _ => False
  | n + 1, u, x1, x3 => (((u.1 8) ≤ x3 → (V_X8_digestOf (fun r1 => (V_X8_digestOf (fun r2 => (V_X8_digestOf (fun r3 => K ((31 * ((31 * r3) + u.2.2.2.2.1)) + u.2.2.2.2.2.1)) u r2 66 (4 * (u.1 65)))) u r1 47 (3 * (u.1 46)))) u x1 31 (3 * (u.1 30)))) ∧
 (¬ (u.1 8) ≤ x3 → (V_X8_digestOf (fun r4 => (V_X8_cellOf (fun r5 => V_X8_digest_42 K n u ((31 * r4) + (r5 : Int32).toInt64) (x3 + 1)) u.1 x3)) u x1 (9 + (3 * x3)) 2)))
set_option maxRecDepth 20000 in
set_option maxHeartbeats 4000000 in
theorem t_X8_digest_42 {a : Nat → Nat} {K : Int64 → Prop} (C : bx_C p (rmD 4) S m args meth c cX8_digest 4 yX8_digest.cls (some .long) E A 0 0) (u : MS)  : ∀ (n : Nat)  (x1 : Int64) (x3 : Int32), V_X8_digest_42 K n u x1 x3 → G_X8_digest p l e S m args below meth c E A a  u K 42 [(0, .ref (a 0)), (1, .long x1), (3, .int x3)] [] (w_M E a u) := by
  intro n
  induction n with
  | zero =>
    intro x1 x3 hv
    exact False.elim hv
  | succ n ih =>
    intro x1 x3 hv
    unfold V_X8_digest_42 at hv
    refine bx_iload_n C 43 dX8_digest_42 rfl rfl rfl ?_
    refine bx_aload_n C 44 dX8_digest_43 rfl rfl rfl ?_
    refine bx_getf (v := .ref (a 1)) C 47 0 0 inX8 rfl (by decide) fl_X8_7 dX8_digest_44 at_M_0 rfl rfl ?_
    refine bx_bipush C 8 49 dX8_digest_47 bp_8 rfl ?_
    refine bx_iald_k (f := u.1) C 50 1 8 dX8_digest_49 at_M_1 vin_8_171 cl_8 rfl ?_
    refine bx_icmp_ge C 88 53 dX8_digest_50 (by decide) rfl (fun h => ?_) (fun h => ?_)
    · replace hv := hv.1 h
      refine bx_aload_n C 89 dX8_digest_88 rfl rfl rfl ?_
      refine bx_lload_n C 90 dX8_digest_89 rfl rfl rfl ?_
      refine bx_bipush C 31 92 dX8_digest_90 bp_31 rfl ?_
      refine bx_iconst C 3 93 dX8_digest_92 ic_3 rfl ?_
      refine bx_aload_n C 94 dX8_digest_93 rfl rfl rfl ?_
      refine bx_getf (v := .ref (a 1)) C 97 0 0 inX8 rfl (by decide) fl_X8_7 dX8_digest_94 at_M_0 rfl rfl ?_
      refine bx_bipush C 30 99 dX8_digest_97 bp_30 rfl ?_
      refine bx_iald_k (f := u.1) C 100 1 30 dX8_digest_99 at_M_1 vin_30_171 cl_30 rfl ?_
      refine bx_imul C 101 dX8_digest_100 rfl ?_
      refine bx_pVl C 0 at_M_0 rfl 104 fc_X8_304 (k_X8_digestOf l E a _ _ _ _ _ hv) dX8_digest_101 ⟨rfl, rfl, Nat.le_of_ble_eq_true rfl, Nat.le_of_ble_eq_true rfl⟩ [0, 1, 2, 3, 4, 5, 6, 7, 8, 9] ps_M_M_0 (by decide) rfl rfl (Nat.le_of_ble_eq_true rfl) rfl (fun r1 hv => ?_)
      refine bx_lstore_n C 105 dX8_digest_104 rfl (by decide) rfl ?_
      refine bx_aload_n C 106 dX8_digest_105 rfl rfl rfl ?_
      refine bx_lload_n C 107 dX8_digest_106 rfl rfl rfl ?_
      refine bx_bipush C 47 109 dX8_digest_107 bp_47 rfl ?_
      refine bx_iconst C 3 110 dX8_digest_109 ic_3 rfl ?_
      refine bx_aload_n C 111 dX8_digest_110 rfl rfl rfl ?_
      refine bx_getf (v := .ref (a 1)) C 114 0 0 inX8 rfl (by decide) fl_X8_7 dX8_digest_111 at_M_0 rfl rfl ?_
      refine bx_bipush C 46 116 dX8_digest_114 bp_46 rfl ?_
      refine bx_iald_k (f := u.1) C 117 1 46 dX8_digest_116 at_M_1 vin_46_171 cl_46 rfl ?_
      refine bx_imul C 118 dX8_digest_117 rfl ?_
      refine bx_pVl C 0 at_M_0 rfl 121 fc_X8_304 (k_X8_digestOf l E a _ _ _ _ _ hv) dX8_digest_118 ⟨rfl, rfl, Nat.le_of_ble_eq_true rfl, Nat.le_of_ble_eq_true rfl⟩ [0, 1, 2, 3, 4, 5, 6, 7, 8, 9] ps_M_M_0 (by decide) rfl rfl (Nat.le_of_ble_eq_true rfl) rfl (fun r2 hv => ?_)
      refine bx_lstore_n C 122 dX8_digest_121 rfl (by decide) rfl ?_
      refine bx_aload_n C 123 dX8_digest_122 rfl rfl rfl ?_
      refine bx_lload_n C 124 dX8_digest_123 rfl rfl rfl ?_
      refine bx_bipush C 66 126 dX8_digest_124 bp_66 rfl ?_
      refine bx_iconst C 4 127 dX8_digest_126 ic_4 rfl ?_
      refine bx_aload_n C 128 dX8_digest_127 rfl rfl rfl ?_
      refine bx_getf (v := .ref (a 1)) C 131 0 0 inX8 rfl (by decide) fl_X8_7 dX8_digest_128 at_M_0 rfl rfl ?_
      refine bx_bipush C 65 133 dX8_digest_131 bp_65 rfl ?_
      refine bx_iald_k (f := u.1) C 134 1 65 dX8_digest_133 at_M_1 vin_65_171 cl_65 rfl ?_
      refine bx_imul C 135 dX8_digest_134 rfl ?_
      refine bx_pVl C 0 at_M_0 rfl 138 fc_X8_304 (k_X8_digestOf l E a _ _ _ _ _ hv) dX8_digest_135 ⟨rfl, rfl, Nat.le_of_ble_eq_true rfl, Nat.le_of_ble_eq_true rfl⟩ [0, 1, 2, 3, 4, 5, 6, 7, 8, 9] ps_M_M_0 (by decide) rfl rfl (Nat.le_of_ble_eq_true rfl) rfl (fun r3 hv => ?_)
      refine bx_lstore_n C 139 dX8_digest_138 rfl (by decide) rfl ?_
      refine bx_ldc2 C 142 cs_X8_300 dX8_digest_139 rfl ?_
      refine bx_ldc2 C 145 cs_X8_300 dX8_digest_142 rfl ?_
      refine bx_lload_n C 146 dX8_digest_145 rfl rfl rfl ?_
      refine bx_lmul C 147 dX8_digest_146 rfl ?_
      refine bx_aload_n C 148 dX8_digest_147 rfl rfl rfl ?_
      refine bx_getf (v := .long u.2.2.2.2.1) C 151 0 4 inX8 rfl (by decide) fl_X8_52 dX8_digest_148 at_M_0 rfl rfl ?_
      refine bx_ladd C 152 dX8_digest_151 rfl ?_
      refine bx_lmul C 153 dX8_digest_152 rfl ?_
      refine bx_aload_n C 154 dX8_digest_153 rfl rfl rfl ?_
      refine bx_getf (v := .long u.2.2.2.2.2.1) C 157 0 5 inX8 rfl (by decide) fl_X8_23 dX8_digest_154 at_M_0 rfl rfl ?_
      refine bx_ladd C 158 dX8_digest_157 rfl ?_
      exact bx_lret C () rfl dX8_digest_158 rfl hv
    · replace hv := hv.2 h
      refine bx_aload_n C 54 dX8_digest_53 rfl rfl rfl ?_
      refine bx_lload_n C 55 dX8_digest_54 rfl rfl rfl ?_
      refine bx_bipush C 9 57 dX8_digest_55 bp_9 rfl ?_
      refine bx_iconst C 3 58 dX8_digest_57 ic_3 rfl ?_
      refine bx_iload_n C 59 dX8_digest_58 rfl rfl rfl ?_
      refine bx_imul C 60 dX8_digest_59 rfl ?_
      refine bx_iadd C 61 dX8_digest_60 rfl ?_
      refine bx_iconst C 2 62 dX8_digest_61 ic_2 rfl ?_
      refine bx_pVl C 0 at_M_0 rfl 65 fc_X8_304 (k_X8_digestOf l E a _ _ _ _ _ hv) dX8_digest_62 ⟨rfl, rfl, Nat.le_of_ble_eq_true rfl, Nat.le_of_ble_eq_true rfl⟩ [0, 1, 2, 3, 4, 5, 6, 7, 8, 9] ps_M_M_0 (by decide) rfl rfl (Nat.le_of_ble_eq_true rfl) rfl (fun r4 hv => ?_)
      refine bx_lstore_n C 66 dX8_digest_65 rfl (by decide) rfl ?_
      refine bx_ldc2 C 69 cs_X8_300 dX8_digest_66 rfl ?_
      refine bx_lload_n C 70 dX8_digest_69 rfl rfl rfl ?_
      refine bx_lmul C 71 dX8_digest_70 rfl ?_
      refine bx_aload_n C 72 dX8_digest_71 rfl rfl rfl ?_
      refine bx_getf (v := .ref (a 1)) C 75 0 0 inX8 rfl (by decide) fl_X8_7 dX8_digest_72 at_M_0 rfl rfl ?_
      refine bx_iload_n C 76 dX8_digest_75 rfl rfl rfl ?_
      refine bx_pSi C 79 fc_X8_59 (k_X8_cellOf l E (fun k => a (1 + k)) _ _ _ hv) dX8_digest_76 ⟨rfl, rfl, Nat.le_of_ble_eq_true rfl, Nat.le_of_ble_eq_true rfl⟩ [1] ps_M_A_1 (by decide) rfl rfl (Nat.le_of_ble_eq_true rfl) rfl (fun r5 hv => ?_)
      refine bx_i2l C 80 dX8_digest_79 rfl ?_
      refine bx_ladd C 81 dX8_digest_80 rfl ?_
      refine bx_lstore_n C 82 dX8_digest_81 rfl (by decide) rfl ?_
      refine bx_iinc C 1 85 dX8_digest_82 rfl (by decide) ic_1 rfl ?_
      refine bx_goto C 42 dX8_digest_85 (by decide) ?_
      exact bx_cut [2, 1, 0] (w_M E a u) rfl rfl (ih  ((31 * r4) + (r5 : Int32).toInt64) (x3 + 1) hv)
def V_X8_digest_6  (K : Int64 → Prop)  : Nat → MS → Int64 → Int32 → Prop
  | 0, _, _, _ => False
  | n + 1, u, x1, x3 => ((10 ≤ x3 → (V_X8_digestOf (fun r6 => ∃ n7, V_X8_digest_42 K n7 u r6 0) u x1 0 6)) ∧
 (¬ 10 ≤ x3 → (V_X8_counted (fun r8 => V_X8_digest_6 K n u ((31 * x1) + (r8 : Int32).toInt64) (x3 + 1)) u x3)))
set_option maxRecDepth 20000 in
set_option maxHeartbeats 4000000 in
theorem t_X8_digest_6 {a : Nat → Nat} {K : Int64 → Prop} (C : bx_C p (rmD 4) S m args meth c cX8_digest 4 yX8_digest.cls (some .long) E A 0 0) (u : MS)  : ∀ (n : Nat)  (x1 : Int64) (x3 : Int32), V_X8_digest_6 K n u x1 x3 → G_X8_digest p l e S m args below meth c E A a  u K 6 [(0, .ref (a 0)), (1, .long x1), (3, .int x3)] [] (w_M E a u) := by
  intro n
  induction n with
  | zero =>
    intro x1 x3 hv
    exact False.elim hv
  | succ n ih =>
    intro x1 x3 hv
    unfold V_X8_digest_6 at hv
    refine bx_iload_n C 7 dX8_digest_6 rfl rfl rfl ?_
    refine bx_bipush C 10 9 dX8_digest_7 bp_10 rfl ?_
    refine bx_icmp_ge C 31 12 dX8_digest_9 (by decide) rfl (fun h => ?_) (fun h => ?_)
    · replace hv := hv.1 h
      refine bx_aload_n C 32 dX8_digest_31 rfl rfl rfl ?_
      refine bx_lload_n C 33 dX8_digest_32 rfl rfl rfl ?_
      refine bx_iconst C 0 34 dX8_digest_33 ic_0 rfl ?_
      refine bx_bipush C 6 36 dX8_digest_34 bp_6 rfl ?_
      refine bx_pVl C 0 at_M_0 rfl 39 fc_X8_304 (k_X8_digestOf l E a _ _ _ _ _ hv) dX8_digest_36 ⟨rfl, rfl, Nat.le_of_ble_eq_true rfl, Nat.le_of_ble_eq_true rfl⟩ [0, 1, 2, 3, 4, 5, 6, 7, 8, 9] ps_M_M_0 (by decide) rfl rfl (Nat.le_of_ble_eq_true rfl) rfl (fun r6 hv => ?_)
      refine bx_lstore_n C 40 dX8_digest_39 rfl (by decide) rfl ?_
      refine bx_iconst C 0 41 dX8_digest_40 ic_0 rfl ?_
      refine bx_istore_n C 42 dX8_digest_41 rfl (by decide) rfl ?_
      obtain ⟨n7, hv⟩ := hv
      exact bx_cut [2, 1, 0] (w_M E a u) rfl rfl (t_X8_digest_42 C u  n7  r6 0 hv)
    · replace hv := hv.2 h
      refine bx_ldc2 C 15 cs_X8_300 dX8_digest_12 rfl ?_
      refine bx_lload_n C 16 dX8_digest_15 rfl rfl rfl ?_
      refine bx_lmul C 17 dX8_digest_16 rfl ?_
      refine bx_aload_n C 18 dX8_digest_17 rfl rfl rfl ?_
      refine bx_iload_n C 19 dX8_digest_18 rfl rfl rfl ?_
      refine bx_pVi C 0 at_M_0 rfl 22 fc_X8_297 (k_X8_counted l E a _ _ _ hv) dX8_digest_19 ⟨rfl, rfl, Nat.le_of_ble_eq_true rfl, Nat.le_of_ble_eq_true rfl⟩ [0, 1, 2, 3, 4, 5, 6, 7, 8, 9] ps_M_M_0 (by decide) rfl rfl (Nat.le_of_ble_eq_true rfl) rfl (fun r8 hv => ?_)
      refine bx_i2l C 23 dX8_digest_22 rfl ?_
      refine bx_ladd C 24 dX8_digest_23 rfl ?_
      refine bx_lstore_n C 25 dX8_digest_24 rfl (by decide) rfl ?_
      refine bx_iinc C 1 28 dX8_digest_25 rfl (by decide) ic_1 rfl ?_
      refine bx_goto C 6 dX8_digest_28 (by decide) ?_
      exact bx_cut [2, 1, 0] (w_M E a u) rfl rfl (ih  ((31 * x1) + (r8 : Int32).toInt64) (x3 + 1) hv)
def V_X8_digest  (K : Int64 → Prop)  (u : MS)  : Prop := ∃ n9, V_X8_digest_6 K n9 u 1699 0
set_option maxRecDepth 20000 in
set_option maxHeartbeats 4000000 in
theorem t_X8_digest_0 {a : Nat → Nat} {K : Int64 → Prop} (C : bx_C p (rmD 4) S m args meth c cX8_digest 4 yX8_digest.cls (some .long) E A 0 0) (u : MS)    (hv : V_X8_digest K u ) : G_X8_digest p l e S m args below meth c E A a  u K 0 [(0, .ref (a 0))] [] (w_M E a u) := by
  unfold V_X8_digest at hv
  refine bx_ldc2 C 3 cs_X8_302 dX8_digest_0 rfl ?_
  refine bx_lstore_n C 4 dX8_digest_3 rfl (by decide) rfl ?_
  refine bx_iconst C 0 5 dX8_digest_4 ic_0 rfl ?_
  refine bx_istore_n C 6 dX8_digest_5 rfl (by decide) rfl ?_
  obtain ⟨n9, hv⟩ := hv
  exact bx_cut [2, 1, 0] (w_M E a u) rfl rfl (t_X8_digest_6 C u  n9  1699 0 hv)
theorem k_X8_digest (l : Launch) (E : bx_E) (a : Nat → Nat)  (K : Int64 → Prop) (u : MS)  (hv : V_X8_digest  K u ) : bx_Ml l E yX8_digest cX8_digest 4 (some .long) (rmD 4) [.ref (a 0)] (fun (_ : Unit) => w_M E a u) () (fun r (_ : Unit) => K r) :=
  bx_metl (by decide +kernel) (Nat.le_of_ble_eq_true rfl) (fun p e S m below meth c C => t_X8_digest_0 C u  hv)
end
