section
variable {p : Program} {l : Launch} {e : Env} {S : State} {m : MethodId} {args : Array Value} {below : List Frame} {meth : Method} {c : Code} {E : bx_E} {A : Nat → Prop}
abbrev G_X8_in (p : Program) (l : Launch) (e : Env) (S : State) (m : MethodId) (args : Array Value) (below : List Frame) (meth : Method) (c : Code) (E : bx_E) (A : Nat → Prop)   (K : Int32 → Prop) (pc : Nat) (lv : List (Nat × Value)) (st : List Value) (ws : va_W) : Prop := bx_S p l e (rmD 0) S m args below meth c 6 E A (MQ below (va_Qi (fun r (_ : Unit) => K r) (fun (_ : Unit) t => bx_B E A (([] : va_W)) t) A) args S 0 0 A) 0 0 pc lv st ws
def V_X8_in  (K : Int32 → Prop)   (x0 : Int64) (x2 : Int64) (x4 : Int64) : Prop := (((lg_cmp x0 x2) < 0 → K 0) ∧
 (¬ (lg_cmp x0 x2) < 0 → ((0 < (lg_cmp x0 x4) → K 0) ∧
 (¬ 0 < (lg_cmp x0 x4) → K 1))))
set_option maxRecDepth 20000 in
set_option maxHeartbeats 4000000 in
theorem t_X8_in_0 {K : Int32 → Prop} (C : bx_C p (rmD 0) S m args meth c cX8_in 6 yX8_in.cls (some .boolean) E A 0 0)    (x0 : Int64) (x2 : Int64) (x4 : Int64) (hv : V_X8_in K  x0 x2 x4) : G_X8_in p l e S m args below meth c E A   K 0 [(0, .long x0), (2, .long x2), (4, .long x4)] [] (([] : va_W)) := by
  unfold V_X8_in at hv
  refine bx_lload_n C 1 dX8_in_0 rfl rfl rfl ?_
  refine bx_lload_n C 2 dX8_in_1 rfl rfl rfl ?_
  refine bx_lcmp C 3 dX8_in_2 rfl ?_
  refine bx_if_lt C 17 6 dX8_in_3 (by decide) rfl (fun h => ?_) (fun h => ?_)
  · replace hv := hv.1 h
    refine bx_iconst C 0 18 dX8_in_17 ic_0 rfl ?_
    exact bx_zret C () rfl dX8_in_18 rfl (Or.inl rfl) hv
  · replace hv := hv.2 h
    refine bx_lload_n C 7 dX8_in_6 rfl rfl rfl ?_
    refine bx_lload C 9 dX8_in_7 rfl rfl ?_
    refine bx_lcmp C 10 dX8_in_9 rfl ?_
    refine bx_if_gt C 17 13 dX8_in_10 (by decide) rfl (fun h => ?_) (fun h => ?_)
    · replace hv := hv.1 h
      refine bx_iconst C 0 18 dX8_in_17 ic_0 rfl ?_
      exact bx_zret C () rfl dX8_in_18 rfl (Or.inl rfl) hv
    · replace hv := hv.2 h
      refine bx_iconst C 1 14 dX8_in_13 ic_1 rfl ?_
      refine bx_goto C 18 dX8_in_14 (by decide) ?_
      exact bx_zret C () rfl dX8_in_18 rfl (Or.inr rfl) hv
theorem k_X8_in (l : Launch) (E : bx_E)   (K : Int32 → Prop)  (x0 : Int64) (x2 : Int64) (x4 : Int64) (hv : V_X8_in  K  x0 x2 x4) : bx_Mi l E yX8_in cX8_in 6 (some .boolean) (rmD 0) [.long x0, .long x2, .long x4] (fun (_ : Unit) => ([] : va_W)) () (fun r (_ : Unit) => K r) :=
  bx_meti (by decide +kernel) (Nat.le_of_ble_eq_true rfl) (fun p e S m below meth c C => t_X8_in_0 C  x0 x2 x4 hv)
abbrev G_X8_bad (p : Program) (l : Launch) (e : Env) (S : State) (m : MethodId) (args : Array Value) (below : List Frame) (meth : Method) (c : Code) (E : bx_E) (A : Nat → Prop) (a : Nat → Nat)  (K : Int32 → MS → Prop) (pc : Nat) (lv : List (Nat × Value)) (st : List Value) (ws : va_W) : Prop := bx_S p l e (rmD 0) S m args below meth c 1 E A (MQ below (va_Qi K (fun (u : MS) t => bx_B E A (w_M E a u) t) A) args S 0 0 A) 0 0 pc lv st ws
def V_X8_bad  (K : Int32 → MS → Prop)  (u : MS)  : Prop := K (-2) (u.1, u.2.1, u.2.2.1, u.2.2.2.1, u.2.2.2.2.1, u.2.2.2.2.2.1, (upd u.2.2.2.2.2.2.1 0 ((u.2.2.2.2.2.2.1 0) + 1)), u.2.2.2.2.2.2.2)
set_option maxRecDepth 20000 in
set_option maxHeartbeats 4000000 in
theorem t_X8_bad_0 {a : Nat → Nat} {K : Int32 → MS → Prop} (C : bx_C p (rmD 0) S m args meth c cX8_bad 1 yX8_bad.cls (some .int) E A 0 0)   (u : MS)  (hv : V_X8_bad K u ) : G_X8_bad p l e S m args below meth c E A a  K 0 [(0, .ref (a 0))] [] (w_M E a u) := by
  unfold V_X8_bad at hv
  refine bx_aload_n C 1 dX8_bad_0 rfl rfl rfl ?_
  refine bx_getf (v := .ref (a 5)) C 4 0 6 inX8 rfl (by decide) fl_X8_27 dX8_bad_1 at_M_0 rfl rfl ?_
  refine bx_iconst C 0 5 dX8_bad_4 ic_0 rfl ?_
  refine bx_dup2_11 C 6 dX8_bad_5 rfl rfl rfl ?_
  refine bx_iald_k (f := u.2.2.2.2.2.2.1) C 7 5 0 dX8_bad_6 at_M_5 vin_0_3 cl_0 rfl ?_
  refine bx_iconst C 1 8 dX8_bad_7 ic_1 rfl ?_
  refine bx_iadd C 9 dX8_bad_8 rfl ?_
  refine bx_iast_k C 10 5 0 (w_M E a (u.1, u.2.1, u.2.2.1, u.2.2.2.1, u.2.2.2.2.1, u.2.2.2.2.2.1, (upd u.2.2.2.2.2.2.1 0 ((u.2.2.2.2.2.2.1 0) + 1)), u.2.2.2.2.2.2.2)) dX8_bad_9 rfl vin_0_3 cl_0 rfl rfl ?_
  refine bx_bipush C (-2) 12 dX8_bad_10 bp_m2 rfl ?_
  exact bx_iret C (u.1, u.2.1, u.2.2.1, u.2.2.2.1, u.2.2.2.2.1, u.2.2.2.2.2.1, (upd u.2.2.2.2.2.2.1 0 ((u.2.2.2.2.2.2.1 0) + 1)), u.2.2.2.2.2.2.2) rfl dX8_bad_12 rfl hv
theorem k_X8_bad (l : Launch) (E : bx_E) (a : Nat → Nat)  (K : Int32 → MS → Prop) (u : MS)  (hv : V_X8_bad  K u ) : bx_Mi l E yX8_bad cX8_bad 1 (some .int) (rmD 0) [.ref (a 0)] (fun (u : MS) => w_M E a u) u K :=
  bx_meti (by decide +kernel) (Nat.le_of_ble_eq_true rfl) (fun p e S m below meth c C => t_X8_bad_0 C u  hv)
abbrev G_X8_badAs (p : Program) (l : Launch) (e : Env) (S : State) (m : MethodId) (args : Array Value) (below : List Frame) (meth : Method) (c : Code) (E : bx_E) (A : Nat → Prop) (a : Nat → Nat)  (K : Int32 → MS → Prop) (pc : Nat) (lv : List (Nat × Value)) (st : List Value) (ws : va_W) : Prop := bx_S p l e (rmD 0) S m args below meth c 2 E A (MQ below (va_Qi K (fun (u : MS) t => bx_B E A (w_M E a u) t) A) args S 0 0 A) 0 0 pc lv st ws
def V_X8_badAs  (K : Int32 → MS → Prop)  (u : MS) (x1 : Int32) : Prop := K x1 (u.1, u.2.1, u.2.2.1, u.2.2.2.1, u.2.2.2.2.1, u.2.2.2.2.2.1, (upd u.2.2.2.2.2.2.1 0 ((u.2.2.2.2.2.2.1 0) + 1)), u.2.2.2.2.2.2.2)
set_option maxRecDepth 20000 in
set_option maxHeartbeats 4000000 in
theorem t_X8_badAs_0 {a : Nat → Nat} {K : Int32 → MS → Prop} (C : bx_C p (rmD 0) S m args meth c cX8_badAs 2 yX8_badAs.cls (some .int) E A 0 0)   (u : MS) (x1 : Int32) (hv : V_X8_badAs K u x1) : G_X8_badAs p l e S m args below meth c E A a  K 0 [(0, .ref (a 0)), (1, .int x1)] [] (w_M E a u) := by
  unfold V_X8_badAs at hv
  refine bx_aload_n C 1 dX8_badAs_0 rfl rfl rfl ?_
  refine bx_getf (v := .ref (a 5)) C 4 0 6 inX8 rfl (by decide) fl_X8_27 dX8_badAs_1 at_M_0 rfl rfl ?_
  refine bx_iconst C 0 5 dX8_badAs_4 ic_0 rfl ?_
  refine bx_dup2_11 C 6 dX8_badAs_5 rfl rfl rfl ?_
  refine bx_iald_k (f := u.2.2.2.2.2.2.1) C 7 5 0 dX8_badAs_6 at_M_5 vin_0_3 cl_0 rfl ?_
  refine bx_iconst C 1 8 dX8_badAs_7 ic_1 rfl ?_
  refine bx_iadd C 9 dX8_badAs_8 rfl ?_
  refine bx_iast_k C 10 5 0 (w_M E a (u.1, u.2.1, u.2.2.1, u.2.2.2.1, u.2.2.2.2.1, u.2.2.2.2.2.1, (upd u.2.2.2.2.2.2.1 0 ((u.2.2.2.2.2.2.1 0) + 1)), u.2.2.2.2.2.2.2)) dX8_badAs_9 rfl vin_0_3 cl_0 rfl rfl ?_
  refine bx_iload_n C 11 dX8_badAs_10 rfl rfl rfl ?_
  exact bx_iret C (u.1, u.2.1, u.2.2.1, u.2.2.2.1, u.2.2.2.2.1, u.2.2.2.2.2.1, (upd u.2.2.2.2.2.2.1 0 ((u.2.2.2.2.2.2.1 0) + 1)), u.2.2.2.2.2.2.2) rfl dX8_badAs_11 rfl hv
theorem k_X8_badAs (l : Launch) (E : bx_E) (a : Nat → Nat)  (K : Int32 → MS → Prop) (u : MS) (x1 : Int32) (hv : V_X8_badAs  K u x1) : bx_Mi l E yX8_badAs cX8_badAs 2 (some .int) (rmD 0) [.ref (a 0), .int x1] (fun (u : MS) => w_M E a u) u K :=
  bx_meti (by decide +kernel) (Nat.le_of_ble_eq_true rfl) (fun p e S m below meth c C => t_X8_badAs_0 C u x1 hv)
abbrev G_X8_no (p : Program) (l : Launch) (e : Env) (S : State) (m : MethodId) (args : Array Value) (below : List Frame) (meth : Method) (c : Code) (E : bx_E) (A : Nat → Prop) (a : Nat → Nat)  (K : Int32 → MS → Prop) (pc : Nat) (lv : List (Nat × Value)) (st : List Value) (ws : va_W) : Prop := bx_S p l e (rmD 0) S m args below meth c 1 E A (MQ below (va_Qi K (fun (u : MS) t => bx_B E A (w_M E a u) t) A) args S 0 0 A) 0 0 pc lv st ws
def V_X8_no  (K : Int32 → MS → Prop)  (u : MS)  : Prop := K (-3) (u.1, u.2.1, u.2.2.1, u.2.2.2.1, u.2.2.2.2.1, u.2.2.2.2.2.1, (upd u.2.2.2.2.2.2.1 1 ((u.2.2.2.2.2.2.1 1) + 1)), u.2.2.2.2.2.2.2)
set_option maxRecDepth 20000 in
set_option maxHeartbeats 4000000 in
theorem t_X8_no_0 {a : Nat → Nat} {K : Int32 → MS → Prop} (C : bx_C p (rmD 0) S m args meth c cX8_no 1 yX8_no.cls (some .int) E A 0 0)   (u : MS)  (hv : V_X8_no K u ) : G_X8_no p l e S m args below meth c E A a  K 0 [(0, .ref (a 0))] [] (w_M E a u) := by
  unfold V_X8_no at hv
  refine bx_aload_n C 1 dX8_no_0 rfl rfl rfl ?_
  refine bx_getf (v := .ref (a 5)) C 4 0 6 inX8 rfl (by decide) fl_X8_27 dX8_no_1 at_M_0 rfl rfl ?_
  refine bx_iconst C 1 5 dX8_no_4 ic_1 rfl ?_
  refine bx_dup2_11 C 6 dX8_no_5 rfl rfl rfl ?_
  refine bx_iald_k (f := u.2.2.2.2.2.2.1) C 7 5 1 dX8_no_6 at_M_5 vin_1_3 cl_1 rfl ?_
  refine bx_iconst C 1 8 dX8_no_7 ic_1 rfl ?_
  refine bx_iadd C 9 dX8_no_8 rfl ?_
  refine bx_iast_k C 10 5 1 (w_M E a (u.1, u.2.1, u.2.2.1, u.2.2.2.1, u.2.2.2.2.1, u.2.2.2.2.2.1, (upd u.2.2.2.2.2.2.1 1 ((u.2.2.2.2.2.2.1 1) + 1)), u.2.2.2.2.2.2.2)) dX8_no_9 rfl vin_1_3 cl_1 rfl rfl ?_
  refine bx_bipush C (-3) 12 dX8_no_10 bp_m3 rfl ?_
  exact bx_iret C (u.1, u.2.1, u.2.2.1, u.2.2.2.1, u.2.2.2.2.1, u.2.2.2.2.2.1, (upd u.2.2.2.2.2.2.1 1 ((u.2.2.2.2.2.2.1 1) + 1)), u.2.2.2.2.2.2.2) rfl dX8_no_12 rfl hv
theorem k_X8_no (l : Launch) (E : bx_E) (a : Nat → Nat)  (K : Int32 → MS → Prop) (u : MS)  (hv : V_X8_no  K u ) : bx_Mi l E yX8_no cX8_no 1 (some .int) (rmD 0) [.ref (a 0)] (fun (u : MS) => w_M E a u) u K :=
  bx_meti (by decide +kernel) (Nat.le_of_ble_eq_true rfl) (fun p e S m below meth c C => t_X8_no_0 C u  hv)
abbrev G_X8_full (p : Program) (l : Launch) (e : Env) (S : State) (m : MethodId) (args : Array Value) (below : List Frame) (meth : Method) (c : Code) (E : bx_E) (A : Nat → Prop) (a : Nat → Nat)  (K : Int32 → MS → Prop) (pc : Nat) (lv : List (Nat × Value)) (st : List Value) (ws : va_W) : Prop := bx_S p l e (rmD 0) S m args below meth c 1 E A (MQ below (va_Qi K (fun (u : MS) t => bx_B E A (w_M E a u) t) A) args S 0 0 A) 0 0 pc lv st ws
def V_X8_full  (K : Int32 → MS → Prop)  (u : MS)  : Prop := K (-4) (u.1, u.2.1, u.2.2.1, u.2.2.2.1, u.2.2.2.2.1, u.2.2.2.2.2.1, (upd u.2.2.2.2.2.2.1 2 ((u.2.2.2.2.2.2.1 2) + 1)), u.2.2.2.2.2.2.2)
set_option maxRecDepth 20000 in
set_option maxHeartbeats 4000000 in
theorem t_X8_full_0 {a : Nat → Nat} {K : Int32 → MS → Prop} (C : bx_C p (rmD 0) S m args meth c cX8_full 1 yX8_full.cls (some .int) E A 0 0)   (u : MS)  (hv : V_X8_full K u ) : G_X8_full p l e S m args below meth c E A a  K 0 [(0, .ref (a 0))] [] (w_M E a u) := by
  unfold V_X8_full at hv
  refine bx_aload_n C 1 dX8_full_0 rfl rfl rfl ?_
  refine bx_getf (v := .ref (a 5)) C 4 0 6 inX8 rfl (by decide) fl_X8_27 dX8_full_1 at_M_0 rfl rfl ?_
  refine bx_iconst C 2 5 dX8_full_4 ic_2 rfl ?_
  refine bx_dup2_11 C 6 dX8_full_5 rfl rfl rfl ?_
  refine bx_iald_k (f := u.2.2.2.2.2.2.1) C 7 5 2 dX8_full_6 at_M_5 vin_2_3 cl_2 rfl ?_
  refine bx_iconst C 1 8 dX8_full_7 ic_1 rfl ?_
  refine bx_iadd C 9 dX8_full_8 rfl ?_
  refine bx_iast_k C 10 5 2 (w_M E a (u.1, u.2.1, u.2.2.1, u.2.2.2.1, u.2.2.2.2.1, u.2.2.2.2.2.1, (upd u.2.2.2.2.2.2.1 2 ((u.2.2.2.2.2.2.1 2) + 1)), u.2.2.2.2.2.2.2)) dX8_full_9 rfl vin_2_3 cl_2 rfl rfl ?_
  refine bx_bipush C (-4) 12 dX8_full_10 bp_m4 rfl ?_
  exact bx_iret C (u.1, u.2.1, u.2.2.1, u.2.2.2.1, u.2.2.2.2.1, u.2.2.2.2.2.1, (upd u.2.2.2.2.2.2.1 2 ((u.2.2.2.2.2.2.1 2) + 1)), u.2.2.2.2.2.2.2) rfl dX8_full_12 rfl hv
theorem k_X8_full (l : Launch) (E : bx_E) (a : Nat → Nat)  (K : Int32 → MS → Prop) (u : MS)  (hv : V_X8_full  K u ) : bx_Mi l E yX8_full cX8_full 1 (some .int) (rmD 0) [.ref (a 0)] (fun (u : MS) => w_M E a u) u K :=
  bx_meti (by decide +kernel) (Nat.le_of_ble_eq_true rfl) (fun p e S m below meth c C => t_X8_full_0 C u  hv)
abbrev G_X8_isSoul (p : Program) (l : Launch) (e : Env) (S : State) (m : MethodId) (args : Array Value) (below : List Frame) (meth : Method) (c : Code) (E : bx_E) (A : Nat → Prop) (a : Nat → Nat)  (u : MS) (K : Int32 → Prop) (pc : Nat) (lv : List (Nat × Value)) (st : List Value) (ws : va_W) : Prop := bx_S p l e (rmD 1) S m args below meth c 2 E A (MQ below (va_Qi (fun r (_ : Unit) => K r) (fun (_ : Unit) t => bx_B E A (w_M E a u) t) A) args S 0 0 A) 0 0 pc lv st ws
def V_X8_isSoul  (K : Int32 → Prop)  (u : MS) (x1 : Int32) : Prop := (V_X8_in (fun r1 => ((r1 = 0 ∨ r1 = 1) ∧ K r1))  ((x1 : Int32).toInt64) 0 ((((u.1 8) - 1) : Int32).toInt64))
set_option maxRecDepth 20000 in
set_option maxHeartbeats 4000000 in
theorem t_X8_isSoul_0 {a : Nat → Nat} {K : Int32 → Prop} (C : bx_C p (rmD 1) S m args meth c cX8_isSoul 2 yX8_isSoul.cls (some .boolean) E A 0 0) (u : MS)   (x1 : Int32) (hv : V_X8_isSoul K u x1) : G_X8_isSoul p l e S m args below meth c E A a  u K 0 [(0, .ref (a 0)), (1, .int x1)] [] (w_M E a u) := by
  unfold V_X8_isSoul at hv
  refine bx_iload_n C 1 dX8_isSoul_0 rfl rfl rfl ?_
  refine bx_i2l C 2 dX8_isSoul_1 rfl ?_
  refine bx_lconst C 0 3 dX8_isSoul_2 lc_0 rfl ?_
  refine bx_aload_n C 4 dX8_isSoul_3 rfl rfl rfl ?_
  refine bx_getf (v := .ref (a 1)) C 7 0 0 inX8 rfl (by decide) fl_X8_7 dX8_isSoul_4 at_M_0 rfl rfl ?_
  refine bx_bipush C 8 9 dX8_isSoul_7 bp_8 rfl ?_
  refine bx_iald_k (f := u.1) C 10 1 8 dX8_isSoul_9 at_M_1 vin_8_171 cl_8 rfl ?_
  refine bx_iconst C 1 11 dX8_isSoul_10 ic_1 rfl ?_
  refine bx_isub C 12 dX8_isSoul_11 rfl ?_
  refine bx_i2l C 13 dX8_isSoul_12 rfl ?_
  refine bx_pSi C 16 fc_X8_46 (k_X8_in l E  _ _ _ _ hv) dX8_isSoul_13 ⟨rfl, rfl, Nat.le_of_ble_eq_true rfl, Nat.le_of_ble_eq_true rfl⟩ [] rfl (by decide) rfl rfl (Nat.le_of_ble_eq_true rfl) rfl (fun r1 hv => ?_)
  exact bx_zret C () rfl dX8_isSoul_16 rfl hv.1 hv.2
theorem k_X8_isSoul (l : Launch) (E : bx_E) (a : Nat → Nat)  (K : Int32 → Prop) (u : MS) (x1 : Int32) (hv : V_X8_isSoul  K u x1) : bx_Mi l E yX8_isSoul cX8_isSoul 2 (some .boolean) (rmD 1) [.ref (a 0), .int x1] (fun (_ : Unit) => w_M E a u) () (fun r (_ : Unit) => K r) :=
  bx_meti (by decide +kernel) (Nat.le_of_ble_eq_true rfl) (fun p e S m below meth c C => t_X8_isSoul_0 C u x1 hv)
abbrev G_X8_isCell (p : Program) (l : Launch) (e : Env) (S : State) (m : MethodId) (args : Array Value) (below : List Frame) (meth : Method) (c : Code) (E : bx_E) (A : Nat → Prop)   (K : Int32 → Prop) (pc : Nat) (lv : List (Nat × Value)) (st : List Value) (ws : va_W) : Prop := bx_S p l e (rmD 1) S m args below meth c 1 E A (MQ below (va_Qi (fun r (_ : Unit) => K r) (fun (_ : Unit) t => bx_B E A (([] : va_W)) t) A) args S 0 0 A) 0 0 pc lv st ws
def V_X8_isCell  (K : Int32 → Prop)   (x0 : Int32) : Prop := (V_X8_in (fun r1 => ((r1 = 0 ∨ r1 = 1) ∧ K r1))  ((x0 : Int32).toInt64) 0 29)
set_option maxRecDepth 20000 in
set_option maxHeartbeats 4000000 in
theorem t_X8_isCell_0 {K : Int32 → Prop} (C : bx_C p (rmD 1) S m args meth c cX8_isCell 1 yX8_isCell.cls (some .boolean) E A 0 0)    (x0 : Int32) (hv : V_X8_isCell K  x0) : G_X8_isCell p l e S m args below meth c E A   K 0 [(0, .int x0)] [] (([] : va_W)) := by
  unfold V_X8_isCell at hv
  refine bx_iload_n C 1 dX8_isCell_0 rfl rfl rfl ?_
  refine bx_i2l C 2 dX8_isCell_1 rfl ?_
  refine bx_lconst C 0 3 dX8_isCell_2 lc_0 rfl ?_
  refine bx_ldc2 C 6 cs_X8_50 dX8_isCell_3 rfl ?_
  refine bx_pSi C 9 fc_X8_46 (k_X8_in l E  _ _ _ _ hv) dX8_isCell_6 ⟨rfl, rfl, Nat.le_of_ble_eq_true rfl, Nat.le_of_ble_eq_true rfl⟩ [] rfl (by decide) rfl rfl (Nat.le_of_ble_eq_true rfl) rfl (fun r1 hv => ?_)
  exact bx_zret C () rfl dX8_isCell_9 rfl hv.1 hv.2
theorem k_X8_isCell (l : Launch) (E : bx_E)   (K : Int32 → Prop)  (x0 : Int32) (hv : V_X8_isCell  K  x0) : bx_Mi l E yX8_isCell cX8_isCell 1 (some .boolean) (rmD 1) [.int x0] (fun (_ : Unit) => ([] : va_W)) () (fun r (_ : Unit) => K r) :=
  bx_meti (by decide +kernel) (Nat.le_of_ble_eq_true rfl) (fun p e S m below meth c C => t_X8_isCell_0 C  x0 hv)
abbrev G_X8_has (p : Program) (l : Launch) (e : Env) (S : State) (m : MethodId) (args : Array Value) (below : List Frame) (meth : Method) (c : Code) (E : bx_E) (A : Nat → Prop)   (K : Int32 → Prop) (pc : Nat) (lv : List (Nat × Value)) (st : List Value) (ws : va_W) : Prop := bx_S p l e (rmD 0) S m args below meth c 2 E A (MQ below (va_Qi (fun r (_ : Unit) => K r) (fun (_ : Unit) t => bx_B E A (([] : va_W)) t) A) args S 0 0 A) 0 0 pc lv st ws
def V_X8_has  (K : Int32 → Prop)   (x0 : Int32) (x1 : Int32) : Prop := ((¬ ((x0 >>> (x1 &&& 31)) &&& 1) = 1 → K 0) ∧
 (((x0 >>> (x1 &&& 31)) &&& 1) = 1 → K 1))
set_option maxRecDepth 20000 in
set_option maxHeartbeats 4000000 in
theorem t_X8_has_0 {K : Int32 → Prop} (C : bx_C p (rmD 0) S m args meth c cX8_has 2 yX8_has.cls (some .boolean) E A 0 0)    (x0 : Int32) (x1 : Int32) (hv : V_X8_has K  x0 x1) : G_X8_has p l e S m args below meth c E A   K 0 [(0, .int x0), (1, .int x1)] [] (([] : va_W)) := by
  unfold V_X8_has at hv
  refine bx_iload_n C 1 dX8_has_0 rfl rfl rfl ?_
  refine bx_iload_n C 2 dX8_has_1 rfl rfl rfl ?_
  refine bx_ishr C 3 dX8_has_2 rfl ?_
  refine bx_iconst C 1 4 dX8_has_3 ic_1 rfl ?_
  refine bx_iand C 5 dX8_has_4 rfl ?_
  refine bx_iconst C 1 6 dX8_has_5 ic_1 rfl ?_
  refine bx_icmp_ne C 13 9 dX8_has_6 (by decide) rfl (fun h => ?_) (fun h => ?_)
  · replace hv := hv.1 h
    refine bx_iconst C 0 14 dX8_has_13 ic_0 rfl ?_
    exact bx_zret C () rfl dX8_has_14 rfl (Or.inl rfl) hv
  · replace hv := hv.2 h
    refine bx_iconst C 1 10 dX8_has_9 ic_1 rfl ?_
    refine bx_goto C 14 dX8_has_10 (by decide) ?_
    exact bx_zret C () rfl dX8_has_14 rfl (Or.inr rfl) hv
theorem k_X8_has (l : Launch) (E : bx_E)   (K : Int32 → Prop)  (x0 : Int32) (x1 : Int32) (hv : V_X8_has  K  x0 x1) : bx_Mi l E yX8_has cX8_has 2 (some .boolean) (rmD 0) [.int x0, .int x1] (fun (_ : Unit) => ([] : va_W)) () (fun r (_ : Unit) => K r) :=
  bx_meti (by decide +kernel) (Nat.le_of_ble_eq_true rfl) (fun p e S m below meth c C => t_X8_has_0 C  x0 x1 hv)
abbrev G_X8_fraction (p : Program) (l : Launch) (e : Env) (S : State) (m : MethodId) (args : Array Value) (below : List Frame) (meth : Method) (c : Code) (E : bx_E) (A : Nat → Prop) (a : Nat → Nat)  (K : Int32 → MS → Prop) (pc : Nat) (lv : List (Nat × Value)) (st : List Value) (ws : va_W) : Prop := bx_S p l e (rmD 0) S m args below meth c 11 E A (MQ below (va_Qi K (fun (u : MS) t => bx_B E A (w_M E a u) t) A) args S 0 0 A) 0 0 pc lv st ws
def V_X8_fraction_6  (K : Int32 → MS → Prop)  : Nat → MS → Int64 → Int64 → Int64 → Int64 → Prop
  | 0, _, _, _, _, _ => False
  | n + 1, u, x1, x3, x5, x7 => (((lg_cmp x7 0) = 0 → (¬ x5 = 0 ∧ (¬ x5 = 0 ∧ K 1 (u.1, u.2.1, u.2.2.1, u.2.2.2.1, (x1 / x5), (x3 / x5), u.2.2.2.2.2.2)))) ∧
 (¬ (lg_cmp x7 0) = 0 → (¬ x7 = 0 ∧ V_X8_fraction_6 K n u x1 x3 x7 (x5 - x5 / x7 * x7))))
set_option maxRecDepth 20000 in
set_option maxHeartbeats 4000000 in
theorem t_X8_fraction_6 {a : Nat → Nat} {K : Int32 → MS → Prop} (C : bx_C p (rmD 0) S m args meth c cX8_fraction 11 yX8_fraction.cls (some .int) E A 0 0)   : ∀ (n : Nat) (u : MS) (x1 : Int64) (x3 : Int64) (x5 : Int64) (x7 : Int64), V_X8_fraction_6 K n u x1 x3 x5 x7 → G_X8_fraction p l e S m args below meth c E A a  K 6 [(0, .ref (a 0)), (1, .long x1), (3, .long x3), (5, .long x5), (7, .long x7)] [] (w_M E a u) := by
  intro n
  induction n with
  | zero =>
    intro u x1 x3 x5 x7 hv
    exact False.elim hv
  | succ n ih =>
    intro u x1 x3 x5 x7 hv
    unfold V_X8_fraction_6 at hv
    refine bx_lload C 8 dX8_fraction_6 rfl rfl ?_
    refine bx_lconst C 0 9 dX8_fraction_8 lc_0 rfl ?_
    refine bx_lcmp C 10 dX8_fraction_9 rfl ?_
    refine bx_if_eq C 31 13 dX8_fraction_10 (by decide) rfl (fun h => ?_) (fun h => ?_)
    · replace hv := hv.1 h
      refine bx_aload_n C 32 dX8_fraction_31 rfl rfl rfl ?_
      refine bx_lload_n C 33 dX8_fraction_32 rfl rfl rfl ?_
      refine bx_lload C 35 dX8_fraction_33 rfl rfl ?_
      refine bx_ldiv C 36 dX8_fraction_35 hv.1 rfl ?_
      replace hv := hv.2
      refine bx_putf C 39 0 4 (w_M E a (u.1, u.2.1, u.2.2.1, u.2.2.2.1, (x1 / x5), u.2.2.2.2.2)) inX8 tyX8 tyX8_ok nmX8 rfl (by decide) fl_X8_52 rfl dX8_fraction_36 rfl rfl rfl (Nat.le_of_ble_eq_true rfl) rfl rfl ?_
      refine bx_aload_n C 40 dX8_fraction_39 rfl rfl rfl ?_
      refine bx_lload_n C 41 dX8_fraction_40 rfl rfl rfl ?_
      refine bx_lload C 43 dX8_fraction_41 rfl rfl ?_
      refine bx_ldiv C 44 dX8_fraction_43 hv.1 rfl ?_
      replace hv := hv.2
      refine bx_putf C 47 0 5 (w_M E a (u.1, u.2.1, u.2.2.1, u.2.2.2.1, (x1 / x5), (x3 / x5), u.2.2.2.2.2.2)) inX8 tyX8 tyX8_ok nmX8 rfl (by decide) fl_X8_23 rfl dX8_fraction_44 rfl rfl rfl (Nat.le_of_ble_eq_true rfl) rfl rfl ?_
      refine bx_iconst C 1 48 dX8_fraction_47 ic_1 rfl ?_
      exact bx_iret C (u.1, u.2.1, u.2.2.1, u.2.2.2.1, (x1 / x5), (x3 / x5), u.2.2.2.2.2.2) rfl dX8_fraction_48 rfl hv
    · replace hv := hv.2 h
      refine bx_lload C 15 dX8_fraction_13 rfl rfl ?_
      refine bx_lload C 17 dX8_fraction_15 rfl rfl ?_
      refine bx_lrem C 18 dX8_fraction_17 hv.1 rfl ?_
      replace hv := hv.2
      refine bx_lstore C 20 dX8_fraction_18 (by decide) rfl ?_
      refine bx_lload C 22 dX8_fraction_20 rfl rfl ?_
      refine bx_lstore C 24 dX8_fraction_22 (by decide) rfl ?_
      refine bx_lload C 26 dX8_fraction_24 rfl rfl ?_
      refine bx_lstore C 28 dX8_fraction_26 (by decide) rfl ?_
      refine bx_goto C 6 dX8_fraction_28 (by decide) ?_
      exact bx_cut [3, 4, 5, 1, 0] (w_M E a u) rfl rfl (ih u x1 x3 x7 (x5 - x5 / x7 * x7) hv)
def V_X8_fraction  (K : Int32 → MS → Prop)  (u : MS) (x1 : Int64) (x3 : Int64) : Prop := ∃ n1, V_X8_fraction_6 K n1 u x1 x3 x1 x3
set_option maxRecDepth 20000 in
set_option maxHeartbeats 4000000 in
theorem t_X8_fraction_0 {a : Nat → Nat} {K : Int32 → MS → Prop} (C : bx_C p (rmD 0) S m args meth c cX8_fraction 11 yX8_fraction.cls (some .int) E A 0 0)   (u : MS) (x1 : Int64) (x3 : Int64) (hv : V_X8_fraction K u x1 x3) : G_X8_fraction p l e S m args below meth c E A a  K 0 [(0, .ref (a 0)), (1, .long x1), (3, .long x3)] [] (w_M E a u) := by
  unfold V_X8_fraction at hv
  refine bx_lload_n C 1 dX8_fraction_0 rfl rfl rfl ?_
  refine bx_lstore C 3 dX8_fraction_1 (by decide) rfl ?_
  refine bx_lload_n C 4 dX8_fraction_3 rfl rfl rfl ?_
  refine bx_lstore C 6 dX8_fraction_4 (by decide) rfl ?_
  obtain ⟨n1, hv⟩ := hv
  exact bx_cut [2, 3, 4, 1, 0] (w_M E a u) rfl rfl (t_X8_fraction_6 C   n1 u x1 x3 x1 x3 hv)
theorem k_X8_fraction (l : Launch) (E : bx_E) (a : Nat → Nat)  (K : Int32 → MS → Prop) (u : MS) (x1 : Int64) (x3 : Int64) (hv : V_X8_fraction  K u x1 x3) : bx_Mi l E yX8_fraction cX8_fraction 11 (some .int) (rmD 0) [.ref (a 0), .long x1, .long x3] (fun (u : MS) => w_M E a u) u K :=
  bx_meti (by decide +kernel) (Nat.le_of_ble_eq_true rfl) (fun p e S m below meth c C => t_X8_fraction_0 C u x1 x3 hv)
abbrev G_X8_seesBy (p : Program) (l : Launch) (e : Env) (S : State) (m : MethodId) (args : Array Value) (below : List Frame) (meth : Method) (c : Code) (E : bx_E) (A : Nat → Prop)   (K : Int32 → Prop) (pc : Nat) (lv : List (Nat × Value)) (st : List Value) (ws : va_W) : Prop := bx_S p l e (rmD 0) S m args below meth c 5 E A (MQ below (va_Qi (fun r (_ : Unit) => K r) (fun (_ : Unit) t => bx_B E A (([] : va_W)) t) A) args S 0 0 A) 0 0 pc lv st ws
def V_X8_seesBy_36  (K : Int32 → Prop)   (x0 : Int32) (x1 : Int32) (x3 : Int32) (z0 : Int32) : Prop := ((x0 = 0 → K x3) ∧
 (x0 = 1 → K z0) ∧
 (x0 = 2 → K (x3 + 4)) ∧
 (x0 = 3 → K (x3 / 2)) ∧
 (x0 = 4 → ((z0 ≤ 2 → K 0) ∧
 (¬ z0 ≤ 2 → K (z0 - 2)))) ∧
 (¬ x0 = 0 ∧ ¬ x0 = 1 ∧ ¬ x0 = 2 ∧ ¬ x0 = 3 ∧ ¬ x0 = 4 → (((x3 + 4) ≤ (2 * x1) → K 0) ∧
 (¬ (x3 + 4) ≤ (2 * x1) → K ((x3 + 4) - (2 * x1))))))
set_option maxRecDepth 20000 in
set_option maxHeartbeats 4000000 in
theorem t_X8_seesBy_36 {K : Int32 → Prop} (C : bx_C p (rmD 0) S m args meth c cX8_seesBy 5 yX8_seesBy.cls (some .int) E A 0 0)    (x0 : Int32) (x1 : Int32) (x3 : Int32) (z0 : Int32) (hv : V_X8_seesBy_36 K  x0 x1 x3 z0) : G_X8_seesBy p l e S m args below meth c E A   K 36 [(0, .int x0), (1, .int x1), (3, .int x3)] [.int z0] (([] : va_W)) := by
  unfold V_X8_seesBy_36 at hv
  refine bx_istore C 38 dX8_seesBy_36 (by decide) rfl ?_
  refine bx_iload_n C 39 dX8_seesBy_38 rfl rfl rfl ?_
  by_cases h0 : x0 = 0
  · replace hv := hv.1 h0
    refine bx_tin C 72 0 dX8_seesBy_39 h0 (by decide) (by decide) rfl (by decide) ?_
    refine bx_iload_n C 73 dX8_seesBy_72 rfl rfl rfl ?_
    exact bx_iret C () rfl dX8_seesBy_73 rfl hv
  by_cases h1 : x0 = 1
  · replace hv := hv.2.1 h1
    refine bx_tin C 74 1 dX8_seesBy_39 h1 (by decide) (by decide) rfl (by decide) ?_
    refine bx_iload C 76 dX8_seesBy_74 rfl rfl ?_
    exact bx_iret C () rfl dX8_seesBy_76 rfl hv
  by_cases h2 : x0 = 2
  · replace hv := hv.2.2.1 h2
    refine bx_tin C 77 2 dX8_seesBy_39 h2 (by decide) (by decide) rfl (by decide) ?_
    refine bx_iload_n C 78 dX8_seesBy_77 rfl rfl rfl ?_
    refine bx_iconst C 4 79 dX8_seesBy_78 ic_4 rfl ?_
    refine bx_iadd C 80 dX8_seesBy_79 rfl ?_
    exact bx_iret C () rfl dX8_seesBy_80 rfl hv
  by_cases h3 : x0 = 3
  · replace hv := hv.2.2.2.1 h3
    refine bx_tin C 81 3 dX8_seesBy_39 h3 (by decide) (by decide) rfl (by decide) ?_
    refine bx_iload_n C 82 dX8_seesBy_81 rfl rfl rfl ?_
    refine bx_iconst C 2 83 dX8_seesBy_82 ic_2 rfl ?_
    refine bx_idiv C 84 dX8_seesBy_83 nz32_2 rfl ?_
    exact bx_iret C () rfl dX8_seesBy_84 rfl hv
  by_cases h4 : x0 = 4
  · replace hv := hv.2.2.2.2.1 h4
    refine bx_tin C 85 4 dX8_seesBy_39 h4 (by decide) (by decide) rfl (by decide) ?_
    refine bx_iload C 87 dX8_seesBy_85 rfl rfl ?_
    refine bx_iconst C 2 88 dX8_seesBy_87 ic_2 rfl ?_
    refine bx_icmp_le C 98 91 dX8_seesBy_88 (by decide) rfl (fun h => ?_) (fun h => ?_)
    · replace hv := hv.1 h
      refine bx_iconst C 0 99 dX8_seesBy_98 ic_0 rfl ?_
      exact bx_iret C () rfl dX8_seesBy_99 rfl hv
    · replace hv := hv.2 h
      refine bx_iload C 93 dX8_seesBy_91 rfl rfl ?_
      refine bx_iconst C 2 94 dX8_seesBy_93 ic_2 rfl ?_
      refine bx_isub C 95 dX8_seesBy_94 rfl ?_
      refine bx_goto C 99 dX8_seesBy_95 (by decide) ?_
      exact bx_iret C () rfl dX8_seesBy_99 rfl hv
  replace hv := hv.2.2.2.2.2 ⟨h0, h1, h2, h3, h4⟩
  have ho : (x0 : Int32).toInt < 0 ∨ 4 < (x0 : Int32).toInt := by
    have e0 := bx_ne (z := 0) h0 (by decide)
    have e1 := bx_ne (z := 1) h1 (by decide)
    have e2 := bx_ne (z := 2) h2 (by decide)
    have e3 := bx_ne (z := 3) h3 (by decide)
    have e4 := bx_ne (z := 4) h4 (by decide)
    omega
  refine bx_tout C 100 dX8_seesBy_39 ho (by decide) ?_
  refine bx_iload_n C 101 dX8_seesBy_100 rfl rfl rfl ?_
  refine bx_iconst C 4 102 dX8_seesBy_101 ic_4 rfl ?_
  refine bx_iadd C 103 dX8_seesBy_102 rfl ?_
  refine bx_iconst C 2 104 dX8_seesBy_103 ic_2 rfl ?_
  refine bx_iload_n C 105 dX8_seesBy_104 rfl rfl rfl ?_
  refine bx_imul C 106 dX8_seesBy_105 rfl ?_
  refine bx_icmp_le C 119 109 dX8_seesBy_106 (by decide) rfl (fun h => ?_) (fun h => ?_)
  · replace hv := hv.1 h
    refine bx_iconst C 0 120 dX8_seesBy_119 ic_0 rfl ?_
    exact bx_iret C () rfl dX8_seesBy_120 rfl hv
  · replace hv := hv.2 h
    refine bx_iload_n C 110 dX8_seesBy_109 rfl rfl rfl ?_
    refine bx_iconst C 4 111 dX8_seesBy_110 ic_4 rfl ?_
    refine bx_iadd C 112 dX8_seesBy_111 rfl ?_
    refine bx_iconst C 2 113 dX8_seesBy_112 ic_2 rfl ?_
    refine bx_iload_n C 114 dX8_seesBy_113 rfl rfl rfl ?_
    refine bx_imul C 115 dX8_seesBy_114 rfl ?_
    refine bx_isub C 116 dX8_seesBy_115 rfl ?_
    refine bx_goto C 120 dX8_seesBy_116 (by decide) ?_
    exact bx_iret C () rfl dX8_seesBy_120 rfl hv
def V_X8_seesBy_20  (K : Int32 → Prop)   (x0 : Int32) (x1 : Int32) (z0 : Int32) : Prop := ((¬ x1 = 2 → V_X8_seesBy_36 K  x0 x1 (9 - z0) (9 - z0)) ∧
 (x1 = 2 → V_X8_seesBy_36 K  x0 x1 (9 - z0) 0))
set_option maxRecDepth 20000 in
set_option maxHeartbeats 4000000 in
theorem t_X8_seesBy_20 {K : Int32 → Prop} (C : bx_C p (rmD 0) S m args meth c cX8_seesBy 5 yX8_seesBy.cls (some .int) E A 0 0)    (x0 : Int32) (x1 : Int32) (z0 : Int32) (hv : V_X8_seesBy_20 K  x0 x1 z0) : G_X8_seesBy p l e S m args below meth c E A   K 20 [(0, .int x0), (1, .int x1)] [.int z0] (([] : va_W)) := by
  unfold V_X8_seesBy_20 at hv
  refine bx_istore_n C 21 dX8_seesBy_20 rfl (by decide) rfl ?_
  refine bx_bipush C 9 23 dX8_seesBy_21 bp_9 rfl ?_
  refine bx_iload_n C 24 dX8_seesBy_23 rfl rfl rfl ?_
  refine bx_isub C 25 dX8_seesBy_24 rfl ?_
  refine bx_istore_n C 26 dX8_seesBy_25 rfl (by decide) rfl ?_
  refine bx_iload_n C 27 dX8_seesBy_26 rfl rfl rfl ?_
  refine bx_iconst C 2 28 dX8_seesBy_27 ic_2 rfl ?_
  refine bx_icmp_ne C 35 31 dX8_seesBy_28 (by decide) rfl (fun h => ?_) (fun h => ?_)
  · replace hv := hv.1 h
    refine bx_iload_n C 36 dX8_seesBy_35 rfl rfl rfl ?_
    exact bx_cut [2, 3, 0] (([] : va_W)) rfl rfl (t_X8_seesBy_36 C    x0 x1 (9 - z0) (9 - z0) hv)
  · replace hv := hv.2 h
    refine bx_iconst C 0 32 dX8_seesBy_31 ic_0 rfl ?_
    refine bx_goto C 36 dX8_seesBy_32 (by decide) ?_
    exact bx_cut [2, 3, 0] (([] : va_W)) rfl rfl (t_X8_seesBy_36 C    x0 x1 (9 - z0) 0 hv)
def V_X8_seesBy  (K : Int32 → Prop)   (x0 : Int32) (x1 : Int32) : Prop := (((2 * x1) ≤ 5 → V_X8_seesBy_20 K  x0 x1 (5 - (2 * x1))) ∧
 (¬ (2 * x1) ≤ 5 → V_X8_seesBy_20 K  x0 x1 ((2 * x1) - 5)))
set_option maxRecDepth 20000 in
set_option maxHeartbeats 4000000 in
theorem t_X8_seesBy_0 {K : Int32 → Prop} (C : bx_C p (rmD 0) S m args meth c cX8_seesBy 5 yX8_seesBy.cls (some .int) E A 0 0)    (x0 : Int32) (x1 : Int32) (hv : V_X8_seesBy K  x0 x1) : G_X8_seesBy p l e S m args below meth c E A   K 0 [(0, .int x0), (1, .int x1)] [] (([] : va_W)) := by
  unfold V_X8_seesBy at hv
  refine bx_iconst C 2 1 dX8_seesBy_0 ic_2 rfl ?_
  refine bx_iload_n C 2 dX8_seesBy_1 rfl rfl rfl ?_
  refine bx_imul C 3 dX8_seesBy_2 rfl ?_
  refine bx_iconst C 5 4 dX8_seesBy_3 ic_5 rfl ?_
  refine bx_icmp_le C 15 7 dX8_seesBy_4 (by decide) rfl (fun h => ?_) (fun h => ?_)
  · replace hv := hv.1 h
    refine bx_iconst C 5 16 dX8_seesBy_15 ic_5 rfl ?_
    refine bx_iconst C 2 17 dX8_seesBy_16 ic_2 rfl ?_
    refine bx_iload_n C 18 dX8_seesBy_17 rfl rfl rfl ?_
    refine bx_imul C 19 dX8_seesBy_18 rfl ?_
    refine bx_isub C 20 dX8_seesBy_19 rfl ?_
    exact bx_cut [0, 1] (([] : va_W)) rfl rfl (t_X8_seesBy_20 C    x0 x1 (5 - (2 * x1)) hv)
  · replace hv := hv.2 h
    refine bx_iconst C 2 8 dX8_seesBy_7 ic_2 rfl ?_
    refine bx_iload_n C 9 dX8_seesBy_8 rfl rfl rfl ?_
    refine bx_imul C 10 dX8_seesBy_9 rfl ?_
    refine bx_iconst C 5 11 dX8_seesBy_10 ic_5 rfl ?_
    refine bx_isub C 12 dX8_seesBy_11 rfl ?_
    refine bx_goto C 20 dX8_seesBy_12 (by decide) ?_
    exact bx_cut [0, 1] (([] : va_W)) rfl rfl (t_X8_seesBy_20 C    x0 x1 ((2 * x1) - 5) hv)
theorem k_X8_seesBy (l : Launch) (E : bx_E)   (K : Int32 → Prop)  (x0 : Int32) (x1 : Int32) (hv : V_X8_seesBy  K  x0 x1) : bx_Mi l E yX8_seesBy cX8_seesBy 5 (some .int) (rmD 0) [.int x0, .int x1] (fun (_ : Unit) => ([] : va_W)) () (fun r (_ : Unit) => K r) :=
  bx_meti (by decide +kernel) (Nat.le_of_ble_eq_true rfl) (fun p e S m below meth c C => t_X8_seesBy_0 C  x0 x1 hv)
abbrev G_X8_fussBy (p : Program) (l : Launch) (e : Env) (S : State) (m : MethodId) (args : Array Value) (below : List Frame) (meth : Method) (c : Code) (E : bx_E) (A : Nat → Prop)   (K : Int32 → Prop) (pc : Nat) (lv : List (Nat × Value)) (st : List Value) (ws : va_W) : Prop := bx_S p l e (rmD 0) S m args below meth c 4 E A (MQ below (va_Qi (fun r (_ : Unit) => K r) (fun (_ : Unit) t => bx_B E A (([] : va_W)) t) A) args S 0 0 A) 0 0 pc lv st ws
def V_X8_fussBy_13  (K : Int32 → Prop)   (x0 : Int32) (x1 : Int32) (z0 : Int32) : Prop := ((x0 = 0 → K x1) ∧
 (x0 = 1 → K (x1 + 2)) ∧
 (x0 = 2 → K z0) ∧
 (x0 = 3 → K ((x1 + 1) / 2)) ∧
 (x0 = 4 → K (x1 + 1)) ∧
 (¬ x0 = 0 ∧ ¬ x0 = 1 ∧ ¬ x0 = 2 ∧ ¬ x0 = 3 ∧ ¬ x0 = 4 → ((x1 ≤ 0 → K z0) ∧
 (¬ x1 ≤ 0 → K (z0 + 3)))))
set_option maxRecDepth 20000 in
set_option maxHeartbeats 4000000 in
theorem t_X8_fussBy_13 {K : Int32 → Prop} (C : bx_C p (rmD 0) S m args meth c cX8_fussBy 4 yX8_fussBy.cls (some .int) E A 0 0)    (x0 : Int32) (x1 : Int32) (z0 : Int32) (hv : V_X8_fussBy_13 K  x0 x1 z0) : G_X8_fussBy p l e S m args below meth c E A   K 13 [(0, .int x0), (1, .int x1)] [.int z0] (([] : va_W)) := by
  unfold V_X8_fussBy_13 at hv
  refine bx_istore_n C 14 dX8_fussBy_13 rfl (by decide) rfl ?_
  refine bx_iload_n C 15 dX8_fussBy_14 rfl rfl rfl ?_
  by_cases h0 : x0 = 0
  · replace hv := hv.1 h0
    refine bx_tin C 48 0 dX8_fussBy_15 h0 (by decide) (by decide) rfl (by decide) ?_
    refine bx_iload_n C 49 dX8_fussBy_48 rfl rfl rfl ?_
    exact bx_iret C () rfl dX8_fussBy_49 rfl hv
  by_cases h1 : x0 = 1
  · replace hv := hv.2.1 h1
    refine bx_tin C 50 1 dX8_fussBy_15 h1 (by decide) (by decide) rfl (by decide) ?_
    refine bx_iload_n C 51 dX8_fussBy_50 rfl rfl rfl ?_
    refine bx_iconst C 2 52 dX8_fussBy_51 ic_2 rfl ?_
    refine bx_iadd C 53 dX8_fussBy_52 rfl ?_
    exact bx_iret C () rfl dX8_fussBy_53 rfl hv
  by_cases h2 : x0 = 2
  · replace hv := hv.2.2.1 h2
    refine bx_tin C 54 2 dX8_fussBy_15 h2 (by decide) (by decide) rfl (by decide) ?_
    refine bx_iload_n C 55 dX8_fussBy_54 rfl rfl rfl ?_
    exact bx_iret C () rfl dX8_fussBy_55 rfl hv
  by_cases h3 : x0 = 3
  · replace hv := hv.2.2.2.1 h3
    refine bx_tin C 56 3 dX8_fussBy_15 h3 (by decide) (by decide) rfl (by decide) ?_
    refine bx_iload_n C 57 dX8_fussBy_56 rfl rfl rfl ?_
    refine bx_iconst C 1 58 dX8_fussBy_57 ic_1 rfl ?_
    refine bx_iadd C 59 dX8_fussBy_58 rfl ?_
    refine bx_iconst C 2 60 dX8_fussBy_59 ic_2 rfl ?_
    refine bx_idiv C 61 dX8_fussBy_60 nz32_2 rfl ?_
    exact bx_iret C () rfl dX8_fussBy_61 rfl hv
  by_cases h4 : x0 = 4
  · replace hv := hv.2.2.2.2.1 h4
    refine bx_tin C 62 4 dX8_fussBy_15 h4 (by decide) (by decide) rfl (by decide) ?_
    refine bx_iload_n C 63 dX8_fussBy_62 rfl rfl rfl ?_
    refine bx_iconst C 1 64 dX8_fussBy_63 ic_1 rfl ?_
    refine bx_iadd C 65 dX8_fussBy_64 rfl ?_
    exact bx_iret C () rfl dX8_fussBy_65 rfl hv
  replace hv := hv.2.2.2.2.2 ⟨h0, h1, h2, h3, h4⟩
  have ho : (x0 : Int32).toInt < 0 ∨ 4 < (x0 : Int32).toInt := by
    have e0 := bx_ne (z := 0) h0 (by decide)
    have e1 := bx_ne (z := 1) h1 (by decide)
    have e2 := bx_ne (z := 2) h2 (by decide)
    have e3 := bx_ne (z := 3) h3 (by decide)
    have e4 := bx_ne (z := 4) h4 (by decide)
    omega
  refine bx_tout C 66 dX8_fussBy_15 ho (by decide) ?_
  refine bx_iload_n C 67 dX8_fussBy_66 rfl rfl rfl ?_
  refine bx_if_le C 76 70 dX8_fussBy_67 (by decide) rfl (fun h => ?_) (fun h => ?_)
  · replace hv := hv.1 h
    refine bx_iload_n C 77 dX8_fussBy_76 rfl rfl rfl ?_
    exact bx_iret C () rfl dX8_fussBy_77 rfl hv
  · replace hv := hv.2 h
    refine bx_iload_n C 71 dX8_fussBy_70 rfl rfl rfl ?_
    refine bx_iconst C 3 72 dX8_fussBy_71 ic_3 rfl ?_
    refine bx_iadd C 73 dX8_fussBy_72 rfl ?_
    refine bx_goto C 77 dX8_fussBy_73 (by decide) ?_
    exact bx_iret C () rfl dX8_fussBy_77 rfl hv
def V_X8_fussBy  (K : Int32 → Prop)   (x0 : Int32) (x1 : Int32) (x2 : Int32) : Prop := ((x2 < 10 → V_X8_fussBy_13 K  x0 x1 x1) ∧
 (¬ x2 < 10 → V_X8_fussBy_13 K  x0 x1 (2 * x1)))
set_option maxRecDepth 20000 in
set_option maxHeartbeats 4000000 in
theorem t_X8_fussBy_0 {K : Int32 → Prop} (C : bx_C p (rmD 0) S m args meth c cX8_fussBy 4 yX8_fussBy.cls (some .int) E A 0 0)    (x0 : Int32) (x1 : Int32) (x2 : Int32) (hv : V_X8_fussBy K  x0 x1 x2) : G_X8_fussBy p l e S m args below meth c E A   K 0 [(0, .int x0), (1, .int x1), (2, .int x2)] [] (([] : va_W)) := by
  unfold V_X8_fussBy at hv
  refine bx_iload_n C 1 dX8_fussBy_0 rfl rfl rfl ?_
  refine bx_bipush C 10 3 dX8_fussBy_1 bp_10 rfl ?_
  refine bx_icmp_lt C 12 6 dX8_fussBy_3 (by decide) rfl (fun h => ?_) (fun h => ?_)
  · replace hv := hv.1 h
    refine bx_iload_n C 13 dX8_fussBy_12 rfl rfl rfl ?_
    exact bx_cut [0, 1] (([] : va_W)) rfl rfl (t_X8_fussBy_13 C    x0 x1 x1 hv)
  · replace hv := hv.2 h
    refine bx_iconst C 2 7 dX8_fussBy_6 ic_2 rfl ?_
    refine bx_iload_n C 8 dX8_fussBy_7 rfl rfl rfl ?_
    refine bx_imul C 9 dX8_fussBy_8 rfl ?_
    refine bx_goto C 13 dX8_fussBy_9 (by decide) ?_
    exact bx_cut [0, 1] (([] : va_W)) rfl rfl (t_X8_fussBy_13 C    x0 x1 (2 * x1) hv)
theorem k_X8_fussBy (l : Launch) (E : bx_E)   (K : Int32 → Prop)  (x0 : Int32) (x1 : Int32) (x2 : Int32) (hv : V_X8_fussBy  K  x0 x1 x2) : bx_Mi l E yX8_fussBy cX8_fussBy 4 (some .int) (rmD 0) [.int x0, .int x1, .int x2] (fun (_ : Unit) => ([] : va_W)) () (fun r (_ : Unit) => K r) :=
  bx_meti (by decide +kernel) (Nat.le_of_ble_eq_true rfl) (fun p e S m below meth c C => t_X8_fussBy_0 C  x0 x1 x2 hv)
abbrev G_X8_soulOf (p : Program) (l : Launch) (e : Env) (S : State) (m : MethodId) (args : Array Value) (below : List Frame) (meth : Method) (c : Code) (E : bx_E) (A : Nat → Prop) (a : Nat → Nat)  (u : (Nat → Int32)) (K : Int32 → Prop) (pc : Nat) (lv : List (Nat × Value)) (st : List Value) (ws : va_W) : Prop := bx_S p l e (rmD 0) S m args below meth c 3 E A (MQ below (va_Qi (fun r (_ : Unit) => K r) (fun (_ : Unit) t => bx_B E A (w_A E a u) t) A) args S 0 0 A) 0 0 pc lv st ws
def V_X8_soulOf  (K : Int32 → Prop)  (u : (Nat → Int32)) (x1 : Int32) (x2 : Int32) : Prop := (vp_in ((9 + (3 * x1)) + x2) 171 ∧ K (u (((9 + (3 * x1)) + x2) : Int32).toNatClampNeg))
set_option maxRecDepth 20000 in
set_option maxHeartbeats 4000000 in
theorem t_X8_soulOf_0 {a : Nat → Nat} {K : Int32 → Prop} (C : bx_C p (rmD 0) S m args meth c cX8_soulOf 3 yX8_soulOf.cls (some .int) E A 0 0) (u : (Nat → Int32))   (x1 : Int32) (x2 : Int32) (hv : V_X8_soulOf K u x1 x2) : G_X8_soulOf p l e S m args below meth c E A a  u K 0 [(0, .ref (a 0)), (1, .int x1), (2, .int x2)] [] (w_A E a u) := by
  unfold V_X8_soulOf at hv
  refine bx_aload_n C 1 dX8_soulOf_0 rfl rfl rfl ?_
  refine bx_bipush C 9 3 dX8_soulOf_1 bp_9 rfl ?_
  refine bx_iconst C 3 4 dX8_soulOf_3 ic_3 rfl ?_
  refine bx_iload_n C 5 dX8_soulOf_4 rfl rfl rfl ?_
  refine bx_imul C 6 dX8_soulOf_5 rfl ?_
  refine bx_iadd C 7 dX8_soulOf_6 rfl ?_
  refine bx_iload_n C 8 dX8_soulOf_7 rfl rfl rfl ?_
  refine bx_iadd C 9 dX8_soulOf_8 rfl ?_
  refine bx_iald (f := u) C 10 0 dX8_soulOf_9 rfl hv.1 rfl ?_
  replace hv := hv.2
  exact bx_iret C () rfl dX8_soulOf_10 rfl hv
theorem k_X8_soulOf (l : Launch) (E : bx_E) (a : Nat → Nat)  (K : Int32 → Prop) (u : (Nat → Int32)) (x1 : Int32) (x2 : Int32) (hv : V_X8_soulOf  K u x1 x2) : bx_Mi l E yX8_soulOf cX8_soulOf 3 (some .int) (rmD 0) [.ref (a 0), .int x1, .int x2] (fun (_ : Unit) => w_A E a u) () (fun r (_ : Unit) => K r) :=
  bx_meti (by decide +kernel) (Nat.le_of_ble_eq_true rfl) (fun p e S m below meth c C => t_X8_soulOf_0 C u x1 x2 hv)
abbrev G_X8_cellOf (p : Program) (l : Launch) (e : Env) (S : State) (m : MethodId) (args : Array Value) (below : List Frame) (meth : Method) (c : Code) (E : bx_E) (A : Nat → Prop) (a : Nat → Nat)  (u : (Nat → Int32)) (K : Int32 → Prop) (pc : Nat) (lv : List (Nat × Value)) (st : List Value) (ws : va_W) : Prop := bx_S p l e (rmD 1) S m args below meth c 2 E A (MQ below (va_Qi (fun r (_ : Unit) => K r) (fun (_ : Unit) t => bx_B E A (w_A E a u) t) A) args S 0 0 A) 0 0 pc lv st ws
def V_X8_cellOf  (K : Int32 → Prop)  (u : (Nat → Int32)) (x1 : Int32) : Prop := (V_X8_soulOf (fun r1 => K (r1 - 1)) u x1 2)
set_option maxRecDepth 20000 in
set_option maxHeartbeats 4000000 in
theorem t_X8_cellOf_0 {a : Nat → Nat} {K : Int32 → Prop} (C : bx_C p (rmD 1) S m args meth c cX8_cellOf 2 yX8_cellOf.cls (some .int) E A 0 0) (u : (Nat → Int32))   (x1 : Int32) (hv : V_X8_cellOf K u x1) : G_X8_cellOf p l e S m args below meth c E A a  u K 0 [(0, .ref (a 0)), (1, .int x1)] [] (w_A E a u) := by
  unfold V_X8_cellOf at hv
  refine bx_aload_n C 1 dX8_cellOf_0 rfl rfl rfl ?_
  refine bx_iload_n C 2 dX8_cellOf_1 rfl rfl rfl ?_
  refine bx_iconst C 2 3 dX8_cellOf_2 ic_2 rfl ?_
  refine bx_pSi C 6 fc_X8_55 (k_X8_soulOf l E a _ _ _ _ hv) dX8_cellOf_3 ⟨rfl, rfl, Nat.le_of_ble_eq_true rfl, Nat.le_of_ble_eq_true rfl⟩ [0] ps_A_A_0 (by decide) rfl rfl (Nat.le_of_ble_eq_true rfl) rfl (fun r1 hv => ?_)
  refine bx_iconst C 1 7 dX8_cellOf_6 ic_1 rfl ?_
  refine bx_isub C 8 dX8_cellOf_7 rfl ?_
  exact bx_iret C () rfl dX8_cellOf_8 rfl hv
theorem k_X8_cellOf (l : Launch) (E : bx_E) (a : Nat → Nat)  (K : Int32 → Prop) (u : (Nat → Int32)) (x1 : Int32) (hv : V_X8_cellOf  K u x1) : bx_Mi l E yX8_cellOf cX8_cellOf 2 (some .int) (rmD 1) [.ref (a 0), .int x1] (fun (_ : Unit) => w_A E a u) () (fun r (_ : Unit) => K r) :=
  bx_meti (by decide +kernel) (Nat.le_of_ble_eq_true rfl) (fun p e S m below meth c C => t_X8_cellOf_0 C u x1 hv)
abbrev G_X8_sits (p : Program) (l : Launch) (e : Env) (S : State) (m : MethodId) (args : Array Value) (below : List Frame) (meth : Method) (c : Code) (E : bx_E) (A : Nat → Prop) (a : Nat → Nat)  (K : (Nat → Int32) → Prop) (pc : Nat) (lv : List (Nat × Value)) (st : List Value) (ws : va_W) : Prop := bx_S p l e (rmD 0) S m args below meth c 3 E A (MQ below (va_Qv K (fun (u : (Nat → Int32)) t => bx_B E A (w_A E a u) t) A) args S 0 0 A) 0 0 pc lv st ws
def V_X8_sits  (K : (Nat → Int32) → Prop)  (u : (Nat → Int32)) (x1 : Int32) (x2 : Int32) : Prop := (vp_in (11 + (3 * x1)) 171 ∧ K (upd u ((11 + (3 * x1)) : Int32).toNatClampNeg (x2 + 1)))
set_option maxRecDepth 20000 in
set_option maxHeartbeats 4000000 in
theorem t_X8_sits_0 {a : Nat → Nat} {K : (Nat → Int32) → Prop} (C : bx_C p (rmD 0) S m args meth c cX8_sits 3 yX8_sits.cls none E A 0 0)   (u : (Nat → Int32)) (x1 : Int32) (x2 : Int32) (hv : V_X8_sits K u x1 x2) : G_X8_sits p l e S m args below meth c E A a  K 0 [(0, .ref (a 0)), (1, .int x1), (2, .int x2)] [] (w_A E a u) := by
  unfold V_X8_sits at hv
  refine bx_aload_n C 1 dX8_sits_0 rfl rfl rfl ?_
  refine bx_bipush C 11 3 dX8_sits_1 bp_11 rfl ?_
  refine bx_iconst C 3 4 dX8_sits_3 ic_3 rfl ?_
  refine bx_iload_n C 5 dX8_sits_4 rfl rfl rfl ?_
  refine bx_imul C 6 dX8_sits_5 rfl ?_
  refine bx_iadd C 7 dX8_sits_6 rfl ?_
  refine bx_iload_n C 8 dX8_sits_7 rfl rfl rfl ?_
  refine bx_iconst C 1 9 dX8_sits_8 ic_1 rfl ?_
  refine bx_iadd C 10 dX8_sits_9 rfl ?_
  refine bx_iast C 11 0 (w_A E a (upd u ((11 + (3 * x1)) : Int32).toNatClampNeg (x2 + 1))) dX8_sits_10 rfl hv.1 rfl rfl ?_
  replace hv := hv.2
  exact bx_vret C (upd u ((11 + (3 * x1)) : Int32).toNatClampNeg (x2 + 1)) rfl dX8_sits_11 rfl hv
theorem k_X8_sits (l : Launch) (E : bx_E) (a : Nat → Nat)  (K : (Nat → Int32) → Prop) (u : (Nat → Int32)) (x1 : Int32) (x2 : Int32) (hv : V_X8_sits  K u x1 x2) : bx_Mv l E yX8_sits cX8_sits 3 none (rmD 0) [.ref (a 0), .int x1, .int x2] (fun (u : (Nat → Int32)) => w_A E a u) u K :=
  bx_metv (by decide +kernel) (Nat.le_of_ble_eq_true rfl) (fun p e S m below meth c C => t_X8_sits_0 C u x1 x2 hv)
abbrev G_X8_whoSits (p : Program) (l : Launch) (e : Env) (S : State) (m : MethodId) (args : Array Value) (below : List Frame) (meth : Method) (c : Code) (E : bx_E) (A : Nat → Prop) (a : Nat → Nat)  (u : (Nat → Int32)) (K : Int32 → Prop) (pc : Nat) (lv : List (Nat × Value)) (st : List Value) (ws : va_W) : Prop := bx_S p l e (rmD 2) S m args below meth c 3 E A (MQ below (va_Qi (fun r (_ : Unit) => K r) (fun (_ : Unit) t => bx_B E A (w_A E a u) t) A) args S 0 0 A) 0 0 pc lv st ws
def V_X8_whoSits_2  (K : Int32 → Prop)  : Nat → (Nat → Int32) → Int32 → Int32 → Prop
  | 0, _, _, _ => False
  | n + 1, u, x1, x2 => (((u 8) ≤ x2 → K (-1)) ∧
 (¬ (u 8) ≤ x2 → (V_X8_cellOf (fun r1 => ((¬ r1 = x1 → V_X8_whoSits_2 K n u x1 (x2 + 1)) ∧
 (r1 = x1 → K x2))) u x2)))
set_option maxRecDepth 20000 in
set_option maxHeartbeats 4000000 in
theorem t_X8_whoSits_2 {a : Nat → Nat} {K : Int32 → Prop} (C : bx_C p (rmD 2) S m args meth c cX8_whoSits 3 yX8_whoSits.cls (some .int) E A 0 0) (u : (Nat → Int32))  : ∀ (n : Nat)  (x1 : Int32) (x2 : Int32), V_X8_whoSits_2 K n u x1 x2 → G_X8_whoSits p l e S m args below meth c E A a  u K 2 [(0, .ref (a 0)), (1, .int x1), (2, .int x2)] [] (w_A E a u) := by
  intro n
  induction n with
  | zero =>
    intro x1 x2 hv
    exact False.elim hv
  | succ n ih =>
    intro x1 x2 hv
    unfold V_X8_whoSits_2 at hv
    refine bx_iload_n C 3 dX8_whoSits_2 rfl rfl rfl ?_
    refine bx_aload_n C 4 dX8_whoSits_3 rfl rfl rfl ?_
    refine bx_bipush C 8 6 dX8_whoSits_4 bp_8 rfl ?_
    refine bx_iald_k (f := u) C 7 0 8 dX8_whoSits_6 rfl vin_8_171 cl_8 rfl ?_
    refine bx_icmp_ge C 27 10 dX8_whoSits_7 (by decide) rfl (fun h => ?_) (fun h => ?_)
    · replace hv := hv.1 h
      refine bx_iconst C (-1) 28 dX8_whoSits_27 ic_m1 rfl ?_
      exact bx_iret C () rfl dX8_whoSits_28 rfl hv
    · replace hv := hv.2 h
      refine bx_aload_n C 11 dX8_whoSits_10 rfl rfl rfl ?_
      refine bx_iload_n C 12 dX8_whoSits_11 rfl rfl rfl ?_
      refine bx_pSi C 15 fc_X8_59 (k_X8_cellOf l E a _ _ _ hv) dX8_whoSits_12 ⟨rfl, rfl, Nat.le_of_ble_eq_true rfl, Nat.le_of_ble_eq_true rfl⟩ [0] ps_A_A_0 (by decide) rfl rfl (Nat.le_of_ble_eq_true rfl) rfl (fun r1 hv => ?_)
      refine bx_iload_n C 16 dX8_whoSits_15 rfl rfl rfl ?_
      refine bx_icmp_ne C 21 19 dX8_whoSits_16 (by decide) rfl (fun h => ?_) (fun h => ?_)
      · replace hv := hv.1 h
        refine bx_iinc C 1 24 dX8_whoSits_21 rfl (by decide) ic_1 rfl ?_
        refine bx_goto C 2 dX8_whoSits_24 (by decide) ?_
        exact bx_cut [1, 2, 0] (w_A E a u) rfl rfl (ih  x1 (x2 + 1) hv)
      · replace hv := hv.2 h
        refine bx_iload_n C 20 dX8_whoSits_19 rfl rfl rfl ?_
        exact bx_iret C () rfl dX8_whoSits_20 rfl hv
def V_X8_whoSits  (K : Int32 → Prop)  (u : (Nat → Int32)) (x1 : Int32) : Prop := ∃ n2, V_X8_whoSits_2 K n2 u x1 0
set_option maxRecDepth 20000 in
set_option maxHeartbeats 4000000 in
theorem t_X8_whoSits_0 {a : Nat → Nat} {K : Int32 → Prop} (C : bx_C p (rmD 2) S m args meth c cX8_whoSits 3 yX8_whoSits.cls (some .int) E A 0 0) (u : (Nat → Int32))   (x1 : Int32) (hv : V_X8_whoSits K u x1) : G_X8_whoSits p l e S m args below meth c E A a  u K 0 [(0, .ref (a 0)), (1, .int x1)] [] (w_A E a u) := by
  unfold V_X8_whoSits at hv
  refine bx_iconst C 0 1 dX8_whoSits_0 ic_0 rfl ?_
  refine bx_istore_n C 2 dX8_whoSits_1 rfl (by decide) rfl ?_
  obtain ⟨n2, hv⟩ := hv
  exact bx_cut [1, 2, 0] (w_A E a u) rfl rfl (t_X8_whoSits_2 C u  n2  x1 0 hv)
theorem k_X8_whoSits (l : Launch) (E : bx_E) (a : Nat → Nat)  (K : Int32 → Prop) (u : (Nat → Int32)) (x1 : Int32) (hv : V_X8_whoSits  K u x1) : bx_Mi l E yX8_whoSits cX8_whoSits 3 (some .int) (rmD 2) [.ref (a 0), .int x1] (fun (_ : Unit) => w_A E a u) () (fun r (_ : Unit) => K r) :=
  bx_meti (by decide +kernel) (Nat.le_of_ble_eq_true rfl) (fun p e S m below meth c C => t_X8_whoSits_0 C u x1 hv)
abbrev G_X8_isFree (p : Program) (l : Launch) (e : Env) (S : State) (m : MethodId) (args : Array Value) (below : List Frame) (meth : Method) (c : Code) (E : bx_E) (A : Nat → Prop) (a : Nat → Nat)  (u : (Nat → Int32)) (K : Int32 → Prop) (pc : Nat) (lv : List (Nat × Value)) (st : List Value) (ws : va_W) : Prop := bx_S p l e (rmD 3) S m args below meth c 2 E A (MQ below (va_Qi (fun r (_ : Unit) => K r) (fun (_ : Unit) t => bx_B E A (w_A E a u) t) A) args S 0 0 A) 0 0 pc lv st ws
def V_X8_isFree  (K : Int32 → Prop)  (u : (Nat → Int32)) (x1 : Int32) : Prop := (V_X8_whoSits (fun r1 => ((¬ r1 = (-1) → K 0) ∧
 (r1 = (-1) → (V_X8_has (fun r2 => ((¬ r2 = 0 → K 0) ∧
 (r2 = 0 → K 1)))  (u 5) x1)))) u x1)
set_option maxRecDepth 20000 in
set_option maxHeartbeats 4000000 in
theorem t_X8_isFree_0 {a : Nat → Nat} {K : Int32 → Prop} (C : bx_C p (rmD 3) S m args meth c cX8_isFree 2 yX8_isFree.cls (some .boolean) E A 0 0) (u : (Nat → Int32))   (x1 : Int32) (hv : V_X8_isFree K u x1) : G_X8_isFree p l e S m args below meth c E A a  u K 0 [(0, .ref (a 0)), (1, .int x1)] [] (w_A E a u) := by
  unfold V_X8_isFree at hv
  refine bx_aload_n C 1 dX8_isFree_0 rfl rfl rfl ?_
  refine bx_iload_n C 2 dX8_isFree_1 rfl rfl rfl ?_
  refine bx_pSi C 5 fc_X8_63 (k_X8_whoSits l E a _ _ _ hv) dX8_isFree_2 ⟨rfl, rfl, Nat.le_of_ble_eq_true rfl, Nat.le_of_ble_eq_true rfl⟩ [0] ps_A_A_0 (by decide) rfl rfl (Nat.le_of_ble_eq_true rfl) rfl (fun r1 hv => ?_)
  refine bx_iconst C (-1) 6 dX8_isFree_5 ic_m1 rfl ?_
  refine bx_icmp_ne C 23 9 dX8_isFree_6 (by decide) rfl (fun h => ?_) (fun h => ?_)
  · replace hv := hv.1 h
    refine bx_iconst C 0 24 dX8_isFree_23 ic_0 rfl ?_
    exact bx_zret C () rfl dX8_isFree_24 rfl (Or.inl rfl) hv
  · replace hv := hv.2 h
    refine bx_aload_n C 10 dX8_isFree_9 rfl rfl rfl ?_
    refine bx_iconst C 5 11 dX8_isFree_10 ic_5 rfl ?_
    refine bx_iald_k (f := u) C 12 0 5 dX8_isFree_11 rfl vin_5_171 cl_5 rfl ?_
    refine bx_iload_n C 13 dX8_isFree_12 rfl rfl rfl ?_
    refine bx_pSi C 16 fc_X8_66 (k_X8_has l E  _ _ _ hv) dX8_isFree_13 ⟨rfl, rfl, Nat.le_of_ble_eq_true rfl, Nat.le_of_ble_eq_true rfl⟩ [] rfl (by decide) rfl rfl (Nat.le_of_ble_eq_true rfl) rfl (fun r2 hv => ?_)
    refine bx_if_ne C 23 19 dX8_isFree_16 (by decide) rfl (fun h => ?_) (fun h => ?_)
    · replace hv := hv.1 h
      refine bx_iconst C 0 24 dX8_isFree_23 ic_0 rfl ?_
      exact bx_zret C () rfl dX8_isFree_24 rfl (Or.inl rfl) hv
    · replace hv := hv.2 h
      refine bx_iconst C 1 20 dX8_isFree_19 ic_1 rfl ?_
      refine bx_goto C 24 dX8_isFree_20 (by decide) ?_
      exact bx_zret C () rfl dX8_isFree_24 rfl (Or.inr rfl) hv
theorem k_X8_isFree (l : Launch) (E : bx_E) (a : Nat → Nat)  (K : Int32 → Prop) (u : (Nat → Int32)) (x1 : Int32) (hv : V_X8_isFree  K u x1) : bx_Mi l E yX8_isFree cX8_isFree 2 (some .boolean) (rmD 3) [.ref (a 0), .int x1] (fun (_ : Unit) => w_A E a u) () (fun r (_ : Unit) => K r) :=
  bx_meti (by decide +kernel) (Nat.le_of_ble_eq_true rfl) (fun p e S m below meth c C => t_X8_isFree_0 C u x1 hv)
abbrev G_X8_knees (p : Program) (l : Launch) (e : Env) (S : State) (m : MethodId) (args : Array Value) (below : List Frame) (meth : Method) (c : Code) (E : bx_E) (A : Nat → Prop) (a : Nat → Nat)  (u : (Nat → Int32)) (K : Int32 → Prop) (pc : Nat) (lv : List (Nat × Value)) (st : List Value) (ws : va_W) : Prop := bx_S p l e (rmD 2) S m args below meth c 6 E A (MQ below (va_Qi (fun r (_ : Unit) => K r) (fun (_ : Unit) t => bx_B E A (w_A E a u) t) A) args S 0 0 A) 0 0 pc lv st ws
def V_X8_knees_5  (K : Int32 → Prop)  : Nat → (Nat → Int32) → Int32 → Int32 → Int32 → Int32 → Prop
  | 0, _, _, _, _, _ => False
  | n + 1, u, x1, x2, x3, x4 => (((u 8) ≤ x4 → K x3) ∧
 (¬ (u 8) ≤ x4 → (V_X8_cellOf (fun r1 => ((x4 = x2 → V_X8_knees_5 K n u x1 x2 (x3 + 0) (x4 + 1)) ∧
 (¬ x4 = x2 → ((r1 < ((x1 / 6) * 6) → V_X8_knees_5 K n u x1 x2 (x3 + 0) (x4 + 1)) ∧
 (¬ r1 < ((x1 / 6) * 6) → ((x1 ≤ r1 → V_X8_knees_5 K n u x1 x2 (x3 + 0) (x4 + 1)) ∧
 (¬ x1 ≤ r1 → V_X8_knees_5 K n u x1 x2 (x3 + 1) (x4 + 1)))))))) u x4)))
set_option maxRecDepth 20000 in
set_option maxHeartbeats 4000000 in
theorem t_X8_knees_5 {a : Nat → Nat} {K : Int32 → Prop} (C : bx_C p (rmD 2) S m args meth c cX8_knees 6 yX8_knees.cls (some .int) E A 0 0) (u : (Nat → Int32))  : ∀ (n : Nat)  (x1 : Int32) (x2 : Int32) (x3 : Int32) (x4 : Int32), V_X8_knees_5 K n u x1 x2 x3 x4 → G_X8_knees p l e S m args below meth c E A a  u K 5 [(0, .ref (a 0)), (1, .int x1), (2, .int x2), (3, .int x3), (4, .int x4)] [] (w_A E a u) := by
  intro n
  induction n with
  | zero =>
    intro x1 x2 x3 x4 hv
    exact False.elim hv
  | succ n ih =>
    intro x1 x2 x3 x4 hv
    unfold V_X8_knees_5 at hv
    refine bx_iload C 7 dX8_knees_5 rfl rfl ?_
    refine bx_aload_n C 8 dX8_knees_7 rfl rfl rfl ?_
    refine bx_bipush C 8 10 dX8_knees_8 bp_8 rfl ?_
    refine bx_iald_k (f := u) C 11 0 8 dX8_knees_10 rfl vin_8_171 cl_8 rfl ?_
    refine bx_icmp_ge C 60 14 dX8_knees_11 (by decide) rfl (fun h => ?_) (fun h => ?_)
    · replace hv := hv.1 h
      refine bx_iload_n C 61 dX8_knees_60 rfl rfl rfl ?_
      exact bx_iret C () rfl dX8_knees_61 rfl hv
    · replace hv := hv.2 h
      refine bx_aload_n C 15 dX8_knees_14 rfl rfl rfl ?_
      refine bx_iload C 17 dX8_knees_15 rfl rfl ?_
      refine bx_pSi C 20 fc_X8_59 (k_X8_cellOf l E a _ _ _ hv) dX8_knees_17 ⟨rfl, rfl, Nat.le_of_ble_eq_true rfl, Nat.le_of_ble_eq_true rfl⟩ [0] ps_A_A_0 (by decide) rfl rfl (Nat.le_of_ble_eq_true rfl) rfl (fun r1 hv => ?_)
      refine bx_istore C 22 dX8_knees_20 (by decide) rfl ?_
      refine bx_iload_n C 23 dX8_knees_22 rfl rfl rfl ?_
      refine bx_iload C 25 dX8_knees_23 rfl rfl ?_
      refine bx_iload_n C 26 dX8_knees_25 rfl rfl rfl ?_
      refine bx_icmp_eq C 51 29 dX8_knees_26 (by decide) rfl (fun h => ?_) (fun h => ?_)
      · replace hv := hv.1 h
        refine bx_iconst C 0 52 dX8_knees_51 ic_0 rfl ?_
        refine bx_iadd C 53 dX8_knees_52 rfl ?_
        refine bx_istore_n C 54 dX8_knees_53 rfl (by decide) rfl ?_
        refine bx_iinc C 1 57 dX8_knees_54 rfl (by decide) ic_1 rfl ?_
        refine bx_goto C 5 dX8_knees_57 (by decide) ?_
        exact bx_cut [3, 4, 5, 1, 0] (w_A E a u) rfl rfl (ih  x1 x2 (x3 + 0) (x4 + 1) hv)
      · replace hv := hv.2 h
        refine bx_iload C 31 dX8_knees_29 rfl rfl ?_
        refine bx_iload_n C 32 dX8_knees_31 rfl rfl rfl ?_
        refine bx_bipush C 6 34 dX8_knees_32 bp_6 rfl ?_
        refine bx_idiv C 35 dX8_knees_34 nz32_6 rfl ?_
        refine bx_bipush C 6 37 dX8_knees_35 bp_6 rfl ?_
        refine bx_imul C 38 dX8_knees_37 rfl ?_
        refine bx_icmp_lt C 51 41 dX8_knees_38 (by decide) rfl (fun h => ?_) (fun h => ?_)
        · replace hv := hv.1 h
          refine bx_iconst C 0 52 dX8_knees_51 ic_0 rfl ?_
          refine bx_iadd C 53 dX8_knees_52 rfl ?_
          refine bx_istore_n C 54 dX8_knees_53 rfl (by decide) rfl ?_
          refine bx_iinc C 1 57 dX8_knees_54 rfl (by decide) ic_1 rfl ?_
          refine bx_goto C 5 dX8_knees_57 (by decide) ?_
          exact bx_cut [3, 4, 5, 1, 0] (w_A E a u) rfl rfl (ih  x1 x2 (x3 + 0) (x4 + 1) hv)
        · replace hv := hv.2 h
          refine bx_iload C 43 dX8_knees_41 rfl rfl ?_
          refine bx_iload_n C 44 dX8_knees_43 rfl rfl rfl ?_
          refine bx_icmp_ge C 51 47 dX8_knees_44 (by decide) rfl (fun h => ?_) (fun h => ?_)
          · replace hv := hv.1 h
            refine bx_iconst C 0 52 dX8_knees_51 ic_0 rfl ?_
            refine bx_iadd C 53 dX8_knees_52 rfl ?_
            refine bx_istore_n C 54 dX8_knees_53 rfl (by decide) rfl ?_
            refine bx_iinc C 1 57 dX8_knees_54 rfl (by decide) ic_1 rfl ?_
            refine bx_goto C 5 dX8_knees_57 (by decide) ?_
            exact bx_cut [3, 4, 5, 1, 0] (w_A E a u) rfl rfl (ih  x1 x2 (x3 + 0) (x4 + 1) hv)
          · replace hv := hv.2 h
            refine bx_iconst C 1 48 dX8_knees_47 ic_1 rfl ?_
            refine bx_goto C 52 dX8_knees_48 (by decide) ?_
            refine bx_iadd C 53 dX8_knees_52 rfl ?_
            refine bx_istore_n C 54 dX8_knees_53 rfl (by decide) rfl ?_
            refine bx_iinc C 1 57 dX8_knees_54 rfl (by decide) ic_1 rfl ?_
            refine bx_goto C 5 dX8_knees_57 (by decide) ?_
            exact bx_cut [3, 4, 5, 1, 0] (w_A E a u) rfl rfl (ih  x1 x2 (x3 + 1) (x4 + 1) hv)
def V_X8_knees  (K : Int32 → Prop)  (u : (Nat → Int32)) (x1 : Int32) (x2 : Int32) : Prop := ∃ n2, V_X8_knees_5 K n2 u x1 x2 0 0
set_option maxRecDepth 20000 in
set_option maxHeartbeats 4000000 in
theorem t_X8_knees_0 {a : Nat → Nat} {K : Int32 → Prop} (C : bx_C p (rmD 2) S m args meth c cX8_knees 6 yX8_knees.cls (some .int) E A 0 0) (u : (Nat → Int32))   (x1 : Int32) (x2 : Int32) (hv : V_X8_knees K u x1 x2) : G_X8_knees p l e S m args below meth c E A a  u K 0 [(0, .ref (a 0)), (1, .int x1), (2, .int x2)] [] (w_A E a u) := by
  unfold V_X8_knees at hv
  refine bx_iconst C 0 1 dX8_knees_0 ic_0 rfl ?_
  refine bx_istore_n C 2 dX8_knees_1 rfl (by decide) rfl ?_
  refine bx_iconst C 0 3 dX8_knees_2 ic_0 rfl ?_
  refine bx_istore C 5 dX8_knees_3 (by decide) rfl ?_
  obtain ⟨n2, hv⟩ := hv
  exact bx_cut [2, 3, 4, 1, 0] (w_A E a u) rfl rfl (t_X8_knees_5 C u  n2  x1 x2 0 0 hv)
theorem k_X8_knees (l : Launch) (E : bx_E) (a : Nat → Nat)  (K : Int32 → Prop) (u : (Nat → Int32)) (x1 : Int32) (x2 : Int32) (hv : V_X8_knees  K u x1 x2) : bx_Mi l E yX8_knees cX8_knees 6 (some .int) (rmD 2) [.ref (a 0), .int x1, .int x2] (fun (_ : Unit) => w_A E a u) () (fun r (_ : Unit) => K r) :=
  bx_meti (by decide +kernel) (Nat.le_of_ble_eq_true rfl) (fun p e S m below meth c C => t_X8_knees_0 C u x1 x2 hv)
abbrev G_X8_makesBy (p : Program) (l : Launch) (e : Env) (S : State) (m : MethodId) (args : Array Value) (below : List Frame) (meth : Method) (c : Code) (E : bx_E) (A : Nat → Prop) (a : Nat → Nat)  (u : (Nat → Int32)) (K : Int32 → Prop) (pc : Nat) (lv : List (Nat × Value)) (st : List Value) (ws : va_W) : Prop := bx_S p l e (rmD 3) S m args below meth c 3 E A (MQ below (va_Qi (fun r (_ : Unit) => K r) (fun (_ : Unit) t => bx_B E A (w_A E a u) t) A) args S 0 0 A) 0 0 pc lv st ws
def V_X8_makesBy  (K : Int32 → Prop)  (u : (Nat → Int32)) (x1 : Int32) (x2 : Int32) : Prop := (V_X8_soulOf (fun r1 => (V_X8_knees (fun r2 => (V_X8_fussBy (fun r3 => K r3)  r1 r2 (u 6))) u x2 x1)) u x1 0)
set_option maxRecDepth 20000 in
set_option maxHeartbeats 4000000 in
theorem t_X8_makesBy_0 {a : Nat → Nat} {K : Int32 → Prop} (C : bx_C p (rmD 3) S m args meth c cX8_makesBy 3 yX8_makesBy.cls (some .int) E A 0 0) (u : (Nat → Int32))   (x1 : Int32) (x2 : Int32) (hv : V_X8_makesBy K u x1 x2) : G_X8_makesBy p l e S m args below meth c E A a  u K 0 [(0, .ref (a 0)), (1, .int x1), (2, .int x2)] [] (w_A E a u) := by
  unfold V_X8_makesBy at hv
  refine bx_aload_n C 1 dX8_makesBy_0 rfl rfl rfl ?_
  refine bx_iload_n C 2 dX8_makesBy_1 rfl rfl rfl ?_
  refine bx_iconst C 0 3 dX8_makesBy_2 ic_0 rfl ?_
  refine bx_pSi C 6 fc_X8_55 (k_X8_soulOf l E a _ _ _ _ hv) dX8_makesBy_3 ⟨rfl, rfl, Nat.le_of_ble_eq_true rfl, Nat.le_of_ble_eq_true rfl⟩ [0] ps_A_A_0 (by decide) rfl rfl (Nat.le_of_ble_eq_true rfl) rfl (fun r1 hv => ?_)
  refine bx_aload_n C 7 dX8_makesBy_6 rfl rfl rfl ?_
  refine bx_iload_n C 8 dX8_makesBy_7 rfl rfl rfl ?_
  refine bx_iload_n C 9 dX8_makesBy_8 rfl rfl rfl ?_
  refine bx_pSi C 12 fc_X8_70 (k_X8_knees l E a _ _ _ _ hv) dX8_makesBy_9 ⟨rfl, rfl, Nat.le_of_ble_eq_true rfl, Nat.le_of_ble_eq_true rfl⟩ [0] ps_A_A_0 (by decide) rfl rfl (Nat.le_of_ble_eq_true rfl) rfl (fun r2 hv => ?_)
  refine bx_aload_n C 13 dX8_makesBy_12 rfl rfl rfl ?_
  refine bx_bipush C 6 15 dX8_makesBy_13 bp_6 rfl ?_
  refine bx_iald_k (f := u) C 16 0 6 dX8_makesBy_15 rfl vin_6_171 cl_6 rfl ?_
  refine bx_pSi C 19 fc_X8_73 (k_X8_fussBy l E  _ _ _ _ hv) dX8_makesBy_16 ⟨rfl, rfl, Nat.le_of_ble_eq_true rfl, Nat.le_of_ble_eq_true rfl⟩ [] rfl (by decide) rfl rfl (Nat.le_of_ble_eq_true rfl) rfl (fun r3 hv => ?_)
  exact bx_iret C () rfl dX8_makesBy_19 rfl hv
theorem k_X8_makesBy (l : Launch) (E : bx_E) (a : Nat → Nat)  (K : Int32 → Prop) (u : (Nat → Int32)) (x1 : Int32) (x2 : Int32) (hv : V_X8_makesBy  K u x1 x2) : bx_Mi l E yX8_makesBy cX8_makesBy 3 (some .int) (rmD 3) [.ref (a 0), .int x1, .int x2] (fun (_ : Unit) => w_A E a u) () (fun r (_ : Unit) => K r) :=
  bx_meti (by decide +kernel) (Nat.le_of_ble_eq_true rfl) (fun p e S m below meth c C => t_X8_makesBy_0 C u x1 x2 hv)
abbrev G_X8_seesFrom (p : Program) (l : Launch) (e : Env) (S : State) (m : MethodId) (args : Array Value) (below : List Frame) (meth : Method) (c : Code) (E : bx_E) (A : Nat → Prop) (a : Nat → Nat)  (u : (Nat → Int32)) (K : Int32 → Prop) (pc : Nat) (lv : List (Nat × Value)) (st : List Value) (ws : va_W) : Prop := bx_S p l e (rmD 1) S m args below meth c 2 E A (MQ below (va_Qi (fun r (_ : Unit) => K r) (fun (_ : Unit) t => bx_B E A (w_A E a u) t) A) args S 0 0 A) 0 0 pc lv st ws
def V_X8_seesFrom  (K : Int32 → Prop)  (u : (Nat → Int32)) (x1 : Int32) : Prop := (vp_in (x1 / 6) 171 ∧ (V_X8_seesBy (fun r1 => K r1)  (u ((x1 / 6) : Int32).toNatClampNeg) (x1 - x1 / 6 * 6)))
set_option maxRecDepth 20000 in
set_option maxHeartbeats 4000000 in
theorem t_X8_seesFrom_0 {a : Nat → Nat} {K : Int32 → Prop} (C : bx_C p (rmD 1) S m args meth c cX8_seesFrom 2 yX8_seesFrom.cls (some .int) E A 0 0) (u : (Nat → Int32))   (x1 : Int32) (hv : V_X8_seesFrom K u x1) : G_X8_seesFrom p l e S m args below meth c E A a  u K 0 [(0, .ref (a 0)), (1, .int x1)] [] (w_A E a u) := by
  unfold V_X8_seesFrom at hv
  refine bx_aload_n C 1 dX8_seesFrom_0 rfl rfl rfl ?_
  refine bx_iload_n C 2 dX8_seesFrom_1 rfl rfl rfl ?_
  refine bx_bipush C 6 4 dX8_seesFrom_2 bp_6 rfl ?_
  refine bx_idiv C 5 dX8_seesFrom_4 nz32_6 rfl ?_
  refine bx_iald (f := u) C 6 0 dX8_seesFrom_5 rfl hv.1 rfl ?_
  replace hv := hv.2
  refine bx_iload_n C 7 dX8_seesFrom_6 rfl rfl rfl ?_
  refine bx_bipush C 6 9 dX8_seesFrom_7 bp_6 rfl ?_
  refine bx_irem C 10 dX8_seesFrom_9 nz32_6 rfl ?_
  refine bx_pSi C 13 fc_X8_77 (k_X8_seesBy l E  _ _ _ hv) dX8_seesFrom_10 ⟨rfl, rfl, Nat.le_of_ble_eq_true rfl, Nat.le_of_ble_eq_true rfl⟩ [] rfl (by decide) rfl rfl (Nat.le_of_ble_eq_true rfl) rfl (fun r1 hv => ?_)
  exact bx_iret C () rfl dX8_seesFrom_13 rfl hv
theorem k_X8_seesFrom (l : Launch) (E : bx_E) (a : Nat → Nat)  (K : Int32 → Prop) (u : (Nat → Int32)) (x1 : Int32) (hv : V_X8_seesFrom  K u x1) : bx_Mi l E yX8_seesFrom cX8_seesFrom 2 (some .int) (rmD 1) [.ref (a 0), .int x1] (fun (_ : Unit) => w_A E a u) () (fun r (_ : Unit) => K r) :=
  bx_meti (by decide +kernel) (Nat.le_of_ble_eq_true rfl) (fun p e S m below meth c C => t_X8_seesFrom_0 C u x1 hv)
abbrev G_X8_fusses (p : Program) (l : Launch) (e : Env) (S : State) (m : MethodId) (args : Array Value) (below : List Frame) (meth : Method) (c : Code) (E : bx_E) (A : Nat → Prop) (a : Nat → Nat)  (K : (Nat → Int32) → Prop) (pc : Nat) (lv : List (Nat × Value)) (st : List Value) (ws : va_W) : Prop := bx_S p l e (rmD 0) S m args below meth c 2 E A (MQ below (va_Qv K (fun (u : (Nat → Int32)) t => bx_B E A (w_A E a u) t) A) args S 0 0 A) 0 0 pc lv st ws
def V_X8_fusses_25  (K : (Nat → Int32) → Prop)  (u : (Nat → Int32)) (z1 : Int32) (z2 : Int32) : Prop := (vp_in z1 171 ∧ K (upd (upd u (z1 : Int32).toNatClampNeg z2) 6 (((upd u (z1 : Int32).toNatClampNeg z2) 6) + 1)))
set_option maxRecDepth 20000 in
set_option maxHeartbeats 4000000 in
theorem t_X8_fusses_25 {a : Nat → Nat} {K : (Nat → Int32) → Prop} (C : bx_C p (rmD 0) S m args meth c cX8_fusses 2 yX8_fusses.cls none E A 0 0)   (u : (Nat → Int32)) (z1 : Int32) (z2 : Int32) (hv : V_X8_fusses_25 K u z1 z2) : G_X8_fusses p l e S m args below meth c E A a  K 25 [(0, .ref (a 0))] [.int z2, .int z1, .ref (a 0)] (w_A E a u) := by
  unfold V_X8_fusses_25 at hv
  refine bx_iast C 26 0 (w_A E a (upd u (z1 : Int32).toNatClampNeg z2)) dX8_fusses_25 rfl hv.1 rfl rfl ?_
  replace hv := hv.2
  refine bx_aload_n C 27 dX8_fusses_26 rfl rfl rfl ?_
  refine bx_bipush C 6 29 dX8_fusses_27 bp_6 rfl ?_
  refine bx_dup2_11 C 30 dX8_fusses_29 rfl rfl rfl ?_
  refine bx_iald_k (f := (upd u (z1 : Int32).toNatClampNeg z2)) C 31 0 6 dX8_fusses_30 rfl vin_6_171 cl_6 rfl ?_
  refine bx_iconst C 1 32 dX8_fusses_31 ic_1 rfl ?_
  refine bx_iadd C 33 dX8_fusses_32 rfl ?_
  refine bx_iast_k C 34 0 6 (w_A E a (upd (upd u (z1 : Int32).toNatClampNeg z2) 6 (((upd u (z1 : Int32).toNatClampNeg z2) 6) + 1))) dX8_fusses_33 rfl vin_6_171 cl_6 rfl rfl ?_
  exact bx_vret C (upd (upd u (z1 : Int32).toNatClampNeg z2) 6 (((upd u (z1 : Int32).toNatClampNeg z2) 6) + 1)) rfl dX8_fusses_34 rfl hv
def V_X8_fusses  (K : (Nat → Int32) → Prop)  (u : (Nat → Int32)) (x1 : Int32) : Prop := ((((u 7) + x1) ≤ 999999 → V_X8_fusses_25 K u 7 ((u 7) + x1)) ∧
 (¬ ((u 7) + x1) ≤ 999999 → V_X8_fusses_25 K u 7 999999))
set_option maxRecDepth 20000 in
set_option maxHeartbeats 4000000 in
theorem t_X8_fusses_0 {a : Nat → Nat} {K : (Nat → Int32) → Prop} (C : bx_C p (rmD 0) S m args meth c cX8_fusses 2 yX8_fusses.cls none E A 0 0)   (u : (Nat → Int32)) (x1 : Int32) (hv : V_X8_fusses K u x1) : G_X8_fusses p l e S m args below meth c E A a  K 0 [(0, .ref (a 0)), (1, .int x1)] [] (w_A E a u) := by
  unfold V_X8_fusses at hv
  refine bx_aload_n C 1 dX8_fusses_0 rfl rfl rfl ?_
  refine bx_bipush C 7 3 dX8_fusses_1 bp_7 rfl ?_
  refine bx_aload_n C 4 dX8_fusses_3 rfl rfl rfl ?_
  refine bx_bipush C 7 6 dX8_fusses_4 bp_7 rfl ?_
  refine bx_iald_k (f := u) C 7 0 7 dX8_fusses_6 rfl vin_7_171 cl_7 rfl ?_
  refine bx_iload_n C 8 dX8_fusses_7 rfl rfl rfl ?_
  refine bx_iadd C 9 dX8_fusses_8 rfl ?_
  refine bx_ldc C 11 cs_X8_81 dX8_fusses_9 rfl ?_
  refine bx_icmp_le C 19 14 dX8_fusses_11 (by decide) rfl (fun h => ?_) (fun h => ?_)
  · replace hv := hv.1 h
    refine bx_aload_n C 20 dX8_fusses_19 rfl rfl rfl ?_
    refine bx_bipush C 7 22 dX8_fusses_20 bp_7 rfl ?_
    refine bx_iald_k (f := u) C 23 0 7 dX8_fusses_22 rfl vin_7_171 cl_7 rfl ?_
    refine bx_iload_n C 24 dX8_fusses_23 rfl rfl rfl ?_
    refine bx_iadd C 25 dX8_fusses_24 rfl ?_
    exact bx_cut [0] (w_A E a u) rfl rfl (t_X8_fusses_25 C   u 7 ((u 7) + x1) hv)
  · replace hv := hv.2 h
    refine bx_ldc C 16 cs_X8_81 dX8_fusses_14 rfl ?_
    refine bx_goto C 25 dX8_fusses_16 (by decide) ?_
    exact bx_cut [0] (w_A E a u) rfl rfl (t_X8_fusses_25 C   u 7 999999 hv)
theorem k_X8_fusses (l : Launch) (E : bx_E) (a : Nat → Nat)  (K : (Nat → Int32) → Prop) (u : (Nat → Int32)) (x1 : Int32) (hv : V_X8_fusses  K u x1) : bx_Mv l E yX8_fusses cX8_fusses 2 none (rmD 0) [.ref (a 0), .int x1] (fun (u : (Nat → Int32)) => w_A E a u) u K :=
  bx_metv (by decide +kernel) (Nat.le_of_ble_eq_true rfl) (fun p e S m below meth c C => t_X8_fusses_0 C u x1 hv)
abbrev G_X8_goes (p : Program) (l : Launch) (e : Env) (S : State) (m : MethodId) (args : Array Value) (below : List Frame) (meth : Method) (c : Code) (E : bx_E) (A : Nat → Prop) (a : Nat → Nat)  (K : Int32 → (Nat → Int32) → Prop) (pc : Nat) (lv : List (Nat × Value)) (st : List Value) (ws : va_W) : Prop := bx_S p l e (rmD 4) S m args below meth c 4 E A (MQ below (va_Qi K (fun (u : (Nat → Int32)) t => bx_B E A (w_A E a u) t) A) args S 0 0 A) 0 0 pc lv st ws
def V_X8_goes_40  (K : Int32 → (Nat → Int32) → Prop)  (u : (Nat → Int32)) (x1 : Int32) (x2 : Int32) (z0 : Int32) (z1 : Int32) : Prop := (V_X8_sits (fun u1 => (V_X8_fusses (fun u2 => K (z0 + z1) u2) u1 (z0 + z1))) u x1 x2)
set_option maxRecDepth 20000 in
set_option maxHeartbeats 4000000 in
theorem t_X8_goes_40 {a : Nat → Nat} {K : Int32 → (Nat → Int32) → Prop} (C : bx_C p (rmD 4) S m args meth c cX8_goes 4 yX8_goes.cls (some .int) E A 0 0)   (u : (Nat → Int32)) (x1 : Int32) (x2 : Int32) (z0 : Int32) (z1 : Int32) (hv : V_X8_goes_40 K u x1 x2 z0 z1) : G_X8_goes p l e S m args below meth c E A a  K 40 [(0, .ref (a 0)), (1, .int x1), (2, .int x2)] [.int z1, .int z0] (w_A E a u) := by
  unfold V_X8_goes_40 at hv
  refine bx_iadd C 41 dX8_goes_40 rfl ?_
  refine bx_istore_n C 42 dX8_goes_41 rfl (by decide) rfl ?_
  refine bx_aload_n C 43 dX8_goes_42 rfl rfl rfl ?_
  refine bx_iload_n C 44 dX8_goes_43 rfl rfl rfl ?_
  refine bx_iload_n C 45 dX8_goes_44 rfl rfl rfl ?_
  refine bx_qSv C 48 fc_X8_85 (k_X8_sits l E a _ _ _ _ hv) dX8_goes_45 ⟨rfl, rfl, Nat.le_of_ble_eq_true rfl, Nat.le_of_ble_eq_true rfl⟩ [0] (fun u1 => w_A E a u1) ps_A_A_0 (by decide) ad_A pu_A_A_0 rfl rfl (Nat.le_of_ble_eq_true rfl) rfl (fun u1 hv => ?_)
  refine bx_aload_n C 49 dX8_goes_48 rfl rfl rfl ?_
  refine bx_iload_n C 50 dX8_goes_49 rfl rfl rfl ?_
  refine bx_qSv C 53 fc_X8_89 (k_X8_fusses l E a _ _ _ hv) dX8_goes_50 ⟨rfl, rfl, Nat.le_of_ble_eq_true rfl, Nat.le_of_ble_eq_true rfl⟩ [0] (fun u2 => w_A E a u2) ps_A_A_0 (by decide) ad_A pu_A_A_0 rfl rfl (Nat.le_of_ble_eq_true rfl) rfl (fun u2 hv => ?_)
  refine bx_iload_n C 54 dX8_goes_53 rfl rfl rfl ?_
  exact bx_iret C u2 rfl dX8_goes_54 rfl hv
def V_X8_goes_23  (K : Int32 → (Nat → Int32) → Prop)  (u : (Nat → Int32)) (x1 : Int32) (x2 : Int32) (z0 : Int32) : Prop := ((¬ x2 = (-1) → (V_X8_makesBy (fun r3 => V_X8_goes_40 K u x1 x2 z0 r3) u x1 x2)) ∧
 (x2 = (-1) → V_X8_goes_40 K u x1 x2 z0 0))
set_option maxRecDepth 20000 in
set_option maxHeartbeats 4000000 in
theorem t_X8_goes_23 {a : Nat → Nat} {K : Int32 → (Nat → Int32) → Prop} (C : bx_C p (rmD 4) S m args meth c cX8_goes 4 yX8_goes.cls (some .int) E A 0 0)   (u : (Nat → Int32)) (x1 : Int32) (x2 : Int32) (z0 : Int32) (hv : V_X8_goes_23 K u x1 x2 z0) : G_X8_goes p l e S m args below meth c E A a  K 23 [(0, .ref (a 0)), (1, .int x1), (2, .int x2)] [.int z0] (w_A E a u) := by
  unfold V_X8_goes_23 at hv
  refine bx_istore_n C 24 dX8_goes_23 rfl (by decide) rfl ?_
  refine bx_iload_n C 25 dX8_goes_24 rfl rfl rfl ?_
  refine bx_iload_n C 26 dX8_goes_25 rfl rfl rfl ?_
  refine bx_iconst C (-1) 27 dX8_goes_26 ic_m1 rfl ?_
  refine bx_icmp_ne C 34 30 dX8_goes_27 (by decide) rfl (fun h => ?_) (fun h => ?_)
  · replace hv := hv.1 h
    refine bx_aload_n C 35 dX8_goes_34 rfl rfl rfl ?_
    refine bx_iload_n C 36 dX8_goes_35 rfl rfl rfl ?_
    refine bx_iload_n C 37 dX8_goes_36 rfl rfl rfl ?_
    refine bx_pSi C 40 fc_X8_82 (k_X8_makesBy l E a _ _ _ _ hv) dX8_goes_37 ⟨rfl, rfl, Nat.le_of_ble_eq_true rfl, Nat.le_of_ble_eq_true rfl⟩ [0] ps_A_A_0 (by decide) rfl rfl (Nat.le_of_ble_eq_true rfl) rfl (fun r3 hv => ?_)
    exact bx_cut [1, 2, 3] (w_A E a u) rfl rfl (t_X8_goes_40 C   u x1 x2 z0 r3 hv)
  · replace hv := hv.2 h
    refine bx_iconst C 0 31 dX8_goes_30 ic_0 rfl ?_
    refine bx_goto C 40 dX8_goes_31 (by decide) ?_
    exact bx_cut [1, 2, 3] (w_A E a u) rfl rfl (t_X8_goes_40 C   u x1 x2 z0 0 hv)
def V_X8_goes  (K : Int32 → (Nat → Int32) → Prop)  (u : (Nat → Int32)) (x1 : Int32) (x2 : Int32) : Prop := (V_X8_cellOf (fun r4 => ((¬ r4 = (-1) → (V_X8_cellOf (fun r5 => (V_X8_makesBy (fun r6 => V_X8_goes_23 K u x1 x2 r6) u x1 r5)) u x1)) ∧
 (r4 = (-1) → V_X8_goes_23 K u x1 x2 0))) u x1)
set_option maxRecDepth 20000 in
set_option maxHeartbeats 4000000 in
theorem t_X8_goes_0 {a : Nat → Nat} {K : Int32 → (Nat → Int32) → Prop} (C : bx_C p (rmD 4) S m args meth c cX8_goes 4 yX8_goes.cls (some .int) E A 0 0)   (u : (Nat → Int32)) (x1 : Int32) (x2 : Int32) (hv : V_X8_goes K u x1 x2) : G_X8_goes p l e S m args below meth c E A a  K 0 [(0, .ref (a 0)), (1, .int x1), (2, .int x2)] [] (w_A E a u) := by
  unfold V_X8_goes at hv
  refine bx_aload_n C 1 dX8_goes_0 rfl rfl rfl ?_
  refine bx_iload_n C 2 dX8_goes_1 rfl rfl rfl ?_
  refine bx_pSi C 5 fc_X8_59 (k_X8_cellOf l E a _ _ _ hv) dX8_goes_2 ⟨rfl, rfl, Nat.le_of_ble_eq_true rfl, Nat.le_of_ble_eq_true rfl⟩ [0] ps_A_A_0 (by decide) rfl rfl (Nat.le_of_ble_eq_true rfl) rfl (fun r4 hv => ?_)
  refine bx_iconst C (-1) 6 dX8_goes_5 ic_m1 rfl ?_
  refine bx_icmp_ne C 13 9 dX8_goes_6 (by decide) rfl (fun h => ?_) (fun h => ?_)
  · replace hv := hv.1 h
    refine bx_aload_n C 14 dX8_goes_13 rfl rfl rfl ?_
    refine bx_iload_n C 15 dX8_goes_14 rfl rfl rfl ?_
    refine bx_aload_n C 16 dX8_goes_15 rfl rfl rfl ?_
    refine bx_iload_n C 17 dX8_goes_16 rfl rfl rfl ?_
    refine bx_pSi C 20 fc_X8_59 (k_X8_cellOf l E a _ _ _ hv) dX8_goes_17 ⟨rfl, rfl, Nat.le_of_ble_eq_true rfl, Nat.le_of_ble_eq_true rfl⟩ [0] ps_A_A_0 (by decide) rfl rfl (Nat.le_of_ble_eq_true rfl) rfl (fun r5 hv => ?_)
    refine bx_pSi C 23 fc_X8_82 (k_X8_makesBy l E a _ _ _ _ hv) dX8_goes_20 ⟨rfl, rfl, Nat.le_of_ble_eq_true rfl, Nat.le_of_ble_eq_true rfl⟩ [0] ps_A_A_0 (by decide) rfl rfl (Nat.le_of_ble_eq_true rfl) rfl (fun r6 hv => ?_)
    exact bx_cut [0, 1, 2] (w_A E a u) rfl rfl (t_X8_goes_23 C   u x1 x2 r6 hv)
  · replace hv := hv.2 h
    refine bx_iconst C 0 10 dX8_goes_9 ic_0 rfl ?_
    refine bx_goto C 23 dX8_goes_10 (by decide) ?_
    exact bx_cut [0, 1, 2] (w_A E a u) rfl rfl (t_X8_goes_23 C   u x1 x2 0 hv)
theorem k_X8_goes (l : Launch) (E : bx_E) (a : Nat → Nat)  (K : Int32 → (Nat → Int32) → Prop) (u : (Nat → Int32)) (x1 : Int32) (x2 : Int32) (hv : V_X8_goes  K u x1 x2) : bx_Mi l E yX8_goes cX8_goes 4 (some .int) (rmD 4) [.ref (a 0), .int x1, .int x2] (fun (u : (Nat → Int32)) => w_A E a u) u K :=
  bx_meti (by decide +kernel) (Nat.le_of_ble_eq_true rfl) (fun p e S m below meth c C => t_X8_goes_0 C u x1 x2 hv)
abbrev G_X8_empty (p : Program) (l : Launch) (e : Env) (S : State) (m : MethodId) (args : Array Value) (below : List Frame) (meth : Method) (c : Code) (E : bx_E) (A : Nat → Prop) (a : Nat → Nat)  (K : (Nat → Int32) → Prop) (pc : Nat) (lv : List (Nat × Value)) (st : List Value) (ws : va_W) : Prop := bx_S p l e (rmD 0) S m args below meth c 2 E A (MQ below (va_Qv K (fun (u : (Nat → Int32)) t => bx_B E A (w_A E a u) t) A) args S 0 0 A) 0 0 pc lv st ws
def V_X8_empty_2  (K : (Nat → Int32) → Prop)  : Nat → (Nat → Int32) → Int32 → Prop
  | 0, _, _ => False
  | n + 1, u, x1 => ((171 ≤ x1 → K u) ∧
 (¬ 171 ≤ x1 → (vp_in x1 171 ∧ V_X8_empty_2 K n (upd u (x1 : Int32).toNatClampNeg 0) (x1 + 1))))
set_option maxRecDepth 20000 in
set_option maxHeartbeats 4000000 in
theorem t_X8_empty_2 {a : Nat → Nat} {K : (Nat → Int32) → Prop} (C : bx_C p (rmD 0) S m args meth c cX8_empty 2 yX8_empty.cls none E A 0 0)   : ∀ (n : Nat) (u : (Nat → Int32)) (x1 : Int32), V_X8_empty_2 K n u x1 → G_X8_empty p l e S m args below meth c E A a  K 2 [(0, .ref (a 0)), (1, .int x1)] [] (w_A E a u) := by
  intro n
  induction n with
  | zero =>
    intro u x1 hv
    exact False.elim hv
  | succ n ih =>
    intro u x1 hv
    unfold V_X8_empty_2 at hv
    refine bx_iload_n C 3 dX8_empty_2 rfl rfl rfl ?_
    refine bx_sipush C 171 6 dX8_empty_3 sp_171 rfl ?_
    refine bx_icmp_ge C 19 9 dX8_empty_6 (by decide) rfl (fun h => ?_) (fun h => ?_)
    · replace hv := hv.1 h
      exact bx_vret C u rfl dX8_empty_19 rfl hv
    · replace hv := hv.2 h
      refine bx_aload_n C 10 dX8_empty_9 rfl rfl rfl ?_
      refine bx_iload_n C 11 dX8_empty_10 rfl rfl rfl ?_
      refine bx_iconst C 0 12 dX8_empty_11 ic_0 rfl ?_
      refine bx_iast C 13 0 (w_A E a (upd u (x1 : Int32).toNatClampNeg 0)) dX8_empty_12 rfl hv.1 rfl rfl ?_
      replace hv := hv.2
      refine bx_iinc C 1 16 dX8_empty_13 rfl (by decide) ic_1 rfl ?_
      refine bx_goto C 2 dX8_empty_16 (by decide) ?_
      exact bx_cut [1, 0] (w_A E a (upd u (x1 : Int32).toNatClampNeg 0)) rfl rfl (ih (upd u (x1 : Int32).toNatClampNeg 0) (x1 + 1) hv)
def V_X8_empty  (K : (Nat → Int32) → Prop)  (u : (Nat → Int32))  : Prop := ∃ n1, V_X8_empty_2 K n1 u 0
set_option maxRecDepth 20000 in
set_option maxHeartbeats 4000000 in
theorem t_X8_empty_0 {a : Nat → Nat} {K : (Nat → Int32) → Prop} (C : bx_C p (rmD 0) S m args meth c cX8_empty 2 yX8_empty.cls none E A 0 0)   (u : (Nat → Int32))  (hv : V_X8_empty K u ) : G_X8_empty p l e S m args below meth c E A a  K 0 [(0, .ref (a 0))] [] (w_A E a u) := by
  unfold V_X8_empty at hv
  refine bx_iconst C 0 1 dX8_empty_0 ic_0 rfl ?_
  refine bx_istore_n C 2 dX8_empty_1 rfl (by decide) rfl ?_
  obtain ⟨n1, hv⟩ := hv
  exact bx_cut [1, 0] (w_A E a u) rfl rfl (t_X8_empty_2 C   n1 u 0 hv)
theorem k_X8_empty (l : Launch) (E : bx_E) (a : Nat → Nat)  (K : (Nat → Int32) → Prop) (u : (Nat → Int32))  (hv : V_X8_empty  K u ) : bx_Mv l E yX8_empty cX8_empty 2 none (rmD 0) [.ref (a 0)] (fun (u : (Nat → Int32)) => w_A E a u) u K :=
  bx_metv (by decide +kernel) (Nat.le_of_ble_eq_true rfl) (fun p e S m below meth c C => t_X8_empty_0 C u  hv)
abbrev G_X8_layFresh (p : Program) (l : Launch) (e : Env) (S : State) (m : MethodId) (args : Array Value) (below : List Frame) (meth : Method) (c : Code) (E : bx_E) (A : Nat → Prop) (a : Nat → Nat)  (K : MS → Prop) (pc : Nat) (lv : List (Nat × Value)) (st : List Value) (ws : va_W) : Prop := bx_S p l e (rmD 0) S m args below meth c 2 E A (MQ below (va_Qv K (fun (u : MS) t => bx_B E A (w_M E a u) t) A) args S 0 0 A) 0 0 pc lv st ws
def V_X8_layFresh_2  (K : MS → Prop)  : Nat → MS → Int32 → Prop
  | 0, _, _ => False
  | n + 1, u, x1 => ((171 ≤ x1 → K u) ∧
 (¬ 171 ≤ x1 → (vp_in x1 171 ∧ (vp_in x1 171 ∧ V_X8_layFresh_2 K n (u.1, (upd u.2.1 (x1 : Int32).toNatClampNeg (u.1 (x1 : Int32).toNatClampNeg)), u.2.2) (x1 + 1)))))
set_option maxRecDepth 20000 in
set_option maxHeartbeats 4000000 in
theorem t_X8_layFresh_2 {a : Nat → Nat} {K : MS → Prop} (C : bx_C p (rmD 0) S m args meth c cX8_layFresh 2 yX8_layFresh.cls none E A 0 0)   : ∀ (n : Nat) (u : MS) (x1 : Int32), V_X8_layFresh_2 K n u x1 → G_X8_layFresh p l e S m args below meth c E A a  K 2 [(0, .ref (a 0)), (1, .int x1)] [] (w_M E a u) := by
  intro n
  induction n with
  | zero =>
    intro u x1 hv
    exact False.elim hv
  | succ n ih =>
    intro u x1 hv
    unfold V_X8_layFresh_2 at hv
    refine bx_iload_n C 3 dX8_layFresh_2 rfl rfl rfl ?_
    refine bx_sipush C 171 6 dX8_layFresh_3 sp_171 rfl ?_
    refine bx_icmp_ge C 27 9 dX8_layFresh_6 (by decide) rfl (fun h => ?_) (fun h => ?_)
    · replace hv := hv.1 h
      exact bx_vret C u rfl dX8_layFresh_27 rfl hv
    · replace hv := hv.2 h
      refine bx_aload_n C 10 dX8_layFresh_9 rfl rfl rfl ?_
      refine bx_getf (v := .ref (a 2)) C 13 0 1 inX8 rfl (by decide) fl_X8_13 dX8_layFresh_10 at_M_0 rfl rfl ?_
      refine bx_iload_n C 14 dX8_layFresh_13 rfl rfl rfl ?_
      refine bx_aload_n C 15 dX8_layFresh_14 rfl rfl rfl ?_
      refine bx_getf (v := .ref (a 1)) C 18 0 0 inX8 rfl (by decide) fl_X8_7 dX8_layFresh_15 at_M_0 rfl rfl ?_
      refine bx_iload_n C 19 dX8_layFresh_18 rfl rfl rfl ?_
      refine bx_iald (f := u.1) C 20 1 dX8_layFresh_19 at_M_1 hv.1 rfl ?_
      replace hv := hv.2
      refine bx_iast C 21 2 (w_M E a (u.1, (upd u.2.1 (x1 : Int32).toNatClampNeg (u.1 (x1 : Int32).toNatClampNeg)), u.2.2)) dX8_layFresh_20 rfl hv.1 rfl rfl ?_
      replace hv := hv.2
      refine bx_iinc C 1 24 dX8_layFresh_21 rfl (by decide) ic_1 rfl ?_
      refine bx_goto C 2 dX8_layFresh_24 (by decide) ?_
      exact bx_cut [1, 0] (w_M E a (u.1, (upd u.2.1 (x1 : Int32).toNatClampNeg (u.1 (x1 : Int32).toNatClampNeg)), u.2.2)) rfl rfl (ih (u.1, (upd u.2.1 (x1 : Int32).toNatClampNeg (u.1 (x1 : Int32).toNatClampNeg)), u.2.2) (x1 + 1) hv)
def V_X8_layFresh  (K : MS → Prop)  (u : MS)  : Prop := ∃ n1, V_X8_layFresh_2 K n1 u 0
set_option maxRecDepth 20000 in
set_option maxHeartbeats 4000000 in
theorem t_X8_layFresh_0 {a : Nat → Nat} {K : MS → Prop} (C : bx_C p (rmD 0) S m args meth c cX8_layFresh 2 yX8_layFresh.cls none E A 0 0)   (u : MS)  (hv : V_X8_layFresh K u ) : G_X8_layFresh p l e S m args below meth c E A a  K 0 [(0, .ref (a 0))] [] (w_M E a u) := by
  unfold V_X8_layFresh at hv
  refine bx_iconst C 0 1 dX8_layFresh_0 ic_0 rfl ?_
  refine bx_istore_n C 2 dX8_layFresh_1 rfl (by decide) rfl ?_
  obtain ⟨n1, hv⟩ := hv
  exact bx_cut [1, 0] (w_M E a u) rfl rfl (t_X8_layFresh_2 C   n1 u 0 hv)
theorem k_X8_layFresh (l : Launch) (E : bx_E) (a : Nat → Nat)  (K : MS → Prop) (u : MS)  (hv : V_X8_layFresh  K u ) : bx_Mv l E yX8_layFresh cX8_layFresh 2 none (rmD 0) [.ref (a 0)] (fun (u : MS) => w_M E a u) u K :=
  bx_metv (by decide +kernel) (Nat.le_of_ble_eq_true rfl) (fun p e S m below meth c C => t_X8_layFresh_0 C u  hv)
abbrev G_X8_hall (p : Program) (l : Launch) (e : Env) (S : State) (m : MethodId) (args : Array Value) (below : List Frame) (meth : Method) (c : Code) (E : bx_E) (A : Nat → Prop) (a : Nat → Nat)  (K : Int32 → MS → Prop) (pc : Nat) (lv : List (Nat × Value)) (st : List Value) (ws : va_W) : Prop := bx_S p l e (rmD 1) S m args below meth c 2 E A (MQ below (va_Qi K (fun (u : MS) t => bx_B E A (w_M E a u) t) A) args S 0 0 A) 0 0 pc lv st ws
def V_X8_hall  (K : Int32 → MS → Prop)  (u : MS)  : Prop := (V_X8_empty (fun u1 => K (u.1 8) (u1, u.2)) u.1 )
set_option maxRecDepth 20000 in
set_option maxHeartbeats 4000000 in
theorem t_X8_hall_0 {a : Nat → Nat} {K : Int32 → MS → Prop} (C : bx_C p (rmD 1) S m args meth c cX8_hall 2 yX8_hall.cls (some .int) E A 0 0)   (u : MS)  (hv : V_X8_hall K u ) : G_X8_hall p l e S m args below meth c E A a  K 0 [(0, .ref (a 0))] [] (w_M E a u) := by
  unfold V_X8_hall at hv
  refine bx_aload_n C 1 dX8_hall_0 rfl rfl rfl ?_
  refine bx_getf (v := .ref (a 1)) C 4 0 0 inX8 rfl (by decide) fl_X8_7 dX8_hall_1 at_M_0 rfl rfl ?_
  refine bx_bipush C 8 6 dX8_hall_4 bp_8 rfl ?_
  refine bx_iald_k (f := u.1) C 7 1 8 dX8_hall_6 at_M_1 vin_8_171 cl_8 rfl ?_
  refine bx_istore_n C 8 dX8_hall_7 rfl (by decide) rfl ?_
  refine bx_aload_n C 9 dX8_hall_8 rfl rfl rfl ?_
  refine bx_getf (v := .ref (a 1)) C 12 0 0 inX8 rfl (by decide) fl_X8_7 dX8_hall_9 at_M_0 rfl rfl ?_
  refine bx_qSv C 15 fc_X8_93 (k_X8_empty l E (fun k => a (1 + k)) _ _ hv) dX8_hall_12 ⟨rfl, rfl, Nat.le_of_ble_eq_true rfl, Nat.le_of_ble_eq_true rfl⟩ [1] (fun u1 => w_M E a (u1, u.2)) ps_M_A_1 (by decide) ad_A pu_M_A_1 rfl rfl (Nat.le_of_ble_eq_true rfl) rfl (fun u1 hv => ?_)
  refine bx_iload_n C 16 dX8_hall_15 rfl rfl rfl ?_
  exact bx_iret C (u1, u.2) rfl dX8_hall_16 rfl hv
theorem k_X8_hall (l : Launch) (E : bx_E) (a : Nat → Nat)  (K : Int32 → MS → Prop) (u : MS)  (hv : V_X8_hall  K u ) : bx_Mi l E yX8_hall cX8_hall 2 (some .int) (rmD 1) [.ref (a 0)] (fun (u : MS) => w_M E a u) u K :=
  bx_meti (by decide +kernel) (Nat.le_of_ble_eq_true rfl) (fun p e S m below meth c C => t_X8_hall_0 C u  hv)
abbrev G_X8_row (p : Program) (l : Launch) (e : Env) (S : State) (m : MethodId) (args : Array Value) (below : List Frame) (meth : Method) (c : Code) (E : bx_E) (A : Nat → Prop) (a : Nat → Nat)  (K : Int32 → MS → Prop) (pc : Nat) (lv : List (Nat × Value)) (st : List Value) (ws : va_W) : Prop := bx_S p l e (rmD 1) S m args below meth c 4 E A (MQ below (va_Qi K (fun (u : MS) t => bx_B E A (w_M E a u) t) A) args S 0 0 A) 0 0 pc lv st ws
def V_X8_row_24  (K : Int32 → MS → Prop)  (u : MS)  : Prop := (V_X8_bad (fun r1 u2 => K r1 u2) u )
set_option maxRecDepth 20000 in
set_option maxHeartbeats 4000000 in
theorem t_X8_row_24 {a : Nat → Nat} {K : Int32 → MS → Prop} (C : bx_C p (rmD 1) S m args meth c cX8_row 4 yX8_row.cls (some .int) E A 0 0)   (u : MS)  (hv : V_X8_row_24 K u ) : G_X8_row p l e S m args below meth c E A a  K 24 [(0, .ref (a 0))] [] (w_M E a u) := by
  unfold V_X8_row_24 at hv
  refine bx_aload_n C 25 dX8_row_24 rfl rfl rfl ?_
  refine bx_qVi C 0 at_M_0 rfl 28 fc_X8_101 (k_X8_bad l E a _ _ hv) dX8_row_25 ⟨rfl, rfl, Nat.le_of_ble_eq_true rfl, Nat.le_of_ble_eq_true rfl⟩ [0, 1, 2, 3, 4, 5, 6, 7, 8, 9] (fun u2 => w_M E a u2) ps_M_M_0 (by decide) ad_M pu_M_M_0 rfl rfl (Nat.le_of_ble_eq_true rfl) rfl (fun r1 u2 hv => ?_)
  exact bx_iret C u2 rfl dX8_row_28 rfl hv
def V_X8_row  (K : Int32 → MS → Prop)  (u : MS) (x1 : Int32) (x2 : Int32) : Prop := (V_X8_in (fun r3 => ((r3 = 0 → V_X8_row_24 K u ) ∧
 (¬ r3 = 0 → (V_X8_in (fun r4 => ((¬ r4 = 0 → (vp_in x1 171 ∧ (vp_in x1 171 ∧ K (u.1 (x1 : Int32).toNatClampNeg) ((upd (upd u.1 (x1 : Int32).toNatClampNeg x2) 90 0), u.2)))) ∧
 (r4 = 0 → V_X8_row_24 K u )))  ((x2 : Int32).toInt64) 0 5))))  ((x1 : Int32).toInt64) 0 4)
set_option maxRecDepth 20000 in
set_option maxHeartbeats 4000000 in
theorem t_X8_row_0 {a : Nat → Nat} {K : Int32 → MS → Prop} (C : bx_C p (rmD 1) S m args meth c cX8_row 4 yX8_row.cls (some .int) E A 0 0)   (u : MS) (x1 : Int32) (x2 : Int32) (hv : V_X8_row K u x1 x2) : G_X8_row p l e S m args below meth c E A a  K 0 [(0, .ref (a 0)), (1, .int x1), (2, .int x2)] [] (w_M E a u) := by
  unfold V_X8_row at hv
  refine bx_iload_n C 1 dX8_row_0 rfl rfl rfl ?_
  refine bx_i2l C 2 dX8_row_1 rfl ?_
  refine bx_lconst C 0 3 dX8_row_2 lc_0 rfl ?_
  refine bx_ldc2 C 6 cs_X8_97 dX8_row_3 rfl ?_
  refine bx_pSi C 9 fc_X8_46 (k_X8_in l E  _ _ _ _ hv) dX8_row_6 ⟨rfl, rfl, Nat.le_of_ble_eq_true rfl, Nat.le_of_ble_eq_true rfl⟩ [] rfl (by decide) rfl rfl (Nat.le_of_ble_eq_true rfl) rfl (fun r3 hv => ?_)
  refine bx_if_eq C 24 12 dX8_row_9 (by decide) rfl (fun h => ?_) (fun h => ?_)
  · replace hv := hv.1 h
    exact bx_cut [0] (w_M E a u) rfl rfl (t_X8_row_24 C   u  hv)
  · replace hv := hv.2 h
    refine bx_iload_n C 13 dX8_row_12 rfl rfl rfl ?_
    refine bx_i2l C 14 dX8_row_13 rfl ?_
    refine bx_lconst C 0 15 dX8_row_14 lc_0 rfl ?_
    refine bx_ldc2 C 18 cs_X8_99 dX8_row_15 rfl ?_
    refine bx_pSi C 21 fc_X8_46 (k_X8_in l E  _ _ _ _ hv) dX8_row_18 ⟨rfl, rfl, Nat.le_of_ble_eq_true rfl, Nat.le_of_ble_eq_true rfl⟩ [] rfl (by decide) rfl rfl (Nat.le_of_ble_eq_true rfl) rfl (fun r4 hv => ?_)
    refine bx_if_ne C 29 24 dX8_row_21 (by decide) rfl (fun h => ?_) (fun h => ?_)
    · replace hv := hv.1 h
      refine bx_aload_n C 30 dX8_row_29 rfl rfl rfl ?_
      refine bx_getf (v := .ref (a 1)) C 33 0 0 inX8 rfl (by decide) fl_X8_7 dX8_row_30 at_M_0 rfl rfl ?_
      refine bx_iload_n C 34 dX8_row_33 rfl rfl rfl ?_
      refine bx_iald (f := u.1) C 35 1 dX8_row_34 at_M_1 hv.1 rfl ?_
      replace hv := hv.2
      refine bx_istore_n C 36 dX8_row_35 rfl (by decide) rfl ?_
      refine bx_aload_n C 37 dX8_row_36 rfl rfl rfl ?_
      refine bx_getf (v := .ref (a 1)) C 40 0 0 inX8 rfl (by decide) fl_X8_7 dX8_row_37 at_M_0 rfl rfl ?_
      refine bx_iload_n C 41 dX8_row_40 rfl rfl rfl ?_
      refine bx_iload_n C 42 dX8_row_41 rfl rfl rfl ?_
      refine bx_iast C 43 1 (w_M E a ((upd u.1 (x1 : Int32).toNatClampNeg x2), u.2)) dX8_row_42 rfl hv.1 rfl rfl ?_
      replace hv := hv.2
      refine bx_aload_n C 44 dX8_row_43 rfl rfl rfl ?_
      refine bx_getf (v := .ref (a 1)) C 47 0 0 inX8 rfl (by decide) fl_X8_7 dX8_row_44 at_M_0 rfl rfl ?_
      refine bx_bipush C 90 49 dX8_row_47 bp_90 rfl ?_
      refine bx_iconst C 0 50 dX8_row_49 ic_0 rfl ?_
      refine bx_iast_k C 51 1 90 (w_M E a ((upd (upd u.1 (x1 : Int32).toNatClampNeg x2) 90 0), u.2)) dX8_row_50 rfl vin_90_171 cl_90 rfl rfl ?_
      refine bx_iload_n C 52 dX8_row_51 rfl rfl rfl ?_
      exact bx_iret C ((upd (upd u.1 (x1 : Int32).toNatClampNeg x2) 90 0), u.2) rfl dX8_row_52 rfl hv
    · replace hv := hv.2 h
      exact bx_cut [0] (w_M E a u) rfl rfl (t_X8_row_24 C   u  hv)
theorem k_X8_row (l : Launch) (E : bx_E) (a : Nat → Nat)  (K : Int32 → MS → Prop) (u : MS) (x1 : Int32) (x2 : Int32) (hv : V_X8_row  K u x1 x2) : bx_Mi l E yX8_row cX8_row 4 (some .int) (rmD 1) [.ref (a 0), .int x1, .int x2] (fun (u : MS) => w_M E a u) u K :=
  bx_meti (by decide +kernel) (Nat.le_of_ble_eq_true rfl) (fun p e S m below meth c C => t_X8_row_0 C u x1 x2 hv)
end
