section
variable {p : Program} {l : Launch} {e : Env} {S : State} {m : MethodId} {args : Array Value} {below : List Frame} {meth : Method} {c : Code} {E : bx_E} {A : Nat → Prop}
abbrev G_X6_isFull (p : Program) (l : Launch) (e : Env) (S : State) (m : MethodId) (args : Array Value) (below : List Frame) (meth : Method) (c : Code) (E : bx_E) (A : Nat → Prop) (a : Nat → Nat)  (u : XS) (K : Int32 → Prop) (pc : Nat) (lv : List (Nat × Value)) (st : List Value) (ws : va_W) : Prop := bx_S p l e (rmD 0) S m args below meth c 1 E A (MQ below (va_Qi (fun r (_ : Unit) => K r) (fun (_ : Unit) t => bx_B E A (w_X E a u) t) A) args S 0 0 A) 0 0 pc lv st ws
def V_X6_isFull  (K : Int32 → Prop)  (u : XS)  : Prop := ((u.2.2.1 < 150 → K 0) ∧
 (¬ u.2.2.1 < 150 → K 1))
set_option maxRecDepth 20000 in
set_option maxHeartbeats 4000000 in
theorem t_X6_isFull_0 {a : Nat → Nat} {K : Int32 → Prop} (C : bx_C p (rmD 0) S m args meth c cX6_isFull 1 yX6_isFull.cls (some .boolean) E A 0 0) (u : XS)    (hv : V_X6_isFull K u ) : G_X6_isFull p l e S m args below meth c E A a  u K 0 [(0, .ref (a 0))] [] (w_X E a u) := by
  unfold V_X6_isFull at hv
  refine bx_aload_n C 1 dX6_isFull_0 rfl rfl rfl ?_
  refine bx_getf (v := .int u.2.2.1) C 4 0 2 inX6 rfl (by decide) fl_X6_22 dX6_isFull_1 at_X_0 rfl rfl ?_
  refine bx_aload_n C 5 dX6_isFull_4 rfl rfl rfl ?_
  refine bx_getf (v := .ref (a 14)) C 8 0 1 inX6 rfl (by decide) fl_X6_18 dX6_isFull_5 at_X_0 rfl rfl ?_
  refine bx_alen (t0 := 2) C 9 14 dX6_isFull_8 rfl rfl al_150 rfl ?_
  refine bx_icmp_lt C 16 12 dX6_isFull_9 (by decide) rfl (fun h => ?_) (fun h => ?_)
  · replace hv := hv.1 h
    refine bx_iconst C 0 17 dX6_isFull_16 ic_0 rfl ?_
    exact bx_zret C () rfl dX6_isFull_17 rfl (Or.inl rfl) hv
  · replace hv := hv.2 h
    refine bx_iconst C 1 13 dX6_isFull_12 ic_1 rfl ?_
    refine bx_goto C 17 dX6_isFull_13 (by decide) ?_
    exact bx_zret C () rfl dX6_isFull_17 rfl (Or.inr rfl) hv
theorem k_X6_isFull (l : Launch) (E : bx_E) (a : Nat → Nat)  (K : Int32 → Prop) (u : XS)  (hv : V_X6_isFull  K u ) : bx_Mi l E yX6_isFull cX6_isFull 1 (some .boolean) (rmD 0) [.ref (a 0)] (fun (_ : Unit) => w_X E a u) () (fun r (_ : Unit) => K r) :=
  bx_meti (by decide +kernel) (Nat.le_of_ble_eq_true rfl) (fun p e S m below meth c C => t_X6_isFull_0 C u  hv)
abbrev G_X6_add (p : Program) (l : Launch) (e : Env) (S : State) (m : MethodId) (args : Array Value) (below : List Frame) (meth : Method) (c : Code) (E : bx_E) (A : Nat → Prop) (a : Nat → Nat)  (K : Int32 → XS → Prop) (pc : Nat) (lv : List (Nat × Value)) (st : List Value) (ws : va_W) : Prop := bx_S p l e (rmD 0) S m args below meth c 2 E A (MQ below (va_Qi K (fun (u : XS) t => bx_B E A (w_X E a u) t) A) args S 0 0 A) 0 0 pc lv st ws
def V_X6_add  (K : Int32 → XS → Prop)  (u : XS) (x1 : Int32) : Prop := ((150 ≤ u.2.2.1 → K u.2.2.1 u) ∧
 (¬ 150 ≤ u.2.2.1 → (vp_in u.2.2.1 150 ∧ K (u.2.2.1 + 1) (u.1, (upd u.2.1 (u.2.2.1 : Int32).toNatClampNeg (vp_nar .byte ((x1).toInt8.toInt32))), (u.2.2.1 + 1), u.2.2.2))))
set_option maxRecDepth 20000 in
set_option maxHeartbeats 4000000 in
theorem t_X6_add_0 {a : Nat → Nat} {K : Int32 → XS → Prop} (C : bx_C p (rmD 0) S m args meth c cX6_add 2 yX6_add.cls (some .int) E A 0 0)   (u : XS) (x1 : Int32) (hv : V_X6_add K u x1) : G_X6_add p l e S m args below meth c E A a  K 0 [(0, .ref (a 0)), (1, .int x1)] [] (w_X E a u) := by
  unfold V_X6_add at hv
  refine bx_aload_n C 1 dX6_add_0 rfl rfl rfl ?_
  refine bx_getf (v := .int u.2.2.1) C 4 0 2 inX6 rfl (by decide) fl_X6_22 dX6_add_1 at_X_0 rfl rfl ?_
  refine bx_aload_n C 5 dX6_add_4 rfl rfl rfl ?_
  refine bx_getf (v := .ref (a 14)) C 8 0 1 inX6 rfl (by decide) fl_X6_18 dX6_add_5 at_X_0 rfl rfl ?_
  refine bx_alen (t0 := 2) C 9 14 dX6_add_8 rfl rfl al_150 rfl ?_
  refine bx_icmp_ge C 33 12 dX6_add_9 (by decide) rfl (fun h => ?_) (fun h => ?_)
  · replace hv := hv.1 h
    refine bx_aload_n C 34 dX6_add_33 rfl rfl rfl ?_
    refine bx_getf (v := .int u.2.2.1) C 37 0 2 inX6 rfl (by decide) fl_X6_22 dX6_add_34 at_X_0 rfl rfl ?_
    exact bx_iret C u rfl dX6_add_37 rfl hv
  · replace hv := hv.2 h
    refine bx_aload_n C 13 dX6_add_12 rfl rfl rfl ?_
    refine bx_getf (v := .ref (a 14)) C 16 0 1 inX6 rfl (by decide) fl_X6_18 dX6_add_13 at_X_0 rfl rfl ?_
    refine bx_aload_n C 17 dX6_add_16 rfl rfl rfl ?_
    refine bx_getf (v := .int u.2.2.1) C 20 0 2 inX6 rfl (by decide) fl_X6_22 dX6_add_17 at_X_0 rfl rfl ?_
    refine bx_iload_n C 21 dX6_add_20 rfl rfl rfl ?_
    refine bx_i2b C 22 dX6_add_21 rfl ?_
    refine bx_bast C 23 14 (w_X E a (u.1, (upd u.2.1 (u.2.2.1 : Int32).toNatClampNeg (vp_nar .byte ((x1).toInt8.toInt32))), u.2.2)) dX6_add_22 rfl hv.1 rfl rfl ?_
    replace hv := hv.2
    refine bx_aload_n C 24 dX6_add_23 rfl rfl rfl ?_
    refine bx_dup C 25 dX6_add_24 rfl rfl ?_
    refine bx_getf (v := .int u.2.2.1) C 28 0 2 inX6 rfl (by decide) fl_X6_22 dX6_add_25 at_X_0 rfl rfl ?_
    refine bx_iconst C 1 29 dX6_add_28 ic_1 rfl ?_
    refine bx_iadd C 30 dX6_add_29 rfl ?_
    refine bx_putf C 33 0 2 (w_X E a (u.1, (upd u.2.1 (u.2.2.1 : Int32).toNatClampNeg (vp_nar .byte ((x1).toInt8.toInt32))), (u.2.2.1 + 1), u.2.2.2)) inX6 tyX6 tyX6_ok nmX6 rfl (by decide) fl_X6_22 rfl dX6_add_30 rfl rfl rfl (Nat.le_of_ble_eq_true rfl) rfl rfl ?_
    refine bx_aload_n C 34 dX6_add_33 rfl rfl rfl ?_
    refine bx_getf (v := .int (u.2.2.1 + 1)) C 37 0 2 inX6 rfl (by decide) fl_X6_22 dX6_add_34 at_X_0 rfl rfl ?_
    exact bx_iret C (u.1, (upd u.2.1 (u.2.2.1 : Int32).toNatClampNeg (vp_nar .byte ((x1).toInt8.toInt32))), (u.2.2.1 + 1), u.2.2.2) rfl dX6_add_37 rfl hv
theorem k_X6_add (l : Launch) (E : bx_E) (a : Nat → Nat)  (K : Int32 → XS → Prop) (u : XS) (x1 : Int32) (hv : V_X6_add  K u x1) : bx_Mi l E yX6_add cX6_add 2 (some .int) (rmD 0) [.ref (a 0), .int x1] (fun (u : XS) => w_X E a u) u K :=
  bx_meti (by decide +kernel) (Nat.le_of_ble_eq_true rfl) (fun p e S m below meth c C => t_X6_add_0 C u x1 hv)
abbrev G_X6_empty (p : Program) (l : Launch) (e : Env) (S : State) (m : MethodId) (args : Array Value) (below : List Frame) (meth : Method) (c : Code) (E : bx_E) (A : Nat → Prop) (a : Nat → Nat)  (K : Int32 → XS → Prop) (pc : Nat) (lv : List (Nat × Value)) (st : List Value) (ws : va_W) : Prop := bx_S p l e (rmD 0) S m args below meth c 2 E A (MQ below (va_Qi K (fun (u : XS) t => bx_B E A (w_X E a u) t) A) args S 0 0 A) 0 0 pc lv st ws
def V_X6_empty  (K : Int32 → XS → Prop)  (u : XS)  : Prop := K u.2.2.1 (u.1, u.2.1, 0, u.2.2.2)
set_option maxRecDepth 20000 in
set_option maxHeartbeats 4000000 in
theorem t_X6_empty_0 {a : Nat → Nat} {K : Int32 → XS → Prop} (C : bx_C p (rmD 0) S m args meth c cX6_empty 2 yX6_empty.cls (some .int) E A 0 0)   (u : XS)  (hv : V_X6_empty K u ) : G_X6_empty p l e S m args below meth c E A a  K 0 [(0, .ref (a 0))] [] (w_X E a u) := by
  unfold V_X6_empty at hv
  refine bx_aload_n C 1 dX6_empty_0 rfl rfl rfl ?_
  refine bx_getf (v := .int u.2.2.1) C 4 0 2 inX6 rfl (by decide) fl_X6_22 dX6_empty_1 at_X_0 rfl rfl ?_
  refine bx_istore_n C 5 dX6_empty_4 rfl (by decide) rfl ?_
  refine bx_aload_n C 6 dX6_empty_5 rfl rfl rfl ?_
  refine bx_iconst C 0 7 dX6_empty_6 ic_0 rfl ?_
  refine bx_putf C 10 0 2 (w_X E a (u.1, u.2.1, 0, u.2.2.2)) inX6 tyX6 tyX6_ok nmX6 rfl (by decide) fl_X6_22 rfl dX6_empty_7 rfl rfl rfl (Nat.le_of_ble_eq_true rfl) rfl rfl ?_
  refine bx_iload_n C 11 dX6_empty_10 rfl rfl rfl ?_
  exact bx_iret C (u.1, u.2.1, 0, u.2.2.2) rfl dX6_empty_11 rfl hv
theorem k_X6_empty (l : Launch) (E : bx_E) (a : Nat → Nat)  (K : Int32 → XS → Prop) (u : XS)  (hv : V_X6_empty  K u ) : bx_Mi l E yX6_empty cX6_empty 2 (some .int) (rmD 0) [.ref (a 0)] (fun (u : XS) => w_X E a u) u K :=
  bx_meti (by decide +kernel) (Nat.le_of_ble_eq_true rfl) (fun p e S m below meth c C => t_X6_empty_0 C u  hv)
abbrev G_X6_isLetter (p : Program) (l : Launch) (e : Env) (S : State) (m : MethodId) (args : Array Value) (below : List Frame) (meth : Method) (c : Code) (E : bx_E) (A : Nat → Prop)   (K : Int32 → Prop) (pc : Nat) (lv : List (Nat × Value)) (st : List Value) (ws : va_W) : Prop := bx_S p l e (rmD 0) S m args below meth c 1 E A (MQ below (va_Qi (fun r (_ : Unit) => K r) (fun (_ : Unit) t => bx_B E A (([] : va_W)) t) A) args S 0 0 A) 0 0 pc lv st ws
def V_X6_isLetter  (K : Int32 → Prop)   (x0 : Int32) : Prop := ((x0 < 97 → K 0) ∧
 (¬ x0 < 97 → ((122 < x0 → K 0) ∧
 (¬ 122 < x0 → K 1))))
set_option maxRecDepth 20000 in
set_option maxHeartbeats 4000000 in
theorem t_X6_isLetter_0 {K : Int32 → Prop} (C : bx_C p (rmD 0) S m args meth c cX6_isLetter 1 yX6_isLetter.cls (some .boolean) E A 0 0)    (x0 : Int32) (hv : V_X6_isLetter K  x0) : G_X6_isLetter p l e S m args below meth c E A   K 0 [(0, .int x0)] [] (([] : va_W)) := by
  unfold V_X6_isLetter at hv
  refine bx_iload_n C 1 dX6_isLetter_0 rfl rfl rfl ?_
  refine bx_bipush C 97 3 dX6_isLetter_1 bp_97 rfl ?_
  refine bx_icmp_lt C 16 6 dX6_isLetter_3 (by decide) rfl (fun h => ?_) (fun h => ?_)
  · replace hv := hv.1 h
    refine bx_iconst C 0 17 dX6_isLetter_16 ic_0 rfl ?_
    exact bx_zret C () rfl dX6_isLetter_17 rfl (Or.inl rfl) hv
  · replace hv := hv.2 h
    refine bx_iload_n C 7 dX6_isLetter_6 rfl rfl rfl ?_
    refine bx_bipush C 122 9 dX6_isLetter_7 bp_122 rfl ?_
    refine bx_icmp_gt C 16 12 dX6_isLetter_9 (by decide) rfl (fun h => ?_) (fun h => ?_)
    · replace hv := hv.1 h
      refine bx_iconst C 0 17 dX6_isLetter_16 ic_0 rfl ?_
      exact bx_zret C () rfl dX6_isLetter_17 rfl (Or.inl rfl) hv
    · replace hv := hv.2 h
      refine bx_iconst C 1 13 dX6_isLetter_12 ic_1 rfl ?_
      refine bx_goto C 17 dX6_isLetter_13 (by decide) ?_
      exact bx_zret C () rfl dX6_isLetter_17 rfl (Or.inr rfl) hv
theorem k_X6_isLetter (l : Launch) (E : bx_E)   (K : Int32 → Prop)  (x0 : Int32) (hv : V_X6_isLetter  K  x0) : bx_Mi l E yX6_isLetter cX6_isLetter 1 (some .boolean) (rmD 0) [.int x0] (fun (_ : Unit) => ([] : va_W)) () (fun r (_ : Unit) => K r) :=
  bx_meti (by decide +kernel) (Nat.le_of_ble_eq_true rfl) (fun p e S m below meth c C => t_X6_isLetter_0 C  x0 hv)
abbrev G_X6_isFigure (p : Program) (l : Launch) (e : Env) (S : State) (m : MethodId) (args : Array Value) (below : List Frame) (meth : Method) (c : Code) (E : bx_E) (A : Nat → Prop)   (K : Int32 → Prop) (pc : Nat) (lv : List (Nat × Value)) (st : List Value) (ws : va_W) : Prop := bx_S p l e (rmD 0) S m args below meth c 1 E A (MQ below (va_Qi (fun r (_ : Unit) => K r) (fun (_ : Unit) t => bx_B E A (([] : va_W)) t) A) args S 0 0 A) 0 0 pc lv st ws
def V_X6_isFigure  (K : Int32 → Prop)   (x0 : Int32) : Prop := ((x0 < 48 → K 0) ∧
 (¬ x0 < 48 → ((57 < x0 → K 0) ∧
 (¬ 57 < x0 → K 1))))
set_option maxRecDepth 20000 in
set_option maxHeartbeats 4000000 in
theorem t_X6_isFigure_0 {K : Int32 → Prop} (C : bx_C p (rmD 0) S m args meth c cX6_isFigure 1 yX6_isFigure.cls (some .boolean) E A 0 0)    (x0 : Int32) (hv : V_X6_isFigure K  x0) : G_X6_isFigure p l e S m args below meth c E A   K 0 [(0, .int x0)] [] (([] : va_W)) := by
  unfold V_X6_isFigure at hv
  refine bx_iload_n C 1 dX6_isFigure_0 rfl rfl rfl ?_
  refine bx_bipush C 48 3 dX6_isFigure_1 bp_48 rfl ?_
  refine bx_icmp_lt C 16 6 dX6_isFigure_3 (by decide) rfl (fun h => ?_) (fun h => ?_)
  · replace hv := hv.1 h
    refine bx_iconst C 0 17 dX6_isFigure_16 ic_0 rfl ?_
    exact bx_zret C () rfl dX6_isFigure_17 rfl (Or.inl rfl) hv
  · replace hv := hv.2 h
    refine bx_iload_n C 7 dX6_isFigure_6 rfl rfl rfl ?_
    refine bx_bipush C 57 9 dX6_isFigure_7 bp_57 rfl ?_
    refine bx_icmp_gt C 16 12 dX6_isFigure_9 (by decide) rfl (fun h => ?_) (fun h => ?_)
    · replace hv := hv.1 h
      refine bx_iconst C 0 17 dX6_isFigure_16 ic_0 rfl ?_
      exact bx_zret C () rfl dX6_isFigure_17 rfl (Or.inl rfl) hv
    · replace hv := hv.2 h
      refine bx_iconst C 1 13 dX6_isFigure_12 ic_1 rfl ?_
      refine bx_goto C 17 dX6_isFigure_13 (by decide) ?_
      exact bx_zret C () rfl dX6_isFigure_17 rfl (Or.inr rfl) hv
theorem k_X6_isFigure (l : Launch) (E : bx_E)   (K : Int32 → Prop)  (x0 : Int32) (hv : V_X6_isFigure  K  x0) : bx_Mi l E yX6_isFigure cX6_isFigure 1 (some .boolean) (rmD 0) [.int x0] (fun (_ : Unit) => ([] : va_W)) () (fun r (_ : Unit) => K r) :=
  bx_meti (by decide +kernel) (Nat.le_of_ble_eq_true rfl) (fun p e S m below meth c C => t_X6_isFigure_0 C  x0 hv)
abbrev G_X6_takeFigures (p : Program) (l : Launch) (e : Env) (S : State) (m : MethodId) (args : Array Value) (below : List Frame) (meth : Method) (c : Code) (E : bx_E) (A : Nat → Prop) (a : Nat → Nat)  (K : XS → Prop) (pc : Nat) (lv : List (Nat × Value)) (st : List Value) (ws : va_W) : Prop := bx_S p l e (rmD 1) S m args below meth c 1 E A (MQ below (va_Qv K (fun (u : XS) t => bx_B E A (w_X E a u) t) A) args S 0 0 A) 0 0 pc lv st ws
def V_X6_takeFigures_87  (K : XS → Prop)  (u : XS) (z1 : Int32) : Prop := K (u.1, u.2.1, u.2.2.1, z1, u.2.2.2.2)
set_option maxRecDepth 20000 in
set_option maxHeartbeats 4000000 in
theorem t_X6_takeFigures_87 {a : Nat → Nat} {K : XS → Prop} (C : bx_C p (rmD 1) S m args meth c cX6_takeFigures 1 yX6_takeFigures.cls none E A 0 0)   (u : XS) (z1 : Int32) (hv : V_X6_takeFigures_87 K u z1) : G_X6_takeFigures p l e S m args below meth c E A a  K 87 [(0, .ref (a 0))] [.int z1, .ref (a 0)] (w_X E a u) := by
  unfold V_X6_takeFigures_87 at hv
  refine bx_putf C 90 0 3 (w_X E a (u.1, u.2.1, u.2.2.1, z1, u.2.2.2.2)) inX6 tyX6 tyX6_ok nmX6 rfl (by decide) fl_X6_35 rfl dX6_takeFigures_87 rfl rfl rfl (Nat.le_of_ble_eq_true rfl) rfl rfl ?_
  exact bx_vret C (u.1, u.2.1, u.2.2.1, z1, u.2.2.2.2) rfl dX6_takeFigures_90 rfl hv
def V_X6_takeFigures_68  (K : XS → Prop)  (u : XS)  : Prop := ((2 < (u.2.2.2.2.2.1 - u.2.2.2.2.1) → V_X6_takeFigures_87 K u 4) ∧
 (¬ 2 < (u.2.2.2.2.2.1 - u.2.2.2.2.1) → V_X6_takeFigures_87 K u 2))
set_option maxRecDepth 20000 in
set_option maxHeartbeats 4000000 in
theorem t_X6_takeFigures_68 {a : Nat → Nat} {K : XS → Prop} (C : bx_C p (rmD 1) S m args meth c cX6_takeFigures 1 yX6_takeFigures.cls none E A 0 0)   (u : XS)  (hv : V_X6_takeFigures_68 K u ) : G_X6_takeFigures p l e S m args below meth c E A a  K 68 [(0, .ref (a 0))] [] (w_X E a u) := by
  unfold V_X6_takeFigures_68 at hv
  refine bx_aload_n C 69 dX6_takeFigures_68 rfl rfl rfl ?_
  refine bx_aload_n C 70 dX6_takeFigures_69 rfl rfl rfl ?_
  refine bx_getf (v := .int u.2.2.2.2.2.1) C 73 0 5 inX6 rfl (by decide) fl_X6_29 dX6_takeFigures_70 at_X_0 rfl rfl ?_
  refine bx_aload_n C 74 dX6_takeFigures_73 rfl rfl rfl ?_
  refine bx_getf (v := .int u.2.2.2.2.1) C 77 0 4 inX6 rfl (by decide) fl_X6_46 dX6_takeFigures_74 at_X_0 rfl rfl ?_
  refine bx_isub C 78 dX6_takeFigures_77 rfl ?_
  refine bx_iconst C 2 79 dX6_takeFigures_78 ic_2 rfl ?_
  refine bx_icmp_gt C 86 82 dX6_takeFigures_79 (by decide) rfl (fun h => ?_) (fun h => ?_)
  · replace hv := hv.1 h
    refine bx_iconst C 4 87 dX6_takeFigures_86 ic_4 rfl ?_
    exact bx_cut [0] (w_X E a u) rfl rfl (t_X6_takeFigures_87 C   u 4 hv)
  · replace hv := hv.2 h
    refine bx_iconst C 2 83 dX6_takeFigures_82 ic_2 rfl ?_
    refine bx_goto C 87 dX6_takeFigures_83 (by decide) ?_
    exact bx_cut [0] (w_X E a u) rfl rfl (t_X6_takeFigures_87 C   u 2 hv)
def V_X6_takeFigures_5  (K : XS → Prop)  : Nat → XS → Prop
  | 0, _ => False
  | n + 1, u => ((u.2.2.1 ≤ u.2.2.2.2.2.1 → V_X6_takeFigures_68 K u ) ∧
 (¬ u.2.2.1 ≤ u.2.2.2.2.2.1 → (vp_in u.2.2.2.2.2.1 150 ∧ (V_X6_isFigure (fun r1 => ((r1 = 0 → V_X6_takeFigures_68 K u ) ∧
 (¬ r1 = 0 → (vp_in u.2.2.2.2.2.1 150 ∧ V_X6_takeFigures_5 K n (u.1, u.2.1, u.2.2.1, u.2.2.2.1, u.2.2.2.2.1, (u.2.2.2.2.2.1 + 1), (((10 * u.2.2.2.2.2.2) + (u.2.1 (u.2.2.2.2.2.1 : Int32).toNatClampNeg)) - 48)) ))))  (u.2.1 (u.2.2.2.2.2.1 : Int32).toNatClampNeg)))))
set_option maxRecDepth 20000 in
set_option maxHeartbeats 4000000 in
theorem t_X6_takeFigures_5 {a : Nat → Nat} {K : XS → Prop} (C : bx_C p (rmD 1) S m args meth c cX6_takeFigures 1 yX6_takeFigures.cls none E A 0 0)   : ∀ (n : Nat) (u : XS) , V_X6_takeFigures_5 K n u  → G_X6_takeFigures p l e S m args below meth c E A a  K 5 [(0, .ref (a 0))] [] (w_X E a u) := by
  intro n
  induction n with
  | zero =>
    intro u hv
    exact False.elim hv
  | succ n ih =>
    intro u hv
    unfold V_X6_takeFigures_5 at hv
    refine bx_aload_n C 6 dX6_takeFigures_5 rfl rfl rfl ?_
    refine bx_getf (v := .int u.2.2.2.2.2.1) C 9 0 5 inX6 rfl (by decide) fl_X6_29 dX6_takeFigures_6 at_X_0 rfl rfl ?_
    refine bx_aload_n C 10 dX6_takeFigures_9 rfl rfl rfl ?_
    refine bx_getf (v := .int u.2.2.1) C 13 0 2 inX6 rfl (by decide) fl_X6_22 dX6_takeFigures_10 at_X_0 rfl rfl ?_
    refine bx_icmp_ge C 68 16 dX6_takeFigures_13 (by decide) rfl (fun h => ?_) (fun h => ?_)
    · replace hv := hv.1 h
      exact bx_cut [0] (w_X E a u) rfl rfl (t_X6_takeFigures_68 C   u  hv)
    · replace hv := hv.2 h
      refine bx_aload_n C 17 dX6_takeFigures_16 rfl rfl rfl ?_
      refine bx_getf (v := .ref (a 14)) C 20 0 1 inX6 rfl (by decide) fl_X6_18 dX6_takeFigures_17 at_X_0 rfl rfl ?_
      refine bx_aload_n C 21 dX6_takeFigures_20 rfl rfl rfl ?_
      refine bx_getf (v := .int u.2.2.2.2.2.1) C 24 0 5 inX6 rfl (by decide) fl_X6_29 dX6_takeFigures_21 at_X_0 rfl rfl ?_
      refine bx_bald (f := u.2.1) C 25 14 dX6_takeFigures_24 at_X_14 hv.1 rfl ?_
      replace hv := hv.2
      refine bx_pSi C 28 fc_X6_128 (k_X6_isFigure l E  _ _ hv) dX6_takeFigures_25 ⟨rfl, rfl, Nat.le_of_ble_eq_true rfl, Nat.le_of_ble_eq_true rfl⟩ [] rfl (by decide) rfl rfl (Nat.le_of_ble_eq_true rfl) rfl (fun r1 hv => ?_)
      refine bx_if_eq C 68 31 dX6_takeFigures_28 (by decide) rfl (fun h => ?_) (fun h => ?_)
      · replace hv := hv.1 h
        exact bx_cut [0] (w_X E a u) rfl rfl (t_X6_takeFigures_68 C   u  hv)
      · replace hv := hv.2 h
        refine bx_aload_n C 32 dX6_takeFigures_31 rfl rfl rfl ?_
        refine bx_bipush C 10 34 dX6_takeFigures_32 bp_10 rfl ?_
        refine bx_aload_n C 35 dX6_takeFigures_34 rfl rfl rfl ?_
        refine bx_getf (v := .int u.2.2.2.2.2.2) C 38 0 6 inX6 rfl (by decide) fl_X6_90 dX6_takeFigures_35 at_X_0 rfl rfl ?_
        refine bx_imul C 39 dX6_takeFigures_38 rfl ?_
        refine bx_aload_n C 40 dX6_takeFigures_39 rfl rfl rfl ?_
        refine bx_getf (v := .ref (a 14)) C 43 0 1 inX6 rfl (by decide) fl_X6_18 dX6_takeFigures_40 at_X_0 rfl rfl ?_
        refine bx_aload_n C 44 dX6_takeFigures_43 rfl rfl rfl ?_
        refine bx_getf (v := .int u.2.2.2.2.2.1) C 47 0 5 inX6 rfl (by decide) fl_X6_29 dX6_takeFigures_44 at_X_0 rfl rfl ?_
        refine bx_bald (f := u.2.1) C 48 14 dX6_takeFigures_47 at_X_14 hv.1 rfl ?_
        replace hv := hv.2
        refine bx_iadd C 49 dX6_takeFigures_48 rfl ?_
        refine bx_bipush C 48 51 dX6_takeFigures_49 bp_48 rfl ?_
        refine bx_isub C 52 dX6_takeFigures_51 rfl ?_
        refine bx_putf C 55 0 6 (w_X E a (u.1, u.2.1, u.2.2.1, u.2.2.2.1, u.2.2.2.2.1, u.2.2.2.2.2.1, (((10 * u.2.2.2.2.2.2) + (u.2.1 (u.2.2.2.2.2.1 : Int32).toNatClampNeg)) - 48))) inX6 tyX6 tyX6_ok nmX6 rfl (by decide) fl_X6_90 rfl dX6_takeFigures_52 rfl rfl rfl (Nat.le_of_ble_eq_true rfl) rfl rfl ?_
        refine bx_aload_n C 56 dX6_takeFigures_55 rfl rfl rfl ?_
        refine bx_dup C 57 dX6_takeFigures_56 rfl rfl ?_
        refine bx_getf (v := .int u.2.2.2.2.2.1) C 60 0 5 inX6 rfl (by decide) fl_X6_29 dX6_takeFigures_57 at_X_0 rfl rfl ?_
        refine bx_iconst C 1 61 dX6_takeFigures_60 ic_1 rfl ?_
        refine bx_iadd C 62 dX6_takeFigures_61 rfl ?_
        refine bx_putf C 65 0 5 (w_X E a (u.1, u.2.1, u.2.2.1, u.2.2.2.1, u.2.2.2.2.1, (u.2.2.2.2.2.1 + 1), (((10 * u.2.2.2.2.2.2) + (u.2.1 (u.2.2.2.2.2.1 : Int32).toNatClampNeg)) - 48))) inX6 tyX6 tyX6_ok nmX6 rfl (by decide) fl_X6_29 rfl dX6_takeFigures_62 rfl rfl rfl (Nat.le_of_ble_eq_true rfl) rfl rfl ?_
        refine bx_goto C 5 dX6_takeFigures_65 (by decide) ?_
        exact bx_cut [0] (w_X E a (u.1, u.2.1, u.2.2.1, u.2.2.2.1, u.2.2.2.2.1, (u.2.2.2.2.2.1 + 1), (((10 * u.2.2.2.2.2.2) + (u.2.1 (u.2.2.2.2.2.1 : Int32).toNatClampNeg)) - 48))) rfl rfl (ih (u.1, u.2.1, u.2.2.1, u.2.2.2.1, u.2.2.2.2.1, (u.2.2.2.2.2.1 + 1), (((10 * u.2.2.2.2.2.2) + (u.2.1 (u.2.2.2.2.2.1 : Int32).toNatClampNeg)) - 48))  hv)
def V_X6_takeFigures  (K : XS → Prop)  (u : XS)  : Prop := ∃ n2, V_X6_takeFigures_5 K n2 (u.1, u.2.1, u.2.2.1, u.2.2.2.1, u.2.2.2.2.1, u.2.2.2.2.2.1, 0) 
set_option maxRecDepth 20000 in
set_option maxHeartbeats 4000000 in
theorem t_X6_takeFigures_0 {a : Nat → Nat} {K : XS → Prop} (C : bx_C p (rmD 1) S m args meth c cX6_takeFigures 1 yX6_takeFigures.cls none E A 0 0)   (u : XS)  (hv : V_X6_takeFigures K u ) : G_X6_takeFigures p l e S m args below meth c E A a  K 0 [(0, .ref (a 0))] [] (w_X E a u) := by
  unfold V_X6_takeFigures at hv
  refine bx_aload_n C 1 dX6_takeFigures_0 rfl rfl rfl ?_
  refine bx_iconst C 0 2 dX6_takeFigures_1 ic_0 rfl ?_
  refine bx_putf C 5 0 6 (w_X E a (u.1, u.2.1, u.2.2.1, u.2.2.2.1, u.2.2.2.2.1, u.2.2.2.2.2.1, 0)) inX6 tyX6 tyX6_ok nmX6 rfl (by decide) fl_X6_90 rfl dX6_takeFigures_2 rfl rfl rfl (Nat.le_of_ble_eq_true rfl) rfl rfl ?_
  obtain ⟨n2, hv⟩ := hv
  exact bx_cut [0] (w_X E a (u.1, u.2.1, u.2.2.1, u.2.2.2.1, u.2.2.2.2.1, u.2.2.2.2.2.1, 0)) rfl rfl (t_X6_takeFigures_5 C   n2 (u.1, u.2.1, u.2.2.1, u.2.2.2.1, u.2.2.2.2.1, u.2.2.2.2.2.1, 0)  hv)
theorem k_X6_takeFigures (l : Launch) (E : bx_E) (a : Nat → Nat)  (K : XS → Prop) (u : XS)  (hv : V_X6_takeFigures  K u ) : bx_Mv l E yX6_takeFigures cX6_takeFigures 1 none (rmD 1) [.ref (a 0)] (fun (u : XS) => w_X E a u) u K :=
  bx_metv (by decide +kernel) (Nat.le_of_ble_eq_true rfl) (fun p e S m below meth c C => t_X6_takeFigures_0 C u  hv)
abbrev G_X6_advance (p : Program) (l : Launch) (e : Env) (S : State) (m : MethodId) (args : Array Value) (below : List Frame) (meth : Method) (c : Code) (E : bx_E) (A : Nat → Prop) (a : Nat → Nat)  (K : XS → Prop) (pc : Nat) (lv : List (Nat × Value)) (st : List Value) (ws : va_W) : Prop := bx_S p l e (rmD 2) S m args below meth c 1 E A (MQ below (va_Qv K (fun (u : XS) t => bx_B E A (w_X E a u) t) A) args S 0 0 A) 0 0 pc lv st ws
def V_X6_advance_93  (K : XS → Prop)  : Nat → XS → Prop
  | 0, _ => False
  | n + 1, u => ((u.2.2.1 ≤ u.2.2.2.2.2.1 → K u) ∧
 (¬ u.2.2.1 ≤ u.2.2.2.2.2.1 → (vp_in u.2.2.2.2.2.1 150 ∧ (V_X6_isLetter (fun r1 => ((r1 = 0 → K u) ∧
 (¬ r1 = 0 → V_X6_advance_93 K n (u.1, u.2.1, u.2.2.1, u.2.2.2.1, u.2.2.2.2.1, (u.2.2.2.2.2.1 + 1), u.2.2.2.2.2.2) )))  (u.2.1 (u.2.2.2.2.2.1 : Int32).toNatClampNeg)))))
set_option maxRecDepth 20000 in
set_option maxHeartbeats 4000000 in
theorem t_X6_advance_93 {a : Nat → Nat} {K : XS → Prop} (C : bx_C p (rmD 2) S m args meth c cX6_advance 1 yX6_advance.cls none E A 0 0)   : ∀ (n : Nat) (u : XS) , V_X6_advance_93 K n u  → G_X6_advance p l e S m args below meth c E A a  K 93 [(0, .ref (a 0))] [] (w_X E a u) := by
  intro n
  induction n with
  | zero =>
    intro u hv
    exact False.elim hv
  | succ n ih =>
    intro u hv
    unfold V_X6_advance_93 at hv
    refine bx_aload_n C 94 dX6_advance_93 rfl rfl rfl ?_
    refine bx_getf (v := .int u.2.2.2.2.2.1) C 97 0 5 inX6 rfl (by decide) fl_X6_29 dX6_advance_94 at_X_0 rfl rfl ?_
    refine bx_aload_n C 98 dX6_advance_97 rfl rfl rfl ?_
    refine bx_getf (v := .int u.2.2.1) C 101 0 2 inX6 rfl (by decide) fl_X6_22 dX6_advance_98 at_X_0 rfl rfl ?_
    refine bx_icmp_ge C 187 104 dX6_advance_101 (by decide) rfl (fun h => ?_) (fun h => ?_)
    · replace hv := hv.1 h
      exact bx_vret C u rfl dX6_advance_187 rfl hv
    · replace hv := hv.2 h
      refine bx_aload_n C 105 dX6_advance_104 rfl rfl rfl ?_
      refine bx_getf (v := .ref (a 14)) C 108 0 1 inX6 rfl (by decide) fl_X6_18 dX6_advance_105 at_X_0 rfl rfl ?_
      refine bx_aload_n C 109 dX6_advance_108 rfl rfl rfl ?_
      refine bx_getf (v := .int u.2.2.2.2.2.1) C 112 0 5 inX6 rfl (by decide) fl_X6_29 dX6_advance_109 at_X_0 rfl rfl ?_
      refine bx_bald (f := u.2.1) C 113 14 dX6_advance_112 at_X_14 hv.1 rfl ?_
      replace hv := hv.2
      refine bx_pSi C 116 fc_X6_125 (k_X6_isLetter l E  _ _ hv) dX6_advance_113 ⟨rfl, rfl, Nat.le_of_ble_eq_true rfl, Nat.le_of_ble_eq_true rfl⟩ [] rfl (by decide) rfl rfl (Nat.le_of_ble_eq_true rfl) rfl (fun r1 hv => ?_)
      refine bx_if_eq C 187 119 dX6_advance_116 (by decide) rfl (fun h => ?_) (fun h => ?_)
      · replace hv := hv.1 h
        exact bx_vret C u rfl dX6_advance_187 rfl hv
      · replace hv := hv.2 h
        refine bx_aload_n C 120 dX6_advance_119 rfl rfl rfl ?_
        refine bx_dup C 121 dX6_advance_120 rfl rfl ?_
        refine bx_getf (v := .int u.2.2.2.2.2.1) C 124 0 5 inX6 rfl (by decide) fl_X6_29 dX6_advance_121 at_X_0 rfl rfl ?_
        refine bx_iconst C 1 125 dX6_advance_124 ic_1 rfl ?_
        refine bx_iadd C 126 dX6_advance_125 rfl ?_
        refine bx_putf C 129 0 5 (w_X E a (u.1, u.2.1, u.2.2.1, u.2.2.2.1, u.2.2.2.2.1, (u.2.2.2.2.2.1 + 1), u.2.2.2.2.2.2)) inX6 tyX6 tyX6_ok nmX6 rfl (by decide) fl_X6_29 rfl dX6_advance_126 rfl rfl rfl (Nat.le_of_ble_eq_true rfl) rfl rfl ?_
        refine bx_goto C 93 dX6_advance_129 (by decide) ?_
        exact bx_cut [0] (w_X E a (u.1, u.2.1, u.2.2.1, u.2.2.2.1, u.2.2.2.2.1, (u.2.2.2.2.2.1 + 1), u.2.2.2.2.2.2)) rfl rfl (ih (u.1, u.2.1, u.2.2.1, u.2.2.2.1, u.2.2.2.2.1, (u.2.2.2.2.2.1 + 1), u.2.2.2.2.2.2)  hv)
def V_X6_advance_174  (K : XS → Prop)  (u : XS) (z1 : Int32) : Prop := K (u.1, u.2.1, u.2.2.1, z1, u.2.2.2.2.1, (u.2.2.2.2.2.1 + 1), u.2.2.2.2.2.2)
set_option maxRecDepth 20000 in
set_option maxHeartbeats 4000000 in
theorem t_X6_advance_174 {a : Nat → Nat} {K : XS → Prop} (C : bx_C p (rmD 2) S m args meth c cX6_advance 1 yX6_advance.cls none E A 0 0)   (u : XS) (z1 : Int32) (hv : V_X6_advance_174 K u z1) : G_X6_advance p l e S m args below meth c E A a  K 174 [(0, .ref (a 0))] [.int z1, .ref (a 0)] (w_X E a u) := by
  unfold V_X6_advance_174 at hv
  refine bx_putf C 177 0 3 (w_X E a (u.1, u.2.1, u.2.2.1, z1, u.2.2.2.2)) inX6 tyX6 tyX6_ok nmX6 rfl (by decide) fl_X6_35 rfl dX6_advance_174 rfl rfl rfl (Nat.le_of_ble_eq_true rfl) rfl rfl ?_
  refine bx_aload_n C 178 dX6_advance_177 rfl rfl rfl ?_
  refine bx_dup C 179 dX6_advance_178 rfl rfl ?_
  refine bx_getf (v := .int u.2.2.2.2.2.1) C 182 0 5 inX6 rfl (by decide) fl_X6_29 dX6_advance_179 at_X_0 rfl rfl ?_
  refine bx_iconst C 1 183 dX6_advance_182 ic_1 rfl ?_
  refine bx_iadd C 184 dX6_advance_183 rfl ?_
  refine bx_putf C 187 0 5 (w_X E a (u.1, u.2.1, u.2.2.1, z1, u.2.2.2.2.1, (u.2.2.2.2.2.1 + 1), u.2.2.2.2.2.2)) inX6 tyX6 tyX6_ok nmX6 rfl (by decide) fl_X6_29 rfl dX6_advance_184 rfl rfl rfl (Nat.le_of_ble_eq_true rfl) rfl rfl ?_
  exact bx_vret C (u.1, u.2.1, u.2.2.1, z1, u.2.2.2.2.1, (u.2.2.2.2.2.1 + 1), u.2.2.2.2.2.2) rfl dX6_advance_187 rfl hv
def V_X6_advance_46  (K : XS → Prop)  (u : XS)  : Prop := ((u.2.2.2.2.1 < u.2.2.1 → (vp_in u.2.2.2.2.1 150 ∧ (V_X6_isLetter (fun r2 => ((r2 = 0 → (vp_in u.2.2.2.2.1 150 ∧ (V_X6_isFigure (fun r3 => ((r3 = 0 → (vp_in u.2.2.2.2.1 150 ∧ ((¬ (u.2.1 (u.2.2.2.2.1 : Int32).toNatClampNeg) = 59 → V_X6_advance_174 K (u.1, u.2.1, u.2.2.1, u.2.2.2.1, u.2.2.2.2.1, u.2.2.2.2.1, u.2.2.2.2.2.2) 4) ∧
 ((u.2.1 (u.2.2.2.2.1 : Int32).toNatClampNeg) = 59 → V_X6_advance_174 K (u.1, u.2.1, u.2.2.1, u.2.2.2.1, u.2.2.2.2.1, u.2.2.2.2.1, u.2.2.2.2.2.2) 3)))) ∧
 (¬ r3 = 0 → (V_X6_takeFigures (fun u4 => K u4) (u.1, u.2.1, u.2.2.1, u.2.2.2.1, u.2.2.2.2.1, u.2.2.2.2.1, u.2.2.2.2.2.2) ))))  (u.2.1 (u.2.2.2.2.1 : Int32).toNatClampNeg)))) ∧
 (¬ r2 = 0 → ∃ n5, V_X6_advance_93 K n5 (u.1, u.2.1, u.2.2.1, 1, u.2.2.2.2.1, u.2.2.2.2.1, u.2.2.2.2.2.2) )))  (u.2.1 (u.2.2.2.2.1 : Int32).toNatClampNeg)))) ∧
 (¬ u.2.2.2.2.1 < u.2.2.1 → K (u.1, u.2.1, u.2.2.1, 0, u.2.2.2.2.1, u.2.2.2.2.1, u.2.2.2.2.2.2)))
set_option maxRecDepth 20000 in
set_option maxHeartbeats 4000000 in
theorem t_X6_advance_46 {a : Nat → Nat} {K : XS → Prop} (C : bx_C p (rmD 2) S m args meth c cX6_advance 1 yX6_advance.cls none E A 0 0)   (u : XS)  (hv : V_X6_advance_46 K u ) : G_X6_advance p l e S m args below meth c E A a  K 46 [(0, .ref (a 0))] [] (w_X E a u) := by
  unfold V_X6_advance_46 at hv
  refine bx_aload_n C 47 dX6_advance_46 rfl rfl rfl ?_
  refine bx_aload_n C 48 dX6_advance_47 rfl rfl rfl ?_
  refine bx_getf (v := .int u.2.2.2.2.1) C 51 0 4 inX6 rfl (by decide) fl_X6_46 dX6_advance_48 at_X_0 rfl rfl ?_
  refine bx_putf C 54 0 5 (w_X E a (u.1, u.2.1, u.2.2.1, u.2.2.2.1, u.2.2.2.2.1, u.2.2.2.2.1, u.2.2.2.2.2.2)) inX6 tyX6 tyX6_ok nmX6 rfl (by decide) fl_X6_29 rfl dX6_advance_51 rfl rfl rfl (Nat.le_of_ble_eq_true rfl) rfl rfl ?_
  refine bx_aload_n C 55 dX6_advance_54 rfl rfl rfl ?_
  refine bx_getf (v := .int u.2.2.2.2.1) C 58 0 4 inX6 rfl (by decide) fl_X6_46 dX6_advance_55 at_X_0 rfl rfl ?_
  refine bx_aload_n C 59 dX6_advance_58 rfl rfl rfl ?_
  refine bx_getf (v := .int u.2.2.1) C 62 0 2 inX6 rfl (by decide) fl_X6_22 dX6_advance_59 at_X_0 rfl rfl ?_
  refine bx_icmp_lt C 73 65 dX6_advance_62 (by decide) rfl (fun h => ?_) (fun h => ?_)
  · replace hv := hv.1 h
    refine bx_aload_n C 74 dX6_advance_73 rfl rfl rfl ?_
    refine bx_getf (v := .ref (a 14)) C 77 0 1 inX6 rfl (by decide) fl_X6_18 dX6_advance_74 at_X_0 rfl rfl ?_
    refine bx_aload_n C 78 dX6_advance_77 rfl rfl rfl ?_
    refine bx_getf (v := .int u.2.2.2.2.1) C 81 0 4 inX6 rfl (by decide) fl_X6_46 dX6_advance_78 at_X_0 rfl rfl ?_
    refine bx_bald (f := u.2.1) C 82 14 dX6_advance_81 at_X_14 hv.1 rfl ?_
    replace hv := hv.2
    refine bx_pSi C 85 fc_X6_125 (k_X6_isLetter l E  _ _ hv) dX6_advance_82 ⟨rfl, rfl, Nat.le_of_ble_eq_true rfl, Nat.le_of_ble_eq_true rfl⟩ [] rfl (by decide) rfl rfl (Nat.le_of_ble_eq_true rfl) rfl (fun r2 hv => ?_)
    refine bx_if_eq C 132 88 dX6_advance_85 (by decide) rfl (fun h => ?_) (fun h => ?_)
    · replace hv := hv.1 h
      refine bx_aload_n C 133 dX6_advance_132 rfl rfl rfl ?_
      refine bx_getf (v := .ref (a 14)) C 136 0 1 inX6 rfl (by decide) fl_X6_18 dX6_advance_133 at_X_0 rfl rfl ?_
      refine bx_aload_n C 137 dX6_advance_136 rfl rfl rfl ?_
      refine bx_getf (v := .int u.2.2.2.2.1) C 140 0 4 inX6 rfl (by decide) fl_X6_46 dX6_advance_137 at_X_0 rfl rfl ?_
      refine bx_bald (f := u.2.1) C 141 14 dX6_advance_140 at_X_14 hv.1 rfl ?_
      replace hv := hv.2
      refine bx_pSi C 144 fc_X6_128 (k_X6_isFigure l E  _ _ hv) dX6_advance_141 ⟨rfl, rfl, Nat.le_of_ble_eq_true rfl, Nat.le_of_ble_eq_true rfl⟩ [] rfl (by decide) rfl rfl (Nat.le_of_ble_eq_true rfl) rfl (fun r3 hv => ?_)
      refine bx_if_eq C 154 147 dX6_advance_144 (by decide) rfl (fun h => ?_) (fun h => ?_)
      · replace hv := hv.1 h
        refine bx_aload_n C 155 dX6_advance_154 rfl rfl rfl ?_
        refine bx_aload_n C 156 dX6_advance_155 rfl rfl rfl ?_
        refine bx_getf (v := .ref (a 14)) C 159 0 1 inX6 rfl (by decide) fl_X6_18 dX6_advance_156 at_X_0 rfl rfl ?_
        refine bx_aload_n C 160 dX6_advance_159 rfl rfl rfl ?_
        refine bx_getf (v := .int u.2.2.2.2.1) C 163 0 4 inX6 rfl (by decide) fl_X6_46 dX6_advance_160 at_X_0 rfl rfl ?_
        refine bx_bald (f := u.2.1) C 164 14 dX6_advance_163 at_X_14 hv.1 rfl ?_
        replace hv := hv.2
        refine bx_bipush C 59 166 dX6_advance_164 bp_59 rfl ?_
        refine bx_icmp_ne C 173 169 dX6_advance_166 (by decide) rfl (fun h => ?_) (fun h => ?_)
        · replace hv := hv.1 h
          refine bx_iconst C 4 174 dX6_advance_173 ic_4 rfl ?_
          exact bx_cut [0] (w_X E a (u.1, u.2.1, u.2.2.1, u.2.2.2.1, u.2.2.2.2.1, u.2.2.2.2.1, u.2.2.2.2.2.2)) rfl rfl (t_X6_advance_174 C   (u.1, u.2.1, u.2.2.1, u.2.2.2.1, u.2.2.2.2.1, u.2.2.2.2.1, u.2.2.2.2.2.2) 4 hv)
        · replace hv := hv.2 h
          refine bx_iconst C 3 170 dX6_advance_169 ic_3 rfl ?_
          refine bx_goto C 174 dX6_advance_170 (by decide) ?_
          exact bx_cut [0] (w_X E a (u.1, u.2.1, u.2.2.1, u.2.2.2.1, u.2.2.2.2.1, u.2.2.2.2.1, u.2.2.2.2.2.2)) rfl rfl (t_X6_advance_174 C   (u.1, u.2.1, u.2.2.1, u.2.2.2.1, u.2.2.2.2.1, u.2.2.2.2.1, u.2.2.2.2.2.2) 3 hv)
      · replace hv := hv.2 h
        refine bx_aload_n C 148 dX6_advance_147 rfl rfl rfl ?_
        refine bx_qVv C 0 at_X_0 rfl 151 fc_X6_131 (k_X6_takeFigures l E a _ _ hv) dX6_advance_148 ⟨rfl, rfl, Nat.le_of_ble_eq_true rfl, Nat.le_of_ble_eq_true rfl⟩ [0, 1, 2, 3, 4, 5, 6, 7, 8, 9, 10, 11, 12, 13, 14] (fun u4 => w_X E a u4) ps_X_X_0 (by decide) ad_X pu_X_X_0 rfl rfl (Nat.le_of_ble_eq_true rfl) rfl (fun u4 hv => ?_)
        refine bx_goto C 187 dX6_advance_151 (by decide) ?_
        exact bx_vret C u4 rfl dX6_advance_187 rfl hv
    · replace hv := hv.2 h
      refine bx_aload_n C 89 dX6_advance_88 rfl rfl rfl ?_
      refine bx_iconst C 1 90 dX6_advance_89 ic_1 rfl ?_
      refine bx_putf C 93 0 3 (w_X E a (u.1, u.2.1, u.2.2.1, 1, u.2.2.2.2.1, u.2.2.2.2.1, u.2.2.2.2.2.2)) inX6 tyX6 tyX6_ok nmX6 rfl (by decide) fl_X6_35 rfl dX6_advance_90 rfl rfl rfl (Nat.le_of_ble_eq_true rfl) rfl rfl ?_
      obtain ⟨n5, hv⟩ := hv
      exact bx_cut [0] (w_X E a (u.1, u.2.1, u.2.2.1, 1, u.2.2.2.2.1, u.2.2.2.2.1, u.2.2.2.2.2.2)) rfl rfl (t_X6_advance_93 C   n5 (u.1, u.2.1, u.2.2.1, 1, u.2.2.2.2.1, u.2.2.2.2.1, u.2.2.2.2.2.2)  hv)
  · replace hv := hv.2 h
    refine bx_aload_n C 66 dX6_advance_65 rfl rfl rfl ?_
    refine bx_iconst C 0 67 dX6_advance_66 ic_0 rfl ?_
    refine bx_putf C 70 0 3 (w_X E a (u.1, u.2.1, u.2.2.1, 0, u.2.2.2.2.1, u.2.2.2.2.1, u.2.2.2.2.2.2)) inX6 tyX6 tyX6_ok nmX6 rfl (by decide) fl_X6_35 rfl dX6_advance_67 rfl rfl rfl (Nat.le_of_ble_eq_true rfl) rfl rfl ?_
    refine bx_goto C 187 dX6_advance_70 (by decide) ?_
    exact bx_vret C (u.1, u.2.1, u.2.2.1, 0, u.2.2.2.2.1, u.2.2.2.2.1, u.2.2.2.2.2.2) rfl dX6_advance_187 rfl hv
def V_X6_advance_8  (K : XS → Prop)  : Nat → XS → Prop
  | 0, _ => False
  | n + 1, u => ((u.2.2.1 ≤ u.2.2.2.2.1 → V_X6_advance_46 K u ) ∧
 (¬ u.2.2.1 ≤ u.2.2.2.2.1 → (vp_in u.2.2.2.2.1 150 ∧ ((¬ (u.2.1 (u.2.2.2.2.1 : Int32).toNatClampNeg) = 32 → V_X6_advance_46 K u ) ∧
 ((u.2.1 (u.2.2.2.2.1 : Int32).toNatClampNeg) = 32 → V_X6_advance_8 K n (u.1, u.2.1, u.2.2.1, u.2.2.2.1, (u.2.2.2.2.1 + 1), u.2.2.2.2.2) )))))
set_option maxRecDepth 20000 in
set_option maxHeartbeats 4000000 in
theorem t_X6_advance_8 {a : Nat → Nat} {K : XS → Prop} (C : bx_C p (rmD 2) S m args meth c cX6_advance 1 yX6_advance.cls none E A 0 0)   : ∀ (n : Nat) (u : XS) , V_X6_advance_8 K n u  → G_X6_advance p l e S m args below meth c E A a  K 8 [(0, .ref (a 0))] [] (w_X E a u) := by
  intro n
  induction n with
  | zero =>
    intro u hv
    exact False.elim hv
  | succ n ih =>
    intro u hv
    unfold V_X6_advance_8 at hv
    refine bx_aload_n C 9 dX6_advance_8 rfl rfl rfl ?_
    refine bx_getf (v := .int u.2.2.2.2.1) C 12 0 4 inX6 rfl (by decide) fl_X6_46 dX6_advance_9 at_X_0 rfl rfl ?_
    refine bx_aload_n C 13 dX6_advance_12 rfl rfl rfl ?_
    refine bx_getf (v := .int u.2.2.1) C 16 0 2 inX6 rfl (by decide) fl_X6_22 dX6_advance_13 at_X_0 rfl rfl ?_
    refine bx_icmp_ge C 46 19 dX6_advance_16 (by decide) rfl (fun h => ?_) (fun h => ?_)
    · replace hv := hv.1 h
      exact bx_cut [0] (w_X E a u) rfl rfl (t_X6_advance_46 C   u  hv)
    · replace hv := hv.2 h
      refine bx_aload_n C 20 dX6_advance_19 rfl rfl rfl ?_
      refine bx_getf (v := .ref (a 14)) C 23 0 1 inX6 rfl (by decide) fl_X6_18 dX6_advance_20 at_X_0 rfl rfl ?_
      refine bx_aload_n C 24 dX6_advance_23 rfl rfl rfl ?_
      refine bx_getf (v := .int u.2.2.2.2.1) C 27 0 4 inX6 rfl (by decide) fl_X6_46 dX6_advance_24 at_X_0 rfl rfl ?_
      refine bx_bald (f := u.2.1) C 28 14 dX6_advance_27 at_X_14 hv.1 rfl ?_
      replace hv := hv.2
      refine bx_bipush C 32 30 dX6_advance_28 bp_32 rfl ?_
      refine bx_icmp_ne C 46 33 dX6_advance_30 (by decide) rfl (fun h => ?_) (fun h => ?_)
      · replace hv := hv.1 h
        exact bx_cut [0] (w_X E a u) rfl rfl (t_X6_advance_46 C   u  hv)
      · replace hv := hv.2 h
        refine bx_aload_n C 34 dX6_advance_33 rfl rfl rfl ?_
        refine bx_dup C 35 dX6_advance_34 rfl rfl ?_
        refine bx_getf (v := .int u.2.2.2.2.1) C 38 0 4 inX6 rfl (by decide) fl_X6_46 dX6_advance_35 at_X_0 rfl rfl ?_
        refine bx_iconst C 1 39 dX6_advance_38 ic_1 rfl ?_
        refine bx_iadd C 40 dX6_advance_39 rfl ?_
        refine bx_putf C 43 0 4 (w_X E a (u.1, u.2.1, u.2.2.1, u.2.2.2.1, (u.2.2.2.2.1 + 1), u.2.2.2.2.2)) inX6 tyX6 tyX6_ok nmX6 rfl (by decide) fl_X6_46 rfl dX6_advance_40 rfl rfl rfl (Nat.le_of_ble_eq_true rfl) rfl rfl ?_
        refine bx_goto C 8 dX6_advance_43 (by decide) ?_
        exact bx_cut [0] (w_X E a (u.1, u.2.1, u.2.2.1, u.2.2.2.1, (u.2.2.2.2.1 + 1), u.2.2.2.2.2)) rfl rfl (ih (u.1, u.2.1, u.2.2.1, u.2.2.2.1, (u.2.2.2.2.1 + 1), u.2.2.2.2.2)  hv)
def V_X6_advance  (K : XS → Prop)  (u : XS)  : Prop := ∃ n6, V_X6_advance_8 K n6 (u.1, u.2.1, u.2.2.1, u.2.2.2.1, u.2.2.2.2.2.1, u.2.2.2.2.2) 
set_option maxRecDepth 20000 in
set_option maxHeartbeats 4000000 in
theorem t_X6_advance_0 {a : Nat → Nat} {K : XS → Prop} (C : bx_C p (rmD 2) S m args meth c cX6_advance 1 yX6_advance.cls none E A 0 0)   (u : XS)  (hv : V_X6_advance K u ) : G_X6_advance p l e S m args below meth c E A a  K 0 [(0, .ref (a 0))] [] (w_X E a u) := by
  unfold V_X6_advance at hv
  refine bx_aload_n C 1 dX6_advance_0 rfl rfl rfl ?_
  refine bx_aload_n C 2 dX6_advance_1 rfl rfl rfl ?_
  refine bx_getf (v := .int u.2.2.2.2.2.1) C 5 0 5 inX6 rfl (by decide) fl_X6_29 dX6_advance_2 at_X_0 rfl rfl ?_
  refine bx_putf C 8 0 4 (w_X E a (u.1, u.2.1, u.2.2.1, u.2.2.2.1, u.2.2.2.2.2.1, u.2.2.2.2.2)) inX6 tyX6 tyX6_ok nmX6 rfl (by decide) fl_X6_46 rfl dX6_advance_5 rfl rfl rfl (Nat.le_of_ble_eq_true rfl) rfl rfl ?_
  obtain ⟨n6, hv⟩ := hv
  exact bx_cut [0] (w_X E a (u.1, u.2.1, u.2.2.1, u.2.2.2.1, u.2.2.2.2.2.1, u.2.2.2.2.2)) rfl rfl (t_X6_advance_8 C   n6 (u.1, u.2.1, u.2.2.1, u.2.2.2.1, u.2.2.2.2.2.1, u.2.2.2.2.2)  hv)
theorem k_X6_advance (l : Launch) (E : bx_E) (a : Nat → Nat)  (K : XS → Prop) (u : XS)  (hv : V_X6_advance  K u ) : bx_Mv l E yX6_advance cX6_advance 1 none (rmD 2) [.ref (a 0)] (fun (u : XS) => w_X E a u) u K :=
  bx_metv (by decide +kernel) (Nat.le_of_ble_eq_true rfl) (fun p e S m below meth c C => t_X6_advance_0 C u  hv)
abbrev G_X6_readNumber (p : Program) (l : Launch) (e : Env) (S : State) (m : MethodId) (args : Array Value) (below : List Frame) (meth : Method) (c : Code) (E : bx_E) (A : Nat → Prop) (a : Nat → Nat)  (K : Int32 → XS → Prop) (pc : Nat) (lv : List (Nat × Value)) (st : List Value) (ws : va_W) : Prop := bx_S p l e (rmD 3) S m args below meth c 3 E A (MQ below (va_Qi K (fun (u : XS) t => bx_B E A (w_X E a u) t) A) args S 0 0 A) 0 0 pc lv st ws
def V_X6_readNumber  (K : Int32 → XS → Prop)  (u : XS) (x1 : Int32) (x2 : Int32) : Prop := (V_X6_advance (fun u1 => ((¬ u1.2.2.2.1 = 2 → K 0 u1) ∧
 (u1.2.2.2.1 = 2 → ((u1.2.2.2.2.2.2 < x1 → K 0 u1) ∧
 (¬ u1.2.2.2.2.2.2 < x1 → ((x2 < u1.2.2.2.2.2.2 → K 0 u1) ∧
 (¬ x2 < u1.2.2.2.2.2.2 → K 1 u1))))))) u )
set_option maxRecDepth 20000 in
set_option maxHeartbeats 4000000 in
theorem t_X6_readNumber_0 {a : Nat → Nat} {K : Int32 → XS → Prop} (C : bx_C p (rmD 3) S m args meth c cX6_readNumber 3 yX6_readNumber.cls (some .boolean) E A 0 0)   (u : XS) (x1 : Int32) (x2 : Int32) (hv : V_X6_readNumber K u x1 x2) : G_X6_readNumber p l e S m args below meth c E A a  K 0 [(0, .ref (a 0)), (1, .int x1), (2, .int x2)] [] (w_X E a u) := by
  unfold V_X6_readNumber at hv
  refine bx_aload_n C 1 dX6_readNumber_0 rfl rfl rfl ?_
  refine bx_qVv C 0 at_X_0 rfl 4 fc_X6_32 (k_X6_advance l E a _ _ hv) dX6_readNumber_1 ⟨rfl, rfl, Nat.le_of_ble_eq_true rfl, Nat.le_of_ble_eq_true rfl⟩ [0, 1, 2, 3, 4, 5, 6, 7, 8, 9, 10, 11, 12, 13, 14] (fun u1 => w_X E a u1) ps_X_X_0 (by decide) ad_X pu_X_X_0 rfl rfl (Nat.le_of_ble_eq_true rfl) rfl (fun u1 hv => ?_)
  refine bx_aload_n C 5 dX6_readNumber_4 rfl rfl rfl ?_
  refine bx_getf (v := .int u1.2.2.2.1) C 8 0 3 inX6 rfl (by decide) fl_X6_35 dX6_readNumber_5 at_X_0 rfl rfl ?_
  refine bx_iconst C 2 9 dX6_readNumber_8 ic_2 rfl ?_
  refine bx_icmp_ne C 32 12 dX6_readNumber_9 (by decide) rfl (fun h => ?_) (fun h => ?_)
  · replace hv := hv.1 h
    refine bx_iconst C 0 33 dX6_readNumber_32 ic_0 rfl ?_
    exact bx_zret C u1 rfl dX6_readNumber_33 rfl (Or.inl rfl) hv
  · replace hv := hv.2 h
    refine bx_aload_n C 13 dX6_readNumber_12 rfl rfl rfl ?_
    refine bx_getf (v := .int u1.2.2.2.2.2.2) C 16 0 6 inX6 rfl (by decide) fl_X6_90 dX6_readNumber_13 at_X_0 rfl rfl ?_
    refine bx_iload_n C 17 dX6_readNumber_16 rfl rfl rfl ?_
    refine bx_icmp_lt C 32 20 dX6_readNumber_17 (by decide) rfl (fun h => ?_) (fun h => ?_)
    · replace hv := hv.1 h
      refine bx_iconst C 0 33 dX6_readNumber_32 ic_0 rfl ?_
      exact bx_zret C u1 rfl dX6_readNumber_33 rfl (Or.inl rfl) hv
    · replace hv := hv.2 h
      refine bx_aload_n C 21 dX6_readNumber_20 rfl rfl rfl ?_
      refine bx_getf (v := .int u1.2.2.2.2.2.2) C 24 0 6 inX6 rfl (by decide) fl_X6_90 dX6_readNumber_21 at_X_0 rfl rfl ?_
      refine bx_iload_n C 25 dX6_readNumber_24 rfl rfl rfl ?_
      refine bx_icmp_gt C 32 28 dX6_readNumber_25 (by decide) rfl (fun h => ?_) (fun h => ?_)
      · replace hv := hv.1 h
        refine bx_iconst C 0 33 dX6_readNumber_32 ic_0 rfl ?_
        exact bx_zret C u1 rfl dX6_readNumber_33 rfl (Or.inl rfl) hv
      · replace hv := hv.2 h
        refine bx_iconst C 1 29 dX6_readNumber_28 ic_1 rfl ?_
        refine bx_goto C 33 dX6_readNumber_29 (by decide) ?_
        exact bx_zret C u1 rfl dX6_readNumber_33 rfl (Or.inr rfl) hv
theorem k_X6_readNumber (l : Launch) (E : bx_E) (a : Nat → Nat)  (K : Int32 → XS → Prop) (u : XS) (x1 : Int32) (x2 : Int32) (hv : V_X6_readNumber  K u x1 x2) : bx_Mi l E yX6_readNumber cX6_readNumber 3 (some .boolean) (rmD 3) [.ref (a 0), .int x1, .int x2] (fun (u : XS) => w_X E a u) u K :=
  bx_meti (by decide +kernel) (Nat.le_of_ble_eq_true rfl) (fun p e S m below meth c C => t_X6_readNumber_0 C u x1 x2 hv)
abbrev G_X6_readRowKinds (p : Program) (l : Launch) (e : Env) (S : State) (m : MethodId) (args : Array Value) (below : List Frame) (meth : Method) (c : Code) (E : bx_E) (A : Nat → Prop) (a : Nat → Nat)  (K : Int32 → XS → Prop) (pc : Nat) (lv : List (Nat × Value)) (st : List Value) (ws : va_W) : Prop := bx_S p l e (rmD 4) S m args below meth c 2 E A (MQ below (va_Qi K (fun (u : XS) t => bx_B E A (w_X E a u) t) A) args S 0 0 A) 0 0 pc lv st ws
def V_X6_readRowKinds_2  (K : Int32 → XS → Prop)  : Nat → XS → Int32 → Prop
  | 0, _, _ => False
  | n + 1, u, x1 => ((5 ≤ x1 → K 1 u) ∧
 (¬ 5 ≤ x1 → (V_X6_readNumber (fun r1 u2 => ((¬ r1 = 0 → (vp_in x1 5 ∧ V_X6_readRowKinds_2 K n (((upd u2.1.1 (x1 : Int32).toNatClampNeg u2.2.2.2.2.2.2), u2.1.2), u2.2) (x1 + 1))) ∧
 (r1 = 0 → K 0 u2))) u 0 5)))
set_option maxRecDepth 20000 in
set_option maxHeartbeats 4000000 in
theorem t_X6_readRowKinds_2 {a : Nat → Nat} {K : Int32 → XS → Prop} (C : bx_C p (rmD 4) S m args meth c cX6_readRowKinds 2 yX6_readRowKinds.cls (some .boolean) E A 0 0)   : ∀ (n : Nat) (u : XS) (x1 : Int32), V_X6_readRowKinds_2 K n u x1 → G_X6_readRowKinds p l e S m args below meth c E A a  K 2 [(0, .ref (a 0)), (1, .int x1)] [] (w_X E a u) := by
  intro n
  induction n with
  | zero =>
    intro u x1 hv
    exact False.elim hv
  | succ n ih =>
    intro u x1 hv
    unfold V_X6_readRowKinds_2 at hv
    refine bx_iload_n C 3 dX6_readRowKinds_2 rfl rfl rfl ?_
    refine bx_iconst C 5 4 dX6_readRowKinds_3 ic_5 rfl ?_
    refine bx_icmp_ge C 37 7 dX6_readRowKinds_4 (by decide) rfl (fun h => ?_) (fun h => ?_)
    · replace hv := hv.1 h
      refine bx_iconst C 1 38 dX6_readRowKinds_37 ic_1 rfl ?_
      exact bx_zret C u rfl dX6_readRowKinds_38 rfl (Or.inr rfl) hv
    · replace hv := hv.2 h
      refine bx_aload_n C 8 dX6_readRowKinds_7 rfl rfl rfl ?_
      refine bx_iconst C 0 9 dX6_readRowKinds_8 ic_0 rfl ?_
      refine bx_iconst C 5 10 dX6_readRowKinds_9 ic_5 rfl ?_
      refine bx_qVi C 0 at_X_0 rfl 13 fc_X6_82 (k_X6_readNumber l E a _ _ _ _ hv) dX6_readRowKinds_10 ⟨rfl, rfl, Nat.le_of_ble_eq_true rfl, Nat.le_of_ble_eq_true rfl⟩ [0, 1, 2, 3, 4, 5, 6, 7, 8, 9, 10, 11, 12, 13, 14] (fun u2 => w_X E a u2) ps_X_X_0 (by decide) ad_X pu_X_X_0 rfl rfl (Nat.le_of_ble_eq_true rfl) rfl (fun r1 u2 hv => ?_)
      refine bx_if_ne C 18 16 dX6_readRowKinds_13 (by decide) rfl (fun h => ?_) (fun h => ?_)
      · replace hv := hv.1 h
        refine bx_aload_n C 19 dX6_readRowKinds_18 rfl rfl rfl ?_
        refine bx_getf (v := .ref (a 1)) C 22 0 0 inX6 rfl (by decide) fl_X6_12 dX6_readRowKinds_19 at_X_0 rfl rfl ?_
        refine bx_getf (v := .ref (a 2)) C 25 1 0 inX0 rfl (by decide) fl_X6_86 dX6_readRowKinds_22 at_X_1 rfl rfl ?_
        refine bx_iload_n C 26 dX6_readRowKinds_25 rfl rfl rfl ?_
        refine bx_aload_n C 27 dX6_readRowKinds_26 rfl rfl rfl ?_
        refine bx_getf (v := .int u2.2.2.2.2.2.2) C 30 0 6 inX6 rfl (by decide) fl_X6_90 dX6_readRowKinds_27 at_X_0 rfl rfl ?_
        refine bx_iast C 31 2 (w_X E a (((upd u2.1.1 (x1 : Int32).toNatClampNeg u2.2.2.2.2.2.2), u2.1.2), u2.2)) dX6_readRowKinds_30 rfl hv.1 rfl rfl ?_
        replace hv := hv.2
        refine bx_iinc C 1 34 dX6_readRowKinds_31 rfl (by decide) ic_1 rfl ?_
        refine bx_goto C 2 dX6_readRowKinds_34 (by decide) ?_
        exact bx_cut [1, 0] (w_X E a (((upd u2.1.1 (x1 : Int32).toNatClampNeg u2.2.2.2.2.2.2), u2.1.2), u2.2)) rfl rfl (ih (((upd u2.1.1 (x1 : Int32).toNatClampNeg u2.2.2.2.2.2.2), u2.1.2), u2.2) (x1 + 1) hv)
      · replace hv := hv.2 h
        refine bx_iconst C 0 17 dX6_readRowKinds_16 ic_0 rfl ?_
        exact bx_zret C u2 rfl dX6_readRowKinds_17 rfl (Or.inl rfl) hv
def V_X6_readRowKinds  (K : Int32 → XS → Prop)  (u : XS)  : Prop := ∃ n3, V_X6_readRowKinds_2 K n3 u 0
set_option maxRecDepth 20000 in
set_option maxHeartbeats 4000000 in
theorem t_X6_readRowKinds_0 {a : Nat → Nat} {K : Int32 → XS → Prop} (C : bx_C p (rmD 4) S m args meth c cX6_readRowKinds 2 yX6_readRowKinds.cls (some .boolean) E A 0 0)   (u : XS)  (hv : V_X6_readRowKinds K u ) : G_X6_readRowKinds p l e S m args below meth c E A a  K 0 [(0, .ref (a 0))] [] (w_X E a u) := by
  unfold V_X6_readRowKinds at hv
  refine bx_iconst C 0 1 dX6_readRowKinds_0 ic_0 rfl ?_
  refine bx_istore_n C 2 dX6_readRowKinds_1 rfl (by decide) rfl ?_
  obtain ⟨n3, hv⟩ := hv
  exact bx_cut [1, 0] (w_X E a u) rfl rfl (t_X6_readRowKinds_2 C   n3 u 0 hv)
theorem k_X6_readRowKinds (l : Launch) (E : bx_E) (a : Nat → Nat)  (K : Int32 → XS → Prop) (u : XS)  (hv : V_X6_readRowKinds  K u ) : bx_Mi l E yX6_readRowKinds cX6_readRowKinds 2 (some .boolean) (rmD 4) [.ref (a 0)] (fun (u : XS) => w_X E a u) u K :=
  bx_meti (by decide +kernel) (Nat.le_of_ble_eq_true rfl) (fun p e S m below meth c C => t_X6_readRowKinds_0 C u  hv)
abbrev G_X6_readSoul (p : Program) (l : Launch) (e : Env) (S : State) (m : MethodId) (args : Array Value) (below : List Frame) (meth : Method) (c : Code) (E : bx_E) (A : Nat → Prop) (a : Nat → Nat)  (K : Int32 → XS → Prop) (pc : Nat) (lv : List (Nat × Value)) (st : List Value) (ws : va_W) : Prop := bx_S p l e (rmD 4) S m args below meth c 2 E A (MQ below (va_Qi K (fun (u : XS) t => bx_B E A (w_X E a u) t) A) args S 0 0 A) 0 0 pc lv st ws
def V_X6_readSoul  (K : Int32 → XS → Prop)  (u : XS)  : Prop := ((7 ≤ u.1.2.2.2.2.1 → K 0 u) ∧
 (¬ 7 ≤ u.1.2.2.2.2.1 → (V_X6_readNumber (fun r1 u2 => ((¬ r1 = 0 → (V_X6_readNumber (fun r3 u4 => ((¬ r3 = 0 → (V_X0_addSoul (fun r5 u6 => K 1 (u6, u4.2)) u4.1 u2.2.2.2.2.2.2 u4.2.2.2.2.2.2)) ∧
 (r3 = 0 → K 0 u4))) u2 0 29)) ∧
 (r1 = 0 → K 0 u2))) u 0 5)))
set_option maxRecDepth 20000 in
set_option maxHeartbeats 4000000 in
theorem t_X6_readSoul_0 {a : Nat → Nat} {K : Int32 → XS → Prop} (C : bx_C p (rmD 4) S m args meth c cX6_readSoul 2 yX6_readSoul.cls (some .boolean) E A 0 0)   (u : XS)  (hv : V_X6_readSoul K u ) : G_X6_readSoul p l e S m args below meth c E A a  K 0 [(0, .ref (a 0))] [] (w_X E a u) := by
  unfold V_X6_readSoul at hv
  refine bx_aload_n C 1 dX6_readSoul_0 rfl rfl rfl ?_
  refine bx_getf (v := .ref (a 1)) C 4 0 0 inX6 rfl (by decide) fl_X6_12 dX6_readSoul_1 at_X_0 rfl rfl ?_
  refine bx_getf (v := .int u.1.2.2.2.2.1) C 7 1 4 inX0 rfl (by decide) fl_X6_93 dX6_readSoul_4 at_X_1 rfl rfl ?_
  refine bx_bipush C 7 9 dX6_readSoul_7 bp_7 rfl ?_
  refine bx_icmp_ge C 21 12 dX6_readSoul_9 (by decide) rfl (fun h => ?_) (fun h => ?_)
  · replace hv := hv.1 h
    refine bx_iconst C 0 22 dX6_readSoul_21 ic_0 rfl ?_
    exact bx_zret C u rfl dX6_readSoul_22 rfl (Or.inl rfl) hv
  · replace hv := hv.2 h
    refine bx_aload_n C 13 dX6_readSoul_12 rfl rfl rfl ?_
    refine bx_iconst C 0 14 dX6_readSoul_13 ic_0 rfl ?_
    refine bx_iconst C 5 15 dX6_readSoul_14 ic_5 rfl ?_
    refine bx_qVi C 0 at_X_0 rfl 18 fc_X6_82 (k_X6_readNumber l E a _ _ _ _ hv) dX6_readSoul_15 ⟨rfl, rfl, Nat.le_of_ble_eq_true rfl, Nat.le_of_ble_eq_true rfl⟩ [0, 1, 2, 3, 4, 5, 6, 7, 8, 9, 10, 11, 12, 13, 14] (fun u2 => w_X E a u2) ps_X_X_0 (by decide) ad_X pu_X_X_0 rfl rfl (Nat.le_of_ble_eq_true rfl) rfl (fun r1 u2 hv => ?_)
    refine bx_if_ne C 23 21 dX6_readSoul_18 (by decide) rfl (fun h => ?_) (fun h => ?_)
    · replace hv := hv.1 h
      refine bx_aload_n C 24 dX6_readSoul_23 rfl rfl rfl ?_
      refine bx_getf (v := .int u2.2.2.2.2.2.2) C 27 0 6 inX6 rfl (by decide) fl_X6_90 dX6_readSoul_24 at_X_0 rfl rfl ?_
      refine bx_istore_n C 28 dX6_readSoul_27 rfl (by decide) rfl ?_
      refine bx_aload_n C 29 dX6_readSoul_28 rfl rfl rfl ?_
      refine bx_iconst C 0 30 dX6_readSoul_29 ic_0 rfl ?_
      refine bx_bipush C 29 32 dX6_readSoul_30 bp_29 rfl ?_
      refine bx_qVi C 0 at_X_0 rfl 35 fc_X6_82 (k_X6_readNumber l E a _ _ _ _ hv) dX6_readSoul_32 ⟨rfl, rfl, Nat.le_of_ble_eq_true rfl, Nat.le_of_ble_eq_true rfl⟩ [0, 1, 2, 3, 4, 5, 6, 7, 8, 9, 10, 11, 12, 13, 14] (fun u4 => w_X E a u4) ps_X_X_0 (by decide) ad_X pu_X_X_0 rfl rfl (Nat.le_of_ble_eq_true rfl) rfl (fun r3 u4 hv => ?_)
      refine bx_if_ne C 40 38 dX6_readSoul_35 (by decide) rfl (fun h => ?_) (fun h => ?_)
      · replace hv := hv.1 h
        refine bx_aload_n C 41 dX6_readSoul_40 rfl rfl rfl ?_
        refine bx_getf (v := .ref (a 1)) C 44 0 0 inX6 rfl (by decide) fl_X6_12 dX6_readSoul_41 at_X_0 rfl rfl ?_
        refine bx_iload_n C 45 dX6_readSoul_44 rfl rfl rfl ?_
        refine bx_aload_n C 46 dX6_readSoul_45 rfl rfl rfl ?_
        refine bx_getf (v := .int u4.2.2.2.2.2.2) C 49 0 6 inX6 rfl (by decide) fl_X6_90 dX6_readSoul_46 at_X_0 rfl rfl ?_
        refine bx_qVi C 1 at_X_1 rfl 52 fc_X6_96 (k_X0_addSoul l E (fun k => a (1 + k)) _ _ _ _ hv) dX6_readSoul_49 ⟨rfl, rfl, Nat.le_of_ble_eq_true rfl, Nat.le_of_ble_eq_true rfl⟩ [1, 2, 3, 4, 5, 6, 7, 8, 9, 10, 11, 12, 13] (fun u6 => w_X E a (u6, u4.2)) ps_X_H_1 (by decide) ad_H pu_X_H_1 rfl rfl (Nat.le_of_ble_eq_true rfl) rfl (fun r5 u6 hv => ?_)
        refine bx_pop C 53 dX6_readSoul_52 rfl rfl ?_
        refine bx_iconst C 1 54 dX6_readSoul_53 ic_1 rfl ?_
        exact bx_zret C (u6, u4.2) rfl dX6_readSoul_54 rfl (Or.inr rfl) hv
      · replace hv := hv.2 h
        refine bx_iconst C 0 39 dX6_readSoul_38 ic_0 rfl ?_
        exact bx_zret C u4 rfl dX6_readSoul_39 rfl (Or.inl rfl) hv
    · replace hv := hv.2 h
      refine bx_iconst C 0 22 dX6_readSoul_21 ic_0 rfl ?_
      exact bx_zret C u2 rfl dX6_readSoul_22 rfl (Or.inl rfl) hv
theorem k_X6_readSoul (l : Launch) (E : bx_E) (a : Nat → Nat)  (K : Int32 → XS → Prop) (u : XS)  (hv : V_X6_readSoul  K u ) : bx_Mi l E yX6_readSoul cX6_readSoul 2 (some .boolean) (rmD 4) [.ref (a 0)] (fun (u : XS) => w_X E a u) u K :=
  bx_meti (by decide +kernel) (Nat.le_of_ble_eq_true rfl) (fun p e S m below meth c C => t_X6_readSoul_0 C u  hv)
abbrev G_X6_readCoat (p : Program) (l : Launch) (e : Env) (S : State) (m : MethodId) (args : Array Value) (below : List Frame) (meth : Method) (c : Code) (E : bx_E) (A : Nat → Prop) (a : Nat → Nat)  (K : Int32 → XS → Prop) (pc : Nat) (lv : List (Nat × Value)) (st : List Value) (ws : va_W) : Prop := bx_S p l e (rmD 4) S m args below meth c 1 E A (MQ below (va_Qi K (fun (u : XS) t => bx_B E A (w_X E a u) t) A) args S 0 0 A) 0 0 pc lv st ws
def V_X6_readCoat  (K : Int32 → XS → Prop)  (u : XS)  : Prop := (V_X6_readNumber (fun r1 u2 => ((r1 = 0 → K 0 u2) ∧
 (¬ r1 = 0 → (V_X0_isFree (fun r3 => ((¬ r3 = 0 → K 1 ((u2.1.1, u2.1.2.1, u2.1.2.2.1, u2.1.2.2.2.1, u2.1.2.2.2.2.1, (u2.1.2.2.2.2.2.1 ||| (1 <<< (u2.2.2.2.2.2.2 &&& 31))), u2.1.2.2.2.2.2.2), u2.2)) ∧
 (r3 = 0 → K 0 u2))) u2.1 u2.2.2.2.2.2.2)))) u 0 29)
set_option maxRecDepth 20000 in
set_option maxHeartbeats 4000000 in
theorem t_X6_readCoat_0 {a : Nat → Nat} {K : Int32 → XS → Prop} (C : bx_C p (rmD 4) S m args meth c cX6_readCoat 1 yX6_readCoat.cls (some .boolean) E A 0 0)   (u : XS)  (hv : V_X6_readCoat K u ) : G_X6_readCoat p l e S m args below meth c E A a  K 0 [(0, .ref (a 0))] [] (w_X E a u) := by
  unfold V_X6_readCoat at hv
  refine bx_aload_n C 1 dX6_readCoat_0 rfl rfl rfl ?_
  refine bx_iconst C 0 2 dX6_readCoat_1 ic_0 rfl ?_
  refine bx_bipush C 29 4 dX6_readCoat_2 bp_29 rfl ?_
  refine bx_qVi C 0 at_X_0 rfl 7 fc_X6_82 (k_X6_readNumber l E a _ _ _ _ hv) dX6_readCoat_4 ⟨rfl, rfl, Nat.le_of_ble_eq_true rfl, Nat.le_of_ble_eq_true rfl⟩ [0, 1, 2, 3, 4, 5, 6, 7, 8, 9, 10, 11, 12, 13, 14] (fun u2 => w_X E a u2) ps_X_X_0 (by decide) ad_X pu_X_X_0 rfl rfl (Nat.le_of_ble_eq_true rfl) rfl (fun r1 u2 hv => ?_)
  refine bx_if_eq C 24 10 dX6_readCoat_7 (by decide) rfl (fun h => ?_) (fun h => ?_)
  · replace hv := hv.1 h
    refine bx_iconst C 0 25 dX6_readCoat_24 ic_0 rfl ?_
    exact bx_zret C u2 rfl dX6_readCoat_25 rfl (Or.inl rfl) hv
  · replace hv := hv.2 h
    refine bx_aload_n C 11 dX6_readCoat_10 rfl rfl rfl ?_
    refine bx_getf (v := .ref (a 1)) C 14 0 0 inX6 rfl (by decide) fl_X6_12 dX6_readCoat_11 at_X_0 rfl rfl ?_
    refine bx_aload_n C 15 dX6_readCoat_14 rfl rfl rfl ?_
    refine bx_getf (v := .int u2.2.2.2.2.2.2) C 18 0 6 inX6 rfl (by decide) fl_X6_90 dX6_readCoat_15 at_X_0 rfl rfl ?_
    refine bx_pVi C 1 at_X_1 rfl 21 fc_X6_100 (k_X0_isFree l E (fun k => a (1 + k)) _ _ _ hv) dX6_readCoat_18 ⟨rfl, rfl, Nat.le_of_ble_eq_true rfl, Nat.le_of_ble_eq_true rfl⟩ [1, 2, 3, 4, 5, 6, 7, 8, 9, 10, 11, 12, 13] ps_X_H_1 (by decide) rfl rfl (Nat.le_of_ble_eq_true rfl) rfl (fun r3 hv => ?_)
    refine bx_if_ne C 26 24 dX6_readCoat_21 (by decide) rfl (fun h => ?_) (fun h => ?_)
    · replace hv := hv.1 h
      refine bx_aload_n C 27 dX6_readCoat_26 rfl rfl rfl ?_
      refine bx_getf (v := .ref (a 1)) C 30 0 0 inX6 rfl (by decide) fl_X6_12 dX6_readCoat_27 at_X_0 rfl rfl ?_
      refine bx_dup C 31 dX6_readCoat_30 rfl rfl ?_
      refine bx_getf (v := .int u2.1.2.2.2.2.2.1) C 34 1 5 inX0 rfl (by decide) fl_X6_104 dX6_readCoat_31 at_X_1 rfl rfl ?_
      refine bx_iconst C 1 35 dX6_readCoat_34 ic_1 rfl ?_
      refine bx_aload_n C 36 dX6_readCoat_35 rfl rfl rfl ?_
      refine bx_getf (v := .int u2.2.2.2.2.2.2) C 39 0 6 inX6 rfl (by decide) fl_X6_90 dX6_readCoat_36 at_X_0 rfl rfl ?_
      refine bx_ishl C 40 dX6_readCoat_39 rfl ?_
      refine bx_ior C 41 dX6_readCoat_40 rfl ?_
      refine bx_putf C 44 1 5 (w_X E a ((u2.1.1, u2.1.2.1, u2.1.2.2.1, u2.1.2.2.2.1, u2.1.2.2.2.2.1, (u2.1.2.2.2.2.2.1 ||| (1 <<< (u2.2.2.2.2.2.2 &&& 31))), u2.1.2.2.2.2.2.2), u2.2)) inX0 tyX0 tyX0_ok nmX0 rfl (by decide) fl_X6_104 rfl dX6_readCoat_41 rfl rfl rfl (Nat.le_of_ble_eq_true rfl) rfl rfl ?_
      refine bx_iconst C 1 45 dX6_readCoat_44 ic_1 rfl ?_
      exact bx_zret C ((u2.1.1, u2.1.2.1, u2.1.2.2.1, u2.1.2.2.2.1, u2.1.2.2.2.2.1, (u2.1.2.2.2.2.2.1 ||| (1 <<< (u2.2.2.2.2.2.2 &&& 31))), u2.1.2.2.2.2.2.2), u2.2) rfl dX6_readCoat_45 rfl (Or.inr rfl) hv
    · replace hv := hv.2 h
      refine bx_iconst C 0 25 dX6_readCoat_24 ic_0 rfl ?_
      exact bx_zret C u2 rfl dX6_readCoat_25 rfl (Or.inl rfl) hv
theorem k_X6_readCoat (l : Launch) (E : bx_E) (a : Nat → Nat)  (K : Int32 → XS → Prop) (u : XS)  (hv : V_X6_readCoat  K u ) : bx_Mi l E yX6_readCoat cX6_readCoat 1 (some .boolean) (rmD 4) [.ref (a 0)] (fun (u : XS) => w_X E a u) u K :=
  bx_meti (by decide +kernel) (Nat.le_of_ble_eq_true rfl) (fun p e S m below meth c C => t_X6_readCoat_0 C u  hv)
abbrev G_X6_readSit (p : Program) (l : Launch) (e : Env) (S : State) (m : MethodId) (args : Array Value) (below : List Frame) (meth : Method) (c : Code) (E : bx_E) (A : Nat → Prop) (a : Nat → Nat)  (K : Int32 → XS → Prop) (pc : Nat) (lv : List (Nat × Value)) (st : List Value) (ws : va_W) : Prop := bx_S p l e (rmD 4) S m args below meth c 2 E A (MQ below (va_Qi K (fun (u : XS) t => bx_B E A (w_X E a u) t) A) args S 0 0 A) 0 0 pc lv st ws
def V_X6_readSit  (K : Int32 → XS → Prop)  (u : XS)  : Prop := (V_X6_readNumber (fun r1 u2 => ((r1 = 0 → K 0 u2) ∧
 (¬ r1 = 0 → (V_X0_sits (fun r3 => ((r3 = 0 → (V_X6_readNumber (fun r4 u5 => ((r4 = 0 → K 0 u5) ∧
 (¬ r4 = 0 → (V_X0_isFree (fun r6 => ((¬ r6 = 0 → (V_X0_showIn (fun r7 u8 => K 1 (u8, u5.2)) u5.1 u2.2.2.2.2.2.2 u5.2.2.2.2.2.2)) ∧
 (r6 = 0 → K 0 u5))) u5.1 u5.2.2.2.2.2.2)))) u2 0 29)) ∧
 (¬ r3 = 0 → K 0 u2))) u2.1 u2.2.2.2.2.2.2)))) u 0 (u.1.2.2.2.2.1 - 1))
set_option maxRecDepth 20000 in
set_option maxHeartbeats 4000000 in
theorem t_X6_readSit_0 {a : Nat → Nat} {K : Int32 → XS → Prop} (C : bx_C p (rmD 4) S m args meth c cX6_readSit 2 yX6_readSit.cls (some .boolean) E A 0 0)   (u : XS)  (hv : V_X6_readSit K u ) : G_X6_readSit p l e S m args below meth c E A a  K 0 [(0, .ref (a 0))] [] (w_X E a u) := by
  unfold V_X6_readSit at hv
  refine bx_aload_n C 1 dX6_readSit_0 rfl rfl rfl ?_
  refine bx_iconst C 0 2 dX6_readSit_1 ic_0 rfl ?_
  refine bx_aload_n C 3 dX6_readSit_2 rfl rfl rfl ?_
  refine bx_getf (v := .ref (a 1)) C 6 0 0 inX6 rfl (by decide) fl_X6_12 dX6_readSit_3 at_X_0 rfl rfl ?_
  refine bx_getf (v := .int u.1.2.2.2.2.1) C 9 1 4 inX0 rfl (by decide) fl_X6_93 dX6_readSit_6 at_X_1 rfl rfl ?_
  refine bx_iconst C 1 10 dX6_readSit_9 ic_1 rfl ?_
  refine bx_isub C 11 dX6_readSit_10 rfl ?_
  refine bx_qVi C 0 at_X_0 rfl 14 fc_X6_82 (k_X6_readNumber l E a _ _ _ _ hv) dX6_readSit_11 ⟨rfl, rfl, Nat.le_of_ble_eq_true rfl, Nat.le_of_ble_eq_true rfl⟩ [0, 1, 2, 3, 4, 5, 6, 7, 8, 9, 10, 11, 12, 13, 14] (fun u2 => w_X E a u2) ps_X_X_0 (by decide) ad_X pu_X_X_0 rfl rfl (Nat.le_of_ble_eq_true rfl) rfl (fun r1 u2 hv => ?_)
  refine bx_if_eq C 31 17 dX6_readSit_14 (by decide) rfl (fun h => ?_) (fun h => ?_)
  · replace hv := hv.1 h
    refine bx_iconst C 0 32 dX6_readSit_31 ic_0 rfl ?_
    exact bx_zret C u2 rfl dX6_readSit_32 rfl (Or.inl rfl) hv
  · replace hv := hv.2 h
    refine bx_aload_n C 18 dX6_readSit_17 rfl rfl rfl ?_
    refine bx_getf (v := .ref (a 1)) C 21 0 0 inX6 rfl (by decide) fl_X6_12 dX6_readSit_18 at_X_0 rfl rfl ?_
    refine bx_aload_n C 22 dX6_readSit_21 rfl rfl rfl ?_
    refine bx_getf (v := .int u2.2.2.2.2.2.2) C 25 0 6 inX6 rfl (by decide) fl_X6_90 dX6_readSit_22 at_X_0 rfl rfl ?_
    refine bx_pVi C 1 at_X_1 rfl 28 fc_X6_107 (k_X0_sits l E (fun k => a (1 + k)) _ _ _ hv) dX6_readSit_25 ⟨rfl, rfl, Nat.le_of_ble_eq_true rfl, Nat.le_of_ble_eq_true rfl⟩ [1, 2, 3, 4, 5, 6, 7, 8, 9, 10, 11, 12, 13] ps_X_H_1 (by decide) rfl rfl (Nat.le_of_ble_eq_true rfl) rfl (fun r3 hv => ?_)
    refine bx_if_eq C 33 31 dX6_readSit_28 (by decide) rfl (fun h => ?_) (fun h => ?_)
    · replace hv := hv.1 h
      refine bx_aload_n C 34 dX6_readSit_33 rfl rfl rfl ?_
      refine bx_getf (v := .int u2.2.2.2.2.2.2) C 37 0 6 inX6 rfl (by decide) fl_X6_90 dX6_readSit_34 at_X_0 rfl rfl ?_
      refine bx_istore_n C 38 dX6_readSit_37 rfl (by decide) rfl ?_
      refine bx_aload_n C 39 dX6_readSit_38 rfl rfl rfl ?_
      refine bx_iconst C 0 40 dX6_readSit_39 ic_0 rfl ?_
      refine bx_bipush C 29 42 dX6_readSit_40 bp_29 rfl ?_
      refine bx_qVi C 0 at_X_0 rfl 45 fc_X6_82 (k_X6_readNumber l E a _ _ _ _ hv) dX6_readSit_42 ⟨rfl, rfl, Nat.le_of_ble_eq_true rfl, Nat.le_of_ble_eq_true rfl⟩ [0, 1, 2, 3, 4, 5, 6, 7, 8, 9, 10, 11, 12, 13, 14] (fun u5 => w_X E a u5) ps_X_X_0 (by decide) ad_X pu_X_X_0 rfl rfl (Nat.le_of_ble_eq_true rfl) rfl (fun r4 u5 hv => ?_)
      refine bx_if_eq C 62 48 dX6_readSit_45 (by decide) rfl (fun h => ?_) (fun h => ?_)
      · replace hv := hv.1 h
        refine bx_iconst C 0 63 dX6_readSit_62 ic_0 rfl ?_
        exact bx_zret C u5 rfl dX6_readSit_63 rfl (Or.inl rfl) hv
      · replace hv := hv.2 h
        refine bx_aload_n C 49 dX6_readSit_48 rfl rfl rfl ?_
        refine bx_getf (v := .ref (a 1)) C 52 0 0 inX6 rfl (by decide) fl_X6_12 dX6_readSit_49 at_X_0 rfl rfl ?_
        refine bx_aload_n C 53 dX6_readSit_52 rfl rfl rfl ?_
        refine bx_getf (v := .int u5.2.2.2.2.2.2) C 56 0 6 inX6 rfl (by decide) fl_X6_90 dX6_readSit_53 at_X_0 rfl rfl ?_
        refine bx_pVi C 1 at_X_1 rfl 59 fc_X6_100 (k_X0_isFree l E (fun k => a (1 + k)) _ _ _ hv) dX6_readSit_56 ⟨rfl, rfl, Nat.le_of_ble_eq_true rfl, Nat.le_of_ble_eq_true rfl⟩ [1, 2, 3, 4, 5, 6, 7, 8, 9, 10, 11, 12, 13] ps_X_H_1 (by decide) rfl rfl (Nat.le_of_ble_eq_true rfl) rfl (fun r6 hv => ?_)
        refine bx_if_ne C 64 62 dX6_readSit_59 (by decide) rfl (fun h => ?_) (fun h => ?_)
        · replace hv := hv.1 h
          refine bx_aload_n C 65 dX6_readSit_64 rfl rfl rfl ?_
          refine bx_getf (v := .ref (a 1)) C 68 0 0 inX6 rfl (by decide) fl_X6_12 dX6_readSit_65 at_X_0 rfl rfl ?_
          refine bx_iload_n C 69 dX6_readSit_68 rfl rfl rfl ?_
          refine bx_aload_n C 70 dX6_readSit_69 rfl rfl rfl ?_
          refine bx_getf (v := .int u5.2.2.2.2.2.2) C 73 0 6 inX6 rfl (by decide) fl_X6_90 dX6_readSit_70 at_X_0 rfl rfl ?_
          refine bx_qVi C 1 at_X_1 rfl 76 fc_X6_110 (k_X0_showIn l E (fun k => a (1 + k)) _ _ _ _ hv) dX6_readSit_73 ⟨rfl, rfl, Nat.le_of_ble_eq_true rfl, Nat.le_of_ble_eq_true rfl⟩ [1, 2, 3, 4, 5, 6, 7, 8, 9, 10, 11, 12, 13] (fun u8 => w_X E a (u8, u5.2)) ps_X_H_1 (by decide) ad_H pu_X_H_1 rfl rfl (Nat.le_of_ble_eq_true rfl) rfl (fun r7 u8 hv => ?_)
          refine bx_pop C 77 dX6_readSit_76 rfl rfl ?_
          refine bx_iconst C 1 78 dX6_readSit_77 ic_1 rfl ?_
          exact bx_zret C (u8, u5.2) rfl dX6_readSit_78 rfl (Or.inr rfl) hv
        · replace hv := hv.2 h
          refine bx_iconst C 0 63 dX6_readSit_62 ic_0 rfl ?_
          exact bx_zret C u5 rfl dX6_readSit_63 rfl (Or.inl rfl) hv
    · replace hv := hv.2 h
      refine bx_iconst C 0 32 dX6_readSit_31 ic_0 rfl ?_
      exact bx_zret C u2 rfl dX6_readSit_32 rfl (Or.inl rfl) hv
theorem k_X6_readSit (l : Launch) (E : bx_E) (a : Nat → Nat)  (K : Int32 → XS → Prop) (u : XS)  (hv : V_X6_readSit  K u ) : bx_Mi l E yX6_readSit cX6_readSit 2 (some .boolean) (rmD 4) [.ref (a 0)] (fun (u : XS) => w_X E a u) u K :=
  bx_meti (by decide +kernel) (Nat.le_of_ble_eq_true rfl) (fun p e S m below meth c C => t_X6_readSit_0 C u  hv)
abbrev G_X6_readOut (p : Program) (l : Launch) (e : Env) (S : State) (m : MethodId) (args : Array Value) (below : List Frame) (meth : Method) (c : Code) (E : bx_E) (A : Nat → Prop) (a : Nat → Nat)  (K : Int32 → XS → Prop) (pc : Nat) (lv : List (Nat × Value)) (st : List Value) (ws : va_W) : Prop := bx_S p l e (rmD 4) S m args below meth c 1 E A (MQ below (va_Qi K (fun (u : XS) t => bx_B E A (w_X E a u) t) A) args S 0 0 A) 0 0 pc lv st ws
def V_X6_readOut  (K : Int32 → XS → Prop)  (u : XS)  : Prop := (V_X6_readNumber (fun r1 u2 => ((r1 = 0 → K 0 u2) ∧
 (¬ r1 = 0 → (V_X0_sits (fun r3 => ((¬ r3 = 0 → (V_X0_sendOut (fun r4 u5 => K 1 (u5, u2.2)) u2.1 u2.2.2.2.2.2.2)) ∧
 (r3 = 0 → K 0 u2))) u2.1 u2.2.2.2.2.2.2)))) u 0 (u.1.2.2.2.2.1 - 1))
set_option maxRecDepth 20000 in
set_option maxHeartbeats 4000000 in
theorem t_X6_readOut_0 {a : Nat → Nat} {K : Int32 → XS → Prop} (C : bx_C p (rmD 4) S m args meth c cX6_readOut 1 yX6_readOut.cls (some .boolean) E A 0 0)   (u : XS)  (hv : V_X6_readOut K u ) : G_X6_readOut p l e S m args below meth c E A a  K 0 [(0, .ref (a 0))] [] (w_X E a u) := by
  unfold V_X6_readOut at hv
  refine bx_aload_n C 1 dX6_readOut_0 rfl rfl rfl ?_
  refine bx_iconst C 0 2 dX6_readOut_1 ic_0 rfl ?_
  refine bx_aload_n C 3 dX6_readOut_2 rfl rfl rfl ?_
  refine bx_getf (v := .ref (a 1)) C 6 0 0 inX6 rfl (by decide) fl_X6_12 dX6_readOut_3 at_X_0 rfl rfl ?_
  refine bx_getf (v := .int u.1.2.2.2.2.1) C 9 1 4 inX0 rfl (by decide) fl_X6_93 dX6_readOut_6 at_X_1 rfl rfl ?_
  refine bx_iconst C 1 10 dX6_readOut_9 ic_1 rfl ?_
  refine bx_isub C 11 dX6_readOut_10 rfl ?_
  refine bx_qVi C 0 at_X_0 rfl 14 fc_X6_82 (k_X6_readNumber l E a _ _ _ _ hv) dX6_readOut_11 ⟨rfl, rfl, Nat.le_of_ble_eq_true rfl, Nat.le_of_ble_eq_true rfl⟩ [0, 1, 2, 3, 4, 5, 6, 7, 8, 9, 10, 11, 12, 13, 14] (fun u2 => w_X E a u2) ps_X_X_0 (by decide) ad_X pu_X_X_0 rfl rfl (Nat.le_of_ble_eq_true rfl) rfl (fun r1 u2 hv => ?_)
  refine bx_if_eq C 31 17 dX6_readOut_14 (by decide) rfl (fun h => ?_) (fun h => ?_)
  · replace hv := hv.1 h
    refine bx_iconst C 0 32 dX6_readOut_31 ic_0 rfl ?_
    exact bx_zret C u2 rfl dX6_readOut_32 rfl (Or.inl rfl) hv
  · replace hv := hv.2 h
    refine bx_aload_n C 18 dX6_readOut_17 rfl rfl rfl ?_
    refine bx_getf (v := .ref (a 1)) C 21 0 0 inX6 rfl (by decide) fl_X6_12 dX6_readOut_18 at_X_0 rfl rfl ?_
    refine bx_aload_n C 22 dX6_readOut_21 rfl rfl rfl ?_
    refine bx_getf (v := .int u2.2.2.2.2.2.2) C 25 0 6 inX6 rfl (by decide) fl_X6_90 dX6_readOut_22 at_X_0 rfl rfl ?_
    refine bx_pVi C 1 at_X_1 rfl 28 fc_X6_107 (k_X0_sits l E (fun k => a (1 + k)) _ _ _ hv) dX6_readOut_25 ⟨rfl, rfl, Nat.le_of_ble_eq_true rfl, Nat.le_of_ble_eq_true rfl⟩ [1, 2, 3, 4, 5, 6, 7, 8, 9, 10, 11, 12, 13] ps_X_H_1 (by decide) rfl rfl (Nat.le_of_ble_eq_true rfl) rfl (fun r3 hv => ?_)
    refine bx_if_ne C 33 31 dX6_readOut_28 (by decide) rfl (fun h => ?_) (fun h => ?_)
    · replace hv := hv.1 h
      refine bx_aload_n C 34 dX6_readOut_33 rfl rfl rfl ?_
      refine bx_getf (v := .ref (a 1)) C 37 0 0 inX6 rfl (by decide) fl_X6_12 dX6_readOut_34 at_X_0 rfl rfl ?_
      refine bx_aload_n C 38 dX6_readOut_37 rfl rfl rfl ?_
      refine bx_getf (v := .int u2.2.2.2.2.2.2) C 41 0 6 inX6 rfl (by decide) fl_X6_90 dX6_readOut_38 at_X_0 rfl rfl ?_
      refine bx_qVi C 1 at_X_1 rfl 44 fc_X6_113 (k_X0_sendOut l E (fun k => a (1 + k)) _ _ _ hv) dX6_readOut_41 ⟨rfl, rfl, Nat.le_of_ble_eq_true rfl, Nat.le_of_ble_eq_true rfl⟩ [1, 2, 3, 4, 5, 6, 7, 8, 9, 10, 11, 12, 13] (fun u5 => w_X E a (u5, u2.2)) ps_X_H_1 (by decide) ad_H pu_X_H_1 rfl rfl (Nat.le_of_ble_eq_true rfl) rfl (fun r4 u5 hv => ?_)
      refine bx_pop C 45 dX6_readOut_44 rfl rfl ?_
      refine bx_iconst C 1 46 dX6_readOut_45 ic_1 rfl ?_
      exact bx_zret C (u5, u2.2) rfl dX6_readOut_46 rfl (Or.inr rfl) hv
    · replace hv := hv.2 h
      refine bx_iconst C 0 32 dX6_readOut_31 ic_0 rfl ?_
      exact bx_zret C u2 rfl dX6_readOut_32 rfl (Or.inl rfl) hv
theorem k_X6_readOut (l : Launch) (E : bx_E) (a : Nat → Nat)  (K : Int32 → XS → Prop) (u : XS)  (hv : V_X6_readOut  K u ) : bx_Mi l E yX6_readOut cX6_readOut 1 (some .boolean) (rmD 4) [.ref (a 0)] (fun (u : XS) => w_X E a u) u K :=
  bx_meti (by decide +kernel) (Nat.le_of_ble_eq_true rfl) (fun p e S m below meth c C => t_X6_readOut_0 C u  hv)
abbrev G_X6_readMinutes (p : Program) (l : Launch) (e : Env) (S : State) (m : MethodId) (args : Array Value) (below : List Frame) (meth : Method) (c : Code) (E : bx_E) (A : Nat → Prop) (a : Nat → Nat)  (K : Int32 → XS → Prop) (pc : Nat) (lv : List (Nat × Value)) (st : List Value) (ws : va_W) : Prop := bx_S p l e (rmD 4) S m args below meth c 1 E A (MQ below (va_Qi K (fun (u : XS) t => bx_B E A (w_X E a u) t) A) args S 0 0 A) 0 0 pc lv st ws
def V_X6_readMinutes  (K : Int32 → XS → Prop)  (u : XS)  : Prop := (V_X6_readNumber (fun r1 u2 => ((¬ r1 = 0 → K 1 ((u2.1.1, u2.1.2.1, u2.1.2.2.1, u2.1.2.2.2.1, u2.1.2.2.2.2.1, u2.1.2.2.2.2.2.1, (if (u2.1.2.2.2.2.2.2.1 + u2.2.2.2.2.2.2) < 9999 then (u2.1.2.2.2.2.2.2.1 + u2.2.2.2.2.2.2) else 9999), u2.1.2.2.2.2.2.2.2), u2.2)) ∧
 (r1 = 0 → K 0 u2))) u 1 99)
set_option maxRecDepth 20000 in
set_option maxHeartbeats 4000000 in
theorem t_X6_readMinutes_0 {a : Nat → Nat} {K : Int32 → XS → Prop} (C : bx_C p (rmD 4) S m args meth c cX6_readMinutes 1 yX6_readMinutes.cls (some .boolean) E A 0 0)   (u : XS)  (hv : V_X6_readMinutes K u ) : G_X6_readMinutes p l e S m args below meth c E A a  K 0 [(0, .ref (a 0))] [] (w_X E a u) := by
  unfold V_X6_readMinutes at hv
  refine bx_aload_n C 1 dX6_readMinutes_0 rfl rfl rfl ?_
  refine bx_iconst C 1 2 dX6_readMinutes_1 ic_1 rfl ?_
  refine bx_bipush C 99 4 dX6_readMinutes_2 bp_99 rfl ?_
  refine bx_qVi C 0 at_X_0 rfl 7 fc_X6_82 (k_X6_readNumber l E a _ _ _ _ hv) dX6_readMinutes_4 ⟨rfl, rfl, Nat.le_of_ble_eq_true rfl, Nat.le_of_ble_eq_true rfl⟩ [0, 1, 2, 3, 4, 5, 6, 7, 8, 9, 10, 11, 12, 13, 14] (fun u2 => w_X E a u2) ps_X_X_0 (by decide) ad_X pu_X_X_0 rfl rfl (Nat.le_of_ble_eq_true rfl) rfl (fun r1 u2 hv => ?_)
  refine bx_if_ne C 12 10 dX6_readMinutes_7 (by decide) rfl (fun h => ?_) (fun h => ?_)
  · replace hv := hv.1 h
    refine bx_aload_n C 13 dX6_readMinutes_12 rfl rfl rfl ?_
    refine bx_getf (v := .ref (a 1)) C 16 0 0 inX6 rfl (by decide) fl_X6_12 dX6_readMinutes_13 at_X_0 rfl rfl ?_
    refine bx_sipush C 9999 19 dX6_readMinutes_16 sp_9999 rfl ?_
    refine bx_aload_n C 20 dX6_readMinutes_19 rfl rfl rfl ?_
    refine bx_getf (v := .ref (a 1)) C 23 0 0 inX6 rfl (by decide) fl_X6_12 dX6_readMinutes_20 at_X_0 rfl rfl ?_
    refine bx_getf (v := .int u2.1.2.2.2.2.2.2.1) C 26 1 6 inX0 rfl (by decide) fl_X6_117 dX6_readMinutes_23 at_X_1 rfl rfl ?_
    refine bx_aload_n C 27 dX6_readMinutes_26 rfl rfl rfl ?_
    refine bx_getf (v := .int u2.2.2.2.2.2.2) C 30 0 6 inX6 rfl (by decide) fl_X6_90 dX6_readMinutes_27 at_X_0 rfl rfl ?_
    refine bx_iadd C 31 dX6_readMinutes_30 rfl ?_
    refine bx_mmin C 34 fm_X6_120 dX6_readMinutes_31 ⟨Nat.le_of_ble_eq_true rfl, Nat.le_of_ble_eq_true rfl⟩ (Nat.le_of_ble_eq_true rfl) rfl ?_
    refine bx_putf C 37 1 6 (w_X E a ((u2.1.1, u2.1.2.1, u2.1.2.2.1, u2.1.2.2.2.1, u2.1.2.2.2.2.1, u2.1.2.2.2.2.2.1, (if (u2.1.2.2.2.2.2.2.1 + u2.2.2.2.2.2.2) < 9999 then (u2.1.2.2.2.2.2.2.1 + u2.2.2.2.2.2.2) else 9999), u2.1.2.2.2.2.2.2.2), u2.2)) inX0 tyX0 tyX0_ok nmX0 rfl (by decide) fl_X6_117 rfl dX6_readMinutes_34 rfl rfl rfl (Nat.le_of_ble_eq_true rfl) rfl rfl ?_
    refine bx_iconst C 1 38 dX6_readMinutes_37 ic_1 rfl ?_
    exact bx_zret C ((u2.1.1, u2.1.2.1, u2.1.2.2.1, u2.1.2.2.2.1, u2.1.2.2.2.2.1, u2.1.2.2.2.2.2.1, (if (u2.1.2.2.2.2.2.2.1 + u2.2.2.2.2.2.2) < 9999 then (u2.1.2.2.2.2.2.2.1 + u2.2.2.2.2.2.2) else 9999), u2.1.2.2.2.2.2.2.2), u2.2) rfl dX6_readMinutes_38 rfl (Or.inr rfl) hv
  · replace hv := hv.2 h
    refine bx_iconst C 0 11 dX6_readMinutes_10 ic_0 rfl ?_
    exact bx_zret C u2 rfl dX6_readMinutes_11 rfl (Or.inl rfl) hv
theorem k_X6_readMinutes (l : Launch) (E : bx_E) (a : Nat → Nat)  (K : Int32 → XS → Prop) (u : XS)  (hv : V_X6_readMinutes  K u ) : bx_Mi l E yX6_readMinutes cX6_readMinutes 1 (some .boolean) (rmD 4) [.ref (a 0)] (fun (u : XS) => w_X E a u) u K :=
  bx_meti (by decide +kernel) (Nat.le_of_ble_eq_true rfl) (fun p e S m below meth c C => t_X6_readMinutes_0 C u  hv)
abbrev G_X6_readStop (p : Program) (l : Launch) (e : Env) (S : State) (m : MethodId) (args : Array Value) (below : List Frame) (meth : Method) (c : Code) (E : bx_E) (A : Nat → Prop) (a : Nat → Nat)  (K : Int32 → XS → Prop) (pc : Nat) (lv : List (Nat × Value)) (st : List Value) (ws : va_W) : Prop := bx_S p l e (rmD 3) S m args below meth c 1 E A (MQ below (va_Qi K (fun (u : XS) t => bx_B E A (w_X E a u) t) A) args S 0 0 A) 0 0 pc lv st ws
def V_X6_readStop  (K : Int32 → XS → Prop)  (u : XS)  : Prop := (V_X6_advance (fun u1 => ((¬ u1.2.2.2.1 = 3 → K 0 u1) ∧
 (u1.2.2.2.1 = 3 → K 1 u1))) u )
set_option maxRecDepth 20000 in
set_option maxHeartbeats 4000000 in
theorem t_X6_readStop_0 {a : Nat → Nat} {K : Int32 → XS → Prop} (C : bx_C p (rmD 3) S m args meth c cX6_readStop 1 yX6_readStop.cls (some .boolean) E A 0 0)   (u : XS)  (hv : V_X6_readStop K u ) : G_X6_readStop p l e S m args below meth c E A a  K 0 [(0, .ref (a 0))] [] (w_X E a u) := by
  unfold V_X6_readStop at hv
  refine bx_aload_n C 1 dX6_readStop_0 rfl rfl rfl ?_
  refine bx_qVv C 0 at_X_0 rfl 4 fc_X6_32 (k_X6_advance l E a _ _ hv) dX6_readStop_1 ⟨rfl, rfl, Nat.le_of_ble_eq_true rfl, Nat.le_of_ble_eq_true rfl⟩ [0, 1, 2, 3, 4, 5, 6, 7, 8, 9, 10, 11, 12, 13, 14] (fun u1 => w_X E a u1) ps_X_X_0 (by decide) ad_X pu_X_X_0 rfl rfl (Nat.le_of_ble_eq_true rfl) rfl (fun u1 hv => ?_)
  refine bx_aload_n C 5 dX6_readStop_4 rfl rfl rfl ?_
  refine bx_getf (v := .int u1.2.2.2.1) C 8 0 3 inX6 rfl (by decide) fl_X6_35 dX6_readStop_5 at_X_0 rfl rfl ?_
  refine bx_iconst C 3 9 dX6_readStop_8 ic_3 rfl ?_
  refine bx_icmp_ne C 16 12 dX6_readStop_9 (by decide) rfl (fun h => ?_) (fun h => ?_)
  · replace hv := hv.1 h
    refine bx_iconst C 0 17 dX6_readStop_16 ic_0 rfl ?_
    exact bx_zret C u1 rfl dX6_readStop_17 rfl (Or.inl rfl) hv
  · replace hv := hv.2 h
    refine bx_iconst C 1 13 dX6_readStop_12 ic_1 rfl ?_
    refine bx_goto C 17 dX6_readStop_13 (by decide) ?_
    exact bx_zret C u1 rfl dX6_readStop_17 rfl (Or.inr rfl) hv
theorem k_X6_readStop (l : Launch) (E : bx_E) (a : Nat → Nat)  (K : Int32 → XS → Prop) (u : XS)  (hv : V_X6_readStop  K u ) : bx_Mi l E yX6_readStop cX6_readStop 1 (some .boolean) (rmD 3) [.ref (a 0)] (fun (u : XS) => w_X E a u) u K :=
  bx_meti (by decide +kernel) (Nat.le_of_ble_eq_true rfl) (fun p e S m below meth c C => t_X6_readStop_0 C u  hv)
end
