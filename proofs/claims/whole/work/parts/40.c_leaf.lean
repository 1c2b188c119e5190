section
variable {p : Program} {l : Launch} {e : Env} {S : State} {m : MethodId} {args : Array Value} {below : List Frame} {meth : Method} {c : Code} {E : bx_E} {A : Nat → Prop}
abbrev G_J6_bitCount_0f7a4 (p : Program) (l : Launch) (e : Env) (S : State) (m : MethodId) (args : Array Value) (below : List Frame) (meth : Method) (c : Code) (E : bx_E) (A : Nat → Prop)   (K : Int32 → Prop) (pc : Nat) (lv : List (Nat × Value)) (st : List Value) (ws : va_W) : Prop := bx_S p l e (rmD 0) S m args below meth c 1 E A (MQ below (va_Qi (fun r (_ : Unit) => K r) (fun (_ : Unit) t => bx_B E A (([] : va_W)) t) A) args S 0 0 A) 0 0 pc lv st ws
def V_J6_bitCount_0f7a4  (K : Int32 → Prop)   (x0 : Int32) : Prop := K ((((((((x0 - (((x0).toUInt32 >>> ((1).toUInt32 &&& Int32.toUInt32 31)).toInt32 &&& 1431655765)) &&& 858993459) + ((((x0 - (((x0).toUInt32 >>> ((1).toUInt32 &&& Int32.toUInt32 31)).toInt32 &&& 1431655765))).toUInt32 >>> ((2).toUInt32 &&& Int32.toUInt32 31)).toInt32 &&& 858993459)) + (((((x0 - (((x0).toUInt32 >>> ((1).toUInt32 &&& Int32.toUInt32 31)).toInt32 &&& 1431655765)) &&& 858993459) + ((((x0 - (((x0).toUInt32 >>> ((1).toUInt32 &&& Int32.toUInt32 31)).toInt32 &&& 1431655765))).toUInt32 >>> ((2).toUInt32 &&& Int32.toUInt32 31)).toInt32 &&& 858993459))).toUInt32 >>> ((4).toUInt32 &&& Int32.toUInt32 31)).toInt32) &&& 252645135) + (((((((x0 - (((x0).toUInt32 >>> ((1).toUInt32 &&& Int32.toUInt32 31)).toInt32 &&& 1431655765)) &&& 858993459) + ((((x0 - (((x0).toUInt32 >>> ((1).toUInt32 &&& Int32.toUInt32 31)).toInt32 &&& 1431655765))).toUInt32 >>> ((2).toUInt32 &&& Int32.toUInt32 31)).toInt32 &&& 858993459)) + (((((x0 - (((x0).toUInt32 >>> ((1).toUInt32 &&& Int32.toUInt32 31)).toInt32 &&& 1431655765)) &&& 858993459) + ((((x0 - (((x0).toUInt32 >>> ((1).toUInt32 &&& Int32.toUInt32 31)).toInt32 &&& 1431655765))).toUInt32 >>> ((2).toUInt32 &&& Int32.toUInt32 31)).toInt32 &&& 858993459))).toUInt32 >>> ((4).toUInt32 &&& Int32.toUInt32 31)).toInt32) &&& 252645135)).toUInt32 >>> ((8).toUInt32 &&& Int32.toUInt32 31)).toInt32) + ((((((((x0 - (((x0).toUInt32 >>> ((1).toUInt32 &&& Int32.toUInt32 31)).toInt32 &&& 1431655765)) &&& 858993459) + ((((x0 - (((x0).toUInt32 >>> ((1).toUInt32 &&& Int32.toUInt32 31)).toInt32 &&& 1431655765))).toUInt32 >>> ((2).toUInt32 &&& Int32.toUInt32 31)).toInt32 &&& 858993459)) + (((((x0 - (((x0).toUInt32 >>> ((1).toUInt32 &&& Int32.toUInt32 31)).toInt32 &&& 1431655765)) &&& 858993459) + ((((x0 - (((x0).toUInt32 >>> ((1).toUInt32 &&& Int32.toUInt32 31)).toInt32 &&& 1431655765))).toUInt32 >>> ((2).toUInt32 &&& Int32.toUInt32 31)).toInt32 &&& 858993459))).toUInt32 >>> ((4).toUInt32 &&& Int32.toUInt32 31)).toInt32) &&& 252645135) + (((((((x0 - (((x0).toUInt32 >>> ((1).toUInt32 &&& Int32.toUInt32 31)).toInt32 &&& 1431655765)) &&& 858993459) + ((((x0 - (((x0).toUInt32 >>> ((1).toUInt32 &&& Int32.toUInt32 31)).toInt32 &&& 1431655765))).toUInt32 >>> ((2).toUInt32 &&& Int32.toUInt32 31)).toInt32 &&& 858993459)) + (((((x0 - (((x0).toUInt32 >>> ((1).toUInt32 &&& Int32.toUInt32 31)).toInt32 &&& 1431655765)) &&& 858993459) + ((((x0 - (((x0).toUInt32 >>> ((1).toUInt32 &&& Int32.toUInt32 31)).toInt32 &&& 1431655765))).toUInt32 >>> ((2).toUInt32 &&& Int32.toUInt32 31)).toInt32 &&& 858993459))).toUInt32 >>> ((4).toUInt32 &&& Int32.toUInt32 31)).toInt32) &&& 252645135)).toUInt32 >>> ((8).toUInt32 &&& Int32.toUInt32 31)).toInt32)).toUInt32 >>> ((16).toUInt32 &&& Int32.toUInt32 31)).toInt32) &&& 63)
set_option maxRecDepth 20000 in
set_option maxHeartbeats 4000000 in
theorem t_J6_bitCount_0f7a4_0 {K : Int32 → Prop} (C : bx_C p (rmD 0) S m args meth c cJ6_bitCount_0f7a4 1 yJ6_bitCount_0f7a4.cls (some .int) E A 0 0)    (x0 : Int32) (hv : V_J6_bitCount_0f7a4 K  x0) : G_J6_bitCount_0f7a4 p l e S m args below meth c E A   K 0 [(0, .int x0)] [] (([] : va_W)) := by
  unfold V_J6_bitCount_0f7a4 at hv
  refine bx_iload_n C 1 dJ6_bitCount_0f7a4_0 rfl rfl rfl ?_
  refine bx_iload_n C 2 dJ6_bitCount_0f7a4_1 rfl rfl rfl ?_
  refine bx_iconst C 1 3 dJ6_bitCount_0f7a4_2 ic_1 rfl ?_
  refine bx_iushr C 4 dJ6_bitCount_0f7a4_3 rfl ?_
  refine bx_ldcw C 7 cs_J6_265 dJ6_bitCount_0f7a4_4 rfl ?_
  refine bx_iand C 8 dJ6_bitCount_0f7a4_7 rfl ?_
  refine bx_isub C 9 dJ6_bitCount_0f7a4_8 rfl ?_
  refine bx_istore_n C 10 dJ6_bitCount_0f7a4_9 rfl (by decide) rfl ?_
  refine bx_iload_n C 11 dJ6_bitCount_0f7a4_10 rfl rfl rfl ?_
  refine bx_ldcw C 14 cs_J6_266 dJ6_bitCount_0f7a4_11 rfl ?_
  refine bx_iand C 15 dJ6_bitCount_0f7a4_14 rfl ?_
  refine bx_iload_n C 16 dJ6_bitCount_0f7a4_15 rfl rfl rfl ?_
  refine bx_iconst C 2 17 dJ6_bitCount_0f7a4_16 ic_2 rfl ?_
  refine bx_iushr C 18 dJ6_bitCount_0f7a4_17 rfl ?_
  refine bx_ldcw C 21 cs_J6_266 dJ6_bitCount_0f7a4_18 rfl ?_
  refine bx_iand C 22 dJ6_bitCount_0f7a4_21 rfl ?_
  refine bx_iadd C 23 dJ6_bitCount_0f7a4_22 rfl ?_
  refine bx_istore_n C 24 dJ6_bitCount_0f7a4_23 rfl (by decide) rfl ?_
  refine bx_iload_n C 25 dJ6_bitCount_0f7a4_24 rfl rfl rfl ?_
  refine bx_iload_n C 26 dJ6_bitCount_0f7a4_25 rfl rfl rfl ?_
  refine bx_iconst C 4 27 dJ6_bitCount_0f7a4_26 ic_4 rfl ?_
  refine bx_iushr C 28 dJ6_bitCount_0f7a4_27 rfl ?_
  refine bx_iadd C 29 dJ6_bitCount_0f7a4_28 rfl ?_
  refine bx_ldcw C 32 cs_J6_267 dJ6_bitCount_0f7a4_29 rfl ?_
  refine bx_iand C 33 dJ6_bitCount_0f7a4_32 rfl ?_
  refine bx_istore_n C 34 dJ6_bitCount_0f7a4_33 rfl (by decide) rfl ?_
  refine bx_iload_n C 35 dJ6_bitCount_0f7a4_34 rfl rfl rfl ?_
  refine bx_iload_n C 36 dJ6_bitCount_0f7a4_35 rfl rfl rfl ?_
  refine bx_bipush C 8 38 dJ6_bitCount_0f7a4_36 bp_8 rfl ?_
  refine bx_iushr C 39 dJ6_bitCount_0f7a4_38 rfl ?_
  refine bx_iadd C 40 dJ6_bitCount_0f7a4_39 rfl ?_
  refine bx_istore_n C 41 dJ6_bitCount_0f7a4_40 rfl (by decide) rfl ?_
  refine bx_iload_n C 42 dJ6_bitCount_0f7a4_41 rfl rfl rfl ?_
  refine bx_iload_n C 43 dJ6_bitCount_0f7a4_42 rfl rfl rfl ?_
  refine bx_bipush C 16 45 dJ6_bitCount_0f7a4_43 bp_16 rfl ?_
  refine bx_iushr C 46 dJ6_bitCount_0f7a4_45 rfl ?_
  refine bx_iadd C 47 dJ6_bitCount_0f7a4_46 rfl ?_
  refine bx_istore_n C 48 dJ6_bitCount_0f7a4_47 rfl (by decide) rfl ?_
  refine bx_iload_n C 49 dJ6_bitCount_0f7a4_48 rfl rfl rfl ?_
  refine bx_bipush C 63 51 dJ6_bitCount_0f7a4_49 bp_63 rfl ?_
  refine bx_iand C 52 dJ6_bitCount_0f7a4_51 rfl ?_
  exact bx_iret C () rfl dJ6_bitCount_0f7a4_52 rfl hv
theorem k_J6_bitCount_0f7a4 (l : Launch) (E : bx_E)   (K : Int32 → Prop)  (x0 : Int32) (hv : V_J6_bitCount_0f7a4  K  x0) : bx_Mi l E yJ6_bitCount_0f7a4 cJ6_bitCount_0f7a4 1 (some .int) (rmD 0) [.int x0] (fun (_ : Unit) => ([] : va_W)) () (fun r (_ : Unit) => K r) :=
  bx_meti (by decide +kernel) (Nat.le_of_ble_eq_true rfl) (fun p e S m below meth c C => t_J6_bitCount_0f7a4_0 C  x0 hv)
abbrev G_X7_within (p : Program) (l : Launch) (e : Env) (S : State) (m : MethodId) (args : Array Value) (below : List Frame) (meth : Method) (c : Code) (E : bx_E) (A : Nat → Prop)   (K : Int32 → Prop) (pc : Nat) (lv : List (Nat × Value)) (st : List Value) (ws : va_W) : Prop := bx_S p l e (rmD 0) S m args below meth c 2 E A (MQ below (va_Qi (fun r (_ : Unit) => K r) (fun (_ : Unit) t => bx_B E A (([] : va_W)) t) A) args S 0 0 A) 0 0 pc lv st ws
def V_X7_within  (K : Int32 → Prop)   (x0 : Int32) (x1 : Int32) : Prop := ((x0 < 0 → K 0) ∧
 (¬ x0 < 0 → ((x1 ≤ x0 → K 0) ∧
 (¬ x1 ≤ x0 → K 1))))
set_option maxRecDepth 20000 in
set_option maxHeartbeats 4000000 in
theorem t_X7_within_0 {K : Int32 → Prop} (C : bx_C p (rmD 0) S m args meth c cX7_within 2 yX7_within.cls (some .boolean) E A 0 0)    (x0 : Int32) (x1 : Int32) (hv : V_X7_within K  x0 x1) : G_X7_within p l e S m args below meth c E A   K 0 [(0, .int x0), (1, .int x1)] [] (([] : va_W)) := by
  unfold V_X7_within at hv
  refine bx_iload_n C 1 dX7_within_0 rfl rfl rfl ?_
  refine bx_if_lt C 13 4 dX7_within_1 (by decide) rfl (fun h => ?_) (fun h => ?_)
  · replace hv := hv.1 h
    refine bx_iconst C 0 14 dX7_within_13 ic_0 rfl ?_
    exact bx_zret C () rfl dX7_within_14 rfl (Or.inl rfl) hv
  · replace hv := hv.2 h
    refine bx_iload_n C 5 dX7_within_4 rfl rfl rfl ?_
    refine bx_iload_n C 6 dX7_within_5 rfl rfl rfl ?_
    refine bx_icmp_ge C 13 9 dX7_within_6 (by decide) rfl (fun h => ?_) (fun h => ?_)
    · replace hv := hv.1 h
      refine bx_iconst C 0 14 dX7_within_13 ic_0 rfl ?_
      exact bx_zret C () rfl dX7_within_14 rfl (Or.inl rfl) hv
    · replace hv := hv.2 h
      refine bx_iconst C 1 10 dX7_within_9 ic_1 rfl ?_
      refine bx_goto C 14 dX7_within_10 (by decide) ?_
      exact bx_zret C () rfl dX7_within_14 rfl (Or.inr rfl) hv
theorem k_X7_within (l : Launch) (E : bx_E)   (K : Int32 → Prop)  (x0 : Int32) (x1 : Int32) (hv : V_X7_within  K  x0 x1) : bx_Mi l E yX7_within cX7_within 2 (some .boolean) (rmD 0) [.int x0, .int x1] (fun (_ : Unit) => ([] : va_W)) () (fun r (_ : Unit) => K r) :=
  bx_meti (by decide +kernel) (Nat.le_of_ble_eq_true rfl) (fun p e S m below meth c C => t_X7_within_0 C  x0 x1 hv)
abbrev G_X7_has (p : Program) (l : Launch) (e : Env) (S : State) (m : MethodId) (args : Array Value) (below : List Frame) (meth : Method) (c : Code) (E : bx_E) (A : Nat → Prop)   (K : Int32 → Prop) (pc : Nat) (lv : List (Nat × Value)) (st : List Value) (ws : va_W) : Prop := bx_S p l e (rmD 0) S m args below meth c 2 E A (MQ below (va_Qi (fun r (_ : Unit) => K r) (fun (_ : Unit) t => bx_B E A (([] : va_W)) t) A) args S 0 0 A) 0 0 pc lv st ws
def V_X7_has  (K : Int32 → Prop)   (x0 : Int32) (x1 : Int32) : Prop := ((¬ ((x0 >>> (x1 &&& 31)) &&& 1) = 1 → K 0) ∧
 (((x0 >>> (x1 &&& 31)) &&& 1) = 1 → K 1))
set_option maxRecDepth 20000 in
set_option maxHeartbeats 4000000 in
theorem t_X7_has_0 {K : Int32 → Prop} (C : bx_C p (rmD 0) S m args meth c cX7_has 2 yX7_has.cls (some .boolean) E A 0 0)    (x0 : Int32) (x1 : Int32) (hv : V_X7_has K  x0 x1) : G_X7_has p l e S m args below meth c E A   K 0 [(0, .int x0), (1, .int x1)] [] (([] : va_W)) := by
  unfold V_X7_has at hv
  refine bx_iload_n C 1 dX7_has_0 rfl rfl rfl ?_
  refine bx_iload_n C 2 dX7_has_1 rfl rfl rfl ?_
  refine bx_ishr C 3 dX7_has_2 rfl ?_
  refine bx_iconst C 1 4 dX7_has_3 ic_1 rfl ?_
  refine bx_iand C 5 dX7_has_4 rfl ?_
  refine bx_iconst C 1 6 dX7_has_5 ic_1 rfl ?_
  refine bx_icmp_ne C 13 9 dX7_has_6 (by decide) rfl (fun h => ?_) (fun h => ?_)
  · replace hv := hv.1 h
    refine bx_iconst C 0 14 dX7_has_13 ic_0 rfl ?_
    exact bx_zret C () rfl dX7_has_14 rfl (Or.inl rfl) hv
  · replace hv := hv.2 h
    refine bx_iconst C 1 10 dX7_has_9 ic_1 rfl ?_
    refine bx_goto C 14 dX7_has_10 (by decide) ?_
    exact bx_zret C () rfl dX7_has_14 rfl (Or.inr rfl) hv
theorem k_X7_has (l : Launch) (E : bx_E)   (K : Int32 → Prop)  (x0 : Int32) (x1 : Int32) (hv : V_X7_has  K  x0 x1) : bx_Mi l E yX7_has cX7_has 2 (some .boolean) (rmD 0) [.int x0, .int x1] (fun (_ : Unit) => ([] : va_W)) () (fun r (_ : Unit) => K r) :=
  bx_meti (by decide +kernel) (Nat.le_of_ble_eq_true rfl) (fun p e S m below meth c C => t_X7_has_0 C  x0 x1 hv)
abbrev G_X1_sight (p : Program) (l : Launch) (e : Env) (S : State) (m : MethodId) (args : Array Value) (below : List Frame) (meth : Method) (c : Code) (E : bx_E) (A : Nat → Prop)   (K : Int32 → Prop) (pc : Nat) (lv : List (Nat × Value)) (st : List Value) (ws : va_W) : Prop := bx_S p l e (rmD 1) S m args below meth c 5 E A (MQ below (va_Qi (fun r (_ : Unit) => K r) (fun (_ : Unit) t => bx_B E A (([] : va_W)) t) A) args S 0 0 A) 0 0 pc lv st ws
def V_X1_sight_22  (K : Int32 → Prop)   (x0 : Int32) (x1 : Int32) (x2 : Int32) (z0 : Int32) : Prop := ((x0 = 1 → K z0) ∧
 (x0 = 2 → K (x2 + 4)) ∧
 (x0 = 3 → K (x2 / 2)) ∧
 (x0 = 4 → K (if 0 < (z0 - 2) then (z0 - 2) else 0)) ∧
 (x0 = 5 → K (if 0 < ((x2 + 4) - (2 * x1)) then ((x2 + 4) - (2 * x1)) else 0)) ∧
 (¬ x0 = 1 ∧ ¬ x0 = 2 ∧ ¬ x0 = 3 ∧ ¬ x0 = 4 ∧ ¬ x0 = 5 → K x2))
set_option maxRecDepth 20000 in
set_option maxHeartbeats 4000000 in
theorem t_X1_sight_22 {K : Int32 → Prop} (C : bx_C p (rmD 1) S m args meth c cX1_sight 5 yX1_sight.cls (some .int) E A 0 0)    (x0 : Int32) (x1 : Int32) (x2 : Int32) (z0 : Int32) (hv : V_X1_sight_22 K  x0 x1 x2 z0) : G_X1_sight p l e S m args below meth c E A   K 22 [(0, .int x0), (1, .int x1), (2, .int x2)] [.int z0] (([] : va_W)) := by
  unfold V_X1_sight_22 at hv
  refine bx_istore_n C 23 dX1_sight_22 rfl (by decide) rfl ?_
  refine bx_iload_n C 24 dX1_sight_23 rfl rfl rfl ?_
  refine bx_iconst C 4 25 dX1_sight_24 ic_4 rfl ?_
  refine bx_iadd C 26 dX1_sight_25 rfl ?_
  refine bx_istore C 28 dX1_sight_26 (by decide) rfl ?_
  refine bx_iload_n C 29 dX1_sight_28 rfl rfl rfl ?_
  by_cases h0 : x0 = 1
  · replace hv := hv.1 h0
    refine bx_tin C 64 1 dX1_sight_29 h0 (by decide) (by decide) rfl (by decide) ?_
    refine bx_iload_n C 65 dX1_sight_64 rfl rfl rfl ?_
    exact bx_iret C () rfl dX1_sight_65 rfl hv
  by_cases h1 : x0 = 2
  · replace hv := hv.2.1 h1
    refine bx_tin C 66 2 dX1_sight_29 h1 (by decide) (by decide) rfl (by decide) ?_
    refine bx_iload C 68 dX1_sight_66 rfl rfl ?_
    exact bx_iret C () rfl dX1_sight_68 rfl hv
  by_cases h2 : x0 = 3
  · replace hv := hv.2.2.1 h2
    refine bx_tin C 69 3 dX1_sight_29 h2 (by decide) (by decide) rfl (by decide) ?_
    refine bx_iload_n C 70 dX1_sight_69 rfl rfl rfl ?_
    refine bx_iconst C 2 71 dX1_sight_70 ic_2 rfl ?_
    refine bx_idiv C 72 dX1_sight_71 nz32_2 rfl ?_
    exact bx_iret C () rfl dX1_sight_72 rfl hv
  by_cases h3 : x0 = 4
  · replace hv := hv.2.2.2.1 h3
    refine bx_tin C 73 4 dX1_sight_29 h3 (by decide) (by decide) rfl (by decide) ?_
    refine bx_iconst C 0 74 dX1_sight_73 ic_0 rfl ?_
    refine bx_iload_n C 75 dX1_sight_74 rfl rfl rfl ?_
    refine bx_iconst C 2 76 dX1_sight_75 ic_2 rfl ?_
    refine bx_isub C 77 dX1_sight_76 rfl ?_
    refine bx_mmax C 80 fm_X1_13 dX1_sight_77 ⟨Nat.le_of_ble_eq_true rfl, Nat.le_of_ble_eq_true rfl⟩ (Nat.le_of_ble_eq_true rfl) rfl ?_
    exact bx_iret C () rfl dX1_sight_80 rfl hv
  by_cases h4 : x0 = 5
  · replace hv := hv.2.2.2.2.1 h4
    refine bx_tin C 81 5 dX1_sight_29 h4 (by decide) (by decide) rfl (by decide) ?_
    refine bx_iconst C 0 82 dX1_sight_81 ic_0 rfl ?_
    refine bx_iload C 84 dX1_sight_82 rfl rfl ?_
    refine bx_iconst C 2 85 dX1_sight_84 ic_2 rfl ?_
    refine bx_iload_n C 86 dX1_sight_85 rfl rfl rfl ?_
    refine bx_imul C 87 dX1_sight_86 rfl ?_
    refine bx_isub C 88 dX1_sight_87 rfl ?_
    refine bx_mmax C 91 fm_X1_13 dX1_sight_88 ⟨Nat.le_of_ble_eq_true rfl, Nat.le_of_ble_eq_true rfl⟩ (Nat.le_of_ble_eq_true rfl) rfl ?_
    exact bx_iret C () rfl dX1_sight_91 rfl hv
  replace hv := hv.2.2.2.2.2 ⟨h0, h1, h2, h3, h4⟩
  have ho : (x0 : Int32).toInt < 1 ∨ 5 < (x0 : Int32).toInt := by
    have e0 := bx_ne (z := 1) h0 (by decide)
    have e1 := bx_ne (z := 2) h1 (by decide)
    have e2 := bx_ne (z := 3) h2 (by decide)
    have e3 := bx_ne (z := 4) h3 (by decide)
    have e4 := bx_ne (z := 5) h4 (by decide)
    omega
  refine bx_tout C 92 dX1_sight_29 ho (by decide) ?_
  refine bx_iload_n C 93 dX1_sight_92 rfl rfl rfl ?_
  exact bx_iret C () rfl dX1_sight_93 rfl hv
def V_X1_sight  (K : Int32 → Prop)   (x0 : Int32) (x1 : Int32) : Prop := ((¬ x1 = 2 → V_X1_sight_22 K  x0 x1 (9 - (if 0 ≤ ((2 * x1) - 5) then ((2 * x1) - 5) else 0 - ((2 * x1) - 5))) (9 - (if 0 ≤ ((2 * x1) - 5) then ((2 * x1) - 5) else 0 - ((2 * x1) - 5)))) ∧
 (x1 = 2 → V_X1_sight_22 K  x0 x1 (9 - (if 0 ≤ ((2 * x1) - 5) then ((2 * x1) - 5) else 0 - ((2 * x1) - 5))) 0))
set_option maxRecDepth 20000 in
set_option maxHeartbeats 4000000 in
theorem t_X1_sight_0 {K : Int32 → Prop} (C : bx_C p (rmD 1) S m args meth c cX1_sight 5 yX1_sight.cls (some .int) E A 0 0)    (x0 : Int32) (x1 : Int32) (hv : V_X1_sight K  x0 x1) : G_X1_sight p l e S m args below meth c E A   K 0 [(0, .int x0), (1, .int x1)] [] (([] : va_W)) := by
  unfold V_X1_sight at hv
  refine bx_bipush C 9 2 dX1_sight_0 bp_9 rfl ?_
  refine bx_iconst C 2 3 dX1_sight_2 ic_2 rfl ?_
  refine bx_iload_n C 4 dX1_sight_3 rfl rfl rfl ?_
  refine bx_imul C 5 dX1_sight_4 rfl ?_
  refine bx_iconst C 5 6 dX1_sight_5 ic_5 rfl ?_
  refine bx_isub C 7 dX1_sight_6 rfl ?_
  refine bx_mabs C 10 fm_X1_7 dX1_sight_7 ⟨Nat.le_of_ble_eq_true rfl, Nat.le_of_ble_eq_true rfl⟩ (Nat.le_of_ble_eq_true rfl) rfl ?_
  refine bx_isub C 11 dX1_sight_10 rfl ?_
  refine bx_istore_n C 12 dX1_sight_11 rfl (by decide) rfl ?_
  refine bx_iload_n C 13 dX1_sight_12 rfl rfl rfl ?_
  refine bx_iconst C 2 14 dX1_sight_13 ic_2 rfl ?_
  refine bx_icmp_ne C 21 17 dX1_sight_14 (by decide) rfl (fun h => ?_) (fun h => ?_)
  · replace hv := hv.1 h
    refine bx_iload_n C 22 dX1_sight_21 rfl rfl rfl ?_
    exact bx_cut [1, 2, 0] (([] : va_W)) rfl rfl (t_X1_sight_22 C    x0 x1 (9 - (if 0 ≤ ((2 * x1) - 5) then ((2 * x1) - 5) else 0 - ((2 * x1) - 5))) (9 - (if 0 ≤ ((2 * x1) - 5) then ((2 * x1) - 5) else 0 - ((2 * x1) - 5))) hv)
  · replace hv := hv.2 h
    refine bx_iconst C 0 18 dX1_sight_17 ic_0 rfl ?_
    refine bx_goto C 22 dX1_sight_18 (by decide) ?_
    exact bx_cut [1, 2, 0] (([] : va_W)) rfl rfl (t_X1_sight_22 C    x0 x1 (9 - (if 0 ≤ ((2 * x1) - 5) then ((2 * x1) - 5) else 0 - ((2 * x1) - 5))) 0 hv)
theorem k_X1_sight (l : Launch) (E : bx_E)   (K : Int32 → Prop)  (x0 : Int32) (x1 : Int32) (hv : V_X1_sight  K  x0 x1) : bx_Mi l E yX1_sight cX1_sight 5 (some .int) (rmD 1) [.int x0, .int x1] (fun (_ : Unit) => ([] : va_W)) () (fun r (_ : Unit) => K r) :=
  bx_meti (by decide +kernel) (Nat.le_of_ble_eq_true rfl) (fun p e S m below meth c C => t_X1_sight_0 C  x0 x1 hv)
abbrev G_X1_fuss (p : Program) (l : Launch) (e : Env) (S : State) (m : MethodId) (args : Array Value) (below : List Frame) (meth : Method) (c : Code) (E : bx_E) (A : Nat → Prop)   (K : Int32 → Prop) (pc : Nat) (lv : List (Nat × Value)) (st : List Value) (ws : va_W) : Prop := bx_S p l e (rmD 0) S m args below meth c 5 E A (MQ below (va_Qi (fun r (_ : Unit) => K r) (fun (_ : Unit) t => bx_B E A (([] : va_W)) t) A) args S 0 0 A) 0 0 pc lv st ws
def V_X1_fuss_17  (K : Int32 → Prop)   (x0 : Int32) (x1 : Int32) (x3 : Int32) (z0 : Int32) : Prop := ((x0 = 1 → K x3) ∧
 (x0 = 2 → K z0) ∧
 (x0 = 3 → K ((x1 + 1) / 2)) ∧
 (x0 = 4 → K (x3 - 1)) ∧
 (x0 = 5 → ((x1 < 1 → K z0) ∧
 (¬ x1 < 1 → K (z0 + 3)))) ∧
 (¬ x0 = 1 ∧ ¬ x0 = 2 ∧ ¬ x0 = 3 ∧ ¬ x0 = 4 ∧ ¬ x0 = 5 → K x1))
set_option maxRecDepth 20000 in
set_option maxHeartbeats 4000000 in
theorem t_X1_fuss_17 {K : Int32 → Prop} (C : bx_C p (rmD 0) S m args meth c cX1_fuss 5 yX1_fuss.cls (some .int) E A 0 0)    (x0 : Int32) (x1 : Int32) (x3 : Int32) (z0 : Int32) (hv : V_X1_fuss_17 K  x0 x1 x3 z0) : G_X1_fuss p l e S m args below meth c E A   K 17 [(0, .int x0), (1, .int x1), (3, .int x3)] [.int z0] (([] : va_W)) := by
  unfold V_X1_fuss_17 at hv
  refine bx_istore C 19 dX1_fuss_17 (by decide) rfl ?_
  refine bx_iload_n C 20 dX1_fuss_19 rfl rfl rfl ?_
  by_cases h0 : x0 = 1
  · replace hv := hv.1 h0
    refine bx_tin C 56 1 dX1_fuss_20 h0 (by decide) (by decide) rfl (by decide) ?_
    refine bx_iload_n C 57 dX1_fuss_56 rfl rfl rfl ?_
    exact bx_iret C () rfl dX1_fuss_57 rfl hv
  by_cases h1 : x0 = 2
  · replace hv := hv.2.1 h1
    refine bx_tin C 58 2 dX1_fuss_20 h1 (by decide) (by decide) rfl (by decide) ?_
    refine bx_iload C 60 dX1_fuss_58 rfl rfl ?_
    exact bx_iret C () rfl dX1_fuss_60 rfl hv
  by_cases h2 : x0 = 3
  · replace hv := hv.2.2.1 h2
    refine bx_tin C 61 3 dX1_fuss_20 h2 (by decide) (by decide) rfl (by decide) ?_
    refine bx_iload_n C 62 dX1_fuss_61 rfl rfl rfl ?_
    refine bx_iconst C 1 63 dX1_fuss_62 ic_1 rfl ?_
    refine bx_iadd C 64 dX1_fuss_63 rfl ?_
    refine bx_iconst C 2 65 dX1_fuss_64 ic_2 rfl ?_
    refine bx_idiv C 66 dX1_fuss_65 nz32_2 rfl ?_
    exact bx_iret C () rfl dX1_fuss_66 rfl hv
  by_cases h3 : x0 = 4
  · replace hv := hv.2.2.2.1 h3
    refine bx_tin C 67 4 dX1_fuss_20 h3 (by decide) (by decide) rfl (by decide) ?_
    refine bx_iload_n C 68 dX1_fuss_67 rfl rfl rfl ?_
    refine bx_iconst C 1 69 dX1_fuss_68 ic_1 rfl ?_
    refine bx_isub C 70 dX1_fuss_69 rfl ?_
    exact bx_iret C () rfl dX1_fuss_70 rfl hv
  by_cases h4 : x0 = 5
  · replace hv := hv.2.2.2.2.1 h4
    refine bx_tin C 71 5 dX1_fuss_20 h4 (by decide) (by decide) rfl (by decide) ?_
    refine bx_iload_n C 72 dX1_fuss_71 rfl rfl rfl ?_
    refine bx_iconst C 1 73 dX1_fuss_72 ic_1 rfl ?_
    refine bx_icmp_lt C 83 76 dX1_fuss_73 (by decide) rfl (fun h => ?_) (fun h => ?_)
    · replace hv := hv.1 h
      refine bx_iload C 85 dX1_fuss_83 rfl rfl ?_
      exact bx_iret C () rfl dX1_fuss_85 rfl hv
    · replace hv := hv.2 h
      refine bx_iload C 78 dX1_fuss_76 rfl rfl ?_
      refine bx_iconst C 3 79 dX1_fuss_78 ic_3 rfl ?_
      refine bx_iadd C 80 dX1_fuss_79 rfl ?_
      refine bx_goto C 85 dX1_fuss_80 (by decide) ?_
      exact bx_iret C () rfl dX1_fuss_85 rfl hv
  replace hv := hv.2.2.2.2.2 ⟨h0, h1, h2, h3, h4⟩
  have ho : (x0 : Int32).toInt < 1 ∨ 5 < (x0 : Int32).toInt := by
    have e0 := bx_ne (z := 1) h0 (by decide)
    have e1 := bx_ne (z := 2) h1 (by decide)
    have e2 := bx_ne (z := 3) h2 (by decide)
    have e3 := bx_ne (z := 4) h3 (by decide)
    have e4 := bx_ne (z := 5) h4 (by decide)
    omega
  refine bx_tout C 86 dX1_fuss_20 ho (by decide) ?_
  refine bx_iload_n C 87 dX1_fuss_86 rfl rfl rfl ?_
  exact bx_iret C () rfl dX1_fuss_87 rfl hv
def V_X1_fuss  (K : Int32 → Prop)   (x0 : Int32) (x1 : Int32) (x2 : Int32) : Prop := ((x2 < 10 → V_X1_fuss_17 K  x0 x1 (x1 + 2) x1) ∧
 (¬ x2 < 10 → V_X1_fuss_17 K  x0 x1 (x1 + 2) (2 * x1)))
set_option maxRecDepth 20000 in
set_option maxHeartbeats 4000000 in
theorem t_X1_fuss_0 {K : Int32 → Prop} (C : bx_C p (rmD 0) S m args meth c cX1_fuss 5 yX1_fuss.cls (some .int) E A 0 0)    (x0 : Int32) (x1 : Int32) (x2 : Int32) (hv : V_X1_fuss K  x0 x1 x2) : G_X1_fuss p l e S m args below meth c E A   K 0 [(0, .int x0), (1, .int x1), (2, .int x2)] [] (([] : va_W)) := by
  unfold V_X1_fuss at hv
  refine bx_iload_n C 1 dX1_fuss_0 rfl rfl rfl ?_
  refine bx_iconst C 2 2 dX1_fuss_1 ic_2 rfl ?_
  refine bx_iadd C 3 dX1_fuss_2 rfl ?_
  refine bx_istore_n C 4 dX1_fuss_3 rfl (by decide) rfl ?_
  refine bx_iload_n C 5 dX1_fuss_4 rfl rfl rfl ?_
  refine bx_bipush C 10 7 dX1_fuss_5 bp_10 rfl ?_
  refine bx_icmp_lt C 16 10 dX1_fuss_7 (by decide) rfl (fun h => ?_) (fun h => ?_)
  · replace hv := hv.1 h
    refine bx_iload_n C 17 dX1_fuss_16 rfl rfl rfl ?_
    exact bx_cut [1, 2, 0] (([] : va_W)) rfl rfl (t_X1_fuss_17 C    x0 x1 (x1 + 2) x1 hv)
  · replace hv := hv.2 h
    refine bx_iconst C 2 11 dX1_fuss_10 ic_2 rfl ?_
    refine bx_iload_n C 12 dX1_fuss_11 rfl rfl rfl ?_
    refine bx_imul C 13 dX1_fuss_12 rfl ?_
    refine bx_goto C 17 dX1_fuss_13 (by decide) ?_
    exact bx_cut [1, 2, 0] (([] : va_W)) rfl rfl (t_X1_fuss_17 C    x0 x1 (x1 + 2) (2 * x1) hv)
theorem k_X1_fuss (l : Launch) (E : bx_E)   (K : Int32 → Prop)  (x0 : Int32) (x1 : Int32) (x2 : Int32) (hv : V_X1_fuss  K  x0 x1 x2) : bx_Mi l E yX1_fuss cX1_fuss 5 (some .int) (rmD 0) [.int x0, .int x1, .int x2] (fun (_ : Unit) => ([] : va_W)) () (fun r (_ : Unit) => K r) :=
  bx_meti (by decide +kernel) (Nat.le_of_ble_eq_true rfl) (fun p e S m below meth c C => t_X1_fuss_0 C  x0 x1 x2 hv)
abbrev G_X4_isFull (p : Program) (l : Launch) (e : Env) (S : State) (m : MethodId) (args : Array Value) (below : List Frame) (meth : Method) (c : Code) (E : bx_E) (A : Nat → Prop) (a : Nat → Nat) (lim : Int32) (wid : Int32) (len : Nat) (u : TS) (K : Int32 → Prop) (pc : Nat) (lv : List (Nat × Value)) (st : List Value) (ws : va_W) : Prop := bx_S p l e (rmD 0) S m args below meth c 1 E A (MQ below (va_Qi (fun r (_ : Unit) => K r) (fun (_ : Unit) t => bx_B E A (w_T E a lim wid len u) t) A) args S 0 0 A) 0 0 pc lv st ws
def V_X4_isFull (lim : Int32) (wid : Int32) (len : Nat) (K : Int32 → Prop)  (u : TS)  : Prop := ((u.2 < lim → K 0) ∧
 (¬ u.2 < lim → K 1))
set_option maxRecDepth 20000 in
set_option maxHeartbeats 4000000 in
theorem t_X4_isFull_0 {a : Nat → Nat} {lim : Int32} {wid : Int32} {len : Nat} {K : Int32 → Prop} (C : bx_C p (rmD 0) S m args meth c cX4_isFull 1 yX4_isFull.cls (some .boolean) E A 0 0) (u : TS)    (hv : V_X4_isFull lim wid len K u ) : G_X4_isFull p l e S m args below meth c E A a lim wid len u K 0 [(0, .ref (a 0))] [] (w_T E a lim wid len u) := by
  unfold V_X4_isFull at hv
  refine bx_aload_n C 1 dX4_isFull_0 rfl rfl rfl ?_
  refine bx_getf (v := .int u.2) C 4 0 3 inX4 rfl (by decide) fl_X4_28 dX4_isFull_1 rfl rfl rfl ?_
  refine bx_aload_n C 5 dX4_isFull_4 rfl rfl rfl ?_
  refine bx_getf (v := .int lim) C 8 0 0 inX4 rfl (by decide) fl_X4_15 dX4_isFull_5 rfl rfl rfl ?_
  refine bx_icmp_lt C 15 11 dX4_isFull_8 (by decide) rfl (fun h => ?_) (fun h => ?_)
  · replace hv := hv.1 h
    refine bx_iconst C 0 16 dX4_isFull_15 ic_0 rfl ?_
    exact bx_zret C () rfl dX4_isFull_16 rfl (Or.inl rfl) hv
  · replace hv := hv.2 h
    refine bx_iconst C 1 12 dX4_isFull_11 ic_1 rfl ?_
    refine bx_goto C 16 dX4_isFull_12 (by decide) ?_
    exact bx_zret C () rfl dX4_isFull_16 rfl (Or.inr rfl) hv
theorem k_X4_isFull (l : Launch) (E : bx_E) (a : Nat → Nat) (lim : Int32) (wid : Int32) (len : Nat) (K : Int32 → Prop) (u : TS)  (hv : V_X4_isFull lim wid len K u ) : bx_Mi l E yX4_isFull cX4_isFull 1 (some .boolean) (rmD 0) [.ref (a 0)] (fun (_ : Unit) => w_T E a lim wid len u) () (fun r (_ : Unit) => K r) :=
  bx_meti (by decide +kernel) (Nat.le_of_ble_eq_true rfl) (fun p e S m below meth c C => t_X4_isFull_0 C u  hv)
abbrev G_X4_empty (p : Program) (l : Launch) (e : Env) (S : State) (m : MethodId) (args : Array Value) (below : List Frame) (meth : Method) (c : Code) (E : bx_E) (A : Nat → Prop) (a : Nat → Nat) (lim : Int32) (wid : Int32) (len : Nat) (K : Int32 → TS → Prop) (pc : Nat) (lv : List (Nat × Value)) (st : List Value) (ws : va_W) : Prop := bx_S p l e (rmD 0) S m args below meth c 2 E A (MQ below (va_Qi K (fun (u : TS) t => bx_B E A (w_T E a lim wid len u) t) A) args S 0 0 A) 0 0 pc lv st ws
def V_X4_empty (lim : Int32) (wid : Int32) (len : Nat) (K : Int32 → TS → Prop)  (u : TS)  : Prop := K u.2 (u.1, 0)
set_option maxRecDepth 20000 in
set_option maxHeartbeats 4000000 in
theorem t_X4_empty_0 {a : Nat → Nat} {lim : Int32} {wid : Int32} {len : Nat} {K : Int32 → TS → Prop} (C : bx_C p (rmD 0) S m args meth c cX4_empty 2 yX4_empty.cls (some .int) E A 0 0)   (u : TS)  (hv : V_X4_empty lim wid len K u ) : G_X4_empty p l e S m args below meth c E A a lim wid len K 0 [(0, .ref (a 0))] [] (w_T E a lim wid len u) := by
  unfold V_X4_empty at hv
  refine bx_aload_n C 1 dX4_empty_0 rfl rfl rfl ?_
  refine bx_getf (v := .int u.2) C 4 0 3 inX4 rfl (by decide) fl_X4_28 dX4_empty_1 rfl rfl rfl ?_
  refine bx_istore_n C 5 dX4_empty_4 rfl (by decide) rfl ?_
  refine bx_aload_n C 6 dX4_empty_5 rfl rfl rfl ?_
  refine bx_iconst C 0 7 dX4_empty_6 ic_0 rfl ?_
  refine bx_putf C 10 0 3 (w_T E a lim wid len (u.1, 0)) inX4 tyX4 tyX4_ok nmX4 rfl (by decide) fl_X4_28 rfl dX4_empty_7 rfl rfl rfl (Nat.le_of_ble_eq_true rfl) rfl rfl ?_
  refine bx_iload_n C 11 dX4_empty_10 rfl rfl rfl ?_
  exact bx_iret C (u.1, 0) rfl dX4_empty_11 rfl hv
theorem k_X4_empty (l : Launch) (E : bx_E) (a : Nat → Nat) (lim : Int32) (wid : Int32) (len : Nat) (K : Int32 → TS → Prop) (u : TS)  (hv : V_X4_empty lim wid len K u ) : bx_Mi l E yX4_empty cX4_empty 2 (some .int) (rmD 0) [.ref (a 0)] (fun (u : TS) => w_T E a lim wid len u) u K :=
  bx_meti (by decide +kernel) (Nat.le_of_ble_eq_true rfl) (fun p e S m below meth c C => t_X4_empty_0 C u  hv)
abbrev G_X4_openRow (p : Program) (l : Launch) (e : Env) (S : State) (m : MethodId) (args : Array Value) (below : List Frame) (meth : Method) (c : Code) (E : bx_E) (A : Nat → Prop) (a : Nat → Nat) (lim : Int32) (wid : Int32) (len : Nat) (K : TS → Prop) (pc : Nat) (lv : List (Nat × Value)) (st : List Value) (ws : va_W) : Prop := bx_S p l e (rmD 0) S m args below meth c 1 E A (MQ below (va_Qv K (fun (u : TS) t => bx_B E A (w_T E a lim wid len u) t) A) args S 0 0 A) 0 0 pc lv st ws
def V_X4_openRow (lim : Int32) (wid : Int32) (len : Nat) (K : TS → Prop)  (u : TS)  : Prop := ((lim ≤ u.2 → K u) ∧
 (¬ lim ≤ u.2 → K (u.1, (u.2 + 1))))
set_option maxRecDepth 20000 in
set_option maxHeartbeats 4000000 in
theorem t_X4_openRow_0 {a : Nat → Nat} {lim : Int32} {wid : Int32} {len : Nat} {K : TS → Prop} (C : bx_C p (rmD 0) S m args meth c cX4_openRow 1 yX4_openRow.cls none E A 0 0)   (u : TS)  (hv : V_X4_openRow lim wid len K u ) : G_X4_openRow p l e S m args below meth c E A a lim wid len K 0 [(0, .ref (a 0))] [] (w_T E a lim wid len u) := by
  unfold V_X4_openRow at hv
  refine bx_aload_n C 1 dX4_openRow_0 rfl rfl rfl ?_
  refine bx_getf (v := .int u.2) C 4 0 3 inX4 rfl (by decide) fl_X4_28 dX4_openRow_1 rfl rfl rfl ?_
  refine bx_aload_n C 5 dX4_openRow_4 rfl rfl rfl ?_
  refine bx_getf (v := .int lim) C 8 0 0 inX4 rfl (by decide) fl_X4_15 dX4_openRow_5 rfl rfl rfl ?_
  refine bx_icmp_ge C 21 11 dX4_openRow_8 (by decide) rfl (fun h => ?_) (fun h => ?_)
  · replace hv := hv.1 h
    exact bx_vret C u rfl dX4_openRow_21 rfl hv
  · replace hv := hv.2 h
    refine bx_aload_n C 12 dX4_openRow_11 rfl rfl rfl ?_
    refine bx_dup C 13 dX4_openRow_12 rfl rfl ?_
    refine bx_getf (v := .int u.2) C 16 0 3 inX4 rfl (by decide) fl_X4_28 dX4_openRow_13 rfl rfl rfl ?_
    refine bx_iconst C 1 17 dX4_openRow_16 ic_1 rfl ?_
    refine bx_iadd C 18 dX4_openRow_17 rfl ?_
    refine bx_putf C 21 0 3 (w_T E a lim wid len (u.1, (u.2 + 1))) inX4 tyX4 tyX4_ok nmX4 rfl (by decide) fl_X4_28 rfl dX4_openRow_18 rfl rfl rfl (Nat.le_of_ble_eq_true rfl) rfl rfl ?_
    exact bx_vret C (u.1, (u.2 + 1)) rfl dX4_openRow_21 rfl hv
theorem k_X4_openRow (l : Launch) (E : bx_E) (a : Nat → Nat) (lim : Int32) (wid : Int32) (len : Nat) (K : TS → Prop) (u : TS)  (hv : V_X4_openRow lim wid len K u ) : bx_Mv l E yX4_openRow cX4_openRow 1 none (rmD 0) [.ref (a 0)] (fun (u : TS) => w_T E a lim wid len u) u K :=
  bx_metv (by decide +kernel) (Nat.le_of_ble_eq_true rfl) (fun p e S m below meth c C => t_X4_openRow_0 C u  hv)
abbrev G_X4_put (p : Program) (l : Launch) (e : Env) (S : State) (m : MethodId) (args : Array Value) (below : List Frame) (meth : Method) (c : Code) (E : bx_E) (A : Nat → Prop) (a : Nat → Nat) (lim : Int32) (wid : Int32) (len : Nat) (K : TS → Prop) (pc : Nat) (lv : List (Nat × Value)) (st : List Value) (ws : va_W) : Prop := bx_S p l e (rmD 1) S m args below meth c 3 E A (MQ below (va_Qv K (fun (u : TS) t => bx_B E A (w_T E a lim wid len u) t) A) args S 0 0 A) 0 0 pc lv st ws
def V_X4_put (lim : Int32) (wid : Int32) (len : Nat) (K : TS → Prop)  (u : TS) (x1 : Int32) (x2 : Int32) : Prop := ((u.2 ≤ 0 → K u) ∧
 (¬ u.2 ≤ 0 → (V_X7_within (fun r1 => ((r1 = 0 → K u) ∧
 (¬ r1 = 0 → (vp_in (((u.2 - 1) * wid) + x1) len ∧ K ((upd u.1 ((((u.2 - 1) * wid) + x1) : Int32).toNatClampNeg x2), u.2)))))  x1 wid)))
set_option maxRecDepth 20000 in
set_option maxHeartbeats 4000000 in
theorem t_X4_put_0 {a : Nat → Nat} {lim : Int32} {wid : Int32} {len : Nat} {K : TS → Prop} (C : bx_C p (rmD 1) S m args meth c cX4_put 3 yX4_put.cls none E A 0 0)   (u : TS) (x1 : Int32) (x2 : Int32) (hv : V_X4_put lim wid len K u x1 x2) : G_X4_put p l e S m args below meth c E A a lim wid len K 0 [(0, .ref (a 0)), (1, .int x1), (2, .int x2)] [] (w_T E a lim wid len u) := by
  unfold V_X4_put at hv
  refine bx_aload_n C 1 dX4_put_0 rfl rfl rfl ?_
  refine bx_getf (v := .int u.2) C 4 0 3 inX4 rfl (by decide) fl_X4_28 dX4_put_1 rfl rfl rfl ?_
  refine bx_if_le C 37 7 dX4_put_4 (by decide) rfl (fun h => ?_) (fun h => ?_)
  · replace hv := hv.1 h
    exact bx_vret C u rfl dX4_put_37 rfl hv
  · replace hv := hv.2 h
    refine bx_iload_n C 8 dX4_put_7 rfl rfl rfl ?_
    refine bx_aload_n C 9 dX4_put_8 rfl rfl rfl ?_
    refine bx_getf (v := .int wid) C 12 0 1 inX4 rfl (by decide) fl_X4_21 dX4_put_9 rfl rfl rfl ?_
    refine bx_pSNi C 15 fc_X4_48 (k_X7_within l E  _ _ _ hv) dX4_put_12 ⟨rfl, rfl, Nat.le_of_ble_eq_true rfl, Nat.le_of_ble_eq_true rfl⟩ [] rfl (by decide) rfl rfl (Nat.le_of_ble_eq_true rfl) rfl (fun r1 hv => ?_)
    refine bx_if_eq C 37 18 dX4_put_15 (by decide) rfl (fun h => ?_) (fun h => ?_)
    · replace hv := hv.1 h
      exact bx_vret C u rfl dX4_put_37 rfl hv
    · replace hv := hv.2 h
      refine bx_aload_n C 19 dX4_put_18 rfl rfl rfl ?_
      refine bx_getf (v := .ref (a 1)) C 22 0 2 inX4 rfl (by decide) fl_X4_24 dX4_put_19 rfl rfl rfl ?_
      refine bx_aload_n C 23 dX4_put_22 rfl rfl rfl ?_
      refine bx_getf (v := .int u.2) C 26 0 3 inX4 rfl (by decide) fl_X4_28 dX4_put_23 rfl rfl rfl ?_
      refine bx_iconst C 1 27 dX4_put_26 ic_1 rfl ?_
      refine bx_isub C 28 dX4_put_27 rfl ?_
      refine bx_aload_n C 29 dX4_put_28 rfl rfl rfl ?_
      refine bx_getf (v := .int wid) C 32 0 1 inX4 rfl (by decide) fl_X4_21 dX4_put_29 rfl rfl rfl ?_
      refine bx_imul C 33 dX4_put_32 rfl ?_
      refine bx_iload_n C 34 dX4_put_33 rfl rfl rfl ?_
      refine bx_iadd C 35 dX4_put_34 rfl ?_
      refine bx_iload_n C 36 dX4_put_35 rfl rfl rfl ?_
      refine bx_iast C 37 1 (w_T E a lim wid len ((upd u.1 ((((u.2 - 1) * wid) + x1) : Int32).toNatClampNeg x2), u.2)) dX4_put_36 rfl hv.1 rfl rfl ?_
      replace hv := hv.2
      exact bx_vret C ((upd u.1 ((((u.2 - 1) * wid) + x1) : Int32).toNatClampNeg x2), u.2) rfl dX4_put_37 rfl hv
theorem k_X4_put (l : Launch) (E : bx_E) (a : Nat → Nat) (lim : Int32) (wid : Int32) (len : Nat) (K : TS → Prop) (u : TS) (x1 : Int32) (x2 : Int32) (hv : V_X4_put lim wid len K u x1 x2) : bx_Mv l E yX4_put cX4_put 3 none (rmD 1) [.ref (a 0), .int x1, .int x2] (fun (u : TS) => w_T E a lim wid len u) u K :=
  bx_metv (by decide +kernel) (Nat.le_of_ble_eq_true rfl) (fun p e S m below meth c C => t_X4_put_0 C u x1 x2 hv)
abbrev G_X4_add (p : Program) (l : Launch) (e : Env) (S : State) (m : MethodId) (args : Array Value) (below : List Frame) (meth : Method) (c : Code) (E : bx_E) (A : Nat → Prop) (a : Nat → Nat) (lim : Int32) (wid : Int32) (len : Nat) (K : Int32 → TS → Prop) (pc : Nat) (lv : List (Nat × Value)) (st : List Value) (ws : va_W) : Prop := bx_S p l e (rmD 2) S m args below meth c 4 E A (MQ below (va_Qi K (fun (u : TS) t => bx_B E A (w_T E a lim wid len u) t) A) args S 0 0 A) 0 0 pc lv st ws
def V_X4_add (lim : Int32) (wid : Int32) (len : Nat) (K : Int32 → TS → Prop)  (u : TS) (x1 : Int32) (x2 : Int32) (x3 : Int32) : Prop := (V_X4_openRow lim wid len (fun u1 => (V_X4_put lim wid len (fun u2 => (V_X4_put lim wid len (fun u3 => (V_X4_put lim wid len (fun u4 => K u4.2 u4) u3 2 x3)) u2 1 x2)) u1 0 x1)) u )
set_option maxRecDepth 20000 in
set_option maxHeartbeats 4000000 in
theorem t_X4_add_0 {a : Nat → Nat} {lim : Int32} {wid : Int32} {len : Nat} {K : Int32 → TS → Prop} (C : bx_C p (rmD 2) S m args meth c cX4_add 4 yX4_add.cls (some .int) E A 0 0)   (u : TS) (x1 : Int32) (x2 : Int32) (x3 : Int32) (hv : V_X4_add lim wid len K u x1 x2 x3) : G_X4_add p l e S m args below meth c E A a lim wid len K 0 [(0, .ref (a 0)), (1, .int x1), (2, .int x2), (3, .int x3)] [] (w_T E a lim wid len u) := by
  unfold V_X4_add at hv
  refine bx_aload_n C 1 dX4_add_0 rfl rfl rfl ?_
  refine bx_qVv C 0 rfl rfl 4 fc_X4_31 (k_X4_openRow l E a lim wid len _ _ hv) dX4_add_1 ⟨rfl, rfl, Nat.le_of_ble_eq_true rfl, Nat.le_of_ble_eq_true rfl⟩ [0, 1] (fun u1 => w_T E a lim wid len u1) ps_T_T_0 (by decide) ad_T pu_T_T_0 rfl rfl (Nat.le_of_ble_eq_true rfl) rfl (fun u1 hv => ?_)
  refine bx_aload_n C 5 dX4_add_4 rfl rfl rfl ?_
  refine bx_iconst C 0 6 dX4_add_5 ic_0 rfl ?_
  refine bx_iload_n C 7 dX4_add_6 rfl rfl rfl ?_
  refine bx_qVv C 0 rfl rfl 10 fc_X4_34 (k_X4_put l E a lim wid len _ _ _ _ hv) dX4_add_7 ⟨rfl, rfl, Nat.le_of_ble_eq_true rfl, Nat.le_of_ble_eq_true rfl⟩ [0, 1] (fun u2 => w_T E a lim wid len u2) ps_T_T_0 (by decide) ad_T pu_T_T_0 rfl rfl (Nat.le_of_ble_eq_true rfl) rfl (fun u2 hv => ?_)
  refine bx_aload_n C 11 dX4_add_10 rfl rfl rfl ?_
  refine bx_iconst C 1 12 dX4_add_11 ic_1 rfl ?_
  refine bx_iload_n C 13 dX4_add_12 rfl rfl rfl ?_
  refine bx_qVv C 0 rfl rfl 16 fc_X4_34 (k_X4_put l E a lim wid len _ _ _ _ hv) dX4_add_13 ⟨rfl, rfl, Nat.le_of_ble_eq_true rfl, Nat.le_of_ble_eq_true rfl⟩ [0, 1] (fun u3 => w_T E a lim wid len u3) ps_T_T_0 (by decide) ad_T pu_T_T_0 rfl rfl (Nat.le_of_ble_eq_true rfl) rfl (fun u3 hv => ?_)
  refine bx_aload_n C 17 dX4_add_16 rfl rfl rfl ?_
  refine bx_iconst C 2 18 dX4_add_17 ic_2 rfl ?_
  refine bx_iload_n C 19 dX4_add_18 rfl rfl rfl ?_
  refine bx_qVv C 0 rfl rfl 22 fc_X4_34 (k_X4_put l E a lim wid len _ _ _ _ hv) dX4_add_19 ⟨rfl, rfl, Nat.le_of_ble_eq_true rfl, Nat.le_of_ble_eq_true rfl⟩ [0, 1] (fun u4 => w_T E a lim wid len u4) ps_T_T_0 (by decide) ad_T pu_T_T_0 rfl rfl (Nat.le_of_ble_eq_true rfl) rfl (fun u4 hv => ?_)
  refine bx_aload_n C 23 dX4_add_22 rfl rfl rfl ?_
  refine bx_getf (v := .int u4.2) C 26 0 3 inX4 rfl (by decide) fl_X4_28 dX4_add_23 rfl rfl rfl ?_
  exact bx_iret C u4 rfl dX4_add_26 rfl hv
theorem k_X4_add (l : Launch) (E : bx_E) (a : Nat → Nat) (lim : Int32) (wid : Int32) (len : Nat) (K : Int32 → TS → Prop) (u : TS) (x1 : Int32) (x2 : Int32) (x3 : Int32) (hv : V_X4_add lim wid len K u x1 x2 x3) : bx_Mi l E yX4_add cX4_add 4 (some .int) (rmD 2) [.ref (a 0), .int x1, .int x2, .int x3] (fun (u : TS) => w_T E a lim wid len u) u K :=
  bx_meti (by decide +kernel) (Nat.le_of_ble_eq_true rfl) (fun p e S m below meth c C => t_X4_add_0 C u x1 x2 x3 hv)
abbrev G_X4_add_ (p : Program) (l : Launch) (e : Env) (S : State) (m : MethodId) (args : Array Value) (below : List Frame) (meth : Method) (c : Code) (E : bx_E) (A : Nat → Prop) (a : Nat → Nat) (lim : Int32) (wid : Int32) (len : Nat) (K : Int32 → TS → Prop) (pc : Nat) (lv : List (Nat × Value)) (st : List Value) (ws : va_W) : Prop := bx_S p l e (rmD 3) S m args below meth c 5 E A (MQ below (va_Qi K (fun (u : TS) t => bx_B E A (w_T E a lim wid len u) t) A) args S 0 0 A) 0 0 pc lv st ws
def V_X4_add_ (lim : Int32) (wid : Int32) (len : Nat) (K : Int32 → TS → Prop)  (u : TS) (x1 : Int32) (x2 : Int32) (x3 : Int32) (x4 : Int32) : Prop := (V_X4_add lim wid len (fun r1 u2 => (V_X4_put lim wid len (fun u3 => K u3.2 u3) u2 3 x4)) u x1 x2 x3)
set_option maxRecDepth 20000 in
set_option maxHeartbeats 4000000 in
theorem t_X4_add__0 {a : Nat → Nat} {lim : Int32} {wid : Int32} {len : Nat} {K : Int32 → TS → Prop} (C : bx_C p (rmD 3) S m args meth c cX4_add_ 5 yX4_add_.cls (some .int) E A 0 0)   (u : TS) (x1 : Int32) (x2 : Int32) (x3 : Int32) (x4 : Int32) (hv : V_X4_add_ lim wid len K u x1 x2 x3 x4) : G_X4_add_ p l e S m args below meth c E A a lim wid len K 0 [(0, .ref (a 0)), (1, .int x1), (2, .int x2), (3, .int x3), (4, .int x4)] [] (w_T E a lim wid len u) := by
  unfold V_X4_add_ at hv
  refine bx_aload_n C 1 dX4_add__0 rfl rfl rfl ?_
  refine bx_iload_n C 2 dX4_add__1 rfl rfl rfl ?_
  refine bx_iload_n C 3 dX4_add__2 rfl rfl rfl ?_
  refine bx_iload_n C 4 dX4_add__3 rfl rfl rfl ?_
  refine bx_qVi C 0 rfl rfl 7 fc_X4_38 (k_X4_add l E a lim wid len _ _ _ _ _ hv) dX4_add__4 ⟨rfl, rfl, Nat.le_of_ble_eq_true rfl, Nat.le_of_ble_eq_true rfl⟩ [0, 1] (fun u2 => w_T E a lim wid len u2) ps_T_T_0 (by decide) ad_T pu_T_T_0 rfl rfl (Nat.le_of_ble_eq_true rfl) rfl (fun r1 u2 hv => ?_)
  refine bx_pop C 8 dX4_add__7 rfl rfl ?_
  refine bx_aload_n C 9 dX4_add__8 rfl rfl rfl ?_
  refine bx_iconst C 3 10 dX4_add__9 ic_3 rfl ?_
  refine bx_iload C 12 dX4_add__10 rfl rfl ?_
  refine bx_qVv C 0 rfl rfl 15 fc_X4_34 (k_X4_put l E a lim wid len _ _ _ _ hv) dX4_add__12 ⟨rfl, rfl, Nat.le_of_ble_eq_true rfl, Nat.le_of_ble_eq_true rfl⟩ [0, 1] (fun u3 => w_T E a lim wid len u3) ps_T_T_0 (by decide) ad_T pu_T_T_0 rfl rfl (Nat.le_of_ble_eq_true rfl) rfl (fun u3 hv => ?_)
  refine bx_aload_n C 16 dX4_add__15 rfl rfl rfl ?_
  refine bx_getf (v := .int u3.2) C 19 0 3 inX4 rfl (by decide) fl_X4_28 dX4_add__16 rfl rfl rfl ?_
  exact bx_iret C u3 rfl dX4_add__19 rfl hv
theorem k_X4_add_ (l : Launch) (E : bx_E) (a : Nat → Nat) (lim : Int32) (wid : Int32) (len : Nat) (K : Int32 → TS → Prop) (u : TS) (x1 : Int32) (x2 : Int32) (x3 : Int32) (x4 : Int32) (hv : V_X4_add_ lim wid len K u x1 x2 x3 x4) : bx_Mi l E yX4_add_ cX4_add_ 5 (some .int) (rmD 3) [.ref (a 0), .int x1, .int x2, .int x3, .int x4] (fun (u : TS) => w_T E a lim wid len u) u K :=
  bx_meti (by decide +kernel) (Nat.le_of_ble_eq_true rfl) (fun p e S m below meth c C => t_X4_add__0 C u x1 x2 x3 x4 hv)
abbrev G_X4_dropFirst (p : Program) (l : Launch) (e : Env) (S : State) (m : MethodId) (args : Array Value) (below : List Frame) (meth : Method) (c : Code) (E : bx_E) (A : Nat → Prop) (a : Nat → Nat) (lim : Int32) (wid : Int32) (len : Nat) (K : TS → Prop) (pc : Nat) (lv : List (Nat × Value)) (st : List Value) (ws : va_W) : Prop := bx_S p l e (rmD 1) S m args below meth c 1 E A (MQ below (va_Qv K (fun (u : TS) t => bx_B E A (w_T E a lim wid len u) t) A) args S 0 0 A) 0 0 pc lv st ws
def V_X4_dropFirst (lim : Int32) (wid : Int32) (len : Nat) (K : TS → Prop)  (u : TS)  : Prop := ((u.2 ≤ 0 → K u) ∧
 (¬ u.2 ≤ 0 → (bx_cin wid 0 ((u.2 - 1) * wid) len len ∧ K ((va_cpy u.1 u.1 (wid : Int32).toNatClampNeg (0 : Int32).toNatClampNeg (((u.2 - 1) * wid) : Int32).toNatClampNeg), (u.2 - 1)))))
set_option maxRecDepth 20000 in
set_option maxHeartbeats 4000000 in
theorem t_X4_dropFirst_0 {a : Nat → Nat} {lim : Int32} {wid : Int32} {len : Nat} {K : TS → Prop} (C : bx_C p (rmD 1) S m args meth c cX4_dropFirst 1 yX4_dropFirst.cls none E A 0 0)   (u : TS)  (hv : V_X4_dropFirst lim wid len K u ) : G_X4_dropFirst p l e S m args below meth c E A a lim wid len K 0 [(0, .ref (a 0))] [] (w_T E a lim wid len u) := by
  unfold V_X4_dropFirst at hv
  refine bx_aload_n C 1 dX4_dropFirst_0 rfl rfl rfl ?_
  refine bx_getf (v := .int u.2) C 4 0 3 inX4 rfl (by decide) fl_X4_28 dX4_dropFirst_1 rfl rfl rfl ?_
  refine bx_if_le C 42 7 dX4_dropFirst_4 (by decide) rfl (fun h => ?_) (fun h => ?_)
  · replace hv := hv.1 h
    exact bx_vret C u rfl dX4_dropFirst_42 rfl hv
  · replace hv := hv.2 h
    refine bx_aload_n C 8 dX4_dropFirst_7 rfl rfl rfl ?_
    refine bx_dup C 9 dX4_dropFirst_8 rfl rfl ?_
    refine bx_getf (v := .int u.2) C 12 0 3 inX4 rfl (by decide) fl_X4_28 dX4_dropFirst_9 rfl rfl rfl ?_
    refine bx_iconst C 1 13 dX4_dropFirst_12 ic_1 rfl ?_
    refine bx_isub C 14 dX4_dropFirst_13 rfl ?_
    refine bx_putf C 17 0 3 (w_T E a lim wid len (u.1, (u.2 - 1))) inX4 tyX4 tyX4_ok nmX4 rfl (by decide) fl_X4_28 rfl dX4_dropFirst_14 rfl rfl rfl (Nat.le_of_ble_eq_true rfl) rfl rfl ?_
    refine bx_aload_n C 18 dX4_dropFirst_17 rfl rfl rfl ?_
    refine bx_getf (v := .ref (a 1)) C 21 0 2 inX4 rfl (by decide) fl_X4_24 dX4_dropFirst_18 rfl rfl rfl ?_
    refine bx_aload_n C 22 dX4_dropFirst_21 rfl rfl rfl ?_
    refine bx_getf (v := .int wid) C 25 0 1 inX4 rfl (by decide) fl_X4_21 dX4_dropFirst_22 rfl rfl rfl ?_
    refine bx_aload_n C 26 dX4_dropFirst_25 rfl rfl rfl ?_
    refine bx_getf (v := .ref (a 1)) C 29 0 2 inX4 rfl (by decide) fl_X4_24 dX4_dropFirst_26 rfl rfl rfl ?_
    refine bx_iconst C 0 30 dX4_dropFirst_29 ic_0 rfl ?_
    refine bx_aload_n C 31 dX4_dropFirst_30 rfl rfl rfl ?_
    refine bx_getf (v := .int (u.2 - 1)) C 34 0 3 inX4 rfl (by decide) fl_X4_28 dX4_dropFirst_31 rfl rfl rfl ?_
    refine bx_aload_n C 35 dX4_dropFirst_34 rfl rfl rfl ?_
    refine bx_getf (v := .int wid) C 38 0 1 inX4 rfl (by decide) fl_X4_21 dX4_dropFirst_35 rfl rfl rfl ?_
    refine bx_imul C 39 dX4_dropFirst_38 rfl ?_
    refine bx_copyi C 42 1 1 (w_T E a lim wid len ((va_cpy u.1 u.1 (wid : Int32).toNatClampNeg (0 : Int32).toNatClampNeg (((u.2 - 1) * wid) : Int32).toNatClampNeg), (u.2 - 1))) fa_X4_42 dX4_dropFirst_39 ⟨Nat.le_of_ble_eq_true rfl, Nat.le_of_ble_eq_true rfl⟩ rfl rfl hv.1 rfl rfl ?_
    replace hv := hv.2
    exact bx_vret C ((va_cpy u.1 u.1 (wid : Int32).toNatClampNeg (0 : Int32).toNatClampNeg (((u.2 - 1) * wid) : Int32).toNatClampNeg), (u.2 - 1)) rfl dX4_dropFirst_42 rfl hv
theorem k_X4_dropFirst (l : Launch) (E : bx_E) (a : Nat → Nat) (lim : Int32) (wid : Int32) (len : Nat) (K : TS → Prop) (u : TS)  (hv : V_X4_dropFirst lim wid len K u ) : bx_Mv l E yX4_dropFirst cX4_dropFirst 1 none (rmD 1) [.ref (a 0)] (fun (u : TS) => w_T E a lim wid len u) u K :=
  bx_metv (by decide +kernel) (Nat.le_of_ble_eq_true rfl) (fun p e S m below meth c C => t_X4_dropFirst_0 C u  hv)
abbrev G_X4_dropLast (p : Program) (l : Launch) (e : Env) (S : State) (m : MethodId) (args : Array Value) (below : List Frame) (meth : Method) (c : Code) (E : bx_E) (A : Nat → Prop) (a : Nat → Nat) (lim : Int32) (wid : Int32) (len : Nat) (K : TS → Prop) (pc : Nat) (lv : List (Nat × Value)) (st : List Value) (ws : va_W) : Prop := bx_S p l e (rmD 0) S m args below meth c 1 E A (MQ below (va_Qv K (fun (u : TS) t => bx_B E A (w_T E a lim wid len u) t) A) args S 0 0 A) 0 0 pc lv st ws
def V_X4_dropLast (lim : Int32) (wid : Int32) (len : Nat) (K : TS → Prop)  (u : TS)  : Prop := ((u.2 ≤ 0 → K u) ∧
 (¬ u.2 ≤ 0 → K (u.1, (u.2 - 1))))
set_option maxRecDepth 20000 in
set_option maxHeartbeats 4000000 in
theorem t_X4_dropLast_0 {a : Nat → Nat} {lim : Int32} {wid : Int32} {len : Nat} {K : TS → Prop} (C : bx_C p (rmD 0) S m args meth c cX4_dropLast 1 yX4_dropLast.cls none E A 0 0)   (u : TS)  (hv : V_X4_dropLast lim wid len K u ) : G_X4_dropLast p l e S m args below meth c E A a lim wid len K 0 [(0, .ref (a 0))] [] (w_T E a lim wid len u) := by
  unfold V_X4_dropLast at hv
  refine bx_aload_n C 1 dX4_dropLast_0 rfl rfl rfl ?_
  refine bx_getf (v := .int u.2) C 4 0 3 inX4 rfl (by decide) fl_X4_28 dX4_dropLast_1 rfl rfl rfl ?_
  refine bx_if_le C 17 7 dX4_dropLast_4 (by decide) rfl (fun h => ?_) (fun h => ?_)
  · replace hv := hv.1 h
    exact bx_vret C u rfl dX4_dropLast_17 rfl hv
  · replace hv := hv.2 h
    refine bx_aload_n C 8 dX4_dropLast_7 rfl rfl rfl ?_
    refine bx_dup C 9 dX4_dropLast_8 rfl rfl ?_
    refine bx_getf (v := .int u.2) C 12 0 3 inX4 rfl (by decide) fl_X4_28 dX4_dropLast_9 rfl rfl rfl ?_
    refine bx_iconst C 1 13 dX4_dropLast_12 ic_1 rfl ?_
    refine bx_isub C 14 dX4_dropLast_13 rfl ?_
    refine bx_putf C 17 0 3 (w_T E a lim wid len (u.1, (u.2 - 1))) inX4 tyX4 tyX4_ok nmX4 rfl (by decide) fl_X4_28 rfl dX4_dropLast_14 rfl rfl rfl (Nat.le_of_ble_eq_true rfl) rfl rfl ?_
    exact bx_vret C (u.1, (u.2 - 1)) rfl dX4_dropLast_17 rfl hv
theorem k_X4_dropLast (l : Launch) (E : bx_E) (a : Nat → Nat) (lim : Int32) (wid : Int32) (len : Nat) (K : TS → Prop) (u : TS)  (hv : V_X4_dropLast lim wid len K u ) : bx_Mv l E yX4_dropLast cX4_dropLast 1 none (rmD 0) [.ref (a 0)] (fun (u : TS) => w_T E a lim wid len u) u K :=
  bx_metv (by decide +kernel) (Nat.le_of_ble_eq_true rfl) (fun p e S m below meth c C => t_X4_dropLast_0 C u  hv)
abbrev G_X4_at (p : Program) (l : Launch) (e : Env) (S : State) (m : MethodId) (args : Array Value) (below : List Frame) (meth : Method) (c : Code) (E : bx_E) (A : Nat → Prop) (a : Nat → Nat) (lim : Int32) (wid : Int32) (len : Nat) (u : TS) (K : Int32 → Prop) (pc : Nat) (lv : List (Nat × Value)) (st : List Value) (ws : va_W) : Prop := bx_S p l e (rmD 1) S m args below meth c 3 E A (MQ below (va_Qi (fun r (_ : Unit) => K r) (fun (_ : Unit) t => bx_B E A (w_T E a lim wid len u) t) A) args S 0 0 A) 0 0 pc lv st ws
def V_X4_at (lim : Int32) (wid : Int32) (len : Nat) (K : Int32 → Prop)  (u : TS) (x1 : Int32) (x2 : Int32) : Prop := (V_X7_within (fun r1 => ((r1 = 0 → K (-1)) ∧
 (¬ r1 = 0 → (V_X7_within (fun r2 => ((r2 = 0 → K (-1)) ∧
 (¬ r2 = 0 → (vp_in ((x1 * wid) + x2) len ∧ K (u.1 (((x1 * wid) + x2) : Int32).toNatClampNeg)))))  x2 wid))))  x1 u.2)
set_option maxRecDepth 20000 in
set_option maxHeartbeats 4000000 in
theorem t_X4_at_0 {a : Nat → Nat} {lim : Int32} {wid : Int32} {len : Nat} {K : Int32 → Prop} (C : bx_C p (rmD 1) S m args meth c cX4_at 3 yX4_at.cls (some .int) E A 0 0) (u : TS)   (x1 : Int32) (x2 : Int32) (hv : V_X4_at lim wid len K u x1 x2) : G_X4_at p l e S m args below meth c E A a lim wid len u K 0 [(0, .ref (a 0)), (1, .int x1), (2, .int x2)] [] (w_T E a lim wid len u) := by
  unfold V_X4_at at hv
  refine bx_iload_n C 1 dX4_at_0 rfl rfl rfl ?_
  refine bx_aload_n C 2 dX4_at_1 rfl rfl rfl ?_
  refine bx_getf (v := .int u.2) C 5 0 3 inX4 rfl (by decide) fl_X4_28 dX4_at_2 rfl rfl rfl ?_
  refine bx_pSNi C 8 fc_X4_48 (k_X7_within l E  _ _ _ hv) dX4_at_5 ⟨rfl, rfl, Nat.le_of_ble_eq_true rfl, Nat.le_of_ble_eq_true rfl⟩ [] rfl (by decide) rfl rfl (Nat.le_of_ble_eq_true rfl) rfl (fun r1 hv => ?_)
  refine bx_if_eq C 38 11 dX4_at_8 (by decide) rfl (fun h => ?_) (fun h => ?_)
  · replace hv := hv.1 h
    refine bx_iconst C (-1) 39 dX4_at_38 ic_m1 rfl ?_
    exact bx_iret C () rfl dX4_at_39 rfl hv
  · replace hv := hv.2 h
    refine bx_iload_n C 12 dX4_at_11 rfl rfl rfl ?_
    refine bx_aload_n C 13 dX4_at_12 rfl rfl rfl ?_
    refine bx_getf (v := .int wid) C 16 0 1 inX4 rfl (by decide) fl_X4_21 dX4_at_13 rfl rfl rfl ?_
    refine bx_pSNi C 19 fc_X4_48 (k_X7_within l E  _ _ _ hv) dX4_at_16 ⟨rfl, rfl, Nat.le_of_ble_eq_true rfl, Nat.le_of_ble_eq_true rfl⟩ [] rfl (by decide) rfl rfl (Nat.le_of_ble_eq_true rfl) rfl (fun r2 hv => ?_)
    refine bx_if_eq C 38 22 dX4_at_19 (by decide) rfl (fun h => ?_) (fun h => ?_)
    · replace hv := hv.1 h
      refine bx_iconst C (-1) 39 dX4_at_38 ic_m1 rfl ?_
      exact bx_iret C () rfl dX4_at_39 rfl hv
    · replace hv := hv.2 h
      refine bx_aload_n C 23 dX4_at_22 rfl rfl rfl ?_
      refine bx_getf (v := .ref (a 1)) C 26 0 2 inX4 rfl (by decide) fl_X4_24 dX4_at_23 rfl rfl rfl ?_
      refine bx_iload_n C 27 dX4_at_26 rfl rfl rfl ?_
      refine bx_aload_n C 28 dX4_at_27 rfl rfl rfl ?_
      refine bx_getf (v := .int wid) C 31 0 1 inX4 rfl (by decide) fl_X4_21 dX4_at_28 rfl rfl rfl ?_
      refine bx_imul C 32 dX4_at_31 rfl ?_
      refine bx_iload_n C 33 dX4_at_32 rfl rfl rfl ?_
      refine bx_iadd C 34 dX4_at_33 rfl ?_
      refine bx_iald (f := u.1) C 35 1 dX4_at_34 rfl hv.1 rfl ?_
      replace hv := hv.2
      refine bx_goto C 39 dX4_at_35 (by decide) ?_
      exact bx_iret C () rfl dX4_at_39 rfl hv
theorem k_X4_at (l : Launch) (E : bx_E) (a : Nat → Nat) (lim : Int32) (wid : Int32) (len : Nat) (K : Int32 → Prop) (u : TS) (x1 : Int32) (x2 : Int32) (hv : V_X4_at lim wid len K u x1 x2) : bx_Mi l E yX4_at cX4_at 3 (some .int) (rmD 1) [.ref (a 0), .int x1, .int x2] (fun (_ : Unit) => w_T E a lim wid len u) () (fun r (_ : Unit) => K r) :=
  bx_meti (by decide +kernel) (Nat.le_of_ble_eq_true rfl) (fun p e S m below meth c C => t_X4_at_0 C u x1 x2 hv)
abbrev G_X4_takeFrom (p : Program) (l : Launch) (e : Env) (S : State) (m : MethodId) (args : Array Value) (below : List Frame) (meth : Method) (c : Code) (E : bx_E) (A : Nat → Prop) (a : Nat → Nat) (b : Nat → Nat) (lim : Int32) (wid : Int32) (len : Nat) (lim2 : Int32) (wid2 : Int32) (len2 : Nat) (K : TS × TS → Prop) (pc : Nat) (lv : List (Nat × Value)) (st : List Value) (ws : va_W) : Prop := bx_S p l e (rmD 1) S m args below meth c 3 E A (MQ below (va_Qv K (fun (u : TS × TS) t => bx_B E A (w_T E a lim wid len u.1 ++ w_T E b lim2 wid2 len2 u.2) t) A) args S 0 0 A) 0 0 pc lv st ws
def V_X4_takeFrom (lim : Int32) (wid : Int32) (len : Nat) (lim2 : Int32) (wid2 : Int32) (len2 : Nat) (K : TS × TS → Prop)  (u : TS × TS)  : Prop := (bx_cin 0 0 (if (Int32.ofNat len2) < (Int32.ofNat len) then (Int32.ofNat len2) else (Int32.ofNat len)) len2 len ∧ K (((va_cpy u.2.1 u.1.1 (0 : Int32).toNatClampNeg (0 : Int32).toNatClampNeg ((if (Int32.ofNat len2) < (Int32.ofNat len) then (Int32.ofNat len2) else (Int32.ofNat len)) : Int32).toNatClampNeg), (if u.2.2 < lim then u.2.2 else lim)), u.2))
set_option maxRecDepth 20000 in
set_option maxHeartbeats 4000000 in
theorem t_X4_takeFrom_0 {a b : Nat → Nat} {lim : Int32} {wid : Int32} {len : Nat} {lim2 : Int32} {wid2 : Int32} {len2 : Nat} {K : TS × TS → Prop} (C : bx_C p (rmD 1) S m args meth c cX4_takeFrom 3 yX4_takeFrom.cls none E A 0 0)   (u : TS × TS)  (hv : V_X4_takeFrom lim wid len lim2 wid2 len2 K u ) : G_X4_takeFrom p l e S m args below meth c E A a b lim wid len lim2 wid2 len2 K 0 [(0, .ref (a 0)), (1, .ref (b 0))] [] (w_T E a lim wid len u.1 ++ w_T E b lim2 wid2 len2 u.2) := by
  unfold V_X4_takeFrom at hv
  refine bx_aload_n C 1 dX4_takeFrom_0 rfl rfl rfl ?_
  refine bx_getf (v := .ref (a 1)) C 4 0 2 inX4 rfl (by decide) fl_X4_24 dX4_takeFrom_1 rfl rfl rfl ?_
  refine bx_alen (t0 := 0) C 5 1 dX4_takeFrom_4 rfl rfl rfl rfl ?_
  refine bx_aload_n C 6 dX4_takeFrom_5 rfl rfl rfl ?_
  refine bx_getf (v := .ref (b 1)) C 9 2 2 inX4 rfl (by decide) fl_X4_24 dX4_takeFrom_6 rfl rfl rfl ?_
  refine bx_alen (t0 := 0) C 10 3 dX4_takeFrom_9 rfl rfl rfl rfl ?_
  refine bx_mmin C 13 fm_X4_52 dX4_takeFrom_10 ⟨Nat.le_of_ble_eq_true rfl, Nat.le_of_ble_eq_true rfl⟩ (Nat.le_of_ble_eq_true rfl) rfl ?_
  refine bx_istore_n C 14 dX4_takeFrom_13 rfl (by decide) rfl ?_
  refine bx_aload_n C 15 dX4_takeFrom_14 rfl rfl rfl ?_
  refine bx_getf (v := .ref (b 1)) C 18 2 2 inX4 rfl (by decide) fl_X4_24 dX4_takeFrom_15 rfl rfl rfl ?_
  refine bx_iconst C 0 19 dX4_takeFrom_18 ic_0 rfl ?_
  refine bx_aload_n C 20 dX4_takeFrom_19 rfl rfl rfl ?_
  refine bx_getf (v := .ref (a 1)) C 23 0 2 inX4 rfl (by decide) fl_X4_24 dX4_takeFrom_20 rfl rfl rfl ?_
  refine bx_iconst C 0 24 dX4_takeFrom_23 ic_0 rfl ?_
  refine bx_iload_n C 25 dX4_takeFrom_24 rfl rfl rfl ?_
  refine bx_copyi C 28 3 1 (w_T E a lim wid len ((va_cpy u.2.1 u.1.1 (0 : Int32).toNatClampNeg (0 : Int32).toNatClampNeg ((if (Int32.ofNat len2) < (Int32.ofNat len) then (Int32.ofNat len2) else (Int32.ofNat len)) : Int32).toNatClampNeg), u.1.2) ++ w_T E b lim2 wid2 len2 u.2) fa_X4_42 dX4_takeFrom_25 ⟨Nat.le_of_ble_eq_true rfl, Nat.le_of_ble_eq_true rfl⟩ rfl rfl hv.1 rfl rfl ?_
  replace hv := hv.2
  refine bx_aload_n C 29 dX4_takeFrom_28 rfl rfl rfl ?_
  refine bx_aload_n C 30 dX4_takeFrom_29 rfl rfl rfl ?_
  refine bx_getf (v := .int lim) C 33 0 0 inX4 rfl (by decide) fl_X4_15 dX4_takeFrom_30 rfl rfl rfl ?_
  refine bx_aload_n C 34 dX4_takeFrom_33 rfl rfl rfl ?_
  refine bx_getf (v := .int u.2.2) C 37 2 3 inX4 rfl (by decide) fl_X4_28 dX4_takeFrom_34 rfl rfl rfl ?_
  refine bx_mmin C 40 fm_X4_52 dX4_takeFrom_37 ⟨Nat.le_of_ble_eq_true rfl, Nat.le_of_ble_eq_true rfl⟩ (Nat.le_of_ble_eq_true rfl) rfl ?_
  refine bx_putf C 43 0 3 (w_T E a lim wid len ((va_cpy u.2.1 u.1.1 (0 : Int32).toNatClampNeg (0 : Int32).toNatClampNeg ((if (Int32.ofNat len2) < (Int32.ofNat len) then (Int32.ofNat len2) else (Int32.ofNat len)) : Int32).toNatClampNeg), (if u.2.2 < lim then u.2.2 else lim)) ++ w_T E b lim2 wid2 len2 u.2) inX4 tyX4 tyX4_ok nmX4 rfl (by decide) fl_X4_28 rfl dX4_takeFrom_40 rfl rfl rfl (Nat.le_of_ble_eq_true rfl) rfl rfl ?_
  exact bx_vret C (((va_cpy u.2.1 u.1.1 (0 : Int32).toNatClampNeg (0 : Int32).toNatClampNeg ((if (Int32.ofNat len2) < (Int32.ofNat len) then (Int32.ofNat len2) else (Int32.ofNat len)) : Int32).toNatClampNeg), (if u.2.2 < lim then u.2.2 else lim)), u.2) rfl dX4_takeFrom_43 rfl hv
theorem k_X4_takeFrom (l : Launch) (E : bx_E) (a : Nat → Nat) (b : Nat → Nat) (lim : Int32) (wid : Int32) (len : Nat) (lim2 : Int32) (wid2 : Int32) (len2 : Nat) (K : TS × TS → Prop) (u : TS × TS)  (hv : V_X4_takeFrom lim wid len lim2 wid2 len2 K u ) : bx_Mv l E yX4_takeFrom cX4_takeFrom 3 none (rmD 1) [.ref (a 0), .ref (b 0)] (fun (u : TS × TS) => w_T E a lim wid len u.1 ++ w_T E b lim2 wid2 len2 u.2) u K :=
  bx_metv (by decide +kernel) (Nat.le_of_ble_eq_true rfl) (fun p e S m below meth c C => t_X4_takeFrom_0 C u  hv)
abbrev G_X4_mixInto (p : Program) (l : Launch) (e : Env) (S : State) (m : MethodId) (args : Array Value) (below : List Frame) (meth : Method) (c : Code) (E : bx_E) (A : Nat → Prop) (a : Nat → Nat) (lim : Int32) (wid : Int32) (len : Nat) (u : TS) (K : Int64 → Prop) (pc : Nat) (lv : List (Nat × Value)) (st : List Value) (ws : va_W) : Prop := bx_S p l e (rmD 0) S m args below meth c 6 E A (MQ below (va_Ql (fun r (_ : Unit) => K r) (fun (_ : Unit) t => bx_B E A (w_T E a lim wid len u) t) A) args S 0 0 A) 0 0 pc lv st ws
def V_X4_mixInto_5 (lim : Int32) (wid : Int32) (len : Nat) (K : Int64 → Prop)  : Nat → TS → Int64 → Int32 → Prop
  | 0, _, _, _ => False
  | n + 1, u, x3, x5 => (((u.2 * wid) ≤ x5 → K x3) ∧
 (¬ (u.2 * wid) ≤ x5 → (vp_in x5 len ∧ V_X4_mixInto_5 lim wid len K n u ((31 * x3) + ((u.1 (x5 : Int32).toNatClampNeg) : Int32).toInt64) (x5 + 1))))
set_option maxRecDepth 20000 in
set_option maxHeartbeats 4000000 in
theorem t_X4_mixInto_5 {a : Nat → Nat} {lim : Int32} {wid : Int32} {len : Nat} {K : Int64 → Prop} (C : bx_C p (rmD 0) S m args meth c cX4_mixInto 6 yX4_mixInto.cls (some .long) E A 0 0) (u : TS)  : ∀ (n : Nat)  (x3 : Int64) (x5 : Int32), V_X4_mixInto_5 lim wid len K n u x3 x5 → G_X4_mixInto p l e S m args below meth c E A a lim wid len u K 5 [(0, .ref (a 0)), (3, .long x3), (5, .int x5)] [] (w_T E a lim wid len u) := by
  intro n
  induction n with
  | zero =>
    intro x3 x5 hv
    exact False.elim hv
  | succ n ih =>
    intro x3 x5 hv
    unfold V_X4_mixInto_5 at hv
    refine bx_iload C 7 dX4_mixInto_5 rfl rfl ?_
    refine bx_aload_n C 8 dX4_mixInto_7 rfl rfl rfl ?_
    refine bx_getf (v := .int u.2) C 11 0 3 inX4 rfl (by decide) fl_X4_28 dX4_mixInto_8 rfl rfl rfl ?_
    refine bx_aload_n C 12 dX4_mixInto_11 rfl rfl rfl ?_
    refine bx_getf (v := .int wid) C 15 0 1 inX4 rfl (by decide) fl_X4_21 dX4_mixInto_12 rfl rfl rfl ?_
    refine bx_imul C 16 dX4_mixInto_15 rfl ?_
    refine bx_icmp_ge C 40 19 dX4_mixInto_16 (by decide) rfl (fun h => ?_) (fun h => ?_)
    · replace hv := hv.1 h
      refine bx_lload_n C 41 dX4_mixInto_40 rfl rfl rfl ?_
      exact bx_lret C () rfl dX4_mixInto_41 rfl hv
    · replace hv := hv.2 h
      refine bx_ldc2 C 22 cs_X4_55 dX4_mixInto_19 rfl ?_
      refine bx_lload_n C 23 dX4_mixInto_22 rfl rfl rfl ?_
      refine bx_lmul C 24 dX4_mixInto_23 rfl ?_
      refine bx_aload_n C 25 dX4_mixInto_24 rfl rfl rfl ?_
      refine bx_getf (v := .ref (a 1)) C 28 0 2 inX4 rfl (by decide) fl_X4_24 dX4_mixInto_25 rfl rfl rfl ?_
      refine bx_iload C 30 dX4_mixInto_28 rfl rfl ?_
      refine bx_iald (f := u.1) C 31 1 dX4_mixInto_30 rfl hv.1 rfl ?_
      replace hv := hv.2
      refine bx_i2l C 32 dX4_mixInto_31 rfl ?_
      refine bx_ladd C 33 dX4_mixInto_32 rfl ?_
      refine bx_lstore_n C 34 dX4_mixInto_33 rfl (by decide) rfl ?_
      refine bx_iinc C 1 37 dX4_mixInto_34 rfl (by decide) ic_1 rfl ?_
      refine bx_goto C 5 dX4_mixInto_37 (by decide) ?_
      exact bx_cut [2, 1, 0] (w_T E a lim wid len u) rfl rfl (ih  ((31 * x3) + ((u.1 (x5 : Int32).toNatClampNeg) : Int32).toInt64) (x5 + 1) hv)
def V_X4_mixInto (lim : Int32) (wid : Int32) (len : Nat) (K : Int64 → Prop)  (u : TS) (x1 : Int64) : Prop := ∃ n1, V_X4_mixInto_5 lim wid len K n1 u x1 0
set_option maxRecDepth 20000 in
set_option maxHeartbeats 4000000 in
theorem t_X4_mixInto_0 {a : Nat → Nat} {lim : Int32} {wid : Int32} {len : Nat} {K : Int64 → Prop} (C : bx_C p (rmD 0) S m args meth c cX4_mixInto 6 yX4_mixInto.cls (some .long) E A 0 0) (u : TS)   (x1 : Int64) (hv : V_X4_mixInto lim wid len K u x1) : G_X4_mixInto p l e S m args below meth c E A a lim wid len u K 0 [(0, .ref (a 0)), (1, .long x1)] [] (w_T E a lim wid len u) := by
  unfold V_X4_mixInto at hv
  refine bx_lload_n C 1 dX4_mixInto_0 rfl rfl rfl ?_
  refine bx_lstore_n C 2 dX4_mixInto_1 rfl (by decide) rfl ?_
  refine bx_iconst C 0 3 dX4_mixInto_2 ic_0 rfl ?_
  refine bx_istore C 5 dX4_mixInto_3 (by decide) rfl ?_
  obtain ⟨n1, hv⟩ := hv
  exact bx_cut [2, 1, 0] (w_T E a lim wid len u) rfl rfl (t_X4_mixInto_5 C u  n1  x1 0 hv)
theorem k_X4_mixInto (l : Launch) (E : bx_E) (a : Nat → Nat) (lim : Int32) (wid : Int32) (len : Nat) (K : Int64 → Prop) (u : TS) (x1 : Int64) (hv : V_X4_mixInto lim wid len K u x1) : bx_Ml l E yX4_mixInto cX4_mixInto 6 (some .long) (rmD 0) [.ref (a 0), .long x1] (fun (_ : Unit) => w_T E a lim wid len u) () (fun r (_ : Unit) => K r) :=
  bx_metl (by decide +kernel) (Nat.le_of_ble_eq_true rfl) (fun p e S m below meth c C => t_X4_mixInto_0 C u x1 hv)
abbrev G_X5_reset (p : Program) (l : Launch) (e : Env) (S : State) (m : MethodId) (args : Array Value) (below : List Frame) (meth : Method) (c : Code) (E : bx_E) (A : Nat → Prop) (a : Nat → Nat)  (K : TS → Prop) (pc : Nat) (lv : List (Nat × Value)) (st : List Value) (ws : va_W) : Prop := bx_S p l e (rmD 0) S m args below meth c 2 E A (MQ below (va_Qv K (fun (u : TS) t => bx_B E A (w_Y E a u) t) A) args S 0 0 A) 0 0 pc lv st ws
def V_X5_reset_2  (K : TS → Prop)  : Nat → TS → Int32 → Prop
  | 0, _, _ => False
  | n + 1, u, x1 => ((16 ≤ x1 → K (u.1, 0)) ∧
 (¬ 16 ≤ x1 → (vp_in x1 16 ∧ V_X5_reset_2 K n ((upd u.1 (x1 : Int32).toNatClampNeg 0), u.2) (x1 + 1))))
set_option maxRecDepth 20000 in
set_option maxHeartbeats 4000000 in
theorem t_X5_reset_2 {a : Nat → Nat} {K : TS → Prop} (C : bx_C p (rmD 0) S m args meth c cX5_reset 2 yX5_reset.cls none E A 0 0)   : ∀ (n : Nat) (u : TS) (x1 : Int32), V_X5_reset_2 K n u x1 → G_X5_reset p l e S m args below meth c E A a  K 2 [(0, .ref (a 0)), (1, .int x1)] [] (w_Y E a u) := by
  intro n
  induction n with
  | zero =>
    intro u x1 hv
    exact False.elim hv
  | succ n ih =>
    intro u x1 hv
    unfold V_X5_reset_2 at hv
    refine bx_iload_n C 3 dX5_reset_2 rfl rfl rfl ?_
    refine bx_aload_n C 4 dX5_reset_3 rfl rfl rfl ?_
    refine bx_getf (v := .ref (a 1)) C 7 0 0 inX5 rfl (by decide) fl_X5_7 dX5_reset_4 rfl rfl rfl ?_
    refine bx_alen (t0 := 0) C 8 1 dX5_reset_7 rfl rfl al_16 rfl ?_
    refine bx_icmp_ge C 24 11 dX5_reset_8 (by decide) rfl (fun h => ?_) (fun h => ?_)
    · replace hv := hv.1 h
      refine bx_aload_n C 25 dX5_reset_24 rfl rfl rfl ?_
      refine bx_iconst C 0 26 dX5_reset_25 ic_0 rfl ?_
      refine bx_putf C 29 0 1 (w_Y E a (u.1, 0)) inX5 tyX5 tyX5_ok nmX5 rfl (by decide) fl_X5_13 rfl dX5_reset_26 rfl rfl rfl (Nat.le_of_ble_eq_true rfl) rfl rfl ?_
      exact bx_vret C (u.1, 0) rfl dX5_reset_29 rfl hv
    · replace hv := hv.2 h
      refine bx_aload_n C 12 dX5_reset_11 rfl rfl rfl ?_
      refine bx_getf (v := .ref (a 1)) C 15 0 0 inX5 rfl (by decide) fl_X5_7 dX5_reset_12 rfl rfl rfl ?_
      refine bx_iload_n C 16 dX5_reset_15 rfl rfl rfl ?_
      refine bx_iconst C 0 17 dX5_reset_16 ic_0 rfl ?_
      refine bx_iast C 18 1 (w_Y E a ((upd u.1 (x1 : Int32).toNatClampNeg 0), u.2)) dX5_reset_17 rfl hv.1 rfl rfl ?_
      replace hv := hv.2
      refine bx_iinc C 1 21 dX5_reset_18 rfl (by decide) ic_1 rfl ?_
      refine bx_goto C 2 dX5_reset_21 (by decide) ?_
      exact bx_cut [1, 0] (w_Y E a ((upd u.1 (x1 : Int32).toNatClampNeg 0), u.2)) rfl rfl (ih ((upd u.1 (x1 : Int32).toNatClampNeg 0), u.2) (x1 + 1) hv)
def V_X5_reset  (K : TS → Prop)  (u : TS)  : Prop := ∃ n1, V_X5_reset_2 K n1 u 0
set_option maxRecDepth 20000 in
set_option maxHeartbeats 4000000 in
theorem t_X5_reset_0 {a : Nat → Nat} {K : TS → Prop} (C : bx_C p (rmD 0) S m args meth c cX5_reset 2 yX5_reset.cls none E A 0 0)   (u : TS)  (hv : V_X5_reset K u ) : G_X5_reset p l e S m args below meth c E A a  K 0 [(0, .ref (a 0))] [] (w_Y E a u) := by
  unfold V_X5_reset at hv
  refine bx_iconst C 0 1 dX5_reset_0 ic_0 rfl ?_
  refine bx_istore_n C 2 dX5_reset_1 rfl (by decide) rfl ?_
  obtain ⟨n1, hv⟩ := hv
  exact bx_cut [1, 0] (w_Y E a u) rfl rfl (t_X5_reset_2 C   n1 u 0 hv)
theorem k_X5_reset (l : Launch) (E : bx_E) (a : Nat → Nat)  (K : TS → Prop) (u : TS)  (hv : V_X5_reset  K u ) : bx_Mv l E yX5_reset cX5_reset 2 none (rmD 0) [.ref (a 0)] (fun (u : TS) => w_Y E a u) u K :=
  bx_metv (by decide +kernel) (Nat.le_of_ble_eq_true rfl) (fun p e S m below meth c C => t_X5_reset_0 C u  hv)
abbrev G_X5_add (p : Program) (l : Launch) (e : Env) (S : State) (m : MethodId) (args : Array Value) (below : List Frame) (meth : Method) (c : Code) (E : bx_E) (A : Nat → Prop) (a : Nat → Nat)  (K : TS → Prop) (pc : Nat) (lv : List (Nat × Value)) (st : List Value) (ws : va_W) : Prop := bx_S p l e (rmD 1) S m args below meth c 2 E A (MQ below (va_Qv K (fun (u : TS) t => bx_B E A (w_Y E a u) t) A) args S 0 0 A) 0 0 pc lv st ws
def V_X5_add  (K : TS → Prop)  (u : TS) (x1 : Int32) : Prop := (V_X7_within (fun r1 => ((r1 = 0 → K u) ∧
 (¬ r1 = 0 → (vp_in x1 16 ∧ (vp_in x1 16 ∧ (vp_in x1 16 ∧ K ((upd u.1 (x1 : Int32).toNatClampNeg ((u.1 (x1 : Int32).toNatClampNeg) + 1)), (if u.2 < ((upd u.1 (x1 : Int32).toNatClampNeg ((u.1 (x1 : Int32).toNatClampNeg) + 1)) (x1 : Int32).toNatClampNeg) then ((upd u.1 (x1 : Int32).toNatClampNeg ((u.1 (x1 : Int32).toNatClampNeg) + 1)) (x1 : Int32).toNatClampNeg) else u.2))))))))  x1 16)
set_option maxRecDepth 20000 in
set_option maxHeartbeats 4000000 in
theorem t_X5_add_0 {a : Nat → Nat} {K : TS → Prop} (C : bx_C p (rmD 1) S m args meth c cX5_add 2 yX5_add.cls none E A 0 0)   (u : TS) (x1 : Int32) (hv : V_X5_add K u x1) : G_X5_add p l e S m args below meth c E A a  K 0 [(0, .ref (a 0)), (1, .int x1)] [] (w_Y E a u) := by
  unfold V_X5_add at hv
  refine bx_iload_n C 1 dX5_add_0 rfl rfl rfl ?_
  refine bx_aload_n C 2 dX5_add_1 rfl rfl rfl ?_
  refine bx_getf (v := .ref (a 1)) C 5 0 0 inX5 rfl (by decide) fl_X5_7 dX5_add_2 rfl rfl rfl ?_
  refine bx_alen (t0 := 0) C 6 1 dX5_add_5 rfl rfl al_16 rfl ?_
  refine bx_pSNi C 9 fc_X5_17 (k_X7_within l E  _ _ _ hv) dX5_add_6 ⟨rfl, rfl, Nat.le_of_ble_eq_true rfl, Nat.le_of_ble_eq_true rfl⟩ [] rfl (by decide) rfl rfl (Nat.le_of_ble_eq_true rfl) rfl (fun r1 hv => ?_)
  refine bx_if_eq C 39 12 dX5_add_9 (by decide) rfl (fun h => ?_) (fun h => ?_)
  · replace hv := hv.1 h
    exact bx_vret C u rfl dX5_add_39 rfl hv
  · replace hv := hv.2 h
    refine bx_aload_n C 13 dX5_add_12 rfl rfl rfl ?_
    refine bx_getf (v := .ref (a 1)) C 16 0 0 inX5 rfl (by decide) fl_X5_7 dX5_add_13 rfl rfl rfl ?_
    refine bx_iload_n C 17 dX5_add_16 rfl rfl rfl ?_
    refine bx_dup2_11 C 18 dX5_add_17 rfl rfl rfl ?_
    refine bx_iald (f := u.1) C 19 1 dX5_add_18 rfl hv.1 rfl ?_
    replace hv := hv.2
    refine bx_iconst C 1 20 dX5_add_19 ic_1 rfl ?_
    refine bx_iadd C 21 dX5_add_20 rfl ?_
    refine bx_iast C 22 1 (w_Y E a ((upd u.1 (x1 : Int32).toNatClampNeg ((u.1 (x1 : Int32).toNatClampNeg) + 1)), u.2)) dX5_add_21 rfl hv.1 rfl rfl ?_
    replace hv := hv.2
    refine bx_aload_n C 23 dX5_add_22 rfl rfl rfl ?_
    refine bx_aload_n C 24 dX5_add_23 rfl rfl rfl ?_
    refine bx_getf (v := .int u.2) C 27 0 1 inX5 rfl (by decide) fl_X5_13 dX5_add_24 rfl rfl rfl ?_
    refine bx_aload_n C 28 dX5_add_27 rfl rfl rfl ?_
    refine bx_getf (v := .ref (a 1)) C 31 0 0 inX5 rfl (by decide) fl_X5_7 dX5_add_28 rfl rfl rfl ?_
    refine bx_iload_n C 32 dX5_add_31 rfl rfl rfl ?_
    refine bx_iald (f := (upd u.1 (x1 : Int32).toNatClampNeg ((u.1 (x1 : Int32).toNatClampNeg) + 1))) C 33 1 dX5_add_32 rfl hv.1 rfl ?_
    replace hv := hv.2
    refine bx_mmax C 36 fm_X5_23 dX5_add_33 ⟨Nat.le_of_ble_eq_true rfl, Nat.le_of_ble_eq_true rfl⟩ (Nat.le_of_ble_eq_true rfl) rfl ?_
    refine bx_putf C 39 0 1 (w_Y E a ((upd u.1 (x1 : Int32).toNatClampNeg ((u.1 (x1 : Int32).toNatClampNeg) + 1)), (if u.2 < ((upd u.1 (x1 : Int32).toNatClampNeg ((u.1 (x1 : Int32).toNatClampNeg) + 1)) (x1 : Int32).toNatClampNeg) then ((upd u.1 (x1 : Int32).toNatClampNeg ((u.1 (x1 : Int32).toNatClampNeg) + 1)) (x1 : Int32).toNatClampNeg) else u.2))) inX5 tyX5 tyX5_ok nmX5 rfl (by decide) fl_X5_13 rfl dX5_add_36 rfl rfl rfl (Nat.le_of_ble_eq_true rfl) rfl rfl ?_
    exact bx_vret C ((upd u.1 (x1 : Int32).toNatClampNeg ((u.1 (x1 : Int32).toNatClampNeg) + 1)), (if u.2 < ((upd u.1 (x1 : Int32).toNatClampNeg ((u.1 (x1 : Int32).toNatClampNeg) + 1)) (x1 : Int32).toNatClampNeg) then ((upd u.1 (x1 : Int32).toNatClampNeg ((u.1 (x1 : Int32).toNatClampNeg) + 1)) (x1 : Int32).toNatClampNeg) else u.2)) rfl dX5_add_39 rfl hv
theorem k_X5_add (l : Launch) (E : bx_E) (a : Nat → Nat)  (K : TS → Prop) (u : TS) (x1 : Int32) (hv : V_X5_add  K u x1) : bx_Mv l E yX5_add cX5_add 2 none (rmD 1) [.ref (a 0), .int x1] (fun (u : TS) => w_Y E a u) u K :=
  bx_metv (by decide +kernel) (Nat.le_of_ble_eq_true rfl) (fun p e S m below meth c C => t_X5_add_0 C u x1 hv)
end
