section
variable {p : Program} {l : Launch} {e : Env} {S : State} {m : MethodId} {args : Array Value} {below : List Frame} {meth : Method} {c : Code} {E : bx_E} {A : Nat → Prop}
abbrev G_X2_owns (p : Program) (l : Launch) (e : Env) (S : State) (m : MethodId) (args : Array Value) (below : List Frame) (meth : Method) (c : Code) (E : bx_E) (A : Nat → Prop) (a : Nat → Nat)  (u : HS) (K : Int32 → Prop) (pc : Nat) (lv : List (Nat × Value)) (st : List Value) (ws : va_W) : Prop := bx_S p l e (rmD 1) S m args below meth c 3 E A (MQ below (va_Qi (fun r (_ : Unit) => K r) (fun (_ : Unit) t => bx_B E A (w_H E a u) t) A) args S 0 0 A) 0 0 pc lv st ws
def V_X2_owns_12  (K : Int32 → Prop)  : Nat → HS → Int32 → Int32 → Prop
  | 0, _, _, _ => False
  | n + 1, u, x1, x2 => ((x1 ≤ x2 → K 1) ∧
 (¬ x1 ≤ x2 → (V_X0_sits (fun r1 => ((r1 = 0 → V_X2_owns_12 K n u x1 (x2 + 1)) ∧
 (¬ r1 = 0 → (vp_in x2 7 ∧ (vp_in x1 7 ∧ ((¬ (u.2.2.1 (x2 : Int32).toNatClampNeg) = (u.2.2.1 (x1 : Int32).toNatClampNeg) → V_X2_owns_12 K n u x1 (x2 + 1)) ∧
 ((u.2.2.1 (x2 : Int32).toNatClampNeg) = (u.2.2.1 (x1 : Int32).toNatClampNeg) → K 0))))))) u x2)))
set_option maxRecDepth 20000 in
set_option maxHeartbeats 4000000 in
theorem t_X2_owns_12 {a : Nat → Nat} {K : Int32 → Prop} (C : bx_C p (rmD 1) S m args meth c cX2_owns 3 yX2_owns.cls (some .boolean) E A 0 0) (u : HS)  : ∀ (n : Nat)  (x1 : Int32) (x2 : Int32), V_X2_owns_12 K n u x1 x2 → G_X2_owns p l e S m args below meth c E A a  u K 12 [(0, .ref (a 0)), (1, .int x1), (2, .int x2)] [] (w_H E a u) := by
  intro n
  induction n with
  | zero =>
    intro x1 x2 hv
    exact False.elim hv
  | succ n ih =>
    intro x1 x2 hv
    unfold V_X2_owns_12 at hv
    refine bx_iload_n C 13 dX2_owns_12 rfl rfl rfl ?_
    refine bx_iload_n C 14 dX2_owns_13 rfl rfl rfl ?_
    refine bx_icmp_ge C 48 17 dX2_owns_14 (by decide) rfl (fun h => ?_) (fun h => ?_)
    · replace hv := hv.1 h
      refine bx_iconst C 1 49 dX2_owns_48 ic_1 rfl ?_
      exact bx_zret C () rfl dX2_owns_49 rfl (Or.inr rfl) hv
    · replace hv := hv.2 h
      refine bx_aload_n C 18 dX2_owns_17 rfl rfl rfl ?_
      refine bx_iload_n C 19 dX2_owns_18 rfl rfl rfl ?_
      refine bx_pVi C 0 at_H_0 rfl 22 fc_X2_31 (k_X0_sits l E a _ _ _ hv) dX2_owns_19 ⟨rfl, rfl, Nat.le_of_ble_eq_true rfl, Nat.le_of_ble_eq_true rfl⟩ [0, 1, 2, 3, 4, 5, 6, 7, 8, 9, 10, 11, 12] ps_H_H_0 (by decide) rfl rfl (Nat.le_of_ble_eq_true rfl) rfl (fun r1 hv => ?_)
      refine bx_if_eq C 42 25 dX2_owns_22 (by decide) rfl (fun h => ?_) (fun h => ?_)
      · replace hv := hv.1 h
        refine bx_iinc C 1 45 dX2_owns_42 rfl (by decide) ic_1 rfl ?_
        refine bx_goto C 12 dX2_owns_45 (by decide) ?_
        exact bx_cut [1, 2, 0] (w_H E a u) rfl rfl (ih  x1 (x2 + 1) hv)
      · replace hv := hv.2 h
        refine bx_aload_n C 26 dX2_owns_25 rfl rfl rfl ?_
        refine bx_getf (v := .ref (a 3)) C 29 0 2 inX0 rfl (by decide) fl_X2_25 dX2_owns_26 at_H_0 rfl rfl ?_
        refine bx_iload_n C 30 dX2_owns_29 rfl rfl rfl ?_
        refine bx_iald (f := u.2.2.1) C 31 3 dX2_owns_30 at_H_3 hv.1 rfl ?_
        replace hv := hv.2
        refine bx_aload_n C 32 dX2_owns_31 rfl rfl rfl ?_
        refine bx_getf (v := .ref (a 3)) C 35 0 2 inX0 rfl (by decide) fl_X2_25 dX2_owns_32 at_H_0 rfl rfl ?_
        refine bx_iload_n C 36 dX2_owns_35 rfl rfl rfl ?_
        refine bx_iald (f := u.2.2.1) C 37 3 dX2_owns_36 at_H_3 hv.1 rfl ?_
        replace hv := hv.2
        refine bx_icmp_ne C 42 40 dX2_owns_37 (by decide) rfl (fun h => ?_) (fun h => ?_)
        · replace hv := hv.1 h
          refine bx_iinc C 1 45 dX2_owns_42 rfl (by decide) ic_1 rfl ?_
          refine bx_goto C 12 dX2_owns_45 (by decide) ?_
          exact bx_cut [1, 2, 0] (w_H E a u) rfl rfl (ih  x1 (x2 + 1) hv)
        · replace hv := hv.2 h
          refine bx_iconst C 0 41 dX2_owns_40 ic_0 rfl ?_
          exact bx_zret C () rfl dX2_owns_41 rfl (Or.inl rfl) hv
def V_X2_owns  (K : Int32 → Prop)  (u : HS) (x1 : Int32) : Prop := (V_X0_sits (fun r2 => ((¬ r2 = 0 → ∃ n3, V_X2_owns_12 K n3 u x1 0) ∧
 (r2 = 0 → K 0))) u x1)
set_option maxRecDepth 20000 in
set_option maxHeartbeats 4000000 in
theorem t_X2_owns_0 {a : Nat → Nat} {K : Int32 → Prop} (C : bx_C p (rmD 1) S m args meth c cX2_owns 3 yX2_owns.cls (some .boolean) E A 0 0) (u : HS)   (x1 : Int32) (hv : V_X2_owns K u x1) : G_X2_owns p l e S m args below meth c E A a  u K 0 [(0, .ref (a 0)), (1, .int x1)] [] (w_H E a u) := by
  unfold V_X2_owns at hv
  refine bx_aload_n C 1 dX2_owns_0 rfl rfl rfl ?_
  refine bx_iload_n C 2 dX2_owns_1 rfl rfl rfl ?_
  refine bx_pVi C 0 at_H_0 rfl 5 fc_X2_31 (k_X0_sits l E a _ _ _ hv) dX2_owns_2 ⟨rfl, rfl, Nat.le_of_ble_eq_true rfl, Nat.le_of_ble_eq_true rfl⟩ [0, 1, 2, 3, 4, 5, 6, 7, 8, 9, 10, 11, 12] ps_H_H_0 (by decide) rfl rfl (Nat.le_of_ble_eq_true rfl) rfl (fun r2 hv => ?_)
  refine bx_if_ne C 10 8 dX2_owns_5 (by decide) rfl (fun h => ?_) (fun h => ?_)
  · replace hv := hv.1 h
    refine bx_iconst C 0 11 dX2_owns_10 ic_0 rfl ?_
    refine bx_istore_n C 12 dX2_owns_11 rfl (by decide) rfl ?_
    obtain ⟨n3, hv⟩ := hv
    exact bx_cut [1, 2, 0] (w_H E a u) rfl rfl (t_X2_owns_12 C u  n3  x1 0 hv)
  · replace hv := hv.2 h
    refine bx_iconst C 0 9 dX2_owns_8 ic_0 rfl ?_
    exact bx_zret C () rfl dX2_owns_9 rfl (Or.inl rfl) hv
theorem k_X2_owns (l : Launch) (E : bx_E) (a : Nat → Nat)  (K : Int32 → Prop) (u : HS) (x1 : Int32) (hv : V_X2_owns  K u x1) : bx_Mi l E yX2_owns cX2_owns 3 (some .boolean) (rmD 1) [.ref (a 0), .int x1] (fun (_ : Unit) => w_H E a u) () (fun r (_ : Unit) => K r) :=
  bx_meti (by decide +kernel) (Nat.le_of_ble_eq_true rfl) (fun p e S m below meth c C => t_X2_owns_0 C u x1 hv)
abbrev G_X2_leadsRing (p : Program) (l : Launch) (e : Env) (S : State) (m : MethodId) (args : Array Value) (below : List Frame) (meth : Method) (c : Code) (E : bx_E) (A : Nat → Prop) (a : Nat → Nat)  (u : HS) (K : Int32 → Prop) (pc : Nat) (lv : List (Nat × Value)) (st : List Value) (ws : va_W) : Prop := bx_S p l e (rmD 2) S m args below meth c 4 E A (MQ below (va_Qi (fun r (_ : Unit) => K r) (fun (_ : Unit) t => bx_B E A (w_H E a u) t) A) args S 0 0 A) 0 0 pc lv st ws
def V_X2_leadsRing_4  (K : Int32 → Prop)  : Nat → HS → Int32 → Int32 → Int32 → Prop
  | 0, _, _, _, _ => False
  | n + 1, u, x1, x2, x3 => ((7 ≤ x3 → K 0) ∧
 (¬ 7 ≤ x3 → (vp_in x2 7 ∧ (V_X0_sitterAt (fun r1 => ((¬ r1 = x1 → ((r1 < x1 → K 0) ∧
 (¬ r1 < x1 → (V_X2_owns (fun r2 => ((¬ r2 = 0 → V_X2_leadsRing_4 K n u x1 r1 (x3 + 1)) ∧
 (r2 = 0 → K 0))) u r1)))) ∧
 (r1 = x1 → K 1))) u (u.2.2.1 (x2 : Int32).toNatClampNeg)))))
set_option maxRecDepth 20000 in
set_option maxHeartbeats 4000000 in
theorem t_X2_leadsRing_4 {a : Nat → Nat} {K : Int32 → Prop} (C : bx_C p (rmD 2) S m args meth c cX2_leadsRing 4 yX2_leadsRing.cls (some .boolean) E A 0 0) (u : HS)  : ∀ (n : Nat)  (x1 : Int32) (x2 : Int32) (x3 : Int32), V_X2_leadsRing_4 K n u x1 x2 x3 → G_X2_leadsRing p l e S m args below meth c E A a  u K 4 [(0, .ref (a 0)), (1, .int x1), (2, .int x2), (3, .int x3)] [] (w_H E a u) := by
  intro n
  induction n with
  | zero =>
    intro x1 x2 x3 hv
    exact False.elim hv
  | succ n ih =>
    intro x1 x2 x3 hv
    unfold V_X2_leadsRing_4 at hv
    refine bx_iload_n C 5 dX2_leadsRing_4 rfl rfl rfl ?_
    refine bx_bipush C 7 7 dX2_leadsRing_5 bp_7 rfl ?_
    refine bx_icmp_ge C 49 10 dX2_leadsRing_7 (by decide) rfl (fun h => ?_) (fun h => ?_)
    · replace hv := hv.1 h
      refine bx_iconst C 0 50 dX2_leadsRing_49 ic_0 rfl ?_
      exact bx_zret C () rfl dX2_leadsRing_50 rfl (Or.inl rfl) hv
    · replace hv := hv.2 h
      refine bx_aload_n C 11 dX2_leadsRing_10 rfl rfl rfl ?_
      refine bx_aload_n C 12 dX2_leadsRing_11 rfl rfl rfl ?_
      refine bx_getf (v := .ref (a 3)) C 15 0 2 inX0 rfl (by decide) fl_X2_25 dX2_leadsRing_12 at_H_0 rfl rfl ?_
      refine bx_iload_n C 16 dX2_leadsRing_15 rfl rfl rfl ?_
      refine bx_iald (f := u.2.2.1) C 17 3 dX2_leadsRing_16 at_H_3 hv.1 rfl ?_
      replace hv := hv.2
      refine bx_pVi C 0 at_H_0 rfl 20 fc_X2_35 (k_X0_sitterAt l E a _ _ _ hv) dX2_leadsRing_17 ⟨rfl, rfl, Nat.le_of_ble_eq_true rfl, Nat.le_of_ble_eq_true rfl⟩ [0, 1, 2, 3, 4, 5, 6, 7, 8, 9, 10, 11, 12] ps_H_H_0 (by decide) rfl rfl (Nat.le_of_ble_eq_true rfl) rfl (fun r1 hv => ?_)
      refine bx_istore_n C 21 dX2_leadsRing_20 rfl (by decide) rfl ?_
      refine bx_iload_n C 22 dX2_leadsRing_21 rfl rfl rfl ?_
      refine bx_iload_n C 23 dX2_leadsRing_22 rfl rfl rfl ?_
      refine bx_icmp_ne C 28 26 dX2_leadsRing_23 (by decide) rfl (fun h => ?_) (fun h => ?_)
      · replace hv := hv.1 h
        refine bx_iload_n C 29 dX2_leadsRing_28 rfl rfl rfl ?_
        refine bx_iload_n C 30 dX2_leadsRing_29 rfl rfl rfl ?_
        refine bx_icmp_lt C 41 33 dX2_leadsRing_30 (by decide) rfl (fun h => ?_) (fun h => ?_)
        · replace hv := hv.1 h
          refine bx_iconst C 0 42 dX2_leadsRing_41 ic_0 rfl ?_
          exact bx_zret C () rfl dX2_leadsRing_42 rfl (Or.inl rfl) hv
        · replace hv := hv.2 h
          refine bx_aload_n C 34 dX2_leadsRing_33 rfl rfl rfl ?_
          refine bx_iload_n C 35 dX2_leadsRing_34 rfl rfl rfl ?_
          refine bx_pSi C 38 fc_X2_15 (k_X2_owns l E a _ _ _ hv) dX2_leadsRing_35 ⟨rfl, rfl, Nat.le_of_ble_eq_true rfl, Nat.le_of_ble_eq_true rfl⟩ [0, 1, 2, 3, 4, 5, 6, 7, 8, 9, 10, 11, 12] ps_H_H_0 (by decide) rfl rfl (Nat.le_of_ble_eq_true rfl) rfl (fun r2 hv => ?_)
          refine bx_if_ne C 43 41 dX2_leadsRing_38 (by decide) rfl (fun h => ?_) (fun h => ?_)
          · replace hv := hv.1 h
            refine bx_iinc C 1 46 dX2_leadsRing_43 rfl (by decide) ic_1 rfl ?_
            refine bx_goto C 4 dX2_leadsRing_46 (by decide) ?_
            exact bx_cut [2, 3, 1, 0] (w_H E a u) rfl rfl (ih  x1 r1 (x3 + 1) hv)
          · replace hv := hv.2 h
            refine bx_iconst C 0 42 dX2_leadsRing_41 ic_0 rfl ?_
            exact bx_zret C () rfl dX2_leadsRing_42 rfl (Or.inl rfl) hv
      · replace hv := hv.2 h
        refine bx_iconst C 1 27 dX2_leadsRing_26 ic_1 rfl ?_
        exact bx_zret C () rfl dX2_leadsRing_27 rfl (Or.inr rfl) hv
def V_X2_leadsRing  (K : Int32 → Prop)  (u : HS) (x1 : Int32) : Prop := ∃ n3, V_X2_leadsRing_4 K n3 u x1 x1 0
set_option maxRecDepth 20000 in
set_option maxHeartbeats 4000000 in
theorem t_X2_leadsRing_0 {a : Nat → Nat} {K : Int32 → Prop} (C : bx_C p (rmD 2) S m args meth c cX2_leadsRing 4 yX2_leadsRing.cls (some .boolean) E A 0 0) (u : HS)   (x1 : Int32) (hv : V_X2_leadsRing K u x1) : G_X2_leadsRing p l e S m args below meth c E A a  u K 0 [(0, .ref (a 0)), (1, .int x1)] [] (w_H E a u) := by
  unfold V_X2_leadsRing at hv
  refine bx_iload_n C 1 dX2_leadsRing_0 rfl rfl rfl ?_
  refine bx_istore_n C 2 dX2_leadsRing_1 rfl (by decide) rfl ?_
  refine bx_iconst C 0 3 dX2_leadsRing_2 ic_0 rfl ?_
  refine bx_istore_n C 4 dX2_leadsRing_3 rfl (by decide) rfl ?_
  obtain ⟨n3, hv⟩ := hv
  exact bx_cut [2, 3, 1, 0] (w_H E a u) rfl rfl (t_X2_leadsRing_4 C u  n3  x1 x1 0 hv)
theorem k_X2_leadsRing (l : Launch) (E : bx_E) (a : Nat → Nat)  (K : Int32 → Prop) (u : HS) (x1 : Int32) (hv : V_X2_leadsRing  K u x1) : bx_Mi l E yX2_leadsRing cX2_leadsRing 4 (some .boolean) (rmD 2) [.ref (a 0), .int x1] (fun (_ : Unit) => w_H E a u) () (fun r (_ : Unit) => K r) :=
  bx_meti (by decide +kernel) (Nat.le_of_ble_eq_true rfl) (fun p e S m below meth c C => t_X2_leadsRing_0 C u x1 hv)
abbrev G_X2_fewestSwaps (p : Program) (l : Launch) (e : Env) (S : State) (m : MethodId) (args : Array Value) (below : List Frame) (meth : Method) (c : Code) (E : bx_E) (A : Nat → Prop) (a : Nat → Nat)  (u : HS) (K : Int32 → Prop) (pc : Nat) (lv : List (Nat × Value)) (st : List Value) (ws : va_W) : Prop := bx_S p l e (rmD 3) S m args below meth c 3 E A (MQ below (va_Qi (fun r (_ : Unit) => K r) (fun (_ : Unit) t => bx_B E A (w_H E a u) t) A) args S 0 0 A) 0 0 pc lv st ws
def V_X2_fewestSwaps_4  (K : Int32 → Prop)  : Nat → HS → Int32 → Int32 → Prop
  | 0, _, _, _ => False
  | n + 1, u, x1, x2 => ((u.2.2.2.2.1 ≤ x2 → K x1) ∧
 (¬ u.2.2.2.2.1 ≤ x2 → (V_X2_owns (fun r1 => ((r1 = 0 → V_X2_fewestSwaps_4 K n u x1 (x2 + 1)) ∧
 (¬ r1 = 0 → (vp_in x2 7 ∧ (vp_in x2 7 ∧ (((u.2.2.2.1 (x2 : Int32).toNatClampNeg) = (u.2.2.1 (x2 : Int32).toNatClampNeg) → V_X2_fewestSwaps_4 K n u x1 (x2 + 1)) ∧
 (¬ (u.2.2.2.1 (x2 : Int32).toNatClampNeg) = (u.2.2.1 (x2 : Int32).toNatClampNeg) → (V_X2_leadsRing (fun r2 => ((r2 = 0 → V_X2_fewestSwaps_4 K n u (x1 + 1) (x2 + 1)) ∧
 (¬ r2 = 0 → V_X2_fewestSwaps_4 K n u (x1 + 0) (x2 + 1)))) u x2)))))))) u x2)))
set_option maxRecDepth 20000 in
set_option maxHeartbeats 4000000 in
theorem t_X2_fewestSwaps_4 {a : Nat → Nat} {K : Int32 → Prop} (C : bx_C p (rmD 3) S m args meth c cX2_fewestSwaps 3 yX2_fewestSwaps.cls (some .int) E A 0 0) (u : HS)  : ∀ (n : Nat)  (x1 : Int32) (x2 : Int32), V_X2_fewestSwaps_4 K n u x1 x2 → G_X2_fewestSwaps p l e S m args below meth c E A a  u K 4 [(0, .ref (a 0)), (1, .int x1), (2, .int x2)] [] (w_H E a u) := by
  intro n
  induction n with
  | zero =>
    intro x1 x2 hv
    exact False.elim hv
  | succ n ih =>
    intro x1 x2 hv
    unfold V_X2_fewestSwaps_4 at hv
    refine bx_iload_n C 5 dX2_fewestSwaps_4 rfl rfl rfl ?_
    refine bx_aload_n C 6 dX2_fewestSwaps_5 rfl rfl rfl ?_
    refine bx_getf (v := .int u.2.2.2.2.1) C 9 0 4 inX0 rfl (by decide) fl_X2_9 dX2_fewestSwaps_6 at_H_0 rfl rfl ?_
    refine bx_icmp_ge C 57 12 dX2_fewestSwaps_9 (by decide) rfl (fun h => ?_) (fun h => ?_)
    · replace hv := hv.1 h
      refine bx_iload_n C 58 dX2_fewestSwaps_57 rfl rfl rfl ?_
      exact bx_iret C () rfl dX2_fewestSwaps_58 rfl hv
    · replace hv := hv.2 h
      refine bx_aload_n C 13 dX2_fewestSwaps_12 rfl rfl rfl ?_
      refine bx_iload_n C 14 dX2_fewestSwaps_13 rfl rfl rfl ?_
      refine bx_pSi C 17 fc_X2_15 (k_X2_owns l E a _ _ _ hv) dX2_fewestSwaps_14 ⟨rfl, rfl, Nat.le_of_ble_eq_true rfl, Nat.le_of_ble_eq_true rfl⟩ [0, 1, 2, 3, 4, 5, 6, 7, 8, 9, 10, 11, 12] ps_H_H_0 (by decide) rfl rfl (Nat.le_of_ble_eq_true rfl) rfl (fun r1 hv => ?_)
      refine bx_if_eq C 51 20 dX2_fewestSwaps_17 (by decide) rfl (fun h => ?_) (fun h => ?_)
      · replace hv := hv.1 h
        refine bx_iinc C 1 54 dX2_fewestSwaps_51 rfl (by decide) ic_1 rfl ?_
        refine bx_goto C 4 dX2_fewestSwaps_54 (by decide) ?_
        exact bx_cut [1, 2, 0] (w_H E a u) rfl rfl (ih  x1 (x2 + 1) hv)
      · replace hv := hv.2 h
        refine bx_aload_n C 21 dX2_fewestSwaps_20 rfl rfl rfl ?_
        refine bx_getf (v := .ref (a 4)) C 24 0 3 inX0 rfl (by decide) fl_X2_21 dX2_fewestSwaps_21 at_H_0 rfl rfl ?_
        refine bx_iload_n C 25 dX2_fewestSwaps_24 rfl rfl rfl ?_
        refine bx_iald (f := u.2.2.2.1) C 26 4 dX2_fewestSwaps_25 at_H_4 hv.1 rfl ?_
        replace hv := hv.2
        refine bx_aload_n C 27 dX2_fewestSwaps_26 rfl rfl rfl ?_
        refine bx_getf (v := .ref (a 3)) C 30 0 2 inX0 rfl (by decide) fl_X2_25 dX2_fewestSwaps_27 at_H_0 rfl rfl ?_
        refine bx_iload_n C 31 dX2_fewestSwaps_30 rfl rfl rfl ?_
        refine bx_iald (f := u.2.2.1) C 32 3 dX2_fewestSwaps_31 at_H_3 hv.1 rfl ?_
        replace hv := hv.2
        refine bx_icmp_eq C 51 35 dX2_fewestSwaps_32 (by decide) rfl (fun h => ?_) (fun h => ?_)
        · replace hv := hv.1 h
          refine bx_iinc C 1 54 dX2_fewestSwaps_51 rfl (by decide) ic_1 rfl ?_
          refine bx_goto C 4 dX2_fewestSwaps_54 (by decide) ?_
          exact bx_cut [1, 2, 0] (w_H E a u) rfl rfl (ih  x1 (x2 + 1) hv)
        · replace hv := hv.2 h
          refine bx_iload_n C 36 dX2_fewestSwaps_35 rfl rfl rfl ?_
          refine bx_aload_n C 37 dX2_fewestSwaps_36 rfl rfl rfl ?_
          refine bx_iload_n C 38 dX2_fewestSwaps_37 rfl rfl rfl ?_
          refine bx_pSi C 41 fc_X2_28 (k_X2_leadsRing l E a _ _ _ hv) dX2_fewestSwaps_38 ⟨rfl, rfl, Nat.le_of_ble_eq_true rfl, Nat.le_of_ble_eq_true rfl⟩ [0, 1, 2, 3, 4, 5, 6, 7, 8, 9, 10, 11, 12] ps_H_H_0 (by decide) rfl rfl (Nat.le_of_ble_eq_true rfl) rfl (fun r2 hv => ?_)
          refine bx_if_eq C 48 44 dX2_fewestSwaps_41 (by decide) rfl (fun h => ?_) (fun h => ?_)
          · replace hv := hv.1 h
            refine bx_iconst C 1 49 dX2_fewestSwaps_48 ic_1 rfl ?_
            refine bx_iadd C 50 dX2_fewestSwaps_49 rfl ?_
            refine bx_istore_n C 51 dX2_fewestSwaps_50 rfl (by decide) rfl ?_
            refine bx_iinc C 1 54 dX2_fewestSwaps_51 rfl (by decide) ic_1 rfl ?_
            refine bx_goto C 4 dX2_fewestSwaps_54 (by decide) ?_
            exact bx_cut [2, 1, 0] (w_H E a u) rfl rfl (ih  (x1 + 1) (x2 + 1) hv)
          · replace hv := hv.2 h
            refine bx_iconst C 0 45 dX2_fewestSwaps_44 ic_0 rfl ?_
            refine bx_goto C 49 dX2_fewestSwaps_45 (by decide) ?_
            refine bx_iadd C 50 dX2_fewestSwaps_49 rfl ?_
            refine bx_istore_n C 51 dX2_fewestSwaps_50 rfl (by decide) rfl ?_
            refine bx_iinc C 1 54 dX2_fewestSwaps_51 rfl (by decide) ic_1 rfl ?_
            refine bx_goto C 4 dX2_fewestSwaps_54 (by decide) ?_
            exact bx_cut [2, 1, 0] (w_H E a u) rfl rfl (ih  (x1 + 0) (x2 + 1) hv)
def V_X2_fewestSwaps  (K : Int32 → Prop)  (u : HS)  : Prop := ∃ n3, V_X2_fewestSwaps_4 K n3 u 0 0
set_option maxRecDepth 20000 in
set_option maxHeartbeats 4000000 in
theorem t_X2_fewestSwaps_0 {a : Nat → Nat} {K : Int32 → Prop} (C : bx_C p (rmD 3) S m args meth c cX2_fewestSwaps 3 yX2_fewestSwaps.cls (some .int) E A 0 0) (u : HS)    (hv : V_X2_fewestSwaps K u ) : G_X2_fewestSwaps p l e S m args below meth c E A a  u K 0 [(0, .ref (a 0))] [] (w_H E a u) := by
  unfold V_X2_fewestSwaps at hv
  refine bx_iconst C 0 1 dX2_fewestSwaps_0 ic_0 rfl ?_
  refine bx_istore_n C 2 dX2_fewestSwaps_1 rfl (by decide) rfl ?_
  refine bx_iconst C 0 3 dX2_fewestSwaps_2 ic_0 rfl ?_
  refine bx_istore_n C 4 dX2_fewestSwaps_3 rfl (by decide) rfl ?_
  obtain ⟨n3, hv⟩ := hv
  exact bx_cut [2, 1, 0] (w_H E a u) rfl rfl (t_X2_fewestSwaps_4 C u  n3  0 0 hv)
theorem k_X2_fewestSwaps (l : Launch) (E : bx_E) (a : Nat → Nat)  (K : Int32 → Prop) (u : HS)  (hv : V_X2_fewestSwaps  K u ) : bx_Mi l E yX2_fewestSwaps cX2_fewestSwaps 3 (some .int) (rmD 3) [.ref (a 0)] (fun (_ : Unit) => w_H E a u) () (fun r (_ : Unit) => K r) :=
  bx_meti (by decide +kernel) (Nat.le_of_ble_eq_true rfl) (fun p e S m below meth c C => t_X2_fewestSwaps_0 C u  hv)
abbrev G_X3_hasStub (p : Program) (l : Launch) (e : Env) (S : State) (m : MethodId) (args : Array Value) (below : List Frame) (meth : Method) (c : Code) (E : bx_E) (A : Nat → Prop) (a : Nat → Nat)  (u : HS) (K : Int32 → Prop) (pc : Nat) (lv : List (Nat × Value)) (st : List Value) (ws : va_W) : Prop := bx_S p l e (rmD 1) S m args below meth c 4 E A (MQ below (va_Qi (fun r (_ : Unit) => K r) (fun (_ : Unit) t => bx_B E A (w_H E a u) t) A) args S 0 0 A) 0 0 pc lv st ws
def V_X3_hasStub_2  (K : Int32 → Prop)  : Nat → HS → Int32 → Int32 → Int32 → Prop
  | 0, _, _, _, _ => False
  | n + 1, u, x1, x2, x3 => ((u.2.2.2.2.1 ≤ x3 → K 0) ∧
 (¬ u.2.2.2.2.1 ≤ x3 → (V_X7_has (fun r1 => ((r1 = 0 → V_X3_hasStub_2 K n u x1 x2 (x3 + 1)) ∧
 (¬ r1 = 0 → (vp_in x3 7 ∧ ((¬ (u.2.2.1 (x3 : Int32).toNatClampNeg) = x2 → V_X3_hasStub_2 K n u x1 x2 (x3 + 1)) ∧
 ((u.2.2.1 (x3 : Int32).toNatClampNeg) = x2 → K 1))))))  x1 x3)))
set_option maxRecDepth 20000 in
set_option maxHeartbeats 4000000 in
theorem t_X3_hasStub_2 {a : Nat → Nat} {K : Int32 → Prop} (C : bx_C p (rmD 1) S m args meth c cX3_hasStub 4 yX3_hasStub.cls (some .boolean) E A 0 0) (u : HS)  : ∀ (n : Nat)  (x1 : Int32) (x2 : Int32) (x3 : Int32), V_X3_hasStub_2 K n u x1 x2 x3 → G_X3_hasStub p l e S m args below meth c E A a  u K 2 [(0, .ref (a 0)), (1, .int x1), (2, .int x2), (3, .int x3)] [] (w_H E a u) := by
  intro n
  induction n with
  | zero =>
    intro x1 x2 x3 hv
    exact False.elim hv
  | succ n ih =>
    intro x1 x2 x3 hv
    unfold V_X3_hasStub_2 at hv
    refine bx_iload_n C 3 dX3_hasStub_2 rfl rfl rfl ?_
    refine bx_aload_n C 4 dX3_hasStub_3 rfl rfl rfl ?_
    refine bx_getf (v := .int u.2.2.2.2.1) C 7 0 4 inX0 rfl (by decide) fl_X3_36 dX3_hasStub_4 at_H_0 rfl rfl ?_
    refine bx_icmp_ge C 36 10 dX3_hasStub_7 (by decide) rfl (fun h => ?_) (fun h => ?_)
    · replace hv := hv.1 h
      refine bx_iconst C 0 37 dX3_hasStub_36 ic_0 rfl ?_
      exact bx_zret C () rfl dX3_hasStub_37 rfl (Or.inl rfl) hv
    · replace hv := hv.2 h
      refine bx_iload_n C 11 dX3_hasStub_10 rfl rfl rfl ?_
      refine bx_iload_n C 12 dX3_hasStub_11 rfl rfl rfl ?_
      refine bx_pSNi C 15 fc_X3_55 (k_X7_has l E  _ _ _ hv) dX3_hasStub_12 ⟨rfl, rfl, Nat.le_of_ble_eq_true rfl, Nat.le_of_ble_eq_true rfl⟩ [] rfl (by decide) rfl rfl (Nat.le_of_ble_eq_true rfl) rfl (fun r1 hv => ?_)
      refine bx_if_eq C 30 18 dX3_hasStub_15 (by decide) rfl (fun h => ?_) (fun h => ?_)
      · replace hv := hv.1 h
        refine bx_iinc C 1 33 dX3_hasStub_30 rfl (by decide) ic_1 rfl ?_
        refine bx_goto C 2 dX3_hasStub_33 (by decide) ?_
        exact bx_cut [1, 2, 3, 0] (w_H E a u) rfl rfl (ih  x1 x2 (x3 + 1) hv)
      · replace hv := hv.2 h
        refine bx_aload_n C 19 dX3_hasStub_18 rfl rfl rfl ?_
        refine bx_getf (v := .ref (a 3)) C 22 0 2 inX0 rfl (by decide) fl_X3_45 dX3_hasStub_19 at_H_0 rfl rfl ?_
        refine bx_iload_n C 23 dX3_hasStub_22 rfl rfl rfl ?_
        refine bx_iald (f := u.2.2.1) C 24 3 dX3_hasStub_23 at_H_3 hv.1 rfl ?_
        replace hv := hv.2
        refine bx_iload_n C 25 dX3_hasStub_24 rfl rfl rfl ?_
        refine bx_icmp_ne C 30 28 dX3_hasStub_25 (by decide) rfl (fun h => ?_) (fun h => ?_)
        · replace hv := hv.1 h
          refine bx_iinc C 1 33 dX3_hasStub_30 rfl (by decide) ic_1 rfl ?_
          refine bx_goto C 2 dX3_hasStub_33 (by decide) ?_
          exact bx_cut [1, 2, 3, 0] (w_H E a u) rfl rfl (ih  x1 x2 (x3 + 1) hv)
        · replace hv := hv.2 h
          refine bx_iconst C 1 29 dX3_hasStub_28 ic_1 rfl ?_
          exact bx_zret C () rfl dX3_hasStub_29 rfl (Or.inr rfl) hv
def V_X3_hasStub  (K : Int32 → Prop)  (u : HS) (x1 : Int32) (x2 : Int32) : Prop := ∃ n2, V_X3_hasStub_2 K n2 u x1 x2 0
set_option maxRecDepth 20000 in
set_option maxHeartbeats 4000000 in
theorem t_X3_hasStub_0 {a : Nat → Nat} {K : Int32 → Prop} (C : bx_C p (rmD 1) S m args meth c cX3_hasStub 4 yX3_hasStub.cls (some .boolean) E A 0 0) (u : HS)   (x1 : Int32) (x2 : Int32) (hv : V_X3_hasStub K u x1 x2) : G_X3_hasStub p l e S m args below meth c E A a  u K 0 [(0, .ref (a 0)), (1, .int x1), (2, .int x2)] [] (w_H E a u) := by
  unfold V_X3_hasStub at hv
  refine bx_iconst C 0 1 dX3_hasStub_0 ic_0 rfl ?_
  refine bx_istore_n C 2 dX3_hasStub_1 rfl (by decide) rfl ?_
  obtain ⟨n2, hv⟩ := hv
  exact bx_cut [1, 2, 3, 0] (w_H E a u) rfl rfl (t_X3_hasStub_2 C u  n2  x1 x2 0 hv)
theorem k_X3_hasStub (l : Launch) (E : bx_E) (a : Nat → Nat)  (K : Int32 → Prop) (u : HS) (x1 : Int32) (x2 : Int32) (hv : V_X3_hasStub  K u x1 x2) : bx_Mi l E yX3_hasStub cX3_hasStub 4 (some .boolean) (rmD 1) [.ref (a 0), .int x1, .int x2] (fun (_ : Unit) => w_H E a u) () (fun r (_ : Unit) => K r) :=
  bx_meti (by decide +kernel) (Nat.le_of_ble_eq_true rfl) (fun p e S m below meth c C => t_X3_hasStub_0 C u x1 x2 hv)
abbrev G_X3_whoCanCome (p : Program) (l : Launch) (e : Env) (S : State) (m : MethodId) (args : Array Value) (below : List Frame) (meth : Method) (c : Code) (E : bx_E) (A : Nat → Prop) (a : Nat → Nat)  (u : HS) (K : Int32 → Prop) (pc : Nat) (lv : List (Nat × Value)) (st : List Value) (ws : va_W) : Prop := bx_S p l e (rmD 3) S m args below meth c 3 E A (MQ below (va_Qi (fun r (_ : Unit) => K r) (fun (_ : Unit) t => bx_B E A (w_H E a u) t) A) args S 0 0 A) 0 0 pc lv st ws
def V_X3_whoCanCome_4  (K : Int32 → Prop)  : Nat → HS → Int32 → Int32 → Prop
  | 0, _, _, _ => False
  | n + 1, u, x1, x2 => ((u.2.2.2.2.1 ≤ x2 → K x1) ∧
 (¬ u.2.2.2.2.1 ≤ x2 → (V_X0_sits (fun r1 => ((¬ r1 = 0 → V_X3_whoCanCome_4 K n u x1 (x2 + 1)) ∧
 (r1 = 0 → (vp_in x2 7 ∧ (V_X0_isFree (fun r2 => ((r2 = 0 → V_X3_whoCanCome_4 K n u x1 (x2 + 1)) ∧
 (¬ r2 = 0 → (vp_in x2 7 ∧ (V_X3_hasStub (fun r3 => ((¬ r3 = 0 → V_X3_whoCanCome_4 K n u x1 (x2 + 1)) ∧
 (r3 = 0 → V_X3_whoCanCome_4 K n u (x1 ||| (1 <<< (x2 &&& 31))) (x2 + 1)))) u x1 (u.2.2.1 (x2 : Int32).toNatClampNeg)))))) u (u.2.2.1 (x2 : Int32).toNatClampNeg)))))) u x2)))
set_option maxRecDepth 20000 in
set_option maxHeartbeats 4000000 in
theorem t_X3_whoCanCome_4 {a : Nat → Nat} {K : Int32 → Prop} (C : bx_C p (rmD 3) S m args meth c cX3_whoCanCome 3 yX3_whoCanCome.cls (some .int) E A 0 0) (u : HS)  : ∀ (n : Nat)  (x1 : Int32) (x2 : Int32), V_X3_whoCanCome_4 K n u x1 x2 → G_X3_whoCanCome p l e S m args below meth c E A a  u K 4 [(0, .ref (a 0)), (1, .int x1), (2, .int x2)] [] (w_H E a u) := by
  intro n
  induction n with
  | zero =>
    intro x1 x2 hv
    exact False.elim hv
  | succ n ih =>
    intro x1 x2 hv
    unfold V_X3_whoCanCome_4 at hv
    refine bx_iload_n C 5 dX3_whoCanCome_4 rfl rfl rfl ?_
    refine bx_aload_n C 6 dX3_whoCanCome_5 rfl rfl rfl ?_
    refine bx_getf (v := .int u.2.2.2.2.1) C 9 0 4 inX0 rfl (by decide) fl_X3_36 dX3_whoCanCome_6 at_H_0 rfl rfl ?_
    refine bx_icmp_ge C 59 12 dX3_whoCanCome_9 (by decide) rfl (fun h => ?_) (fun h => ?_)
    · replace hv := hv.1 h
      refine bx_iload_n C 60 dX3_whoCanCome_59 rfl rfl rfl ?_
      exact bx_iret C () rfl dX3_whoCanCome_60 rfl hv
    · replace hv := hv.2 h
      refine bx_aload_n C 13 dX3_whoCanCome_12 rfl rfl rfl ?_
      refine bx_iload_n C 14 dX3_whoCanCome_13 rfl rfl rfl ?_
      refine bx_pVi C 0 at_H_0 rfl 17 fc_X3_41 (k_X0_sits l E a _ _ _ hv) dX3_whoCanCome_14 ⟨rfl, rfl, Nat.le_of_ble_eq_true rfl, Nat.le_of_ble_eq_true rfl⟩ [0, 1, 2, 3, 4, 5, 6, 7, 8, 9, 10, 11, 12] ps_H_H_0 (by decide) rfl rfl (Nat.le_of_ble_eq_true rfl) rfl (fun r1 hv => ?_)
      refine bx_if_ne C 53 20 dX3_whoCanCome_17 (by decide) rfl (fun h => ?_) (fun h => ?_)
      · replace hv := hv.1 h
        refine bx_iinc C 1 56 dX3_whoCanCome_53 rfl (by decide) ic_1 rfl ?_
        refine bx_goto C 4 dX3_whoCanCome_56 (by decide) ?_
        exact bx_cut [1, 2, 0] (w_H E a u) rfl rfl (ih  x1 (x2 + 1) hv)
      · replace hv := hv.2 h
        refine bx_aload_n C 21 dX3_whoCanCome_20 rfl rfl rfl ?_
        refine bx_aload_n C 22 dX3_whoCanCome_21 rfl rfl rfl ?_
        refine bx_getf (v := .ref (a 3)) C 25 0 2 inX0 rfl (by decide) fl_X3_45 dX3_whoCanCome_22 at_H_0 rfl rfl ?_
        refine bx_iload_n C 26 dX3_whoCanCome_25 rfl rfl rfl ?_
        refine bx_iald (f := u.2.2.1) C 27 3 dX3_whoCanCome_26 at_H_3 hv.1 rfl ?_
        replace hv := hv.2
        refine bx_pVi C 0 at_H_0 rfl 30 fc_X3_48 (k_X0_isFree l E a _ _ _ hv) dX3_whoCanCome_27 ⟨rfl, rfl, Nat.le_of_ble_eq_true rfl, Nat.le_of_ble_eq_true rfl⟩ [0, 1, 2, 3, 4, 5, 6, 7, 8, 9, 10, 11, 12] ps_H_H_0 (by decide) rfl rfl (Nat.le_of_ble_eq_true rfl) rfl (fun r2 hv => ?_)
        refine bx_if_eq C 53 33 dX3_whoCanCome_30 (by decide) rfl (fun h => ?_) (fun h => ?_)
        · replace hv := hv.1 h
          refine bx_iinc C 1 56 dX3_whoCanCome_53 rfl (by decide) ic_1 rfl ?_
          refine bx_goto C 4 dX3_whoCanCome_56 (by decide) ?_
          exact bx_cut [1, 2, 0] (w_H E a u) rfl rfl (ih  x1 (x2 + 1) hv)
        · replace hv := hv.2 h
          refine bx_aload_n C 34 dX3_whoCanCome_33 rfl rfl rfl ?_
          refine bx_iload_n C 35 dX3_whoCanCome_34 rfl rfl rfl ?_
          refine bx_aload_n C 36 dX3_whoCanCome_35 rfl rfl rfl ?_
          refine bx_getf (v := .ref (a 3)) C 39 0 2 inX0 rfl (by decide) fl_X3_45 dX3_whoCanCome_36 at_H_0 rfl rfl ?_
          refine bx_iload_n C 40 dX3_whoCanCome_39 rfl rfl rfl ?_
          refine bx_iald (f := u.2.2.1) C 41 3 dX3_whoCanCome_40 at_H_3 hv.1 rfl ?_
          replace hv := hv.2
          refine bx_pSi C 44 fc_X3_51 (k_X3_hasStub l E a _ _ _ _ hv) dX3_whoCanCome_41 ⟨rfl, rfl, Nat.le_of_ble_eq_true rfl, Nat.le_of_ble_eq_true rfl⟩ [0, 1, 2, 3, 4, 5, 6, 7, 8, 9, 10, 11, 12] ps_H_H_0 (by decide) rfl rfl (Nat.le_of_ble_eq_true rfl) rfl (fun r3 hv => ?_)
          refine bx_if_ne C 53 47 dX3_whoCanCome_44 (by decide) rfl (fun h => ?_) (fun h => ?_)
          · replace hv := hv.1 h
            refine bx_iinc C 1 56 dX3_whoCanCome_53 rfl (by decide) ic_1 rfl ?_
            refine bx_goto C 4 dX3_whoCanCome_56 (by decide) ?_
            exact bx_cut [1, 2, 0] (w_H E a u) rfl rfl (ih  x1 (x2 + 1) hv)
          · replace hv := hv.2 h
            refine bx_iload_n C 48 dX3_whoCanCome_47 rfl rfl rfl ?_
            refine bx_iconst C 1 49 dX3_whoCanCome_48 ic_1 rfl ?_
            refine bx_iload_n C 50 dX3_whoCanCome_49 rfl rfl rfl ?_
            refine bx_ishl C 51 dX3_whoCanCome_50 rfl ?_
            refine bx_ior C 52 dX3_whoCanCome_51 rfl ?_
            refine bx_istore_n C 53 dX3_whoCanCome_52 rfl (by decide) rfl ?_
            refine bx_iinc C 1 56 dX3_whoCanCome_53 rfl (by decide) ic_1 rfl ?_
            refine bx_goto C 4 dX3_whoCanCome_56 (by decide) ?_
            exact bx_cut [2, 1, 0] (w_H E a u) rfl rfl (ih  (x1 ||| (1 <<< (x2 &&& 31))) (x2 + 1) hv)
def V_X3_whoCanCome  (K : Int32 → Prop)  (u : HS)  : Prop := ∃ n4, V_X3_whoCanCome_4 K n4 u 0 0
set_option maxRecDepth 20000 in
set_option maxHeartbeats 4000000 in
theorem t_X3_whoCanCome_0 {a : Nat → Nat} {K : Int32 → Prop} (C : bx_C p (rmD 3) S m args meth c cX3_whoCanCome 3 yX3_whoCanCome.cls (some .int) E A 0 0) (u : HS)    (hv : V_X3_whoCanCome K u ) : G_X3_whoCanCome p l e S m args below meth c E A a  u K 0 [(0, .ref (a 0))] [] (w_H E a u) := by
  unfold V_X3_whoCanCome at hv
  refine bx_iconst C 0 1 dX3_whoCanCome_0 ic_0 rfl ?_
  refine bx_istore_n C 2 dX3_whoCanCome_1 rfl (by decide) rfl ?_
  refine bx_iconst C 0 3 dX3_whoCanCome_2 ic_0 rfl ?_
  refine bx_istore_n C 4 dX3_whoCanCome_3 rfl (by decide) rfl ?_
  obtain ⟨n4, hv⟩ := hv
  exact bx_cut [2, 1, 0] (w_H E a u) rfl rfl (t_X3_whoCanCome_4 C u  n4  0 0 hv)
theorem k_X3_whoCanCome (l : Launch) (E : bx_E) (a : Nat → Nat)  (K : Int32 → Prop) (u : HS)  (hv : V_X3_whoCanCome  K u ) : bx_Mi l E yX3_whoCanCome cX3_whoCanCome 3 (some .int) (rmD 3) [.ref (a 0)] (fun (_ : Unit) => w_H E a u) () (fun r (_ : Unit) => K r) :=
  bx_meti (by decide +kernel) (Nat.le_of_ble_eq_true rfl) (fun p e S m below meth c C => t_X3_whoCanCome_0 C u  hv)
abbrev G_X3_kneesOf (p : Program) (l : Launch) (e : Env) (S : State) (m : MethodId) (args : Array Value) (below : List Frame) (meth : Method) (c : Code) (E : bx_E) (A : Nat → Prop) (a : Nat → Nat)  (u : HS) (K : Int32 → Prop) (pc : Nat) (lv : List (Nat × Value)) (st : List Value) (ws : va_W) : Prop := bx_S p l e (rmD 1) S m args below meth c 6 E A (MQ below (va_Qi (fun r (_ : Unit) => K r) (fun (_ : Unit) t => bx_B E A (w_H E a u) t) A) args S 0 0 A) 0 0 pc lv st ws
def V_X3_kneesOf_13  (K : Int32 → Prop)  : Nat → HS → Int32 → Int32 → Int32 → Int32 → Int32 → Prop
  | 0, _, _, _, _, _, _ => False
  | n + 1, u, x1, x2, x3, x4, x5 => ((u.2.2.2.2.1 ≤ x5 → K x4) ∧
 (¬ u.2.2.2.2.1 ≤ x5 → (V_X7_has (fun r1 => ((r1 = 0 → V_X3_kneesOf_13 K n u x1 x2 x3 x4 (x5 + 1)) ∧
 (¬ r1 = 0 → (vp_in x5 7 ∧ (((u.2.2.1 (x5 : Int32).toNatClampNeg) < x3 → V_X3_kneesOf_13 K n u x1 x2 x3 x4 (x5 + 1)) ∧
 (¬ (u.2.2.1 (x5 : Int32).toNatClampNeg) < x3 → (vp_in x5 7 ∧ ((x2 ≤ (u.2.2.1 (x5 : Int32).toNatClampNeg) → V_X3_kneesOf_13 K n u x1 x2 x3 x4 (x5 + 1)) ∧
 (¬ x2 ≤ (u.2.2.1 (x5 : Int32).toNatClampNeg) → V_X3_kneesOf_13 K n u x1 x2 x3 (x4 + 1) (x5 + 1))))))))))  x1 x5)))
set_option maxRecDepth 20000 in
set_option maxHeartbeats 4000000 in
theorem t_X3_kneesOf_13 {a : Nat → Nat} {K : Int32 → Prop} (C : bx_C p (rmD 1) S m args meth c cX3_kneesOf 6 yX3_kneesOf.cls (some .int) E A 0 0) (u : HS)  : ∀ (n : Nat)  (x1 : Int32) (x2 : Int32) (x3 : Int32) (x4 : Int32) (x5 : Int32), V_X3_kneesOf_13 K n u x1 x2 x3 x4 x5 → G_X3_kneesOf p l e S m args below meth c E A a  u K 13 [(0, .ref (a 0)), (1, .int x1), (2, .int x2), (3, .int x3), (4, .int x4), (5, .int x5)] [] (w_H E a u) := by
  intro n
  induction n with
  | zero =>
    intro x1 x2 x3 x4 x5 hv
    exact False.elim hv
  | succ n ih =>
    intro x1 x2 x3 x4 x5 hv
    unfold V_X3_kneesOf_13 at hv
    refine bx_iload C 15 dX3_kneesOf_13 rfl rfl ?_
    refine bx_aload_n C 16 dX3_kneesOf_15 rfl rfl rfl ?_
    refine bx_getf (v := .int u.2.2.2.2.1) C 19 0 4 inX0 rfl (by decide) fl_X3_36 dX3_kneesOf_16 at_H_0 rfl rfl ?_
    refine bx_icmp_ge C 62 22 dX3_kneesOf_19 (by decide) rfl (fun h => ?_) (fun h => ?_)
    · replace hv := hv.1 h
      refine bx_iload C 64 dX3_kneesOf_62 rfl rfl ?_
      exact bx_iret C () rfl dX3_kneesOf_64 rfl hv
    · replace hv := hv.2 h
      refine bx_iload_n C 23 dX3_kneesOf_22 rfl rfl rfl ?_
      refine bx_iload C 25 dX3_kneesOf_23 rfl rfl ?_
      refine bx_pSNi C 28 fc_X3_55 (k_X7_has l E  _ _ _ hv) dX3_kneesOf_25 ⟨rfl, rfl, Nat.le_of_ble_eq_true rfl, Nat.le_of_ble_eq_true rfl⟩ [] rfl (by decide) rfl rfl (Nat.le_of_ble_eq_true rfl) rfl (fun r1 hv => ?_)
      refine bx_if_eq C 56 31 dX3_kneesOf_28 (by decide) rfl (fun h => ?_) (fun h => ?_)
      · replace hv := hv.1 h
        refine bx_iinc C 1 59 dX3_kneesOf_56 rfl (by decide) ic_1 rfl ?_
        refine bx_goto C 13 dX3_kneesOf_59 (by decide) ?_
        exact bx_cut [1, 2, 3, 4, 5, 0] (w_H E a u) rfl rfl (ih  x1 x2 x3 x4 (x5 + 1) hv)
      · replace hv := hv.2 h
        refine bx_aload_n C 32 dX3_kneesOf_31 rfl rfl rfl ?_
        refine bx_getf (v := .ref (a 3)) C 35 0 2 inX0 rfl (by decide) fl_X3_45 dX3_kneesOf_32 at_H_0 rfl rfl ?_
        refine bx_iload C 37 dX3_kneesOf_35 rfl rfl ?_
        refine bx_iald (f := u.2.2.1) C 38 3 dX3_kneesOf_37 at_H_3 hv.1 rfl ?_
        replace hv := hv.2
        refine bx_iload_n C 39 dX3_kneesOf_38 rfl rfl rfl ?_
        refine bx_icmp_lt C 56 42 dX3_kneesOf_39 (by decide) rfl (fun h => ?_) (fun h => ?_)
        · replace hv := hv.1 h
          refine bx_iinc C 1 59 dX3_kneesOf_56 rfl (by decide) ic_1 rfl ?_
          refine bx_goto C 13 dX3_kneesOf_59 (by decide) ?_
          exact bx_cut [1, 2, 3, 4, 5, 0] (w_H E a u) rfl rfl (ih  x1 x2 x3 x4 (x5 + 1) hv)
        · replace hv := hv.2 h
          refine bx_aload_n C 43 dX3_kneesOf_42 rfl rfl rfl ?_
          refine bx_getf (v := .ref (a 3)) C 46 0 2 inX0 rfl (by decide) fl_X3_45 dX3_kneesOf_43 at_H_0 rfl rfl ?_
          refine bx_iload C 48 dX3_kneesOf_46 rfl rfl ?_
          refine bx_iald (f := u.2.2.1) C 49 3 dX3_kneesOf_48 at_H_3 hv.1 rfl ?_
          replace hv := hv.2
          refine bx_iload_n C 50 dX3_kneesOf_49 rfl rfl rfl ?_
          refine bx_icmp_ge C 56 53 dX3_kneesOf_50 (by decide) rfl (fun h => ?_) (fun h => ?_)
          · replace hv := hv.1 h
            refine bx_iinc C 1 59 dX3_kneesOf_56 rfl (by decide) ic_1 rfl ?_
            refine bx_goto C 13 dX3_kneesOf_59 (by decide) ?_
            exact bx_cut [1, 2, 3, 4, 5, 0] (w_H E a u) rfl rfl (ih  x1 x2 x3 x4 (x5 + 1) hv)
          · replace hv := hv.2 h
            refine bx_iinc C 1 56 dX3_kneesOf_53 rfl (by decide) ic_1 rfl ?_
            refine bx_iinc C 1 59 dX3_kneesOf_56 rfl (by decide) ic_1 rfl ?_
            refine bx_goto C 13 dX3_kneesOf_59 (by decide) ?_
            exact bx_cut [2, 3, 4, 5, 1, 0] (w_H E a u) rfl rfl (ih  x1 x2 x3 (x4 + 1) (x5 + 1) hv)
def V_X3_kneesOf  (K : Int32 → Prop)  (u : HS) (x1 : Int32) (x2 : Int32) : Prop := ∃ n2, V_X3_kneesOf_13 K n2 u x1 x2 (x2 - (x2 - x2 / 6 * 6)) 0 0
set_option maxRecDepth 20000 in
set_option maxHeartbeats 4000000 in
theorem t_X3_kneesOf_0 {a : Nat → Nat} {K : Int32 → Prop} (C : bx_C p (rmD 1) S m args meth c cX3_kneesOf 6 yX3_kneesOf.cls (some .int) E A 0 0) (u : HS)   (x1 : Int32) (x2 : Int32) (hv : V_X3_kneesOf K u x1 x2) : G_X3_kneesOf p l e S m args below meth c E A a  u K 0 [(0, .ref (a 0)), (1, .int x1), (2, .int x2)] [] (w_H E a u) := by
  unfold V_X3_kneesOf at hv
  refine bx_iload_n C 1 dX3_kneesOf_0 rfl rfl rfl ?_
  refine bx_iload_n C 2 dX3_kneesOf_1 rfl rfl rfl ?_
  refine bx_bipush C 6 4 dX3_kneesOf_2 bp_6 rfl ?_
  refine bx_irem C 5 dX3_kneesOf_4 nz32_6 rfl ?_
  refine bx_isub C 6 dX3_kneesOf_5 rfl ?_
  refine bx_istore_n C 7 dX3_kneesOf_6 rfl (by decide) rfl ?_
  refine bx_iconst C 0 8 dX3_kneesOf_7 ic_0 rfl ?_
  refine bx_istore C 10 dX3_kneesOf_8 (by decide) rfl ?_
  refine bx_iconst C 0 11 dX3_kneesOf_10 ic_0 rfl ?_
  refine bx_istore C 13 dX3_kneesOf_11 (by decide) rfl ?_
  obtain ⟨n2, hv⟩ := hv
  exact bx_cut [3, 4, 5, 2, 1, 0] (w_H E a u) rfl rfl (t_X3_kneesOf_13 C u  n2  x1 x2 (x2 - (x2 - x2 / 6 * 6)) 0 0 hv)
theorem k_X3_kneesOf (l : Launch) (E : bx_E) (a : Nat → Nat)  (K : Int32 → Prop) (u : HS) (x1 : Int32) (x2 : Int32) (hv : V_X3_kneesOf  K u x1 x2) : bx_Mi l E yX3_kneesOf cX3_kneesOf 6 (some .int) (rmD 1) [.ref (a 0), .int x1, .int x2] (fun (_ : Unit) => w_H E a u) () (fun r (_ : Unit) => K r) :=
  bx_meti (by decide +kernel) (Nat.le_of_ble_eq_true rfl) (fun p e S m below meth c C => t_X3_kneesOf_0 C u x1 x2 hv)
abbrev G_X3_fussByWay (p : Program) (l : Launch) (e : Env) (S : State) (m : MethodId) (args : Array Value) (below : List Frame) (meth : Method) (c : Code) (E : bx_E) (A : Nat → Prop) (a : Nat → Nat) (b : Nat → Nat)  (u : TS × HS) (K : Int32 → Prop) (pc : Nat) (lv : List (Nat × Value)) (st : List Value) (ws : va_W) : Prop := bx_S p l e (rmD 2) S m args below meth c 6 E A (MQ below (va_Qi (fun r (_ : Unit) => K r) (fun (_ : Unit) t => bx_B E A (w_P E a u.1 ++ w_H E b u.2) t) A) args S 0 0 A) 0 0 pc lv st ws
def V_X3_fussByWay  (K : Int32 → Prop)  (u : TS × HS) (x2 : Int32) (x3 : Int32) : Prop := (vp_in x3 7 ∧ (V_X0_kneesTo (fun r1 => (vp_in x3 7 ∧ (V_X3_kneesOf (fun r2 => (vp_in x3 7 ∧ (V_J6_bitCount_0f7a4 (fun r3 => (V_X1_fuss (fun r4 => (vp_in (x2 ||| (1 <<< (x3 &&& 31))) 128 ∧ K (r4 + (u.1.1 ((x2 ||| (1 <<< (x3 &&& 31))) : Int32).toNatClampNeg))))  (u.2.2.1 (x3 : Int32).toNatClampNeg) (r1 + r2) (u.2.2.2.2.2.2.2.1 + r3)))  x2))) u.2 x2 (u.2.2.2.1 (x3 : Int32).toNatClampNeg)))) u.2 (u.2.2.2.1 (x3 : Int32).toNatClampNeg)))
set_option maxRecDepth 20000 in
set_option maxHeartbeats 4000000 in
theorem t_X3_fussByWay_0 {a b : Nat → Nat} {K : Int32 → Prop} (C : bx_C p (rmD 2) S m args meth c cX3_fussByWay 6 yX3_fussByWay.cls (some .int) E A 0 0) (u : TS × HS)   (x2 : Int32) (x3 : Int32) (hv : V_X3_fussByWay K u x2 x3) : G_X3_fussByWay p l e S m args below meth c E A a b  u K 0 [(0, .ref (a 0)), (1, .ref (b 0)), (2, .int x2), (3, .int x3)] [] (w_P E a u.1 ++ w_H E b u.2) := by
  unfold V_X3_fussByWay at hv
  refine bx_aload_n C 1 dX3_fussByWay_0 rfl rfl rfl ?_
  refine bx_aload_n C 2 dX3_fussByWay_1 rfl rfl rfl ?_
  refine bx_getf (v := .ref (b 3)) C 5 2 2 inX0 rfl (by decide) fl_X3_45 dX3_fussByWay_2 rfl rfl rfl ?_
  refine bx_iload_n C 6 dX3_fussByWay_5 rfl rfl rfl ?_
  refine bx_iald (f := u.2.2.2.1) C 7 5 dX3_fussByWay_6 rfl hv.1 rfl ?_
  replace hv := hv.2
  refine bx_pVi C 2 rfl rfl 10 fc_X3_70 (k_X0_kneesTo l E b _ _ _ hv) dX3_fussByWay_7 ⟨rfl, rfl, Nat.le_of_ble_eq_true rfl, Nat.le_of_ble_eq_true rfl⟩ [2, 3, 4, 5, 6, 7, 8, 9, 10, 11, 12, 13, 14] ps_PH_H_2 (by decide) rfl rfl (Nat.le_of_ble_eq_true rfl) rfl (fun r1 hv => ?_)
  refine bx_aload_n C 11 dX3_fussByWay_10 rfl rfl rfl ?_
  refine bx_iload_n C 12 dX3_fussByWay_11 rfl rfl rfl ?_
  refine bx_aload_n C 13 dX3_fussByWay_12 rfl rfl rfl ?_
  refine bx_getf (v := .ref (b 3)) C 16 2 2 inX0 rfl (by decide) fl_X3_45 dX3_fussByWay_13 rfl rfl rfl ?_
  refine bx_iload_n C 17 dX3_fussByWay_16 rfl rfl rfl ?_
  refine bx_iald (f := u.2.2.2.1) C 18 5 dX3_fussByWay_17 rfl hv.1 rfl ?_
  replace hv := hv.2
  refine bx_pSi C 21 fc_X3_73 (k_X3_kneesOf l E b _ _ _ _ hv) dX3_fussByWay_18 ⟨rfl, rfl, Nat.le_of_ble_eq_true rfl, Nat.le_of_ble_eq_true rfl⟩ [2, 3, 4, 5, 6, 7, 8, 9, 10, 11, 12, 13, 14] ps_PH_H_2 (by decide) rfl rfl (Nat.le_of_ble_eq_true rfl) rfl (fun r2 hv => ?_)
  refine bx_iadd C 22 dX3_fussByWay_21 rfl ?_
  refine bx_istore C 24 dX3_fussByWay_22 (by decide) rfl ?_
  refine bx_aload_n C 25 dX3_fussByWay_24 rfl rfl rfl ?_
  refine bx_getf (v := .ref (b 2)) C 28 2 1 inX0 rfl (by decide) fl_X3_76 dX3_fussByWay_25 rfl rfl rfl ?_
  refine bx_iload_n C 29 dX3_fussByWay_28 rfl rfl rfl ?_
  refine bx_iald (f := u.2.2.1) C 30 4 dX3_fussByWay_29 rfl hv.1 rfl ?_
  replace hv := hv.2
  refine bx_iload C 32 dX3_fussByWay_30 rfl rfl ?_
  refine bx_aload_n C 33 dX3_fussByWay_32 rfl rfl rfl ?_
  refine bx_getf (v := .int u.2.2.2.2.2.2.2.1) C 36 2 6 inX0 rfl (by decide) fl_X3_79 dX3_fussByWay_33 rfl rfl rfl ?_
  refine bx_iload_n C 37 dX3_fussByWay_36 rfl rfl rfl ?_
  refine bx_pSi C 40 fc_X3_27 (k_J6_bitCount_0f7a4 l E  _ _ hv) dX3_fussByWay_37 ⟨rfl, rfl, Nat.le_of_ble_eq_true rfl, Nat.le_of_ble_eq_true rfl⟩ [] rfl (by decide) rfl rfl (Nat.le_of_ble_eq_true rfl) rfl (fun r3 hv => ?_)
  refine bx_iadd C 41 dX3_fussByWay_40 rfl ?_
  refine bx_pSi C 44 fc_X3_82 (k_X1_fuss l E  _ _ _ _ hv) dX3_fussByWay_41 ⟨rfl, rfl, Nat.le_of_ble_eq_true rfl, Nat.le_of_ble_eq_true rfl⟩ [] rfl (by decide) rfl rfl (Nat.le_of_ble_eq_true rfl) rfl (fun r4 hv => ?_)
  refine bx_istore C 46 dX3_fussByWay_44 (by decide) rfl ?_
  refine bx_iload C 48 dX3_fussByWay_46 rfl rfl ?_
  refine bx_aload_n C 49 dX3_fussByWay_48 rfl rfl rfl ?_
  refine bx_getf (v := .ref (a 1)) C 52 0 0 inX3 rfl (by decide) fl_X3_11 dX3_fussByWay_49 rfl rfl rfl ?_
  refine bx_iload_n C 53 dX3_fussByWay_52 rfl rfl rfl ?_
  refine bx_iconst C 1 54 dX3_fussByWay_53 ic_1 rfl ?_
  refine bx_iload_n C 55 dX3_fussByWay_54 rfl rfl rfl ?_
  refine bx_ishl C 56 dX3_fussByWay_55 rfl ?_
  refine bx_ior C 57 dX3_fussByWay_56 rfl ?_
  refine bx_iald (f := u.1.1) C 58 1 dX3_fussByWay_57 rfl hv.1 rfl ?_
  replace hv := hv.2
  refine bx_iadd C 59 dX3_fussByWay_58 rfl ?_
  exact bx_iret C () rfl dX3_fussByWay_59 rfl hv
theorem k_X3_fussByWay (l : Launch) (E : bx_E) (a : Nat → Nat) (b : Nat → Nat)  (K : Int32 → Prop) (u : TS × HS) (x2 : Int32) (x3 : Int32) (hv : V_X3_fussByWay  K u x2 x3) : bx_Mi l E yX3_fussByWay cX3_fussByWay 6 (some .int) (rmD 2) [.ref (a 0), .ref (b 0), .int x2, .int x3] (fun (_ : Unit) => w_P E a u.1 ++ w_H E b u.2) () (fun r (_ : Unit) => K r) :=
  bx_meti (by decide +kernel) (Nat.le_of_ble_eq_true rfl) (fun p e S m below meth c C => t_X3_fussByWay_0 C u x2 x3 hv)
abbrev G_X3_leastBehind (p : Program) (l : Launch) (e : Env) (S : State) (m : MethodId) (args : Array Value) (below : List Frame) (meth : Method) (c : Code) (E : bx_E) (A : Nat → Prop) (a : Nat → Nat) (b : Nat → Nat)  (u : TS × HS) (K : Int32 → Prop) (pc : Nat) (lv : List (Nat × Value)) (st : List Value) (ws : va_W) : Prop := bx_S p l e (rmD 3) S m args below meth c 5 E A (MQ below (va_Qi (fun r (_ : Unit) => K r) (fun (_ : Unit) t => bx_B E A (w_P E a u.1 ++ w_H E b u.2) t) A) args S 0 0 A) 0 0 pc lv st ws
def V_X3_leastBehind_18  (K : Int32 → Prop)  : Nat → (TS × HS) → Int32 → Int32 → Int32 → Prop
  | 0, _, _, _, _ => False
  | n + 1, u, x2, x3, x4 => ((u.2.2.2.2.2.1 ≤ x4 → K x3) ∧
 (¬ u.2.2.2.2.2.1 ≤ x4 → (V_X7_has (fun r1 => ((r1 = 0 → V_X3_leastBehind_18 K n u x2 x3 (x4 + 1)) ∧
 (¬ r1 = 0 → (V_X3_fussByWay (fun r2 => V_X3_leastBehind_18 K n u x2 (if r2 < x3 then r2 else x3) (x4 + 1)) (u.1, u.2) x2 x4))))  (u.1.2 &&& (x2 ^^^ (-1))) x4)))
set_option maxRecDepth 20000 in
set_option maxHeartbeats 4000000 in
theorem t_X3_leastBehind_18 {a b : Nat → Nat} {K : Int32 → Prop} (C : bx_C p (rmD 3) S m args meth c cX3_leastBehind 5 yX3_leastBehind.cls (some .int) E A 0 0) (u : TS × HS)  : ∀ (n : Nat)  (x2 : Int32) (x3 : Int32) (x4 : Int32), V_X3_leastBehind_18 K n u x2 x3 x4 → G_X3_leastBehind p l e S m args below meth c E A a b  u K 18 [(0, .ref (a 0)), (1, .ref (b 0)), (2, .int x2), (3, .int x3), (4, .int x4)] [] (w_P E a u.1 ++ w_H E b u.2) := by
  intro n
  induction n with
  | zero =>
    intro x2 x3 x4 hv
    exact False.elim hv
  | succ n ih =>
    intro x2 x3 x4 hv
    unfold V_X3_leastBehind_18 at hv
    refine bx_iload C 20 dX3_leastBehind_18 rfl rfl ?_
    refine bx_aload_n C 21 dX3_leastBehind_20 rfl rfl rfl ?_
    refine bx_getf (v := .int u.2.2.2.2.2.1) C 24 2 4 inX0 rfl (by decide) fl_X3_36 dX3_leastBehind_21 rfl rfl rfl ?_
    refine bx_icmp_ge C 62 27 dX3_leastBehind_24 (by decide) rfl (fun h => ?_) (fun h => ?_)
    · replace hv := hv.1 h
      refine bx_iload_n C 63 dX3_leastBehind_62 rfl rfl rfl ?_
      exact bx_iret C () rfl dX3_leastBehind_63 rfl hv
    · replace hv := hv.2 h
      refine bx_aload_n C 28 dX3_leastBehind_27 rfl rfl rfl ?_
      refine bx_getf (v := .int u.1.2) C 31 0 1 inX3 rfl (by decide) fl_X3_19 dX3_leastBehind_28 rfl rfl rfl ?_
      refine bx_iload_n C 32 dX3_leastBehind_31 rfl rfl rfl ?_
      refine bx_iconst C (-1) 33 dX3_leastBehind_32 ic_m1 rfl ?_
      refine bx_ixor C 34 dX3_leastBehind_33 rfl ?_
      refine bx_iand C 35 dX3_leastBehind_34 rfl ?_
      refine bx_iload C 37 dX3_leastBehind_35 rfl rfl ?_
      refine bx_pSNi C 40 fc_X3_55 (k_X7_has l E  _ _ _ hv) dX3_leastBehind_37 ⟨rfl, rfl, Nat.le_of_ble_eq_true rfl, Nat.le_of_ble_eq_true rfl⟩ [] rfl (by decide) rfl rfl (Nat.le_of_ble_eq_true rfl) rfl (fun r1 hv => ?_)
      refine bx_if_eq C 56 43 dX3_leastBehind_40 (by decide) rfl (fun h => ?_) (fun h => ?_)
      · replace hv := hv.1 h
        refine bx_iinc C 1 59 dX3_leastBehind_56 rfl (by decide) ic_1 rfl ?_
        refine bx_goto C 18 dX3_leastBehind_59 (by decide) ?_
        exact bx_cut [1, 2, 3, 4, 0] (w_P E a u.1 ++ w_H E b u.2) rfl rfl (ih  x2 x3 (x4 + 1) hv)
      · replace hv := hv.2 h
        refine bx_iload_n C 44 dX3_leastBehind_43 rfl rfl rfl ?_
        refine bx_aload_n C 45 dX3_leastBehind_44 rfl rfl rfl ?_
        refine bx_aload_n C 46 dX3_leastBehind_45 rfl rfl rfl ?_
        refine bx_iload_n C 47 dX3_leastBehind_46 rfl rfl rfl ?_
        refine bx_iload C 49 dX3_leastBehind_47 rfl rfl ?_
        refine bx_pVi C 0 rfl rfl 52 fc_X3_60 (k_X3_fussByWay l E a b _ _ _ _ hv) dX3_leastBehind_49 ⟨rfl, rfl, Nat.le_of_ble_eq_true rfl, Nat.le_of_ble_eq_true rfl⟩ [0, 1, 2, 3, 4, 5, 6, 7, 8, 9, 10, 11, 12, 13, 14] ps_PH_PH_0_2 (by decide) rfl rfl (Nat.le_of_ble_eq_true rfl) rfl (fun r2 hv => ?_)
        refine bx_mmin C 55 fm_X3_64 dX3_leastBehind_52 ⟨Nat.le_of_ble_eq_true rfl, Nat.le_of_ble_eq_true rfl⟩ (Nat.le_of_ble_eq_true rfl) rfl ?_
        refine bx_istore_n C 56 dX3_leastBehind_55 rfl (by decide) rfl ?_
        refine bx_iinc C 1 59 dX3_leastBehind_56 rfl (by decide) ic_1 rfl ?_
        refine bx_goto C 18 dX3_leastBehind_59 (by decide) ?_
        exact bx_cut [2, 3, 4, 1, 0] (w_P E a u.1 ++ w_H E b u.2) rfl rfl (ih  x2 (if r2 < x3 then r2 else x3) (x4 + 1) hv)
def V_X3_leastBehind  (K : Int32 → Prop)  (u : TS × HS) (x2 : Int32) : Prop := ((¬ x2 = u.1.2 → ∃ n3, V_X3_leastBehind_18 K n3 u x2 999999 0) ∧
 (x2 = u.1.2 → ∃ n4, V_X3_leastBehind_18 K n4 u x2 0 0))
set_option maxRecDepth 20000 in
set_option maxHeartbeats 4000000 in
theorem t_X3_leastBehind_0 {a b : Nat → Nat} {K : Int32 → Prop} (C : bx_C p (rmD 3) S m args meth c cX3_leastBehind 5 yX3_leastBehind.cls (some .int) E A 0 0) (u : TS × HS)   (x2 : Int32) (hv : V_X3_leastBehind K u x2) : G_X3_leastBehind p l e S m args below meth c E A a b  u K 0 [(0, .ref (a 0)), (1, .ref (b 0)), (2, .int x2)] [] (w_P E a u.1 ++ w_H E b u.2) := by
  unfold V_X3_leastBehind at hv
  refine bx_iload_n C 1 dX3_leastBehind_0 rfl rfl rfl ?_
  refine bx_aload_n C 2 dX3_leastBehind_1 rfl rfl rfl ?_
  refine bx_getf (v := .int u.1.2) C 5 0 1 inX3 rfl (by decide) fl_X3_19 dX3_leastBehind_2 rfl rfl rfl ?_
  refine bx_icmp_ne C 12 8 dX3_leastBehind_5 (by decide) rfl (fun h => ?_) (fun h => ?_)
  · replace hv := hv.1 h
    refine bx_ldc C 14 cs_X3_59 dX3_leastBehind_12 rfl ?_
    refine bx_istore_n C 15 dX3_leastBehind_14 rfl (by decide) rfl ?_
    refine bx_iconst C 0 16 dX3_leastBehind_15 ic_0 rfl ?_
    refine bx_istore C 18 dX3_leastBehind_16 (by decide) rfl ?_
    obtain ⟨n3, hv⟩ := hv
    exact bx_cut [2, 3, 4, 1, 0] (w_P E a u.1 ++ w_H E b u.2) rfl rfl (t_X3_leastBehind_18 C u  n3  x2 999999 0 hv)
  · replace hv := hv.2 h
    refine bx_iconst C 0 9 dX3_leastBehind_8 ic_0 rfl ?_
    refine bx_goto C 14 dX3_leastBehind_9 (by decide) ?_
    refine bx_istore_n C 15 dX3_leastBehind_14 rfl (by decide) rfl ?_
    refine bx_iconst C 0 16 dX3_leastBehind_15 ic_0 rfl ?_
    refine bx_istore C 18 dX3_leastBehind_16 (by decide) rfl ?_
    obtain ⟨n4, hv⟩ := hv
    exact bx_cut [2, 3, 4, 1, 0] (w_P E a u.1 ++ w_H E b u.2) rfl rfl (t_X3_leastBehind_18 C u  n4  x2 0 0 hv)
theorem k_X3_leastBehind (l : Launch) (E : bx_E) (a : Nat → Nat) (b : Nat → Nat)  (K : Int32 → Prop) (u : TS × HS) (x2 : Int32) (hv : V_X3_leastBehind  K u x2) : bx_Mi l E yX3_leastBehind cX3_leastBehind 5 (some .int) (rmD 3) [.ref (a 0), .ref (b 0), .int x2] (fun (_ : Unit) => w_P E a u.1 ++ w_H E b u.2) () (fun r (_ : Unit) => K r) :=
  bx_meti (by decide +kernel) (Nat.le_of_ble_eq_true rfl) (fun p e S m below meth c C => t_X3_leastBehind_0 C u x2 hv)
abbrev G_X3_prepare (p : Program) (l : Launch) (e : Env) (S : State) (m : MethodId) (args : Array Value) (below : List Frame) (meth : Method) (c : Code) (E : bx_E) (A : Nat → Prop) (a : Nat → Nat) (b : Nat → Nat)  (K : TS × HS → Prop) (pc : Nat) (lv : List (Nat × Value)) (st : List Value) (ws : va_W) : Prop := bx_S p l e (rmD 4) S m args below meth c 3 E A (MQ below (va_Qv K (fun (u : TS × HS) t => bx_B E A (w_P E a u.1 ++ w_H E b u.2) t) A) args S 0 0 A) 0 0 pc lv st ws
def V_X3_prepare_11  (K : TS × HS → Prop)  : Nat → (TS × HS) → Int32 → Prop
  | 0, _, _ => False
  | n + 1, u, x2 => ((x2 < 0 → K u) ∧
 (¬ x2 < 0 → ((¬ (x2 &&& (u.1.2 ^^^ (-1))) = 0 → V_X3_prepare_11 K n u (x2 + (-1))) ∧
 ((x2 &&& (u.1.2 ^^^ (-1))) = 0 → (V_X3_leastBehind (fun r1 => (vp_in x2 128 ∧ V_X3_prepare_11 K n (((upd u.1.1 (x2 : Int32).toNatClampNeg r1), u.1.2), u.2) (x2 + (-1)))) (u.1, u.2) x2)))))
set_option maxRecDepth 20000 in
set_option maxHeartbeats 4000000 in
theorem t_X3_prepare_11 {a b : Nat → Nat} {K : TS × HS → Prop} (C : bx_C p (rmD 4) S m args meth c cX3_prepare 3 yX3_prepare.cls none E A 0 0)   : ∀ (n : Nat) (u : TS × HS) (x2 : Int32), V_X3_prepare_11 K n u x2 → G_X3_prepare p l e S m args below meth c E A a b  K 11 [(0, .ref (a 0)), (1, .ref (b 0)), (2, .int x2)] [] (w_P E a u.1 ++ w_H E b u.2) := by
  intro n
  induction n with
  | zero =>
    intro u x2 hv
    exact False.elim hv
  | succ n ih =>
    intro u x2 hv
    unfold V_X3_prepare_11 at hv
    refine bx_iload_n C 12 dX3_prepare_11 rfl rfl rfl ?_
    refine bx_if_lt C 44 15 dX3_prepare_12 (by decide) rfl (fun h => ?_) (fun h => ?_)
    · replace hv := hv.1 h
      exact bx_vret C u rfl dX3_prepare_44 rfl hv
    · replace hv := hv.2 h
      refine bx_iload_n C 16 dX3_prepare_15 rfl rfl rfl ?_
      refine bx_aload_n C 17 dX3_prepare_16 rfl rfl rfl ?_
      refine bx_getf (v := .int u.1.2) C 20 0 1 inX3 rfl (by decide) fl_X3_19 dX3_prepare_17 rfl rfl rfl ?_
      refine bx_iconst C (-1) 21 dX3_prepare_20 ic_m1 rfl ?_
      refine bx_ixor C 22 dX3_prepare_21 rfl ?_
      refine bx_iand C 23 dX3_prepare_22 rfl ?_
      refine bx_if_ne C 38 26 dX3_prepare_23 (by decide) rfl (fun h => ?_) (fun h => ?_)
      · replace hv := hv.1 h
        refine bx_iinc C (-1) 41 dX3_prepare_38 rfl (by decide) ic_m1 rfl ?_
        refine bx_goto C 11 dX3_prepare_41 (by decide) ?_
        exact bx_cut [1, 2, 0] (w_P E a u.1 ++ w_H E b u.2) rfl rfl (ih u (x2 + (-1)) hv)
      · replace hv := hv.2 h
        refine bx_aload_n C 27 dX3_prepare_26 rfl rfl rfl ?_
        refine bx_getf (v := .ref (a 1)) C 30 0 0 inX3 rfl (by decide) fl_X3_11 dX3_prepare_27 rfl rfl rfl ?_
        refine bx_iload_n C 31 dX3_prepare_30 rfl rfl rfl ?_
        refine bx_aload_n C 32 dX3_prepare_31 rfl rfl rfl ?_
        refine bx_aload_n C 33 dX3_prepare_32 rfl rfl rfl ?_
        refine bx_iload_n C 34 dX3_prepare_33 rfl rfl rfl ?_
        refine bx_pVi C 0 rfl rfl 37 fc_X3_23 (k_X3_leastBehind l E a b _ _ _ hv) dX3_prepare_34 ⟨rfl, rfl, Nat.le_of_ble_eq_true rfl, Nat.le_of_ble_eq_true rfl⟩ [0, 1, 2, 3, 4, 5, 6, 7, 8, 9, 10, 11, 12, 13, 14] ps_PH_PH_0_2 (by decide) rfl rfl (Nat.le_of_ble_eq_true rfl) rfl (fun r1 hv => ?_)
        refine bx_iast C 38 1 (w_P E a ((upd u.1.1 (x2 : Int32).toNatClampNeg r1), u.1.2) ++ w_H E b u.2) dX3_prepare_37 rfl hv.1 rfl rfl ?_
        replace hv := hv.2
        refine bx_iinc C (-1) 41 dX3_prepare_38 rfl (by decide) ic_m1 rfl ?_
        refine bx_goto C 11 dX3_prepare_41 (by decide) ?_
        exact bx_cut [1, 2, 0] (w_P E a ((upd u.1.1 (x2 : Int32).toNatClampNeg r1), u.1.2) ++ w_H E b u.2) rfl rfl (ih (((upd u.1.1 (x2 : Int32).toNatClampNeg r1), u.1.2), u.2) (x2 + (-1)) hv)
def V_X3_prepare  (K : TS × HS → Prop)  (u : TS × HS)  : Prop := (V_X3_whoCanCome (fun r2 => ∃ n3, V_X3_prepare_11 K n3 ((u.1.1, r2), u.2) 127) u.2 )
set_option maxRecDepth 20000 in
set_option maxHeartbeats 4000000 in
theorem t_X3_prepare_0 {a b : Nat → Nat} {K : TS × HS → Prop} (C : bx_C p (rmD 4) S m args meth c cX3_prepare 3 yX3_prepare.cls none E A 0 0)   (u : TS × HS)  (hv : V_X3_prepare K u ) : G_X3_prepare p l e S m args below meth c E A a b  K 0 [(0, .ref (a 0)), (1, .ref (b 0))] [] (w_P E a u.1 ++ w_H E b u.2) := by
  unfold V_X3_prepare at hv
  refine bx_aload_n C 1 dX3_prepare_0 rfl rfl rfl ?_
  refine bx_aload_n C 2 dX3_prepare_1 rfl rfl rfl ?_
  refine bx_pSi C 5 fc_X3_15 (k_X3_whoCanCome l E b _ _ hv) dX3_prepare_2 ⟨rfl, rfl, Nat.le_of_ble_eq_true rfl, Nat.le_of_ble_eq_true rfl⟩ [2, 3, 4, 5, 6, 7, 8, 9, 10, 11, 12, 13, 14] ps_PH_H_2 (by decide) rfl rfl (Nat.le_of_ble_eq_true rfl) rfl (fun r2 hv => ?_)
  refine bx_putf C 8 0 1 (w_P E a (u.1.1, r2) ++ w_H E b u.2) inX3 tyX3 tyX3_ok nmX3 rfl (by decide) fl_X3_19 rfl dX3_prepare_5 rfl rfl rfl (Nat.le_of_ble_eq_true rfl) rfl rfl ?_
  refine bx_bipush C 127 10 dX3_prepare_8 bp_127 rfl ?_
  refine bx_istore_n C 11 dX3_prepare_10 rfl (by decide) rfl ?_
  obtain ⟨n3, hv⟩ := hv
  exact bx_cut [1, 2, 0] (w_P E a (u.1.1, r2) ++ w_H E b u.2) rfl rfl (t_X3_prepare_11 C   n3 ((u.1.1, r2), u.2) 127 hv)
theorem k_X3_prepare (l : Launch) (E : bx_E) (a : Nat → Nat) (b : Nat → Nat)  (K : TS × HS → Prop) (u : TS × HS)  (hv : V_X3_prepare  K u ) : bx_Mv l E yX3_prepare cX3_prepare 3 none (rmD 4) [.ref (a 0), .ref (b 0)] (fun (u : TS × HS) => w_P E a u.1 ++ w_H E b u.2) u K :=
  bx_metv (by decide +kernel) (Nat.le_of_ble_eq_true rfl) (fun p e S m below meth c C => t_X3_prepare_0 C u  hv)
abbrev G_X3_size (p : Program) (l : Launch) (e : Env) (S : State) (m : MethodId) (args : Array Value) (below : List Frame) (meth : Method) (c : Code) (E : bx_E) (A : Nat → Prop) (a : Nat → Nat)  (u : TS) (K : Int32 → Prop) (pc : Nat) (lv : List (Nat × Value)) (st : List Value) (ws : va_W) : Prop := bx_S p l e (rmD 1) S m args below meth c 1 E A (MQ below (va_Qi (fun r (_ : Unit) => K r) (fun (_ : Unit) t => bx_B E A (w_P E a u) t) A) args S 0 0 A) 0 0 pc lv st ws
def V_X3_size  (K : Int32 → Prop)  (u : TS)  : Prop := (V_J6_bitCount_0f7a4 (fun r1 => K r1)  u.2)
set_option maxRecDepth 20000 in
set_option maxHeartbeats 4000000 in
theorem t_X3_size_0 {a : Nat → Nat} {K : Int32 → Prop} (C : bx_C p (rmD 1) S m args meth c cX3_size 1 yX3_size.cls (some .int) E A 0 0) (u : TS)    (hv : V_X3_size K u ) : G_X3_size p l e S m args below meth c E A a  u K 0 [(0, .ref (a 0))] [] (w_P E a u) := by
  unfold V_X3_size at hv
  refine bx_aload_n C 1 dX3_size_0 rfl rfl rfl ?_
  refine bx_getf (v := .int u.2) C 4 0 1 inX3 rfl (by decide) fl_X3_19 dX3_size_1 rfl rfl rfl ?_
  refine bx_pSi C 7 fc_X3_27 (k_J6_bitCount_0f7a4 l E  _ _ hv) dX3_size_4 ⟨rfl, rfl, Nat.le_of_ble_eq_true rfl, Nat.le_of_ble_eq_true rfl⟩ [] rfl (by decide) rfl rfl (Nat.le_of_ble_eq_true rfl) rfl (fun r1 hv => ?_)
  exact bx_iret C () rfl dX3_size_7 rfl hv
theorem k_X3_size (l : Launch) (E : bx_E) (a : Nat → Nat)  (K : Int32 → Prop) (u : TS)  (hv : V_X3_size  K u ) : bx_Mi l E yX3_size cX3_size 1 (some .int) (rmD 1) [.ref (a 0)] (fun (_ : Unit) => w_P E a u) () (fun r (_ : Unit) => K r) :=
  bx_meti (by decide +kernel) (Nat.le_of_ble_eq_true rfl) (fun p e S m below meth c C => t_X3_size_0 C u  hv)
abbrev G_X3_leastFuss (p : Program) (l : Launch) (e : Env) (S : State) (m : MethodId) (args : Array Value) (below : List Frame) (meth : Method) (c : Code) (E : bx_E) (A : Nat → Prop) (a : Nat → Nat)  (u : TS) (K : Int32 → Prop) (pc : Nat) (lv : List (Nat × Value)) (st : List Value) (ws : va_W) : Prop := bx_S p l e (rmD 0) S m args below meth c 1 E A (MQ below (va_Qi (fun r (_ : Unit) => K r) (fun (_ : Unit) t => bx_B E A (w_P E a u) t) A) args S 0 0 A) 0 0 pc lv st ws
def V_X3_leastFuss  (K : Int32 → Prop)  (u : TS)  : Prop := K (u.1 0)
set_option maxRecDepth 20000 in
set_option maxHeartbeats 4000000 in
theorem t_X3_leastFuss_0 {a : Nat → Nat} {K : Int32 → Prop} (C : bx_C p (rmD 0) S m args meth c cX3_leastFuss 1 yX3_leastFuss.cls (some .int) E A 0 0) (u : TS)    (hv : V_X3_leastFuss K u ) : G_X3_leastFuss p l e S m args below meth c E A a  u K 0 [(0, .ref (a 0))] [] (w_P E a u) := by
  unfold V_X3_leastFuss at hv
  refine bx_aload_n C 1 dX3_leastFuss_0 rfl rfl rfl ?_
  refine bx_getf (v := .ref (a 1)) C 4 0 0 inX3 rfl (by decide) fl_X3_11 dX3_leastFuss_1 rfl rfl rfl ?_
  refine bx_iconst C 0 5 dX3_leastFuss_4 ic_0 rfl ?_
  refine bx_iald_k (f := u.1) C 6 1 0 dX3_leastFuss_5 rfl vin_0_128 cl_0 rfl ?_
  exact bx_iret C () rfl dX3_leastFuss_6 rfl hv
theorem k_X3_leastFuss (l : Launch) (E : bx_E) (a : Nat → Nat)  (K : Int32 → Prop) (u : TS)  (hv : V_X3_leastFuss  K u ) : bx_Mi l E yX3_leastFuss cX3_leastFuss 1 (some .int) (rmD 0) [.ref (a 0)] (fun (_ : Unit) => w_P E a u) () (fun r (_ : Unit) => K r) :=
  bx_meti (by decide +kernel) (Nat.le_of_ble_eq_true rfl) (fun p e S m below meth c C => t_X3_leastFuss_0 C u  hv)
abbrev G_X3_nextOf (p : Program) (l : Launch) (e : Env) (S : State) (m : MethodId) (args : Array Value) (below : List Frame) (meth : Method) (c : Code) (E : bx_E) (A : Nat → Prop) (a : Nat → Nat) (b : Nat → Nat)  (u : TS × HS) (K : Int32 → Prop) (pc : Nat) (lv : List (Nat × Value)) (st : List Value) (ws : va_W) : Prop := bx_S p l e (rmD 3) S m args below meth c 4 E A (MQ below (va_Qi (fun r (_ : Unit) => K r) (fun (_ : Unit) t => bx_B E A (w_P E a u.1 ++ w_H E b u.2) t) A) args S 0 0 A) 0 0 pc lv st ws
def V_X3_nextOf_2  (K : Int32 → Prop)  : Nat → (TS × HS) → Int32 → Int32 → Prop
  | 0, _, _, _ => False
  | n + 1, u, x2, x3 => ((u.2.2.2.2.2.1 ≤ x3 → K (-1)) ∧
 (¬ u.2.2.2.2.2.1 ≤ x3 → (V_X7_has (fun r1 => ((r1 = 0 → V_X3_nextOf_2 K n u x2 (x3 + 1)) ∧
 (¬ r1 = 0 → (V_X3_fussByWay (fun r2 => (vp_in x2 128 ∧ ((¬ r2 = (u.1.1 (x2 : Int32).toNatClampNeg) → V_X3_nextOf_2 K n u x2 (x3 + 1)) ∧
 (r2 = (u.1.1 (x2 : Int32).toNatClampNeg) → K x3)))) (u.1, u.2) x2 x3))))  (u.1.2 &&& (x2 ^^^ (-1))) x3)))
set_option maxRecDepth 20000 in
set_option maxHeartbeats 4000000 in
theorem t_X3_nextOf_2 {a b : Nat → Nat} {K : Int32 → Prop} (C : bx_C p (rmD 3) S m args meth c cX3_nextOf 4 yX3_nextOf.cls (some .int) E A 0 0) (u : TS × HS)  : ∀ (n : Nat)  (x2 : Int32) (x3 : Int32), V_X3_nextOf_2 K n u x2 x3 → G_X3_nextOf p l e S m args below meth c E A a b  u K 2 [(0, .ref (a 0)), (1, .ref (b 0)), (2, .int x2), (3, .int x3)] [] (w_P E a u.1 ++ w_H E b u.2) := by
  intro n
  induction n with
  | zero =>
    intro x2 x3 hv
    exact False.elim hv
  | succ n ih =>
    intro x2 x3 hv
    unfold V_X3_nextOf_2 at hv
    refine bx_iload_n C 3 dX3_nextOf_2 rfl rfl rfl ?_
    refine bx_aload_n C 4 dX3_nextOf_3 rfl rfl rfl ?_
    refine bx_getf (v := .int u.2.2.2.2.2.1) C 7 2 4 inX0 rfl (by decide) fl_X3_36 dX3_nextOf_4 rfl rfl rfl ?_
    refine bx_icmp_ge C 49 10 dX3_nextOf_7 (by decide) rfl (fun h => ?_) (fun h => ?_)
    · replace hv := hv.1 h
      refine bx_iconst C (-1) 50 dX3_nextOf_49 ic_m1 rfl ?_
      exact bx_iret C () rfl dX3_nextOf_50 rfl hv
    · replace hv := hv.2 h
      refine bx_aload_n C 11 dX3_nextOf_10 rfl rfl rfl ?_
      refine bx_getf (v := .int u.1.2) C 14 0 1 inX3 rfl (by decide) fl_X3_19 dX3_nextOf_11 rfl rfl rfl ?_
      refine bx_iload_n C 15 dX3_nextOf_14 rfl rfl rfl ?_
      refine bx_iconst C (-1) 16 dX3_nextOf_15 ic_m1 rfl ?_
      refine bx_ixor C 17 dX3_nextOf_16 rfl ?_
      refine bx_iand C 18 dX3_nextOf_17 rfl ?_
      refine bx_iload_n C 19 dX3_nextOf_18 rfl rfl rfl ?_
      refine bx_pSNi C 22 fc_X3_55 (k_X7_has l E  _ _ _ hv) dX3_nextOf_19 ⟨rfl, rfl, Nat.le_of_ble_eq_true rfl, Nat.le_of_ble_eq_true rfl⟩ [] rfl (by decide) rfl rfl (Nat.le_of_ble_eq_true rfl) rfl (fun r1 hv => ?_)
      refine bx_if_eq C 43 25 dX3_nextOf_22 (by decide) rfl (fun h => ?_) (fun h => ?_)
      · replace hv := hv.1 h
        refine bx_iinc C 1 46 dX3_nextOf_43 rfl (by decide) ic_1 rfl ?_
        refine bx_goto C 2 dX3_nextOf_46 (by decide) ?_
        exact bx_cut [1, 2, 3, 0] (w_P E a u.1 ++ w_H E b u.2) rfl rfl (ih  x2 (x3 + 1) hv)
      · replace hv := hv.2 h
        refine bx_aload_n C 26 dX3_nextOf_25 rfl rfl rfl ?_
        refine bx_aload_n C 27 dX3_nextOf_26 rfl rfl rfl ?_
        refine bx_iload_n C 28 dX3_nextOf_27 rfl rfl rfl ?_
        refine bx_iload_n C 29 dX3_nextOf_28 rfl rfl rfl ?_
        refine bx_pVi C 0 rfl rfl 32 fc_X3_60 (k_X3_fussByWay l E a b _ _ _ _ hv) dX3_nextOf_29 ⟨rfl, rfl, Nat.le_of_ble_eq_true rfl, Nat.le_of_ble_eq_true rfl⟩ [0, 1, 2, 3, 4, 5, 6, 7, 8, 9, 10, 11, 12, 13, 14] ps_PH_PH_0_2 (by decide) rfl rfl (Nat.le_of_ble_eq_true rfl) rfl (fun r2 hv => ?_)
        refine bx_aload_n C 33 dX3_nextOf_32 rfl rfl rfl ?_
        refine bx_getf (v := .ref (a 1)) C 36 0 0 inX3 rfl (by decide) fl_X3_11 dX3_nextOf_33 rfl rfl rfl ?_
        refine bx_iload_n C 37 dX3_nextOf_36 rfl rfl rfl ?_
        refine bx_iald (f := u.1.1) C 38 1 dX3_nextOf_37 rfl hv.1 rfl ?_
        replace hv := hv.2
        refine bx_icmp_ne C 43 41 dX3_nextOf_38 (by decide) rfl (fun h => ?_) (fun h => ?_)
        · replace hv := hv.1 h
          refine bx_iinc C 1 46 dX3_nextOf_43 rfl (by decide) ic_1 rfl ?_
          refine bx_goto C 2 dX3_nextOf_46 (by decide) ?_
          exact bx_cut [1, 2, 3, 0] (w_P E a u.1 ++ w_H E b u.2) rfl rfl (ih  x2 (x3 + 1) hv)
        · replace hv := hv.2 h
          refine bx_iload_n C 42 dX3_nextOf_41 rfl rfl rfl ?_
          exact bx_iret C () rfl dX3_nextOf_42 rfl hv
def V_X3_nextOf  (K : Int32 → Prop)  (u : TS × HS) (x2 : Int32) : Prop := ∃ n3, V_X3_nextOf_2 K n3 u x2 0
set_option maxRecDepth 20000 in
set_option maxHeartbeats 4000000 in
theorem t_X3_nextOf_0 {a b : Nat → Nat} {K : Int32 → Prop} (C : bx_C p (rmD 3) S m args meth c cX3_nextOf 4 yX3_nextOf.cls (some .int) E A 0 0) (u : TS × HS)   (x2 : Int32) (hv : V_X3_nextOf K u x2) : G_X3_nextOf p l e S m args below meth c E A a b  u K 0 [(0, .ref (a 0)), (1, .ref (b 0)), (2, .int x2)] [] (w_P E a u.1 ++ w_H E b u.2) := by
  unfold V_X3_nextOf at hv
  refine bx_iconst C 0 1 dX3_nextOf_0 ic_0 rfl ?_
  refine bx_istore_n C 2 dX3_nextOf_1 rfl (by decide) rfl ?_
  obtain ⟨n3, hv⟩ := hv
  exact bx_cut [1, 2, 3, 0] (w_P E a u.1 ++ w_H E b u.2) rfl rfl (t_X3_nextOf_2 C u  n3  x2 0 hv)
theorem k_X3_nextOf (l : Launch) (E : bx_E) (a : Nat → Nat) (b : Nat → Nat)  (K : Int32 → Prop) (u : TS × HS) (x2 : Int32) (hv : V_X3_nextOf  K u x2) : bx_Mi l E yX3_nextOf cX3_nextOf 4 (some .int) (rmD 3) [.ref (a 0), .ref (b 0), .int x2] (fun (_ : Unit) => w_P E a u.1 ++ w_H E b u.2) () (fun r (_ : Unit) => K r) :=
  bx_meti (by decide +kernel) (Nat.le_of_ble_eq_true rfl) (fun p e S m below meth c C => t_X3_nextOf_0 C u x2 hv)
abbrev G_X3_whoComes (p : Program) (l : Launch) (e : Env) (S : State) (m : MethodId) (args : Array Value) (below : List Frame) (meth : Method) (c : Code) (E : bx_E) (A : Nat → Prop) (a : Nat → Nat) (b : Nat → Nat)  (u : TS × HS) (K : Int32 → Prop) (pc : Nat) (lv : List (Nat × Value)) (st : List Value) (ws : va_W) : Prop := bx_S p l e (rmD 4) S m args below meth c 6 E A (MQ below (va_Qi (fun r (_ : Unit) => K r) (fun (_ : Unit) t => bx_B E A (w_P E a u.1 ++ w_H E b u.2) t) A) args S 0 0 A) 0 0 pc lv st ws
def V_X3_whoComes_8  (K : Int32 → Prop)  : Nat → (TS × HS) → Int32 → Int32 → Int32 → Int32 → Prop
  | 0, _, _, _, _, _ => False
  | n + 1, u, x2, x3, x4, x5 => ((x2 < x5 → K x4) ∧
 (¬ x2 < x5 → ((7 ≤ x5 → K x4) ∧
 (¬ 7 ≤ x5 → (V_X3_nextOf (fun r1 => ((¬ r1 = (-1) → V_X3_whoComes_8 K n u x2 (x3 ||| (1 <<< (r1 &&& 31))) r1 (x5 + 1)) ∧
 (r1 = (-1) → K (-1)))) (u.1, u.2) x3)))))
set_option maxRecDepth 20000 in
set_option maxHeartbeats 4000000 in
theorem t_X3_whoComes_8 {a b : Nat → Nat} {K : Int32 → Prop} (C : bx_C p (rmD 4) S m args meth c cX3_whoComes 6 yX3_whoComes.cls (some .int) E A 0 0) (u : TS × HS)  : ∀ (n : Nat)  (x2 : Int32) (x3 : Int32) (x4 : Int32) (x5 : Int32), V_X3_whoComes_8 K n u x2 x3 x4 x5 → G_X3_whoComes p l e S m args below meth c E A a b  u K 8 [(0, .ref (a 0)), (1, .ref (b 0)), (2, .int x2), (3, .int x3), (4, .int x4), (5, .int x5)] [] (w_P E a u.1 ++ w_H E b u.2) := by
  intro n
  induction n with
  | zero =>
    intro x2 x3 x4 x5 hv
    exact False.elim hv
  | succ n ih =>
    intro x2 x3 x4 x5 hv
    unfold V_X3_whoComes_8 at hv
    refine bx_iload C 10 dX3_whoComes_8 rfl rfl ?_
    refine bx_iload_n C 11 dX3_whoComes_10 rfl rfl rfl ?_
    refine bx_icmp_gt C 50 14 dX3_whoComes_11 (by decide) rfl (fun h => ?_) (fun h => ?_)
    · replace hv := hv.1 h
      refine bx_iload C 52 dX3_whoComes_50 rfl rfl ?_
      exact bx_iret C () rfl dX3_whoComes_52 rfl hv
    · replace hv := hv.2 h
      refine bx_iload C 16 dX3_whoComes_14 rfl rfl ?_
      refine bx_bipush C 7 18 dX3_whoComes_16 bp_7 rfl ?_
      refine bx_icmp_ge C 50 21 dX3_whoComes_18 (by decide) rfl (fun h => ?_) (fun h => ?_)
      · replace hv := hv.1 h
        refine bx_iload C 52 dX3_whoComes_50 rfl rfl ?_
        exact bx_iret C () rfl dX3_whoComes_52 rfl hv
      · replace hv := hv.2 h
        refine bx_aload_n C 22 dX3_whoComes_21 rfl rfl rfl ?_
        refine bx_aload_n C 23 dX3_whoComes_22 rfl rfl rfl ?_
        refine bx_iload_n C 24 dX3_whoComes_23 rfl rfl rfl ?_
        refine bx_pVi C 0 rfl rfl 27 fc_X3_33 (k_X3_nextOf l E a b _ _ _ hv) dX3_whoComes_24 ⟨rfl, rfl, Nat.le_of_ble_eq_true rfl, Nat.le_of_ble_eq_true rfl⟩ [0, 1, 2, 3, 4, 5, 6, 7, 8, 9, 10, 11, 12, 13, 14] ps_PH_PH_0_2 (by decide) rfl rfl (Nat.le_of_ble_eq_true rfl) rfl (fun r1 hv => ?_)
        refine bx_istore C 29 dX3_whoComes_27 (by decide) rfl ?_
        refine bx_iload C 31 dX3_whoComes_29 rfl rfl ?_
        refine bx_iconst C (-1) 32 dX3_whoComes_31 ic_m1 rfl ?_
        refine bx_icmp_ne C 37 35 dX3_whoComes_32 (by decide) rfl (fun h => ?_) (fun h => ?_)
        · replace hv := hv.1 h
          refine bx_iload_n C 38 dX3_whoComes_37 rfl rfl rfl ?_
          refine bx_iconst C 1 39 dX3_whoComes_38 ic_1 rfl ?_
          refine bx_iload C 41 dX3_whoComes_39 rfl rfl ?_
          refine bx_ishl C 42 dX3_whoComes_41 rfl ?_
          refine bx_ior C 43 dX3_whoComes_42 rfl ?_
          refine bx_istore_n C 44 dX3_whoComes_43 rfl (by decide) rfl ?_
          refine bx_iinc C 1 47 dX3_whoComes_44 rfl (by decide) ic_1 rfl ?_
          refine bx_goto C 8 dX3_whoComes_47 (by decide) ?_
          exact bx_cut [3, 4, 5, 1, 2, 0] (w_P E a u.1 ++ w_H E b u.2) rfl rfl (ih  x2 (x3 ||| (1 <<< (r1 &&& 31))) r1 (x5 + 1) hv)
        · replace hv := hv.2 h
          refine bx_iconst C (-1) 36 dX3_whoComes_35 ic_m1 rfl ?_
          exact bx_iret C () rfl dX3_whoComes_36 rfl hv
def V_X3_whoComes  (K : Int32 → Prop)  (u : TS × HS) (x2 : Int32) : Prop := ∃ n2, V_X3_whoComes_8 K n2 u x2 0 (-1) 0
set_option maxRecDepth 20000 in
set_option maxHeartbeats 4000000 in
theorem t_X3_whoComes_0 {a b : Nat → Nat} {K : Int32 → Prop} (C : bx_C p (rmD 4) S m args meth c cX3_whoComes 6 yX3_whoComes.cls (some .int) E A 0 0) (u : TS × HS)   (x2 : Int32) (hv : V_X3_whoComes K u x2) : G_X3_whoComes p l e S m args below meth c E A a b  u K 0 [(0, .ref (a 0)), (1, .ref (b 0)), (2, .int x2)] [] (w_P E a u.1 ++ w_H E b u.2) := by
  unfold V_X3_whoComes at hv
  refine bx_iconst C 0 1 dX3_whoComes_0 ic_0 rfl ?_
  refine bx_istore_n C 2 dX3_whoComes_1 rfl (by decide) rfl ?_
  refine bx_iconst C (-1) 3 dX3_whoComes_2 ic_m1 rfl ?_
  refine bx_istore C 5 dX3_whoComes_3 (by decide) rfl ?_
  refine bx_iconst C 0 6 dX3_whoComes_5 ic_0 rfl ?_
  refine bx_istore C 8 dX3_whoComes_6 (by decide) rfl ?_
  obtain ⟨n2, hv⟩ := hv
  exact bx_cut [3, 4, 5, 2, 1, 0] (w_P E a u.1 ++ w_H E b u.2) rfl rfl (t_X3_whoComes_8 C u  n2  x2 0 (-1) 0 hv)
theorem k_X3_whoComes (l : Launch) (E : bx_E) (a : Nat → Nat) (b : Nat → Nat)  (K : Int32 → Prop) (u : TS × HS) (x2 : Int32) (hv : V_X3_whoComes  K u x2) : bx_Mi l E yX3_whoComes cX3_whoComes 6 (some .int) (rmD 4) [.ref (a 0), .ref (b 0), .int x2] (fun (_ : Unit) => w_P E a u.1 ++ w_H E b u.2) () (fun r (_ : Unit) => K r) :=
  bx_meti (by decide +kernel) (Nat.le_of_ble_eq_true rfl) (fun p e S m below meth c C => t_X3_whoComes_0 C u x2 hv)
end
