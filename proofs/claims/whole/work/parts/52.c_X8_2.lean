section
variable {p : Program} {l : Launch} {e : Env} {S : State} {m : MethodId} {args : Array Value} {below : List Frame} {meth : Method} {c : Code} {E : bx_E} {A : Nat → Prop}
abbrev G_X8_readCoat (p : Program) (l : Launch) (e : Env) (S : State) (m : MethodId) (args : Array Value) (below : List Frame) (meth : Method) (c : Code) (E : bx_E) (A : Nat → Prop) (a : Nat → Nat)  (K : MS → Prop) (pc : Nat) (lv : List (Nat × Value)) (st : List Value) (ws : va_W) : Prop := bx_S p l e (rmD 5) S m args below meth c 2 E A (MQ below (va_Qv K (fun (u : MS) t => bx_B E A (w_M E a u) t) A) args S 0 0 A) 0 0 pc lv st ws
def V_X8_readCoat  (K : MS → Prop)  (u : MS)  : Prop := (V_X8_next (fun u1 => (V_X8_freeCell (fun r2 u3 => (V_X8_end (fun u4 => ((¬ u4.2.2.2.2.2.2.2.2.2.2.1 = (-1) → K u4) ∧
 (u4.2.2.2.2.2.2.2.2.2.2.1 = (-1) → K (u4.1, (upd u4.2.1 5 ((u4.2.1 5) ||| (1 <<< (r2 &&& 31)))), u4.2.2)))) u3 )) u1 )) u )
set_option maxRecDepth 20000 in
set_option maxHeartbeats 4000000 in
theorem t_X8_readCoat_0 {a : Nat → Nat} {K : MS → Prop} (C : bx_C p (rmD 5) S m args meth c cX8_readCoat 2 yX8_readCoat.cls none E A 0 0)   (u : MS)  (hv : V_X8_readCoat K u ) : G_X8_readCoat p l e S m args below meth c E A a  K 0 [(0, .ref (a 0))] [] (w_M E a u) := by
  unfold V_X8_readCoat at hv
  refine bx_aload_n C 1 dX8_readCoat_0 rfl rfl rfl ?_
  refine bx_qVv C 0 at_M_0 rfl 4 fc_X8_155 (k_X8_next l E a _ _ hv) dX8_readCoat_1 ⟨rfl, rfl, Nat.le_of_ble_eq_true rfl, Nat.le_of_ble_eq_true rfl⟩ [0, 1, 2, 3, 4, 5, 6, 7, 8, 9] (fun u1 => w_M E a u1) ps_M_M_0 (by decide) ad_M pu_M_M_0 rfl rfl (Nat.le_of_ble_eq_true rfl) rfl (fun u1 hv => ?_)
  refine bx_aload_n C 5 dX8_readCoat_4 rfl rfl rfl ?_
  refine bx_qVi C 0 at_M_0 rfl 8 fc_X8_175 (k_X8_freeCell l E a _ _ hv) dX8_readCoat_5 ⟨rfl, rfl, Nat.le_of_ble_eq_true rfl, Nat.le_of_ble_eq_true rfl⟩ [0, 1, 2, 3, 4, 5, 6, 7, 8, 9] (fun u3 => w_M E a u3) ps_M_M_0 (by decide) ad_M pu_M_M_0 rfl rfl (Nat.le_of_ble_eq_true rfl) rfl (fun r2 u3 hv => ?_)
  refine bx_istore_n C 9 dX8_readCoat_8 rfl (by decide) rfl ?_
  refine bx_aload_n C 10 dX8_readCoat_9 rfl rfl rfl ?_
  refine bx_qVv C 0 at_M_0 rfl 13 fc_X8_168 (k_X8_end l E a _ _ hv) dX8_readCoat_10 ⟨rfl, rfl, Nat.le_of_ble_eq_true rfl, Nat.le_of_ble_eq_true rfl⟩ [0, 1, 2, 3, 4, 5, 6, 7, 8, 9] (fun u4 => w_M E a u4) ps_M_M_0 (by decide) ad_M pu_M_M_0 rfl rfl (Nat.le_of_ble_eq_true rfl) rfl (fun u4 hv => ?_)
  refine bx_aload_n C 14 dX8_readCoat_13 rfl rfl rfl ?_
  refine bx_getf (v := .int u4.2.2.2.2.2.2.2.2.2.2.1) C 17 0 10 inX8 rfl (by decide) fl_X8_33 dX8_readCoat_14 at_M_0 rfl rfl ?_
  refine bx_iconst C (-1) 18 dX8_readCoat_17 ic_m1 rfl ?_
  refine bx_icmp_ne C 33 21 dX8_readCoat_18 (by decide) rfl (fun h => ?_) (fun h => ?_)
  · replace hv := hv.1 h
    exact bx_vret C u4 rfl dX8_readCoat_33 rfl hv
  · replace hv := hv.2 h
    refine bx_aload_n C 22 dX8_readCoat_21 rfl rfl rfl ?_
    refine bx_getf (v := .ref (a 2)) C 25 0 1 inX8 rfl (by decide) fl_X8_13 dX8_readCoat_22 at_M_0 rfl rfl ?_
    refine bx_iconst C 5 26 dX8_readCoat_25 ic_5 rfl ?_
    refine bx_dup2_11 C 27 dX8_readCoat_26 rfl rfl rfl ?_
    refine bx_iald_k (f := u4.2.1) C 28 2 5 dX8_readCoat_27 at_M_2 vin_5_171 cl_5 rfl ?_
    refine bx_iconst C 1 29 dX8_readCoat_28 ic_1 rfl ?_
    refine bx_iload_n C 30 dX8_readCoat_29 rfl rfl rfl ?_
    refine bx_ishl C 31 dX8_readCoat_30 rfl ?_
    refine bx_ior C 32 dX8_readCoat_31 rfl ?_
    refine bx_iast_k C 33 2 5 (w_M E a (u4.1, (upd u4.2.1 5 ((u4.2.1 5) ||| (1 <<< (r2 &&& 31)))), u4.2.2)) dX8_readCoat_32 rfl vin_5_171 cl_5 rfl rfl ?_
    exact bx_vret C (u4.1, (upd u4.2.1 5 ((u4.2.1 5) ||| (1 <<< (r2 &&& 31)))), u4.2.2) rfl dX8_readCoat_33 rfl hv
theorem k_X8_readCoat (l : Launch) (E : bx_E) (a : Nat → Nat)  (K : MS → Prop) (u : MS)  (hv : V_X8_readCoat  K u ) : bx_Mv l E yX8_readCoat cX8_readCoat 2 none (rmD 5) [.ref (a 0)] (fun (u : MS) => w_M E a u) u K :=
  bx_metv (by decide +kernel) (Nat.le_of_ble_eq_true rfl) (fun p e S m below meth c C => t_X8_readCoat_0 C u  hv)
abbrev G_X8_soulThat (p : Program) (l : Launch) (e : Env) (S : State) (m : MethodId) (args : Array Value) (below : List Frame) (meth : Method) (c : Code) (E : bx_E) (A : Nat → Prop) (a : Nat → Nat)  (K : Int32 → MS → Prop) (pc : Nat) (lv : List (Nat × Value)) (st : List Value) (ws : va_W) : Prop := bx_S p l e (rmD 3) S m args below meth c 3 E A (MQ below (va_Qi K (fun (u : MS) t => bx_B E A (w_M E a u) t) A) args S 0 0 A) 0 0 pc lv st ws
def V_X8_soulThat_52  (K : Int32 → MS → Prop)  (u : MS) (z1 : Int32) : Prop := (V_X8_must (fun u1 => (V_X8_goOnReading (fun u2 => K u1.2.2.2.2.2.2.2.2.2.2.2.1 u2) u1 )) u z1)
set_option maxRecDepth 20000 in
set_option maxHeartbeats 4000000 in
theorem t_X8_soulThat_52 {a : Nat → Nat} {K : Int32 → MS → Prop} (C : bx_C p (rmD 3) S m args meth c cX8_soulThat 3 yX8_soulThat.cls (some .int) E A 0 0)   (u : MS) (z1 : Int32) (hv : V_X8_soulThat_52 K u z1) : G_X8_soulThat p l e S m args below meth c E A a  K 52 [(0, .ref (a 0))] [.int z1, .ref (a 0)] (w_M E a u) := by
  unfold V_X8_soulThat_52 at hv
  refine bx_qVv C 0 at_M_0 rfl 55 fc_X8_158 (k_X8_must l E a _ _ _ hv) dX8_soulThat_52 ⟨rfl, rfl, Nat.le_of_ble_eq_true rfl, Nat.le_of_ble_eq_true rfl⟩ [0, 1, 2, 3, 4, 5, 6, 7, 8, 9] (fun u1 => w_M E a u1) ps_M_M_0 (by decide) ad_M pu_M_M_0 rfl rfl (Nat.le_of_ble_eq_true rfl) rfl (fun u1 hv => ?_)
  refine bx_aload_n C 56 dX8_soulThat_55 rfl rfl rfl ?_
  refine bx_getf (v := .int u1.2.2.2.2.2.2.2.2.2.2.2.1) C 59 0 11 inX8 rfl (by decide) fl_X8_142 dX8_soulThat_56 at_M_0 rfl rfl ?_
  refine bx_istore_n C 60 dX8_soulThat_59 rfl (by decide) rfl ?_
  refine bx_aload_n C 61 dX8_soulThat_60 rfl rfl rfl ?_
  refine bx_qVv C 0 at_M_0 rfl 64 fc_X8_162 (k_X8_goOnReading l E a _ _ hv) dX8_soulThat_61 ⟨rfl, rfl, Nat.le_of_ble_eq_true rfl, Nat.le_of_ble_eq_true rfl⟩ [0, 1, 2, 3, 4, 5, 6, 7, 8, 9] (fun u2 => w_M E a u2) ps_M_M_0 (by decide) ad_M pu_M_M_0 rfl rfl (Nat.le_of_ble_eq_true rfl) rfl (fun u2 hv => ?_)
  refine bx_iload_n C 65 dX8_soulThat_64 rfl rfl rfl ?_
  exact bx_iret C u2 rfl dX8_soulThat_65 rfl hv
def V_X8_soulThat_51  (K : Int32 → MS → Prop)  (u : MS)  : Prop := V_X8_soulThat_52 K u 0
set_option maxRecDepth 20000 in
set_option maxHeartbeats 4000000 in
theorem t_X8_soulThat_51 {a : Nat → Nat} {K : Int32 → MS → Prop} (C : bx_C p (rmD 3) S m args meth c cX8_soulThat 3 yX8_soulThat.cls (some .int) E A 0 0)   (u : MS)  (hv : V_X8_soulThat_51 K u ) : G_X8_soulThat p l e S m args below meth c E A a  K 51 [(0, .ref (a 0))] [.ref (a 0)] (w_M E a u) := by
  unfold V_X8_soulThat_51 at hv
  refine bx_iconst C 0 52 dX8_soulThat_51 ic_0 rfl ?_
  exact bx_cut [0] (w_M E a u) rfl rfl (t_X8_soulThat_52 C   u 0 hv)
def V_X8_soulThat_43  (K : Int32 → MS → Prop)  (u : MS) (x1 : Int32) (z1 : Int32) : Prop := ((¬ z1 = x1 → V_X8_soulThat_51 K u ) ∧
 (z1 = x1 → V_X8_soulThat_52 K u 1))
set_option maxRecDepth 20000 in
set_option maxHeartbeats 4000000 in
theorem t_X8_soulThat_43 {a : Nat → Nat} {K : Int32 → MS → Prop} (C : bx_C p (rmD 3) S m args meth c cX8_soulThat 3 yX8_soulThat.cls (some .int) E A 0 0)   (u : MS) (x1 : Int32) (z1 : Int32) (hv : V_X8_soulThat_43 K u x1 z1) : G_X8_soulThat p l e S m args below meth c E A a  K 43 [(0, .ref (a 0)), (1, .int x1)] [.int z1, .ref (a 0)] (w_M E a u) := by
  unfold V_X8_soulThat_43 at hv
  refine bx_iload_n C 44 dX8_soulThat_43 rfl rfl rfl ?_
  refine bx_icmp_ne C 51 47 dX8_soulThat_44 (by decide) rfl (fun h => ?_) (fun h => ?_)
  · replace hv := hv.1 h
    exact bx_cut [0] (w_M E a u) rfl rfl (t_X8_soulThat_51 C   u  hv)
  · replace hv := hv.2 h
    refine bx_iconst C 1 48 dX8_soulThat_47 ic_1 rfl ?_
    refine bx_goto C 52 dX8_soulThat_48 (by decide) ?_
    exact bx_cut [0] (w_M E a u) rfl rfl (t_X8_soulThat_52 C   u 1 hv)
def V_X8_soulThat  (K : Int32 → MS → Prop)  (u : MS) (x1 : Int32) : Prop := (V_X8_in (fun r3 => ((r3 = 0 → V_X8_soulThat_51 K u ) ∧
 (¬ r3 = 0 → (V_X8_cellOf (fun r4 => ((r4 = (-1) → V_X8_soulThat_43 K u x1 0) ∧
 (¬ r4 = (-1) → V_X8_soulThat_43 K u x1 1))) u.2.1 u.2.2.2.2.2.2.2.2.2.2.2.1))))  ((u.2.2.2.2.2.2.2.2.2.2.2.1 : Int32).toInt64) 0 ((((u.2.1 8) - 1) : Int32).toInt64))
set_option maxRecDepth 20000 in
set_option maxHeartbeats 4000000 in
theorem t_X8_soulThat_0 {a : Nat → Nat} {K : Int32 → MS → Prop} (C : bx_C p (rmD 3) S m args meth c cX8_soulThat 3 yX8_soulThat.cls (some .int) E A 0 0)   (u : MS) (x1 : Int32) (hv : V_X8_soulThat K u x1) : G_X8_soulThat p l e S m args below meth c E A a  K 0 [(0, .ref (a 0)), (1, .int x1)] [] (w_M E a u) := by
  unfold V_X8_soulThat at hv
  refine bx_aload_n C 1 dX8_soulThat_0 rfl rfl rfl ?_
  refine bx_aload_n C 2 dX8_soulThat_1 rfl rfl rfl ?_
  refine bx_getf (v := .int u.2.2.2.2.2.2.2.2.2.2.2.1) C 5 0 11 inX8 rfl (by decide) fl_X8_142 dX8_soulThat_2 at_M_0 rfl rfl ?_
  refine bx_i2l C 6 dX8_soulThat_5 rfl ?_
  refine bx_lconst C 0 7 dX8_soulThat_6 lc_0 rfl ?_
  refine bx_aload_n C 8 dX8_soulThat_7 rfl rfl rfl ?_
  refine bx_getf (v := .ref (a 2)) C 11 0 1 inX8 rfl (by decide) fl_X8_13 dX8_soulThat_8 at_M_0 rfl rfl ?_
  refine bx_bipush C 8 13 dX8_soulThat_11 bp_8 rfl ?_
  refine bx_iald_k (f := u.2.1) C 14 2 8 dX8_soulThat_13 at_M_2 vin_8_171 cl_8 rfl ?_
  refine bx_iconst C 1 15 dX8_soulThat_14 ic_1 rfl ?_
  refine bx_isub C 16 dX8_soulThat_15 rfl ?_
  refine bx_i2l C 17 dX8_soulThat_16 rfl ?_
  refine bx_pSi C 20 fc_X8_46 (k_X8_in l E  _ _ _ _ hv) dX8_soulThat_17 ⟨rfl, rfl, Nat.le_of_ble_eq_true rfl, Nat.le_of_ble_eq_true rfl⟩ [] rfl (by decide) rfl rfl (Nat.le_of_ble_eq_true rfl) rfl (fun r3 hv => ?_)
  refine bx_if_eq C 51 23 dX8_soulThat_20 (by decide) rfl (fun h => ?_) (fun h => ?_)
  · replace hv := hv.1 h
    exact bx_cut [0] (w_M E a u) rfl rfl (t_X8_soulThat_51 C   u  hv)
  · replace hv := hv.2 h
    refine bx_aload_n C 24 dX8_soulThat_23 rfl rfl rfl ?_
    refine bx_getf (v := .ref (a 2)) C 27 0 1 inX8 rfl (by decide) fl_X8_13 dX8_soulThat_24 at_M_0 rfl rfl ?_
    refine bx_aload_n C 28 dX8_soulThat_27 rfl rfl rfl ?_
    refine bx_getf (v := .int u.2.2.2.2.2.2.2.2.2.2.2.1) C 31 0 11 inX8 rfl (by decide) fl_X8_142 dX8_soulThat_28 at_M_0 rfl rfl ?_
    refine bx_pSi C 34 fc_X8_59 (k_X8_cellOf l E (fun k => a (2 + k)) _ _ _ hv) dX8_soulThat_31 ⟨rfl, rfl, Nat.le_of_ble_eq_true rfl, Nat.le_of_ble_eq_true rfl⟩ [2] ps_M_A_2 (by decide) rfl rfl (Nat.le_of_ble_eq_true rfl) rfl (fun r4 hv => ?_)
    refine bx_iconst C (-1) 35 dX8_soulThat_34 ic_m1 rfl ?_
    refine bx_icmp_eq C 42 38 dX8_soulThat_35 (by decide) rfl (fun h => ?_) (fun h => ?_)
    · replace hv := hv.1 h
      refine bx_iconst C 0 43 dX8_soulThat_42 ic_0 rfl ?_
      exact bx_cut [0, 1] (w_M E a u) rfl rfl (t_X8_soulThat_43 C   u x1 0 hv)
    · replace hv := hv.2 h
      refine bx_iconst C 1 39 dX8_soulThat_38 ic_1 rfl ?_
      refine bx_goto C 43 dX8_soulThat_39 (by decide) ?_
      exact bx_cut [0, 1] (w_M E a u) rfl rfl (t_X8_soulThat_43 C   u x1 1 hv)
theorem k_X8_soulThat (l : Launch) (E : bx_E) (a : Nat → Nat)  (K : Int32 → MS → Prop) (u : MS) (x1 : Int32) (hv : V_X8_soulThat  K u x1) : bx_Mi l E yX8_soulThat cX8_soulThat 3 (some .int) (rmD 3) [.ref (a 0), .int x1] (fun (u : MS) => w_M E a u) u K :=
  bx_meti (by decide +kernel) (Nat.le_of_ble_eq_true rfl) (fun p e S m below meth c C => t_X8_soulThat_0 C u x1 hv)
abbrev G_X8_readSit (p : Program) (l : Launch) (e : Env) (S : State) (m : MethodId) (args : Array Value) (below : List Frame) (meth : Method) (c : Code) (E : bx_E) (A : Nat → Prop) (a : Nat → Nat)  (K : MS → Prop) (pc : Nat) (lv : List (Nat × Value)) (st : List Value) (ws : va_W) : Prop := bx_S p l e (rmD 5) S m args below meth c 3 E A (MQ below (va_Qv K (fun (u : MS) t => bx_B E A (w_M E a u) t) A) args S 0 0 A) 0 0 pc lv st ws
def V_X8_readSit  (K : MS → Prop)  (u : MS)  : Prop := (V_X8_next (fun u1 => (V_X8_soulThat (fun r2 u3 => (V_X8_freeCell (fun r4 u5 => (V_X8_end (fun u6 => ((¬ u6.2.2.2.2.2.2.2.2.2.2.1 = (-1) → K u6) ∧
 (u6.2.2.2.2.2.2.2.2.2.2.1 = (-1) → (V_X8_goes (fun r7 u8 => K (u6.1, u8, u6.2.2)) u6.2.1 r2 r4)))) u5 )) u3 )) u1 0)) u )
set_option maxRecDepth 20000 in
set_option maxHeartbeats 4000000 in
theorem t_X8_readSit_0 {a : Nat → Nat} {K : MS → Prop} (C : bx_C p (rmD 5) S m args meth c cX8_readSit 3 yX8_readSit.cls none E A 0 0)   (u : MS)  (hv : V_X8_readSit K u ) : G_X8_readSit p l e S m args below meth c E A a  K 0 [(0, .ref (a 0))] [] (w_M E a u) := by
  unfold V_X8_readSit at hv
  refine bx_aload_n C 1 dX8_readSit_0 rfl rfl rfl ?_
  refine bx_qVv C 0 at_M_0 rfl 4 fc_X8_155 (k_X8_next l E a _ _ hv) dX8_readSit_1 ⟨rfl, rfl, Nat.le_of_ble_eq_true rfl, Nat.le_of_ble_eq_true rfl⟩ [0, 1, 2, 3, 4, 5, 6, 7, 8, 9] (fun u1 => w_M E a u1) ps_M_M_0 (by decide) ad_M pu_M_M_0 rfl rfl (Nat.le_of_ble_eq_true rfl) rfl (fun u1 hv => ?_)
  refine bx_aload_n C 5 dX8_readSit_4 rfl rfl rfl ?_
  refine bx_iconst C 0 6 dX8_readSit_5 ic_0 rfl ?_
  refine bx_qVi C 0 at_M_0 rfl 9 fc_X8_178 (k_X8_soulThat l E a _ _ _ hv) dX8_readSit_6 ⟨rfl, rfl, Nat.le_of_ble_eq_true rfl, Nat.le_of_ble_eq_true rfl⟩ [0, 1, 2, 3, 4, 5, 6, 7, 8, 9] (fun u3 => w_M E a u3) ps_M_M_0 (by decide) ad_M pu_M_M_0 rfl rfl (Nat.le_of_ble_eq_true rfl) rfl (fun r2 u3 hv => ?_)
  refine bx_istore_n C 10 dX8_readSit_9 rfl (by decide) rfl ?_
  refine bx_aload_n C 11 dX8_readSit_10 rfl rfl rfl ?_
  refine bx_qVi C 0 at_M_0 rfl 14 fc_X8_175 (k_X8_freeCell l E a _ _ hv) dX8_readSit_11 ⟨rfl, rfl, Nat.le_of_ble_eq_true rfl, Nat.le_of_ble_eq_true rfl⟩ [0, 1, 2, 3, 4, 5, 6, 7, 8, 9] (fun u5 => w_M E a u5) ps_M_M_0 (by decide) ad_M pu_M_M_0 rfl rfl (Nat.le_of_ble_eq_true rfl) rfl (fun r4 u5 hv => ?_)
  refine bx_istore_n C 15 dX8_readSit_14 rfl (by decide) rfl ?_
  refine bx_aload_n C 16 dX8_readSit_15 rfl rfl rfl ?_
  refine bx_qVv C 0 at_M_0 rfl 19 fc_X8_168 (k_X8_end l E a _ _ hv) dX8_readSit_16 ⟨rfl, rfl, Nat.le_of_ble_eq_true rfl, Nat.le_of_ble_eq_true rfl⟩ [0, 1, 2, 3, 4, 5, 6, 7, 8, 9] (fun u6 => w_M E a u6) ps_M_M_0 (by decide) ad_M pu_M_M_0 rfl rfl (Nat.le_of_ble_eq_true rfl) rfl (fun u6 hv => ?_)
  refine bx_aload_n C 20 dX8_readSit_19 rfl rfl rfl ?_
  refine bx_getf (v := .int u6.2.2.2.2.2.2.2.2.2.2.1) C 23 0 10 inX8 rfl (by decide) fl_X8_33 dX8_readSit_20 at_M_0 rfl rfl ?_
  refine bx_iconst C (-1) 24 dX8_readSit_23 ic_m1 rfl ?_
  refine bx_icmp_ne C 37 27 dX8_readSit_24 (by decide) rfl (fun h => ?_) (fun h => ?_)
  · replace hv := hv.1 h
    exact bx_vret C u6 rfl dX8_readSit_37 rfl hv
  · replace hv := hv.2 h
    refine bx_aload_n C 28 dX8_readSit_27 rfl rfl rfl ?_
    refine bx_getf (v := .ref (a 2)) C 31 0 1 inX8 rfl (by decide) fl_X8_13 dX8_readSit_28 at_M_0 rfl rfl ?_
    refine bx_iload_n C 32 dX8_readSit_31 rfl rfl rfl ?_
    refine bx_iload_n C 33 dX8_readSit_32 rfl rfl rfl ?_
    refine bx_qSi C 36 fc_X8_182 (k_X8_goes l E (fun k => a (2 + k)) _ _ _ _ hv) dX8_readSit_33 ⟨rfl, rfl, Nat.le_of_ble_eq_true rfl, Nat.le_of_ble_eq_true rfl⟩ [2] (fun u8 => w_M E a (u6.1, u8, u6.2.2)) ps_M_A_2 (by decide) ad_A pu_M_A_2 rfl rfl (Nat.le_of_ble_eq_true rfl) rfl (fun r7 u8 hv => ?_)
    refine bx_pop C 37 dX8_readSit_36 rfl rfl ?_
    exact bx_vret C (u6.1, u8, u6.2.2) rfl dX8_readSit_37 rfl hv
theorem k_X8_readSit (l : Launch) (E : bx_E) (a : Nat → Nat)  (K : MS → Prop) (u : MS)  (hv : V_X8_readSit  K u ) : bx_Mv l E yX8_readSit cX8_readSit 3 none (rmD 5) [.ref (a 0)] (fun (u : MS) => w_M E a u) u K :=
  bx_metv (by decide +kernel) (Nat.le_of_ble_eq_true rfl) (fun p e S m below meth c C => t_X8_readSit_0 C u  hv)
abbrev G_X8_readOut (p : Program) (l : Launch) (e : Env) (S : State) (m : MethodId) (args : Array Value) (below : List Frame) (meth : Method) (c : Code) (E : bx_E) (A : Nat → Prop) (a : Nat → Nat)  (K : MS → Prop) (pc : Nat) (lv : List (Nat × Value)) (st : List Value) (ws : va_W) : Prop := bx_S p l e (rmD 5) S m args below meth c 2 E A (MQ below (va_Qv K (fun (u : MS) t => bx_B E A (w_M E a u) t) A) args S 0 0 A) 0 0 pc lv st ws
def V_X8_readOut  (K : MS → Prop)  (u : MS)  : Prop := (V_X8_next (fun u1 => (V_X8_soulThat (fun r2 u3 => (V_X8_end (fun u4 => ((¬ u4.2.2.2.2.2.2.2.2.2.2.1 = (-1) → K u4) ∧
 (u4.2.2.2.2.2.2.2.2.2.2.1 = (-1) → (V_X8_goes (fun r5 u6 => K (u4.1, u6, u4.2.2)) u4.2.1 r2 (-1))))) u3 )) u1 1)) u )
set_option maxRecDepth 20000 in
set_option maxHeartbeats 4000000 in
theorem t_X8_readOut_0 {a : Nat → Nat} {K : MS → Prop} (C : bx_C p (rmD 5) S m args meth c cX8_readOut 2 yX8_readOut.cls none E A 0 0)   (u : MS)  (hv : V_X8_readOut K u ) : G_X8_readOut p l e S m args below meth c E A a  K 0 [(0, .ref (a 0))] [] (w_M E a u) := by
  unfold V_X8_readOut at hv
  refine bx_aload_n C 1 dX8_readOut_0 rfl rfl rfl ?_
  refine bx_qVv C 0 at_M_0 rfl 4 fc_X8_155 (k_X8_next l E a _ _ hv) dX8_readOut_1 ⟨rfl, rfl, Nat.le_of_ble_eq_true rfl, Nat.le_of_ble_eq_true rfl⟩ [0, 1, 2, 3, 4, 5, 6, 7, 8, 9] (fun u1 => w_M E a u1) ps_M_M_0 (by decide) ad_M pu_M_M_0 rfl rfl (Nat.le_of_ble_eq_true rfl) rfl (fun u1 hv => ?_)
  refine bx_aload_n C 5 dX8_readOut_4 rfl rfl rfl ?_
  refine bx_iconst C 1 6 dX8_readOut_5 ic_1 rfl ?_
  refine bx_qVi C 0 at_M_0 rfl 9 fc_X8_178 (k_X8_soulThat l E a _ _ _ hv) dX8_readOut_6 ⟨rfl, rfl, Nat.le_of_ble_eq_true rfl, Nat.le_of_ble_eq_true rfl⟩ [0, 1, 2, 3, 4, 5, 6, 7, 8, 9] (fun u3 => w_M E a u3) ps_M_M_0 (by decide) ad_M pu_M_M_0 rfl rfl (Nat.le_of_ble_eq_true rfl) rfl (fun r2 u3 hv => ?_)
  refine bx_istore_n C 10 dX8_readOut_9 rfl (by decide) rfl ?_
  refine bx_aload_n C 11 dX8_readOut_10 rfl rfl rfl ?_
  refine bx_qVv C 0 at_M_0 rfl 14 fc_X8_168 (k_X8_end l E a _ _ hv) dX8_readOut_11 ⟨rfl, rfl, Nat.le_of_ble_eq_true rfl, Nat.le_of_ble_eq_true rfl⟩ [0, 1, 2, 3, 4, 5, 6, 7, 8, 9] (fun u4 => w_M E a u4) ps_M_M_0 (by decide) ad_M pu_M_M_0 rfl rfl (Nat.le_of_ble_eq_true rfl) rfl (fun u4 hv => ?_)
  refine bx_aload_n C 15 dX8_readOut_14 rfl rfl rfl ?_
  refine bx_getf (v := .int u4.2.2.2.2.2.2.2.2.2.2.1) C 18 0 10 inX8 rfl (by decide) fl_X8_33 dX8_readOut_15 at_M_0 rfl rfl ?_
  refine bx_iconst C (-1) 19 dX8_readOut_18 ic_m1 rfl ?_
  refine bx_icmp_ne C 32 22 dX8_readOut_19 (by decide) rfl (fun h => ?_) (fun h => ?_)
  · replace hv := hv.1 h
    exact bx_vret C u4 rfl dX8_readOut_32 rfl hv
  · replace hv := hv.2 h
    refine bx_aload_n C 23 dX8_readOut_22 rfl rfl rfl ?_
    refine bx_getf (v := .ref (a 2)) C 26 0 1 inX8 rfl (by decide) fl_X8_13 dX8_readOut_23 at_M_0 rfl rfl ?_
    refine bx_iload_n C 27 dX8_readOut_26 rfl rfl rfl ?_
    refine bx_iconst C (-1) 28 dX8_readOut_27 ic_m1 rfl ?_
    refine bx_qSi C 31 fc_X8_182 (k_X8_goes l E (fun k => a (2 + k)) _ _ _ _ hv) dX8_readOut_28 ⟨rfl, rfl, Nat.le_of_ble_eq_true rfl, Nat.le_of_ble_eq_true rfl⟩ [2] (fun u6 => w_M E a (u4.1, u6, u4.2.2)) ps_M_A_2 (by decide) ad_A pu_M_A_2 rfl rfl (Nat.le_of_ble_eq_true rfl) rfl (fun r5 u6 hv => ?_)
    refine bx_pop C 32 dX8_readOut_31 rfl rfl ?_
    exact bx_vret C (u4.1, u6, u4.2.2) rfl dX8_readOut_32 rfl hv
theorem k_X8_readOut (l : Launch) (E : bx_E) (a : Nat → Nat)  (K : MS → Prop) (u : MS)  (hv : V_X8_readOut  K u ) : bx_Mv l E yX8_readOut cX8_readOut 2 none (rmD 5) [.ref (a 0)] (fun (u : MS) => w_M E a u) u K :=
  bx_metv (by decide +kernel) (Nat.le_of_ble_eq_true rfl) (fun p e S m below meth c C => t_X8_readOut_0 C u  hv)
abbrev G_X8_readMinutes (p : Program) (l : Launch) (e : Env) (S : State) (m : MethodId) (args : Array Value) (below : List Frame) (meth : Method) (c : Code) (E : bx_E) (A : Nat → Prop) (a : Nat → Nat)  (K : MS → Prop) (pc : Nat) (lv : List (Nat × Value)) (st : List Value) (ws : va_W) : Prop := bx_S p l e (rmD 4) S m args below meth c 2 E A (MQ below (va_Qv K (fun (u : MS) t => bx_B E A (w_M E a u) t) A) args S 0 0 A) 0 0 pc lv st ws
def V_X8_readMinutes  (K : MS → Prop)  (u : MS)  : Prop := (V_X8_next (fun u1 => (V_X8_number (fun r2 u3 => (V_X8_end (fun u4 => ((¬ u4.2.2.2.2.2.2.2.2.2.2.1 = (-1) → K u4) ∧
 (u4.2.2.2.2.2.2.2.2.2.2.1 = (-1) → K (u4.1, (upd u4.2.1 6 ((u4.2.1 6) + r2)), u4.2.2)))) u3 )) u1 1 99)) u )
set_option maxRecDepth 20000 in
set_option maxHeartbeats 4000000 in
theorem t_X8_readMinutes_0 {a : Nat → Nat} {K : MS → Prop} (C : bx_C p (rmD 4) S m args meth c cX8_readMinutes 2 yX8_readMinutes.cls none E A 0 0)   (u : MS)  (hv : V_X8_readMinutes K u ) : G_X8_readMinutes p l e S m args below meth c E A a  K 0 [(0, .ref (a 0))] [] (w_M E a u) := by
  unfold V_X8_readMinutes at hv
  refine bx_aload_n C 1 dX8_readMinutes_0 rfl rfl rfl ?_
  refine bx_qVv C 0 at_M_0 rfl 4 fc_X8_155 (k_X8_next l E a _ _ hv) dX8_readMinutes_1 ⟨rfl, rfl, Nat.le_of_ble_eq_true rfl, Nat.le_of_ble_eq_true rfl⟩ [0, 1, 2, 3, 4, 5, 6, 7, 8, 9] (fun u1 => w_M E a u1) ps_M_M_0 (by decide) ad_M pu_M_M_0 rfl rfl (Nat.le_of_ble_eq_true rfl) rfl (fun u1 hv => ?_)
  refine bx_aload_n C 5 dX8_readMinutes_4 rfl rfl rfl ?_
  refine bx_iconst C 1 6 dX8_readMinutes_5 ic_1 rfl ?_
  refine bx_bipush C 99 8 dX8_readMinutes_6 bp_99 rfl ?_
  refine bx_qVi C 0 at_M_0 rfl 11 fc_X8_165 (k_X8_number l E a _ _ _ _ hv) dX8_readMinutes_8 ⟨rfl, rfl, Nat.le_of_ble_eq_true rfl, Nat.le_of_ble_eq_true rfl⟩ [0, 1, 2, 3, 4, 5, 6, 7, 8, 9] (fun u3 => w_M E a u3) ps_M_M_0 (by decide) ad_M pu_M_M_0 rfl rfl (Nat.le_of_ble_eq_true rfl) rfl (fun r2 u3 hv => ?_)
  refine bx_istore_n C 12 dX8_readMinutes_11 rfl (by decide) rfl ?_
  refine bx_aload_n C 13 dX8_readMinutes_12 rfl rfl rfl ?_
  refine bx_qVv C 0 at_M_0 rfl 16 fc_X8_168 (k_X8_end l E a _ _ hv) dX8_readMinutes_13 ⟨rfl, rfl, Nat.le_of_ble_eq_true rfl, Nat.le_of_ble_eq_true rfl⟩ [0, 1, 2, 3, 4, 5, 6, 7, 8, 9] (fun u4 => w_M E a u4) ps_M_M_0 (by decide) ad_M pu_M_M_0 rfl rfl (Nat.le_of_ble_eq_true rfl) rfl (fun u4 hv => ?_)
  refine bx_aload_n C 17 dX8_readMinutes_16 rfl rfl rfl ?_
  refine bx_getf (v := .int u4.2.2.2.2.2.2.2.2.2.2.1) C 20 0 10 inX8 rfl (by decide) fl_X8_33 dX8_readMinutes_17 at_M_0 rfl rfl ?_
  refine bx_iconst C (-1) 21 dX8_readMinutes_20 ic_m1 rfl ?_
  refine bx_icmp_ne C 35 24 dX8_readMinutes_21 (by decide) rfl (fun h => ?_) (fun h => ?_)
  · replace hv := hv.1 h
    exact bx_vret C u4 rfl dX8_readMinutes_35 rfl hv
  · replace hv := hv.2 h
    refine bx_aload_n C 25 dX8_readMinutes_24 rfl rfl rfl ?_
    refine bx_getf (v := .ref (a 2)) C 28 0 1 inX8 rfl (by decide) fl_X8_13 dX8_readMinutes_25 at_M_0 rfl rfl ?_
    refine bx_bipush C 6 30 dX8_readMinutes_28 bp_6 rfl ?_
    refine bx_dup2_11 C 31 dX8_readMinutes_30 rfl rfl rfl ?_
    refine bx_iald_k (f := u4.2.1) C 32 2 6 dX8_readMinutes_31 at_M_2 vin_6_171 cl_6 rfl ?_
    refine bx_iload_n C 33 dX8_readMinutes_32 rfl rfl rfl ?_
    refine bx_iadd C 34 dX8_readMinutes_33 rfl ?_
    refine bx_iast_k C 35 2 6 (w_M E a (u4.1, (upd u4.2.1 6 ((u4.2.1 6) + r2)), u4.2.2)) dX8_readMinutes_34 rfl vin_6_171 cl_6 rfl rfl ?_
    exact bx_vret C (u4.1, (upd u4.2.1 6 ((u4.2.1 6) + r2)), u4.2.2) rfl dX8_readMinutes_35 rfl hv
theorem k_X8_readMinutes (l : Launch) (E : bx_E) (a : Nat → Nat)  (K : MS → Prop) (u : MS)  (hv : V_X8_readMinutes  K u ) : bx_Mv l E yX8_readMinutes cX8_readMinutes 2 none (rmD 4) [.ref (a 0)] (fun (u : MS) => w_M E a u) u K :=
  bx_metv (by decide +kernel) (Nat.le_of_ble_eq_true rfl) (fun p e S m below meth c C => t_X8_readMinutes_0 C u  hv)
abbrev G_X8_read (p : Program) (l : Launch) (e : Env) (S : State) (m : MethodId) (args : Array Value) (below : List Frame) (meth : Method) (c : Code) (E : bx_E) (A : Nat → Prop) (a : Nat → Nat)  (K : Int32 → MS → Prop) (pc : Nat) (lv : List (Nat × Value)) (st : List Value) (ws : va_W) : Prop := bx_S p l e (rmD 6) S m args below meth c 3 E A (MQ below (va_Qi K (fun (u : MS) t => bx_B E A (w_M E a u) t) A) args S 0 0 A) 0 0 pc lv st ws
def V_X8_read_75  (K : Int32 → MS → Prop) (B45 : MS → Int32 → Prop) (u : MS) (x1 : Int32) (z1 : Int32) (z2 : Int32) : Prop := (vp_in z1 171 ∧ B45 (u.1, (upd u.2.1 (z1 : Int32).toNatClampNeg z2), u.2.2) (x1 + 1))
set_option maxRecDepth 20000 in
set_option maxHeartbeats 4000000 in
theorem t_X8_read_75 {a : Nat → Nat} {K : Int32 → MS → Prop} (C : bx_C p (rmD 6) S m args meth c cX8_read 3 yX8_read.cls (some .int) E A 0 0)  (B45 : MS → Int32 → Prop) (hB45 : ∀ (u : MS) (x1 : Int32), B45 u x1 → G_X8_read p l e S m args below meth c E A a  K 45 [(0, .ref (a 0)), (1, .int x1)] [] (w_M E a u)) (u : MS) (x1 : Int32) (z1 : Int32) (z2 : Int32) (hv : V_X8_read_75 K B45 u x1 z1 z2) : G_X8_read p l e S m args below meth c E A a  K 75 [(0, .ref (a 0)), (1, .int x1)] [.int z2, .int z1, .ref (a 2)] (w_M E a u) := by
  unfold V_X8_read_75 at hv
  refine bx_iast C 76 2 (w_M E a (u.1, (upd u.2.1 (z1 : Int32).toNatClampNeg z2), u.2.2)) dX8_read_75 rfl hv.1 rfl rfl ?_
  replace hv := hv.2
  refine bx_iinc C 1 79 dX8_read_76 rfl (by decide) ic_1 rfl ?_
  refine bx_goto C 45 dX8_read_79 (by decide) ?_
  exact bx_cut [1, 0] (w_M E a (u.1, (upd u.2.1 (z1 : Int32).toNatClampNeg z2), u.2.2)) rfl rfl (hB45 (u.1, (upd u.2.1 (z1 : Int32).toNatClampNeg z2), u.2.2) (x1 + 1) hv)
def V_X8_read_208  (K : Int32 → MS → Prop)  : Nat → MS → Int32 → Int32 → Prop
  | 0, _, _, _ => False
  | n + 1, u, x1, x2 => ((171 ≤ x2 → K x1 u) ∧
 (¬ 171 ≤ x2 → (vp_in x2 171 ∧ (vp_in x2 171 ∧ V_X8_read_208 K n ((upd u.1 (x2 : Int32).toNatClampNeg (u.2.1 (x2 : Int32).toNatClampNeg)), u.2) x1 (x2 + 1)))))
set_option maxRecDepth 20000 in
set_option maxHeartbeats 4000000 in
theorem t_X8_read_208 {a : Nat → Nat} {K : Int32 → MS → Prop} (C : bx_C p (rmD 6) S m args meth c cX8_read 3 yX8_read.cls (some .int) E A 0 0)   : ∀ (n : Nat) (u : MS) (x1 : Int32) (x2 : Int32), V_X8_read_208 K n u x1 x2 → G_X8_read p l e S m args below meth c E A a  K 208 [(0, .ref (a 0)), (1, .int x1), (2, .int x2)] [] (w_M E a u) := by
  intro n
  induction n with
  | zero =>
    intro u x1 x2 hv
    exact False.elim hv
  | succ n ih =>
    intro u x1 x2 hv
    unfold V_X8_read_208 at hv
    refine bx_iload_n C 209 dX8_read_208 rfl rfl rfl ?_
    refine bx_sipush C 171 212 dX8_read_209 sp_171 rfl ?_
    refine bx_icmp_ge C 233 215 dX8_read_212 (by decide) rfl (fun h => ?_) (fun h => ?_)
    · replace hv := hv.1 h
      refine bx_iload_n C 234 dX8_read_233 rfl rfl rfl ?_
      exact bx_iret C u rfl dX8_read_234 rfl hv
    · replace hv := hv.2 h
      refine bx_aload_n C 216 dX8_read_215 rfl rfl rfl ?_
      refine bx_getf (v := .ref (a 1)) C 219 0 0 inX8 rfl (by decide) fl_X8_7 dX8_read_216 at_M_0 rfl rfl ?_
      refine bx_iload_n C 220 dX8_read_219 rfl rfl rfl ?_
      refine bx_aload_n C 221 dX8_read_220 rfl rfl rfl ?_
      refine bx_getf (v := .ref (a 2)) C 224 0 1 inX8 rfl (by decide) fl_X8_13 dX8_read_221 at_M_0 rfl rfl ?_
      refine bx_iload_n C 225 dX8_read_224 rfl rfl rfl ?_
      refine bx_iald (f := u.2.1) C 226 2 dX8_read_225 at_M_2 hv.1 rfl ?_
      replace hv := hv.2
      refine bx_iast C 227 1 (w_M E a ((upd u.1 (x2 : Int32).toNatClampNeg (u.2.1 (x2 : Int32).toNatClampNeg)), u.2)) dX8_read_226 rfl hv.1 rfl rfl ?_
      replace hv := hv.2
      refine bx_iinc C 1 230 dX8_read_227 rfl (by decide) ic_1 rfl ?_
      refine bx_goto C 208 dX8_read_230 (by decide) ?_
      exact bx_cut [1, 2, 0] (w_M E a ((upd u.1 (x2 : Int32).toNatClampNeg (u.2.1 (x2 : Int32).toNatClampNeg)), u.2)) rfl rfl (ih ((upd u.1 (x2 : Int32).toNatClampNeg (u.2.1 (x2 : Int32).toNatClampNeg)), u.2) x1 (x2 + 1) hv)
def V_X8_read_190  (K : Int32 → MS → Prop)  (u : MS) (x1 : Int32) : Prop := ((u.2.2.2.2.2.2.2.2.2.2.1 = (-1) → ∃ n1, V_X8_read_208 K n1 u x1 0) ∧
 (¬ u.2.2.2.2.2.2.2.2.2.2.1 = (-1) → K ((-10) - u.2.2.2.2.2.2.2.2.2.2.1) u))
set_option maxRecDepth 20000 in
set_option maxHeartbeats 4000000 in
theorem t_X8_read_190 {a : Nat → Nat} {K : Int32 → MS → Prop} (C : bx_C p (rmD 6) S m args meth c cX8_read 3 yX8_read.cls (some .int) E A 0 0)   (u : MS) (x1 : Int32) (hv : V_X8_read_190 K u x1) : G_X8_read p l e S m args below meth c E A a  K 190 [(0, .ref (a 0)), (1, .int x1)] [] (w_M E a u) := by
  unfold V_X8_read_190 at hv
  refine bx_aload_n C 191 dX8_read_190 rfl rfl rfl ?_
  refine bx_getf (v := .int u.2.2.2.2.2.2.2.2.2.2.1) C 194 0 10 inX8 rfl (by decide) fl_X8_33 dX8_read_191 at_M_0 rfl rfl ?_
  refine bx_iconst C (-1) 195 dX8_read_194 ic_m1 rfl ?_
  refine bx_icmp_eq C 206 198 dX8_read_195 (by decide) rfl (fun h => ?_) (fun h => ?_)
  · replace hv := hv.1 h
    refine bx_iconst C 0 207 dX8_read_206 ic_0 rfl ?_
    refine bx_istore_n C 208 dX8_read_207 rfl (by decide) rfl ?_
    obtain ⟨n1, hv⟩ := hv
    exact bx_cut [1, 2, 0] (w_M E a u) rfl rfl (t_X8_read_208 C   n1 u x1 0 hv)
  · replace hv := hv.2 h
    refine bx_bipush C (-10) 200 dX8_read_198 bp_m10 rfl ?_
    refine bx_aload_n C 201 dX8_read_200 rfl rfl rfl ?_
    refine bx_getf (v := .int u.2.2.2.2.2.2.2.2.2.2.1) C 204 0 10 inX8 rfl (by decide) fl_X8_33 dX8_read_201 at_M_0 rfl rfl ?_
    refine bx_isub C 205 dX8_read_204 rfl ?_
    exact bx_iret C u rfl dX8_read_205 rfl hv
def V_X8_read_88  (K : Int32 → MS → Prop)  : Nat → MS → Int32 → Prop
  | 0, _, _ => False
  | n + 1, u, x1 => ((¬ u.2.2.2.2.2.2.2.2.2.2.1 = (-1) → V_X8_read_190 K u x1) ∧
 (u.2.2.2.2.2.2.2.2.2.2.1 = (-1) → ((u.2.2.2.2.2.2.2.2.2.2.2.1 = (-1) → V_X8_read_190 K u x1) ∧
 (¬ u.2.2.2.2.2.2.2.2.2.2.2.1 = (-1) → ((u.2.2.2.2.2.2.2.2.2.2.2.1 = 101 → (V_X8_readSoul (fun u2 => V_X8_read_88 K n u2 (x1 + 1)) u )) ∧
 (u.2.2.2.2.2.2.2.2.2.2.2.1 = 102 → (V_X8_readCoat (fun u3 => V_X8_read_88 K n u3 (x1 + 1)) u )) ∧
 (u.2.2.2.2.2.2.2.2.2.2.2.1 = 103 → (V_X8_readSit (fun u4 => V_X8_read_88 K n u4 (x1 + 1)) u )) ∧
 (u.2.2.2.2.2.2.2.2.2.2.2.1 = 104 → (V_X8_readOut (fun u5 => V_X8_read_88 K n u5 (x1 + 1)) u )) ∧
 (u.2.2.2.2.2.2.2.2.2.2.2.1 = 105 → (V_X8_readMinutes (fun u6 => V_X8_read_88 K n u6 (x1 + 1)) u )) ∧
 (¬ u.2.2.2.2.2.2.2.2.2.2.2.1 = 101 ∧ ¬ u.2.2.2.2.2.2.2.2.2.2.2.1 = 102 ∧ ¬ u.2.2.2.2.2.2.2.2.2.2.2.1 = 103 ∧ ¬ u.2.2.2.2.2.2.2.2.2.2.2.1 = 104 ∧ ¬ u.2.2.2.2.2.2.2.2.2.2.2.1 = 105 → (V_X8_must (fun u7 => V_X8_read_88 K n u7 (x1 + 1)) u 0)))))))
set_option maxRecDepth 20000 in
set_option maxHeartbeats 4000000 in
theorem t_X8_read_88 {a : Nat → Nat} {K : Int32 → MS → Prop} (C : bx_C p (rmD 6) S m args meth c cX8_read 3 yX8_read.cls (some .int) E A 0 0)   : ∀ (n : Nat) (u : MS) (x1 : Int32), V_X8_read_88 K n u x1 → G_X8_read p l e S m args below meth c E A a  K 88 [(0, .ref (a 0)), (1, .int x1)] [] (w_M E a u) := by
  intro n
  induction n with
  | zero =>
    intro u x1 hv
    exact False.elim hv
  | succ n ih =>
    intro u x1 hv
    unfold V_X8_read_88 at hv
    refine bx_aload_n C 89 dX8_read_88 rfl rfl rfl ?_
    refine bx_getf (v := .int u.2.2.2.2.2.2.2.2.2.2.1) C 92 0 10 inX8 rfl (by decide) fl_X8_33 dX8_read_89 at_M_0 rfl rfl ?_
    refine bx_iconst C (-1) 93 dX8_read_92 ic_m1 rfl ?_
    refine bx_icmp_ne C 190 96 dX8_read_93 (by decide) rfl (fun h => ?_) (fun h => ?_)
    · replace hv := hv.1 h
      exact bx_cut [0, 1] (w_M E a u) rfl rfl (t_X8_read_190 C   u x1 hv)
    · replace hv := hv.2 h
      refine bx_aload_n C 97 dX8_read_96 rfl rfl rfl ?_
      refine bx_getf (v := .int u.2.2.2.2.2.2.2.2.2.2.2.1) C 100 0 11 inX8 rfl (by decide) fl_X8_142 dX8_read_97 at_M_0 rfl rfl ?_
      refine bx_iconst C (-1) 101 dX8_read_100 ic_m1 rfl ?_
      refine bx_icmp_eq C 190 104 dX8_read_101 (by decide) rfl (fun h => ?_) (fun h => ?_)
      · replace hv := hv.1 h
        exact bx_cut [0, 1] (w_M E a u) rfl rfl (t_X8_read_190 C   u x1 hv)
      · replace hv := hv.2 h
        refine bx_aload_n C 105 dX8_read_104 rfl rfl rfl ?_
        refine bx_getf (v := .int u.2.2.2.2.2.2.2.2.2.2.2.1) C 108 0 11 inX8 rfl (by decide) fl_X8_142 dX8_read_105 at_M_0 rfl rfl ?_
        by_cases h0 : u.2.2.2.2.2.2.2.2.2.2.2.1 = 101
        · replace hv := hv.1 h0
          refine bx_tin C 144 101 dX8_read_108 h0 (by decide) (by decide) rfl (by decide) ?_
          refine bx_aload_n C 145 dX8_read_144 rfl rfl rfl ?_
          refine bx_qVv C 0 at_M_0 rfl 148 fc_X8_185 (k_X8_readSoul l E a _ _ hv) dX8_read_145 ⟨rfl, rfl, Nat.le_of_ble_eq_true rfl, Nat.le_of_ble_eq_true rfl⟩ [0, 1, 2, 3, 4, 5, 6, 7, 8, 9] (fun u2 => w_M E a u2) ps_M_M_0 (by decide) ad_M pu_M_M_0 rfl rfl (Nat.le_of_ble_eq_true rfl) rfl (fun u2 hv => ?_)
          refine bx_goto C 184 dX8_read_148 (by decide) ?_
          refine bx_iinc C 1 187 dX8_read_184 rfl (by decide) ic_1 rfl ?_
          refine bx_goto C 88 dX8_read_187 (by decide) ?_
          exact bx_cut [1, 0] (w_M E a u2) rfl rfl (ih u2 (x1 + 1) hv)
        by_cases h1 : u.2.2.2.2.2.2.2.2.2.2.2.1 = 102
        · replace hv := hv.2.1 h1
          refine bx_tin C 151 102 dX8_read_108 h1 (by decide) (by decide) rfl (by decide) ?_
          refine bx_aload_n C 152 dX8_read_151 rfl rfl rfl ?_
          refine bx_qVv C 0 at_M_0 rfl 155 fc_X8_188 (k_X8_readCoat l E a _ _ hv) dX8_read_152 ⟨rfl, rfl, Nat.le_of_ble_eq_true rfl, Nat.le_of_ble_eq_true rfl⟩ [0, 1, 2, 3, 4, 5, 6, 7, 8, 9] (fun u3 => w_M E a u3) ps_M_M_0 (by decide) ad_M pu_M_M_0 rfl rfl (Nat.le_of_ble_eq_true rfl) rfl (fun u3 hv => ?_)
          refine bx_goto C 184 dX8_read_155 (by decide) ?_
          refine bx_iinc C 1 187 dX8_read_184 rfl (by decide) ic_1 rfl ?_
          refine bx_goto C 88 dX8_read_187 (by decide) ?_
          exact bx_cut [1, 0] (w_M E a u3) rfl rfl (ih u3 (x1 + 1) hv)
        by_cases h2 : u.2.2.2.2.2.2.2.2.2.2.2.1 = 103
        · replace hv := hv.2.2.1 h2
          refine bx_tin C 158 103 dX8_read_108 h2 (by decide) (by decide) rfl (by decide) ?_
          refine bx_aload_n C 159 dX8_read_158 rfl rfl rfl ?_
          refine bx_qVv C 0 at_M_0 rfl 162 fc_X8_191 (k_X8_readSit l E a _ _ hv) dX8_read_159 ⟨rfl, rfl, Nat.le_of_ble_eq_true rfl, Nat.le_of_ble_eq_true rfl⟩ [0, 1, 2, 3, 4, 5, 6, 7, 8, 9] (fun u4 => w_M E a u4) ps_M_M_0 (by decide) ad_M pu_M_M_0 rfl rfl (Nat.le_of_ble_eq_true rfl) rfl (fun u4 hv => ?_)
          refine bx_goto C 184 dX8_read_162 (by decide) ?_
          refine bx_iinc C 1 187 dX8_read_184 rfl (by decide) ic_1 rfl ?_
          refine bx_goto C 88 dX8_read_187 (by decide) ?_
          exact bx_cut [1, 0] (w_M E a u4) rfl rfl (ih u4 (x1 + 1) hv)
        by_cases h3 : u.2.2.2.2.2.2.2.2.2.2.2.1 = 104
        · replace hv := hv.2.2.2.1 h3
          refine bx_tin C 165 104 dX8_read_108 h3 (by decide) (by decide) rfl (by decide) ?_
          refine bx_aload_n C 166 dX8_read_165 rfl rfl rfl ?_
          refine bx_qVv C 0 at_M_0 rfl 169 fc_X8_194 (k_X8_readOut l E a _ _ hv) dX8_read_166 ⟨rfl, rfl, Nat.le_of_ble_eq_true rfl, Nat.le_of_ble_eq_true rfl⟩ [0, 1, 2, 3, 4, 5, 6, 7, 8, 9] (fun u5 => w_M E a u5) ps_M_M_0 (by decide) ad_M pu_M_M_0 rfl rfl (Nat.le_of_ble_eq_true rfl) rfl (fun u5 hv => ?_)
          refine bx_goto C 184 dX8_read_169 (by decide) ?_
          refine bx_iinc C 1 187 dX8_read_184 rfl (by decide) ic_1 rfl ?_
          refine bx_goto C 88 dX8_read_187 (by decide) ?_
          exact bx_cut [1, 0] (w_M E a u5) rfl rfl (ih u5 (x1 + 1) hv)
        by_cases h4 : u.2.2.2.2.2.2.2.2.2.2.2.1 = 105
        · replace hv := hv.2.2.2.2.1 h4
          refine bx_tin C 172 105 dX8_read_108 h4 (by decide) (by decide) rfl (by decide) ?_
          refine bx_aload_n C 173 dX8_read_172 rfl rfl rfl ?_
          refine bx_qVv C 0 at_M_0 rfl 176 fc_X8_197 (k_X8_readMinutes l E a _ _ hv) dX8_read_173 ⟨rfl, rfl, Nat.le_of_ble_eq_true rfl, Nat.le_of_ble_eq_true rfl⟩ [0, 1, 2, 3, 4, 5, 6, 7, 8, 9] (fun u6 => w_M E a u6) ps_M_M_0 (by decide) ad_M pu_M_M_0 rfl rfl (Nat.le_of_ble_eq_true rfl) rfl (fun u6 hv => ?_)
          refine bx_goto C 184 dX8_read_176 (by decide) ?_
          refine bx_iinc C 1 187 dX8_read_184 rfl (by decide) ic_1 rfl ?_
          refine bx_goto C 88 dX8_read_187 (by decide) ?_
          exact bx_cut [1, 0] (w_M E a u6) rfl rfl (ih u6 (x1 + 1) hv)
        replace hv := hv.2.2.2.2.2 ⟨h0, h1, h2, h3, h4⟩
        have ho : (u.2.2.2.2.2.2.2.2.2.2.2.1 : Int32).toInt < 101 ∨ 105 < (u.2.2.2.2.2.2.2.2.2.2.2.1 : Int32).toInt := by
          have e0 := bx_ne (z := 101) h0 (by decide)
          have e1 := bx_ne (z := 102) h1 (by decide)
          have e2 := bx_ne (z := 103) h2 (by decide)
          have e3 := bx_ne (z := 104) h3 (by decide)
          have e4 := bx_ne (z := 105) h4 (by decide)
          omega
        refine bx_tout C 179 dX8_read_108 ho (by decide) ?_
        refine bx_aload_n C 180 dX8_read_179 rfl rfl rfl ?_
        refine bx_iconst C 0 181 dX8_read_180 ic_0 rfl ?_
        refine bx_qVv C 0 at_M_0 rfl 184 fc_X8_158 (k_X8_must l E a _ _ _ hv) dX8_read_181 ⟨rfl, rfl, Nat.le_of_ble_eq_true rfl, Nat.le_of_ble_eq_true rfl⟩ [0, 1, 2, 3, 4, 5, 6, 7, 8, 9] (fun u7 => w_M E a u7) ps_M_M_0 (by decide) ad_M pu_M_M_0 rfl rfl (Nat.le_of_ble_eq_true rfl) rfl (fun u7 hv => ?_)
        refine bx_iinc C 1 187 dX8_read_184 rfl (by decide) ic_1 rfl ?_
        refine bx_goto C 88 dX8_read_187 (by decide) ?_
        exact bx_cut [1, 0] (w_M E a u7) rfl rfl (ih u7 (x1 + 1) hv)
def V_X8_read_45  (K : Int32 → MS → Prop)  : Nat → MS → Int32 → Prop
  | 0, _, _ => False
  | n + 1, u, x1 => ((5 ≤ x1 → (V_X8_end (fun u8 => ∃ n9, V_X8_read_88 K n9 u8 1) u )) ∧
 (¬ 5 ≤ x1 → (V_X8_number (fun r10 u11 => ((¬ u11.2.2.2.2.2.2.2.2.2.2.1 = (-1) → V_X8_read_75 K (fun v y0 => V_X8_read_45 K n v y0) u11 x1 x1 0) ∧
 (u11.2.2.2.2.2.2.2.2.2.2.1 = (-1) → V_X8_read_75 K (fun v y0 => V_X8_read_45 K n v y0) u11 x1 x1 r10))) u 0 5)))
set_option maxRecDepth 20000 in
set_option maxHeartbeats 4000000 in
theorem t_X8_read_45 {a : Nat → Nat} {K : Int32 → MS → Prop} (C : bx_C p (rmD 6) S m args meth c cX8_read 3 yX8_read.cls (some .int) E A 0 0)   : ∀ (n : Nat) (u : MS) (x1 : Int32), V_X8_read_45 K n u x1 → G_X8_read p l e S m args below meth c E A a  K 45 [(0, .ref (a 0)), (1, .int x1)] [] (w_M E a u) := by
  intro n
  induction n with
  | zero =>
    intro u x1 hv
    exact False.elim hv
  | succ n ih =>
    intro u x1 hv
    unfold V_X8_read_45 at hv
    refine bx_iload_n C 46 dX8_read_45 rfl rfl rfl ?_
    refine bx_iconst C 5 47 dX8_read_46 ic_5 rfl ?_
    refine bx_icmp_ge C 82 50 dX8_read_47 (by decide) rfl (fun h => ?_) (fun h => ?_)
    · replace hv := hv.1 h
      refine bx_aload_n C 83 dX8_read_82 rfl rfl rfl ?_
      refine bx_qVv C 0 at_M_0 rfl 86 fc_X8_168 (k_X8_end l E a _ _ hv) dX8_read_83 ⟨rfl, rfl, Nat.le_of_ble_eq_true rfl, Nat.le_of_ble_eq_true rfl⟩ [0, 1, 2, 3, 4, 5, 6, 7, 8, 9] (fun u8 => w_M E a u8) ps_M_M_0 (by decide) ad_M pu_M_M_0 rfl rfl (Nat.le_of_ble_eq_true rfl) rfl (fun u8 hv => ?_)
      refine bx_iconst C 1 87 dX8_read_86 ic_1 rfl ?_
      refine bx_istore_n C 88 dX8_read_87 rfl (by decide) rfl ?_
      obtain ⟨n9, hv⟩ := hv
      exact bx_cut [1, 0] (w_M E a u8) rfl rfl (t_X8_read_88 C   n9 u8 1 hv)
    · replace hv := hv.2 h
      refine bx_aload_n C 51 dX8_read_50 rfl rfl rfl ?_
      refine bx_iconst C 0 52 dX8_read_51 ic_0 rfl ?_
      refine bx_iconst C 5 53 dX8_read_52 ic_5 rfl ?_
      refine bx_qVi C 0 at_M_0 rfl 56 fc_X8_165 (k_X8_number l E a _ _ _ _ hv) dX8_read_53 ⟨rfl, rfl, Nat.le_of_ble_eq_true rfl, Nat.le_of_ble_eq_true rfl⟩ [0, 1, 2, 3, 4, 5, 6, 7, 8, 9] (fun u11 => w_M E a u11) ps_M_M_0 (by decide) ad_M pu_M_M_0 rfl rfl (Nat.le_of_ble_eq_true rfl) rfl (fun r10 u11 hv => ?_)
      refine bx_istore_n C 57 dX8_read_56 rfl (by decide) rfl ?_
      refine bx_aload_n C 58 dX8_read_57 rfl rfl rfl ?_
      refine bx_getf (v := .ref (a 2)) C 61 0 1 inX8 rfl (by decide) fl_X8_13 dX8_read_58 at_M_0 rfl rfl ?_
      refine bx_iload_n C 62 dX8_read_61 rfl rfl rfl ?_
      refine bx_aload_n C 63 dX8_read_62 rfl rfl rfl ?_
      refine bx_getf (v := .int u11.2.2.2.2.2.2.2.2.2.2.1) C 66 0 10 inX8 rfl (by decide) fl_X8_33 dX8_read_63 at_M_0 rfl rfl ?_
      refine bx_iconst C (-1) 67 dX8_read_66 ic_m1 rfl ?_
      refine bx_icmp_ne C 74 70 dX8_read_67 (by decide) rfl (fun h => ?_) (fun h => ?_)
      · replace hv := hv.1 h
        refine bx_iconst C 0 75 dX8_read_74 ic_0 rfl ?_
        exact bx_cut [1, 2] (w_M E a u11) rfl rfl (t_X8_read_75 C  _ (fun v y0 hv => ih v y0 hv) u11 x1 x1 0 hv)
      · replace hv := hv.2 h
        refine bx_iload_n C 71 dX8_read_70 rfl rfl rfl ?_
        refine bx_goto C 75 dX8_read_71 (by decide) ?_
        exact bx_cut [1, 2] (w_M E a u11) rfl rfl (t_X8_read_75 C  _ (fun v y0 hv => ih v y0 hv) u11 x1 x1 r10 hv)
def V_X8_read_36  (K : Int32 → MS → Prop)  (u : MS) (z1 : Int32) : Prop := (V_X8_must (fun u12 => (V_X8_goOnReading (fun u13 => ∃ n14, V_X8_read_45 K n14 u13 0) u12 )) u z1)
set_option maxRecDepth 20000 in
set_option maxHeartbeats 4000000 in
theorem t_X8_read_36 {a : Nat → Nat} {K : Int32 → MS → Prop} (C : bx_C p (rmD 6) S m args meth c cX8_read 3 yX8_read.cls (some .int) E A 0 0)   (u : MS) (z1 : Int32) (hv : V_X8_read_36 K u z1) : G_X8_read p l e S m args below meth c E A a  K 36 [(0, .ref (a 0))] [.int z1, .ref (a 0)] (w_M E a u) := by
  unfold V_X8_read_36 at hv
  refine bx_qVv C 0 at_M_0 rfl 39 fc_X8_158 (k_X8_must l E a _ _ _ hv) dX8_read_36 ⟨rfl, rfl, Nat.le_of_ble_eq_true rfl, Nat.le_of_ble_eq_true rfl⟩ [0, 1, 2, 3, 4, 5, 6, 7, 8, 9] (fun u12 => w_M E a u12) ps_M_M_0 (by decide) ad_M pu_M_M_0 rfl rfl (Nat.le_of_ble_eq_true rfl) rfl (fun u12 hv => ?_)
  refine bx_aload_n C 40 dX8_read_39 rfl rfl rfl ?_
  refine bx_qVv C 0 at_M_0 rfl 43 fc_X8_162 (k_X8_goOnReading l E a _ _ hv) dX8_read_40 ⟨rfl, rfl, Nat.le_of_ble_eq_true rfl, Nat.le_of_ble_eq_true rfl⟩ [0, 1, 2, 3, 4, 5, 6, 7, 8, 9] (fun u13 => w_M E a u13) ps_M_M_0 (by decide) ad_M pu_M_M_0 rfl rfl (Nat.le_of_ble_eq_true rfl) rfl (fun u13 hv => ?_)
  refine bx_iconst C 0 44 dX8_read_43 ic_0 rfl ?_
  refine bx_istore_n C 45 dX8_read_44 rfl (by decide) rfl ?_
  obtain ⟨n14, hv⟩ := hv
  exact bx_cut [1, 0] (w_M E a u13) rfl rfl (t_X8_read_45 C   n14 u13 0 hv)
def V_X8_read  (K : Int32 → MS → Prop)  (u : MS)  : Prop := (V_X8_empty (fun u15 => (V_X8_next (fun u16 => ((¬ u16.2.2.2.2.2.2.2.2.2.2.2.1 = 100 → V_X8_read_36 K u16 0) ∧
 (u16.2.2.2.2.2.2.2.2.2.2.2.1 = 100 → V_X8_read_36 K u16 1))) (u.1, u15, u.2.2.1, u.2.2.2.1, u.2.2.2.2.1, u.2.2.2.2.2.1, u.2.2.2.2.2.2.1, u.2.2.2.2.2.2.2.1, u.2.2.2.2.2.2.2.2.1, 0, (-1), u.2.2.2.2.2.2.2.2.2.2.2) )) u.2.1 )
set_option maxRecDepth 20000 in
set_option maxHeartbeats 4000000 in
theorem t_X8_read_0 {a : Nat → Nat} {K : Int32 → MS → Prop} (C : bx_C p (rmD 6) S m args meth c cX8_read 3 yX8_read.cls (some .int) E A 0 0)   (u : MS)  (hv : V_X8_read K u ) : G_X8_read p l e S m args below meth c E A a  K 0 [(0, .ref (a 0))] [] (w_M E a u) := by
  unfold V_X8_read at hv
  refine bx_aload_n C 1 dX8_read_0 rfl rfl rfl ?_
  refine bx_getf (v := .ref (a 2)) C 4 0 1 inX8 rfl (by decide) fl_X8_13 dX8_read_1 at_M_0 rfl rfl ?_
  refine bx_qSv C 7 fc_X8_93 (k_X8_empty l E (fun k => a (2 + k)) _ _ hv) dX8_read_4 ⟨rfl, rfl, Nat.le_of_ble_eq_true rfl, Nat.le_of_ble_eq_true rfl⟩ [2] (fun u15 => w_M E a (u.1, u15, u.2.2)) ps_M_A_2 (by decide) ad_A pu_M_A_2 rfl rfl (Nat.le_of_ble_eq_true rfl) rfl (fun u15 hv => ?_)
  refine bx_aload_n C 8 dX8_read_7 rfl rfl rfl ?_
  refine bx_iconst C 0 9 dX8_read_8 ic_0 rfl ?_
  refine bx_putf C 12 0 9 (w_M E a (u.1, u15, u.2.2.1, u.2.2.2.1, u.2.2.2.2.1, u.2.2.2.2.2.1, u.2.2.2.2.2.2.1, u.2.2.2.2.2.2.2.1, u.2.2.2.2.2.2.2.2.1, 0, u.2.2.2.2.2.2.2.2.2.2)) inX8 tyX8 tyX8_ok nmX8 rfl (by decide) fl_X8_139 rfl dX8_read_9 rfl rfl rfl (Nat.le_of_ble_eq_true rfl) rfl rfl ?_
  refine bx_aload_n C 13 dX8_read_12 rfl rfl rfl ?_
  refine bx_iconst C (-1) 14 dX8_read_13 ic_m1 rfl ?_
  refine bx_putf C 17 0 10 (w_M E a (u.1, u15, u.2.2.1, u.2.2.2.1, u.2.2.2.2.1, u.2.2.2.2.2.1, u.2.2.2.2.2.2.1, u.2.2.2.2.2.2.2.1, u.2.2.2.2.2.2.2.2.1, 0, (-1), u.2.2.2.2.2.2.2.2.2.2.2)) inX8 tyX8 tyX8_ok nmX8 rfl (by decide) fl_X8_33 rfl dX8_read_14 rfl rfl rfl (Nat.le_of_ble_eq_true rfl) rfl rfl ?_
  refine bx_aload_n C 18 dX8_read_17 rfl rfl rfl ?_
  refine bx_qVv C 0 at_M_0 rfl 21 fc_X8_155 (k_X8_next l E a _ _ hv) dX8_read_18 ⟨rfl, rfl, Nat.le_of_ble_eq_true rfl, Nat.le_of_ble_eq_true rfl⟩ [0, 1, 2, 3, 4, 5, 6, 7, 8, 9] (fun u16 => w_M E a u16) ps_M_M_0 (by decide) ad_M pu_M_M_0 rfl rfl (Nat.le_of_ble_eq_true rfl) rfl (fun u16 hv => ?_)
  refine bx_aload_n C 22 dX8_read_21 rfl rfl rfl ?_
  refine bx_aload_n C 23 dX8_read_22 rfl rfl rfl ?_
  refine bx_getf (v := .int u16.2.2.2.2.2.2.2.2.2.2.2.1) C 26 0 11 inX8 rfl (by decide) fl_X8_142 dX8_read_23 at_M_0 rfl rfl ?_
  refine bx_bipush C 100 28 dX8_read_26 bp_100 rfl ?_
  refine bx_icmp_ne C 35 31 dX8_read_28 (by decide) rfl (fun h => ?_) (fun h => ?_)
  · replace hv := hv.1 h
    refine bx_iconst C 0 36 dX8_read_35 ic_0 rfl ?_
    exact bx_cut [0] (w_M E a u16) rfl rfl (t_X8_read_36 C   u16 0 hv)
  · replace hv := hv.2 h
    refine bx_iconst C 1 32 dX8_read_31 ic_1 rfl ?_
    refine bx_goto C 36 dX8_read_32 (by decide) ?_
    exact bx_cut [0] (w_M E a u16) rfl rfl (t_X8_read_36 C   u16 1 hv)
theorem k_X8_read (l : Launch) (E : bx_E) (a : Nat → Nat)  (K : Int32 → MS → Prop) (u : MS)  (hv : V_X8_read  K u ) : bx_Mi l E yX8_read cX8_read 3 (some .int) (rmD 6) [.ref (a 0)] (fun (u : MS) => w_M E a u) u K :=
  bx_meti (by decide +kernel) (Nat.le_of_ble_eq_true rfl) (fun p e S m below meth c C => t_X8_read_0 C u  hv)
abbrev G_X8_keep (p : Program) (l : Launch) (e : Env) (S : State) (m : MethodId) (args : Array Value) (below : List Frame) (meth : Method) (c : Code) (E : bx_E) (A : Nat → Prop) (a : Nat → Nat)  (K : MS → Prop) (pc : Nat) (lv : List (Nat × Value)) (st : List Value) (ws : va_W) : Prop := bx_S p l e (rmD 1) S m args below meth c 3 E A (MQ below (va_Qv K (fun (u : MS) t => bx_B E A (w_M E a u) t) A) args S 0 0 A) 0 0 pc lv st ws
def V_X8_keep_103  (K : MS → Prop)  : Nat → MS → Int32 → Int32 → Prop
  | 0, _, _, _ => False
  | n + 1, u, x1, x2 => ((7 ≤ x2 → K ((upd u.1 90 ((u.1 90) + 1)), u.2)) ∧
 (¬ 7 ≤ x2 → (V_X8_soulOf (fun r1 => (vp_in ((x1 + 3) + x2) 171 ∧ V_X8_keep_103 K n ((upd u.1 (((x1 + 3) + x2) : Int32).toNatClampNeg r1), u.2) x1 (x2 + 1))) u.1 x2 2)))
set_option maxRecDepth 20000 in
set_option maxHeartbeats 4000000 in
theorem t_X8_keep_103 {a : Nat → Nat} {K : MS → Prop} (C : bx_C p (rmD 1) S m args meth c cX8_keep 3 yX8_keep.cls none E A 0 0)   : ∀ (n : Nat) (u : MS) (x1 : Int32) (x2 : Int32), V_X8_keep_103 K n u x1 x2 → G_X8_keep p l e S m args below meth c E A a  K 103 [(0, .ref (a 0)), (1, .int x1), (2, .int x2)] [] (w_M E a u) := by
  intro n
  induction n with
  | zero =>
    intro u x1 x2 hv
    exact False.elim hv
  | succ n ih =>
    intro u x1 x2 hv
    unfold V_X8_keep_103 at hv
    refine bx_iload_n C 104 dX8_keep_103 rfl rfl rfl ?_
    refine bx_bipush C 7 106 dX8_keep_104 bp_7 rfl ?_
    refine bx_icmp_ge C 134 109 dX8_keep_106 (by decide) rfl (fun h => ?_) (fun h => ?_)
    · replace hv := hv.1 h
      refine bx_aload_n C 135 dX8_keep_134 rfl rfl rfl ?_
      refine bx_getf (v := .ref (a 1)) C 138 0 0 inX8 rfl (by decide) fl_X8_7 dX8_keep_135 at_M_0 rfl rfl ?_
      refine bx_bipush C 90 140 dX8_keep_138 bp_90 rfl ?_
      refine bx_dup2_11 C 141 dX8_keep_140 rfl rfl rfl ?_
      refine bx_iald_k (f := u.1) C 142 1 90 dX8_keep_141 at_M_1 vin_90_171 cl_90 rfl ?_
      refine bx_iconst C 1 143 dX8_keep_142 ic_1 rfl ?_
      refine bx_iadd C 144 dX8_keep_143 rfl ?_
      refine bx_iast_k C 145 1 90 (w_M E a ((upd u.1 90 ((u.1 90) + 1)), u.2)) dX8_keep_144 rfl vin_90_171 cl_90 rfl rfl ?_
      exact bx_vret C ((upd u.1 90 ((u.1 90) + 1)), u.2) rfl dX8_keep_145 rfl hv
    · replace hv := hv.2 h
      refine bx_aload_n C 110 dX8_keep_109 rfl rfl rfl ?_
      refine bx_getf (v := .ref (a 1)) C 113 0 0 inX8 rfl (by decide) fl_X8_7 dX8_keep_110 at_M_0 rfl rfl ?_
      refine bx_iload_n C 114 dX8_keep_113 rfl rfl rfl ?_
      refine bx_iconst C 3 115 dX8_keep_114 ic_3 rfl ?_
      refine bx_iadd C 116 dX8_keep_115 rfl ?_
      refine bx_iload_n C 117 dX8_keep_116 rfl rfl rfl ?_
      refine bx_iadd C 118 dX8_keep_117 rfl ?_
      refine bx_aload_n C 119 dX8_keep_118 rfl rfl rfl ?_
      refine bx_getf (v := .ref (a 1)) C 122 0 0 inX8 rfl (by decide) fl_X8_7 dX8_keep_119 at_M_0 rfl rfl ?_
      refine bx_iload_n C 123 dX8_keep_122 rfl rfl rfl ?_
      refine bx_iconst C 2 124 dX8_keep_123 ic_2 rfl ?_
      refine bx_pSi C 127 fc_X8_55 (k_X8_soulOf l E (fun k => a (1 + k)) _ _ _ _ hv) dX8_keep_124 ⟨rfl, rfl, Nat.le_of_ble_eq_true rfl, Nat.le_of_ble_eq_true rfl⟩ [1] ps_M_A_1 (by decide) rfl rfl (Nat.le_of_ble_eq_true rfl) rfl (fun r1 hv => ?_)
      refine bx_iast C 128 1 (w_M E a ((upd u.1 (((x1 + 3) + x2) : Int32).toNatClampNeg r1), u.2)) dX8_keep_127 rfl hv.1 rfl rfl ?_
      replace hv := hv.2
      refine bx_iinc C 1 131 dX8_keep_128 rfl (by decide) ic_1 rfl ?_
      refine bx_goto C 103 dX8_keep_131 (by decide) ?_
      exact bx_cut [1, 2, 0] (w_M E a ((upd u.1 (((x1 + 3) + x2) : Int32).toNatClampNeg r1), u.2)) rfl rfl (ih ((upd u.1 (((x1 + 3) + x2) : Int32).toNatClampNeg r1), u.2) x1 (x2 + 1) hv)
def V_X8_keep_74  (K : MS → Prop)  : Nat → MS → Int32 → Int32 → Prop
  | 0, _, _, _ => False
  | n + 1, u, x1, x2 => ((3 ≤ x2 → ∃ n2, V_X8_keep_103 K n2 u x1 0) ∧
 (¬ 3 ≤ x2 → (vp_in (5 + x2) 171 ∧ (vp_in (x1 + x2) 171 ∧ V_X8_keep_74 K n ((upd u.1 ((x1 + x2) : Int32).toNatClampNeg (u.1 ((5 + x2) : Int32).toNatClampNeg)), u.2) x1 (x2 + 1)))))
set_option maxRecDepth 20000 in
set_option maxHeartbeats 4000000 in
theorem t_X8_keep_74 {a : Nat → Nat} {K : MS → Prop} (C : bx_C p (rmD 1) S m args meth c cX8_keep 3 yX8_keep.cls none E A 0 0)   : ∀ (n : Nat) (u : MS) (x1 : Int32) (x2 : Int32), V_X8_keep_74 K n u x1 x2 → G_X8_keep p l e S m args below meth c E A a  K 74 [(0, .ref (a 0)), (1, .int x1), (2, .int x2)] [] (w_M E a u) := by
  intro n
  induction n with
  | zero =>
    intro u x1 x2 hv
    exact False.elim hv
  | succ n ih =>
    intro u x1 x2 hv
    unfold V_X8_keep_74 at hv
    refine bx_iload_n C 75 dX8_keep_74 rfl rfl rfl ?_
    refine bx_iconst C 3 76 dX8_keep_75 ic_3 rfl ?_
    refine bx_icmp_ge C 101 79 dX8_keep_76 (by decide) rfl (fun h => ?_) (fun h => ?_)
    · replace hv := hv.1 h
      refine bx_iconst C 0 102 dX8_keep_101 ic_0 rfl ?_
      refine bx_istore_n C 103 dX8_keep_102 rfl (by decide) rfl ?_
      obtain ⟨n2, hv⟩ := hv
      exact bx_cut [1, 2, 0] (w_M E a u) rfl rfl (t_X8_keep_103 C   n2 u x1 0 hv)
    · replace hv := hv.2 h
      refine bx_aload_n C 80 dX8_keep_79 rfl rfl rfl ?_
      refine bx_getf (v := .ref (a 1)) C 83 0 0 inX8 rfl (by decide) fl_X8_7 dX8_keep_80 at_M_0 rfl rfl ?_
      refine bx_iload_n C 84 dX8_keep_83 rfl rfl rfl ?_
      refine bx_iload_n C 85 dX8_keep_84 rfl rfl rfl ?_
      refine bx_iadd C 86 dX8_keep_85 rfl ?_
      refine bx_aload_n C 87 dX8_keep_86 rfl rfl rfl ?_
      refine bx_getf (v := .ref (a 1)) C 90 0 0 inX8 rfl (by decide) fl_X8_7 dX8_keep_87 at_M_0 rfl rfl ?_
      refine bx_iconst C 5 91 dX8_keep_90 ic_5 rfl ?_
      refine bx_iload_n C 92 dX8_keep_91 rfl rfl rfl ?_
      refine bx_iadd C 93 dX8_keep_92 rfl ?_
      refine bx_iald (f := u.1) C 94 1 dX8_keep_93 at_M_1 hv.1 rfl ?_
      replace hv := hv.2
      refine bx_iast C 95 1 (w_M E a ((upd u.1 ((x1 + x2) : Int32).toNatClampNeg (u.1 ((5 + x2) : Int32).toNatClampNeg)), u.2)) dX8_keep_94 rfl hv.1 rfl rfl ?_
      replace hv := hv.2
      refine bx_iinc C 1 98 dX8_keep_95 rfl (by decide) ic_1 rfl ?_
      refine bx_goto C 74 dX8_keep_98 (by decide) ?_
      exact bx_cut [1, 2, 0] (w_M E a ((upd u.1 ((x1 + x2) : Int32).toNatClampNeg (u.1 ((5 + x2) : Int32).toNatClampNeg)), u.2)) rfl rfl (ih ((upd u.1 ((x1 + x2) : Int32).toNatClampNeg (u.1 ((5 + x2) : Int32).toNatClampNeg)), u.2) x1 (x2 + 1) hv)
def V_X8_keep_58  (K : MS → Prop)  (u : MS)  : Prop := ∃ n3, V_X8_keep_74 K n3 u (91 + (10 * (u.1 90))) 0
set_option maxRecDepth 20000 in
set_option maxHeartbeats 4000000 in
theorem t_X8_keep_58 {a : Nat → Nat} {K : MS → Prop} (C : bx_C p (rmD 1) S m args meth c cX8_keep 3 yX8_keep.cls none E A 0 0)   (u : MS)  (hv : V_X8_keep_58 K u ) : G_X8_keep p l e S m args below meth c E A a  K 58 [(0, .ref (a 0))] [] (w_M E a u) := by
  unfold V_X8_keep_58 at hv
  refine bx_bipush C 91 60 dX8_keep_58 bp_91 rfl ?_
  refine bx_bipush C 10 62 dX8_keep_60 bp_10 rfl ?_
  refine bx_aload_n C 63 dX8_keep_62 rfl rfl rfl ?_
  refine bx_getf (v := .ref (a 1)) C 66 0 0 inX8 rfl (by decide) fl_X8_7 dX8_keep_63 at_M_0 rfl rfl ?_
  refine bx_bipush C 90 68 dX8_keep_66 bp_90 rfl ?_
  refine bx_iald_k (f := u.1) C 69 1 90 dX8_keep_68 at_M_1 vin_90_171 cl_90 rfl ?_
  refine bx_imul C 70 dX8_keep_69 rfl ?_
  refine bx_iadd C 71 dX8_keep_70 rfl ?_
  refine bx_istore_n C 72 dX8_keep_71 rfl (by decide) rfl ?_
  refine bx_iconst C 0 73 dX8_keep_72 ic_0 rfl ?_
  refine bx_istore_n C 74 dX8_keep_73 rfl (by decide) rfl ?_
  obtain ⟨n3, hv⟩ := hv
  exact bx_cut [2, 1, 0] (w_M E a u) rfl rfl (t_X8_keep_74 C   n3 u (91 + (10 * (u.1 90))) 0 hv)
def V_X8_keep_14  (K : MS → Prop)  : Nat → MS → Int32 → Prop
  | 0, _, _ => False
  | n + 1, u, x1 => ((70 ≤ x1 → V_X8_keep_58 K ((upd u.1 90 ((u.1 90) - 1)), u.2) ) ∧
 (¬ 70 ≤ x1 → (vp_in ((91 + x1) + 10) 171 ∧ (vp_in (91 + x1) 171 ∧ V_X8_keep_14 K n ((upd u.1 ((91 + x1) : Int32).toNatClampNeg (u.1 (((91 + x1) + 10) : Int32).toNatClampNeg)), u.2) (x1 + 1)))))
set_option maxRecDepth 20000 in
set_option maxHeartbeats 4000000 in
theorem t_X8_keep_14 {a : Nat → Nat} {K : MS → Prop} (C : bx_C p (rmD 1) S m args meth c cX8_keep 3 yX8_keep.cls none E A 0 0)   : ∀ (n : Nat) (u : MS) (x1 : Int32), V_X8_keep_14 K n u x1 → G_X8_keep p l e S m args below meth c E A a  K 14 [(0, .ref (a 0)), (1, .int x1)] [] (w_M E a u) := by
  intro n
  induction n with
  | zero =>
    intro u x1 hv
    exact False.elim hv
  | succ n ih =>
    intro u x1 hv
    unfold V_X8_keep_14 at hv
    refine bx_iload_n C 15 dX8_keep_14 rfl rfl rfl ?_
    refine bx_bipush C 70 17 dX8_keep_15 bp_70 rfl ?_
    refine bx_icmp_ge C 47 20 dX8_keep_17 (by decide) rfl (fun h => ?_) (fun h => ?_)
    · replace hv := hv.1 h
      refine bx_aload_n C 48 dX8_keep_47 rfl rfl rfl ?_
      refine bx_getf (v := .ref (a 1)) C 51 0 0 inX8 rfl (by decide) fl_X8_7 dX8_keep_48 at_M_0 rfl rfl ?_
      refine bx_bipush C 90 53 dX8_keep_51 bp_90 rfl ?_
      refine bx_dup2_11 C 54 dX8_keep_53 rfl rfl rfl ?_
      refine bx_iald_k (f := u.1) C 55 1 90 dX8_keep_54 at_M_1 vin_90_171 cl_90 rfl ?_
      refine bx_iconst C 1 56 dX8_keep_55 ic_1 rfl ?_
      refine bx_isub C 57 dX8_keep_56 rfl ?_
      refine bx_iast_k C 58 1 90 (w_M E a ((upd u.1 90 ((u.1 90) - 1)), u.2)) dX8_keep_57 rfl vin_90_171 cl_90 rfl rfl ?_
      exact bx_cut [0] (w_M E a ((upd u.1 90 ((u.1 90) - 1)), u.2)) rfl rfl (t_X8_keep_58 C   ((upd u.1 90 ((u.1 90) - 1)), u.2)  hv)
    · replace hv := hv.2 h
      refine bx_aload_n C 21 dX8_keep_20 rfl rfl rfl ?_
      refine bx_getf (v := .ref (a 1)) C 24 0 0 inX8 rfl (by decide) fl_X8_7 dX8_keep_21 at_M_0 rfl rfl ?_
      refine bx_bipush C 91 26 dX8_keep_24 bp_91 rfl ?_
      refine bx_iload_n C 27 dX8_keep_26 rfl rfl rfl ?_
      refine bx_iadd C 28 dX8_keep_27 rfl ?_
      refine bx_aload_n C 29 dX8_keep_28 rfl rfl rfl ?_
      refine bx_getf (v := .ref (a 1)) C 32 0 0 inX8 rfl (by decide) fl_X8_7 dX8_keep_29 at_M_0 rfl rfl ?_
      refine bx_bipush C 91 34 dX8_keep_32 bp_91 rfl ?_
      refine bx_iload_n C 35 dX8_keep_34 rfl rfl rfl ?_
      refine bx_iadd C 36 dX8_keep_35 rfl ?_
      refine bx_bipush C 10 38 dX8_keep_36 bp_10 rfl ?_
      refine bx_iadd C 39 dX8_keep_38 rfl ?_
      refine bx_iald (f := u.1) C 40 1 dX8_keep_39 at_M_1 hv.1 rfl ?_
      replace hv := hv.2
      refine bx_iast C 41 1 (w_M E a ((upd u.1 ((91 + x1) : Int32).toNatClampNeg (u.1 (((91 + x1) + 10) : Int32).toNatClampNeg)), u.2)) dX8_keep_40 rfl hv.1 rfl rfl ?_
      replace hv := hv.2
      refine bx_iinc C 1 44 dX8_keep_41 rfl (by decide) ic_1 rfl ?_
      refine bx_goto C 14 dX8_keep_44 (by decide) ?_
      exact bx_cut [1, 0] (w_M E a ((upd u.1 ((91 + x1) : Int32).toNatClampNeg (u.1 (((91 + x1) + 10) : Int32).toNatClampNeg)), u.2)) rfl rfl (ih ((upd u.1 ((91 + x1) : Int32).toNatClampNeg (u.1 (((91 + x1) + 10) : Int32).toNatClampNeg)), u.2) (x1 + 1) hv)
def V_X8_keep  (K : MS → Prop)  (u : MS)  : Prop := ((¬ (u.1 90) = 8 → V_X8_keep_58 K u ) ∧
 ((u.1 90) = 8 → ∃ n4, V_X8_keep_14 K n4 u 0))
set_option maxRecDepth 20000 in
set_option maxHeartbeats 4000000 in
theorem t_X8_keep_0 {a : Nat → Nat} {K : MS → Prop} (C : bx_C p (rmD 1) S m args meth c cX8_keep 3 yX8_keep.cls none E A 0 0)   (u : MS)  (hv : V_X8_keep K u ) : G_X8_keep p l e S m args below meth c E A a  K 0 [(0, .ref (a 0))] [] (w_M E a u) := by
  unfold V_X8_keep at hv
  refine bx_aload_n C 1 dX8_keep_0 rfl rfl rfl ?_
  refine bx_getf (v := .ref (a 1)) C 4 0 0 inX8 rfl (by decide) fl_X8_7 dX8_keep_1 at_M_0 rfl rfl ?_
  refine bx_bipush C 90 6 dX8_keep_4 bp_90 rfl ?_
  refine bx_iald_k (f := u.1) C 7 1 90 dX8_keep_6 at_M_1 vin_90_171 cl_90 rfl ?_
  refine bx_bipush C 8 9 dX8_keep_7 bp_8 rfl ?_
  refine bx_icmp_ne C 58 12 dX8_keep_9 (by decide) rfl (fun h => ?_) (fun h => ?_)
  · replace hv := hv.1 h
    exact bx_cut [0] (w_M E a u) rfl rfl (t_X8_keep_58 C   u  hv)
  · replace hv := hv.2 h
    refine bx_iconst C 0 13 dX8_keep_12 ic_0 rfl ?_
    refine bx_istore_n C 14 dX8_keep_13 rfl (by decide) rfl ?_
    obtain ⟨n4, hv⟩ := hv
    exact bx_cut [1, 0] (w_M E a u) rfl rfl (t_X8_keep_14 C   n4 u 0 hv)
theorem k_X8_keep (l : Launch) (E : bx_E) (a : Nat → Nat)  (K : MS → Prop) (u : MS)  (hv : V_X8_keep  K u ) : bx_Mv l E yX8_keep cX8_keep 3 none (rmD 1) [.ref (a 0)] (fun (u : MS) => w_M E a u) u K :=
  bx_metv (by decide +kernel) (Nat.le_of_ble_eq_true rfl) (fun p e S m below meth c C => t_X8_keep_0 C u  hv)
abbrev G_X8_undo (p : Program) (l : Launch) (e : Env) (S : State) (m : MethodId) (args : Array Value) (below : List Frame) (meth : Method) (c : Code) (E : bx_E) (A : Nat → Prop) (a : Nat → Nat)  (K : Int32 → MS → Prop) (pc : Nat) (lv : List (Nat × Value)) (st : List Value) (ws : va_W) : Prop := bx_S p l e (rmD 1) S m args below meth c 3 E A (MQ below (va_Qi K (fun (u : MS) t => bx_B E A (w_M E a u) t) A) args S 0 0 A) 0 0 pc lv st ws
def V_X8_undo_71  (K : Int32 → MS → Prop)  : Nat → MS → Int32 → Int32 → Prop
  | 0, _, _, _ => False
  | n + 1, u, x1, x2 => (((u.1 8) ≤ x2 → K (u.1 6) u) ∧
 (¬ (u.1 8) ≤ x2 → (vp_in ((x1 + 3) + x2) 171 ∧ (vp_in (11 + (3 * x2)) 171 ∧ V_X8_undo_71 K n ((upd u.1 ((11 + (3 * x2)) : Int32).toNatClampNeg (u.1 (((x1 + 3) + x2) : Int32).toNatClampNeg)), u.2) x1 (x2 + 1)))))
set_option maxRecDepth 20000 in
set_option maxHeartbeats 4000000 in
theorem t_X8_undo_71 {a : Nat → Nat} {K : Int32 → MS → Prop} (C : bx_C p (rmD 1) S m args meth c cX8_undo 3 yX8_undo.cls (some .int) E A 0 0)   : ∀ (n : Nat) (u : MS) (x1 : Int32) (x2 : Int32), V_X8_undo_71 K n u x1 x2 → G_X8_undo p l e S m args below meth c E A a  K 71 [(0, .ref (a 0)), (1, .int x1), (2, .int x2)] [] (w_M E a u) := by
  intro n
  induction n with
  | zero =>
    intro u x1 x2 hv
    exact False.elim hv
  | succ n ih =>
    intro u x1 x2 hv
    unfold V_X8_undo_71 at hv
    refine bx_iload_n C 72 dX8_undo_71 rfl rfl rfl ?_
    refine bx_aload_n C 73 dX8_undo_72 rfl rfl rfl ?_
    refine bx_getf (v := .ref (a 1)) C 76 0 0 inX8 rfl (by decide) fl_X8_7 dX8_undo_73 at_M_0 rfl rfl ?_
    refine bx_bipush C 8 78 dX8_undo_76 bp_8 rfl ?_
    refine bx_iald_k (f := u.1) C 79 1 8 dX8_undo_78 at_M_1 vin_8_171 cl_8 rfl ?_
    refine bx_icmp_ge C 109 82 dX8_undo_79 (by decide) rfl (fun h => ?_) (fun h => ?_)
    · replace hv := hv.1 h
      refine bx_aload_n C 110 dX8_undo_109 rfl rfl rfl ?_
      refine bx_getf (v := .ref (a 1)) C 113 0 0 inX8 rfl (by decide) fl_X8_7 dX8_undo_110 at_M_0 rfl rfl ?_
      refine bx_bipush C 6 115 dX8_undo_113 bp_6 rfl ?_
      refine bx_iald_k (f := u.1) C 116 1 6 dX8_undo_115 at_M_1 vin_6_171 cl_6 rfl ?_
      exact bx_iret C u rfl dX8_undo_116 rfl hv
    · replace hv := hv.2 h
      refine bx_aload_n C 83 dX8_undo_82 rfl rfl rfl ?_
      refine bx_getf (v := .ref (a 1)) C 86 0 0 inX8 rfl (by decide) fl_X8_7 dX8_undo_83 at_M_0 rfl rfl ?_
      refine bx_bipush C 11 88 dX8_undo_86 bp_11 rfl ?_
      refine bx_iconst C 3 89 dX8_undo_88 ic_3 rfl ?_
      refine bx_iload_n C 90 dX8_undo_89 rfl rfl rfl ?_
      refine bx_imul C 91 dX8_undo_90 rfl ?_
      refine bx_iadd C 92 dX8_undo_91 rfl ?_
      refine bx_aload_n C 93 dX8_undo_92 rfl rfl rfl ?_
      refine bx_getf (v := .ref (a 1)) C 96 0 0 inX8 rfl (by decide) fl_X8_7 dX8_undo_93 at_M_0 rfl rfl ?_
      refine bx_iload_n C 97 dX8_undo_96 rfl rfl rfl ?_
      refine bx_iconst C 3 98 dX8_undo_97 ic_3 rfl ?_
      refine bx_iadd C 99 dX8_undo_98 rfl ?_
      refine bx_iload_n C 100 dX8_undo_99 rfl rfl rfl ?_
      refine bx_iadd C 101 dX8_undo_100 rfl ?_
      refine bx_iald (f := u.1) C 102 1 dX8_undo_101 at_M_1 hv.1 rfl ?_
      replace hv := hv.2
      refine bx_iast C 103 1 (w_M E a ((upd u.1 ((11 + (3 * x2)) : Int32).toNatClampNeg (u.1 (((x1 + 3) + x2) : Int32).toNatClampNeg)), u.2)) dX8_undo_102 rfl hv.1 rfl rfl ?_
      replace hv := hv.2
      refine bx_iinc C 1 106 dX8_undo_103 rfl (by decide) ic_1 rfl ?_
      refine bx_goto C 71 dX8_undo_106 (by decide) ?_
      exact bx_cut [1, 2, 0] (w_M E a ((upd u.1 ((11 + (3 * x2)) : Int32).toNatClampNeg (u.1 (((x1 + 3) + x2) : Int32).toNatClampNeg)), u.2)) rfl rfl (ih ((upd u.1 ((11 + (3 * x2)) : Int32).toNatClampNeg (u.1 (((x1 + 3) + x2) : Int32).toNatClampNeg)), u.2) x1 (x2 + 1) hv)
def V_X8_undo_42  (K : Int32 → MS → Prop)  : Nat → MS → Int32 → Int32 → Prop
  | 0, _, _, _ => False
  | n + 1, u, x1, x2 => ((3 ≤ x2 → ∃ n1, V_X8_undo_71 K n1 u x1 0) ∧
 (¬ 3 ≤ x2 → (vp_in (x1 + x2) 171 ∧ (vp_in (5 + x2) 171 ∧ V_X8_undo_42 K n ((upd u.1 ((5 + x2) : Int32).toNatClampNeg (u.1 ((x1 + x2) : Int32).toNatClampNeg)), u.2) x1 (x2 + 1)))))
set_option maxRecDepth 20000 in
set_option maxHeartbeats 4000000 in
theorem t_X8_undo_42 {a : Nat → Nat} {K : Int32 → MS → Prop} (C : bx_C p (rmD 1) S m args meth c cX8_undo 3 yX8_undo.cls (some .int) E A 0 0)   : ∀ (n : Nat) (u : MS) (x1 : Int32) (x2 : Int32), V_X8_undo_42 K n u x1 x2 → G_X8_undo p l e S m args below meth c E A a  K 42 [(0, .ref (a 0)), (1, .int x1), (2, .int x2)] [] (w_M E a u) := by
  intro n
  induction n with
  | zero =>
    intro u x1 x2 hv
    exact False.elim hv
  | succ n ih =>
    intro u x1 x2 hv
    unfold V_X8_undo_42 at hv
    refine bx_iload_n C 43 dX8_undo_42 rfl rfl rfl ?_
    refine bx_iconst C 3 44 dX8_undo_43 ic_3 rfl ?_
    refine bx_icmp_ge C 69 47 dX8_undo_44 (by decide) rfl (fun h => ?_) (fun h => ?_)
    · replace hv := hv.1 h
      refine bx_iconst C 0 70 dX8_undo_69 ic_0 rfl ?_
      refine bx_istore_n C 71 dX8_undo_70 rfl (by decide) rfl ?_
      obtain ⟨n1, hv⟩ := hv
      exact bx_cut [1, 2, 0] (w_M E a u) rfl rfl (t_X8_undo_71 C   n1 u x1 0 hv)
    · replace hv := hv.2 h
      refine bx_aload_n C 48 dX8_undo_47 rfl rfl rfl ?_
      refine bx_getf (v := .ref (a 1)) C 51 0 0 inX8 rfl (by decide) fl_X8_7 dX8_undo_48 at_M_0 rfl rfl ?_
      refine bx_iconst C 5 52 dX8_undo_51 ic_5 rfl ?_
      refine bx_iload_n C 53 dX8_undo_52 rfl rfl rfl ?_
      refine bx_iadd C 54 dX8_undo_53 rfl ?_
      refine bx_aload_n C 55 dX8_undo_54 rfl rfl rfl ?_
      refine bx_getf (v := .ref (a 1)) C 58 0 0 inX8 rfl (by decide) fl_X8_7 dX8_undo_55 at_M_0 rfl rfl ?_
      refine bx_iload_n C 59 dX8_undo_58 rfl rfl rfl ?_
      refine bx_iload_n C 60 dX8_undo_59 rfl rfl rfl ?_
      refine bx_iadd C 61 dX8_undo_60 rfl ?_
      refine bx_iald (f := u.1) C 62 1 dX8_undo_61 at_M_1 hv.1 rfl ?_
      replace hv := hv.2
      refine bx_iast C 63 1 (w_M E a ((upd u.1 ((5 + x2) : Int32).toNatClampNeg (u.1 ((x1 + x2) : Int32).toNatClampNeg)), u.2)) dX8_undo_62 rfl hv.1 rfl rfl ?_
      replace hv := hv.2
      refine bx_iinc C 1 66 dX8_undo_63 rfl (by decide) ic_1 rfl ?_
      refine bx_goto C 42 dX8_undo_66 (by decide) ?_
      exact bx_cut [1, 2, 0] (w_M E a ((upd u.1 ((5 + x2) : Int32).toNatClampNeg (u.1 ((x1 + x2) : Int32).toNatClampNeg)), u.2)) rfl rfl (ih ((upd u.1 ((5 + x2) : Int32).toNatClampNeg (u.1 ((x1 + x2) : Int32).toNatClampNeg)), u.2) x1 (x2 + 1) hv)
def V_X8_undo  (K : Int32 → MS → Prop)  (u : MS)  : Prop := ((¬ (u.1 90) = 0 → ∃ n2, V_X8_undo_42 K n2 ((upd u.1 90 ((u.1 90) - 1)), u.2) (91 + (10 * ((upd u.1 90 ((u.1 90) - 1)) 90))) 0) ∧
 ((u.1 90) = 0 → (V_X8_no (fun r3 u4 => K r3 u4) u )))
set_option maxRecDepth 20000 in
set_option maxHeartbeats 4000000 in
theorem t_X8_undo_0 {a : Nat → Nat} {K : Int32 → MS → Prop} (C : bx_C p (rmD 1) S m args meth c cX8_undo 3 yX8_undo.cls (some .int) E A 0 0)   (u : MS)  (hv : V_X8_undo K u ) : G_X8_undo p l e S m args below meth c E A a  K 0 [(0, .ref (a 0))] [] (w_M E a u) := by
  unfold V_X8_undo at hv
  refine bx_aload_n C 1 dX8_undo_0 rfl rfl rfl ?_
  refine bx_getf (v := .ref (a 1)) C 4 0 0 inX8 rfl (by decide) fl_X8_7 dX8_undo_1 at_M_0 rfl rfl ?_
  refine bx_bipush C 90 6 dX8_undo_4 bp_90 rfl ?_
  refine bx_iald_k (f := u.1) C 7 1 90 dX8_undo_6 at_M_1 vin_90_171 cl_90 rfl ?_
  refine bx_if_ne C 15 10 dX8_undo_7 (by decide) rfl (fun h => ?_) (fun h => ?_)
  · replace hv := hv.1 h
    refine bx_aload_n C 16 dX8_undo_15 rfl rfl rfl ?_
    refine bx_getf (v := .ref (a 1)) C 19 0 0 inX8 rfl (by decide) fl_X8_7 dX8_undo_16 at_M_0 rfl rfl ?_
    refine bx_bipush C 90 21 dX8_undo_19 bp_90 rfl ?_
    refine bx_dup2_11 C 22 dX8_undo_21 rfl rfl rfl ?_
    refine bx_iald_k (f := u.1) C 23 1 90 dX8_undo_22 at_M_1 vin_90_171 cl_90 rfl ?_
    refine bx_iconst C 1 24 dX8_undo_23 ic_1 rfl ?_
    refine bx_isub C 25 dX8_undo_24 rfl ?_
    refine bx_iast_k C 26 1 90 (w_M E a ((upd u.1 90 ((u.1 90) - 1)), u.2)) dX8_undo_25 rfl vin_90_171 cl_90 rfl rfl ?_
    refine bx_bipush C 91 28 dX8_undo_26 bp_91 rfl ?_
    refine bx_bipush C 10 30 dX8_undo_28 bp_10 rfl ?_
    refine bx_aload_n C 31 dX8_undo_30 rfl rfl rfl ?_
    refine bx_getf (v := .ref (a 1)) C 34 0 0 inX8 rfl (by decide) fl_X8_7 dX8_undo_31 at_M_0 rfl rfl ?_
    refine bx_bipush C 90 36 dX8_undo_34 bp_90 rfl ?_
    refine bx_iald_k (f := (upd u.1 90 ((u.1 90) - 1))) C 37 1 90 dX8_undo_36 at_M_1 vin_90_171 cl_90 rfl ?_
    refine bx_imul C 38 dX8_undo_37 rfl ?_
    refine bx_iadd C 39 dX8_undo_38 rfl ?_
    refine bx_istore_n C 40 dX8_undo_39 rfl (by decide) rfl ?_
    refine bx_iconst C 0 41 dX8_undo_40 ic_0 rfl ?_
    refine bx_istore_n C 42 dX8_undo_41 rfl (by decide) rfl ?_
    obtain ⟨n2, hv⟩ := hv
    exact bx_cut [2, 1, 0] (w_M E a ((upd u.1 90 ((u.1 90) - 1)), u.2)) rfl rfl (t_X8_undo_42 C   n2 ((upd u.1 90 ((u.1 90) - 1)), u.2) (91 + (10 * ((upd u.1 90 ((u.1 90) - 1)) 90))) 0 hv)
  · replace hv := hv.2 h
    refine bx_aload_n C 11 dX8_undo_10 rfl rfl rfl ?_
    refine bx_qVi C 0 at_M_0 rfl 14 fc_X8_200 (k_X8_no l E a _ _ hv) dX8_undo_11 ⟨rfl, rfl, Nat.le_of_ble_eq_true rfl, Nat.le_of_ble_eq_true rfl⟩ [0, 1, 2, 3, 4, 5, 6, 7, 8, 9] (fun u4 => w_M E a u4) ps_M_M_0 (by decide) ad_M pu_M_M_0 rfl rfl (Nat.le_of_ble_eq_true rfl) rfl (fun r3 u4 hv => ?_)
    exact bx_iret C u4 rfl dX8_undo_14 rfl hv
theorem k_X8_undo (l : Launch) (E : bx_E) (a : Nat → Nat)  (K : Int32 → MS → Prop) (u : MS)  (hv : V_X8_undo  K u ) : bx_Mi l E yX8_undo cX8_undo 3 (some .int) (rmD 1) [.ref (a 0)] (fun (u : MS) => w_M E a u) u K :=
  bx_meti (by decide +kernel) (Nat.le_of_ble_eq_true rfl) (fun p e S m below meth c C => t_X8_undo_0 C u  hv)
abbrev G_X8_shows (p : Program) (l : Launch) (e : Env) (S : State) (m : MethodId) (args : Array Value) (below : List Frame) (meth : Method) (c : Code) (E : bx_E) (A : Nat → Prop) (a : Nat → Nat)  (K : Int32 → MS → Prop) (pc : Nat) (lv : List (Nat × Value)) (st : List Value) (ws : va_W) : Prop := bx_S p l e (rmD 5) S m args below meth c 3 E A (MQ below (va_Qi K (fun (u : MS) t => bx_B E A (w_M E a u) t) A) args S 0 0 A) 0 0 pc lv st ws
def V_X8_shows_15  (K : Int32 → MS → Prop)  (u : MS)  : Prop := (V_X8_bad (fun r1 u2 => K r1 u2) u )
set_option maxRecDepth 20000 in
set_option maxHeartbeats 4000000 in
theorem t_X8_shows_15 {a : Nat → Nat} {K : Int32 → MS → Prop} (C : bx_C p (rmD 5) S m args meth c cX8_shows 3 yX8_shows.cls (some .int) E A 0 0)   (u : MS)  (hv : V_X8_shows_15 K u ) : G_X8_shows p l e S m args below meth c E A a  K 15 [(0, .ref (a 0))] [] (w_M E a u) := by
  unfold V_X8_shows_15 at hv
  refine bx_aload_n C 16 dX8_shows_15 rfl rfl rfl ?_
  refine bx_qVi C 0 at_M_0 rfl 19 fc_X8_101 (k_X8_bad l E a _ _ hv) dX8_shows_16 ⟨rfl, rfl, Nat.le_of_ble_eq_true rfl, Nat.le_of_ble_eq_true rfl⟩ [0, 1, 2, 3, 4, 5, 6, 7, 8, 9] (fun u2 => w_M E a u2) ps_M_M_0 (by decide) ad_M pu_M_M_0 rfl rfl (Nat.le_of_ble_eq_true rfl) rfl (fun r1 u2 hv => ?_)
  exact bx_iret C u2 rfl dX8_shows_19 rfl hv
def V_X8_shows_56  (K : Int32 → MS → Prop)  (u : MS)  : Prop := (V_X8_no (fun r3 u4 => K r3 u4) u )
set_option maxRecDepth 20000 in
set_option maxHeartbeats 4000000 in
theorem t_X8_shows_56 {a : Nat → Nat} {K : Int32 → MS → Prop} (C : bx_C p (rmD 5) S m args meth c cX8_shows 3 yX8_shows.cls (some .int) E A 0 0)   (u : MS)  (hv : V_X8_shows_56 K u ) : G_X8_shows p l e S m args below meth c E A a  K 56 [(0, .ref (a 0))] [] (w_M E a u) := by
  unfold V_X8_shows_56 at hv
  refine bx_aload_n C 57 dX8_shows_56 rfl rfl rfl ?_
  refine bx_qVi C 0 at_M_0 rfl 60 fc_X8_200 (k_X8_no l E a _ _ hv) dX8_shows_57 ⟨rfl, rfl, Nat.le_of_ble_eq_true rfl, Nat.le_of_ble_eq_true rfl⟩ [0, 1, 2, 3, 4, 5, 6, 7, 8, 9] (fun u4 => w_M E a u4) ps_M_M_0 (by decide) ad_M pu_M_M_0 rfl rfl (Nat.le_of_ble_eq_true rfl) rfl (fun r3 u4 hv => ?_)
  exact bx_iret C u4 rfl dX8_shows_60 rfl hv
def V_X8_shows  (K : Int32 → MS → Prop)  (u : MS) (x1 : Int32) (x2 : Int32) : Prop := (V_X8_isSoul (fun r5 => ((r5 = 0 → V_X8_shows_15 K u ) ∧
 (¬ r5 = 0 → (V_X8_isCell (fun r6 => ((¬ r6 = 0 → (V_X8_cellOf (fun r7 => ((¬ r7 = (-1) → V_X8_shows_56 K u ) ∧
 (r7 = (-1) → (V_X8_isFree (fun r8 => ((r8 = 0 → V_X8_shows_56 K u ) ∧
 (¬ r8 = 0 → ((¬ (u.1 6) = 9999 → (V_X8_keep (fun u9 => (V_X8_goes (fun r10 u11 => K r10 (u11, u9.2)) u9.1 x1 x2)) u )) ∧
 ((u.1 6) = 9999 → V_X8_shows_56 K u ))))) u.1 x2)))) u.1 x1)) ∧
 (r6 = 0 → V_X8_shows_15 K u )))  x2)))) u x1)
set_option maxRecDepth 20000 in
set_option maxHeartbeats 4000000 in
theorem t_X8_shows_0 {a : Nat → Nat} {K : Int32 → MS → Prop} (C : bx_C p (rmD 5) S m args meth c cX8_shows 3 yX8_shows.cls (some .int) E A 0 0)   (u : MS) (x1 : Int32) (x2 : Int32) (hv : V_X8_shows K u x1 x2) : G_X8_shows p l e S m args below meth c E A a  K 0 [(0, .ref (a 0)), (1, .int x1), (2, .int x2)] [] (w_M E a u) := by
  unfold V_X8_shows at hv
  refine bx_aload_n C 1 dX8_shows_0 rfl rfl rfl ?_
  refine bx_iload_n C 2 dX8_shows_1 rfl rfl rfl ?_
  refine bx_pVi C 0 at_M_0 rfl 5 fc_X8_203 (k_X8_isSoul l E a _ _ _ hv) dX8_shows_2 ⟨rfl, rfl, Nat.le_of_ble_eq_true rfl, Nat.le_of_ble_eq_true rfl⟩ [0, 1, 2, 3, 4, 5, 6, 7, 8, 9] ps_M_M_0 (by decide) rfl rfl (Nat.le_of_ble_eq_true rfl) rfl (fun r5 hv => ?_)
  refine bx_if_eq C 15 8 dX8_shows_5 (by decide) rfl (fun h => ?_) (fun h => ?_)
  · replace hv := hv.1 h
    exact bx_cut [0] (w_M E a u) rfl rfl (t_X8_shows_15 C   u  hv)
  · replace hv := hv.2 h
    refine bx_iload_n C 9 dX8_shows_8 rfl rfl rfl ?_
    refine bx_pSi C 12 fc_X8_105 (k_X8_isCell l E  _ _ hv) dX8_shows_9 ⟨rfl, rfl, Nat.le_of_ble_eq_true rfl, Nat.le_of_ble_eq_true rfl⟩ [] rfl (by decide) rfl rfl (Nat.le_of_ble_eq_true rfl) rfl (fun r6 hv => ?_)
    refine bx_if_ne C 20 15 dX8_shows_12 (by decide) rfl (fun h => ?_) (fun h => ?_)
    · replace hv := hv.1 h
      refine bx_aload_n C 21 dX8_shows_20 rfl rfl rfl ?_
      refine bx_getf (v := .ref (a 1)) C 24 0 0 inX8 rfl (by decide) fl_X8_7 dX8_shows_21 at_M_0 rfl rfl ?_
      refine bx_iload_n C 25 dX8_shows_24 rfl rfl rfl ?_
      refine bx_pSi C 28 fc_X8_59 (k_X8_cellOf l E (fun k => a (1 + k)) _ _ _ hv) dX8_shows_25 ⟨rfl, rfl, Nat.le_of_ble_eq_true rfl, Nat.le_of_ble_eq_true rfl⟩ [1] ps_M_A_1 (by decide) rfl rfl (Nat.le_of_ble_eq_true rfl) rfl (fun r7 hv => ?_)
      refine bx_iconst C (-1) 29 dX8_shows_28 ic_m1 rfl ?_
      refine bx_icmp_ne C 56 32 dX8_shows_29 (by decide) rfl (fun h => ?_) (fun h => ?_)
      · replace hv := hv.1 h
        exact bx_cut [0] (w_M E a u) rfl rfl (t_X8_shows_56 C   u  hv)
      · replace hv := hv.2 h
        refine bx_aload_n C 33 dX8_shows_32 rfl rfl rfl ?_
        refine bx_getf (v := .ref (a 1)) C 36 0 0 inX8 rfl (by decide) fl_X8_7 dX8_shows_33 at_M_0 rfl rfl ?_
        refine bx_iload_n C 37 dX8_shows_36 rfl rfl rfl ?_
        refine bx_pSi C 40 fc_X8_171 (k_X8_isFree l E (fun k => a (1 + k)) _ _ _ hv) dX8_shows_37 ⟨rfl, rfl, Nat.le_of_ble_eq_true rfl, Nat.le_of_ble_eq_true rfl⟩ [1] ps_M_A_1 (by decide) rfl rfl (Nat.le_of_ble_eq_true rfl) rfl (fun r8 hv => ?_)
        refine bx_if_eq C 56 43 dX8_shows_40 (by decide) rfl (fun h => ?_) (fun h => ?_)
        · replace hv := hv.1 h
          exact bx_cut [0] (w_M E a u) rfl rfl (t_X8_shows_56 C   u  hv)
        · replace hv := hv.2 h
          refine bx_aload_n C 44 dX8_shows_43 rfl rfl rfl ?_
          refine bx_getf (v := .ref (a 1)) C 47 0 0 inX8 rfl (by decide) fl_X8_7 dX8_shows_44 at_M_0 rfl rfl ?_
          refine bx_bipush C 6 49 dX8_shows_47 bp_6 rfl ?_
          refine bx_iald_k (f := u.1) C 50 1 6 dX8_shows_49 at_M_1 vin_6_171 cl_6 rfl ?_
          refine bx_sipush C 9999 53 dX8_shows_50 sp_9999 rfl ?_
          refine bx_icmp_ne C 61 56 dX8_shows_53 (by decide) rfl (fun h => ?_) (fun h => ?_)
          · replace hv := hv.1 h
            refine bx_aload_n C 62 dX8_shows_61 rfl rfl rfl ?_
            refine bx_qVv C 0 at_M_0 rfl 65 fc_X8_206 (k_X8_keep l E a _ _ hv) dX8_shows_62 ⟨rfl, rfl, Nat.le_of_ble_eq_true rfl, Nat.le_of_ble_eq_true rfl⟩ [0, 1, 2, 3, 4, 5, 6, 7, 8, 9] (fun u9 => w_M E a u9) ps_M_M_0 (by decide) ad_M pu_M_M_0 rfl rfl (Nat.le_of_ble_eq_true rfl) rfl (fun u9 hv => ?_)
            refine bx_aload_n C 66 dX8_shows_65 rfl rfl rfl ?_
            refine bx_getf (v := .ref (a 1)) C 69 0 0 inX8 rfl (by decide) fl_X8_7 dX8_shows_66 at_M_0 rfl rfl ?_
            refine bx_iload_n C 70 dX8_shows_69 rfl rfl rfl ?_
            refine bx_iload_n C 71 dX8_shows_70 rfl rfl rfl ?_
            refine bx_qSi C 74 fc_X8_182 (k_X8_goes l E (fun k => a (1 + k)) _ _ _ _ hv) dX8_shows_71 ⟨rfl, rfl, Nat.le_of_ble_eq_true rfl, Nat.le_of_ble_eq_true rfl⟩ [1] (fun u11 => w_M E a (u11, u9.2)) ps_M_A_1 (by decide) ad_A pu_M_A_1 rfl rfl (Nat.le_of_ble_eq_true rfl) rfl (fun r10 u11 hv => ?_)
            exact bx_iret C (u11, u9.2) rfl dX8_shows_74 rfl hv
          · replace hv := hv.2 h
            exact bx_cut [0] (w_M E a u) rfl rfl (t_X8_shows_56 C   u  hv)
    · replace hv := hv.2 h
      exact bx_cut [0] (w_M E a u) rfl rfl (t_X8_shows_15 C   u  hv)
theorem k_X8_shows (l : Launch) (E : bx_E) (a : Nat → Nat)  (K : Int32 → MS → Prop) (u : MS) (x1 : Int32) (x2 : Int32) (hv : V_X8_shows  K u x1 x2) : bx_Mi l E yX8_shows cX8_shows 3 (some .int) (rmD 5) [.ref (a 0), .int x1, .int x2] (fun (u : MS) => w_M E a u) u K :=
  bx_meti (by decide +kernel) (Nat.le_of_ble_eq_true rfl) (fun p e S m below meth c C => t_X8_shows_0 C u x1 x2 hv)
abbrev G_X8_moves (p : Program) (l : Launch) (e : Env) (S : State) (m : MethodId) (args : Array Value) (below : List Frame) (meth : Method) (c : Code) (E : bx_E) (A : Nat → Prop) (a : Nat → Nat)  (K : Int32 → MS → Prop) (pc : Nat) (lv : List (Nat × Value)) (st : List Value) (ws : va_W) : Prop := bx_S p l e (rmD 5) S m args below meth c 3 E A (MQ below (va_Qi K (fun (u : MS) t => bx_B E A (w_M E a u) t) A) args S 0 0 A) 0 0 pc lv st ws
def V_X8_moves_15  (K : Int32 → MS → Prop)  (u : MS)  : Prop := (V_X8_bad (fun r1 u2 => K r1 u2) u )
set_option maxRecDepth 20000 in
set_option maxHeartbeats 4000000 in
theorem t_X8_moves_15 {a : Nat → Nat} {K : Int32 → MS → Prop} (C : bx_C p (rmD 5) S m args meth c cX8_moves 3 yX8_moves.cls (some .int) E A 0 0)   (u : MS)  (hv : V_X8_moves_15 K u ) : G_X8_moves p l e S m args below meth c E A a  K 15 [(0, .ref (a 0))] [] (w_M E a u) := by
  unfold V_X8_moves_15 at hv
  refine bx_aload_n C 16 dX8_moves_15 rfl rfl rfl ?_
  refine bx_qVi C 0 at_M_0 rfl 19 fc_X8_101 (k_X8_bad l E a _ _ hv) dX8_moves_16 ⟨rfl, rfl, Nat.le_of_ble_eq_true rfl, Nat.le_of_ble_eq_true rfl⟩ [0, 1, 2, 3, 4, 5, 6, 7, 8, 9] (fun u2 => w_M E a u2) ps_M_M_0 (by decide) ad_M pu_M_M_0 rfl rfl (Nat.le_of_ble_eq_true rfl) rfl (fun r1 u2 hv => ?_)
  exact bx_iret C u2 rfl dX8_moves_19 rfl hv
def V_X8_moves_56  (K : Int32 → MS → Prop)  (u : MS)  : Prop := (V_X8_no (fun r3 u4 => K r3 u4) u )
set_option maxRecDepth 20000 in
set_option maxHeartbeats 4000000 in
theorem t_X8_moves_56 {a : Nat → Nat} {K : Int32 → MS → Prop} (C : bx_C p (rmD 5) S m args meth c cX8_moves 3 yX8_moves.cls (some .int) E A 0 0)   (u : MS)  (hv : V_X8_moves_56 K u ) : G_X8_moves p l e S m args below meth c E A a  K 56 [(0, .ref (a 0))] [] (w_M E a u) := by
  unfold V_X8_moves_56 at hv
  refine bx_aload_n C 57 dX8_moves_56 rfl rfl rfl ?_
  refine bx_qVi C 0 at_M_0 rfl 60 fc_X8_200 (k_X8_no l E a _ _ hv) dX8_moves_57 ⟨rfl, rfl, Nat.le_of_ble_eq_true rfl, Nat.le_of_ble_eq_true rfl⟩ [0, 1, 2, 3, 4, 5, 6, 7, 8, 9] (fun u4 => w_M E a u4) ps_M_M_0 (by decide) ad_M pu_M_M_0 rfl rfl (Nat.le_of_ble_eq_true rfl) rfl (fun r3 u4 hv => ?_)
  exact bx_iret C u4 rfl dX8_moves_60 rfl hv
def V_X8_moves  (K : Int32 → MS → Prop)  (u : MS) (x1 : Int32) (x2 : Int32) : Prop := (V_X8_isSoul (fun r5 => ((r5 = 0 → V_X8_moves_15 K u ) ∧
 (¬ r5 = 0 → (V_X8_isCell (fun r6 => ((¬ r6 = 0 → (V_X8_cellOf (fun r7 => ((r7 = (-1) → V_X8_moves_56 K u ) ∧
 (¬ r7 = (-1) → (V_X8_isFree (fun r8 => ((r8 = 0 → V_X8_moves_56 K u ) ∧
 (¬ r8 = 0 → ((¬ (u.1 6) = 9999 → (V_X8_keep (fun u9 => (V_X8_goes (fun r10 u11 => K r10 (u11, u9.2)) u9.1 x1 x2)) u )) ∧
 ((u.1 6) = 9999 → V_X8_moves_56 K u ))))) u.1 x2)))) u.1 x1)) ∧
 (r6 = 0 → V_X8_moves_15 K u )))  x2)))) u x1)
set_option maxRecDepth 20000 in
set_option maxHeartbeats 4000000 in
theorem t_X8_moves_0 {a : Nat → Nat} {K : Int32 → MS → Prop} (C : bx_C p (rmD 5) S m args meth c cX8_moves 3 yX8_moves.cls (some .int) E A 0 0)   (u : MS) (x1 : Int32) (x2 : Int32) (hv : V_X8_moves K u x1 x2) : G_X8_moves p l e S m args below meth c E A a  K 0 [(0, .ref (a 0)), (1, .int x1), (2, .int x2)] [] (w_M E a u) := by
  unfold V_X8_moves at hv
  refine bx_aload_n C 1 dX8_moves_0 rfl rfl rfl ?_
  refine bx_iload_n C 2 dX8_moves_1 rfl rfl rfl ?_
  refine bx_pVi C 0 at_M_0 rfl 5 fc_X8_203 (k_X8_isSoul l E a _ _ _ hv) dX8_moves_2 ⟨rfl, rfl, Nat.le_of_ble_eq_true rfl, Nat.le_of_ble_eq_true rfl⟩ [0, 1, 2, 3, 4, 5, 6, 7, 8, 9] ps_M_M_0 (by decide) rfl rfl (Nat.le_of_ble_eq_true rfl) rfl (fun r5 hv => ?_)
  refine bx_if_eq C 15 8 dX8_moves_5 (by decide) rfl (fun h => ?_) (fun h => ?_)
  · replace hv := hv.1 h
    exact bx_cut [0] (w_M E a u) rfl rfl (t_X8_moves_15 C   u  hv)
  · replace hv := hv.2 h
    refine bx_iload_n C 9 dX8_moves_8 rfl rfl rfl ?_
    refine bx_pSi C 12 fc_X8_105 (k_X8_isCell l E  _ _ hv) dX8_moves_9 ⟨rfl, rfl, Nat.le_of_ble_eq_true rfl, Nat.le_of_ble_eq_true rfl⟩ [] rfl (by decide) rfl rfl (Nat.le_of_ble_eq_true rfl) rfl (fun r6 hv => ?_)
    refine bx_if_ne C 20 15 dX8_moves_12 (by decide) rfl (fun h => ?_) (fun h => ?_)
    · replace hv := hv.1 h
      refine bx_aload_n C 21 dX8_moves_20 rfl rfl rfl ?_
      refine bx_getf (v := .ref (a 1)) C 24 0 0 inX8 rfl (by decide) fl_X8_7 dX8_moves_21 at_M_0 rfl rfl ?_
      refine bx_iload_n C 25 dX8_moves_24 rfl rfl rfl ?_
      refine bx_pSi C 28 fc_X8_59 (k_X8_cellOf l E (fun k => a (1 + k)) _ _ _ hv) dX8_moves_25 ⟨rfl, rfl, Nat.le_of_ble_eq_true rfl, Nat.le_of_ble_eq_true rfl⟩ [1] ps_M_A_1 (by decide) rfl rfl (Nat.le_of_ble_eq_true rfl) rfl (fun r7 hv => ?_)
      refine bx_iconst C (-1) 29 dX8_moves_28 ic_m1 rfl ?_
      refine bx_icmp_eq C 56 32 dX8_moves_29 (by decide) rfl (fun h => ?_) (fun h => ?_)
      · replace hv := hv.1 h
        exact bx_cut [0] (w_M E a u) rfl rfl (t_X8_moves_56 C   u  hv)
      · replace hv := hv.2 h
        refine bx_aload_n C 33 dX8_moves_32 rfl rfl rfl ?_
        refine bx_getf (v := .ref (a 1)) C 36 0 0 inX8 rfl (by decide) fl_X8_7 dX8_moves_33 at_M_0 rfl rfl ?_
        refine bx_iload_n C 37 dX8_moves_36 rfl rfl rfl ?_
        refine bx_pSi C 40 fc_X8_171 (k_X8_isFree l E (fun k => a (1 + k)) _ _ _ hv) dX8_moves_37 ⟨rfl, rfl, Nat.le_of_ble_eq_true rfl, Nat.le_of_ble_eq_true rfl⟩ [1] ps_M_A_1 (by decide) rfl rfl (Nat.le_of_ble_eq_true rfl) rfl (fun r8 hv => ?_)
        refine bx_if_eq C 56 43 dX8_moves_40 (by decide) rfl (fun h => ?_) (fun h => ?_)
        · replace hv := hv.1 h
          exact bx_cut [0] (w_M E a u) rfl rfl (t_X8_moves_56 C   u  hv)
        · replace hv := hv.2 h
          refine bx_aload_n C 44 dX8_moves_43 rfl rfl rfl ?_
          refine bx_getf (v := .ref (a 1)) C 47 0 0 inX8 rfl (by decide) fl_X8_7 dX8_moves_44 at_M_0 rfl rfl ?_
          refine bx_bipush C 6 49 dX8_moves_47 bp_6 rfl ?_
          refine bx_iald_k (f := u.1) C 50 1 6 dX8_moves_49 at_M_1 vin_6_171 cl_6 rfl ?_
          refine bx_sipush C 9999 53 dX8_moves_50 sp_9999 rfl ?_
          refine bx_icmp_ne C 61 56 dX8_moves_53 (by decide) rfl (fun h => ?_) (fun h => ?_)
          · replace hv := hv.1 h
            refine bx_aload_n C 62 dX8_moves_61 rfl rfl rfl ?_
            refine bx_qVv C 0 at_M_0 rfl 65 fc_X8_206 (k_X8_keep l E a _ _ hv) dX8_moves_62 ⟨rfl, rfl, Nat.le_of_ble_eq_true rfl, Nat.le_of_ble_eq_true rfl⟩ [0, 1, 2, 3, 4, 5, 6, 7, 8, 9] (fun u9 => w_M E a u9) ps_M_M_0 (by decide) ad_M pu_M_M_0 rfl rfl (Nat.le_of_ble_eq_true rfl) rfl (fun u9 hv => ?_)
            refine bx_aload_n C 66 dX8_moves_65 rfl rfl rfl ?_
            refine bx_getf (v := .ref (a 1)) C 69 0 0 inX8 rfl (by decide) fl_X8_7 dX8_moves_66 at_M_0 rfl rfl ?_
            refine bx_iload_n C 70 dX8_moves_69 rfl rfl rfl ?_
            refine bx_iload_n C 71 dX8_moves_70 rfl rfl rfl ?_
            refine bx_qSi C 74 fc_X8_182 (k_X8_goes l E (fun k => a (1 + k)) _ _ _ _ hv) dX8_moves_71 ⟨rfl, rfl, Nat.le_of_ble_eq_true rfl, Nat.le_of_ble_eq_true rfl⟩ [1] (fun u11 => w_M E a (u11, u9.2)) ps_M_A_1 (by decide) ad_A pu_M_A_1 rfl rfl (Nat.le_of_ble_eq_true rfl) rfl (fun r10 u11 hv => ?_)
            exact bx_iret C (u11, u9.2) rfl dX8_moves_74 rfl hv
          · replace hv := hv.2 h
            exact bx_cut [0] (w_M E a u) rfl rfl (t_X8_moves_56 C   u  hv)
    · replace hv := hv.2 h
      exact bx_cut [0] (w_M E a u) rfl rfl (t_X8_moves_15 C   u  hv)
theorem k_X8_moves (l : Launch) (E : bx_E) (a : Nat → Nat)  (K : Int32 → MS → Prop) (u : MS) (x1 : Int32) (x2 : Int32) (hv : V_X8_moves  K u x1 x2) : bx_Mi l E yX8_moves cX8_moves 3 (some .int) (rmD 5) [.ref (a 0), .int x1, .int x2] (fun (u : MS) => w_M E a u) u K :=
  bx_meti (by decide +kernel) (Nat.le_of_ble_eq_true rfl) (fun p e S m below meth c C => t_X8_moves_0 C u x1 x2 hv)
end
