theorem fb_X6_spells : bx_FB yX6_spells cX6_spells 3 (some .boolean) 1 := ⟨(wsAll_mem (List.mem_of_getElem? (i := 373) (by decide +kernel)) (by decide +kernel)), (wsAll_mem (List.mem_of_getElem? (i := 76) (by decide +kernel)) (by decide +kernel)), by decide +kernel, by decide +kernel, by decide +kernel⟩
theorem fc_X6_50 : bx_FV RX6 50 RX6 yX6_spells cX6_spells 3 (some .boolean) 1 := ⟨⟨fb_X6_spells, (wsAll_mem (List.mem_of_getElem? (i := 370) (by decide +kernel)) (by decide +kernel))⟩, (wsAll_mem (List.mem_of_getElem? (i := 372) (by decide +kernel)) (by decide +kernel)), (wsAll_mem (List.mem_of_getElem? (i := 5) (by decide +kernel)) (by decide +kernel))⟩
theorem fb_X6_readMinutes : bx_FB yX6_readMinutes cX6_readMinutes 1 (some .boolean) 0 := ⟨(wsAll_mem (List.mem_of_getElem? (i := 501) (by decide +kernel)) (by decide +kernel)), (wsAll_mem (List.mem_of_getElem? (i := 76) (by decide +kernel)) (by decide +kernel)), by decide +kernel, by decide +kernel, by decide +kernel⟩
theorem fc_X6_79 : bx_FV RX6 79 RX6 yX6_readMinutes cX6_readMinutes 1 (some .boolean) 0 := ⟨⟨fb_X6_readMinutes, (wsAll_mem (List.mem_of_getElem? (i := 498) (by decide +kernel)) (by decide +kernel))⟩, (wsAll_mem (List.mem_of_getElem? (i := 500) (by decide +kernel)) (by decide +kernel)), (wsAll_mem (List.mem_of_getElem? (i := 13) (by decide +kernel)) (by decide +kernel))⟩
theorem fb_X6_readOut : bx_FB yX6_readOut cX6_readOut 1 (some .boolean) 0 := ⟨(wsAll_mem (List.mem_of_getElem? (i := 492) (by decide +kernel)) (by decide +kernel)), (wsAll_mem (List.mem_of_getElem? (i := 76) (by decide +kernel)) (by decide +kernel)), by decide +kernel, by decide +kernel, by decide +kernel⟩
theorem fc_X6_74 : bx_FV RX6 74 RX6 yX6_readOut cX6_readOut 1 (some .boolean) 0 := ⟨⟨fb_X6_readOut, (wsAll_mem (List.mem_of_getElem? (i := 489) (by decide +kernel)) (by decide +kernel))⟩, (wsAll_mem (List.mem_of_getElem? (i := 491) (by decide +kernel)) (by decide +kernel)), (wsAll_mem (List.mem_of_getElem? (i := 12) (by decide +kernel)) (by decide +kernel))⟩
theorem fb_X6_readSit : bx_FB yX6_readSit cX6_readSit 2 (some .boolean) 0 := ⟨(wsAll_mem (List.mem_of_getElem? (i := 460) (by decide +kernel)) (by decide +kernel)), (wsAll_mem (List.mem_of_getElem? (i := 76) (by decide +kernel)) (by decide +kernel)), by decide +kernel, by decide +kernel, by decide +kernel⟩
theorem fc_X6_69 : bx_FV RX6 69 RX6 yX6_readSit cX6_readSit 2 (some .boolean) 0 := ⟨⟨fb_X6_readSit, (wsAll_mem (List.mem_of_getElem? (i := 457) (by decide +kernel)) (by decide +kernel))⟩, (wsAll_mem (List.mem_of_getElem? (i := 459) (by decide +kernel)) (by decide +kernel)), (wsAll_mem (List.mem_of_getElem? (i := 10) (by decide +kernel)) (by decide +kernel))⟩
theorem fb_X6_readCoat : bx_FB yX6_readCoat cX6_readCoat 1 (some .boolean) 0 := ⟨(wsAll_mem (List.mem_of_getElem? (i := 440) (by decide +kernel)) (by decide +kernel)), (wsAll_mem (List.mem_of_getElem? (i := 76) (by decide +kernel)) (by decide +kernel)), by decide +kernel, by decide +kernel, by decide +kernel⟩
theorem fc_X6_64 : bx_FV RX6 64 RX6 yX6_readCoat cX6_readCoat 1 (some .boolean) 0 := ⟨⟨fb_X6_readCoat, (wsAll_mem (List.mem_of_getElem? (i := 437) (by decide +kernel)) (by decide +kernel))⟩, (wsAll_mem (List.mem_of_getElem? (i := 439) (by decide +kernel)) (by decide +kernel)), (wsAll_mem (List.mem_of_getElem? (i := 9) (by decide +kernel)) (by decide +kernel))⟩
theorem fb_X6_readSoul : bx_FB yX6_readSoul cX6_readSoul 2 (some .boolean) 0 := ⟨(wsAll_mem (List.mem_of_getElem? (i := 434) (by decide +kernel)) (by decide +kernel)), (wsAll_mem (List.mem_of_getElem? (i := 76) (by decide +kernel)) (by decide +kernel)), by decide +kernel, by decide +kernel, by decide +kernel⟩
theorem fc_X6_59 : bx_FV RX6 59 RX6 yX6_readSoul cX6_readSoul 2 (some .boolean) 0 := ⟨⟨fb_X6_readSoul, (wsAll_mem (List.mem_of_getElem? (i := 431) (by decide +kernel)) (by decide +kernel))⟩, (wsAll_mem (List.mem_of_getElem? (i := 433) (by decide +kernel)) (by decide +kernel)), (wsAll_mem (List.mem_of_getElem? (i := 8) (by decide +kernel)) (by decide +kernel))⟩
theorem fb_X6_readRowKinds : bx_FB yX6_readRowKinds cX6_readRowKinds 2 (some .boolean) 0 := ⟨(wsAll_mem (List.mem_of_getElem? (i := 425) (by decide +kernel)) (by decide +kernel)), (wsAll_mem (List.mem_of_getElem? (i := 76) (by decide +kernel)) (by decide +kernel)), by decide +kernel, by decide +kernel, by decide +kernel⟩
theorem fc_X6_54 : bx_FV RX6 54 RX6 yX6_readRowKinds cX6_readRowKinds 2 (some .boolean) 0 := ⟨⟨fb_X6_readRowKinds, (wsAll_mem (List.mem_of_getElem? (i := 422) (by decide +kernel)) (by decide +kernel))⟩, (wsAll_mem (List.mem_of_getElem? (i := 424) (by decide +kernel)) (by decide +kernel)), (wsAll_mem (List.mem_of_getElem? (i := 6) (by decide +kernel)) (by decide +kernel))⟩
theorem fb_X6_readItem : bx_FB yX6_readItem cX6_readItem 2 (some .boolean) 1 := ⟨(wsAll_mem (List.mem_of_getElem? (i := 368) (by decide +kernel)) (by decide +kernel)), (wsAll_mem (List.mem_of_getElem? (i := 76) (by decide +kernel)) (by decide +kernel)), by decide +kernel, by decide +kernel, by decide +kernel⟩
theorem fc_X6_38 : bx_FV RX6 38 RX6 yX6_readItem cX6_readItem 2 (some .boolean) 1 := ⟨⟨fb_X6_readItem, (wsAll_mem (List.mem_of_getElem? (i := 365) (by decide +kernel)) (by decide +kernel))⟩, (wsAll_mem (List.mem_of_getElem? (i := 367) (by decide +kernel)) (by decide +kernel)), (wsAll_mem (List.mem_of_getElem? (i := 4) (by decide +kernel)) (by decide +kernel))⟩
theorem fb_X6_readStop : bx_FB yX6_readStop cX6_readStop 1 (some .boolean) 0 := ⟨(wsAll_mem (List.mem_of_getElem? (i := 506) (by decide +kernel)) (by decide +kernel)), (wsAll_mem (List.mem_of_getElem? (i := 76) (by decide +kernel)) (by decide +kernel)), by decide +kernel, by decide +kernel, by decide +kernel⟩
theorem fc_X6_42 : bx_FV RX6 42 RX6 yX6_readStop cX6_readStop 1 (some .boolean) 0 := ⟨⟨fb_X6_readStop, (wsAll_mem (List.mem_of_getElem? (i := 503) (by decide +kernel)) (by decide +kernel))⟩, (wsAll_mem (List.mem_of_getElem? (i := 505) (by decide +kernel)) (by decide +kernel)), (wsAll_mem (List.mem_of_getElem? (i := 14) (by decide +kernel)) (by decide +kernel))⟩
theorem fc_X6_26 : bx_FV RX6 26 RX0 yX0_reset cX0_reset 2 none 0 := ⟨⟨fb_X0_reset, (wsAll_mem (List.mem_of_getElem? (i := 350) (by decide +kernel)) (by decide +kernel))⟩, (wsAll_mem (List.mem_of_getElem? (i := 291) (by decide +kernel)) (by decide +kernel)), (wsAll_mem (List.mem_of_getElem? (i := 292) (by decide +kernel)) (by decide +kernel))⟩
theorem fl_X7_99 : Cond.fieldLink RX7 99 (TX6 0).1 (TX6 0).2.1 (TX6 0).2.2.1 ∈ wsAll := (wsAll_mem (List.mem_of_getElem? (i := 197) (by decide +kernel)) (by decide +kernel))
theorem fb_X6_readAll : bx_FB yX6_readAll cX6_readAll 3 (some .int) 0 := ⟨(wsAll_mem (List.mem_of_getElem? (i := 349) (by decide +kernel)) (by decide +kernel)), (wsAll_mem (List.mem_of_getElem? (i := 76) (by decide +kernel)) (by decide +kernel)), by decide +kernel, by decide +kernel, by decide +kernel⟩
theorem fc_X7_96 : bx_FV RX7 96 RX6 yX6_readAll cX6_readAll 3 (some .int) 0 := ⟨⟨fb_X6_readAll, (wsAll_mem (List.mem_of_getElem? (i := 346) (by decide +kernel)) (by decide +kernel))⟩, (wsAll_mem (List.mem_of_getElem? (i := 347) (by decide +kernel)) (by decide +kernel)), (wsAll_mem (List.mem_of_getElem? (i := 348) (by decide +kernel)) (by decide +kernel))⟩
theorem ps_U_H_56 {E : bx_E} {a : Nat → Nat}  {u : US} : ([56, 57, 58, 59, 60, 61, 62, 63, 64, 65, 66, 67, 68] : List Nat).map (fun i => (w_U E a u)[i]?) = (w_H E (fun k => a (56 + k)) u.2.2.2.2.2.1.1).map some := by
  rw [(by simp only [w_U, List.cons_append, List.append_assoc, List.nil_append, List.append_nil] : w_U E a u = (((a 0), .inr (5, [.ref (a 1), .ref (a 14), .ref (a 27), .ref (a 54), .ref (a 55), .ref (a 70), .ref (a 72), .long u.2.2.2.2.2.2.2.2.1, .long u.2.2.2.2.2.2.2.2.2.1, .int u.2.2.2.2.2.2.2.2.2.2.1, .int u.2.2.2.2.2.2.2.2.2.2.2.1, .int u.2.2.2.2.2.2.2.2.2.2.2.2])) :: (w_H E (fun k => a (1 + k)) u.1 ++ (w_H E (fun k => a (14 + k)) u.2.1 ++ (((a 27), .inl (E.2 3, 2, .inr (.inr (.inr (.inr (fun j => if j = 0 then some (a 28) else if j = 1 then some (a 41) else none)))))) :: (w_H E (fun k => a (28 + k)) u.2.2.1 ++ (w_H E (fun k => a (41 + k)) u.2.2.2.1 ++ (((a 54), .inl (E.2 1, 2, .inl u.2.2.2.2.1)) :: []))))))) ++ (w_X E (fun k => a (55 + k)) u.2.2.2.2.2.1 ++ (w_P E (fun k => a (70 + k)) u.2.2.2.2.2.2.1 ++ (w_Y E (fun k => a (72 + k)) u.2.2.2.2.2.2.2.1 ++ []))))]
  exact (bx_map_mid (N := 55) (n := 15) (ps := [1, 2, 3, 4, 5, 6, 7, 8, 9, 10, 11, 12, 13]) rfl rfl (by decide)).trans ps_X_H_1
theorem pu_U_H_56 {E : bx_E} {a : Nat → Nat}  {u : US} (v : HS) : bx_put (w_U E a u) [56, 57, 58, 59, 60, 61, 62, 63, 64, 65, 66, 67, 68] (w_H E (fun k => a (56 + k)) v) = w_U E a (u.1, u.2.1, u.2.2.1, u.2.2.2.1, u.2.2.2.2.1, (v, u.2.2.2.2.2.1.2), u.2.2.2.2.2.2) := by
  rw [(by simp only [w_U, List.cons_append, List.append_assoc, List.nil_append, List.append_nil] : w_U E a u = (((a 0), .inr (5, [.ref (a 1), .ref (a 14), .ref (a 27), .ref (a 54), .ref (a 55), .ref (a 70), .ref (a 72), .long u.2.2.2.2.2.2.2.2.1, .long u.2.2.2.2.2.2.2.2.2.1, .int u.2.2.2.2.2.2.2.2.2.2.1, .int u.2.2.2.2.2.2.2.2.2.2.2.1, .int u.2.2.2.2.2.2.2.2.2.2.2.2])) :: (w_H E (fun k => a (1 + k)) u.1 ++ (w_H E (fun k => a (14 + k)) u.2.1 ++ (((a 27), .inl (E.2 3, 2, .inr (.inr (.inr (.inr (fun j => if j = 0 then some (a 28) else if j = 1 then some (a 41) else none)))))) :: (w_H E (fun k => a (28 + k)) u.2.2.1 ++ (w_H E (fun k => a (41 + k)) u.2.2.2.1 ++ (((a 54), .inl (E.2 1, 2, .inl u.2.2.2.2.1)) :: []))))))) ++ (w_X E (fun k => a (55 + k)) u.2.2.2.2.2.1 ++ (w_P E (fun k => a (70 + k)) u.2.2.2.2.2.2.1 ++ (w_Y E (fun k => a (72 + k)) u.2.2.2.2.2.2.2.1 ++ []))))]
  refine (bx_put_mid (N := 55) (n := 15) (ps := [1, 2, 3, 4, 5, 6, 7, 8, 9, 10, 11, 12, 13]) rfl rfl (by decide)).trans ?_
  have h2 : bx_put (w_X E (fun k => a (55 + k)) u.2.2.2.2.2.1) [1, 2, 3, 4, 5, 6, 7, 8, 9, 10, 11, 12, 13] (w_H E (fun k => a (56 + k)) v) = w_X E (fun k => a (55 + k)) (v, u.2.2.2.2.2.1.2) := pu_X_H_1 v
  rw [h2]
  simp only [w_U, List.cons_append, List.append_assoc, List.nil_append, List.append_nil]
theorem ps_U_HH_1_56 {E : bx_E} {a : Nat → Nat}  {u : US} : ([1, 2, 3, 4, 5, 6, 7, 8, 9, 10, 11, 12, 13, 56, 57, 58, 59, 60, 61, 62, 63, 64, 65, 66, 67, 68] : List Nat).map (fun i => (w_U E a u)[i]?) = (w_H E (fun k => a (1 + k)) u.1 ++ w_H E (fun k => a (56 + k)) u.2.2.2.2.2.1.1).map some := bx_map_app ps_U_H_1 ps_U_H_56
theorem pu_U_HH_1_56 {E : bx_E} {a : Nat → Nat}  {u : US} (v : HS × HS) : bx_put (w_U E a u) [1, 2, 3, 4, 5, 6, 7, 8, 9, 10, 11, 12, 13, 56, 57, 58, 59, 60, 61, 62, 63, 64, 65, 66, 67, 68] (w_H E (fun k => a (1 + k)) v.1 ++ w_H E (fun k => a (56 + k)) v.2) = w_U E a (v.1, u.2.1, u.2.2.1, u.2.2.2.1, u.2.2.2.2.1, (v.2, u.2.2.2.2.2.1.2), u.2.2.2.2.2.2) := (bx_put_app (ps1 := [1, 2, 3, 4, 5, 6, 7, 8, 9, 10, 11, 12, 13]) rfl).trans ((congrArg (fun w => bx_put w _ _) (pu_U_H_1 v.1)).trans (pu_U_H_56 v.2))
section
variable {p : Program} {l : Launch} {e : Env} {S : State} {m : MethodId} {args : Array Value} {below : List Frame} {meth : Method} {c : Code} {E : bx_E} {A : Nat → Prop}
abbrev G_X6_spells (p : Program) (l : Launch) (e : Env) (S : State) (m : MethodId) (args : Array Value) (below : List Frame) (meth : Method) (c : Code) (E : bx_E) (A : Nat → Prop) (a : Nat → Nat) (w : Nat) (u : XS) (K : Int32 → Prop) (pc : Nat) (lv : List (Nat × Value)) (st : List Value) (ws : va_W) : Prop := bx_S p l e (rmD 4) S m args below meth c 3 E A (MQ below (va_Qi (fun r (_ : Unit) => K r) (fun (_ : Unit) t => bx_B E A (w_X E a u) t) A) args S 0 0 A) 0 0 pc lv st ws
def V_X6_spells_20 (w : Nat) (K : Int32 → Prop)  : Nat → XS → Int32 → Prop
  | 0, _, _ => False
  | n + 1, u, x2 => (((Int32.ofNat (bx_sl.getD w 0)) ≤ x2 → K 1) ∧
 (¬ (Int32.ofNat (bx_sl.getD w 0)) ≤ x2 → (vp_in (u.2.2.2.2.1 + x2) 150 ∧ (vp_in x2 (bx_sl.getD w 0) ∧ (((u.2.1 ((u.2.2.2.2.1 + x2) : Int32).toNatClampNeg) = (bx_ch w x2) → V_X6_spells_20 w K n u (x2 + 1)) ∧
 (¬ (u.2.1 ((u.2.2.2.2.1 + x2) : Int32).toNatClampNeg) = (bx_ch w x2) → K 0))))))
set_option maxRecDepth 20000 in
set_option maxHeartbeats 4000000 in
theorem t_X6_spells_20 {a : Nat → Nat} {w : Nat} {K : Int32 → Prop} (C : bx_C p (rmD 4) S m args meth c cX6_spells 3 yX6_spells.cls (some .boolean) E A 0 0) (hw : w < 6) (u : XS)  : ∀ (n : Nat)  (x2 : Int32), V_X6_spells_20 w K n u x2 → G_X6_spells p l e S m args below meth c E A a w u K 20 [(0, .ref (a 0)), (1, .ref (E.2 (100 + w))), (2, .int x2)] [] (w_X E a u) := by
  intro n
  induction n with
  | zero =>
    intro x2 hv
    exact False.elim hv
  | succ n ih =>
    intro x2 hv
    unfold V_X6_spells_20 at hv
    refine bx_iload_n C 21 dX6_spells_20 rfl rfl rfl ?_
    refine bx_aload_n C 22 dX6_spells_21 rfl rfl rfl ?_
    refine bx_pRi C w 25 hw fc_X6_134 (k_length l E w hw) dX6_spells_22 ⟨rfl, rfl, Nat.le_of_ble_eq_true rfl, Nat.le_of_ble_eq_true rfl⟩ rfl rfl (Nat.le_of_ble_eq_true rfl) rfl (fun r hr => ?_)
    subst hr
    refine bx_icmp_ge C 55 28 dX6_spells_25 (by decide) rfl (fun h => ?_) (fun h => ?_)
    · replace hv := hv.1 h
      refine bx_iconst C 1 56 dX6_spells_55 ic_1 rfl ?_
      exact bx_zret C () rfl dX6_spells_56 rfl (Or.inr rfl) hv
    · replace hv := hv.2 h
      refine bx_aload_n C 29 dX6_spells_28 rfl rfl rfl ?_
      refine bx_getf (v := .ref (a 14)) C 32 0 1 inX6 rfl (by decide) fl_X6_18 dX6_spells_29 at_X_0 rfl rfl ?_
      refine bx_aload_n C 33 dX6_spells_32 rfl rfl rfl ?_
      refine bx_getf (v := .int u.2.2.2.2.1) C 36 0 4 inX6 rfl (by decide) fl_X6_46 dX6_spells_33 at_X_0 rfl rfl ?_
      refine bx_iload_n C 37 dX6_spells_36 rfl rfl rfl ?_
      refine bx_iadd C 38 dX6_spells_37 rfl ?_
      refine bx_bald (f := u.2.1) C 39 14 dX6_spells_38 at_X_14 hv.1 rfl ?_
      replace hv := hv.2
      refine bx_aload_n C 40 dX6_spells_39 rfl rfl rfl ?_
      refine bx_iload_n C 41 dX6_spells_40 rfl rfl rfl ?_
      refine bx_pRi C w 44 hw fc_X6_139 (k_charAt l E w hw _ hv.1) dX6_spells_41 ⟨rfl, rfl, Nat.le_of_ble_eq_true rfl, Nat.le_of_ble_eq_true rfl⟩ rfl rfl (Nat.le_of_ble_eq_true rfl) rfl (fun r hr => ?_)
      subst hr
      replace hv := hv.2
      refine bx_icmp_eq C 49 47 dX6_spells_44 (by decide) rfl (fun h => ?_) (fun h => ?_)
      · replace hv := hv.1 h
        refine bx_iinc C 1 52 dX6_spells_49 rfl (by decide) ic_1 rfl ?_
        refine bx_goto C 20 dX6_spells_52 (by decide) ?_
        exact bx_cut [1, 2, 0] (w_X E a u) rfl rfl (ih  (x2 + 1) hv)
      · replace hv := hv.2 h
        refine bx_iconst C 0 48 dX6_spells_47 ic_0 rfl ?_
        exact bx_zret C () rfl dX6_spells_48 rfl (Or.inl rfl) hv
def V_X6_spells (w : Nat) (K : Int32 → Prop)  (u : XS)  : Prop := (((u.2.2.2.2.2.1 - u.2.2.2.2.1) = (Int32.ofNat (bx_sl.getD w 0)) → ∃ n1, V_X6_spells_20 w K n1 u 0) ∧
 (¬ (u.2.2.2.2.2.1 - u.2.2.2.2.1) = (Int32.ofNat (bx_sl.getD w 0)) → K 0))
set_option maxRecDepth 20000 in
set_option maxHeartbeats 4000000 in
theorem t_X6_spells_0 {a : Nat → Nat} {w : Nat} {K : Int32 → Prop} (C : bx_C p (rmD 4) S m args meth c cX6_spells 3 yX6_spells.cls (some .boolean) E A 0 0) (hw : w < 6) (u : XS)    (hv : V_X6_spells w K u ) : G_X6_spells p l e S m args below meth c E A a w u K 0 [(0, .ref (a 0)), (1, .ref (E.2 (100 + w)))] [] (w_X E a u) := by
  unfold V_X6_spells at hv
  refine bx_aload_n C 1 dX6_spells_0 rfl rfl rfl ?_
  refine bx_getf (v := .int u.2.2.2.2.2.1) C 4 0 5 inX6 rfl (by decide) fl_X6_29 dX6_spells_1 at_X_0 rfl rfl ?_
  refine bx_aload_n C 5 dX6_spells_4 rfl rfl rfl ?_
  refine bx_getf (v := .int u.2.2.2.2.1) C 8 0 4 inX6 rfl (by decide) fl_X6_46 dX6_spells_5 at_X_0 rfl rfl ?_
  refine bx_isub C 9 dX6_spells_8 rfl ?_
  refine bx_aload_n C 10 dX6_spells_9 rfl rfl rfl ?_
  refine bx_pRi C w 13 hw fc_X6_134 (k_length l E w hw) dX6_spells_10 ⟨rfl, rfl, Nat.le_of_ble_eq_true rfl, Nat.le_of_ble_eq_true rfl⟩ rfl rfl (Nat.le_of_ble_eq_true rfl) rfl (fun r hr => ?_)
  subst hr
  refine bx_icmp_eq C 18 16 dX6_spells_13 (by decide) rfl (fun h => ?_) (fun h => ?_)
  · replace hv := hv.1 h
    refine bx_iconst C 0 19 dX6_spells_18 ic_0 rfl ?_
    refine bx_istore_n C 20 dX6_spells_19 rfl (by decide) rfl ?_
    obtain ⟨n1, hv⟩ := hv
    exact bx_cut [1, 2, 0] (w_X E a u) rfl rfl (t_X6_spells_20 C hw u  n1  0 hv)
  · replace hv := hv.2 h
    refine bx_iconst C 0 17 dX6_spells_16 ic_0 rfl ?_
    exact bx_zret C () rfl dX6_spells_17 rfl (Or.inl rfl) hv
theorem k_X6_spells (l : Launch) (E : bx_E) (a : Nat → Nat) (w : Nat) (hw : w < 6) (K : Int32 → Prop) (u : XS)  (hv : V_X6_spells w K u ) : bx_Mi l E yX6_spells cX6_spells 3 (some .boolean) (rmD 4) [.ref (a 0), .ref (E.2 (100 + w))] (fun (_ : Unit) => w_X E a u) () (fun r (_ : Unit) => K r) :=
  bx_meti (by decide +kernel) (Nat.le_of_ble_eq_true rfl) (fun p e S m below meth c C => t_X6_spells_0 C hw u  hv)
abbrev G_X6_readItem (p : Program) (l : Launch) (e : Env) (S : State) (m : MethodId) (args : Array Value) (below : List Frame) (meth : Method) (c : Code) (E : bx_E) (A : Nat → Prop) (a : Nat → Nat)  (K : Int32 → XS → Prop) (pc : Nat) (lv : List (Nat × Value)) (st : List Value) (ws : va_W) : Prop := bx_S p l e (rmD 5) S m args below meth c 2 E A (MQ below (va_Qi K (fun (u : XS) t => bx_B E A (w_X E a u) t) A) args S 0 0 A) 0 0 pc lv st ws
def V_X6_readItem  (K : Int32 → XS → Prop)  (u : XS) (x1 : Int32) : Prop := ((¬ u.2.2.2.1 = 1 → K 0 u) ∧
 (u.2.2.2.1 = 1 → (V_X6_spells 0 (fun r1 => ((x1 = r1 → ((x1 = 0 → (V_X6_spells 1 (fun r2 => ((r2 = 0 → (V_X6_spells 2 (fun r3 => ((r3 = 0 → (V_X6_spells 3 (fun r4 => ((r4 = 0 → (V_X6_spells 4 (fun r5 => ((r5 = 0 → (V_X6_spells 5 (fun r6 => ((r6 = 0 → K 0 u) ∧
 (¬ r6 = 0 → (V_X6_readMinutes (fun r7 u8 => ((r7 = 0 → K 0 u8) ∧
 (¬ r7 = 0 → K 1 u8))) u )))) u )) ∧
 (¬ r5 = 0 → (V_X6_readOut (fun r9 u10 => ((r9 = 0 ∨ r9 = 1) ∧ K r9 u10)) u )))) u )) ∧
 (¬ r4 = 0 → (V_X6_readSit (fun r11 u12 => ((r11 = 0 ∨ r11 = 1) ∧ K r11 u12)) u )))) u )) ∧
 (¬ r3 = 0 → (V_X6_readCoat (fun r13 u14 => ((r13 = 0 ∨ r13 = 1) ∧ K r13 u14)) u )))) u )) ∧
 (¬ r2 = 0 → (V_X6_readSoul (fun r15 u16 => ((r15 = 0 ∨ r15 = 1) ∧ K r15 u16)) u )))) u )) ∧
 (¬ x1 = 0 → (V_X6_readRowKinds (fun r17 u18 => ((r17 = 0 ∨ r17 = 1) ∧ K r17 u18)) u )))) ∧
 (¬ x1 = r1 → K 0 u))) u )))
set_option maxRecDepth 20000 in
set_option maxHeartbeats 4000000 in
theorem t_X6_readItem_0 {a : Nat → Nat} {K : Int32 → XS → Prop} (C : bx_C p (rmD 5) S m args meth c cX6_readItem 2 yX6_readItem.cls (some .boolean) E A 0 0)   (u : XS) (x1 : Int32) (hv : V_X6_readItem K u x1) : G_X6_readItem p l e S m args below meth c E A a  K 0 [(0, .ref (a 0)), (1, .int x1)] [] (w_X E a u) := by
  unfold V_X6_readItem at hv
  refine bx_aload_n C 1 dX6_readItem_0 rfl rfl rfl ?_
  refine bx_getf (v := .int u.2.2.2.1) C 4 0 3 inX6 rfl (by decide) fl_X6_35 dX6_readItem_1 at_X_0 rfl rfl ?_
  refine bx_iconst C 1 5 dX6_readItem_4 ic_1 rfl ?_
  refine bx_icmp_ne C 18 8 dX6_readItem_5 (by decide) rfl (fun h => ?_) (fun h => ?_)
  · replace hv := hv.1 h
    refine bx_iconst C 0 19 dX6_readItem_18 ic_0 rfl ?_
    exact bx_zret C u rfl dX6_readItem_19 rfl (Or.inl rfl) hv
  · replace hv := hv.2 h
    refine bx_iload_n C 9 dX6_readItem_8 rfl rfl rfl ?_
    refine bx_aload_n C 10 dX6_readItem_9 rfl rfl rfl ?_
    refine bx_ldcS C 0 49 12 (by decide) rfl rfl dX6_readItem_10 rfl ?_
    refine bx_pVi C 0 at_X_0 rfl 15 fc_X6_50 (k_X6_spells l E a 0 (by decide) _ _ hv) dX6_readItem_12 ⟨rfl, rfl, Nat.le_of_ble_eq_true rfl, Nat.le_of_ble_eq_true rfl⟩ [0, 1, 2, 3, 4, 5, 6, 7, 8, 9, 10, 11, 12, 13, 14] ps_X_X_0 (by decide) rfl rfl (Nat.le_of_ble_eq_true rfl) rfl (fun r1 hv => ?_)
    refine bx_icmp_eq C 20 18 dX6_readItem_15 (by decide) rfl (fun h => ?_) (fun h => ?_)
    · replace hv := hv.1 h
      refine bx_iload_n C 21 dX6_readItem_20 rfl rfl rfl ?_
      refine bx_if_eq C 29 24 dX6_readItem_21 (by decide) rfl (fun h => ?_) (fun h => ?_)
      · replace hv := hv.1 h
        refine bx_aload_n C 30 dX6_readItem_29 rfl rfl rfl ?_
        refine bx_ldcS C 1 57 32 (by decide) rfl rfl dX6_readItem_30 rfl ?_
        refine bx_pVi C 0 at_X_0 rfl 35 fc_X6_50 (k_X6_spells l E a 1 (by decide) _ _ hv) dX6_readItem_32 ⟨rfl, rfl, Nat.le_of_ble_eq_true rfl, Nat.le_of_ble_eq_true rfl⟩ [0, 1, 2, 3, 4, 5, 6, 7, 8, 9, 10, 11, 12, 13, 14] ps_X_X_0 (by decide) rfl rfl (Nat.le_of_ble_eq_true rfl) rfl (fun r2 hv => ?_)
        refine bx_if_eq C 43 38 dX6_readItem_35 (by decide) rfl (fun h => ?_) (fun h => ?_)
        · replace hv := hv.1 h
          refine bx_aload_n C 44 dX6_readItem_43 rfl rfl rfl ?_
          refine bx_ldcS C 2 62 46 (by decide) rfl rfl dX6_readItem_44 rfl ?_
          refine bx_pVi C 0 at_X_0 rfl 49 fc_X6_50 (k_X6_spells l E a 2 (by decide) _ _ hv) dX6_readItem_46 ⟨rfl, rfl, Nat.le_of_ble_eq_true rfl, Nat.le_of_ble_eq_true rfl⟩ [0, 1, 2, 3, 4, 5, 6, 7, 8, 9, 10, 11, 12, 13, 14] ps_X_X_0 (by decide) rfl rfl (Nat.le_of_ble_eq_true rfl) rfl (fun r3 hv => ?_)
          refine bx_if_eq C 57 52 dX6_readItem_49 (by decide) rfl (fun h => ?_) (fun h => ?_)
          · replace hv := hv.1 h
            refine bx_aload_n C 58 dX6_readItem_57 rfl rfl rfl ?_
            refine bx_ldcS C 3 67 60 (by decide) rfl rfl dX6_readItem_58 rfl ?_
            refine bx_pVi C 0 at_X_0 rfl 63 fc_X6_50 (k_X6_spells l E a 3 (by decide) _ _ hv) dX6_readItem_60 ⟨rfl, rfl, Nat.le_of_ble_eq_true rfl, Nat.le_of_ble_eq_true rfl⟩ [0, 1, 2, 3, 4, 5, 6, 7, 8, 9, 10, 11, 12, 13, 14] ps_X_X_0 (by decide) rfl rfl (Nat.le_of_ble_eq_true rfl) rfl (fun r4 hv => ?_)
            refine bx_if_eq C 71 66 dX6_readItem_63 (by decide) rfl (fun h => ?_) (fun h => ?_)
            · replace hv := hv.1 h
              refine bx_aload_n C 72 dX6_readItem_71 rfl rfl rfl ?_
              refine bx_ldcS C 4 72 74 (by decide) rfl rfl dX6_readItem_72 rfl ?_
              refine bx_pVi C 0 at_X_0 rfl 77 fc_X6_50 (k_X6_spells l E a 4 (by decide) _ _ hv) dX6_readItem_74 ⟨rfl, rfl, Nat.le_of_ble_eq_true rfl, Nat.le_of_ble_eq_true rfl⟩ [0, 1, 2, 3, 4, 5, 6, 7, 8, 9, 10, 11, 12, 13, 14] ps_X_X_0 (by decide) rfl rfl (Nat.le_of_ble_eq_true rfl) rfl (fun r5 hv => ?_)
              refine bx_if_eq C 85 80 dX6_readItem_77 (by decide) rfl (fun h => ?_) (fun h => ?_)
              · replace hv := hv.1 h
                refine bx_aload_n C 86 dX6_readItem_85 rfl rfl rfl ?_
                refine bx_ldcS C 5 77 88 (by decide) rfl rfl dX6_readItem_86 rfl ?_
                refine bx_pVi C 0 at_X_0 rfl 91 fc_X6_50 (k_X6_spells l E a 5 (by decide) _ _ hv) dX6_readItem_88 ⟨rfl, rfl, Nat.le_of_ble_eq_true rfl, Nat.le_of_ble_eq_true rfl⟩ [0, 1, 2, 3, 4, 5, 6, 7, 8, 9, 10, 11, 12, 13, 14] ps_X_X_0 (by decide) rfl rfl (Nat.le_of_ble_eq_true rfl) rfl (fun r6 hv => ?_)
                refine bx_if_eq C 105 94 dX6_readItem_91 (by decide) rfl (fun h => ?_) (fun h => ?_)
                · replace hv := hv.1 h
                  refine bx_iconst C 0 106 dX6_readItem_105 ic_0 rfl ?_
                  exact bx_zret C u rfl dX6_readItem_106 rfl (Or.inl rfl) hv
                · replace hv := hv.2 h
                  refine bx_aload_n C 95 dX6_readItem_94 rfl rfl rfl ?_
                  refine bx_qVi C 0 at_X_0 rfl 98 fc_X6_79 (k_X6_readMinutes l E a _ _ hv) dX6_readItem_95 ⟨rfl, rfl, Nat.le_of_ble_eq_true rfl, Nat.le_of_ble_eq_true rfl⟩ [0, 1, 2, 3, 4, 5, 6, 7, 8, 9, 10, 11, 12, 13, 14] (fun u8 => w_X E a u8) ps_X_X_0 (by decide) ad_X pu_X_X_0 rfl rfl (Nat.le_of_ble_eq_true rfl) rfl (fun r7 u8 hv => ?_)
                  refine bx_if_eq C 105 101 dX6_readItem_98 (by decide) rfl (fun h => ?_) (fun h => ?_)
                  · replace hv := hv.1 h
                    refine bx_iconst C 0 106 dX6_readItem_105 ic_0 rfl ?_
                    exact bx_zret C u8 rfl dX6_readItem_106 rfl (Or.inl rfl) hv
                  · replace hv := hv.2 h
                    refine bx_iconst C 1 102 dX6_readItem_101 ic_1 rfl ?_
                    refine bx_goto C 106 dX6_readItem_102 (by decide) ?_
                    exact bx_zret C u8 rfl dX6_readItem_106 rfl (Or.inr rfl) hv
              · replace hv := hv.2 h
                refine bx_aload_n C 81 dX6_readItem_80 rfl rfl rfl ?_
                refine bx_qVi C 0 at_X_0 rfl 84 fc_X6_74 (k_X6_readOut l E a _ _ hv) dX6_readItem_81 ⟨rfl, rfl, Nat.le_of_ble_eq_true rfl, Nat.le_of_ble_eq_true rfl⟩ [0, 1, 2, 3, 4, 5, 6, 7, 8, 9, 10, 11, 12, 13, 14] (fun u10 => w_X E a u10) ps_X_X_0 (by decide) ad_X pu_X_X_0 rfl rfl (Nat.le_of_ble_eq_true rfl) rfl (fun r9 u10 hv => ?_)
                exact bx_zret C u10 rfl dX6_readItem_84 rfl hv.1 hv.2
            · replace hv := hv.2 h
              refine bx_aload_n C 67 dX6_readItem_66 rfl rfl rfl ?_
              refine bx_qVi C 0 at_X_0 rfl 70 fc_X6_69 (k_X6_readSit l E a _ _ hv) dX6_readItem_67 ⟨rfl, rfl, Nat.le_of_ble_eq_true rfl, Nat.le_of_ble_eq_true rfl⟩ [0, 1, 2, 3, 4, 5, 6, 7, 8, 9, 10, 11, 12, 13, 14] (fun u12 => w_X E a u12) ps_X_X_0 (by decide) ad_X pu_X_X_0 rfl rfl (Nat.le_of_ble_eq_true rfl) rfl (fun r11 u12 hv => ?_)
              exact bx_zret C u12 rfl dX6_readItem_70 rfl hv.1 hv.2
          · replace hv := hv.2 h
            refine bx_aload_n C 53 dX6_readItem_52 rfl rfl rfl ?_
            refine bx_qVi C 0 at_X_0 rfl 56 fc_X6_64 (k_X6_readCoat l E a _ _ hv) dX6_readItem_53 ⟨rfl, rfl, Nat.le_of_ble_eq_true rfl, Nat.le_of_ble_eq_true rfl⟩ [0, 1, 2, 3, 4, 5, 6, 7, 8, 9, 10, 11, 12, 13, 14] (fun u14 => w_X E a u14) ps_X_X_0 (by decide) ad_X pu_X_X_0 rfl rfl (Nat.le_of_ble_eq_true rfl) rfl (fun r13 u14 hv => ?_)
            exact bx_zret C u14 rfl dX6_readItem_56 rfl hv.1 hv.2
        · replace hv := hv.2 h
          refine bx_aload_n C 39 dX6_readItem_38 rfl rfl rfl ?_
          refine bx_qVi C 0 at_X_0 rfl 42 fc_X6_59 (k_X6_readSoul l E a _ _ hv) dX6_readItem_39 ⟨rfl, rfl, Nat.le_of_ble_eq_true rfl, Nat.le_of_ble_eq_true rfl⟩ [0, 1, 2, 3, 4, 5, 6, 7, 8, 9, 10, 11, 12, 13, 14] (fun u16 => w_X E a u16) ps_X_X_0 (by decide) ad_X pu_X_X_0 rfl rfl (Nat.le_of_ble_eq_true rfl) rfl (fun r15 u16 hv => ?_)
          exact bx_zret C u16 rfl dX6_readItem_42 rfl hv.1 hv.2
      · replace hv := hv.2 h
        refine bx_aload_n C 25 dX6_readItem_24 rfl rfl rfl ?_
        refine bx_qVi C 0 at_X_0 rfl 28 fc_X6_54 (k_X6_readRowKinds l E a _ _ hv) dX6_readItem_25 ⟨rfl, rfl, Nat.le_of_ble_eq_true rfl, Nat.le_of_ble_eq_true rfl⟩ [0, 1, 2, 3, 4, 5, 6, 7, 8, 9, 10, 11, 12, 13, 14] (fun u18 => w_X E a u18) ps_X_X_0 (by decide) ad_X pu_X_X_0 rfl rfl (Nat.le_of_ble_eq_true rfl) rfl (fun r17 u18 hv => ?_)
        exact bx_zret C u18 rfl dX6_readItem_28 rfl hv.1 hv.2
    · replace hv := hv.2 h
      refine bx_iconst C 0 19 dX6_readItem_18 ic_0 rfl ?_
      exact bx_zret C u rfl dX6_readItem_19 rfl (Or.inl rfl) hv
theorem k_X6_readItem (l : Launch) (E : bx_E) (a : Nat → Nat)  (K : Int32 → XS → Prop) (u : XS) (x1 : Int32) (hv : V_X6_readItem  K u x1) : bx_Mi l E yX6_readItem cX6_readItem 2 (some .boolean) (rmD 5) [.ref (a 0), .int x1] (fun (u : XS) => w_X E a u) u K :=
  bx_meti (by decide +kernel) (Nat.le_of_ble_eq_true rfl) (fun p e S m below meth c C => t_X6_readItem_0 C u x1 hv)
abbrev G_X6_readAll (p : Program) (l : Launch) (e : Env) (S : State) (m : MethodId) (args : Array Value) (below : List Frame) (meth : Method) (c : Code) (E : bx_E) (A : Nat → Prop) (a : Nat → Nat)  (K : Int32 → XS → Prop) (pc : Nat) (lv : List (Nat × Value)) (st : List Value) (ws : va_W) : Prop := bx_S p l e (rmD 6) S m args below meth c 3 E A (MQ below (va_Qi K (fun (u : XS) t => bx_B E A (w_X E a u) t) A) args S 0 0 A) 0 0 pc lv st ws
def V_X6_readAll_51  (K : Int32 → XS → Prop) (B16 : XS → Int32 → Int32 → Prop) (u : XS) (x1 : Int32) (x2 : Int32) (z1 : Int32) : Prop := (V_X6_readItem (fun r1 u2 => ((r1 = 0 → K ((-10) - u2.2.2.2.2.1) u2) ∧
 (¬ r1 = 0 → (V_X6_readStop (fun r3 u4 => ((¬ r3 = 0 → B16 u4 (x1 + 1) (x2 + 1)) ∧
 (r3 = 0 → K ((-10) - u4.2.2.2.2.1) u4))) u2 )))) u z1)
set_option maxRecDepth 20000 in
set_option maxHeartbeats 4000000 in
theorem t_X6_readAll_51 {a : Nat → Nat} {K : Int32 → XS → Prop} (C : bx_C p (rmD 6) S m args meth c cX6_readAll 3 yX6_readAll.cls (some .int) E A 0 0)  (B16 : XS → Int32 → Int32 → Prop) (hB16 : ∀ (u : XS) (x1 : Int32) (x2 : Int32), B16 u x1 x2 → G_X6_readAll p l e S m args below meth c E A a  K 16 [(0, .ref (a 0)), (1, .int x1), (2, .int x2)] [] (w_X E a u)) (u : XS) (x1 : Int32) (x2 : Int32) (z1 : Int32) (hv : V_X6_readAll_51 K B16 u x1 x2 z1) : G_X6_readAll p l e S m args below meth c E A a  K 51 [(0, .ref (a 0)), (1, .int x1), (2, .int x2)] [.int z1, .ref (a 0)] (w_X E a u) := by
  unfold V_X6_readAll_51 at hv
  refine bx_qVi C 0 at_X_0 rfl 54 fc_X6_38 (k_X6_readItem l E a _ _ _ hv) dX6_readAll_51 ⟨rfl, rfl, Nat.le_of_ble_eq_true rfl, Nat.le_of_ble_eq_true rfl⟩ [0, 1, 2, 3, 4, 5, 6, 7, 8, 9, 10, 11, 12, 13, 14] (fun u2 => w_X E a u2) ps_X_X_0 (by decide) ad_X pu_X_X_0 rfl rfl (Nat.le_of_ble_eq_true rfl) rfl (fun r1 u2 hv => ?_)
  refine bx_if_eq C 64 57 dX6_readAll_54 (by decide) rfl (fun h => ?_) (fun h => ?_)
  · replace hv := hv.1 h
    refine bx_bipush C (-10) 66 dX6_readAll_64 bp_m10 rfl ?_
    refine bx_aload_n C 67 dX6_readAll_66 rfl rfl rfl ?_
    refine bx_getf (v := .int u2.2.2.2.2.1) C 70 0 4 inX6 rfl (by decide) fl_X6_46 dX6_readAll_67 at_X_0 rfl rfl ?_
    refine bx_isub C 71 dX6_readAll_70 rfl ?_
    exact bx_iret C u2 rfl dX6_readAll_71 rfl hv
  · replace hv := hv.2 h
    refine bx_aload_n C 58 dX6_readAll_57 rfl rfl rfl ?_
    refine bx_qVi C 0 at_X_0 rfl 61 fc_X6_42 (k_X6_readStop l E a _ _ hv) dX6_readAll_58 ⟨rfl, rfl, Nat.le_of_ble_eq_true rfl, Nat.le_of_ble_eq_true rfl⟩ [0, 1, 2, 3, 4, 5, 6, 7, 8, 9, 10, 11, 12, 13, 14] (fun u4 => w_X E a u4) ps_X_X_0 (by decide) ad_X pu_X_X_0 rfl rfl (Nat.le_of_ble_eq_true rfl) rfl (fun r3 u4 hv => ?_)
    refine bx_if_ne C 72 64 dX6_readAll_61 (by decide) rfl (fun h => ?_) (fun h => ?_)
    · replace hv := hv.1 h
      refine bx_iinc C 1 75 dX6_readAll_72 rfl (by decide) ic_1 rfl ?_
      refine bx_iinc C 1 78 dX6_readAll_75 rfl (by decide) ic_1 rfl ?_
      refine bx_goto C 16 dX6_readAll_78 (by decide) ?_
      exact bx_cut [2, 1, 0] (w_X E a u4) rfl rfl (hB16 u4 (x1 + 1) (x2 + 1) hv)
    · replace hv := hv.2 h
      refine bx_bipush C (-10) 66 dX6_readAll_64 bp_m10 rfl ?_
      refine bx_aload_n C 67 dX6_readAll_66 rfl rfl rfl ?_
      refine bx_getf (v := .int u4.2.2.2.2.1) C 70 0 4 inX6 rfl (by decide) fl_X6_46 dX6_readAll_67 at_X_0 rfl rfl ?_
      refine bx_isub C 71 dX6_readAll_70 rfl ?_
      exact bx_iret C u4 rfl dX6_readAll_71 rfl hv
def V_X6_readAll_41  (K : Int32 → XS → Prop) (B16 : XS → Int32 → Int32 → Prop) (u : XS) (x1 : Int32) (x2 : Int32) : Prop := ((¬ x1 = 0 → V_X6_readAll_51 K B16 u x1 x2 0) ∧
 (x1 = 0 → V_X6_readAll_51 K B16 u x1 x2 1))
set_option maxRecDepth 20000 in
set_option maxHeartbeats 4000000 in
theorem t_X6_readAll_41 {a : Nat → Nat} {K : Int32 → XS → Prop} (C : bx_C p (rmD 6) S m args meth c cX6_readAll 3 yX6_readAll.cls (some .int) E A 0 0)  (B16 : XS → Int32 → Int32 → Prop) (hB16 : ∀ (u : XS) (x1 : Int32) (x2 : Int32), B16 u x1 x2 → G_X6_readAll p l e S m args below meth c E A a  K 16 [(0, .ref (a 0)), (1, .int x1), (2, .int x2)] [] (w_X E a u)) (u : XS) (x1 : Int32) (x2 : Int32) (hv : V_X6_readAll_41 K B16 u x1 x2) : G_X6_readAll p l e S m args below meth c E A a  K 41 [(0, .ref (a 0)), (1, .int x1), (2, .int x2)] [] (w_X E a u) := by
  unfold V_X6_readAll_41 at hv
  refine bx_aload_n C 42 dX6_readAll_41 rfl rfl rfl ?_
  refine bx_iload_n C 43 dX6_readAll_42 rfl rfl rfl ?_
  refine bx_if_ne C 50 46 dX6_readAll_43 (by decide) rfl (fun h => ?_) (fun h => ?_)
  · replace hv := hv.1 h
    refine bx_iconst C 0 51 dX6_readAll_50 ic_0 rfl ?_
    exact bx_cut [0, 1, 2] (w_X E a u) rfl rfl (t_X6_readAll_51 C  _ hB16 u x1 x2 0 hv)
  · replace hv := hv.2 h
    refine bx_iconst C 1 47 dX6_readAll_46 ic_1 rfl ?_
    refine bx_goto C 51 dX6_readAll_47 (by decide) ?_
    exact bx_cut [0, 1, 2] (w_X E a u) rfl rfl (t_X6_readAll_51 C  _ hB16 u x1 x2 1 hv)
def V_X6_readAll_16  (K : Int32 → XS → Prop)  : Nat → XS → Int32 → Int32 → Prop
  | 0, _, _, _ => False
  | n + 1, u, x1, x2 => ((u.2.2.1 < x2 → K ((-10) - u.2.2.2.2.1) u) ∧
 (¬ u.2.2.1 < x2 → (V_X6_advance (fun u5 => ((¬ u5.2.2.2.1 = 0 → V_X6_readAll_41 K (fun v y0 y1 => V_X6_readAll_16 K n v y0 y1) u5 x1 x2) ∧
 (u5.2.2.2.1 = 0 → ((x1 ≤ 0 → V_X6_readAll_41 K (fun v y0 y1 => V_X6_readAll_16 K n v y0 y1) u5 x1 x2) ∧
 (¬ x1 ≤ 0 → K x1 u5))))) u )))
set_option maxRecDepth 20000 in
set_option maxHeartbeats 4000000 in
theorem t_X6_readAll_16 {a : Nat → Nat} {K : Int32 → XS → Prop} (C : bx_C p (rmD 6) S m args meth c cX6_readAll 3 yX6_readAll.cls (some .int) E A 0 0)   : ∀ (n : Nat) (u : XS) (x1 : Int32) (x2 : Int32), V_X6_readAll_16 K n u x1 x2 → G_X6_readAll p l e S m args below meth c E A a  K 16 [(0, .ref (a 0)), (1, .int x1), (2, .int x2)] [] (w_X E a u) := by
  intro n
  induction n with
  | zero =>
    intro u x1 x2 hv
    exact False.elim hv
  | succ n ih =>
    intro u x1 x2 hv
    unfold V_X6_readAll_16 at hv
    refine bx_iload_n C 17 dX6_readAll_16 rfl rfl rfl ?_
    refine bx_aload_n C 18 dX6_readAll_17 rfl rfl rfl ?_
    refine bx_getf (v := .int u.2.2.1) C 21 0 2 inX6 rfl (by decide) fl_X6_22 dX6_readAll_18 at_X_0 rfl rfl ?_
    refine bx_icmp_gt C 81 24 dX6_readAll_21 (by decide) rfl (fun h => ?_) (fun h => ?_)
    · replace hv := hv.1 h
      refine bx_bipush C (-10) 83 dX6_readAll_81 bp_m10 rfl ?_
      refine bx_aload_n C 84 dX6_readAll_83 rfl rfl rfl ?_
      refine bx_getf (v := .int u.2.2.2.2.1) C 87 0 4 inX6 rfl (by decide) fl_X6_46 dX6_readAll_84 at_X_0 rfl rfl ?_
      refine bx_isub C 88 dX6_readAll_87 rfl ?_
      exact bx_iret C u rfl dX6_readAll_88 rfl hv
    · replace hv := hv.2 h
      refine bx_aload_n C 25 dX6_readAll_24 rfl rfl rfl ?_
      refine bx_qVv C 0 at_X_0 rfl 28 fc_X6_32 (k_X6_advance l E a _ _ hv) dX6_readAll_25 ⟨rfl, rfl, Nat.le_of_ble_eq_true rfl, Nat.le_of_ble_eq_true rfl⟩ [0, 1, 2, 3, 4, 5, 6, 7, 8, 9, 10, 11, 12, 13, 14] (fun u5 => w_X E a u5) ps_X_X_0 (by decide) ad_X pu_X_X_0 rfl rfl (Nat.le_of_ble_eq_true rfl) rfl (fun u5 hv => ?_)
      refine bx_aload_n C 29 dX6_readAll_28 rfl rfl rfl ?_
      refine bx_getf (v := .int u5.2.2.2.1) C 32 0 3 inX6 rfl (by decide) fl_X6_35 dX6_readAll_29 at_X_0 rfl rfl ?_
      refine bx_if_ne C 41 35 dX6_readAll_32 (by decide) rfl (fun h => ?_) (fun h => ?_)
      · replace hv := hv.1 h
        exact bx_cut [0, 1, 2] (w_X E a u5) rfl rfl (t_X6_readAll_41 C  _ (fun v y0 y1 hv => ih v y0 y1 hv) u5 x1 x2 hv)
      · replace hv := hv.2 h
        refine bx_iload_n C 36 dX6_readAll_35 rfl rfl rfl ?_
        refine bx_if_le C 41 39 dX6_readAll_36 (by decide) rfl (fun h => ?_) (fun h => ?_)
        · replace hv := hv.1 h
          exact bx_cut [0, 1, 2] (w_X E a u5) rfl rfl (t_X6_readAll_41 C  _ (fun v y0 y1 hv => ih v y0 y1 hv) u5 x1 x2 hv)
        · replace hv := hv.2 h
          refine bx_iload_n C 40 dX6_readAll_39 rfl rfl rfl ?_
          exact bx_iret C u5 rfl dX6_readAll_40 rfl hv
def V_X6_readAll  (K : Int32 → XS → Prop)  (u : XS)  : Prop := (V_X0_reset (fun u6 => ∃ n7, V_X6_readAll_16 K n7 (u6, u.2.1, u.2.2.1, u.2.2.2.1, u.2.2.2.2.1, 0, u.2.2.2.2.2.2) 0 0) u.1 )
set_option maxRecDepth 20000 in
set_option maxHeartbeats 4000000 in
theorem t_X6_readAll_0 {a : Nat → Nat} {K : Int32 → XS → Prop} (C : bx_C p (rmD 6) S m args meth c cX6_readAll 3 yX6_readAll.cls (some .int) E A 0 0)   (u : XS)  (hv : V_X6_readAll K u ) : G_X6_readAll p l e S m args below meth c E A a  K 0 [(0, .ref (a 0))] [] (w_X E a u) := by
  unfold V_X6_readAll at hv
  refine bx_aload_n C 1 dX6_readAll_0 rfl rfl rfl ?_
  refine bx_getf (v := .ref (a 1)) C 4 0 0 inX6 rfl (by decide) fl_X6_12 dX6_readAll_1 at_X_0 rfl rfl ?_
  refine bx_qVv C 1 at_X_1 rfl 7 fc_X6_26 (k_X0_reset l E (fun k => a (1 + k)) _ _ hv) dX6_readAll_4 ⟨rfl, rfl, Nat.le_of_ble_eq_true rfl, Nat.le_of_ble_eq_true rfl⟩ [1, 2, 3, 4, 5, 6, 7, 8, 9, 10, 11, 12, 13] (fun u6 => w_X E a (u6, u.2)) ps_X_H_1 (by decide) ad_H pu_X_H_1 rfl rfl (Nat.le_of_ble_eq_true rfl) rfl (fun u6 hv => ?_)
  refine bx_aload_n C 8 dX6_readAll_7 rfl rfl rfl ?_
  refine bx_iconst C 0 9 dX6_readAll_8 ic_0 rfl ?_
  refine bx_putf C 12 0 5 (w_X E a (u6, u.2.1, u.2.2.1, u.2.2.2.1, u.2.2.2.2.1, 0, u.2.2.2.2.2.2)) inX6 tyX6 tyX6_ok nmX6 rfl (by decide) fl_X6_29 rfl dX6_readAll_9 rfl rfl rfl (Nat.le_of_ble_eq_true rfl) rfl rfl ?_
  refine bx_iconst C 0 13 dX6_readAll_12 ic_0 rfl ?_
  refine bx_istore_n C 14 dX6_readAll_13 rfl (by decide) rfl ?_
  refine bx_iconst C 0 15 dX6_readAll_14 ic_0 rfl ?_
  refine bx_istore_n C 16 dX6_readAll_15 rfl (by decide) rfl ?_
  obtain ⟨n7, hv⟩ := hv
  exact bx_cut [2, 1, 0] (w_X E a (u6, u.2.1, u.2.2.1, u.2.2.2.1, u.2.2.2.2.1, 0, u.2.2.2.2.2.2)) rfl rfl (t_X6_readAll_16 C   n7 (u6, u.2.1, u.2.2.1, u.2.2.2.1, u.2.2.2.2.1, 0, u.2.2.2.2.2.2) 0 0 hv)
theorem k_X6_readAll (l : Launch) (E : bx_E) (a : Nat → Nat)  (K : Int32 → XS → Prop) (u : XS)  (hv : V_X6_readAll  K u ) : bx_Mi l E yX6_readAll cX6_readAll 3 (some .int) (rmD 6) [.ref (a 0)] (fun (u : XS) => w_X E a u) u K :=
  bx_meti (by decide +kernel) (Nat.le_of_ble_eq_true rfl) (fun p e S m below meth c C => t_X6_readAll_0 C u  hv)
abbrev G_X7_read (p : Program) (l : Launch) (e : Env) (S : State) (m : MethodId) (args : Array Value) (below : List Frame) (meth : Method) (c : Code) (E : bx_E) (A : Nat → Prop) (a : Nat → Nat)  (K : Int32 → US → Prop) (pc : Nat) (lv : List (Nat × Value)) (st : List Value) (ws : va_W) : Prop := bx_S p l e (rmD 7) S m args below meth c 2 E A (MQ below (va_Qi K (fun (u : US) t => bx_B E A (w_U E a u) t) A) args S 0 0 A) 0 0 pc lv st ws
def V_X7_read  (K : Int32 → US → Prop)  (u : US)  : Prop := (V_X6_readAll (fun r1 u2 => ((r1 ≤ 0 → K r1 (u.1, u.2.1, u.2.2.1, u.2.2.2.1, u.2.2.2.2.1, u2, u.2.2.2.2.2.2)) ∧
 (¬ r1 ≤ 0 → (V_X0_takeFrom (fun u3 => K r1 (u3.1, u.2.1, u.2.2.1, u.2.2.2.1, u.2.2.2.2.1, (u3.2, u2.2), u.2.2.2.2.2.2)) (u.1, u2.1) )))) u.2.2.2.2.2.1 )
set_option maxRecDepth 20000 in
set_option maxHeartbeats 4000000 in
theorem t_X7_read_0 {a : Nat → Nat} {K : Int32 → US → Prop} (C : bx_C p (rmD 7) S m args meth c cX7_read 2 yX7_read.cls (some .int) E A 0 0)   (u : US)  (hv : V_X7_read K u ) : G_X7_read p l e S m args below meth c E A a  K 0 [(0, .ref (a 0))] [] (w_U E a u) := by
  unfold V_X7_read at hv
  refine bx_aload_n C 1 dX7_read_0 rfl rfl rfl ?_
  refine bx_getf (v := .ref (a 55)) C 4 0 4 inX7 rfl (by decide) fl_X7_30 dX7_read_1 at_U_0 rfl rfl ?_
  refine bx_qVi C 55 at_U_55 rfl 7 fc_X7_96 (k_X6_readAll l E (fun k => a (55 + k)) _ _ hv) dX7_read_4 ⟨rfl, rfl, Nat.le_of_ble_eq_true rfl, Nat.le_of_ble_eq_true rfl⟩ [55, 56, 57, 58, 59, 60, 61, 62, 63, 64, 65, 66, 67, 68, 69] (fun u2 => w_U E a (u.1, u.2.1, u.2.2.1, u.2.2.2.1, u.2.2.2.2.1, u2, u.2.2.2.2.2.2)) ps_U_X_55 (by decide) ad_X pu_U_X_55 rfl rfl (Nat.le_of_ble_eq_true rfl) rfl (fun r1 u2 hv => ?_)
  refine bx_istore_n C 8 dX7_read_7 rfl (by decide) rfl ?_
  refine bx_iload_n C 9 dX7_read_8 rfl rfl rfl ?_
  refine bx_if_le C 26 12 dX7_read_9 (by decide) rfl (fun h => ?_) (fun h => ?_)
  · replace hv := hv.1 h
    refine bx_iload_n C 27 dX7_read_26 rfl rfl rfl ?_
    exact bx_iret C (u.1, u.2.1, u.2.2.1, u.2.2.2.1, u.2.2.2.2.1, u2, u.2.2.2.2.2.2) rfl dX7_read_27 rfl hv
  · replace hv := hv.2 h
    refine bx_aload_n C 13 dX7_read_12 rfl rfl rfl ?_
    refine bx_getf (v := .ref (a 1)) C 16 0 0 inX7 rfl (by decide) fl_X7_10 dX7_read_13 at_U_0 rfl rfl ?_
    refine bx_aload_n C 17 dX7_read_16 rfl rfl rfl ?_
    refine bx_getf (v := .ref (a 55)) C 20 0 4 inX7 rfl (by decide) fl_X7_30 dX7_read_17 at_U_0 rfl rfl ?_
    refine bx_getf (v := .ref (a 56)) C 23 55 0 inX6 rfl (by decide) fl_X7_99 dX7_read_20 at_U_55 rfl rfl ?_
    refine bx_qVv C 1 at_U_1 rfl 26 fc_X7_102 (k_X0_takeFrom l E (fun k => a (1 + k)) (fun k => a (56 + k)) _ _ hv) dX7_read_23 ⟨rfl, rfl, Nat.le_of_ble_eq_true rfl, Nat.le_of_ble_eq_true rfl⟩ [1, 2, 3, 4, 5, 6, 7, 8, 9, 10, 11, 12, 13, 56, 57, 58, 59, 60, 61, 62, 63, 64, 65, 66, 67, 68] (fun u3 => w_U E a (u3.1, u.2.1, u.2.2.1, u.2.2.2.1, u.2.2.2.2.1, (u3.2, u2.2), u.2.2.2.2.2.2)) ps_U_HH_1_56 (by decide) ad_HH pu_U_HH_1_56 rfl rfl (Nat.le_of_ble_eq_true rfl) rfl (fun u3 hv => ?_)
    refine bx_iload_n C 27 dX7_read_26 rfl rfl rfl ?_
    exact bx_iret C (u3.1, u.2.1, u.2.2.1, u.2.2.2.1, u.2.2.2.2.1, (u3.2, u2.2), u.2.2.2.2.2.2) rfl dX7_read_27 rfl hv
theorem k_X7_read (l : Launch) (E : bx_E) (a : Nat → Nat)  (K : Int32 → US → Prop) (u : US)  (hv : V_X7_read  K u ) : bx_Mi l E yX7_read cX7_read 2 (some .int) (rmD 7) [.ref (a 0)] (fun (u : US) => w_U E a u) u K :=
  bx_meti (by decide +kernel) (Nat.le_of_ble_eq_true rfl) (fun p e S m below meth c C => t_X7_read_0 C u  hv)
end
