section BSTR
variable {p : Program} {l : Launch} {e : Env} {R : Room} {s : State} {m : MethodId} {args : Array Value} {below : List Frame} {meth : Method} {c : Code} {nL : Nat} {E : bx_E} {A : Nat → Prop} {Q : State → Prop} {ce sl : Nat} {b : ByteArray} {own : String} {ty : Option FieldType}
variable {pc : Nat} {lv : List (Nat × Value)} {rest : List Value} {ws : va_W}
theorem bx_gets (C : bx_C p R s m args meth c b nL own ty E A ce sl) {K nm ds : String} {v : Value} {i : Nat} (n : Nat) (hZ : va_Z K nm ds v A s s.heap) (hl : Cond.fieldLink own i K nm ds ∈ wsAll) (d : decode b pc = .ok (.getstatic i, 3)) (hn : pc + 3 = n) (k : bx_S p l e R s m args below meth c nL E A Q ce sl n lv (v :: rest) ws) : bx_S p l e R s m args below meth c nL E A Q ce sl pc lv rest ws := by
  subst hn
  exact fun H locs ls hP hD hS hlv => va_gets C.1 C.2.1 hZ hS C.2.2.2.1 (C.2.2.2.2.1 _ hl) (fun _ h => h) d (k H locs ls hP hD hS hlv)
theorem bx_sget (C : bx_C p R s m args meth c b nL own ty E A ce sl) {K nm ds : String} {v : Value} {i q : Nat} (n : Nat) (hE : va_OF K nm ds v q A s s.heap) (hl : Cond.fieldLink own i K nm ds ∈ wsAll) (d : decode b pc = .ok (.getfield i, 3)) (hn : pc + 3 = n) (k : bx_S p l e R s m args below meth c nL E A Q ce sl n lv (v :: rest) ws) : bx_S p l e R s m args below meth c nL E A Q ce sl pc lv (.ref q :: rest) ws := by
  subst hn
  exact fun H locs ls hP hD hS hlv => vk_getf C.1 C.2.1 hE hS C.2.2.2.1 (C.2.2.2.2.1 _ hl) (fun _ h => h) d (k H locs ls hP hD hS hlv)
theorem bx_slen (C : bx_C p R s m args meth c b nL own ty E A ce sl) {t N : Nat} {f : Nat → Value} (n : Nat) (hT : va_T .byte t N f A s s.heap) (d : decode b pc = .ok (.arraylength, 1)) (hn : pc + 1 = n) (k : bx_S p l e R s m args below meth c nL E A Q ce sl n lv (.int (Int32.ofNat N) :: rest) ws) : bx_S p l e R s m args below meth c nL E A Q ce sl pc lv (.ref t :: rest) ws := by
  subst hn
  exact fun H locs ls hP hD hS hlv => va_tlen C.1 C.2.1 hT hS rfl d (k H locs ls hP hD hS hlv)
theorem bx_sbald (C : bx_C p R s m args meth c b nL own ty E A ce sl) {t N : Nat} {f : Nat → Value} {i : Int32} (n : Nat) (hT : va_T .byte t N f A s s.heap) (d : decode b pc = .ok (.baload, 1)) (hi : vp_in i N) (hn : pc + 1 = n) (k : bx_S p l e R s m args below meth c nL E A Q ce sl n lv (f i.toNatClampNeg :: rest) ws) : bx_S p l e R s m args below meth c nL E A Q ce sl pc lv (.int i :: .ref t :: rest) ws := by
  subst hn
  exact fun H locs ls hP hD hS hlv => va_tb C.1 C.2.1 hT hS hi rfl d (k H locs ls hP hD hS hlv)
theorem bx_i2c (C : bx_C p R s m args meth c b nL own ty E A ce sl) {x : Int32} (n : Nat) (d : decode b pc = .ok (.i2c, 1)) (hn : pc + 1 = n) (k : bx_S p l e R s m args below meth c nL E A Q ce sl n lv (.int (x.toUInt32 % 65536).toInt32 :: rest) ws) : bx_S p l e R s m args below meth c nL E A Q ce sl pc lv (.int x :: rest) ws := by
  subst hn
  exact fun H locs ls hP hD hS hlv => lv_i2c C.1 C.2.1 d rfl (k H locs ls hP hD hS hlv)
theorem bx_nret (C : bx_C p R s m args meth c b nL own ty E A ce sl) {σ : Type} {K : Int32 → σ → Prop} {wf : σ → va_W} {v : Int32} {t : FieldType} (u : σ) (hty : ty = some t) (hn : narrow t (.int v) = .int v) (d : decode b pc = .ok (.ireturn, 1)) (hw : ws = wf u) (hk : K v u) : bx_S p l e R s m args below meth c nL E A (MQ below (va_Qi K (fun u t => bx_B E A (wf u) t) A) args s ce sl A) ce sl pc lv [.int v] ws := by
  subst hw
  exact fun H locs ls hP hD hS hlv => W.zret C.1 C.2.1 (C.2.2.2.2.2.2.2.1.trans hty) hn (fun t ht hW => ⟨⟨v, u, rfl, hk, by rw [ht]; exact hP, hD⟩, hS.F ht⟩) hS.2.2 d C.2.2.2.2.2.2.2.2.1
theorem bx_ldcS (C : bx_C p R s m args meth c b nL own ty E A ce sl) (j i : Nat) (n : Nat) (hj : j < 6) (hi : (bx_sx.getD j (0, "")).1 = i) (ho : own = "UsherRows$Text") (d : decode b pc = .ok (.ldc i, 2)) (hn : pc + 2 = n) (k : bx_S p l e R s m args below meth c nL E A Q ce sl n lv (.ref (E.2 (100 + j)) :: rest) ws) : bx_S p l e R s m args below meth c nL E A Q ce sl pc lv rest ws := by
  subst hn; subst hi; subst ho
  exact fun H locs ls hP hD hS hlv => va_ldcS C.1 C.2.1 C.2.2.2.1 (C.2.2.2.2.2.2.2.2.2.2.2.2.1 j hj) d (k H locs ls hP hD hS hlv)
theorem bx_aldS (C : bx_C p R s m args meth c b nL own ty E A ce sl) {z : Fin 4} {i x : Nat} (n : Nat) (d : decode b pc = .ok (.aload_n z, 1)) (hi : (z : Nat) = i) (hg : bx_get lv i = some (.ref x)) (hn : pc + 1 = n) (k : bx_S p l e R s m args below meth c nL E A Q ce sl n lv (.ref x :: rest) ws) : bx_S p l e R s m args below meth c nL E A Q ce sl pc lv rest ws := bx_aload_n C n d hi hg hn k
/-- a call on a string constant -/
theorem bx_pRi (C : bx_C p R s m args meth c b nL own ty E A ce sl) {y : MethodName} {cd : ByteArray} {nc ar i : Nat} {tyc : Option FieldType} {rm : Room} {K : Int32 → Prop} {As st : List Value} (j n : Nat) (hj : j < 6) (F : bx_FV own i "java/lang/String" y cd nc tyc ar) (hM : bx_Mi l E y cd nc tyc rm (.ref (E.2 (100 + j)) :: As) (fun (_ : Unit) => ([] : va_W)) () (fun r (_ : Unit) => K r)) (d : decode b pc = .ok (.invokevirtual i, 3)) (hR : rm.cells = 0 ∧ rm.slots = 0 ∧ rm.frames + 1 ≤ R.frames ∧ 8 + (nc + 11) + rm.locals ≤ R.locals) (hlen : As.length = ar) (hst : st = As.reverse ++ .ref (E.2 (100 + j)) :: rest) (hrest : (rest.map fun v => v.category).sum ≤ 8) (hn : pc + 3 = n) (kk : ∀ r : Int32, K r → bx_S p l e R s m args below meth c nL E A Q ce sl n lv (.int r :: rest) ws) : bx_S p l e R s m args below meth c nL E A Q ce sl pc lv st ws := by
  subst hn; subst hst
  intro H locs ls hP hD hS hl
  obtain ⟨hx, hb, hml, hown, hts, hK, hNe, hr, hlk, hA, hce, hstr⟩ := id C
  have hps : ([] : List Nat).map (fun i => ws[i]?) = ([] : va_W).map some := rfl
  have hFc := va_free (wc := ([] : va_W)) hD hS hA [] hps
  have hpre := bx_pre (As := .ref (E.2 (100 + j)) :: As) C hP hD hS hFc hps rfl rfl
  refine va_calli (va_runV ⟨hx, hb, hml, hown, hts⟩ (hM H.size) ⟨bx_cb C F.1 hR, hts _ F.2.1, hts _ F.2.2⟩ ⟨hpre.1, vk_recv hstr.1 hj hS, hpre.2⟩ rfl hlen hl.1 rfl (lv_room hrest) d hce) hS (fun q _ h => hFc q h) hFc (fun r u t H1 locs1 ht hvm hw hB hz hk hS1 => ?_)
  obtain ⟨hP1, hD1⟩ := hB
  rw [ht] at hP1
  have h2 := bx_put_ok hP hD hps rfl hk hP1
  exact kk r hw H1 locs1 ls h2.1 h2.2 hS1 hl
end BSTR
/-- the char of a string constant -/
def bx_ch (j : Nat) (i : Int32) : Int32 := (((bx_sb.getD j []).getD i.toNatClampNeg 0 &&& 255).toUInt32 % 65536).toInt32

theorem sf_9 : Cond.fieldLink RJ0 9 "java/lang/String" "value" "[B" ∈ wsAll := (wsAll_mem (List.mem_of_getElem? (i := 1348) (by decide +kernel)) (by decide +kernel))
theorem sf_15 : Cond.fieldLink RJ0 15 "java/lang/String" "coder" "B" ∈ wsAll := (wsAll_mem (List.mem_of_getElem? (i := 1349) (by decide +kernel)) (by decide +kernel))
theorem sf_38 : Cond.fieldLink RJ0 38 "java/lang/String" "COMPACT_STRINGS" "Z" ∈ wsAll := (wsAll_mem (List.mem_of_getElem? (i := 382) (by decide +kernel)) (by decide +kernel))
theorem sf_1053 : Cond.fieldLink RJ0 1053 "jdk/internal/util/Preconditions" "SIOOBE_FORMATTER" "Ljava/util/function/BiFunction;" ∈ wsAll := (wsAll_mem (List.mem_of_getElem? (i := 398) (by decide +kernel)) (by decide +kernel))
theorem fb_J0_coder_7d493 : bx_FB yJ0_coder_7d493 cJ0_coder_7d493 1 (some .byte) 0 := ⟨(wsAll_mem (List.mem_of_getElem? (i := 381) (by decide +kernel)) (by decide +kernel)), (wsAll_mem (List.mem_of_getElem? (i := 80) (by decide +kernel)) (by decide +kernel)), by decide +kernel, by decide +kernel, by decide +kernel⟩
theorem fc_J0_335 : bx_FV RJ0 335 RJ0 yJ0_coder_7d493 cJ0_coder_7d493 1 (some .byte) 0 := ⟨⟨fb_J0_coder_7d493, (wsAll_mem (List.mem_of_getElem? (i := 378) (by decide +kernel)) (by decide +kernel))⟩, (wsAll_mem (List.mem_of_getElem? (i := 379) (by decide +kernel)) (by decide +kernel)), (wsAll_mem (List.mem_of_getElem? (i := 380) (by decide +kernel)) (by decide +kernel))⟩
theorem fb_J0_isLatin1_aae02 : bx_FB yJ0_isLatin1_aae02 cJ0_isLatin1_aae02 1 (some .boolean) 0 := ⟨(wsAll_mem (List.mem_of_getElem? (i := 391) (by decide +kernel)) (by decide +kernel)), (wsAll_mem (List.mem_of_getElem? (i := 80) (by decide +kernel)) (by decide +kernel)), by decide +kernel, by decide +kernel, by decide +kernel⟩
theorem fc_J0_492 : bx_FV RJ0 492 RJ0 yJ0_isLatin1_aae02 cJ0_isLatin1_aae02 1 (some .boolean) 0 := ⟨⟨fb_J0_isLatin1_aae02, (wsAll_mem (List.mem_of_getElem? (i := 388) (by decide +kernel)) (by decide +kernel))⟩, (wsAll_mem (List.mem_of_getElem? (i := 389) (by decide +kernel)) (by decide +kernel)), (wsAll_mem (List.mem_of_getElem? (i := 390) (by decide +kernel)) (by decide +kernel))⟩
theorem fb_J1_charAt_3b067 : bx_FB yJ1_charAt_3b067 cJ1_charAt_3b067 2 (some .char) 2 := ⟨(wsAll_mem (List.mem_of_getElem? (i := 394) (by decide +kernel)) (by decide +kernel)), (wsAll_mem (List.mem_of_getElem? (i := 81) (by decide +kernel)) (by decide +kernel)), by decide +kernel, by decide +kernel, by decide +kernel⟩
theorem fc_J0_495 : bx_FS RJ0 495 yJ1_charAt_3b067 cJ1_charAt_3b067 2 (some .char) 2 := ⟨⟨fb_J1_charAt_3b067, (wsAll_mem (List.mem_of_getElem? (i := 392) (by decide +kernel)) (by decide +kernel))⟩, (wsAll_mem (List.mem_of_getElem? (i := 393) (by decide +kernel)) (by decide +kernel))⟩
theorem fb_J3_checkIndex_8e157 : bx_FB yJ3_checkIndex_8e157 cJ3_checkIndex_8e157 3 (some .int) 3 := ⟨(wsAll_mem (List.mem_of_getElem? (i := 402) (by decide +kernel)) (by decide +kernel)), (wsAll_mem (List.mem_of_getElem? (i := 82) (by decide +kernel)) (by decide +kernel)), by decide +kernel, by decide +kernel, by decide +kernel⟩
theorem fc_J0_1059 : bx_FS RJ0 1059 yJ3_checkIndex_8e157 cJ3_checkIndex_8e157 3 (some .int) 3 := ⟨⟨fb_J3_checkIndex_8e157, (wsAll_mem (List.mem_of_getElem? (i := 400) (by decide +kernel)) (by decide +kernel))⟩, (wsAll_mem (List.mem_of_getElem? (i := 401) (by decide +kernel)) (by decide +kernel))⟩
theorem fb_J0_checkIndex_df160 : bx_FB yJ0_checkIndex_df160 cJ0_checkIndex_df160 2 none 2 := ⟨(wsAll_mem (List.mem_of_getElem? (i := 397) (by decide +kernel)) (by decide +kernel)), (wsAll_mem (List.mem_of_getElem? (i := 80) (by decide +kernel)) (by decide +kernel)), by decide +kernel, by decide +kernel, by decide +kernel⟩
theorem fc_J1_9 : bx_FS RJ1 9 yJ0_checkIndex_df160 cJ0_checkIndex_df160 2 none 2 := ⟨⟨fb_J0_checkIndex_df160, (wsAll_mem (List.mem_of_getElem? (i := 395) (by decide +kernel)) (by decide +kernel))⟩, (wsAll_mem (List.mem_of_getElem? (i := 396) (by decide +kernel)) (by decide +kernel))⟩
theorem fb_J0_length_8abf5 : bx_FB yJ0_length_8abf5 cJ0_length_8abf5 1 (some .int) 0 := ⟨(wsAll_mem (List.mem_of_getElem? (i := 377) (by decide +kernel)) (by decide +kernel)), (wsAll_mem (List.mem_of_getElem? (i := 80) (by decide +kernel)) (by decide +kernel)), by decide +kernel, by decide +kernel, by decide +kernel⟩
theorem fc_X6_134 : bx_FV RX6 134 RJ0 yJ0_length_8abf5 cJ0_length_8abf5 1 (some .int) 0 := ⟨⟨fb_J0_length_8abf5, (wsAll_mem (List.mem_of_getElem? (i := 374) (by decide +kernel)) (by decide +kernel))⟩, (wsAll_mem (List.mem_of_getElem? (i := 375) (by decide +kernel)) (by decide +kernel)), (wsAll_mem (List.mem_of_getElem? (i := 376) (by decide +kernel)) (by decide +kernel))⟩
theorem fb_J0_charAt_5068e : bx_FB yJ0_charAt_5068e cJ0_charAt_5068e 2 (some .char) 1 := ⟨(wsAll_mem (List.mem_of_getElem? (i := 387) (by decide +kernel)) (by decide +kernel)), (wsAll_mem (List.mem_of_getElem? (i := 80) (by decide +kernel)) (by decide +kernel)), by decide +kernel, by decide +kernel, by decide +kernel⟩
theorem fc_X6_139 : bx_FV RX6 139 RJ0 yJ0_charAt_5068e cJ0_charAt_5068e 2 (some .char) 1 := ⟨⟨fb_J0_charAt_5068e, (wsAll_mem (List.mem_of_getElem? (i := 384) (by decide +kernel)) (by decide +kernel))⟩, (wsAll_mem (List.mem_of_getElem? (i := 385) (by decide +kernel)) (by decide +kernel)), (wsAll_mem (List.mem_of_getElem? (i := 386) (by decide +kernel)) (by decide +kernel))⟩
theorem sp_255 : (Int16.ofInt 255).toInt32 = 255 := by decide
set_option maxRecDepth 20000 in
theorem k_coder (l : Launch) (E : bx_E) (j : Nat) (hj : j < 6) : bx_Mi l E yJ0_coder_7d493 cJ0_coder_7d493 1 (some .byte) (rmD 0) [.ref (E.2 (100 + j))] (fun (_ : Unit) => ([] : va_W)) () (fun r (_ : Unit) => r = 0) := by
  refine bx_meti (by decide +kernel) (Nat.le_of_ble_eq_true rfl) (fun p e S m below meth c C => ?_)
  have hs := C.2.2.2.2.2.2.2.2.2.2.2
  refine bx_gets C 3 hs.2.2.1 sf_38 dJ0_coder_7d493_0 rfl ?_
  refine bx_if_eq C 13 6 dJ0_coder_7d493_3 (by decide) rfl (fun h => absurd h (by decide)) (fun _ => ?_)
  refine bx_aload_n C 7 dJ0_coder_7d493_6 rfl rfl rfl ?_
  refine bx_sget C 10 (hs.1.1 j hj).2.1 sf_15 dJ0_coder_7d493_7 rfl ?_
  refine bx_goto C 14 dJ0_coder_7d493_10 (by decide) ?_
  exact bx_nret C () rfl (by decide) dJ0_coder_7d493_14 rfl rfl
set_option maxRecDepth 20000 in
theorem k_isLatin1 (l : Launch) (E : bx_E) (j : Nat) (hj : j < 6) : bx_Mi l E yJ0_isLatin1_aae02 cJ0_isLatin1_aae02 1 (some .boolean) (rmD 0) [.ref (E.2 (100 + j))] (fun (_ : Unit) => ([] : va_W)) () (fun r (_ : Unit) => r = 1) := by
  refine bx_meti (by decide +kernel) (Nat.le_of_ble_eq_true rfl) (fun p e S m below meth c C => ?_)
  have hs := C.2.2.2.2.2.2.2.2.2.2.2
  refine bx_gets C 3 hs.2.2.1 sf_38 dJ0_isLatin1_aae02_0 rfl ?_
  refine bx_if_eq C 17 6 dJ0_isLatin1_aae02_3 (by decide) rfl (fun h => absurd h (by decide)) (fun _ => ?_)
  refine bx_aload_n C 7 dJ0_isLatin1_aae02_6 rfl rfl rfl ?_
  refine bx_sget C 10 (hs.1.1 j hj).2.1 sf_15 dJ0_isLatin1_aae02_7 rfl ?_
  refine bx_if_ne C 17 13 dJ0_isLatin1_aae02_10 (by decide) rfl (fun h => absurd rfl h) (fun _ => ?_)
  refine bx_iconst C 1 14 dJ0_isLatin1_aae02_13 ic_1 rfl ?_
  refine bx_goto C 18 dJ0_isLatin1_aae02_14 (by decide) ?_
  exact bx_nret C () rfl (by decide) dJ0_isLatin1_aae02_18 rfl rfl
set_option maxRecDepth 20000 in
theorem k_length (l : Launch) (E : bx_E) (j : Nat) (hj : j < 6) : bx_Mi l E yJ0_length_8abf5 cJ0_length_8abf5 1 (some .int) (rmD 1) [.ref (E.2 (100 + j))] (fun (_ : Unit) => ([] : va_W)) () (fun r (_ : Unit) => r = Int32.ofNat (bx_sl.getD j 0)) := by
  refine bx_meti (by decide +kernel) (Nat.le_of_ble_eq_true rfl) (fun p e S m below meth c C => ?_)
  have hs := C.2.2.2.2.2.2.2.2.2.2.2
  refine bx_aload_n C 1 dJ0_length_8abf5_0 rfl rfl rfl ?_
  refine bx_sget C 4 (hs.1.1 j hj).2.2.1 sf_9 dJ0_length_8abf5_1 rfl ?_
  refine bx_slen C 5 (hs.1.1 j hj).2.2.2 dJ0_length_8abf5_4 rfl ?_
  refine bx_aload_n C 6 dJ0_length_8abf5_5 rfl rfl rfl ?_
  refine bx_pRi C j 9 hj fc_J0_335 (k_coder l E j hj) dJ0_length_8abf5_6 ⟨rfl, rfl, Nat.le_of_ble_eq_true rfl, Nat.le_of_ble_eq_true rfl⟩ rfl rfl (Nat.le_of_ble_eq_true rfl) rfl (fun r hr => ?_)
  subst hr
  refine bx_ishr C 10 dJ0_length_8abf5_9 rfl ?_
  refine bx_iret C () rfl dJ0_length_8abf5_10 rfl ?_
  have h6 : ∀ j, j < 6 → Int32.ofNat (bx_sl.getD j 0) >>> ((0 : Int32) &&& 31) = Int32.ofNat (bx_sl.getD j 0) := by decide
  exact h6 j hj
set_option maxRecDepth 20000 in
theorem k_pcheck (l : Launch) (E : bx_E) (i n : Int32) (v : Value) (hv : v.category = 1) (h0 : ¬ i < 0) (h1 : i < n) : bx_Mi l E yJ3_checkIndex_8e157 cJ3_checkIndex_8e157 3 (some .int) (rmD 0) [.int i, .int n, v] (fun (_ : Unit) => ([] : va_W)) () (fun r (_ : Unit) => r = i) := by
  refine bx_meti (by decide +kernel) (by cases v <;> first | (exact Nat.le_of_ble_eq_true rfl) | (cases hv)) (fun p e S m below meth c C => ?_)
  refine bx_iload_n C 1 dJ3_checkIndex_8e157_0 rfl rfl rfl ?_
  refine bx_if_lt C 9 4 dJ3_checkIndex_8e157_1 (by decide) rfl (fun h => absurd h h0) (fun _ => ?_)
  refine bx_iload_n C 5 dJ3_checkIndex_8e157_4 rfl rfl rfl ?_
  refine bx_iload_n C 6 dJ3_checkIndex_8e157_5 rfl rfl rfl ?_
  refine bx_icmp_lt C 16 9 dJ3_checkIndex_8e157_6 (by decide) rfl (fun _ => ?_) (fun h => absurd h1 h)
  refine bx_iload_n C 17 dJ3_checkIndex_8e157_16 rfl rfl rfl ?_
  exact bx_iret C () rfl dJ3_checkIndex_8e157_17 rfl rfl
set_option maxRecDepth 20000 in
theorem k_scheck (l : Launch) (E : bx_E) (i n : Int32) (h0 : ¬ i < 0) (h1 : i < n) : bx_Mv l E yJ0_checkIndex_df160 cJ0_checkIndex_df160 2 none (rmD 1) [.int i, .int n] (fun (_ : Unit) => ([] : va_W)) () (fun (_ : Unit) => True) := by
  refine bx_metv (by decide +kernel) (Nat.le_of_ble_eq_true rfl) (fun p e S m below meth c C => ?_)
  have hs := C.2.2.2.2.2.2.2.2.2.2.2
  refine bx_iload_n C 1 dJ0_checkIndex_df160_0 rfl rfl rfl ?_
  refine bx_iload_n C 2 dJ0_checkIndex_df160_1 rfl rfl rfl ?_
  have key : ∀ v : Value, v.category = 1 → va_Z "jdk/internal/util/Preconditions" "SIOOBE_FORMATTER" "Ljava/util/function/BiFunction;" v (va_A ([] : va_W) S.heap.size) S S.heap → bx_S p l e (rmD 1) S m ([.int i, .int n] : List Value).toArray below meth c 2 E (va_A ([] : va_W) S.heap.size) (MQ below (va_Qv (fun (_ : Unit) => True) (fun (_ : Unit) t => bx_B E (va_A ([] : va_W) S.heap.size) ([] : va_W) t) (va_A ([] : va_W) S.heap.size)) ([.int i, .int n] : List Value).toArray S 0 0 (va_A ([] : va_W) S.heap.size)) 0 0 2 (lv_args 0 [.int i, .int n]) [.int n, .int i] ([] : va_W) := by
    intro v hv hZ
    refine bx_gets C 5 hZ sf_1053 dJ0_checkIndex_df160_2 rfl ?_
    refine bx_pSi C 8 fc_J0_1059 (k_pcheck l E i n v hv h0 h1) dJ0_checkIndex_df160_5 ⟨rfl, rfl, Nat.le_of_ble_eq_true rfl, Nat.le_of_ble_eq_true rfl⟩ [] rfl rfl rfl rfl (Nat.le_of_ble_eq_true rfl) rfl (fun r _ => ?_)
    refine bx_pop C 9 dJ0_checkIndex_df160_8 rfl rfl ?_
    exact bx_vret C () rfl dJ0_checkIndex_df160_9 rfl trivial
  rcases hs.2.2.2.1 with h | ⟨t, h⟩
  · exact key .null rfl h
  · exact key (.ref t) rfl h
set_option maxRecDepth 20000 in
theorem k_lcharAt (l : Launch) (E : bx_E) (j : Nat) (hj : j < 6) (i : Int32) (hi : vp_in i (bx_sl.getD j 0)) : bx_Mi l E yJ1_charAt_3b067 cJ1_charAt_3b067 2 (some .char) (rmD 2) [.ref (E.2 (200 + j)), .int i] (fun (_ : Unit) => ([] : va_W)) () (fun r (_ : Unit) => r = bx_ch j i) := by
  have h0 : ¬ i < 0 := fun h => hi (Or.inl h)
  have hl6 : ∀ j, j < 6 → bx_sl.getD j 0 < 8 := by decide
  have h1 : i < Int32.ofNat (bx_sl.getD j 0) := by
    obtain ⟨k, hk, rfl⟩ := vp_in_of hi (Nat.lt_trans (hl6 j hj) (by decide))
    exact nI_lt hk (Nat.lt_trans (hl6 j hj) (by decide))
  refine bx_meti (by decide +kernel) (Nat.le_of_ble_eq_true rfl) (fun p e S m below meth c C => ?_)
  have hs := C.2.2.2.2.2.2.2.2.2.2.2
  refine bx_iload_n C 1 dJ1_charAt_3b067_0 rfl rfl rfl ?_
  refine bx_aload_n C 2 dJ1_charAt_3b067_1 rfl rfl rfl ?_
  refine bx_slen C 3 (hs.1.1 j hj).2.2.2 dJ1_charAt_3b067_2 rfl ?_
  refine bx_qSv C 6 fc_J1_9 (k_scheck l E i _ h0 h1) dJ1_charAt_3b067_3 ⟨rfl, rfl, Nat.le_of_ble_eq_true rfl, Nat.le_of_ble_eq_true rfl⟩ [] (fun _ => ([] : va_W)) rfl rfl (fun _ => rfl) (fun _ => rfl) rfl rfl (Nat.le_of_ble_eq_true rfl) rfl (fun _ _ => ?_)
  refine bx_aload_n C 7 dJ1_charAt_3b067_6 rfl rfl rfl ?_
  refine bx_iload_n C 8 dJ1_charAt_3b067_7 rfl rfl rfl ?_
  refine bx_sbald C 9 (hs.1.1 j hj).2.2.2 dJ1_charAt_3b067_8 hi rfl ?_
  refine bx_sipush C 255 12 dJ1_charAt_3b067_9 sp_255 rfl ?_
  refine bx_iand C 13 dJ1_charAt_3b067_12 rfl ?_
  refine bx_i2c C 14 dJ1_charAt_3b067_13 rfl ?_
  exact bx_nret C () rfl (pk_nc _) dJ1_charAt_3b067_14 rfl rfl
set_option maxRecDepth 20000 in
theorem k_charAt (l : Launch) (E : bx_E) (j : Nat) (hj : j < 6) (i : Int32) (hi : vp_in i (bx_sl.getD j 0)) : bx_Mi l E yJ0_charAt_5068e cJ0_charAt_5068e 2 (some .char) (rmD 3) [.ref (E.2 (100 + j)), .int i] (fun (_ : Unit) => ([] : va_W)) () (fun r (_ : Unit) => r = bx_ch j i) := by
  refine bx_meti (by decide +kernel) (Nat.le_of_ble_eq_true rfl) (fun p e S m below meth c C => ?_)
  have hs := C.2.2.2.2.2.2.2.2.2.2.2
  refine bx_aload_n C 1 dJ0_charAt_5068e_0 rfl rfl rfl ?_
  refine bx_pRi C j 4 hj fc_J0_492 (k_isLatin1 l E j hj) dJ0_charAt_5068e_1 ⟨rfl, rfl, Nat.le_of_ble_eq_true rfl, Nat.le_of_ble_eq_true rfl⟩ rfl rfl (Nat.le_of_ble_eq_true rfl) rfl (fun r hr => ?_)
  subst hr
  refine bx_if_eq C 16 7 dJ0_charAt_5068e_4 (by decide) rfl (fun h => absurd h (by decide)) (fun _ => ?_)
  refine bx_aload_n C 8 dJ0_charAt_5068e_7 rfl rfl rfl ?_
  refine bx_sget C 11 (hs.1.1 j hj).2.2.1 sf_9 dJ0_charAt_5068e_8 rfl ?_
  refine bx_iload_n C 12 dJ0_charAt_5068e_11 rfl rfl rfl ?_
  refine bx_pSi C 15 fc_J0_495 (k_lcharAt l E j hj i hi) dJ0_charAt_5068e_12 ⟨rfl, rfl, Nat.le_of_ble_eq_true rfl, Nat.le_of_ble_eq_true rfl⟩ [] rfl rfl rfl rfl (Nat.le_of_ble_eq_true rfl) rfl (fun r hr => ?_)
  subst hr
  exact bx_nret C () rfl (pk_nc _) dJ0_charAt_5068e_15 rfl rfl
