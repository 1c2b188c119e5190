theorem cl_L_7 : Cond.classLink RL 7 RX7 ∈ wsAll := (wsAll_mem (List.mem_of_getElem? (i := 88) (by decide +kernel)) (by decide +kernel))
theorem cl_L_10 : Cond.classLink RL 10 RX8 ∈ wsAll := (wsAll_mem (List.mem_of_getElem? (i := 903) (by decide +kernel)) (by decide +kernel))
theorem is_X7 : Cond.instantiable RX7 12 ∈ wsAll := (wsAll_mem (List.mem_of_getElem? (i := 89) (by decide +kernel)) (by decide +kernel))
theorem is_X8 : Cond.instantiable RX8 16 ∈ wsAll := (wsAll_mem (List.mem_of_getElem? (i := 904) (by decide +kernel)) (by decide +kernel))
theorem ii_X7 : Cond.initialized RX7 ∈ wsAll := (wsAll_mem (List.mem_of_getElem? (i := 72) (by decide +kernel)) (by decide +kernel))
theorem ii_X8 : Cond.initialized RX8 ∈ wsAll := (wsAll_mem (List.mem_of_getElem? (i := 79) (by decide +kernel)) (by decide +kernel))
theorem fb_X7_init : bx_FB yX7_init cX7_init 1 none 0 := ⟨(wsAll_mem (List.mem_of_getElem? (i := 92) (by decide +kernel)) (by decide +kernel)), (wsAll_mem (List.mem_of_getElem? (i := 72) (by decide +kernel)) (by decide +kernel)), by decide +kernel, by decide +kernel, by decide +kernel⟩
theorem fi_L_9 : bx_FI RL 9 yX7_init cX7_init 1 0 := ⟨⟨fb_X7_init, (wsAll_mem (List.mem_of_getElem? (i := 90) (by decide +kernel)) (by decide +kernel))⟩, by decide +kernel, (wsAll_mem (List.mem_of_getElem? (i := 91) (by decide +kernel)) (by decide +kernel))⟩
theorem fb_X8_init : bx_FB yX8_init cX8_init 1 none 0 := ⟨(wsAll_mem (List.mem_of_getElem? (i := 907) (by decide +kernel)) (by decide +kernel)), (wsAll_mem (List.mem_of_getElem? (i := 79) (by decide +kernel)) (by decide +kernel)), by decide +kernel, by decide +kernel, by decide +kernel⟩
theorem fi_L_12 : bx_FI RL 12 yX8_init cX8_init 1 0 := ⟨⟨fb_X8_init, (wsAll_mem (List.mem_of_getElem? (i := 905) (by decide +kernel)) (by decide +kernel))⟩, by decide +kernel, (wsAll_mem (List.mem_of_getElem? (i := 906) (by decide +kernel)) (by decide +kernel))⟩
theorem fs_X7 : ∀ j, j < 12 → defaultValue (tyX7 j) = vp_V [.null, .null, .null, .null, .null, .null, .null, .long 0, .long 0, .int 0, .int 0, .int 0] j := by decide
theorem fs_X8 : ∀ j, j < 16 → defaultValue (tyX8 j) = vp_V [.null, .null, .null, .null, .long 0, .long 0, .null, .null, .int 0, .int 0, .int 0, .int 0, .int 0, .null, .null, .null] j := by decide
section LS
variable {p : Program} {l : Launch} {e : Env} {s : State} {m : MethodId} {below : List Frame} {meth : Method} {c : Code} {E : bx_E} {a b : Nat → Nat} {q0 L : Nat} {xs : Nat → Int32}
set_option maxRecDepth 20000 in
set_option maxHeartbeats 4000000 in
theorem law_loop (C : bx_C p room_1 s m #[Value.ref q0] meth c cL_law 4 RL ret E (fun q : Nat => s.heap.size ≤ q) 84 2186) (hX : va_X q0 L xs s s.heap) (hbl : q0 < s.heap.size) (hL : L ≤ 320) {Rel : US → MS → Prop} (hR : law_ok Rel) : ∀ (n k : Nat) (x3 : Int32) (u : US) (mm : MS), x3 = nI k → k ≤ L + 5 → L + 6 ≤ k + n → Rel u mm → bx_S p l e room_1 s m #[Value.ref q0] below meth c 4 E (fun q : Nat => s.heap.size ≤ q) (lw_Z below #[Value.ref q0] s) 84 2186 18 [(0, .ref q0), (1, .ref (a 0)), (2, .ref (b 0)), (3, .int x3)] [] (w_U E a u ++ w_M E b mm) := by
  have hbA : ¬ (fun q : Nat => s.heap.size ≤ q) q0 := Nat.not_le.mpr hbl
  intro n
  induction n with
  | zero =>
    intro k x3 u mm h1 h2 h3
    exact absurd h3 (by omega)
  | succ n ih =>
    intro k x3 u mm ex3 hk hin hrel
    refine bx_iload_n C 19 dL_law_18 rfl rfl rfl ?_
    refine bx_aload_n C 20 dL_law_19 rfl rfl rfl ?_
    refine bx_salen C 21 hX hbl hbA dL_law_20 rfl ?_
    refine bx_iconst C 5 22 dL_law_21 ic_5 rfl ?_
    refine bx_isub C 23 dL_law_22 rfl ?_
    refine bx_icmp_gt C 1269 26 dL_law_23 (by decide) rfl (fun hgt => ?_) (fun hle => ?_)
    · refine bx_iconst C 1 1270 dL_law_1269 ic_1 rfl ?_
      intro H locs ls hP hD hS hl
      refine va_forget (fun q hq => hS.2.2 q hq) ?_
      refine W.widen (k := 600000) (n := 7302250) (Nat.le_of_ble_eq_true rfl) (Nat.le_of_ble_eq_true rfl) ?_
      exact lw_ret C.1 C.2.1 C.2.2.2.2.2.2.2.1 C.2.2.2.2.2.2.2.2.1 dL_law_1270
    · have hk5 : k + 5 ≤ L := by
        have h1 : (nI L - 5).toInt = (L : Int) - 5 := pk_sub_toInt (a := L) (b := 5) (by omega) (by decide)
        have h2 : x3.toInt = (k : Int) := by rw [ex3]; exact nI_toInt (by omega)
        have h3 : x3 ≤ nI L - 5 := Int32.not_lt.mp hle
        have h4 := Int32.le_iff_toInt_le.mp h3
        omega
      have hi0 : vp_in x3 L := by rw [ex3]; exact vp_in_nI (by omega) (by omega)
      have hi1 : vp_in (x3 + 1) L := by rw [ex3]; exact (nI_add k 1).symm ▸ vp_in_nI (n := k + 1) (by omega) (by omega)
      have hi2 : vp_in (x3 + 2) L := by rw [ex3]; exact (nI_add k 2).symm ▸ vp_in_nI (n := k + 2) (by omega) (by omega)
      have hi3 : vp_in (x3 + 3) L := by rw [ex3]; exact (nI_add k 3).symm ▸ vp_in_nI (n := k + 3) (by omega) (by omega)
      have hi4 : vp_in (x3 + 4) L := by rw [ex3]; exact (nI_add k 4).symm ▸ vp_in_nI (n := k + 4) (by omega) (by omega)
      have next : ∀ (u : US) (mm : MS), Rel u mm → bx_S p l e room_1 s m #[Value.ref q0] below meth c 4 E (fun q : Nat => s.heap.size ≤ q) (lw_Z below #[Value.ref q0] s) 84 2186 1263 [(0, .ref q0), (1, .ref (a 0)), (2, .ref (b 0)), (3, .int x3)] [] (w_U E a u ++ w_M E b mm) := by
        intro u mm hr
        refine bx_iinc C 5 1266 dL_law_1263 rfl (by decide) ic_5 rfl ?_
        refine bx_goto C 18 dL_law_1266 (by decide) ?_
        exact bx_cut [1, 2, 3, 0] (w_U E a u ++ w_M E b mm) rfl rfl (ih (k + 5) (x3 + 5) u mm (by rw [ex3]; exact nI_add k 5) (by omega) (by omega) hr)
      refine bx_aload_n C 27 dL_law_26 rfl rfl rfl ?_
      refine bx_iload_n C 28 dL_law_27 rfl rfl rfl ?_
      refine bx_sld C 29 hX hbl hbA dL_law_28 hi0 rfl ?_
      refine bx_bipush C 63 31 dL_law_29 bp_63 rfl ?_
      refine bx_iand C 32 dL_law_31 rfl ?_
      generalize (xs x3.toNatClampNeg &&& 63) = z
      by_cases h0 : z = 0
      · refine bx_tin C 204 0 dL_law_32 h0 (by decide) (by decide) rfl (by decide) ?_
        exact lcase_0 C hX hbl hi1 hi2 hi3 hi4 (hR.1 u mm  hrel) next
      by_cases h1 : z = 1
      · refine bx_tin C 217 1 dL_law_32 h1 (by decide) (by decide) rfl (by decide) ?_
        exact lcase_1 C hX hbl hi1 hi2 hi3 hi4 (hR.2.1 u mm (xs (x3 + 1).toNatClampNeg) (xs (x3 + 2).toNatClampNeg) hrel) next
      by_cases h2 : z = 2
      · refine bx_tin C 250 2 dL_law_32 h2 (by decide) (by decide) rfl (by decide) ?_
        exact lcase_2 C hX hbl hi1 hi2 hi3 hi4 (hR.2.2.1 u mm (xs (x3 + 1).toNatClampNeg) (xs (x3 + 2).toNatClampNeg) hrel) next
      by_cases h3 : z = 3
      · refine bx_tin C 283 3 dL_law_32 h3 (by decide) (by decide) rfl (by decide) ?_
        exact lcase_3 C hX hbl hi1 hi2 hi3 hi4 (hR.2.2.2.1 u mm (xs (x3 + 1).toNatClampNeg) hrel) next
      by_cases h4 : z = 4
      · refine bx_tin C 306 4 dL_law_32 h4 (by decide) (by decide) rfl (by decide) ?_
        exact lcase_4 C hX hbl hi1 hi2 hi3 hi4 (hR.2.2.2.2.1 u mm  hrel) next
      by_cases h5 : z = 5
      · refine bx_tin C 319 5 dL_law_32 h5 (by decide) (by decide) rfl (by decide) ?_
        exact lcase_5 C hX hbl hi1 hi2 hi3 hi4 (hR.2.2.2.2.2.1 u mm  hrel) next
      by_cases h6 : z = 6
      · refine bx_tin C 332 6 dL_law_32 h6 (by decide) (by decide) rfl (by decide) ?_
        exact lcase_6 C hX hbl hi1 hi2 hi3 hi4 (hR.2.2.2.2.2.2.1 u mm (xs (x3 + 1).toNatClampNeg) (xs (x3 + 2).toNatClampNeg) hrel) next
      by_cases h7 : z = 7
      · refine bx_tin C 365 7 dL_law_32 h7 (by decide) (by decide) rfl (by decide) ?_
        exact lcase_7 C hX hbl hi1 hi2 hi3 hi4 (hR.2.2.2.2.2.2.2.1 u mm (xs (x3 + 1).toNatClampNeg) (xs (x3 + 2).toNatClampNeg) hrel) next
      by_cases h8 : z = 8
      · refine bx_tin C 398 8 dL_law_32 h8 (by decide) (by decide) rfl (by decide) ?_
        exact lcase_8 C hX hbl hi1 hi2 hi3 hi4 (hR.2.2.2.2.2.2.2.2.1 u mm (xs (x3 + 1).toNatClampNeg) hrel) next
      by_cases h9 : z = 9
      · refine bx_tin C 421 9 dL_law_32 h9 (by decide) (by decide) rfl (by decide) ?_
        exact lcase_9 C hX hbl hi1 hi2 hi3 hi4 (hR.2.2.2.2.2.2.2.2.2.1 u mm (xs (x3 + 1).toNatClampNeg) (xs (x3 + 2).toNatClampNeg) hrel) next
      by_cases h10 : z = 10
      · refine bx_tin C 454 10 dL_law_32 h10 (by decide) (by decide) rfl (by decide) ?_
        exact lcase_10 C hX hbl hi1 hi2 hi3 hi4 (hR.2.2.2.2.2.2.2.2.2.2.1 u mm (xs (x3 + 1).toNatClampNeg) hrel) next
      by_cases h11 : z = 11
      · refine bx_tin C 477 11 dL_law_32 h11 (by decide) (by decide) rfl (by decide) ?_
        exact lcase_11 C hX hbl hi1 hi2 hi3 hi4 (hR.2.2.2.2.2.2.2.2.2.2.2.1 u mm  hrel) next
      by_cases h12 : z = 12
      · refine bx_tin C 490 12 dL_law_32 h12 (by decide) (by decide) rfl (by decide) ?_
        exact lcase_12 C hX hbl hi1 hi2 hi3 hi4 (hR.2.2.2.2.2.2.2.2.2.2.2.2.1 u mm (xs (x3 + 1).toNatClampNeg) (xs (x3 + 2).toNatClampNeg) hrel) next
      by_cases h13 : z = 13
      · refine bx_tin C 523 13 dL_law_32 h13 (by decide) (by decide) rfl (by decide) ?_
        exact lcase_13 C hX hbl hi1 hi2 hi3 hi4 (hR.2.2.2.2.2.2.2.2.2.2.2.2.2.1 u mm (xs (x3 + 1).toNatClampNeg) (xs (x3 + 2).toNatClampNeg) hrel) next
      by_cases h14 : z = 14
      · refine bx_tin C 556 14 dL_law_32 h14 (by decide) (by decide) rfl (by decide) ?_
        exact lcase_14 C hX hbl hi1 hi2 hi3 hi4 (hR.2.2.2.2.2.2.2.2.2.2.2.2.2.2.1 u mm (xs (x3 + 1).toNatClampNeg) (xs (x3 + 2).toNatClampNeg) hrel) next
      by_cases h15 : z = 15
      · refine bx_tin C 589 15 dL_law_32 h15 (by decide) (by decide) rfl (by decide) ?_
        exact lcase_15 C hX hbl hi1 hi2 hi3 hi4 (hR.2.2.2.2.2.2.2.2.2.2.2.2.2.2.2.1 u mm (xs (x3 + 1).toNatClampNeg) hrel) next
      by_cases h16 : z = 16
      · refine bx_tin C 612 16 dL_law_32 h16 (by decide) (by decide) rfl (by decide) ?_
        exact lcase_16 C hX hbl hi1 hi2 hi3 hi4 (hR.2.2.2.2.2.2.2.2.2.2.2.2.2.2.2.2.1 u mm (xs (x3 + 1).toNatClampNeg) (xs (x3 + 2).toNatClampNeg) hrel) next
      by_cases h17 : z = 17
      · refine bx_tin C 645 17 dL_law_32 h17 (by decide) (by decide) rfl (by decide) ?_
        exact lcase_17 C hX hbl hi1 hi2 hi3 hi4 (hR.2.2.2.2.2.2.2.2.2.2.2.2.2.2.2.2.2.1 u mm (xs (x3 + 1).toNatClampNeg) (xs (x3 + 2).toNatClampNeg) (xs (x3 + 3).toNatClampNeg) hrel) next
      by_cases h18 : z = 18
      · refine bx_tin C 688 18 dL_law_32 h18 (by decide) (by decide) rfl (by decide) ?_
        exact lcase_18 C hX hbl hi1 hi2 hi3 hi4 (hR.2.2.2.2.2.2.2.2.2.2.2.2.2.2.2.2.2.2.1 u mm  hrel) next
      by_cases h19 : z = 19
      · refine bx_tin C 701 19 dL_law_32 h19 (by decide) (by decide) rfl (by decide) ?_
        exact lcase_19 C hX hbl hi1 hi2 hi3 hi4 (hR.2.2.2.2.2.2.2.2.2.2.2.2.2.2.2.2.2.2.2.1 u mm  hrel) next
      by_cases h20 : z = 20
      · refine bx_tin C 714 20 dL_law_32 h20 (by decide) (by decide) rfl (by decide) ?_
        exact lcase_20 C hX hbl hi1 hi2 hi3 hi4 (hR.2.2.2.2.2.2.2.2.2.2.2.2.2.2.2.2.2.2.2.2.1 u mm (xs (x3 + 1).toNatClampNeg) (xs (x3 + 2).toNatClampNeg) (xs (x3 + 3).toNatClampNeg) hrel) next
      by_cases h21 : z = 21
      · refine bx_tin C 757 21 dL_law_32 h21 (by decide) (by decide) rfl (by decide) ?_
        exact lcase_21 C hX hbl hi1 hi2 hi3 hi4 (hR.2.2.2.2.2.2.2.2.2.2.2.2.2.2.2.2.2.2.2.2.2.1 u mm (xs (x3 + 1).toNatClampNeg) (xs (x3 + 2).toNatClampNeg) hrel) next
      by_cases h22 : z = 22
      · refine bx_tin C 790 22 dL_law_32 h22 (by decide) (by decide) rfl (by decide) ?_
        exact lcase_22 C hX hbl hi1 hi2 hi3 hi4 (hR.2.2.2.2.2.2.2.2.2.2.2.2.2.2.2.2.2.2.2.2.2.2.1 u mm (xs (x3 + 1).toNatClampNeg) hrel) next
      by_cases h23 : z = 23
      · refine bx_tin C 813 23 dL_law_32 h23 (by decide) (by decide) rfl (by decide) ?_
        exact lcase_23 C hX hbl hi1 hi2 hi3 hi4 (hR.2.2.2.2.2.2.2.2.2.2.2.2.2.2.2.2.2.2.2.2.2.2.2.1 u mm (xs (x3 + 1).toNatClampNeg) (xs (x3 + 2).toNatClampNeg) (xs (x3 + 3).toNatClampNeg) hrel) next
      by_cases h24 : z = 24
      · refine bx_tin C 856 24 dL_law_32 h24 (by decide) (by decide) rfl (by decide) ?_
        exact lcase_24 C hX hbl hi1 hi2 hi3 hi4 (hR.2.2.2.2.2.2.2.2.2.2.2.2.2.2.2.2.2.2.2.2.2.2.2.2.1 u mm (xs (x3 + 1).toNatClampNeg) (xs (x3 + 2).toNatClampNeg) (xs (x3 + 3).toNatClampNeg) (xs (x3 + 4).toNatClampNeg) hrel) next
      by_cases h25 : z = 25
      · refine bx_tin C 909 25 dL_law_32 h25 (by decide) (by decide) rfl (by decide) ?_
        exact lcase_25 C hX hbl hi1 hi2 hi3 hi4 (hR.2.2.2.2.2.2.2.2.2.2.2.2.2.2.2.2.2.2.2.2.2.2.2.2.2.1 u mm (xs (x3 + 1).toNatClampNeg) hrel) next
      by_cases h26 : z = 26
      · refine bx_tin C 932 26 dL_law_32 h26 (by decide) (by decide) rfl (by decide) ?_
        exact lcase_26 C hX hbl hi1 hi2 hi3 hi4 (hR.2.2.2.2.2.2.2.2.2.2.2.2.2.2.2.2.2.2.2.2.2.2.2.2.2.2.1 u mm (xs (x3 + 1).toNatClampNeg) hrel) next
      by_cases h27 : z = 27
      · refine bx_tin C 955 27 dL_law_32 h27 (by decide) (by decide) rfl (by decide) ?_
        exact lcase_27 C hX hbl hi1 hi2 hi3 hi4 (hR.2.2.2.2.2.2.2.2.2.2.2.2.2.2.2.2.2.2.2.2.2.2.2.2.2.2.2.1 u mm (xs (x3 + 1).toNatClampNeg) hrel) next
      by_cases h28 : z = 28
      · refine bx_tin C 978 28 dL_law_32 h28 (by decide) (by decide) rfl (by decide) ?_
        exact lcase_28 C hX hbl hi1 hi2 hi3 hi4 (hR.2.2.2.2.2.2.2.2.2.2.2.2.2.2.2.2.2.2.2.2.2.2.2.2.2.2.2.2.1 u mm (xs (x3 + 1).toNatClampNeg) hrel) next
      by_cases h29 : z = 29
      · refine bx_tin C 1001 29 dL_law_32 h29 (by decide) (by decide) rfl (by decide) ?_
        exact lcase_29 C hX hbl hi1 hi2 hi3 hi4 (hR.2.2.2.2.2.2.2.2.2.2.2.2.2.2.2.2.2.2.2.2.2.2.2.2.2.2.2.2.2.1 u mm (xs (x3 + 1).toNatClampNeg) hrel) next
      by_cases h30 : z = 30
      · refine bx_tin C 1024 30 dL_law_32 h30 (by decide) (by decide) rfl (by decide) ?_
        exact lcase_30 C hX hbl hi1 hi2 hi3 hi4 (hR.2.2.2.2.2.2.2.2.2.2.2.2.2.2.2.2.2.2.2.2.2.2.2.2.2.2.2.2.2.2.1 u mm (xs (x3 + 1).toNatClampNeg) (xs (x3 + 2).toNatClampNeg) (xs (x3 + 3).toNatClampNeg) hrel) next
      by_cases h31 : z = 31
      · refine bx_tin C 1067 31 dL_law_32 h31 (by decide) (by decide) rfl (by decide) ?_
        exact lcase_31 C hX hbl hi1 hi2 hi3 hi4 (hR.2.2.2.2.2.2.2.2.2.2.2.2.2.2.2.2.2.2.2.2.2.2.2.2.2.2.2.2.2.2.2.1 u mm (xs (x3 + 1).toNatClampNeg) (xs (x3 + 2).toNatClampNeg) hrel) next
      by_cases h32 : z = 32
      · refine bx_tin C 1100 32 dL_law_32 h32 (by decide) (by decide) rfl (by decide) ?_
        exact lcase_32 C hX hbl hi1 hi2 hi3 hi4 (hR.2.2.2.2.2.2.2.2.2.2.2.2.2.2.2.2.2.2.2.2.2.2.2.2.2.2.2.2.2.2.2.2.1 u mm (xs (x3 + 1).toNatClampNeg) (xs (x3 + 2).toNatClampNeg) hrel) next
      by_cases h33 : z = 33
      · refine bx_tin C 1133 33 dL_law_32 h33 (by decide) (by decide) rfl (by decide) ?_
        exact lcase_33 C hX hbl hi1 hi2 hi3 hi4 (hR.2.2.2.2.2.2.2.2.2.2.2.2.2.2.2.2.2.2.2.2.2.2.2.2.2.2.2.2.2.2.2.2.2.1 u mm (xs (x3 + 1).toNatClampNeg) hrel) next
      by_cases h34 : z = 34
      · refine bx_tin C 1157 34 dL_law_32 h34 (by decide) (by decide) rfl (by decide) ?_
        exact lcase_34 C hX hbl hi1 hi2 hi3 hi4 (hR.2.2.2.2.2.2.2.2.2.2.2.2.2.2.2.2.2.2.2.2.2.2.2.2.2.2.2.2.2.2.2.2.2.2.1 u mm (xs (x3 + 1).toNatClampNeg) hrel) next
      by_cases h35 : z = 35
      · refine bx_tin C 1180 35 dL_law_32 h35 (by decide) (by decide) rfl (by decide) ?_
        exact lcase_35 C hX hbl hi1 hi2 hi3 hi4 (hR.2.2.2.2.2.2.2.2.2.2.2.2.2.2.2.2.2.2.2.2.2.2.2.2.2.2.2.2.2.2.2.2.2.2.2.1 u mm (xs (x3 + 1).toNatClampNeg) hrel) next
      by_cases h36 : z = 36
      · refine bx_tin C 1203 36 dL_law_32 h36 (by decide) (by decide) rfl (by decide) ?_
        exact lcase_36 C hX hbl hi1 hi2 hi3 hi4 (hR.2.2.2.2.2.2.2.2.2.2.2.2.2.2.2.2.2.2.2.2.2.2.2.2.2.2.2.2.2.2.2.2.2.2.2.2.1 u mm (xs (x3 + 1).toNatClampNeg) hrel) next
      by_cases h37 : z = 37
      · refine bx_tin C 1226 37 dL_law_32 h37 (by decide) (by decide) rfl (by decide) ?_
        exact lcase_37 C hX hbl hi1 hi2 hi3 hi4 (hR.2.2.2.2.2.2.2.2.2.2.2.2.2.2.2.2.2.2.2.2.2.2.2.2.2.2.2.2.2.2.2.2.2.2.2.2.2.1 u mm (xs (x3 + 1).toNatClampNeg) hrel) next
      by_cases h38 : z = 38
      · refine bx_tin C 1249 38 dL_law_32 h38 (by decide) (by decide) rfl (by decide) ?_
        exact lcase_38 C hX hbl hi1 hi2 hi3 hi4 (hR.2.2.2.2.2.2.2.2.2.2.2.2.2.2.2.2.2.2.2.2.2.2.2.2.2.2.2.2.2.2.2.2.2.2.2.2.2.2 u mm  hrel) next
      have ho : z.toInt < 0 ∨ 38 < z.toInt := by
        have e0 := bx_ne (z := 0) h0 (by decide)
        have e1 := bx_ne (z := 1) h1 (by decide)
        have e2 := bx_ne (z := 2) h2 (by decide)
        have e3 := bx_ne (z := 3) h3 (by decide)
        have e4 := bx_ne (z := 4) h4 (by decide)
        have e5 := bx_ne (z := 5) h5 (by decide)
        have e6 := bx_ne (z := 6) h6 (by decide)
        have e7 := bx_ne (z := 7) h7 (by decide)
        have e8 := bx_ne (z := 8) h8 (by decide)
        have e9 := bx_ne (z := 9) h9 (by decide)
        have e10 := bx_ne (z := 10) h10 (by decide)
        have e11 := bx_ne (z := 11) h11 (by decide)
        have e12 := bx_ne (z := 12) h12 (by decide)
        have e13 := bx_ne (z := 13) h13 (by decide)
        have e14 := bx_ne (z := 14) h14 (by decide)
        have e15 := bx_ne (z := 15) h15 (by decide)
        have e16 := bx_ne (z := 16) h16 (by decide)
        have e17 := bx_ne (z := 17) h17 (by decide)
        have e18 := bx_ne (z := 18) h18 (by decide)
        have e19 := bx_ne (z := 19) h19 (by decide)
        have e20 := bx_ne (z := 20) h20 (by decide)
        have e21 := bx_ne (z := 21) h21 (by decide)
        have e22 := bx_ne (z := 22) h22 (by decide)
        have e23 := bx_ne (z := 23) h23 (by decide)
        have e24 := bx_ne (z := 24) h24 (by decide)
        have e25 := bx_ne (z := 25) h25 (by decide)
        have e26 := bx_ne (z := 26) h26 (by decide)
        have e27 := bx_ne (z := 27) h27 (by decide)
        have e28 := bx_ne (z := 28) h28 (by decide)
        have e29 := bx_ne (z := 29) h29 (by decide)
        have e30 := bx_ne (z := 30) h30 (by decide)
        have e31 := bx_ne (z := 31) h31 (by decide)
        have e32 := bx_ne (z := 32) h32 (by decide)
        have e33 := bx_ne (z := 33) h33 (by decide)
        have e34 := bx_ne (z := 34) h34 (by decide)
        have e35 := bx_ne (z := 35) h35 (by decide)
        have e36 := bx_ne (z := 36) h36 (by decide)
        have e37 := bx_ne (z := 37) h37 (by decide)
        have e38 := bx_ne (z := 38) h38 (by decide)
        omega
      refine bx_tout C 1263 dL_law_32 ho (by decide) ?_
      exact next u mm hrel
end LS
/-- what stands outside, at the law's entry -/
theorem lw_str {s : State} {b : Nat} (hts : ∀ w ∈ lw_tbl, w.before #[Value.ref b] s = true) (hgv : (Jvm.Cond.and given_1 narrow_1).before #[Value.ref b] s = true) : ∃ adK adV : Nat → Nat, vk_S 6 bx_sl bx_sb adK adV (fun q : Nat => s.heap.size ≤ q) s s.heap ∧ (∀ i : Nat, i < 6 → vk_R "UsherRows$Text" (bx_sx.getD i (0, "")).1 (bx_sx.getD i (0, "")).2 (adK i) s) ∧ va_Z "java/lang/String" "COMPACT_STRINGS" "Z" (.int 1) (fun q : Nat => s.heap.size ≤ q) s s.heap ∧ va_Zq "jdk/internal/util/Preconditions" "SIOOBE_FORMATTER" "Ljava/util/function/BiFunction;" (fun q : Nat => s.heap.size ≤ q) s s.heap ∧ va_AO "UsherRows$Hall" s := by
  have hg := flat_of_before _ hgv
  have hA : ∀ a : Nat, a < s.heap.size → ¬ (fun q : Nat => s.heap.size ≤ q) a := fun a h => Nat.not_le.mpr h
  have hN : ∀ i : Nat, i < 6 → bx_sl.getD i 0 < 2 ^ 31 := by decide
  have hex : ∀ i : Nat, i < 6 → (Cond.exactly ((fun i => Term.string "UsherRows$Text" (bx_sx.getD i (0, "")).1) i) "java/lang/String").before #[Value.ref b] s = true := fun i hi => match i, hi with
    | 0, _ => hg _ (by decide +kernel)
    | 1, _ => hg _ (by decide +kernel)
    | 2, _ => hg _ (by decide +kernel)
    | 3, _ => hg _ (by decide +kernel)
    | 4, _ => hg _ (by decide +kernel)
    | 5, _ => hg _ (by decide +kernel)
    | i + 6, h => absurd h (by omega)
  have hco : ∀ i : Nat, i < 6 → (Cond.eq (.field ((fun i => Term.string "UsherRows$Text" (bx_sx.getD i (0, "")).1) i) "java/lang/String" "coder" "B") (.int 0)).before #[Value.ref b] s = true := fun i hi => match i, hi with
    | 0, _ => hg _ (by decide +kernel)
    | 1, _ => hg _ (by decide +kernel)
    | 2, _ => hg _ (by decide +kernel)
    | 3, _ => hg _ (by decide +kernel)
    | 4, _ => hg _ (by decide +kernel)
    | 5, _ => hg _ (by decide +kernel)
    | i + 6, h => absurd h (by omega)
  have har : ∀ i : Nat, i < 6 → (Cond.arrayOf (.field ((fun i => Term.string "UsherRows$Text" (bx_sx.getD i (0, "")).1) i) "java/lang/String" "value" "[B") .byte).before #[Value.ref b] s = true := fun i hi => match i, hi with
    | 0, _ => hg _ (by decide +kernel)
    | 1, _ => hg _ (by decide +kernel)
    | 2, _ => hg _ (by decide +kernel)
    | 3, _ => hg _ (by decide +kernel)
    | 4, _ => hg _ (by decide +kernel)
    | 5, _ => hg _ (by decide +kernel)
    | i + 6, h => absurd h (by omega)
  have hle : ∀ i : Nat, i < 6 → (Cond.eq (.length (.field ((fun i => Term.string "UsherRows$Text" (bx_sx.getD i (0, "")).1) i) "java/lang/String" "value" "[B")) (.int (Int32.ofNat (bx_sl.getD i 0)))).before #[Value.ref b] s = true := fun i hi => match i, hi with
    | 0, _ => hg _ (by decide +kernel)
    | 1, _ => hg _ (by decide +kernel)
    | 2, _ => hg _ (by decide +kernel)
    | 3, _ => hg _ (by decide +kernel)
    | 4, _ => hg _ (by decide +kernel)
    | 5, _ => hg _ (by decide +kernel)
    | i + 6, h => absurd h (by omega)
  have hel : ∀ i : Nat, i < 6 → ∀ j : Nat, j < bx_sl.getD i 0 → (Cond.eq (.elem (.field ((fun i => Term.string "UsherRows$Text" (bx_sx.getD i (0, "")).1) i) "java/lang/String" "value" "[B") (.int (Int32.ofNat j))) (.int ((bx_sb.getD i []).getD j 0))).before #[Value.ref b] s = true := fun i hi j hj => match i, hi with
    | 0, _ => match j, hj with
      | 0, _ => hg _ (by decide +kernel)
      | 1, _ => hg _ (by decide +kernel)
      | 2, _ => hg _ (by decide +kernel)
      | 3, _ => hg _ (by decide +kernel)
      | j + 4, h => absurd h (by show ¬ j + 4 < 4; omega)
    | 1, _ => match j, hj with
      | 0, _ => hg _ (by decide +kernel)
      | 1, _ => hg _ (by decide +kernel)
      | 2, _ => hg _ (by decide +kernel)
      | 3, _ => hg _ (by decide +kernel)
      | j + 4, h => absurd h (by show ¬ j + 4 < 4; omega)
    | 2, _ => match j, hj with
      | 0, _ => hg _ (by decide +kernel)
      | 1, _ => hg _ (by decide +kernel)
      | 2, _ => hg _ (by decide +kernel)
      | 3, _ => hg _ (by decide +kernel)
      | j + 4, h => absurd h (by show ¬ j + 4 < 4; omega)
    | 3, _ => match j, hj with
      | 0, _ => hg _ (by decide +kernel)
      | 1, _ => hg _ (by decide +kernel)
      | 2, _ => hg _ (by decide +kernel)
      | j + 3, h => absurd h (by show ¬ j + 3 < 3; omega)
    | 4, _ => match j, hj with
      | 0, _ => hg _ (by decide +kernel)
      | 1, _ => hg _ (by decide +kernel)
      | 2, _ => hg _ (by decide +kernel)
      | j + 3, h => absurd h (by show ¬ j + 3 < 3; omega)
    | 5, _ => match j, hj with
      | 0, _ => hg _ (by decide +kernel)
      | 1, _ => hg _ (by decide +kernel)
      | 2, _ => hg _ (by decide +kernel)
      | 3, _ => hg _ (by decide +kernel)
      | 4, _ => hg _ (by decide +kernel)
      | 5, _ => hg _ (by decide +kernel)
      | 6, _ => hg _ (by decide +kernel)
      | j + 7, h => absurd h (by show ¬ j + 7 < 7; omega)
    | i + 6, h => absurd h (by omega)
  have pp : ∀ t1 t2 : Term, (Cond.not (Cond.eq t1 t2) ∈ flatC (Jvm.Cond.and given_1 narrow_1) ∨ Cond.not (Cond.eq t2 t1) ∈ flatC (Jvm.Cond.and given_1 narrow_1)) → ((Cond.not (Cond.eq t1 t2)).before #[Value.ref b] s = true ∨ (Cond.not (Cond.eq t2 t1)).before #[Value.ref b] s = true) := fun t1 t2 h => h.elim (fun h => Or.inl (hg _ h)) (fun h => Or.inr (hg _ h))
  have hne : ∀ i j : Nat, i < 6 → j < 6 → i ≠ j → (Cond.not (Cond.eq ((fun i => Term.string "UsherRows$Text" (bx_sx.getD i (0, "")).1) i) ((fun i => Term.string "UsherRows$Text" (bx_sx.getD i (0, "")).1) j))).before #[Value.ref b] s = true ∨ (Cond.not (Cond.eq ((fun i => Term.string "UsherRows$Text" (bx_sx.getD i (0, "")).1) j) ((fun i => Term.string "UsherRows$Text" (bx_sx.getD i (0, "")).1) i))).before #[Value.ref b] s = true := by
    intro i j hi hj hij
    match i, j, hi, hj with
      | 0, 0, _, _ => exact absurd rfl hij
      | 0, 1, _, _ => exact pp _ _ (by decide +kernel)
      | 0, 2, _, _ => exact pp _ _ (by decide +kernel)
      | 0, 3, _, _ => exact pp _ _ (by decide +kernel)
      | 0, 4, _, _ => exact pp _ _ (by decide +kernel)
      | 0, 5, _, _ => exact pp _ _ (by decide +kernel)
      | 1, 0, _, _ => exact pp _ _ (by decide +kernel)
      | 1, 1, _, _ => exact absurd rfl hij
      | 1, 2, _, _ => exact pp _ _ (by decide +kernel)
      | 1, 3, _, _ => exact pp _ _ (by decide +kernel)
      | 1, 4, _, _ => exact pp _ _ (by decide +kernel)
      | 1, 5, _, _ => exact pp _ _ (by decide +kernel)
      | 2, 0, _, _ => exact pp _ _ (by decide +kernel)
      | 2, 1, _, _ => exact pp _ _ (by decide +kernel)
      | 2, 2, _, _ => exact absurd rfl hij
      | 2, 3, _, _ => exact pp _ _ (by decide +kernel)
      | 2, 4, _, _ => exact pp _ _ (by decide +kernel)
      | 2, 5, _, _ => exact pp _ _ (by decide +kernel)
      | 3, 0, _, _ => exact pp _ _ (by decide +kernel)
      | 3, 1, _, _ => exact pp _ _ (by decide +kernel)
      | 3, 2, _, _ => exact pp _ _ (by decide +kernel)
      | 3, 3, _, _ => exact absurd rfl hij
      | 3, 4, _, _ => exact pp _ _ (by decide +kernel)
      | 3, 5, _, _ => exact pp _ _ (by decide +kernel)
      | 4, 0, _, _ => exact pp _ _ (by decide +kernel)
      | 4, 1, _, _ => exact pp _ _ (by decide +kernel)
      | 4, 2, _, _ => exact pp _ _ (by decide +kernel)
      | 4, 3, _, _ => exact pp _ _ (by decide +kernel)
      | 4, 4, _, _ => exact absurd rfl hij
      | 4, 5, _, _ => exact pp _ _ (by decide +kernel)
      | 5, 0, _, _ => exact pp _ _ (by decide +kernel)
      | 5, 1, _, _ => exact pp _ _ (by decide +kernel)
      | 5, 2, _, _ => exact pp _ _ (by decide +kernel)
      | 5, 3, _, _ => exact pp _ _ (by decide +kernel)
      | 5, 4, _, _ => exact pp _ _ (by decide +kernel)
      | 5, 5, _, _ => exact absurd rfl hij
      | i + 6, _, h, _ => exact absurd h (by omega)
      | _, j + 6, _, h => exact absurd h (by omega)
  obtain ⟨adK, adV, h1, h2⟩ := vk_Sof (N := 6) (tm := fun i => Term.string "UsherRows$Text" (bx_sx.getD i (0, "")).1) (len := bx_sl) (byt := bx_sb) (A := fun q : Nat => s.heap.size ≤ q) hN hex hco har hle hel hne hA
  refine ⟨adK, adV, h1, fun i hi => ?_, va_Zof (hts _ (by decide +kernel)) (hts _ (by decide +kernel)) (va_eqi (hg _ (by decide +kernel))) hA, va_Zqof (hts _ (by decide +kernel)) (hts _ (by decide +kernel)) (hg _ (by decide +kernel)) hA, va_AO.of (hts (.arrayOver (.object "UsherRows$Hall")) (by decide +kernel))⟩
  have hr : (Cond.stringRef "UsherRows$Text" (bx_sx.getD i (0, "")).1 (bx_sx.getD i (0, "")).2).before #[Value.ref b] s = true := by
    revert hi
    exact fun hi => match i, hi with
      | 0, _ => hts _ (by decide +kernel)
      | 1, _ => hts _ (by decide +kernel)
      | 2, _ => hts _ (by decide +kernel)
      | 3, _ => hts _ (by decide +kernel)
      | 4, _ => hts _ (by decide +kernel)
      | 5, _ => hts _ (by decide +kernel)
      | i + 6, h => absurd h (by omega)
  exact vk_R.of hr (h2 i hi)

/-- the classes' numbers, the rows' classes, the strings: all at the law's entry -/
theorem lw_env {s : State} {b : Nat} (hts : ∀ w ∈ lw_tbl, w.before #[Value.ref b] s = true) (hgv : (Jvm.Cond.and given_1 narrow_1).before #[Value.ref b] s = true) : ∃ E : bx_E, va_K E.1 vwCl (bx_tys E) s ∧ bx_str E (fun q : Nat => s.heap.size ≤ q) s s.heap := by
  obtain ⟨adK, adV, h1, h2, h3, h4, h5⟩ := lw_str hts hgv
  have hts2 : ∀ w ∈ wsAll, w.before #[Value.ref b] s = true := fun w hw => hts w (wsAll_tbl hw)
  obtain ⟨c0, iS0, hKn0⟩ := u_known (C := RX0) (T := TX0) (N := 12) (n := 12) hts2 inX0 (hts2 _ is_X0)
  obtain ⟨c1, iS1, hKn1⟩ := u_known (C := RX3) (T := TX3) (N := 2) (n := 2) hts2 inX3 (hts2 _ is_X3)
  obtain ⟨c2, iS2, hKn2⟩ := u_known (C := RX4) (T := TX4) (N := 4) (n := 4) hts2 inX4 (hts2 _ is_X4)
  obtain ⟨c3, iS3, hKn3⟩ := u_known (C := RX5) (T := TX5) (N := 2) (n := 2) hts2 inX5 (hts2 _ is_X5)
  obtain ⟨c4, iS4, hKn4⟩ := u_known (C := RX6) (T := TX6) (N := 7) (n := 7) hts2 inX6 (hts2 _ is_X6)
  obtain ⟨c5, iS5, hKn5⟩ := u_known (C := RX7) (T := TX7) (N := 12) (n := 12) hts2 inX7 (hts2 _ is_X7)
  obtain ⟨c6, iS6, hKn6⟩ := u_known (C := RX8) (T := TX8) (N := 16) (n := 16) hts2 inX8 (hts2 _ is_X8)
  obtain ⟨dC, dI, hKc⟩ : ∃ (dC : Nat → ClassId) (dI : Nat → Nat → Nat), ∀ (k : Nat) (q : vw_C), vwCl[k]? = some q → u_Kn s q.1 q.2.1 q.2.2 (dC k) (dI k) := by
    refine ⟨fun k => if k = 0 then c0 else if k = 1 then c1 else if k = 2 then c2 else if k = 3 then c3 else if k = 4 then c4 else if k = 5 then c5 else c6, fun k => if k = 0 then iS0 else if k = 1 then iS1 else if k = 2 then iS2 else if k = 3 then iS3 else if k = 4 then iS4 else if k = 5 then iS5 else iS6, ?_⟩
    intro k q hq
    match k, hq with
    | 0, hq => cases hq; exact hKn0
    | 1, hq => cases hq; exact hKn1
    | 2, hq => cases hq; exact hKn2
    | 3, hq => cases hq; exact hKn3
    | 4, hq => cases hq; exact hKn4
    | 5, hq => cases hq; exact hKn5
    | 6, hq => cases hq; exact hKn6
    | k + 7, hq => simp [vwCl] at hq
  obtain ⟨cI, kI, oI, i1, i2, i3⟩ := Cond.arrayClass_spec (hts2 (.arrayClass .int) ar_int)
  obtain ⟨cZ, kZ, oZ, z1, z2, z3⟩ := Cond.arrayClass_spec (hts2 (.arrayClass .boolean) ar_boolean)
  obtain ⟨cB, kB, oB, b1, b2, b3⟩ := Cond.arrayClass_spec (hts2 (.arrayClass .byte) ar_byte)
  obtain ⟨oH, cH, kH, g1, -, g3, g4, g5⟩ := Cond.arrayOver_spec h5
  refine ⟨((dC, dI), fun k => if k = 0 then cI else if k = 1 then cZ else if k = 2 then cB else if k = 3 then cH else if k < 200 then adK (k - 100) else adV (k - 200)), ⟨hKc, fun k q hq => ?_⟩, ?_⟩
  · match k, hq with
    | 0, hq => cases hq; exact ⟨fun n z => ⟨fun k h => (by cases h), kI, i2, oI, i3⟩, i1⟩
    | 1, hq => cases hq; exact ⟨fun n z => ⟨fun k h => (by cases h), kZ, z2, oZ, z3⟩, z1⟩
    | 2, hq => cases hq; exact ⟨fun n z => ⟨fun k h => (by cases h), kB, b2, oB, b3⟩, b1⟩
    | 3, hq => cases hq; exact ⟨fun n z => ⟨fun k h => (by cases h), kH, g3, oH, g4⟩, kH, oH, g3, g4, g1, g5⟩
    | k + 4, hq => simp [bx_tys] at hq
  · have e1 : ∀ i : Nat, i < 6 → (fun k => if k = 0 then cI else if k = 1 then cZ else if k = 2 then cB else if k = 3 then cH else if k < 200 then adK (k - 100) else adV (k - 200)) (100 + i) = adK i := by
      intro i hi
      show (if 100 + i = 0 then cI else if 100 + i = 1 then cZ else if 100 + i = 2 then cB else if 100 + i = 3 then cH else if 100 + i < 200 then adK (100 + i - 100) else adV (100 + i - 200)) = adK i
      rw [if_neg (by omega), if_neg (by omega), if_neg (by omega), if_neg (by omega), if_pos (by omega), Nat.add_sub_cancel_left]
    have e2 : ∀ i : Nat, i < 6 → (fun k => if k = 0 then cI else if k = 1 then cZ else if k = 2 then cB else if k = 3 then cH else if k < 200 then adK (k - 100) else adV (k - 200)) (200 + i) = adV i := by
      intro i hi
      show (if 200 + i = 0 then cI else if 200 + i = 1 then cZ else if 200 + i = 2 then cB else if 200 + i = 3 then cH else if 200 + i < 200 then adK (200 + i - 100) else adV (200 + i - 200)) = adV i
      rw [if_neg (by omega), if_neg (by omega), if_neg (by omega), if_neg (by omega), if_neg (by omega), Nat.add_sub_cancel_left]
    refine ⟨⟨fun i hi => ?_, fun i j hi hj hij => ?_⟩, fun i hi => ?_, h3, h4, h5⟩
    · have q := h1.1 i hi
      have a1 := e1 i hi
      have a2 := e2 i hi
      dsimp only at a1 a2 ⊢
      rw [a1, a2]
      exact q
    · have a1 := e1 i hi
      have a2 := e1 j hj
      dsimp only at a1 a2 hij
      rw [a1, a2] at hij
      exact h1.2 i j hi hj hij
    · have a1 := e1 i hi
      dsimp only at a1 ⊢
      rw [a1]
      exact h2 i hi
set_option maxRecDepth 20000 in
set_option maxHeartbeats 4000000 in
theorem whole_open {Rel : US → MS → Prop} (hR : law_ok Rel) (h0 : Rel us0 ms0) {p : Program} {e : Env} {s : State} {m : MethodId} {below : List Frame} {meth : Method} {c : Code} (l : Launch) {b L : Nat} {xs : Nat → Int32} (hL : L ≤ 320) (C0 : lw_At p s m meth c b L xs) : W p l e room_1 s m #[Value.ref b] below meth c s.heap [] 0 0 (lw_Z below #[Value.ref b] s) (entryFrame m ([Value.ref b] : List Value).toArray 4) := by
  obtain ⟨hx, hb, hr, hml, hown, hts, hX, hbl, hlocks, hgv⟩ := C0
  obtain ⟨E, hK, hstr⟩ := lw_env hts hgv
  have C : bx_C p room_1 s m #[Value.ref b] meth c cL_law 4 RL ret E (fun q : Nat => s.heap.size ≤ q) 0 0 := ⟨hx, hb, hml, hown, fun w hw => hts w (wsAll_tbl hw), hK, fun q hq => va_Nw.of rfl (hts _ (bx_nest_tbl q hq)), hr, hlocks, fun _ h => h, ⟨Nat.zero_le _, Nat.zero_le _⟩, hstr⟩
  have hP : va_P E.1 vwCl [] s.heap := fun k q h => by simp at h
  have hD : va_D (fun q : Nat => s.heap.size ≤ q) [] := ⟨fun i j p q h => by simp at h, fun k q h => by simp at h⟩
  rw [lg_entry_eq]
  have key : bx_S p l e room_1 s m #[Value.ref b] below meth c 4 E (fun q : Nat => s.heap.size ≤ q) (lw_Z below #[Value.ref b] s) 0 0 0 [(0, .ref b)] [] [] := by
    refine bi_new (ci := 5) C 3 1 12 [.null, .null, .null, .null, .null, .null, .null, .long 0, .long 0, .int 0, .int 0, .int 0] inX7 tyX7 tyX7_ok rfl cl_L_7 is_X7 ii_X7 fs_X7 dL_law_0 rfl rfl ⟨Nat.le_of_ble_eq_true rfl, Nat.le_of_ble_eq_true rfl⟩ rfl (fun q1 => ?_)
    replace C := bi_grow C (ce2 := 1) (sl2 := 12) ⟨Nat.le_of_ble_eq_true rfl, Nat.le_of_ble_eq_true rfl⟩
    refine bx_dup C 4 dL_law_3 rfl rfl ?_
    refine bx_init C 7 74 1276 [] fi_L_9 (i_X7 l E q1) dL_law_4 ⟨rfl, rfl, Nat.le_of_ble_eq_true rfl, Nat.le_of_ble_eq_true rfl⟩ rfl rfl ⟨Nat.le_of_ble_eq_true rfl, Nat.le_of_ble_eq_true rfl⟩ rfl rfl rfl (Nat.le_of_ble_eq_true rfl) rfl (fun a ea => ?_)
    subst ea
    replace C := bi_grow C (ce2 := 74) (sl2 := 1276) ⟨Nat.le_of_ble_eq_true rfl, Nat.le_of_ble_eq_true rfl⟩
    refine bx_astore_n C 8 dL_law_7 rfl (by decide) rfl ?_
    refine bi_new (ci := 6) C 11 75 1292 [.null, .null, .null, .null, .long 0, .long 0, .null, .null, .int 0, .int 0, .int 0, .int 0, .int 0, .null, .null, .null] inX8 tyX8 tyX8_ok rfl cl_L_10 is_X8 ii_X8 fs_X8 dL_law_8 rfl rfl ⟨Nat.le_of_ble_eq_true rfl, Nat.le_of_ble_eq_true rfl⟩ rfl (fun q2 => ?_)
    replace C := bi_grow C (ce2 := 75) (sl2 := 1292) ⟨Nat.le_of_ble_eq_true rfl, Nat.le_of_ble_eq_true rfl⟩
    refine bx_dup C 12 dL_law_11 rfl rfl ?_
    refine bx_init C 15 84 2186 ([] ++ w_U E a us0) fi_L_12 (i_X8 l E q2) dL_law_12 ⟨rfl, rfl, Nat.le_of_ble_eq_true rfl, Nat.le_of_ble_eq_true rfl⟩ rfl rfl ⟨Nat.le_of_ble_eq_true rfl, Nat.le_of_ble_eq_true rfl⟩ rfl rfl rfl (Nat.le_of_ble_eq_true rfl) rfl (fun b2 eb => ?_)
    subst eb
    replace C := bi_grow C (ce2 := 84) (sl2 := 2186) ⟨Nat.le_of_ble_eq_true rfl, Nat.le_of_ble_eq_true rfl⟩
    refine bx_astore_n C 16 dL_law_15 rfl (by decide) rfl ?_
    refine bx_iconst C 0 17 dL_law_16 ic_0 rfl ?_
    refine bx_istore_n C 18 dL_law_17 rfl (by decide) rfl ?_
    exact bx_cut [3, 2, 1, 0] (w_U E a us0 ++ w_M E b2 ms0) rfl rfl (law_loop C hX hbl hL hR (L + 6) 0 0 us0 ms0 rfl (by omega) (by omega) h0)
  exact key s.heap [] _ hP hD va_S.rf (lv_entry [.ref b] (Nat.le_of_ble_eq_true rfl))
