theorem oi_1 : Cond.instanceMethod objectInit ∈ wsAll := wsAll_mem (by decide +kernel) (by decide +kernel)
theorem oi_2 : Cond.code objectInit ⟨#[0xb1]⟩ 1 none ∈ wsAll := wsAll_mem (by decide +kernel) (by decide +kernel)
theorem va_nd_of : ∀ l : List Nat, l.Nodup → va_nd l = true
  | [], _ => rfl
  | a :: l, h => by
    rw [List.nodup_cons] at h
    simp only [va_nd, Bool.and_eq_true, decide_eq_true_eq]
    exact ⟨h.1, va_nd_of l h.2⟩
theorem bx_map_pre (ws w2 : va_W) : (List.range ws.length).map (fun i => (ws ++ w2)[i]?) = ws.map some := by
  apply List.ext_getElem?
  intro i
  rw [List.getElem?_map, List.getElem?_map]
  by_cases hi : i < ws.length
  · simp [hi, List.getElem?_append_left hi]
  · simp [hi]
abbrev bx_FI (own : String) (i : Nat) (y : MethodName) (cd : ByteArray) (nc : Nat) (ar : Nat) : Prop := bx_FL own i y cd nc none ar ∧ y.name = "<init>" ∧ Cond.instanceMethod y ∈ wsAll
abbrev bx_FJ (own : String) (i : Nat) (y : MethodName) (cd : ByteArray) (nc : Nat) (ar : Nat) : Prop := bx_FB y cd nc none ar ∧ (own, i, y, "UsherRows") ∈ bx_nest ∧ y.name = "<init>" ∧ Cond.instanceMethod y ∈ wsAll
/-- a constructor's contract: new cells come -/
def bx_Mn (l : Launch) (E : bx_E) (y : MethodName) (cd : ByteArray) (nL : Nat) (rm : Room) (mc ms : Nat) (av : List Value) (w0 : va_W) {σ : Type} (post : σ → Prop) (wf : σ → va_W) : Prop := ∀ sz : Nat, Met l y (bx_ws y cd nL none) rm (va_Pc av (bx_U E sz w0)) (va_Qv post (fun u t => bx_B E (va_A w0 sz) (wf u) t) (va_A w0 sz)) mc ms (va_A w0 sz)
section BI
variable {p : Program} {l : Launch} {e : Env} {R : Room} {s : State} {m : MethodId} {args : Array Value} {below : List Frame} {meth : Method} {c : Code} {nL : Nat} {E : bx_E} {A : Nat → Prop} {Q : State → Prop} {ce sl : Nat} {b : ByteArray} {own : String} {ty : Option FieldType}
variable {pc : Nat} {lv : List (Nat × Value)} {rest : List Value} {ws : va_W}
theorem bi_grow (C : bx_C p R s m args meth c b nL own ty E A ce sl) {ce2 sl2 : Nat} (h : ce2 ≤ R.cells ∧ sl2 ≤ R.slots) : bx_C p R s m args meth c b nL own ty E A ce2 sl2 := by
  obtain ⟨h1, h2, h3, h4, h5, h6, h7, h8, h9, h10, -, h12⟩ := C
  exact ⟨h1, h2, h3, h4, h5, h6, h7, h8, h9, h10, h, h12⟩
theorem bx_obj (C : bx_C p R s m args meth c b nL own ty E A ce sl) {i a : Nat} (n : Nat) (hl : Cond.methodLink own i objectInit ∈ wsAll) (d : decode b pc = .ok (.invokespecial i, 3)) (hR : 1 ≤ R.frames ∧ 20 ≤ R.locals) (hrest : (rest.map fun v => v.category).sum ≤ 8) (hn : pc + 3 = n) (k : bx_S p l e R s m args below meth c nL E A Q ce sl n lv rest ws) : bx_S p l e R s m args below meth c nL E A Q ce sl pc lv (.ref a :: rest) ws := by
  subst hn
  have hts := C.2.2.2.2.1
  exact fun H locs ls hP hD hS hl2 => W.objInit C.1 C.2.1 C.2.2.2.1 (hts _ hl) (hts _ oi_1) (hts _ oi_2) rfl (by rw [C.2.2.1]; exact hl2.1) rfl d hR.1 (by show 2 * 0 + _ + 12 ≤ _; have := hR.2; omega) (k H locs ls hP hD hS hl2)
theorem bi_new (C : bx_C p R s m args meth c b nL own ty E A ce sl) {K : String} {T : u_T} {N ci i : Nat} (n ce2 sl2 : Nat) (fs : List Value) (hin : ∀ w ∈ u_ws K T N, w ∈ wsAll) (t0 : Nat → FieldType) (hty : ∀ k, k < N → parseFieldDescriptor (T k).2.2.1 = some (t0 k)) (hc : vwCl[ci]? = some (K, T, N)) (hcl : Cond.classLink own i K ∈ wsAll) (hinst : Cond.instantiable K N ∈ wsAll) (hini : Cond.initialized K ∈ wsAll) (hfs : ∀ j, j < N → defaultValue (t0 j) = vp_V fs j) (d : decode b pc = .ok (.new i, 3)) (he : ce + 1 = ce2) (hs : sl + N = sl2) (hce : ce2 ≤ R.cells ∧ sl2 ≤ R.slots) (hn : pc + 3 = n) (k : ∀ q : Nat, bx_S p l e R s m args below meth c nL E A Q ce2 sl2 n lv (.ref q :: rest) (ws ++ [(q, .inr (ci, fs))])) : bx_S p l e R s m args below meth c nL E A Q ce sl pc lv rest ws := by
  subst hn; subst he; subst hs
  have hts := C.2.2.2.2.1
  exact fun H locs ls hP hD hS hl2 => va_new C.1 C.2.1 hts hin t0 hty C.2.2.2.1 (hts _ hcl) (hts _ hinst) (hts _ hini) C.2.2.2.2.2.1 hP hD hS C.2.2.2.2.2.2.2.2.2.1 hc hfs hce.1 hce.2 d (fun q H1 hP hD hS => k q H1 locs ls hP hD hS hl2)
theorem bx_putF (C : bx_C p R s m args meth c b nL own ty E A ce sl) (hnm0 : meth.name = "<init>") {K : String} {T : u_T} {N ci i a : Nat} {fs : List Value} {v : Value} (n q0 f : Nat) (ws' : va_W) (hin : ∀ w ∈ u_ws K T N, w ∈ wsAll) (t0 : Nat → FieldType) (hty : ∀ k, k < N → parseFieldDescriptor (T k).2.2.1 = some (t0 k)) (hnm : ∀ a, a < N → ∀ b, b < N → a ≠ b → (T a).2.1 ≠ (T b).2.1) (hc : vwCl[ci]? = some (K, T, N)) (hf : f < N) (hl : Cond.fieldLink own i (T f).1 (T f).2.1 (T f).2.2.1 ∈ wsAll) (hfin : (T f).2.2.2 = true) (hdecl : (T f).1 = own) (d : decode b pc = .ok (.putfield i, 3)) (he : ws[q0]? = some (a, .inr (ci, fs))) (hna : narrow (t0 f) v = v) (hfit : fits (t0 f) v = true) (hlen : f < fs.length) (hw : ws.set q0 (a, .inr (ci, fs.set f v)) = ws') (hn : pc + 3 = n) (k : bx_S p l e R s m args below meth c nL E A Q ce sl n lv rest ws') : bx_S p l e R s m args below meth c nL E A Q ce sl pc lv (v :: .ref a :: rest) ws := by
  subst hn; subst hw
  exact fun H locs ls hP hD hS hlv => va_putF C.1 C.2.1 C.2.2.2.2.1 hin t0 hty hnm C.2.2.2.1 C.2.2.2.2.2.1 hP hD hS q0 he hc f hf (C.2.2.2.2.1 _ hl) (fun _ h => h) hfin hnm0 hdecl (hty f hf) hna hfit hlen d (fun H1 locs1 hP hD hS => k H1 locs1 ls hP hD hS hlv)
theorem bx_newa_int (C : bx_C p R s m args meth c b nL own ty E A ce sl) {z : Int32} (n N ce2 sl2 : Nat) (har : Cond.arrayClass .int ∈ wsAll) (hz : ¬ z < 0) (hN : z.toNatClampNeg = N) (hb4 : N * componentBytes .int ≤ 536870912) (d : decode b pc = .ok (.newarray .int, 2)) (he : ce + 1 = ce2) (hs : sl + N = sl2) (hce : ce2 ≤ R.cells ∧ sl2 ≤ R.slots) (hn : pc + 2 = n) (k : ∀ q : Nat, bx_S p l e R s m args below meth c nL E A Q ce2 sl2 n lv (.ref q :: rest) (ws ++ [(q, .inl (E.2 0, N, .inl (fun _ => 0)))])) : bx_S p l e R s m args below meth c nL E A Q ce sl pc lv (.int z :: rest) ws := by
  subst hn; subst he; subst hs
  have hts := C.2.2.2.2.1
  intro H locs ls hP hD hS hl2
  refine va_newa C.1 C.2.1 (atype := .int) (hts _ har) (ty := .int) rfl C.2.2.2.2.2.1 hP hD hS C.2.2.2.2.2.2.2.2.2.1 (a0 := (N, .inl (fun _ => 0))) (fun _ => rfl) hz hN hb4 hce.1 hce.2 d (fun q cA H1 hK hP hD hS => ?_)
  have h1 : va_RA s cA .int := (hK.2 4 (cA, .int) rfl).2
  have h2 : va_RA s (E.2 0) .int := (C.2.2.2.2.2.1.2 0 (E.2 0, .int) rfl).2
  have h3 : cA = E.2 0 := Option.some.inj (h1.symm.trans h2)
  subst h3
  exact k q H1 locs ls hP hD hS hl2
theorem bx_newa_boolean (C : bx_C p R s m args meth c b nL own ty E A ce sl) {z : Int32} (n N ce2 sl2 : Nat) (har : Cond.arrayClass .boolean ∈ wsAll) (hz : ¬ z < 0) (hN : z.toNatClampNeg = N) (hb4 : N * componentBytes .boolean ≤ 536870912) (d : decode b pc = .ok (.newarray .boolean, 2)) (he : ce + 1 = ce2) (hs : sl + N = sl2) (hce : ce2 ≤ R.cells ∧ sl2 ≤ R.slots) (hn : pc + 2 = n) (k : ∀ q : Nat, bx_S p l e R s m args below meth c nL E A Q ce2 sl2 n lv (.ref q :: rest) (ws ++ [(q, .inl (E.2 1, N, .inl (fun _ => 0)))])) : bx_S p l e R s m args below meth c nL E A Q ce sl pc lv (.int z :: rest) ws := by
  subst hn; subst he; subst hs
  have hts := C.2.2.2.2.1
  intro H locs ls hP hD hS hl2
  refine va_newa C.1 C.2.1 (atype := .boolean) (hts _ har) (ty := .boolean) rfl C.2.2.2.2.2.1 hP hD hS C.2.2.2.2.2.2.2.2.2.1 (a0 := (N, .inl (fun _ => 0))) (fun _ => rfl) hz hN hb4 hce.1 hce.2 d (fun q cA H1 hK hP hD hS => ?_)
  have h1 : va_RA s cA .boolean := (hK.2 4 (cA, .boolean) rfl).2
  have h2 : va_RA s (E.2 1) .boolean := (C.2.2.2.2.2.1.2 1 (E.2 1, .boolean) rfl).2
  have h3 : cA = E.2 1 := Option.some.inj (h1.symm.trans h2)
  subst h3
  exact k q H1 locs ls hP hD hS hl2
theorem bx_newa_byte (C : bx_C p R s m args meth c b nL own ty E A ce sl) {z : Int32} (n N ce2 sl2 : Nat) (har : Cond.arrayClass .byte ∈ wsAll) (hz : ¬ z < 0) (hN : z.toNatClampNeg = N) (hb4 : N * componentBytes .byte ≤ 536870912) (d : decode b pc = .ok (.newarray .byte, 2)) (he : ce + 1 = ce2) (hs : sl + N = sl2) (hce : ce2 ≤ R.cells ∧ sl2 ≤ R.slots) (hn : pc + 2 = n) (k : ∀ q : Nat, bx_S p l e R s m args below meth c nL E A Q ce2 sl2 n lv (.ref q :: rest) (ws ++ [(q, .inl (E.2 2, N, .inl (fun _ => 0)))])) : bx_S p l e R s m args below meth c nL E A Q ce sl pc lv (.int z :: rest) ws := by
  subst hn; subst he; subst hs
  have hts := C.2.2.2.2.1
  intro H locs ls hP hD hS hl2
  refine va_newa C.1 C.2.1 (atype := .byte) (hts _ har) (ty := .byte) rfl C.2.2.2.2.2.1 hP hD hS C.2.2.2.2.2.2.2.2.2.1 (a0 := (N, .inl (fun _ => 0))) (fun _ => rfl) hz hN hb4 hce.1 hce.2 d (fun q cA H1 hK hP hD hS => ?_)
  have h1 : va_RA s cA .byte := (hK.2 4 (cA, .byte) rfl).2
  have h2 : va_RA s (E.2 2) .byte := (C.2.2.2.2.2.1.2 2 (E.2 2, .byte) rfl).2
  have h3 : cA = E.2 2 := Option.some.inj (h1.symm.trans h2)
  subst h3
  exact k q H1 locs ls hP hD hS hl2
theorem bx_newq (C : bx_C p R s m args meth c b nL own ty E A ce sl) {z : Int32} {i : Nat} (n N ce2 sl2 : Nat) (hcl : Cond.classLink own i "UsherRows$Hall" ∈ wsAll) (hz : ¬ z < 0) (hN : z.toNatClampNeg = N) (hb4 : N * 4 ≤ 536870912) (d : decode b pc = .ok (.anewarray i, 3)) (he : ce + 1 = ce2) (hs : sl + N = sl2) (hce : ce2 ≤ R.cells ∧ sl2 ≤ R.slots) (hn : pc + 3 = n) (k : ∀ q : Nat, bx_S p l e R s m args below meth c nL E A Q ce2 sl2 n lv (.ref q :: rest) (ws ++ [(q, .inl (E.2 3, N, .inr (.inr (.inr (.inr (fun _ => none))))))])) : bx_S p l e R s m args below meth c nL E A Q ce sl pc lv (.int z :: rest) ws := by
  subst hn; subst he; subst hs
  have hts := C.2.2.2.2.1
  intro H locs ls hP hD hS hl2
  refine va_newq C.1 C.2.1 C.2.2.2.1 (hts _ hcl) C.2.2.2.2.2.2.2.2.2.2.2.2.2.2.2 C.2.2.2.2.2.1 hP hD hS C.2.2.2.2.2.2.2.2.2.1 hz hN hb4 hce.1 hce.2 d (fun q cA H1 hK hP hD hS => ?_)
  obtain ⟨_, _, _, _, _, h1⟩ : va_RA s cA (.object "UsherRows$Hall") := (hK.2 4 (cA, .object "UsherRows$Hall") rfl).2
  obtain ⟨_, _, _, _, _, h2⟩ : va_RA s (E.2 3) (.object "UsherRows$Hall") := (C.2.2.2.2.2.1.2 3 (E.2 3, .object "UsherRows$Hall") rfl).2
  have h3 : cA = E.2 3 := Option.some.inj (h1.symm.trans h2)
  subst h3
  exact k q H1 locs ls hP hD hS hl2
theorem bx_aast (C : bx_C p R s m args meth c b nL own ty E A ce sl) {a N v : Nat} {f : Nat → Option Nat} {i : Int32} {vs : List Value} (n q0 qk : Nat) (ws' : va_W) (d : decode b pc = .ok (.aastore, 1)) (he : ws[q0]? = some (a, .inl (E.2 3, N, .inr (.inr (.inr (.inr f)))))) (hv : ws[qk]? = some (v, .inr (0, vs))) (hi : vp_in i N) (hw : ws.set q0 (a, .inl (E.2 3, N, .inr (.inr (.inr (.inr (va_up f i.toNatClampNeg (some v))))))) = ws') (hn : pc + 1 = n) (k : bx_S p l e R s m args below meth c nL E A Q ce sl n lv rest ws') : bx_S p l e R s m args below meth c nL E A Q ce sl pc lv (.ref v :: .int i :: .ref a :: rest) ws := by
  subst hn; subst hw
  exact fun H locs ls hP hD hS hlv => va_astq (r := (RX0, TX0, 12)) C.1 C.2.1 C.2.2.2.2.2.1 hP hD hS q0 3 qk 0 he rfl hv rfl hi d (fun H1 locs1 hP hD hS => k H1 locs1 ls hP hD hS hlv)
theorem bx_init (C : bx_C p R s m args meth c b nL own ty E A ce sl) {y : MethodName} {cd : ByteArray} {nc ar i mc ms : Nat} {rm : Room} {σ : Type} {wf : σ → va_W} {post : σ → Prop} {q : Nat} {e0 : va_E} {As st : List Value} (n ce2 sl2 : Nat) (wr : va_W) (F : bx_FI own i y cd nc ar) (hM : bx_Mn l E y cd nc rm mc ms (.ref q :: As) [(q, e0)] post wf) (d : decode b pc = .ok (.invokespecial i, 3)) (hR : rm.cells = mc ∧ rm.slots = ms ∧ rm.frames + 1 ≤ R.frames ∧ 8 + (nc + 11) + rm.locals ≤ R.locals) (he : ce + mc = ce2) (hs : sl + ms = sl2) (hce : ce2 ≤ R.cells ∧ sl2 ≤ R.slots) (hw : ws = wr ++ [(q, e0)]) (hlen : As.length = ar) (hst : st = As.reverse ++ .ref q :: rest) (hrest : (rest.map fun v => v.category).sum ≤ 8) (hn : pc + 3 = n) (kk : ∀ u : σ, post u → bx_S p l e R s m args below meth c nL E A Q ce2 sl2 n lv rest (wr ++ wf u)) : bx_S p l e R s m args below meth c nL E A Q ce sl pc lv st ws := by
  subst hn; subst hst; subst he; subst hs; subst hw
  intro H locs ls hP hD hS hl
  have hps : [wr.length].map (fun i => (wr ++ [(q, e0)])[i]?) = [(q, e0)].map some := by simp
  obtain ⟨hx, hb, hml, hown, hts, hK, hNe, hr, hlk, hA, -⟩ := id C
  have hFc := va_free (wc := [(q, e0)]) hD hS hA [wr.length] hps
  have hpre := bx_pre (As := .ref q :: As) C hP hD hS hFc hps rfl rfl
  refine va_callv (va_runI ⟨hx, hb, hml, hown, hts⟩ (hM H.size) ⟨callB_of (Ts := wsAll) ar hts (bx_good (y := y) (cd := cd) (nL := nL) (ty := ty) F.1.1.1) rfl hR.1 hR.2.1 (hts _ F.1.1.2.1) (hts _ F.1.2) F.1.1.2.2 ⟨hR.2.2.1, hR.2.2.2⟩, F.2.1, hts _ F.2.2⟩ hpre rfl hlen hl.1 rfl (lv_room hrest) d hce) hS (fun q _ h => hFc q h) hFc (fun u t H1 locs1 ht hvm hw hB hz hk hS1 => ?_)
  obtain ⟨hP1, hD1⟩ := hB
  rw [ht] at hP1
  obtain ⟨hP2, hD2⟩ := va_join (wr := wr) (w1 := wf u) hP hD [wr.length] (List.range wr.length) hps (bx_map_pre wr _) (va_nd_of _ List.nodup_range) (fun i hi => by simp at hi ⊢; omega) hk hFc hP1 hD1
  exact kk u hw H1 locs1 ls hP2 hD2 hS1 hl
theorem bx_inin (C : bx_C p R s m args meth c b nL own ty E A ce sl) {y : MethodName} {cd : ByteArray} {nc ar i mc ms : Nat} {rm : Room} {σ : Type} {wf : σ → va_W} {post : σ → Prop} {q : Nat} {e0 : va_E} {As st : List Value} (n ce2 sl2 : Nat) (wr : va_W) (F : bx_FJ own i y cd nc ar) (hM : bx_Mn l E y cd nc rm mc ms (.ref q :: As) [(q, e0)] post wf) (d : decode b pc = .ok (.invokespecial i, 3)) (hR : rm.cells = mc ∧ rm.slots = ms ∧ rm.frames + 1 ≤ R.frames ∧ 8 + (nc + 11) + rm.locals ≤ R.locals) (he : ce + mc = ce2) (hs : sl + ms = sl2) (hce : ce2 ≤ R.cells ∧ sl2 ≤ R.slots) (hw : ws = wr ++ [(q, e0)]) (hlen : As.length = ar) (hst : st = As.reverse ++ .ref q :: rest) (hrest : (rest.map fun v => v.category).sum ≤ 8) (hn : pc + 3 = n) (kk : ∀ u : σ, post u → bx_S p l e R s m args below meth c nL E A Q ce2 sl2 n lv rest (wr ++ wf u)) : bx_S p l e R s m args below meth c nL E A Q ce sl pc lv st ws := by
  subst hn; subst hst; subst he; subst hs; subst hw
  intro H locs ls hP hD hS hl
  have hps : [wr.length].map (fun i => (wr ++ [(q, e0)])[i]?) = [(q, e0)].map some := by simp
  obtain ⟨hx, hb, hml, hown, hts, hK, hNe, hr, hlk, hA, -⟩ := id C
  have hFc := va_free (wc := [(q, e0)]) hD hS hA [wr.length] hps
  have hpre := bx_pre (As := .ref q :: As) C hP hD hS hFc hps rfl rfl
  refine va_callv (va_runIN (host := "UsherRows") ⟨hx, hb, hml, hown, hts⟩ (hM H.size) ⟨va_cnB ar hts (bx_good (y := y) (cd := cd) (nL := nL) (ty := ty) F.1.1) rfl hR.1 hR.2.1 (hNe _ F.2.1) (hts _ F.1.2.1) F.1.2.2 ⟨hR.2.2.1, hR.2.2.2⟩, F.2.2.1, hts _ F.2.2.2⟩ hpre rfl hlen hl.1 rfl (lv_room hrest) d hce) hS (fun q _ h => hFc q h) hFc (fun u t H1 locs1 ht hvm hw hB hz hk hS1 => ?_)
  obtain ⟨hP1, hD1⟩ := hB
  rw [ht] at hP1
  obtain ⟨hP2, hD2⟩ := va_join (wr := wr) (w1 := wf u) hP hD [wr.length] (List.range wr.length) hps (bx_map_pre wr _) (va_nd_of _ List.nodup_range) (fun i hi => by simp at hi ⊢; omega) hk hFc hP1 hD1
  exact kk u hw H1 locs1 ls hP2 hD2 hS1 hl
end BI
theorem bx_metn {l : Launch} {E : bx_E} {y : MethodName} {cd : ByteArray} {nL mc ms : Nat} {rm : Room} {av : List Value} {w0 : va_W} {σ : Type} {post : σ → Prop} {wf : σ → va_W} (hy : plainName y.cls = true) (hlv : (lg_sl av).length ≤ nL) (body : ∀ (p : Program) (e : Env) (s : State) (m : MethodId) (below : List Frame) (meth : Method) (c : Code), meth.name = y.name → bx_C p rm s m av.toArray meth c cd nL y.cls none E (va_A w0 s.heap.size) 0 0 → bx_S p l e rm s m av.toArray below meth c nL E (va_A w0 s.heap.size) (MQ below (va_Qv post (fun u t => bx_B E (va_A w0 s.heap.size) (wf u) t) (va_A w0 s.heap.size)) av.toArray s mc ms (va_A w0 s.heap.size)) 0 0 0 (lv_args 0 av) [] w0) : bx_Mn l E y cd nL rm mc ms av w0 post wf := by
  intro sz
  refine Met.ofW (cc := cd) (maxL := nL) (ret := none) hy rfl ?_
  intro p e s m args below meth c s₁ B hml hv
  obtain ⟨rfl, hsz, hP, hK, hD0, hN, hstr⟩ := hv
  have hts := atoms_spec (ws := bx_ws y cd nL none) B.pre
  have hown : s.vm.findClass y.cls = some m.cls := findClass_of_methodNamed B.named
  subst hsz
  have hD := hD0.self (sz := s.heap.size)
  have C : bx_C p rm s m av.toArray meth c cd nL y.cls none E (va_A w0 s.heap.size) 0 0 := ⟨B.exec, B.bytes, hml, hown, fun w hw => hts w (List.mem_cons_of_mem _ hw), hK, hN, B.returns, B.notSynchronized, fun q h => Or.inr h, ⟨Nat.zero_le _, Nat.zero_le _⟩, hstr⟩
  rw [lg_entry_eq]
  exact body p e s m below meth c (name_of_methodNamed B.named B.method).1 C s.heap [] _ hP hD va_S.rf (lv_entry av hlv)
