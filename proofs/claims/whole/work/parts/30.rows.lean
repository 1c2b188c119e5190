def wsAll : List Cond := lw_tbl.filter goodWord
theorem wsAll_mem {w : Cond} (h : w ∈ lw_tbl) (g : goodWord w = true) : w ∈ wsAll := List.mem_filter.mpr ⟨h, g⟩
theorem wsAll_good {w : Cond} (h : w ∈ wsAll) : goodWord w = true := (List.mem_filter.mp h).2
theorem wsAll_tbl {w : Cond} (h : w ∈ wsAll) : w ∈ lw_tbl := (List.mem_filter.mp h).1
/-- the array classes beside the classes' own numbers: 0 int, 1 boolean, 2 byte, 3 Hall -/
abbrev bx_E : Type := va_G × (Nat → ClassId)
abbrev bx_tys (E : bx_E) : List (ClassId × FieldType) := [(E.2 0, .int), (E.2 1, .boolean), (E.2 2, .byte), (E.2 3, .object "UsherRows$Hall")]
/-- links to nest mates' private members -/
abbrev bx_N : Type := String × Nat × MethodName × String
def bx_nest : List bx_N := [("UsherRows$Hall", 69, yX7_within, "UsherRows"), ("UsherRows$Hall", 77, yX7_has, "UsherRows"), ("UsherRows$Plan", 55, yX7_has, "UsherRows"), ("UsherRows$Table", 48, yX7_within, "UsherRows"), ("UsherRows$Tally", 17, yX7_within, "UsherRows"), ("UsherRows", 9, yX0_init, "UsherRows"), ("UsherRows", 29, yX6_init, "UsherRows"), ("UsherRows", 36, yX3_init, "UsherRows"), ("UsherRows", 43, yX5_init, "UsherRows"), ("UsherRows$Text", 11, yX0_init, "UsherRows")]
abbrev bx_nw (q : bx_N) : Cond := .methodLinkNest q.1 q.2.1 q.2.2.1 q.2.2.2
theorem bx_nest_tbl : ∀ q ∈ bx_nest, bx_nw q ∈ lw_tbl := by decide +kernel
/-- the string constants of Text: entry and text, length, bytes -/
def bx_sx : List (Nat × String) := [(49, "hall"), (57, "soul"), (62, "coat"), (67, "sit"), (72, "out"), (77, "minutes")]
def bx_sl : List Nat := [4, 4, 4, 3, 3, 7]
def bx_sb : List (List Int32) := [[104, 97, 108, 108], [115, 111, 117, 108], [99, 111, 97, 116], [115, 105, 116], [111, 117, 116], [109, 105, 110, 117, 116, 101, 115]]
/-- what stands outside the world and stays: the strings, two statics, the class of the halls' row -/
def bx_str (E : bx_E) (A : Nat → Prop) (U : State) (H : Heap) : Prop := vk_S 6 bx_sl bx_sb (fun i => E.2 (100 + i)) (fun i => E.2 (200 + i)) A U H ∧ (∀ i : Nat, i < 6 → vk_R "UsherRows$Text" (bx_sx.getD i (0, "")).1 (bx_sx.getD i (0, "")).2 (E.2 (100 + i)) U) ∧ va_Z "java/lang/String" "COMPACT_STRINGS" "Z" (.int 1) A U H ∧ va_Zq "jdk/internal/util/Preconditions" "SIOOBE_FORMATTER" "Ljava/util/function/BiFunction;" A U H ∧ va_AO "UsherRows$Hall" U
theorem bx_str_go {E : bx_E} {A B : Nat → Prop} {s U : State} {H : Heap} {locs : List Loc} (h : bx_str E A s s.heap) (hS : va_S A s.heap H locs) (hU : U.heap = H) (hW : s.WarmedH U.vm) (hB : ∀ q, B q → A q) : bx_str E B U U.heap := by
  obtain ⟨h1, h2, h3, h4, h5⟩ := h
  rw [hU]
  exact ⟨((h1.kept hS.2.1).moved hW.alike).narrow hB, fun i hi => (h2 i hi).warm hW, ((h3.kept hS.2.1).moved hW.alike).narrow hB, ((h4.kept hS.2.1).moved hW.alike).narrow hB, h5.moved hW.alike⟩
theorem bx_str_call {E : bx_E} {A : Nat → Prop} {U : State} {g : JFrame} {mk : MethodId} {a : Array Value} (h : bx_str E A U U.heap) : bx_str E A (U.calling g mk a) (U.calling g mk a).heap := by
  obtain ⟨h1, h2, h3, h4, h5⟩ := h
  have hv : U.vm.Alike (U.calling g mk a).vm := Vm.Alike.refl U.vm
  exact ⟨h1.moved hv, fun i hi => (h2 i hi).same rfl, h3.moved hv, h4.moved hv, h5.moved hv⟩
def bx_C (p : Program) (R : Room) (s : State) (m : MethodId) (args : Array Value) (meth : Method) (c : Code) (b : ByteArray) (nL : Nat) (own : String) (ty : Option FieldType) (E : bx_E) (A : Nat → Prop) (ce sl : Nat) : Prop :=
  p.tables.exec = Jvm.exec ∧ c.code = b ∧ c.maxLocals = nL ∧ s.vm.findClass own = some m.cls ∧ (∀ w ∈ wsAll, w.before args s = true) ∧ va_K E.1 vwCl (bx_tys E) s ∧ (∀ q ∈ bx_nest, va_Nw (bx_nw q) s) ∧ meth.sig.returnType = ty ∧ meth.locks = false ∧ (∀ q, s.heap.size ≤ q → A q) ∧ (ce ≤ R.cells ∧ sl ≤ R.slots) ∧ bx_str E A s s.heap
def bx_S (p : Program) (l : Launch) (e : Env) (R : Room) (s : State) (m : MethodId) (args : Array Value) (below : List Frame) (meth : Method) (c : Code) (nL : Nat) (E : bx_E) (A : Nat → Prop) (Q : State → Prop) (ce sl : Nat) (pc : Nat) (lv : List (Nat × Value)) (st : List Value) (ws : va_W) : Prop :=
  ∀ (H : Heap) (locs : List Loc) (ls : Array Slot), va_P E.1 vwCl ws H → va_D A ws → va_S A s.heap H locs → lv_has ls nL lv → W p l e R s m args below meth c H locs ce sl Q (F0 m pc ls st)
def bx_get (lv : List (Nat × Value)) (i : Nat) : Option Value := match lv with
  | [] => none
  | q :: r => if q.1 = i then some q.2 else bx_get r i
theorem bx_get_mem : ∀ {lv : List (Nat × Value)} {i : Nat} {v : Value}, bx_get lv i = some v → (i, v) ∈ lv
  | [], _, _, h => by simp [bx_get] at h
  | q :: r, i, v, h => by
    unfold bx_get at h
    by_cases hq : q.1 = i
    · rw [if_pos hq] at h
      cases h
      exact List.mem_cons.mpr (Or.inl (by rw [← hq]))
    · rw [if_neg hq] at h
      exact List.mem_cons_of_mem _ (bx_get_mem h)
theorem bx_at {ls : Array Slot} {nL : Nat} {lv : List (Nat × Value)} (h : lv_has ls nL lv) {i : Nat} {v : Value} (hk : bx_get lv i = some v) : ls[i]? = some (.val v) := h.2.2 _ (bx_get_mem hk)
theorem bx_pl {ls : Array Slot} {nL : Nat} {lv : List (Nat × Value)} (h : lv_has ls nL lv) {i : Nat} {v : Value} (hk : bx_get lv i = some v) : ∃ k : Nat, lv[k]? = some (i, v) := List.getElem?_of_mem (bx_get_mem hk)
/-- the world behind a call: the callee's cells in their places -/
def bx_put (ws : va_W) : List Nat → va_W → va_W
  | p :: ps, x :: xs => bx_put (ws.set p x) ps xs
  | _, _ => ws
theorem bx_put_at : ∀ (ps : List Nat) (w1 ws : va_W) (k : Nat) (q : Nat × va_E), ps.length = w1.length → (bx_put ws ps w1)[k]? = some q → (∃ j : Nat, ps[j]? = some k ∧ w1[j]? = some q) ∨ (k ∉ ps ∧ ws[k]? = some q)
  | [], w1, ws, k, q, _, h => by
    cases w1 <;> exact Or.inr ⟨List.not_mem_nil, h⟩
  | p :: ps, [], ws, k, q, hl, h => by simp at hl
  | p :: ps, x :: xs, ws, k, q, hl, h => by
    rcases bx_put_at ps xs (ws.set p x) k q (by simpa using hl) h with ⟨j, h1, h2⟩ | ⟨h1, h2⟩
    · exact Or.inl ⟨j + 1, by simpa using h1, by simpa using h2⟩
    · by_cases hk : k = p
      · subst hk
        refine Or.inl ⟨0, by simp, ?_⟩
        have hlt : k < ws.length := by
          have := (List.getElem?_eq_some_iff.mp h2).1
          simpa using this
        rw [List.getElem?_set_self hlt] at h2
        simpa using h2
      · rw [List.getElem?_set_ne (Ne.symm hk)] at h2
        exact Or.inr ⟨by simp [hk, h1], h2⟩
theorem bx_fm {α β : Type} {f : α → Option β} : ∀ {ps : List α} {w : List β}, ps.map f = w.map some → ps.filterMap f = w
  | [], [], _ => rfl
  | [], _ :: _, h => by simp at h
  | _ :: _, [], h => by simp at h
  | p :: ps, x :: xs, h => by
    simp only [List.map_cons, List.cons.injEq] at h
    rw [List.filterMap_cons, h.1, bx_fm h.2]
theorem bx_ats {ws wc : va_W} {ps : List Nat} (hps : ps.map (fun i => ws[i]?) = wc.map some) {j : Nat} : (∀ {q : Nat × va_E}, wc[j]? = some q → ∃ i, ps[j]? = some i ∧ ws[i]? = some q) ∧ (∀ {i : Nat}, ps[j]? = some i → ∃ q, wc[j]? = some q ∧ ws[i]? = some q) := by
  constructor
  · intro q hq
    have h1 : (ps.map (fun i => ws[i]?))[j]? = some (some q) := by rw [hps, List.getElem?_map, hq]; rfl
    rw [List.getElem?_map] at h1
    cases hi : ps[j]? with
    | none => rw [hi] at h1; cases h1
    | some i => rw [hi] at h1; exact ⟨i, rfl, Option.some.inj h1⟩
  · intro i hi
    have h1 : (wc.map some)[j]? = some (ws[i]?) := by rw [← hps, List.getElem?_map, hi]; rfl
    rw [List.getElem?_map] at h1
    cases hq : wc[j]? with
    | none => rw [hq] at h1; cases h1
    | some q => rw [hq] at h1; exact ⟨q, rfl, (Option.some.inj h1).symm⟩
theorem bx_put_ok {D : va_G} {cl : List vw_C} {A : Nat → Prop} {ws wc w1 : va_W} {H H1 : Heap} {ps : List Nat} (hP : va_P D cl ws H) (hD : va_D A ws) (hps : ps.map (fun i => ws[i]?) = wc.map some) (hadr : w1.map (fun q => q.1) = wc.map (fun q => q.1)) (hk : ∀ q : Nat, q < H.size → ¬ va_A wc H.size q → H1[q]? = H[q]?) (hP1 : va_P D cl w1 H1) : va_P D cl (bx_put ws ps w1) H1 ∧ va_D A (bx_put ws ps w1) := by
  have hlen : ps.length = w1.length := by
    have h1 := congrArg List.length hps
    have h2 := congrArg List.length hadr
    simp at h1 h2
    omega
  have hsame : ∀ (j : Nat) (q qc : Nat × va_E), w1[j]? = some q → wc[j]? = some qc → q.1 = qc.1 := by
    intro j q qc h1 h2
    have h3 : (w1.map (fun q => q.1))[j]? = some q.1 := by rw [List.getElem?_map, h1]; rfl
    rw [hadr, List.getElem?_map, h2] at h3
    exact (Option.some.inj h3).symm
  have key : ∀ (k : Nat) (q : Nat × va_E), (bx_put ws ps w1)[k]? = some q → ∃ q0, ws[k]? = some q0 ∧ q0.1 = q.1 := by
    intro k q h
    rcases bx_put_at ps w1 ws k q hlen h with ⟨j, h1, h2⟩ | ⟨h1, h2⟩
    · obtain ⟨qc, h3, h4⟩ := (bx_ats hps (j := j)).2 h1
      exact ⟨qc, h4, (hsame j q qc h2 h3).symm⟩
    · exact ⟨q, h2, rfl⟩
  refine ⟨fun k q h => ?_, fun i j x y hi hj hxy => ?_, fun k q h => ?_⟩
  · rcases bx_put_at ps w1 ws k q hlen h with ⟨j, h1, h2⟩ | ⟨h1, h2⟩
    · exact hP1 j q h2
    · refine (hP k q h2).kept (hk q.1 ((hP k q h2).lt) (fun hA => ?_))
      rcases hA with ⟨j, e, hj⟩ | hA
      · obtain ⟨i, h3, h4⟩ := (bx_ats hps (j := j)).1 hj
        have h5 := hD.1 i k (q.1, e) q h4 h2 rfl
        subst h5
        exact h1 (List.mem_of_getElem? h3)
      · exact absurd ((hP k q h2).lt) (Nat.not_lt.mpr hA)
  · obtain ⟨x0, h1, h2⟩ := key i x hi
    obtain ⟨y0, h3, h4⟩ := key j y hj
    exact hD.1 i j x0 y0 h1 h3 (h2.trans (hxy.trans h4.symm))
  · obtain ⟨q0, h1, h2⟩ := key k q h
    rw [← h2]
    exact hD.2 k q0 h1
/-- what a method's start holds -/
def bx_U (E : bx_E) (sz : Nat) (ws : va_W) (U : State) : Prop := U.heap.size = sz ∧ va_P E.1 vwCl ws U.heap ∧ va_K E.1 vwCl (bx_tys E) U ∧ va_D (fun _ => True) ws ∧ (∀ q ∈ bx_nest, va_Nw (bx_nw q) U) ∧ bx_str E (va_A ws sz) U U.heap
def bx_B (E : bx_E) (A : Nat → Prop) (ws : va_W) (t : State) : Prop := va_P E.1 vwCl ws t.heap ∧ va_D A ws
abbrev bx_ws (y : MethodName) (cd : ByteArray) (nL : Nat) (ty : Option FieldType) : List Cond := Cond.code y cd nL ty :: wsAll
theorem bx_good {y y2 : MethodName} {cd cd2 : ByteArray} {nL nL2 : Nat} {ty ty2 : Option FieldType} (h : Cond.code y2 cd2 nL2 ty2 ∈ wsAll) : GoodIn wsAll (bx_ws y2 cd2 nL2 ty2) := by
  intro w hw
  rcases List.mem_cons.mp hw with rfl | h1
  · exact ⟨h, good_of_word (wsAll_good h)⟩
  · exact ⟨h1, good_of_word (wsAll_good h1)⟩
/-- a method's contract: over the world wf u0 with the values av it comes to an answer and a world as K says -/
def bx_Mi (l : Launch) (E : bx_E) (y : MethodName) (cd : ByteArray) (nL : Nat) (ty : Option FieldType) (rm : Room) (av : List Value) {σ : Type} (wf : σ → va_W) (u0 : σ) (K : Int32 → σ → Prop) : Prop := ∀ sz : Nat, Met l y (bx_ws y cd nL ty) rm (va_Pc av (bx_U E sz (wf u0))) (va_Qi K (fun u t => bx_B E (va_A (wf u0) sz) (wf u) t) (va_A (wf u0) sz)) 0 0 (va_A (wf u0) sz)
def bx_Ml (l : Launch) (E : bx_E) (y : MethodName) (cd : ByteArray) (nL : Nat) (ty : Option FieldType) (rm : Room) (av : List Value) {σ : Type} (wf : σ → va_W) (u0 : σ) (K : Int64 → σ → Prop) : Prop := ∀ sz : Nat, Met l y (bx_ws y cd nL ty) rm (va_Pc av (bx_U E sz (wf u0))) (va_Ql K (fun u t => bx_B E (va_A (wf u0) sz) (wf u) t) (va_A (wf u0) sz)) 0 0 (va_A (wf u0) sz)
def bx_Mv (l : Launch) (E : bx_E) (y : MethodName) (cd : ByteArray) (nL : Nat) (ty : Option FieldType) (rm : Room) (av : List Value) {σ : Type} (wf : σ → va_W) (u0 : σ) (K : σ → Prop) : Prop := ∀ sz : Nat, Met l y (bx_ws y cd nL ty) rm (va_Pc av (bx_U E sz (wf u0))) (va_Qv K (fun u t => bx_B E (va_A (wf u0) sz) (wf u) t) (va_A (wf u0) sz)) 0 0 (va_A (wf u0) sz)
theorem bx_blind {E : bx_E} {sz : Nat} {ws : va_W} {av : List Value} : FrameBlind (va_Pc av (bx_U E sz ws)) := by
  intro a U g mk q
  obtain ⟨q0, q1, qP, qK, qD, qN, qS⟩ := q
  exact ⟨q0, q1, qP, va_K.moved (u := U) (U := U.calling g mk a) (Vm.Alike.refl U.vm) qK, qD, fun q hq => va_Nw.same rfl (rfl : U.vm = (U.calling g mk a).vm) (qN q hq), bx_str_call qS⟩

theorem mm_init : Cond.initialized "java/lang/Math" ∈ wsAll := wsAll_mem (by decide +kernel) (by decide +kernel)
theorem mm_max : Cond.static Lib.Math.max.name ∈ wsAll ∧ Cond.code Lib.Math.max.name Lib.Math.max.code 2 (some .int) ∈ wsAll := ⟨wsAll_mem (by decide +kernel) (by decide +kernel), wsAll_mem (by decide +kernel) (by decide +kernel)⟩
theorem mm_min : Cond.static Lib.Math.min.name ∈ wsAll ∧ Cond.code Lib.Math.min.name Lib.Math.min.code 2 (some .int) ∈ wsAll := ⟨wsAll_mem (by decide +kernel) (by decide +kernel), wsAll_mem (by decide +kernel) (by decide +kernel)⟩
theorem mm_abs : Cond.static Lib.Math.abs.name ∈ wsAll ∧ Cond.code Lib.Math.abs.name Lib.Math.abs.code 1 (some .int) ∈ wsAll := ⟨wsAll_mem (by decide +kernel) (by decide +kernel), wsAll_mem (by decide +kernel) (by decide +kernel)⟩
/-- a callee: its code, its class stands, its name's class, how many values it takes -/
abbrev bx_FB (y : MethodName) (cd : ByteArray) (nc : Nat) (tyc : Option FieldType) (ar : Nat) : Prop := Cond.code y cd nc tyc ∈ wsAll ∧ Cond.initialized y.cls ∈ wsAll ∧ y.cls ≠ "java/lang/invoke/MethodHandle" ∧ y.cls ≠ "java/lang/invoke/VarHandle" ∧ (parseMethodDescriptor y.desc).map (fun d => d.parameters.length) = some ar
abbrev bx_FL (own : String) (i : Nat) (y : MethodName) (cd : ByteArray) (nc : Nat) (tyc : Option FieldType) (ar : Nat) : Prop := bx_FB y cd nc tyc ar ∧ Cond.methodLink own i y ∈ wsAll
abbrev bx_FV (own : String) (i : Nat) (K2 : String) (y : MethodName) (cd : ByteArray) (nc : Nat) (tyc : Option FieldType) (ar : Nat) : Prop := bx_FL own i y cd nc tyc ar ∧ Cond.instanceMethod y ∈ wsAll ∧ Cond.selects K2 y y ∈ wsAll
abbrev bx_FS (own : String) (i : Nat) (y : MethodName) (cd : ByteArray) (nc : Nat) (tyc : Option FieldType) (ar : Nat) : Prop := bx_FL own i y cd nc tyc ar ∧ Cond.static y ∈ wsAll
abbrev bx_FN (own : String) (i : Nat) (y : MethodName) (cd : ByteArray) (nc : Nat) (tyc : Option FieldType) (ar : Nat) : Prop := bx_FB y cd nc tyc ar ∧ (own, i, y, "UsherRows") ∈ bx_nest ∧ Cond.static y ∈ wsAll
section BX
variable {p : Program} {l : Launch} {e : Env} {R : Room} {s : State} {m : MethodId} {args : Array Value} {below : List Frame} {meth : Method} {c : Code} {nL : Nat} {E : bx_E} {A : Nat → Prop} {Q : State → Prop} {ce sl : Nat} {b : ByteArray} {own : String} {ty : Option FieldType}
variable {pc : Nat} {lv : List (Nat × Value)} {rest : List Value} {ws : va_W}
theorem bx_pre {ps : List Nat} {wc : va_W} {H : Heap} {As : List Value} {sz : Nat} (C : bx_C p R s m args meth c b nL own ty E A ce sl) {locs : List Loc} (hP : va_P E.1 vwCl ws H) (hD : va_D A ws) (hS : va_S A s.heap H locs) (hF : ∀ q, va_A wc H.size q → A q) (hps : ps.map (fun i => ws[i]?) = wc.map some) (hnd : va_nd ps = true) (hsz : H.size = sz) : PreS s H (va_Pc As (bx_U E sz wc)) As := by
  obtain ⟨hx, hb, hml, hown, hts, hK, hN, hr, hlk, hA, hce, hst⟩ := C
  subst hsz
  refine ⟨bx_blind, fun U hU hW => ⟨rfl, by rw [hU], by rw [hU]; exact hP.sub ps (bx_fm hps), va_K.moved hW.alike hK, (hD.sub ps hnd hps).weaken (fun _ _ _ _ => trivial), fun q hq => va_Nw.warmM hW (hN q hq), bx_str_go hst hS hU hW hF⟩⟩

theorem bx_iconst (C : bx_C p R s m args meth c b nL own ty E A ce sl) {z : Int} (v : Int32) (n : Nat) (d : decode b pc = .ok (.iconst z, 1)) (hv : Int32.ofInt z = v) (hn : pc + 1 = n) (k : bx_S p l e R s m args below meth c nL E A Q ce sl n lv (.int v :: rest) ws) : bx_S p l e R s m args below meth c nL E A Q ce sl pc lv (rest) ws := by
  subst hn
  exact fun H locs ls hP hD hS hl => lv_iconst C.1 C.2.1 d hv (k H locs ls hP hD hS hl)
theorem bx_bipush (C : bx_C p R s m args meth c b nL own ty E A ce sl) {z : Int} (v : Int32) (n : Nat) (d : decode b pc = .ok (.bipush z, 2)) (hv : (Int8.ofInt z).toInt32 = v) (hn : pc + 2 = n) (k : bx_S p l e R s m args below meth c nL E A Q ce sl n lv (.int v :: rest) ws) : bx_S p l e R s m args below meth c nL E A Q ce sl pc lv (rest) ws := by
  subst hn
  exact fun H locs ls hP hD hS hl => lv_bipush C.1 C.2.1 d hv (k H locs ls hP hD hS hl)
theorem bx_sipush (C : bx_C p R s m args meth c b nL own ty E A ce sl) {z : Int} (v : Int32) (n : Nat) (d : decode b pc = .ok (.sipush z, 3)) (hv : (Int16.ofInt z).toInt32 = v) (hn : pc + 3 = n) (k : bx_S p l e R s m args below meth c nL E A Q ce sl n lv (.int v :: rest) ws) : bx_S p l e R s m args below meth c nL E A Q ce sl pc lv (rest) ws := by
  subst hn
  exact fun H locs ls hP hD hS hl => lv_sipush C.1 C.2.1 d hv (k H locs ls hP hD hS hl)
theorem bx_lconst (C : bx_C p R s m args meth c b nL own ty E A ce sl) {z : Fin 2} (v : Int64) (n : Nat) (d : decode b pc = .ok (.lconst z, 1)) (hv : Int64.ofNat (z : Nat) = v) (hn : pc + 1 = n) (k : bx_S p l e R s m args below meth c nL E A Q ce sl n lv (.long v :: rest) ws) : bx_S p l e R s m args below meth c nL E A Q ce sl pc lv (rest) ws := by
  subst hn
  exact fun H locs ls hP hD hS hl => lv_lconst C.1 C.2.1 d hv (k H locs ls hP hD hS hl)
theorem bx_iload_n (C : bx_C p R s m args meth c b nL own ty E A ce sl) {z : Fin 4} {i : Nat} {x : Int32} (n : Nat) (d : decode b pc = .ok (.iload_n z, 1)) (hi : (z : Nat) = i) (hg : bx_get lv i = some (.int x)) (hn : pc + 1 = n) (k : bx_S p l e R s m args below meth c nL E A Q ce sl n lv (.int x :: rest) ws) : bx_S p l e R s m args below meth c nL E A Q ce sl pc lv (rest) ws := by
  subst hn
  exact fun H locs ls hP hD hS hl => lv_iload_n C.1 C.2.1 d hi (bx_at hl hg) (k H locs ls hP hD hS hl)
theorem bx_iload (C : bx_C p R s m args meth c b nL own ty E A ce sl) {i : Nat} {x : Int32} (n : Nat) (d : decode b pc = .ok (.iload i, 2)) (hg : bx_get lv i = some (.int x)) (hn : pc + 2 = n) (k : bx_S p l e R s m args below meth c nL E A Q ce sl n lv (.int x :: rest) ws) : bx_S p l e R s m args below meth c nL E A Q ce sl pc lv (rest) ws := by
  subst hn
  exact fun H locs ls hP hD hS hl => lv_iload C.1 C.2.1 d (bx_at hl hg) (k H locs ls hP hD hS hl)
theorem bx_lload_n (C : bx_C p R s m args meth c b nL own ty E A ce sl) {z : Fin 4} {i : Nat} {x : Int64} (n : Nat) (d : decode b pc = .ok (.lload_n z, 1)) (hi : (z : Nat) = i) (hg : bx_get lv i = some (.long x)) (hn : pc + 1 = n) (k : bx_S p l e R s m args below meth c nL E A Q ce sl n lv (.long x :: rest) ws) : bx_S p l e R s m args below meth c nL E A Q ce sl pc lv (rest) ws := by
  subst hn
  exact fun H locs ls hP hD hS hl => lv_lload_n C.1 C.2.1 d hi (bx_at hl hg) (k H locs ls hP hD hS hl)
theorem bx_lload (C : bx_C p R s m args meth c b nL own ty E A ce sl) {i : Nat} {x : Int64} (n : Nat) (d : decode b pc = .ok (.lload i, 2)) (hg : bx_get lv i = some (.long x)) (hn : pc + 2 = n) (k : bx_S p l e R s m args below meth c nL E A Q ce sl n lv (.long x :: rest) ws) : bx_S p l e R s m args below meth c nL E A Q ce sl pc lv (rest) ws := by
  subst hn
  exact fun H locs ls hP hD hS hl => lv_lload C.1 C.2.1 d (bx_at hl hg) (k H locs ls hP hD hS hl)
theorem bx_aload_n (C : bx_C p R s m args meth c b nL own ty E A ce sl) {z : Fin 4} {i : Nat} {x : Nat} (n : Nat) (d : decode b pc = .ok (.aload_n z, 1)) (hi : (z : Nat) = i) (hg : bx_get lv i = some (.ref x)) (hn : pc + 1 = n) (k : bx_S p l e R s m args below meth c nL E A Q ce sl n lv (.ref x :: rest) ws) : bx_S p l e R s m args below meth c nL E A Q ce sl pc lv (rest) ws := by
  subst hn
  exact fun H locs ls hP hD hS hl => lv_aload_n C.1 C.2.1 d hi (bx_at hl hg) (k H locs ls hP hD hS hl)
theorem bx_aload (C : bx_C p R s m args meth c b nL own ty E A ce sl) {i : Nat} {x : Nat} (n : Nat) (d : decode b pc = .ok (.aload i, 2)) (hg : bx_get lv i = some (.ref x)) (hn : pc + 2 = n) (k : bx_S p l e R s m args below meth c nL E A Q ce sl n lv (.ref x :: rest) ws) : bx_S p l e R s m args below meth c nL E A Q ce sl pc lv (rest) ws := by
  subst hn
  exact fun H locs ls hP hD hS hl => lv_aload C.1 C.2.1 d (bx_at hl hg) (k H locs ls hP hD hS hl)
theorem bx_istore_n (C : bx_C p R s m args meth c b nL own ty E A ce sl) {z : Fin 4} {i : Nat} {x : Int32} (n : Nat) (d : decode b pc = .ok (.istore_n z, 1)) (hi : (z : Nat) = i) (hi2 : i < nL) (hn : pc + 1 = n) (k : bx_S p l e R s m args below meth c nL E A Q ce sl n ((i, Value.int x) :: lv.filter (fun q => !(q.1 == i) && !(q.1 + 1 == i && q.2.category == 2))) rest ws) : bx_S p l e R s m args below meth c nL E A Q ce sl pc lv (.int x :: rest) ws := by
  subst hn
  exact fun H locs ls hP hD hS hl => lv_istore_n C.1 C.2.1 d hi hl hi2 rfl (fun ls hl => k H locs ls hP hD hS hl)
theorem bx_istore (C : bx_C p R s m args meth c b nL own ty E A ce sl) {i : Nat} {x : Int32} (n : Nat) (d : decode b pc = .ok (.istore i, 2)) (hi2 : i < nL) (hn : pc + 2 = n) (k : bx_S p l e R s m args below meth c nL E A Q ce sl n ((i, Value.int x) :: lv.filter (fun q => !(q.1 == i) && !(q.1 + 1 == i && q.2.category == 2))) rest ws) : bx_S p l e R s m args below meth c nL E A Q ce sl pc lv (.int x :: rest) ws := by
  subst hn
  exact fun H locs ls hP hD hS hl => lv_istore C.1 C.2.1 d hl hi2 rfl (fun ls hl => k H locs ls hP hD hS hl)
theorem bx_lstore_n (C : bx_C p R s m args meth c b nL own ty E A ce sl) {z : Fin 4} {i : Nat} {x : Int64} (n : Nat) (d : decode b pc = .ok (.lstore_n z, 1)) (hi : (z : Nat) = i) (hi2 : i + 1 < nL) (hn : pc + 1 = n) (k : bx_S p l e R s m args below meth c nL E A Q ce sl n ((i, Value.long x) :: lv.filter (fun q => !(q.1 == i) && (!(q.1 == i + 1) && !(q.1 + 1 == i && q.2.category == 2)))) rest ws) : bx_S p l e R s m args below meth c nL E A Q ce sl pc lv (.long x :: rest) ws := by
  subst hn
  exact fun H locs ls hP hD hS hl => lv_lstore_n C.1 C.2.1 d hi hl hi2 rfl (fun ls hl => k H locs ls hP hD hS hl)
theorem bx_lstore (C : bx_C p R s m args meth c b nL own ty E A ce sl) {i : Nat} {x : Int64} (n : Nat) (d : decode b pc = .ok (.lstore i, 2)) (hi2 : i + 1 < nL) (hn : pc + 2 = n) (k : bx_S p l e R s m args below meth c nL E A Q ce sl n ((i, Value.long x) :: lv.filter (fun q => !(q.1 == i) && (!(q.1 == i + 1) && !(q.1 + 1 == i && q.2.category == 2)))) rest ws) : bx_S p l e R s m args below meth c nL E A Q ce sl pc lv (.long x :: rest) ws := by
  subst hn
  exact fun H locs ls hP hD hS hl => lv_lstore C.1 C.2.1 d hl hi2 rfl (fun ls hl => k H locs ls hP hD hS hl)
theorem bx_astore_n (C : bx_C p R s m args meth c b nL own ty E A ce sl) {z : Fin 4} {i : Nat} {x : Nat} (n : Nat) (d : decode b pc = .ok (.astore_n z, 1)) (hi : (z : Nat) = i) (hi2 : i < nL) (hn : pc + 1 = n) (k : bx_S p l e R s m args below meth c nL E A Q ce sl n ((i, Value.ref x) :: lv.filter (fun q => !(q.1 == i) && !(q.1 + 1 == i && q.2.category == 2))) rest ws) : bx_S p l e R s m args below meth c nL E A Q ce sl pc lv (.ref x :: rest) ws := by
  subst hn
  exact fun H locs ls hP hD hS hl => lv_astore_n C.1 C.2.1 d hi hl hi2 rfl (fun ls hl => k H locs ls hP hD hS hl)
theorem bx_astore (C : bx_C p R s m args meth c b nL own ty E A ce sl) {i : Nat} {x : Nat} (n : Nat) (d : decode b pc = .ok (.astore i, 2)) (hi2 : i < nL) (hn : pc + 2 = n) (k : bx_S p l e R s m args below meth c nL E A Q ce sl n ((i, Value.ref x) :: lv.filter (fun q => !(q.1 == i) && !(q.1 + 1 == i && q.2.category == 2))) rest ws) : bx_S p l e R s m args below meth c nL E A Q ce sl pc lv (.ref x :: rest) ws := by
  subst hn
  exact fun H locs ls hP hD hS hl => lv_astore C.1 C.2.1 d hl hi2 rfl (fun ls hl => k H locs ls hP hD hS hl)
theorem bx_iinc (C : bx_C p R s m args meth c b nL own ty E A ce sl) {i : Nat} {z : Int} {x : Int32} (y : Int32) (n : Nat) (d : decode b pc = .ok (.iinc i z, 3)) (hg : bx_get lv i = some (.int x)) (hi2 : i < nL) (hv : Int32.ofInt z = y) (hn : pc + 3 = n) (k : bx_S p l e R s m args below meth c nL E A Q ce sl n ((i, Value.int (x + y)) :: lv.filter (fun q => !(q.1 == i) && !(q.1 + 1 == i && q.2.category == 2))) rest ws) : bx_S p l e R s m args below meth c nL E A Q ce sl pc lv rest ws := by
  subst hn
  intro H locs ls hP hD hS hl
  obtain ⟨k2, hk2⟩ := bx_pl hl hg
  exact lv_iinc C.1 C.2.1 d hl hk2 (by rw [hv]) hi2 rfl (fun ls hl => k H locs ls hP hD hS hl)
theorem bx_iadd (C : bx_C p R s m args meth c b nL own ty E A ce sl) {x y : Int32} (n : Nat) (d : decode b pc = .ok (.iadd, 1)) (hn : pc + 1 = n) (k : bx_S p l e R s m args below meth c nL E A Q ce sl n lv (.int (x + y) :: rest) ws) : bx_S p l e R s m args below meth c nL E A Q ce sl pc lv (.int y :: .int x :: rest) ws := by
  subst hn
  exact fun H locs ls hP hD hS hl => lv_iadd C.1 C.2.1 d (k H locs ls hP hD hS hl)
theorem bx_isub (C : bx_C p R s m args meth c b nL own ty E A ce sl) {x y : Int32} (n : Nat) (d : decode b pc = .ok (.isub, 1)) (hn : pc + 1 = n) (k : bx_S p l e R s m args below meth c nL E A Q ce sl n lv (.int (x - y) :: rest) ws) : bx_S p l e R s m args below meth c nL E A Q ce sl pc lv (.int y :: .int x :: rest) ws := by
  subst hn
  exact fun H locs ls hP hD hS hl => lv_isub C.1 C.2.1 d (k H locs ls hP hD hS hl)
theorem bx_imul (C : bx_C p R s m args meth c b nL own ty E A ce sl) {x y : Int32} (n : Nat) (d : decode b pc = .ok (.imul, 1)) (hn : pc + 1 = n) (k : bx_S p l e R s m args below meth c nL E A Q ce sl n lv (.int (x * y) :: rest) ws) : bx_S p l e R s m args below meth c nL E A Q ce sl pc lv (.int y :: .int x :: rest) ws := by
  subst hn
  exact fun H locs ls hP hD hS hl => lv_imul C.1 C.2.1 d (k H locs ls hP hD hS hl)
theorem bx_iand (C : bx_C p R s m args meth c b nL own ty E A ce sl) {x y : Int32} (n : Nat) (d : decode b pc = .ok (.iand, 1)) (hn : pc + 1 = n) (k : bx_S p l e R s m args below meth c nL E A Q ce sl n lv (.int (x &&& y) :: rest) ws) : bx_S p l e R s m args below meth c nL E A Q ce sl pc lv (.int y :: .int x :: rest) ws := by
  subst hn
  exact fun H locs ls hP hD hS hl => lv_iand C.1 C.2.1 d (k H locs ls hP hD hS hl)
theorem bx_ior (C : bx_C p R s m args meth c b nL own ty E A ce sl) {x y : Int32} (n : Nat) (d : decode b pc = .ok (.ior, 1)) (hn : pc + 1 = n) (k : bx_S p l e R s m args below meth c nL E A Q ce sl n lv (.int (x ||| y) :: rest) ws) : bx_S p l e R s m args below meth c nL E A Q ce sl pc lv (.int y :: .int x :: rest) ws := by
  subst hn
  exact fun H locs ls hP hD hS hl => lv_ior C.1 C.2.1 d (k H locs ls hP hD hS hl)
theorem bx_ixor (C : bx_C p R s m args meth c b nL own ty E A ce sl) {x y : Int32} (n : Nat) (d : decode b pc = .ok (.ixor, 1)) (hn : pc + 1 = n) (k : bx_S p l e R s m args below meth c nL E A Q ce sl n lv (.int (x ^^^ y) :: rest) ws) : bx_S p l e R s m args below meth c nL E A Q ce sl pc lv (.int y :: .int x :: rest) ws := by
  subst hn
  exact fun H locs ls hP hD hS hl => lv_ixor C.1 C.2.1 d (k H locs ls hP hD hS hl)
theorem bx_idiv (C : bx_C p R s m args meth c b nL own ty E A ce sl) {x y : Int32} (n : Nat) (d : decode b pc = .ok (.idiv, 1)) (hz : ¬ y = 0) (hn : pc + 1 = n) (k : bx_S p l e R s m args below meth c nL E A Q ce sl n lv (.int (x / y) :: rest) ws) : bx_S p l e R s m args below meth c nL E A Q ce sl pc lv (.int y :: .int x :: rest) ws := by
  subst hn
  exact fun H locs ls hP hD hS hl => lv_idiv C.1 C.2.1 d hz (k H locs ls hP hD hS hl)
theorem bx_irem (C : bx_C p R s m args meth c b nL own ty E A ce sl) {x y : Int32} (n : Nat) (d : decode b pc = .ok (.irem, 1)) (hz : ¬ y = 0) (hn : pc + 1 = n) (k : bx_S p l e R s m args below meth c nL E A Q ce sl n lv (.int (x - x / y * y) :: rest) ws) : bx_S p l e R s m args below meth c nL E A Q ce sl pc lv (.int y :: .int x :: rest) ws := by
  subst hn
  exact fun H locs ls hP hD hS hl => lv_irem C.1 C.2.1 d hz (k H locs ls hP hD hS hl)
theorem bx_ladd (C : bx_C p R s m args meth c b nL own ty E A ce sl) {x y : Int64} (n : Nat) (d : decode b pc = .ok (.ladd, 1)) (hn : pc + 1 = n) (k : bx_S p l e R s m args below meth c nL E A Q ce sl n lv (.long (x + y) :: rest) ws) : bx_S p l e R s m args below meth c nL E A Q ce sl pc lv (.long y :: .long x :: rest) ws := by
  subst hn
  exact fun H locs ls hP hD hS hl => lv_ladd C.1 C.2.1 d (k H locs ls hP hD hS hl)
theorem bx_lsub (C : bx_C p R s m args meth c b nL own ty E A ce sl) {x y : Int64} (n : Nat) (d : decode b pc = .ok (.lsub, 1)) (hn : pc + 1 = n) (k : bx_S p l e R s m args below meth c nL E A Q ce sl n lv (.long (x - y) :: rest) ws) : bx_S p l e R s m args below meth c nL E A Q ce sl pc lv (.long y :: .long x :: rest) ws := by
  subst hn
  exact fun H locs ls hP hD hS hl => lv_lsub C.1 C.2.1 d (k H locs ls hP hD hS hl)
theorem bx_lmul (C : bx_C p R s m args meth c b nL own ty E A ce sl) {x y : Int64} (n : Nat) (d : decode b pc = .ok (.lmul, 1)) (hn : pc + 1 = n) (k : bx_S p l e R s m args below meth c nL E A Q ce sl n lv (.long (x * y) :: rest) ws) : bx_S p l e R s m args below meth c nL E A Q ce sl pc lv (.long y :: .long x :: rest) ws := by
  subst hn
  exact fun H locs ls hP hD hS hl => lv_lmul C.1 C.2.1 d (k H locs ls hP hD hS hl)
theorem bx_ldiv (C : bx_C p R s m args meth c b nL own ty E A ce sl) {x y : Int64} (n : Nat) (d : decode b pc = .ok (.ldiv, 1)) (hz : ¬ y = 0) (hn : pc + 1 = n) (k : bx_S p l e R s m args below meth c nL E A Q ce sl n lv (.long (x / y) :: rest) ws) : bx_S p l e R s m args below meth c nL E A Q ce sl pc lv (.long y :: .long x :: rest) ws := by
  subst hn
  exact fun H locs ls hP hD hS hl => lv_ldiv C.1 C.2.1 d hz (k H locs ls hP hD hS hl)
theorem bx_lrem (C : bx_C p R s m args meth c b nL own ty E A ce sl) {x y : Int64} (n : Nat) (d : decode b pc = .ok (.lrem, 1)) (hz : ¬ y = 0) (hn : pc + 1 = n) (k : bx_S p l e R s m args below meth c nL E A Q ce sl n lv (.long (x - x / y * y) :: rest) ws) : bx_S p l e R s m args below meth c nL E A Q ce sl pc lv (.long y :: .long x :: rest) ws := by
  subst hn
  exact fun H locs ls hP hD hS hl => lv_lrem C.1 C.2.1 d hz (k H locs ls hP hD hS hl)
theorem bx_lcmp (C : bx_C p R s m args meth c b nL own ty E A ce sl) {x y : Int64} (n : Nat) (d : decode b pc = .ok (.lcmp, 1)) (hn : pc + 1 = n) (k : bx_S p l e R s m args below meth c nL E A Q ce sl n lv (.int (lg_cmp x y) :: rest) ws) : bx_S p l e R s m args below meth c nL E A Q ce sl pc lv (.long y :: .long x :: rest) ws := by
  subst hn
  exact fun H locs ls hP hD hS hl => W.lcmp C.1 C.2.1 d (k H locs ls hP hD hS hl)
theorem bx_ineg (C : bx_C p R s m args meth c b nL own ty E A ce sl) {x : Int32} (n : Nat) (d : decode b pc = .ok (.ineg, 1)) (hn : pc + 1 = n) (k : bx_S p l e R s m args below meth c nL E A Q ce sl n lv (.int (-x) :: rest) ws) : bx_S p l e R s m args below meth c nL E A Q ce sl pc lv (.int x :: rest) ws := by
  subst hn
  exact fun H locs ls hP hD hS hl => lv_ineg C.1 C.2.1 d (k H locs ls hP hD hS hl)
theorem bx_ishl (C : bx_C p R s m args meth c b nL own ty E A ce sl) {x y : Int32} (n : Nat) (d : decode b pc = .ok (.ishl, 1)) (hn : pc + 1 = n) (k : bx_S p l e R s m args below meth c nL E A Q ce sl n lv (.int (x <<< (y &&& 31)) :: rest) ws) : bx_S p l e R s m args below meth c nL E A Q ce sl pc lv (.int y :: .int x :: rest) ws := by
  subst hn
  exact fun H locs ls hP hD hS hl => lv_ishl C.1 C.2.1 d (k H locs ls hP hD hS hl)
theorem bx_ishr (C : bx_C p R s m args meth c b nL own ty E A ce sl) {x y : Int32} (n : Nat) (d : decode b pc = .ok (.ishr, 1)) (hn : pc + 1 = n) (k : bx_S p l e R s m args below meth c nL E A Q ce sl n lv (.int (x >>> (y &&& 31)) :: rest) ws) : bx_S p l e R s m args below meth c nL E A Q ce sl pc lv (.int y :: .int x :: rest) ws := by
  subst hn
  exact fun H locs ls hP hD hS hl => lv_ishr C.1 C.2.1 d (k H locs ls hP hD hS hl)
theorem bx_iushr (C : bx_C p R s m args meth c b nL own ty E A ce sl) {x y : Int32} (n : Nat) (d : decode b pc = .ok (.iushr, 1)) (hn : pc + 1 = n) (k : bx_S p l e R s m args below meth c nL E A Q ce sl n lv (.int ((x.toUInt32 >>> (y.toUInt32 &&& Int32.toUInt32 31)).toInt32) :: rest) ws) : bx_S p l e R s m args below meth c nL E A Q ce sl pc lv (.int y :: .int x :: rest) ws := by
  subst hn
  exact fun H locs ls hP hD hS hl => lv_iushr C.1 C.2.1 d rfl (k H locs ls hP hD hS hl)
theorem bx_i2l (C : bx_C p R s m args meth c b nL own ty E A ce sl) {x : Int32} (n : Nat) (d : decode b pc = .ok (.i2l, 1)) (hn : pc + 1 = n) (k : bx_S p l e R s m args below meth c nL E A Q ce sl n lv (.long x.toInt64 :: rest) ws) : bx_S p l e R s m args below meth c nL E A Q ce sl pc lv (.int x :: rest) ws := by
  subst hn
  exact fun H locs ls hP hD hS hl => lv_i2l C.1 C.2.1 d rfl (k H locs ls hP hD hS hl)
theorem bx_l2i (C : bx_C p R s m args meth c b nL own ty E A ce sl) {x : Int64} (n : Nat) (d : decode b pc = .ok (.l2i, 1)) (hn : pc + 1 = n) (k : bx_S p l e R s m args below meth c nL E A Q ce sl n lv (.int x.toInt32 :: rest) ws) : bx_S p l e R s m args below meth c nL E A Q ce sl pc lv (.long x :: rest) ws := by
  subst hn
  exact fun H locs ls hP hD hS hl => lv_l2i C.1 C.2.1 d rfl (k H locs ls hP hD hS hl)
theorem bx_i2b (C : bx_C p R s m args meth c b nL own ty E A ce sl) {x : Int32} (n : Nat) (d : decode b pc = .ok (.i2b, 1)) (hn : pc + 1 = n) (k : bx_S p l e R s m args below meth c nL E A Q ce sl n lv (.int x.toInt8.toInt32 :: rest) ws) : bx_S p l e R s m args below meth c nL E A Q ce sl pc lv (.int x :: rest) ws := by
  subst hn
  exact fun H locs ls hP hD hS hl => lv_i2b C.1 C.2.1 d rfl (k H locs ls hP hD hS hl)
theorem bx_dup (C : bx_C p R s m args meth c b nL own ty E A ce sl) {v : Value} (n : Nat) (d : decode b pc = .ok (.dup, 1)) (hc : v.category = 1) (hn : pc + 1 = n) (k : bx_S p l e R s m args below meth c nL E A Q ce sl n lv (v :: v :: rest) ws) : bx_S p l e R s m args below meth c nL E A Q ce sl pc lv (v :: rest) ws := by
  subst hn
  exact fun H locs ls hP hD hS hl => lv_dup C.1 C.2.1 d hc (k H locs ls hP hD hS hl)
theorem bx_pop (C : bx_C p R s m args meth c b nL own ty E A ce sl) {va : Value} (n : Nat) (d : decode b pc = .ok (.pop, 1)) (hva : va.category = 1) (hn : pc + 1 = n) (k : bx_S p l e R s m args below meth c nL E A Q ce sl n lv (rest) ws) : bx_S p l e R s m args below meth c nL E A Q ce sl pc lv (va :: rest) ws := by
  subst hn
  exact fun H locs ls hP hD hS hl => lv_pop C.1 C.2.1 d hva (k H locs ls hP hD hS hl)
theorem bx_dup2_11 (C : bx_C p R s m args meth c b nL own ty E A ce sl) {va vb : Value} (n : Nat) (d : decode b pc = .ok (.dup2, 1)) (hva : va.category = 1) (hvb : vb.category = 1) (hn : pc + 1 = n) (k : bx_S p l e R s m args below meth c nL E A Q ce sl n lv (va :: vb :: va :: vb :: rest) ws) : bx_S p l e R s m args below meth c nL E A Q ce sl pc lv (va :: vb :: rest) ws := by
  subst hn
  exact fun H locs ls hP hD hS hl => lv_dup2_11 C.1 C.2.1 d hva hvb (k H locs ls hP hD hS hl)
theorem bx_dup_x1 (C : bx_C p R s m args meth c b nL own ty E A ce sl) {va vb : Value} (n : Nat) (d : decode b pc = .ok (.dup_x1, 1)) (hva : va.category = 1) (hvb : vb.category = 1) (hn : pc + 1 = n) (k : bx_S p l e R s m args below meth c nL E A Q ce sl n lv (va :: vb :: va :: rest) ws) : bx_S p l e R s m args below meth c nL E A Q ce sl pc lv (va :: vb :: rest) ws := by
  subst hn
  exact fun H locs ls hP hD hS hl => lv_dup_x1 C.1 C.2.1 d hva hvb (k H locs ls hP hD hS hl)
theorem bx_if_eq (C : bx_C p R s m args meth c b nL own ty E A ce sl) {x : Int32} {off : Int} (tgt n : Nat) (d : decode b pc = .ok (.ifCond .eq off, 3)) (ht : (pc : Int) + off = (tgt : Int)) (hn : pc + 3 = n) (kt : x = 0 → bx_S p l e R s m args below meth c nL E A Q ce sl tgt lv rest ws) (kf : ¬ x = 0 → bx_S p l e R s m args below meth c nL E A Q ce sl n lv rest ws) : bx_S p l e R s m args below meth c nL E A Q ce sl pc lv (.int x :: rest) ws := by
  subst hn
  exact fun H locs ls hP hD hS hl => lv_if_eq C.1 C.2.1 d ht (fun h => kt h H locs ls hP hD hS hl) (fun h => kf h H locs ls hP hD hS hl)
theorem bx_if_ne (C : bx_C p R s m args meth c b nL own ty E A ce sl) {x : Int32} {off : Int} (tgt n : Nat) (d : decode b pc = .ok (.ifCond .ne off, 3)) (ht : (pc : Int) + off = (tgt : Int)) (hn : pc + 3 = n) (kt : ¬ x = 0 → bx_S p l e R s m args below meth c nL E A Q ce sl tgt lv rest ws) (kf : x = 0 → bx_S p l e R s m args below meth c nL E A Q ce sl n lv rest ws) : bx_S p l e R s m args below meth c nL E A Q ce sl pc lv (.int x :: rest) ws := by
  subst hn
  exact fun H locs ls hP hD hS hl => lv_if_ne C.1 C.2.1 d ht (fun h => kt h H locs ls hP hD hS hl) (fun h => kf h H locs ls hP hD hS hl)
theorem bx_if_lt (C : bx_C p R s m args meth c b nL own ty E A ce sl) {x : Int32} {off : Int} (tgt n : Nat) (d : decode b pc = .ok (.ifCond .lt off, 3)) (ht : (pc : Int) + off = (tgt : Int)) (hn : pc + 3 = n) (kt : x < 0 → bx_S p l e R s m args below meth c nL E A Q ce sl tgt lv rest ws) (kf : ¬ x < 0 → bx_S p l e R s m args below meth c nL E A Q ce sl n lv rest ws) : bx_S p l e R s m args below meth c nL E A Q ce sl pc lv (.int x :: rest) ws := by
  subst hn
  exact fun H locs ls hP hD hS hl => lv_if_lt C.1 C.2.1 d ht (fun h => kt h H locs ls hP hD hS hl) (fun h => kf h H locs ls hP hD hS hl)
theorem bx_if_ge (C : bx_C p R s m args meth c b nL own ty E A ce sl) {x : Int32} {off : Int} (tgt n : Nat) (d : decode b pc = .ok (.ifCond .ge off, 3)) (ht : (pc : Int) + off = (tgt : Int)) (hn : pc + 3 = n) (kt : 0 ≤ x → bx_S p l e R s m args below meth c nL E A Q ce sl tgt lv rest ws) (kf : ¬ 0 ≤ x → bx_S p l e R s m args below meth c nL E A Q ce sl n lv rest ws) : bx_S p l e R s m args below meth c nL E A Q ce sl pc lv (.int x :: rest) ws := by
  subst hn
  exact fun H locs ls hP hD hS hl => lv_if_ge C.1 C.2.1 d ht (fun h => kt h H locs ls hP hD hS hl) (fun h => kf h H locs ls hP hD hS hl)
theorem bx_if_gt (C : bx_C p R s m args meth c b nL own ty E A ce sl) {x : Int32} {off : Int} (tgt n : Nat) (d : decode b pc = .ok (.ifCond .gt off, 3)) (ht : (pc : Int) + off = (tgt : Int)) (hn : pc + 3 = n) (kt : 0 < x → bx_S p l e R s m args below meth c nL E A Q ce sl tgt lv rest ws) (kf : ¬ 0 < x → bx_S p l e R s m args below meth c nL E A Q ce sl n lv rest ws) : bx_S p l e R s m args below meth c nL E A Q ce sl pc lv (.int x :: rest) ws := by
  subst hn
  exact fun H locs ls hP hD hS hl => lv_if_gt C.1 C.2.1 d ht (fun h => kt h H locs ls hP hD hS hl) (fun h => kf h H locs ls hP hD hS hl)
theorem bx_if_le (C : bx_C p R s m args meth c b nL own ty E A ce sl) {x : Int32} {off : Int} (tgt n : Nat) (d : decode b pc = .ok (.ifCond .le off, 3)) (ht : (pc : Int) + off = (tgt : Int)) (hn : pc + 3 = n) (kt : x ≤ 0 → bx_S p l e R s m args below meth c nL E A Q ce sl tgt lv rest ws) (kf : ¬ x ≤ 0 → bx_S p l e R s m args below meth c nL E A Q ce sl n lv rest ws) : bx_S p l e R s m args below meth c nL E A Q ce sl pc lv (.int x :: rest) ws := by
  subst hn
  exact fun H locs ls hP hD hS hl => lv_if_le C.1 C.2.1 d ht (fun h => kt h H locs ls hP hD hS hl) (fun h => kf h H locs ls hP hD hS hl)
theorem bx_icmp_eq (C : bx_C p R s m args meth c b nL own ty E A ce sl) {x y : Int32} {off : Int} (tgt n : Nat) (d : decode b pc = .ok (.if_icmp .eq off, 3)) (ht : (pc : Int) + off = (tgt : Int)) (hn : pc + 3 = n) (kt : x = y → bx_S p l e R s m args below meth c nL E A Q ce sl tgt lv rest ws) (kf : ¬ x = y → bx_S p l e R s m args below meth c nL E A Q ce sl n lv rest ws) : bx_S p l e R s m args below meth c nL E A Q ce sl pc lv (.int y :: .int x :: rest) ws := by
  subst hn
  exact fun H locs ls hP hD hS hl => lv_icmp_eq C.1 C.2.1 d ht (fun h => kt h H locs ls hP hD hS hl) (fun h => kf h H locs ls hP hD hS hl)
theorem bx_icmp_ne (C : bx_C p R s m args meth c b nL own ty E A ce sl) {x y : Int32} {off : Int} (tgt n : Nat) (d : decode b pc = .ok (.if_icmp .ne off, 3)) (ht : (pc : Int) + off = (tgt : Int)) (hn : pc + 3 = n) (kt : ¬ x = y → bx_S p l e R s m args below meth c nL E A Q ce sl tgt lv rest ws) (kf : x = y → bx_S p l e R s m args below meth c nL E A Q ce sl n lv rest ws) : bx_S p l e R s m args below meth c nL E A Q ce sl pc lv (.int y :: .int x :: rest) ws := by
  subst hn
  exact fun H locs ls hP hD hS hl => lv_icmp_ne C.1 C.2.1 d ht (fun h => kt h H locs ls hP hD hS hl) (fun h => kf h H locs ls hP hD hS hl)
theorem bx_icmp_lt (C : bx_C p R s m args meth c b nL own ty E A ce sl) {x y : Int32} {off : Int} (tgt n : Nat) (d : decode b pc = .ok (.if_icmp .lt off, 3)) (ht : (pc : Int) + off = (tgt : Int)) (hn : pc + 3 = n) (kt : x < y → bx_S p l e R s m args below meth c nL E A Q ce sl tgt lv rest ws) (kf : ¬ x < y → bx_S p l e R s m args below meth c nL E A Q ce sl n lv rest ws) : bx_S p l e R s m args below meth c nL E A Q ce sl pc lv (.int y :: .int x :: rest) ws := by
  subst hn
  exact fun H locs ls hP hD hS hl => lv_icmp_lt C.1 C.2.1 d ht (fun h => kt h H locs ls hP hD hS hl) (fun h => kf h H locs ls hP hD hS hl)
theorem bx_icmp_ge (C : bx_C p R s m args meth c b nL own ty E A ce sl) {x y : Int32} {off : Int} (tgt n : Nat) (d : decode b pc = .ok (.if_icmp .ge off, 3)) (ht : (pc : Int) + off = (tgt : Int)) (hn : pc + 3 = n) (kt : y ≤ x → bx_S p l e R s m args below meth c nL E A Q ce sl tgt lv rest ws) (kf : ¬ y ≤ x → bx_S p l e R s m args below meth c nL E A Q ce sl n lv rest ws) : bx_S p l e R s m args below meth c nL E A Q ce sl pc lv (.int y :: .int x :: rest) ws := by
  subst hn
  exact fun H locs ls hP hD hS hl => lv_icmp_ge C.1 C.2.1 d ht (fun h => kt h H locs ls hP hD hS hl) (fun h => kf h H locs ls hP hD hS hl)
theorem bx_icmp_gt (C : bx_C p R s m args meth c b nL own ty E A ce sl) {x y : Int32} {off : Int} (tgt n : Nat) (d : decode b pc = .ok (.if_icmp .gt off, 3)) (ht : (pc : Int) + off = (tgt : Int)) (hn : pc + 3 = n) (kt : y < x → bx_S p l e R s m args below meth c nL E A Q ce sl tgt lv rest ws) (kf : ¬ y < x → bx_S p l e R s m args below meth c nL E A Q ce sl n lv rest ws) : bx_S p l e R s m args below meth c nL E A Q ce sl pc lv (.int y :: .int x :: rest) ws := by
  subst hn
  exact fun H locs ls hP hD hS hl => lv_icmp_gt C.1 C.2.1 d ht (fun h => kt h H locs ls hP hD hS hl) (fun h => kf h H locs ls hP hD hS hl)
theorem bx_icmp_le (C : bx_C p R s m args meth c b nL own ty E A ce sl) {x y : Int32} {off : Int} (tgt n : Nat) (d : decode b pc = .ok (.if_icmp .le off, 3)) (ht : (pc : Int) + off = (tgt : Int)) (hn : pc + 3 = n) (kt : x ≤ y → bx_S p l e R s m args below meth c nL E A Q ce sl tgt lv rest ws) (kf : ¬ x ≤ y → bx_S p l e R s m args below meth c nL E A Q ce sl n lv rest ws) : bx_S p l e R s m args below meth c nL E A Q ce sl pc lv (.int y :: .int x :: rest) ws := by
  subst hn
  exact fun H locs ls hP hD hS hl => lv_icmp_le C.1 C.2.1 d ht (fun h => kt h H locs ls hP hD hS hl) (fun h => kf h H locs ls hP hD hS hl)
theorem bx_goto (C : bx_C p R s m args meth c b nL own ty E A ce sl) {off : Int} (tgt : Nat) (d : decode b pc = .ok (.goto off, 3)) (ht : (pc : Int) + off = (tgt : Int)) (k : bx_S p l e R s m args below meth c nL E A Q ce sl tgt lv rest ws) : bx_S p l e R s m args below meth c nL E A Q ce sl pc lv rest ws :=
  fun H locs ls hP hD hS hl => lv_goto C.1 C.2.1 d ht (k H locs ls hP hD hS hl)
theorem bx_tin (C : bx_C p R s m args meth c b nL own ty E A ce sl) {dflt lo hi : Int} {offs : Array Int} {len : Nat} {x : Int32} {off : Int} (tgt : Nat) (v : Int32) (d : decode b pc = .ok (.tableswitch dflt lo hi offs, len)) (hx : x = v) (h1 : ¬ v.toInt < lo) (h2 : ¬ hi < v.toInt) (ho : offs[(v.toInt - lo).toNat]? = some off) (ht : (pc : Int) + off = (tgt : Int)) (k : bx_S p l e R s m args below meth c nL E A Q ce sl tgt lv rest ws) : bx_S p l e R s m args below meth c nL E A Q ce sl pc lv (.int x :: rest) ws := by
  subst hx
  exact fun H locs ls hP hD hS hl => lv_tableIn C.1 C.2.1 d h1 h2 ho ht (k H locs ls hP hD hS hl)
theorem bx_tout (C : bx_C p R s m args meth c b nL own ty E A ce sl) {dflt lo hi : Int} {offs : Array Int} {len : Nat} {x : Int32} (tgt : Nat) (d : decode b pc = .ok (.tableswitch dflt lo hi offs, len)) (h : x.toInt < lo ∨ hi < x.toInt) (ht : (pc : Int) + dflt = (tgt : Int)) (k : bx_S p l e R s m args below meth c nL E A Q ce sl tgt lv rest ws) : bx_S p l e R s m args below meth c nL E A Q ce sl pc lv (.int x :: rest) ws :=
  fun H locs ls hP hD hS hl => lv_tableOut C.1 C.2.1 d h ht (k H locs ls hP hD hS hl)
theorem bx_ldc (C : bx_C p R s m args meth c b nL own ty E A ce sl) {i : Nat} {v : Int32} (n : Nat) (hc : Cond.constant own i v ∈ wsAll) (d : decode b pc = .ok (.ldc i, 2)) (hn : pc + 2 = n) (k : bx_S p l e R s m args below meth c nL E A Q ce sl n lv (.int v :: rest) ws) : bx_S p l e R s m args below meth c nL E A Q ce sl pc lv rest ws := by
  subst hn
  exact fun H locs ls hP hD hS hl => lv_ldc C.1 C.2.1 C.2.2.2.1 (C.2.2.2.2.1 _ hc) d (k H locs ls hP hD hS hl)
theorem bx_ldc2 (C : bx_C p R s m args meth c b nL own ty E A ce sl) {i : Nat} {v : Int64} (n : Nat) (hc : Cond.constantLong own i v ∈ wsAll) (d : decode b pc = .ok (.ldc2_w i, 3)) (hn : pc + 3 = n) (k : bx_S p l e R s m args below meth c nL E A Q ce sl n lv (.long v :: rest) ws) : bx_S p l e R s m args below meth c nL E A Q ce sl pc lv rest ws := by
  subst hn
  exact fun H locs ls hP hD hS hl => lv_ldc2 C.1 C.2.1 C.2.2.2.1 (C.2.2.2.2.1 _ hc) d (k H locs ls hP hD hS hl)
theorem bx_getf (C : bx_C p R s m args meth c b nL own ty E A ce sl) {K : String} {T : u_T} {N ci i a : Nat} {fs : List Value} {v : Value} (n q0 f : Nat) (hin : ∀ w ∈ u_ws K T N, w ∈ wsAll) (hc : vwCl[ci]? = some (K, T, N)) (hf : f < N) (hl : Cond.fieldLink own i (T f).1 (T f).2.1 (T f).2.2.1 ∈ wsAll) (d : decode b pc = .ok (.getfield i, 3)) (he : ws[q0]? = some (a, .inr (ci, fs))) (hv : fs[f]? = some v) (hn : pc + 3 = n) (k : bx_S p l e R s m args below meth c nL E A Q ce sl n lv (v :: rest) ws) : bx_S p l e R s m args below meth c nL E A Q ce sl pc lv (.ref a :: rest) ws := by
  subst hn
  exact fun H locs ls hP hD hS hlv => va_get C.1 C.2.1 C.2.2.2.2.1 hin C.2.2.2.1 C.2.2.2.2.2.1 hP q0 he hc f hf (C.2.2.2.2.1 _ hl) (fun _ h => h) hv d (k H locs ls hP hD hS hlv)
theorem bx_putf (C : bx_C p R s m args meth c b nL own ty E A ce sl) {K : String} {T : u_T} {N ci i a : Nat} {fs : List Value} {v : Value} (n q0 f : Nat) (ws' : va_W) (hin : ∀ w ∈ u_ws K T N, w ∈ wsAll) (t0 : Nat → FieldType) (hty : ∀ k, k < N → parseFieldDescriptor (T k).2.2.1 = some (t0 k)) (hnm : ∀ a, a < N → ∀ b, b < N → a ≠ b → (T a).2.1 ≠ (T b).2.1) (hc : vwCl[ci]? = some (K, T, N)) (hf : f < N) (hl : Cond.fieldLink own i (T f).1 (T f).2.1 (T f).2.2.1 ∈ wsAll) (hfin : (T f).2.2.2 = false) (d : decode b pc = .ok (.putfield i, 3)) (he : ws[q0]? = some (a, .inr (ci, fs))) (hna : narrow (t0 f) v = v) (hfit : fits (t0 f) v = true) (hlen : f < fs.length) (hw : ws.set q0 (a, .inr (ci, fs.set f v)) = ws') (hn : pc + 3 = n) (k : bx_S p l e R s m args below meth c nL E A Q ce sl n lv rest ws') : bx_S p l e R s m args below meth c nL E A Q ce sl pc lv (v :: .ref a :: rest) ws := by
  subst hn
  subst hw
  exact fun H locs ls hP hD hS hlv => va_put C.1 C.2.1 C.2.2.2.2.1 hin t0 hty hnm C.2.2.2.1 C.2.2.2.2.2.1 hP hD hS q0 he hc f hf (C.2.2.2.2.1 _ hl) (fun _ h => h) hfin (hty f hf) hna hfit hlen d (fun H1 locs1 hP hD hS => k H1 locs1 ls hP hD hS hlv)

theorem bx_iald (C : bx_C p R s m args meth c b nL own ty E A ce sl) {a N : Nat} {f : Nat → Int32} {i : Int32} (n q0 : Nat) (d : decode b pc = .ok (.iaload, 1)) (he : ws[q0]? = some (a, .inl (E.2 0, N, .inl f))) (hi : vp_in i N) (hn : pc + 1 = n) (k : bx_S p l e R s m args below meth c nL E A Q ce sl n lv (.int (f i.toNatClampNeg) :: rest) ws) : bx_S p l e R s m args below meth c nL E A Q ce sl pc lv (.int i :: .ref a :: rest) ws := by
  subst hn
  exact fun H locs ls hP hD hS hlv => va_iald C.1 C.2.1 C.2.2.2.2.2.1 hP q0 0 he rfl hi d (k H locs ls hP hD hS hlv)
theorem bx_zald (C : bx_C p R s m args meth c b nL own ty E A ce sl) {a N : Nat} {f : Nat → Int32} {i : Int32} (n q0 : Nat) (d : decode b pc = .ok (.baload, 1)) (he : ws[q0]? = some (a, .inl (E.2 1, N, .inl f))) (hi : vp_in i N) (hn : pc + 1 = n) (k : bx_S p l e R s m args below meth c nL E A Q ce sl n lv (.int (f i.toNatClampNeg) :: rest) ws) : bx_S p l e R s m args below meth c nL E A Q ce sl pc lv (.int i :: .ref a :: rest) ws := by
  subst hn
  exact fun H locs ls hP hD hS hlv => va_zald C.1 C.2.1 C.2.2.2.2.2.1 hP q0 1 he rfl hi d (k H locs ls hP hD hS hlv)
theorem bx_bald (C : bx_C p R s m args meth c b nL own ty E A ce sl) {a N : Nat} {f : Nat → Int32} {i : Int32} (n q0 : Nat) (d : decode b pc = .ok (.baload, 1)) (he : ws[q0]? = some (a, .inl (E.2 2, N, .inl f))) (hi : vp_in i N) (hn : pc + 1 = n) (k : bx_S p l e R s m args below meth c nL E A Q ce sl n lv (.int (f i.toNatClampNeg) :: rest) ws) : bx_S p l e R s m args below meth c nL E A Q ce sl pc lv (.int i :: .ref a :: rest) ws := by
  subst hn
  exact fun H locs ls hP hD hS hlv => va_bald C.1 C.2.1 C.2.2.2.2.2.1 hP q0 2 he rfl hi d (k H locs ls hP hD hS hlv)
theorem bx_iast (C : bx_C p R s m args meth c b nL own ty E A ce sl) {a N : Nat} {f : Nat → Int32} {i x : Int32} (n q0 : Nat) (ws' : va_W) (d : decode b pc = .ok (.iastore, 1)) (he : ws[q0]? = some (a, .inl (E.2 0, N, .inl f))) (hi : vp_in i N) (hw : ws.set q0 (a, .inl (E.2 0, N, .inl (upd f i.toNatClampNeg x))) = ws') (hn : pc + 1 = n) (k : bx_S p l e R s m args below meth c nL E A Q ce sl n lv rest ws') : bx_S p l e R s m args below meth c nL E A Q ce sl pc lv (.int x :: .int i :: .ref a :: rest) ws := by
  subst hn
  subst hw
  exact fun H locs ls hP hD hS hlv => va_iast C.1 C.2.1 C.2.2.2.2.2.1 hP hD hS q0 0 he rfl hi d (fun H1 locs1 hP hD hS => k H1 locs1 ls hP hD hS hlv)
theorem bx_zast (C : bx_C p R s m args meth c b nL own ty E A ce sl) {a N : Nat} {f : Nat → Int32} {i x : Int32} (n q0 : Nat) (ws' : va_W) (d : decode b pc = .ok (.bastore, 1)) (he : ws[q0]? = some (a, .inl (E.2 1, N, .inl f))) (hi : vp_in i N) (hw : ws.set q0 (a, .inl (E.2 1, N, .inl (upd f i.toNatClampNeg (vp_nar .boolean x)))) = ws') (hn : pc + 1 = n) (k : bx_S p l e R s m args below meth c nL E A Q ce sl n lv rest ws') : bx_S p l e R s m args below meth c nL E A Q ce sl pc lv (.int x :: .int i :: .ref a :: rest) ws := by
  subst hn
  subst hw
  exact fun H locs ls hP hD hS hlv => va_zast C.1 C.2.1 C.2.2.2.2.2.1 hP hD hS q0 1 he rfl hi d (fun H1 locs1 hP hD hS => k H1 locs1 ls hP hD hS hlv)
theorem bx_bast (C : bx_C p R s m args meth c b nL own ty E A ce sl) {a N : Nat} {f : Nat → Int32} {i x : Int32} (n q0 : Nat) (ws' : va_W) (d : decode b pc = .ok (.bastore, 1)) (he : ws[q0]? = some (a, .inl (E.2 2, N, .inl f))) (hi : vp_in i N) (hw : ws.set q0 (a, .inl (E.2 2, N, .inl (upd f i.toNatClampNeg (vp_nar .byte x)))) = ws') (hn : pc + 1 = n) (k : bx_S p l e R s m args below meth c nL E A Q ce sl n lv rest ws') : bx_S p l e R s m args below meth c nL E A Q ce sl pc lv (.int x :: .int i :: .ref a :: rest) ws := by
  subst hn
  subst hw
  exact fun H locs ls hP hD hS hlv => va_bast C.1 C.2.1 C.2.2.2.2.2.1 hP hD hS q0 2 he rfl hi d (fun H1 locs1 hP hD hS => k H1 locs1 ls hP hD hS hlv)
theorem bx_aald (C : bx_C p R s m args meth c b nL own ty E A ce sl) {a N : Nat} {f : Nat → Option Nat} {i : Int32} {z : Nat} (n q0 : Nat) (d : decode b pc = .ok (.aaload, 1)) (he : ws[q0]? = some (a, .inl (E.2 3, N, .inr (.inr (.inr (.inr f)))))) (hi : vp_in i N) (hz : f i.toNatClampNeg = some z) (hn : pc + 1 = n) (k : bx_S p l e R s m args below meth c nL E A Q ce sl n lv (.ref z :: rest) ws) : bx_S p l e R s m args below meth c nL E A Q ce sl pc lv (.int i :: .ref a :: rest) ws := by
  subst hn
  exact fun H locs ls hP hD hS hlv => va_aldq C.1 C.2.1 C.2.2.2.2.2.1 hP q0 3 he rfl hi d (by rw [hz]; exact k H locs ls hP hD hS hlv)
theorem bx_alen (C : bx_C p R s m args meth c b nL own ty E A ce sl) {a t0 : Nat} {cA : ClassId} {x : vp_A} {y : FieldType} {v : Int32} (n q0 : Nat) (d : decode b pc = .ok (.arraylength, 1)) (he : ws[q0]? = some (a, .inl (cA, x))) (ht : (bx_tys E)[t0]? = some (cA, y)) (hv : Int32.ofNat x.1 = v) (hn : pc + 1 = n) (k : bx_S p l e R s m args below meth c nL E A Q ce sl n lv (.int v :: rest) ws) : bx_S p l e R s m args below meth c nL E A Q ce sl pc lv (.ref a :: rest) ws := by
  subst hn
  exact fun H locs ls hP hD hS hlv => va_alen C.1 C.2.1 C.2.2.2.2.2.1 hP q0 t0 he ht hv d (k H locs ls hP hD hS hlv)
theorem bx_iret (C : bx_C p R s m args meth c b nL own ty E A ce sl) {σ : Type} {K : Int32 → σ → Prop} {wf : σ → va_W} {v : Int32} (u : σ) (hty : ty = some .int) (d : decode b pc = .ok (.ireturn, 1)) (hw : ws = wf u) (hk : K v u) : bx_S p l e R s m args below meth c nL E A (MQ below (va_Qi K (fun u t => bx_B E A (wf u) t) A) args s ce sl A) ce sl pc lv [.int v] ws := by
  subst hw
  exact fun H locs ls hP hD hS hlv => W.iret C.1 C.2.1 (C.2.2.2.2.2.2.2.1.trans hty) (fun t ht hW => ⟨⟨v, u, rfl, hk, by rw [ht]; exact hP, hD⟩, hS.F ht⟩) hS.2.2 d C.2.2.2.2.2.2.2.2.1
theorem bx_zret (C : bx_C p R s m args meth c b nL own ty E A ce sl) {σ : Type} {K : Int32 → σ → Prop} {wf : σ → va_W} {v : Int32} (u : σ) (hty : ty = some .boolean) (d : decode b pc = .ok (.ireturn, 1)) (hw : ws = wf u) (h01 : v = 0 ∨ v = 1) (hk : K v u) : bx_S p l e R s m args below meth c nL E A (MQ below (va_Qi K (fun u t => bx_B E A (wf u) t) A) args s ce sl A) ce sl pc lv [.int v] ws := by
  subst hw
  have hn : narrow .boolean (.int v) = .int v := by rcases h01 with rfl | rfl <;> rfl
  exact fun H locs ls hP hD hS hlv => W.zret C.1 C.2.1 (C.2.2.2.2.2.2.2.1.trans hty) hn (fun t ht hW => ⟨⟨v, u, rfl, hk, by rw [ht]; exact hP, hD⟩, hS.F ht⟩) hS.2.2 d C.2.2.2.2.2.2.2.2.1
theorem bx_lret (C : bx_C p R s m args meth c b nL own ty E A ce sl) {σ : Type} {K : Int64 → σ → Prop} {wf : σ → va_W} {v : Int64} (u : σ) (hty : ty = some .long) (d : decode b pc = .ok (.lreturn, 1)) (hw : ws = wf u) (hk : K v u) : bx_S p l e R s m args below meth c nL E A (MQ below (va_Ql K (fun u t => bx_B E A (wf u) t) A) args s ce sl A) ce sl pc lv [.long v] ws := by
  subst hw
  exact fun H locs ls hP hD hS hlv => W.lret C.1 C.2.1 (C.2.2.2.2.2.2.2.1.trans hty) (fun t ht hW => ⟨⟨v, u, rfl, hk, by rw [ht]; exact hP, hD⟩, hS.F ht⟩) hS.2.2 d C.2.2.2.2.2.2.2.2.1
theorem bx_vret (C : bx_C p R s m args meth c b nL own ty E A ce sl) {σ : Type} {K : σ → Prop} {wf : σ → va_W} (u : σ) (hty : ty = none) (d : decode b pc = .ok (.return_, 1)) (hw : ws = wf u) (hk : K u) : bx_S p l e R s m args below meth c nL E A (MQ below (va_Qv K (fun u t => bx_B E A (wf u) t) A) args s ce sl A) ce sl pc lv [] ws := by
  subst hw
  exact fun H locs ls hP hD hS hlv => W.vret C.1 C.2.1 (C.2.2.2.2.2.2.2.1.trans hty) (fun t ht hW => ⟨⟨u, rfl, hk, by rw [ht]; exact hP, hD⟩, hS.F ht⟩) hS.2.2 d C.2.2.2.2.2.2.2.2.1
/-- fewer locals in another order, the world by another name -/
theorem bx_cut {lv' : List (Nat × Value)} {st : List Value} (ks : List Nat) (ws' : va_W) (hl : lv_pick lv ks = lv') (hw : ws = ws') (k : bx_S p l e R s m args below meth c nL E A Q ce sl pc lv' st ws') : bx_S p l e R s m args below meth c nL E A Q ce sl pc lv st ws := by
  subst hw
  exact fun H locs ls hP hD hS h => k H locs ls hP hD hS (lv_sub h ks hl)
theorem bx_world {st : List Value} (ws' : va_W) (hw : ws = ws') (k : bx_S p l e R s m args below meth c nL E A Q ce sl pc lv st ws') : bx_S p l e R s m args below meth c nL E A Q ce sl pc lv st ws := by
  subst hw
  exact k

theorem bx_mmax (C : bx_C p R s m args meth c b nL own ty E A ce sl) {x y : Int32} {i : Nat} (n : Nat) (hl : Cond.methodLink own i Lib.Math.max.name ∈ wsAll) (d : decode b pc = .ok (.invokestatic i, 3)) (hR : 1 ≤ R.frames ∧ 21 ≤ R.locals) (hrest : (rest.map fun v => v.category).sum ≤ 8) (hn : pc + 3 = n) (k : bx_S p l e R s m args below meth c nL E A Q ce sl n lv (.int (if x < y then y else x) :: rest) ws) : bx_S p l e R s m args below meth c nL E A Q ce sl pc lv (.int y :: .int x :: rest) ws := by
  subst hn
  have hts := C.2.2.2.2.1
  exact fun H locs ls hP hD hS hlv => va_mmax C.1 C.2.1 (C.2.2.1.trans hlv.1.symm) C.2.2.2.1 (hts _ hl) (hts _ mm_max.1) (hts _ mm_init) (hts _ mm_max.2) hR.1 (by have := hR.2; omega) C.2.2.2.2.2.2.2.2.2.2.1.1 C.2.2.2.2.2.2.2.2.2.2.1.2 d (k H locs ls hP hD hS hlv)
theorem bx_mmin (C : bx_C p R s m args meth c b nL own ty E A ce sl) {x y : Int32} {i : Nat} (n : Nat) (hl : Cond.methodLink own i Lib.Math.min.name ∈ wsAll) (d : decode b pc = .ok (.invokestatic i, 3)) (hR : 1 ≤ R.frames ∧ 21 ≤ R.locals) (hrest : (rest.map fun v => v.category).sum ≤ 8) (hn : pc + 3 = n) (k : bx_S p l e R s m args below meth c nL E A Q ce sl n lv (.int (if y < x then y else x) :: rest) ws) : bx_S p l e R s m args below meth c nL E A Q ce sl pc lv (.int y :: .int x :: rest) ws := by
  subst hn
  have hts := C.2.2.2.2.1
  exact fun H locs ls hP hD hS hlv => va_mmin C.1 C.2.1 (C.2.2.1.trans hlv.1.symm) C.2.2.2.1 (hts _ hl) (hts _ mm_min.1) (hts _ mm_init) (hts _ mm_min.2) hR.1 (by have := hR.2; omega) C.2.2.2.2.2.2.2.2.2.2.1.1 C.2.2.2.2.2.2.2.2.2.2.1.2 d (k H locs ls hP hD hS hlv)
theorem bx_mabs (C : bx_C p R s m args meth c b nL own ty E A ce sl) {x : Int32} {i : Nat} (n : Nat) (hl : Cond.methodLink own i Lib.Math.abs.name ∈ wsAll) (d : decode b pc = .ok (.invokestatic i, 3)) (hR : 1 ≤ R.frames ∧ 21 ≤ R.locals) (hrest : (rest.map fun v => v.category).sum ≤ 8) (hn : pc + 3 = n) (k : bx_S p l e R s m args below meth c nL E A Q ce sl n lv (.int (if 0 ≤ x then x else 0 - x) :: rest) ws) : bx_S p l e R s m args below meth c nL E A Q ce sl pc lv (.int x :: rest) ws := by
  subst hn
  have hts := C.2.2.2.2.1
  exact fun H locs ls hP hD hS hlv => va_mabs C.1 C.2.1 (C.2.2.1.trans hlv.1.symm) C.2.2.2.1 (hts _ hl) (hts _ mm_abs.1) (hts _ mm_init) (hts _ mm_abs.2) hR.1 (by have := hR.2; omega) C.2.2.2.2.2.2.2.2.2.2.1.1 C.2.2.2.2.2.2.2.2.2.2.1.2 d (k H locs ls hP hD hS hlv)
theorem bx_cb (C : bx_C p R s m args meth c b nL own ty E A ce sl) {y : MethodName} {cd : ByteArray} {nc ar i : Nat} {tyc : Option FieldType} {rm : Room} (F : bx_FL own i y cd nc tyc ar) (hR : rm.cells = 0 ∧ rm.slots = 0 ∧ rm.frames + 1 ≤ R.frames ∧ 8 + (nc + 11) + rm.locals ≤ R.locals) : CallB R s args own i y cd nc tyc (bx_ws y cd nc tyc) rm 0 0 ar := by
  have hts := C.2.2.2.2.1
  refine callB_of (Ts := wsAll) ar hts (bx_good (y := y) (cd := cd) (nL := nL) (ty := ty) F.1.1) rfl hR.1 hR.2.1 (hts _ F.1.2.1) (hts _ F.2) F.1.2.2 ⟨hR.2.2.1, hR.2.2.2⟩
theorem bx_callVi (C : bx_C p R s m args meth c b nL own ty E A ce sl) {y : MethodName} {cd : ByteArray} {nc ar i : Nat} {tyc : Option FieldType} {rm : Room} {σ : Type} {wf : σ → va_W} {u0 : σ} {K : Int32 → σ → Prop} {As st : List Value} {K2 : String} {T : u_T} {N ci a0 : Nat} {fs : List Value} (q0 : Nat) (hq : ws[q0]? = some (a0, .inr (ci, fs))) (hcl : vwCl[ci]? = some (K2, T, N)) (n : Nat) (F : bx_FV own i K2 y cd nc tyc ar) (hM : bx_Mi l E y cd nc tyc rm (.ref a0 :: As) wf u0 K) (d : decode b pc = .ok (.invokevirtual i, 3)) (hR : rm.cells = 0 ∧ rm.slots = 0 ∧ rm.frames + 1 ≤ R.frames ∧ 8 + (nc + 11) + rm.locals ≤ R.locals) (ps : List Nat) (hps : ps.map (fun i => ws[i]?) = (wf u0).map some) (hnd : va_nd ps = true) (hadr : ∀ u : σ, (wf u).map (fun q => q.1) = (wf u0).map (fun q => q.1)) (hlen : As.length = ar) (hst : st = As.reverse ++ .ref a0 :: rest) (hrest : (rest.map fun v => v.category).sum ≤ 8) (hn : pc + 3 = n) (kk : ∀ (r : Int32) (u : σ), K r u → bx_S p l e R s m args below meth c nL E A Q ce sl n lv (.int r :: rest) (bx_put ws ps (wf u))) : bx_S p l e R s m args below meth c nL E A Q ce sl pc lv st ws := by
  subst hn
  subst hst
  intro H locs ls hP hD hS hl
  obtain ⟨hx, hb, hml, hown, hts, hK, hNe, hr, hlk, hA, hce, hstr⟩ := id C
  have hFc := va_free (wc := wf u0) hD hS hA ps hps
  have hpre := bx_pre (As := (.ref a0 :: As)) C hP hD hS hFc hps hnd rfl
  refine va_calli (va_runV ⟨hx, hb, hml, hown, hts⟩ (hM H.size) ⟨bx_cb C F.1 hR, hts _ F.2.1, hts _ F.2.2⟩ ⟨hpre.1, va_recv hK hP hcl hq, hpre.2⟩ rfl hlen hl.1 rfl (lv_room hrest) d hce) hS (fun q _ h => hFc q h) hFc (fun r u t H1 locs1 ht hvm hw hB hz hk hS1 => ?_)
  obtain ⟨hP1, hD1⟩ := hB
  rw [ht] at hP1
  obtain ⟨hP2, hD2⟩ := bx_put_ok hP hD hps (hadr u) hk hP1
  exact kk r u hw H1 locs1 ls hP2 hD2 hS1 hl
theorem bx_callVl (C : bx_C p R s m args meth c b nL own ty E A ce sl) {y : MethodName} {cd : ByteArray} {nc ar i : Nat} {tyc : Option FieldType} {rm : Room} {σ : Type} {wf : σ → va_W} {u0 : σ} {K : Int64 → σ → Prop} {As st : List Value} {K2 : String} {T : u_T} {N ci a0 : Nat} {fs : List Value} (q0 : Nat) (hq : ws[q0]? = some (a0, .inr (ci, fs))) (hcl : vwCl[ci]? = some (K2, T, N)) (n : Nat) (F : bx_FV own i K2 y cd nc tyc ar) (hM : bx_Ml l E y cd nc tyc rm (.ref a0 :: As) wf u0 K) (d : decode b pc = .ok (.invokevirtual i, 3)) (hR : rm.cells = 0 ∧ rm.slots = 0 ∧ rm.frames + 1 ≤ R.frames ∧ 8 + (nc + 11) + rm.locals ≤ R.locals) (ps : List Nat) (hps : ps.map (fun i => ws[i]?) = (wf u0).map some) (hnd : va_nd ps = true) (hadr : ∀ u : σ, (wf u).map (fun q => q.1) = (wf u0).map (fun q => q.1)) (hlen : As.length = ar) (hst : st = As.reverse ++ .ref a0 :: rest) (hrest : (rest.map fun v => v.category).sum ≤ 8) (hn : pc + 3 = n) (kk : ∀ (r : Int64) (u : σ), K r u → bx_S p l e R s m args below meth c nL E A Q ce sl n lv (.long r :: rest) (bx_put ws ps (wf u))) : bx_S p l e R s m args below meth c nL E A Q ce sl pc lv st ws := by
  subst hn
  subst hst
  intro H locs ls hP hD hS hl
  obtain ⟨hx, hb, hml, hown, hts, hK, hNe, hr, hlk, hA, hce, hstr⟩ := id C
  have hFc := va_free (wc := wf u0) hD hS hA ps hps
  have hpre := bx_pre (As := (.ref a0 :: As)) C hP hD hS hFc hps hnd rfl
  refine va_calll (va_runV ⟨hx, hb, hml, hown, hts⟩ (hM H.size) ⟨bx_cb C F.1 hR, hts _ F.2.1, hts _ F.2.2⟩ ⟨hpre.1, va_recv hK hP hcl hq, hpre.2⟩ rfl hlen hl.1 rfl (lv_room hrest) d hce) hS (fun q _ h => hFc q h) hFc (fun r u t H1 locs1 ht hvm hw hB hz hk hS1 => ?_)
  obtain ⟨hP1, hD1⟩ := hB
  rw [ht] at hP1
  obtain ⟨hP2, hD2⟩ := bx_put_ok hP hD hps (hadr u) hk hP1
  exact kk r u hw H1 locs1 ls hP2 hD2 hS1 hl
theorem bx_callVv (C : bx_C p R s m args meth c b nL own ty E A ce sl) {y : MethodName} {cd : ByteArray} {nc ar i : Nat} {tyc : Option FieldType} {rm : Room} {σ : Type} {wf : σ → va_W} {u0 : σ} {K : σ → Prop} {As st : List Value} {K2 : String} {T : u_T} {N ci a0 : Nat} {fs : List Value} (q0 : Nat) (hq : ws[q0]? = some (a0, .inr (ci, fs))) (hcl : vwCl[ci]? = some (K2, T, N)) (n : Nat) (F : bx_FV own i K2 y cd nc tyc ar) (hM : bx_Mv l E y cd nc tyc rm (.ref a0 :: As) wf u0 K) (d : decode b pc = .ok (.invokevirtual i, 3)) (hR : rm.cells = 0 ∧ rm.slots = 0 ∧ rm.frames + 1 ≤ R.frames ∧ 8 + (nc + 11) + rm.locals ≤ R.locals) (ps : List Nat) (hps : ps.map (fun i => ws[i]?) = (wf u0).map some) (hnd : va_nd ps = true) (hadr : ∀ u : σ, (wf u).map (fun q => q.1) = (wf u0).map (fun q => q.1)) (hlen : As.length = ar) (hst : st = As.reverse ++ .ref a0 :: rest) (hrest : (rest.map fun v => v.category).sum ≤ 8) (hn : pc + 3 = n) (kk : ∀ u : σ, K u → bx_S p l e R s m args below meth c nL E A Q ce sl n lv rest (bx_put ws ps (wf u))) : bx_S p l e R s m args below meth c nL E A Q ce sl pc lv st ws := by
  subst hn
  subst hst
  intro H locs ls hP hD hS hl
  obtain ⟨hx, hb, hml, hown, hts, hK, hNe, hr, hlk, hA, hce, hstr⟩ := id C
  have hFc := va_free (wc := wf u0) hD hS hA ps hps
  have hpre := bx_pre (As := (.ref a0 :: As)) C hP hD hS hFc hps hnd rfl
  refine va_callv (va_runV ⟨hx, hb, hml, hown, hts⟩ (hM H.size) ⟨bx_cb C F.1 hR, hts _ F.2.1, hts _ F.2.2⟩ ⟨hpre.1, va_recv hK hP hcl hq, hpre.2⟩ rfl hlen hl.1 rfl (lv_room hrest) d hce) hS (fun q _ h => hFc q h) hFc (fun u t H1 locs1 ht hvm hw hB hz hk hS1 => ?_)
  obtain ⟨hP1, hD1⟩ := hB
  rw [ht] at hP1
  obtain ⟨hP2, hD2⟩ := bx_put_ok hP hD hps (hadr u) hk hP1
  exact kk u hw H1 locs1 ls hP2 hD2 hS1 hl
theorem bx_callSi (C : bx_C p R s m args meth c b nL own ty E A ce sl) {y : MethodName} {cd : ByteArray} {nc ar i : Nat} {tyc : Option FieldType} {rm : Room} {σ : Type} {wf : σ → va_W} {u0 : σ} {K : Int32 → σ → Prop} {As st : List Value} (n : Nat) (F : bx_FS own i y cd nc tyc ar) (hM : bx_Mi l E y cd nc tyc rm As wf u0 K) (d : decode b pc = .ok (.invokestatic i, 3)) (hR : rm.cells = 0 ∧ rm.slots = 0 ∧ rm.frames + 1 ≤ R.frames ∧ 8 + (nc + 11) + rm.locals ≤ R.locals) (ps : List Nat) (hps : ps.map (fun i => ws[i]?) = (wf u0).map some) (hnd : va_nd ps = true) (hadr : ∀ u : σ, (wf u).map (fun q => q.1) = (wf u0).map (fun q => q.1)) (hlen : As.length = ar) (hst : st = As.reverse ++ rest) (hrest : (rest.map fun v => v.category).sum ≤ 8) (hn : pc + 3 = n) (kk : ∀ (r : Int32) (u : σ), K r u → bx_S p l e R s m args below meth c nL E A Q ce sl n lv (.int r :: rest) (bx_put ws ps (wf u))) : bx_S p l e R s m args below meth c nL E A Q ce sl pc lv st ws := by
  subst hn
  subst hst
  intro H locs ls hP hD hS hl
  obtain ⟨hx, hb, hml, hown, hts, hK, hNe, hr, hlk, hA, hce, hstr⟩ := id C
  have hFc := va_free (wc := wf u0) hD hS hA ps hps
  have hpre := bx_pre (As := As) C hP hD hS hFc hps hnd rfl
  refine va_calli (va_runS ⟨hx, hb, hml, hown, hts⟩ (hM H.size) ⟨bx_cb C F.1 hR, hts _ F.2⟩ hpre rfl hlen hl.1 rfl (lv_room hrest) d hce) hS (fun q _ h => hFc q h) hFc (fun r u t H1 locs1 ht hvm hw hB hz hk hS1 => ?_)
  obtain ⟨hP1, hD1⟩ := hB
  rw [ht] at hP1
  obtain ⟨hP2, hD2⟩ := bx_put_ok hP hD hps (hadr u) hk hP1
  exact kk r u hw H1 locs1 ls hP2 hD2 hS1 hl
theorem bx_callSl (C : bx_C p R s m args meth c b nL own ty E A ce sl) {y : MethodName} {cd : ByteArray} {nc ar i : Nat} {tyc : Option FieldType} {rm : Room} {σ : Type} {wf : σ → va_W} {u0 : σ} {K : Int64 → σ → Prop} {As st : List Value} (n : Nat) (F : bx_FS own i y cd nc tyc ar) (hM : bx_Ml l E y cd nc tyc rm As wf u0 K) (d : decode b pc = .ok (.invokestatic i, 3)) (hR : rm.cells = 0 ∧ rm.slots = 0 ∧ rm.frames + 1 ≤ R.frames ∧ 8 + (nc + 11) + rm.locals ≤ R.locals) (ps : List Nat) (hps : ps.map (fun i => ws[i]?) = (wf u0).map some) (hnd : va_nd ps = true) (hadr : ∀ u : σ, (wf u).map (fun q => q.1) = (wf u0).map (fun q => q.1)) (hlen : As.length = ar) (hst : st = As.reverse ++ rest) (hrest : (rest.map fun v => v.category).sum ≤ 8) (hn : pc + 3 = n) (kk : ∀ (r : Int64) (u : σ), K r u → bx_S p l e R s m args below meth c nL E A Q ce sl n lv (.long r :: rest) (bx_put ws ps (wf u))) : bx_S p l e R s m args below meth c nL E A Q ce sl pc lv st ws := by
  subst hn
  subst hst
  intro H locs ls hP hD hS hl
  obtain ⟨hx, hb, hml, hown, hts, hK, hNe, hr, hlk, hA, hce, hstr⟩ := id C
  have hFc := va_free (wc := wf u0) hD hS hA ps hps
  have hpre := bx_pre (As := As) C hP hD hS hFc hps hnd rfl
  refine va_calll (va_runS ⟨hx, hb, hml, hown, hts⟩ (hM H.size) ⟨bx_cb C F.1 hR, hts _ F.2⟩ hpre rfl hlen hl.1 rfl (lv_room hrest) d hce) hS (fun q _ h => hFc q h) hFc (fun r u t H1 locs1 ht hvm hw hB hz hk hS1 => ?_)
  obtain ⟨hP1, hD1⟩ := hB
  rw [ht] at hP1
  obtain ⟨hP2, hD2⟩ := bx_put_ok hP hD hps (hadr u) hk hP1
  exact kk r u hw H1 locs1 ls hP2 hD2 hS1 hl
theorem bx_callSv (C : bx_C p R s m args meth c b nL own ty E A ce sl) {y : MethodName} {cd : ByteArray} {nc ar i : Nat} {tyc : Option FieldType} {rm : Room} {σ : Type} {wf : σ → va_W} {u0 : σ} {K : σ → Prop} {As st : List Value} (n : Nat) (F : bx_FS own i y cd nc tyc ar) (hM : bx_Mv l E y cd nc tyc rm As wf u0 K) (d : decode b pc = .ok (.invokestatic i, 3)) (hR : rm.cells = 0 ∧ rm.slots = 0 ∧ rm.frames + 1 ≤ R.frames ∧ 8 + (nc + 11) + rm.locals ≤ R.locals) (ps : List Nat) (hps : ps.map (fun i => ws[i]?) = (wf u0).map some) (hnd : va_nd ps = true) (hadr : ∀ u : σ, (wf u).map (fun q => q.1) = (wf u0).map (fun q => q.1)) (hlen : As.length = ar) (hst : st = As.reverse ++ rest) (hrest : (rest.map fun v => v.category).sum ≤ 8) (hn : pc + 3 = n) (kk : ∀ u : σ, K u → bx_S p l e R s m args below meth c nL E A Q ce sl n lv rest (bx_put ws ps (wf u))) : bx_S p l e R s m args below meth c nL E A Q ce sl pc lv st ws := by
  subst hn
  subst hst
  intro H locs ls hP hD hS hl
  obtain ⟨hx, hb, hml, hown, hts, hK, hNe, hr, hlk, hA, hce, hstr⟩ := id C
  have hFc := va_free (wc := wf u0) hD hS hA ps hps
  have hpre := bx_pre (As := As) C hP hD hS hFc hps hnd rfl
  refine va_callv (va_runS ⟨hx, hb, hml, hown, hts⟩ (hM H.size) ⟨bx_cb C F.1 hR, hts _ F.2⟩ hpre rfl hlen hl.1 rfl (lv_room hrest) d hce) hS (fun q _ h => hFc q h) hFc (fun u t H1 locs1 ht hvm hw hB hz hk hS1 => ?_)
  obtain ⟨hP1, hD1⟩ := hB
  rw [ht] at hP1
  obtain ⟨hP2, hD2⟩ := bx_put_ok hP hD hps (hadr u) hk hP1
  exact kk u hw H1 locs1 ls hP2 hD2 hS1 hl
theorem bx_callSNi (C : bx_C p R s m args meth c b nL own ty E A ce sl) {y : MethodName} {cd : ByteArray} {nc ar i : Nat} {tyc : Option FieldType} {rm : Room} {σ : Type} {wf : σ → va_W} {u0 : σ} {K : Int32 → σ → Prop} {As st : List Value} (n : Nat) (F : bx_FN own i y cd nc tyc ar) (hM : bx_Mi l E y cd nc tyc rm As wf u0 K) (d : decode b pc = .ok (.invokestatic i, 3)) (hR : rm.cells = 0 ∧ rm.slots = 0 ∧ rm.frames + 1 ≤ R.frames ∧ 8 + (nc + 11) + rm.locals ≤ R.locals) (ps : List Nat) (hps : ps.map (fun i => ws[i]?) = (wf u0).map some) (hnd : va_nd ps = true) (hadr : ∀ u : σ, (wf u).map (fun q => q.1) = (wf u0).map (fun q => q.1)) (hlen : As.length = ar) (hst : st = As.reverse ++ rest) (hrest : (rest.map fun v => v.category).sum ≤ 8) (hn : pc + 3 = n) (kk : ∀ (r : Int32) (u : σ), K r u → bx_S p l e R s m args below meth c nL E A Q ce sl n lv (.int r :: rest) (bx_put ws ps (wf u))) : bx_S p l e R s m args below meth c nL E A Q ce sl pc lv st ws := by
  subst hn
  subst hst
  intro H locs ls hP hD hS hl
  obtain ⟨hx, hb, hml, hown, hts, hK, hNe, hr, hlk, hA, hce, hstr⟩ := id C
  have hFc := va_free (wc := wf u0) hD hS hA ps hps
  have hpre := bx_pre (As := As) C hP hD hS hFc hps hnd rfl
  refine va_calli (va_runSN (host := "UsherRows") ⟨hx, hb, hml, hown, hts⟩ (hM H.size) ⟨va_cnB ar hts (bx_good (y := y) (cd := cd) (nL := nL) (ty := ty) F.1.1) rfl hR.1 hR.2.1 (hNe _ F.2.1) (hts _ F.1.2.1) F.1.2.2 ⟨hR.2.2.1, hR.2.2.2⟩, hts _ F.2.2, trivial⟩ hpre rfl hlen hl.1 rfl (lv_room hrest) d hce) hS (fun q _ h => hFc q h) hFc (fun r u t H1 locs1 ht hvm hw hB hz hk hS1 => ?_)
  obtain ⟨hP1, hD1⟩ := hB
  rw [ht] at hP1
  obtain ⟨hP2, hD2⟩ := bx_put_ok hP hD hps (hadr u) hk hP1
  exact kk r u hw H1 locs1 ls hP2 hD2 hS1 hl
theorem bx_callSNl (C : bx_C p R s m args meth c b nL own ty E A ce sl) {y : MethodName} {cd : ByteArray} {nc ar i : Nat} {tyc : Option FieldType} {rm : Room} {σ : Type} {wf : σ → va_W} {u0 : σ} {K : Int64 → σ → Prop} {As st : List Value} (n : Nat) (F : bx_FN own i y cd nc tyc ar) (hM : bx_Ml l E y cd nc tyc rm As wf u0 K) (d : decode b pc = .ok (.invokestatic i, 3)) (hR : rm.cells = 0 ∧ rm.slots = 0 ∧ rm.frames + 1 ≤ R.frames ∧ 8 + (nc + 11) + rm.locals ≤ R.locals) (ps : List Nat) (hps : ps.map (fun i => ws[i]?) = (wf u0).map some) (hnd : va_nd ps = true) (hadr : ∀ u : σ, (wf u).map (fun q => q.1) = (wf u0).map (fun q => q.1)) (hlen : As.length = ar) (hst : st = As.reverse ++ rest) (hrest : (rest.map fun v => v.category).sum ≤ 8) (hn : pc + 3 = n) (kk : ∀ (r : Int64) (u : σ), K r u → bx_S p l e R s m args below meth c nL E A Q ce sl n lv (.long r :: rest) (bx_put ws ps (wf u))) : bx_S p l e R s m args below meth c nL E A Q ce sl pc lv st ws := by
  subst hn
  subst hst
  intro H locs ls hP hD hS hl
  obtain ⟨hx, hb, hml, hown, hts, hK, hNe, hr, hlk, hA, hce, hstr⟩ := id C
  have hFc := va_free (wc := wf u0) hD hS hA ps hps
  have hpre := bx_pre (As := As) C hP hD hS hFc hps hnd rfl
  refine va_calll (va_runSN (host := "UsherRows") ⟨hx, hb, hml, hown, hts⟩ (hM H.size) ⟨va_cnB ar hts (bx_good (y := y) (cd := cd) (nL := nL) (ty := ty) F.1.1) rfl hR.1 hR.2.1 (hNe _ F.2.1) (hts _ F.1.2.1) F.1.2.2 ⟨hR.2.2.1, hR.2.2.2⟩, hts _ F.2.2, trivial⟩ hpre rfl hlen hl.1 rfl (lv_room hrest) d hce) hS (fun q _ h => hFc q h) hFc (fun r u t H1 locs1 ht hvm hw hB hz hk hS1 => ?_)
  obtain ⟨hP1, hD1⟩ := hB
  rw [ht] at hP1
  obtain ⟨hP2, hD2⟩ := bx_put_ok hP hD hps (hadr u) hk hP1
  exact kk r u hw H1 locs1 ls hP2 hD2 hS1 hl
theorem bx_callSNv (C : bx_C p R s m args meth c b nL own ty E A ce sl) {y : MethodName} {cd : ByteArray} {nc ar i : Nat} {tyc : Option FieldType} {rm : Room} {σ : Type} {wf : σ → va_W} {u0 : σ} {K : σ → Prop} {As st : List Value} (n : Nat) (F : bx_FN own i y cd nc tyc ar) (hM : bx_Mv l E y cd nc tyc rm As wf u0 K) (d : decode b pc = .ok (.invokestatic i, 3)) (hR : rm.cells = 0 ∧ rm.slots = 0 ∧ rm.frames + 1 ≤ R.frames ∧ 8 + (nc + 11) + rm.locals ≤ R.locals) (ps : List Nat) (hps : ps.map (fun i => ws[i]?) = (wf u0).map some) (hnd : va_nd ps = true) (hadr : ∀ u : σ, (wf u).map (fun q => q.1) = (wf u0).map (fun q => q.1)) (hlen : As.length = ar) (hst : st = As.reverse ++ rest) (hrest : (rest.map fun v => v.category).sum ≤ 8) (hn : pc + 3 = n) (kk : ∀ u : σ, K u → bx_S p l e R s m args below meth c nL E A Q ce sl n lv rest (bx_put ws ps (wf u))) : bx_S p l e R s m args below meth c nL E A Q ce sl pc lv st ws := by
  subst hn
  subst hst
  intro H locs ls hP hD hS hl
  obtain ⟨hx, hb, hml, hown, hts, hK, hNe, hr, hlk, hA, hce, hstr⟩ := id C
  have hFc := va_free (wc := wf u0) hD hS hA ps hps
  have hpre := bx_pre (As := As) C hP hD hS hFc hps hnd rfl
  refine va_callv (va_runSN (host := "UsherRows") ⟨hx, hb, hml, hown, hts⟩ (hM H.size) ⟨va_cnB ar hts (bx_good (y := y) (cd := cd) (nL := nL) (ty := ty) F.1.1) rfl hR.1 hR.2.1 (hNe _ F.2.1) (hts _ F.1.2.1) F.1.2.2 ⟨hR.2.2.1, hR.2.2.2⟩, hts _ F.2.2, trivial⟩ hpre rfl hlen hl.1 rfl (lv_room hrest) d hce) hS (fun q _ h => hFc q h) hFc (fun u t H1 locs1 ht hvm hw hB hz hk hS1 => ?_)
  obtain ⟨hP1, hD1⟩ := hB
  rw [ht] at hP1
  obtain ⟨hP2, hD2⟩ := bx_put_ok hP hD hps (hadr u) hk hP1
  exact kk u hw H1 locs1 ls hP2 hD2 hS1 hl
end BX
section BM
variable {l : Launch} {E : bx_E} {y : MethodName} {cd : ByteArray} {nL : Nat} {ty : Option FieldType} {rm : Room} {av : List Value} {σ : Type} {wf : σ → va_W} {u0 : σ}
theorem bx_meti {K : Int32 → σ → Prop} (hy : plainName y.cls = true) (hlv : (lg_sl av).length ≤ nL) (body : ∀ (p : Program) (e : Env) (s : State) (m : MethodId) (below : List Frame) (meth : Method) (c : Code), bx_C p rm s m av.toArray meth c cd nL y.cls ty E (va_A (wf u0) s.heap.size) 0 0 → bx_S p l e rm s m av.toArray below meth c nL E (va_A (wf u0) s.heap.size) (MQ below (va_Qi K (fun u t => bx_B E (va_A (wf u0) s.heap.size) (wf u) t) (va_A (wf u0) s.heap.size)) av.toArray s 0 0 (va_A (wf u0) s.heap.size)) 0 0 0 (lv_args 0 av) [] (wf u0)) : bx_Mi l E y cd nL ty rm av wf u0 K := by
  intro sz
  refine Met.ofW (cc := cd) (maxL := nL) (ret := ty) hy rfl ?_
  intro p e s m args below meth c s₁ B hml hv
  obtain ⟨rfl, hsz, hP, hK, hD0, hN, hstr⟩ := hv
  have hts := atoms_spec (ws := bx_ws y cd nL ty) B.pre
  have hown : s.vm.findClass y.cls = some m.cls := findClass_of_methodNamed B.named
  subst hsz
  have hD := hD0.self (sz := s.heap.size)
  have C : bx_C p rm s m av.toArray meth c cd nL y.cls ty E (va_A (wf u0) s.heap.size) 0 0 := ⟨B.exec, B.bytes, hml, hown, fun w hw => hts w (List.mem_cons_of_mem _ hw), hK, hN, B.returns, B.notSynchronized, fun q h => Or.inr h, ⟨Nat.zero_le _, Nat.zero_le _⟩, hstr⟩
  rw [lg_entry_eq]
  exact body p e s m below meth c C s.heap [] _ hP hD va_S.rf (lv_entry av hlv)
theorem bx_metl {K : Int64 → σ → Prop} (hy : plainName y.cls = true) (hlv : (lg_sl av).length ≤ nL) (body : ∀ (p : Program) (e : Env) (s : State) (m : MethodId) (below : List Frame) (meth : Method) (c : Code), bx_C p rm s m av.toArray meth c cd nL y.cls ty E (va_A (wf u0) s.heap.size) 0 0 → bx_S p l e rm s m av.toArray below meth c nL E (va_A (wf u0) s.heap.size) (MQ below (va_Ql K (fun u t => bx_B E (va_A (wf u0) s.heap.size) (wf u) t) (va_A (wf u0) s.heap.size)) av.toArray s 0 0 (va_A (wf u0) s.heap.size)) 0 0 0 (lv_args 0 av) [] (wf u0)) : bx_Ml l E y cd nL ty rm av wf u0 K := by
  intro sz
  refine Met.ofW (cc := cd) (maxL := nL) (ret := ty) hy rfl ?_
  intro p e s m args below meth c s₁ B hml hv
  obtain ⟨rfl, hsz, hP, hK, hD0, hN, hstr⟩ := hv
  have hts := atoms_spec (ws := bx_ws y cd nL ty) B.pre
  have hown : s.vm.findClass y.cls = some m.cls := findClass_of_methodNamed B.named
  subst hsz
  have hD := hD0.self (sz := s.heap.size)
  have C : bx_C p rm s m av.toArray meth c cd nL y.cls ty E (va_A (wf u0) s.heap.size) 0 0 := ⟨B.exec, B.bytes, hml, hown, fun w hw => hts w (List.mem_cons_of_mem _ hw), hK, hN, B.returns, B.notSynchronized, fun q h => Or.inr h, ⟨Nat.zero_le _, Nat.zero_le _⟩, hstr⟩
  rw [lg_entry_eq]
  exact body p e s m below meth c C s.heap [] _ hP hD va_S.rf (lv_entry av hlv)
theorem bx_metv {K : σ → Prop} (hy : plainName y.cls = true) (hlv : (lg_sl av).length ≤ nL) (body : ∀ (p : Program) (e : Env) (s : State) (m : MethodId) (below : List Frame) (meth : Method) (c : Code), bx_C p rm s m av.toArray meth c cd nL y.cls ty E (va_A (wf u0) s.heap.size) 0 0 → bx_S p l e rm s m av.toArray below meth c nL E (va_A (wf u0) s.heap.size) (MQ below (va_Qv K (fun u t => bx_B E (va_A (wf u0) s.heap.size) (wf u) t) (va_A (wf u0) s.heap.size)) av.toArray s 0 0 (va_A (wf u0) s.heap.size)) 0 0 0 (lv_args 0 av) [] (wf u0)) : bx_Mv l E y cd nL ty rm av wf u0 K := by
  intro sz
  refine Met.ofW (cc := cd) (maxL := nL) (ret := ty) hy rfl ?_
  intro p e s m args below meth c s₁ B hml hv
  obtain ⟨rfl, hsz, hP, hK, hD0, hN, hstr⟩ := hv
  have hts := atoms_spec (ws := bx_ws y cd nL ty) B.pre
  have hown : s.vm.findClass y.cls = some m.cls := findClass_of_methodNamed B.named
  subst hsz
  have hD := hD0.self (sz := s.heap.size)
  have C : bx_C p rm s m av.toArray meth c cd nL y.cls ty E (va_A (wf u0) s.heap.size) 0 0 := ⟨B.exec, B.bytes, hml, hown, fun w hw => hts w (List.mem_cons_of_mem _ hw), hK, hN, B.returns, B.notSynchronized, fun q h => Or.inr h, ⟨Nat.zero_le _, Nat.zero_le _⟩, hstr⟩
  rw [lg_entry_eq]
  exact body p e s m below meth c C s.heap [] _ hP hD va_S.rf (lv_entry av hlv)
end BM
