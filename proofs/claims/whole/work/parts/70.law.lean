/-! THE CLAIM OUT OF ONE WALK OF THE LAW'S BODY. Your part is whole_start (and what it stands on); all else here is the same for every law, but numbers. -/
def R_law : String := "UsherRowsLaw"
def lw_P (b : Addr) (xs : List Int32) (args : Array Value) (s : State) : Prop := args = #[.ref b] ∧ s.IntsAt b xs ∧ xs.length ≤ 320 ∧ (Jvm.Cond.and given_1 narrow_1).before args s = true
def lw_Q (_ : Array Value) (s : State) (o : Outcome) (t : State) : Prop := o = .returned (some (.int 1)) ∧ Framed s o t [] 600000 7302250
def lw_Z (below : List Frame) (a : Array Value) (s : State) : State → Prop := fun t => ∃ o, t.status = .running ∧ Ended t below o ∧ lw_Q a s o t
/-- the law's own end, with 1 on the stack, nothing written that was there before, its room as the claim has it -/
theorem lw_ret {p : Program} {l : Launch} {e : Env} {s : State} {m : MethodId} {below : List Frame} {meth : Method} {c : Code} {b : Nat} (hx : p.tables.exec = Jvm.exec) (hb : c.code = code) (hr : meth.sig.returnType = ret) (hlocks : meth.locks = false) {pc : Nat} {H : Heap} {ls : Array Slot} (hdg : decode code pc = .ok (.ireturn, 1)) : W p l e room_1 s m #[Value.ref b] below meth c H [] 600000 7302250 (lw_Z below #[Value.ref b] s) (F0 m pc ls [.int 1]) := by
  intro T hT X
  obtain ⟨fs, hret, hrun, hended, hW, hframe⟩ := X.leave (v := some (.int 1)) (hlocks := hlocks) (fun h => by rw [hr] at h; cases h)
  have hmeth' : T.vm.method? m = some meth := X.method'
  refine ⟨T.setFrames fs, ?_, .returned (some (.int 1)), hrun, hended, rfl, ⟨_, rfl⟩, hW, hframe⟩
  jvm_step X.here [X.here.top, hx, hb, hdg, hmeth', hr, ret, narrow_b1]
  (try refine ⟨rfl, ?_⟩); (try refine ⟨rfl, ?_⟩)
  first | (intro acts; rw [hret _ acts rfl rfl rfl]) | rw [hret _ _ rfl rfl rfl]
  exact Steps.refl _
/-- what holds at the law's entry: the machine, the code, the tables' words (any of lw_tbl by 'hts w (by decide +kernel)'), the script of L ints xs at the cell b, what the Statement gives of the start (any of its parts by flat_of_before) -/
def lw_At (p : Program) (s : State) (m : MethodId) (meth : Method) (c : Code) (b L : Nat) (xs : Nat → Int32) : Prop :=
  p.tables.exec = Jvm.exec ∧ c.code = code ∧ meth.sig.returnType = ret ∧ c.maxLocals = 4 ∧ s.vm.findClass R_law = some m.cls ∧ (∀ w ∈ lw_tbl, w.before #[Value.ref b] s = true) ∧ va_X b L xs s s.heap ∧ b < s.heap.size ∧ meth.locks = false ∧ (Jvm.Cond.and given_1 narrow_1).before #[Value.ref b] s = true
theorem lw_psU {E : bx_E} {a b : Nat → Nat} {u : US} {mm : MS} : ([0, 1, 2, 3, 4, 5, 6, 7, 8, 9, 10, 11, 12, 13, 14, 15, 16, 17, 18, 19, 20, 21, 22, 23, 24, 25, 26, 27, 28, 29, 30, 31, 32, 33, 34, 35, 36, 37, 38, 39, 40, 41, 42, 43, 44, 45, 46, 47, 48, 49, 50, 51, 52, 53, 54, 55, 56, 57, 58, 59, 60, 61, 62, 63, 64, 65, 66, 67, 68, 69, 70, 71, 72, 73] : List Nat).map (fun i => (w_U E a u ++ w_M E b mm)[i]?) = (w_U E a u).map some := bx_map_pre (w_U E a u) (w_M E b mm)
theorem bx_put_pre {n : Nat} {ps : List Nat} {l2 l3 w1 : va_W} (h2 : l2.length = n) (h3 : ∀ p ∈ ps, p < n) : bx_put (l2 ++ l3) ps w1 = bx_put l2 ps w1 ++ l3 := by
  have h := bx_put_mid (N := 0) (n := n) (l1 := []) (l3 := l3) (l2 := l2) (w1 := w1) (ps := ps) rfl h2 h3
  have e : ps.map (fun p => 0 + p) = ps := by simp
  rw [e] at h
  exact h
theorem lw_puU {E : bx_E} {a b : Nat → Nat} {u : US} {mm : MS} (v : US) : bx_put (w_U E a u ++ w_M E b mm) [0, 1, 2, 3, 4, 5, 6, 7, 8, 9, 10, 11, 12, 13, 14, 15, 16, 17, 18, 19, 20, 21, 22, 23, 24, 25, 26, 27, 28, 29, 30, 31, 32, 33, 34, 35, 36, 37, 38, 39, 40, 41, 42, 43, 44, 45, 46, 47, 48, 49, 50, 51, 52, 53, 54, 55, 56, 57, 58, 59, 60, 61, 62, 63, 64, 65, 66, 67, 68, 69, 70, 71, 72, 73] (w_U E a v) = w_U E a v ++ w_M E b mm := by
  rw [bx_put_pre (n := 74) rfl (by decide), pu_U_U_0 v]
theorem lw_psM {E : bx_E} {a b : Nat → Nat} {u : US} {mm : MS} : ([74, 75, 76, 77, 78, 79, 80, 81, 82, 83] : List Nat).map (fun i => (w_U E a u ++ w_M E b mm)[i]?) = (w_M E b mm).map some := by
  have h := bx_map_mid (N := 74) (n := 10) (l1 := w_U E a u) (l2 := w_M E b mm) (l3 := []) (ps := [0, 1, 2, 3, 4, 5, 6, 7, 8, 9]) rfl rfl (by decide)
  rw [List.append_nil] at h
  exact h.trans rfl
theorem lw_puM {E : bx_E} {a b : Nat → Nat} {u : US} {mm : MS} (v : MS) : bx_put (w_U E a u ++ w_M E b mm) [74, 75, 76, 77, 78, 79, 80, 81, 82, 83] (w_M E b v) = w_U E a u ++ w_M E b v := by
  have h := bx_put_mid (N := 74) (n := 10) (l1 := w_U E a u) (l2 := w_M E b mm) (l3 := []) (w1 := w_M E b v) (ps := [0, 1, 2, 3, 4, 5, 6, 7, 8, 9]) rfl rfl (by decide)
  rw [List.append_nil, List.append_nil] at h
  exact h.trans rfl
theorem lw_ndU : va_nd [0, 1, 2, 3, 4, 5, 6, 7, 8, 9, 10, 11, 12, 13, 14, 15, 16, 17, 18, 19, 20, 21, 22, 23, 24, 25, 26, 27, 28, 29, 30, 31, 32, 33, 34, 35, 36, 37, 38, 39, 40, 41, 42, 43, 44, 45, 46, 47, 48, 49, 50, 51, 52, 53, 54, 55, 56, 57, 58, 59, 60, 61, 62, 63, 64, 65, 66, 67, 68, 69, 70, 71, 72, 73] = true := by decide
theorem lw_ndM : va_nd [74, 75, 76, 77, 78, 79, 80, 81, 82, 83] = true := by decide
theorem lw_adU {E : bx_E} {a : Nat → Nat} {u : US} (v : US) : (w_U E a v).map (fun q => q.1) = (w_U E a u).map (fun q => q.1) := rfl
theorem lw_adM {E : bx_E} {a : Nat → Nat} {u : MS} (v : MS) : (w_M E a v).map (fun q => q.1) = (w_M E a u).map (fun q => q.1) := rfl
theorem lw_atM {E : bx_E} {a b : Nat → Nat} {u : US} {mm : MS} : ∃ fs, (w_U E a u ++ w_M E b mm)[74]? = some (b 0, .inr (6, fs)) := ⟨_, by rw [List.getElem?_append_right (Nat.le_refl 74)]; rfl⟩
theorem lw_atU {E : bx_E} {a b : Nat → Nat} {u : US} {mm : MS} : ∃ fs, (w_U E a u ++ w_M E b mm)[0]? = some (a 0, .inr (5, fs)) := ⟨_, rfl⟩
theorem lw_cmp (x : Int64) : lg_cmp x x = 0 := by simp [lg_cmp]
section LW
variable {p : Program} {l : Launch} {e : Env} {R : Room} {s : State} {m : MethodId} {args : Array Value} {below : List Frame} {meth : Method} {c : Code} {nL : Nat} {E : bx_E} {A : Nat → Prop} {Q : State → Prop} {ce sl : Nat} {b : ByteArray} {own : String} {ty : Option FieldType}
variable {pc : Nat} {lv : List (Nat × Value)} {rest : List Value} {ws : va_W}
theorem bx_sld (C : bx_C p R s m args meth c b nL own ty E A ce sl) {q L : Nat} {xs : Nat → Int32} {i : Int32} (n : Nat) (hX : va_X q L xs s s.heap) (hbl : q < s.heap.size) (hbA : ¬ A q) (d : decode b pc = .ok (.iaload, 1)) (hi : vp_in i L) (hn : pc + 1 = n) (k : bx_S p l e R s m args below meth c nL E A Q ce sl n lv (.int (xs i.toNatClampNeg) :: rest) ws) : bx_S p l e R s m args below meth c nL E A Q ce sl pc lv (.int i :: .ref q :: rest) ws := by
  subst hn
  exact fun H locs ls hP hD hS hlv => va_sld C.1 C.2.1 hX hbl hbA hS hi d (k H locs ls hP hD hS hlv)
theorem bx_salen (C : bx_C p R s m args meth c b nL own ty E A ce sl) {q L : Nat} {xs : Nat → Int32} (n : Nat) (hX : va_X q L xs s s.heap) (hbl : q < s.heap.size) (hbA : ¬ A q) (d : decode b pc = .ok (.arraylength, 1)) (hn : pc + 1 = n) (k : bx_S p l e R s m args below meth c nL E A Q ce sl n lv (.int (nI L) :: rest) ws) : bx_S p l e R s m args below meth c nL E A Q ce sl pc lv (.ref q :: rest) ws := by
  subst hn
  exact fun H locs ls hP hD hS hlv => va_slen C.1 C.2.1 hX hbl hbA hS d (k H locs ls hP hD hS hlv)
end LW
abbrev st_hall (Rel : US → MS → Prop) : Prop := ∀ (u : US) (mm : MS), Rel u mm → V_X7_hall (fun r u2 => V_X8_hall (fun r2 mm2 => r = r2 ∧ Rel u2 mm2) mm ) u 
abbrev st_row (Rel : US → MS → Prop) : Prop := ∀ (u : US) (mm : MS) (y1 y2 : Int32), Rel u mm → V_X7_row (fun r u2 => V_X8_row (fun r2 mm2 => r = r2 ∧ Rel u2 mm2) mm y1 y2) u y1 y2
abbrev st_soul (Rel : US → MS → Prop) : Prop := ∀ (u : US) (mm : MS) (y1 y2 : Int32), Rel u mm → V_X7_soul (fun r u2 => V_X8_soul (fun r2 mm2 => r = r2 ∧ Rel u2 mm2) mm y1 y2) u y1 y2
abbrev st_type (Rel : US → MS → Prop) : Prop := ∀ (u : US) (mm : MS) (y1 : Int32), Rel u mm → V_X7_type (fun r u2 => V_X8_type (fun r2 mm2 => r = r2 ∧ Rel u2 mm2) mm y1) u y1
abbrev st_clear (Rel : US → MS → Prop) : Prop := ∀ (u : US) (mm : MS), Rel u mm → V_X7_clear (fun r u2 => V_X8_clear (fun r2 mm2 => r = r2 ∧ Rel u2 mm2) mm ) u 
abbrev st_read (Rel : US → MS → Prop) : Prop := ∀ (u : US) (mm : MS), Rel u mm → V_X7_read (fun r u2 => V_X8_read (fun r2 mm2 => r = r2 ∧ Rel u2 mm2) mm ) u 
abbrev st_shows (Rel : US → MS → Prop) : Prop := ∀ (u : US) (mm : MS) (y1 y2 : Int32), Rel u mm → V_X7_shows (fun r u2 => V_X8_shows (fun r2 mm2 => r = r2 ∧ Rel u2 mm2) mm y1 y2) u y1 y2
abbrev st_moves (Rel : US → MS → Prop) : Prop := ∀ (u : US) (mm : MS) (y1 y2 : Int32), Rel u mm → V_X7_moves (fun r u2 => V_X8_moves (fun r2 mm2 => r = r2 ∧ Rel u2 mm2) mm y1 y2) u y1 y2
abbrev st_sends (Rel : US → MS → Prop) : Prop := ∀ (u : US) (mm : MS) (y1 : Int32), Rel u mm → V_X7_sends (fun r u2 => V_X8_sends (fun r2 mm2 => r = r2 ∧ Rel u2 mm2) mm y1) u y1
abbrev st_coat (Rel : US → MS → Prop) : Prop := ∀ (u : US) (mm : MS) (y1 y2 : Int32), Rel u mm → V_X7_coat (fun r u2 => V_X8_coat (fun r2 mm2 => r = r2 ∧ Rel u2 mm2) mm y1 y2) u y1 y2
abbrev st_minutes (Rel : US → MS → Prop) : Prop := ∀ (u : US) (mm : MS) (y1 : Int32), Rel u mm → V_X7_minutes (fun r u2 => V_X8_minutes (fun r2 mm2 => r = r2 ∧ Rel u2 mm2) mm y1) u y1
abbrev st_undo (Rel : US → MS → Prop) : Prop := ∀ (u : US) (mm : MS), Rel u mm → V_X7_undo (fun r u2 => V_X8_undo (fun r2 mm2 => r = r2 ∧ Rel u2 mm2) mm ) u 
abbrev st_of (Rel : US → MS → Prop) : Prop := ∀ (u : US) (mm : MS) (y1 y2 : Int32), Rel u mm → V_X7_of (fun r u2 => V_X8_of (fun r2 mm2 => r = r2 ∧ Rel u2 mm2) mm y1 y2) u y1 y2
abbrev st_about (Rel : US → MS → Prop) : Prop := ∀ (u : US) (mm : MS) (y1 y2 : Int32), Rel u mm → V_X7_about (fun r u2 => V_X8_about (fun r2 mm2 => r = r2 ∧ Rel u2 mm2) mm y1 y2) u y1 y2
abbrev st_makes (Rel : US → MS → Prop) : Prop := ∀ (u : US) (mm : MS) (y1 y2 : Int32), Rel u mm → V_X7_makes (fun r u2 => V_X8_makes (fun r2 mm2 => r = r2 ∧ Rel u2 mm2) mm y1 y2) u y1 y2
abbrev st_order (Rel : US → MS → Prop) : Prop := ∀ (u : US) (mm : MS) (y1 : Int32), Rel u mm → V_X7_order (fun r u2 => V_X8_order (fun r2 mm2 => r = r2 ∧ Rel u2 mm2) mm y1) u y1
abbrev st_best (Rel : US → MS → Prop) : Prop := ∀ (u : US) (mm : MS) (y1 y2 : Int32), Rel u mm → V_X7_best (fun r u2 => V_X8_best (fun r2 mm2 => r = r2 ∧ Rel u2 mm2) mm y1 y2) u y1 y2
abbrev st_beside (Rel : US → MS → Prop) : Prop := ∀ (u : US) (mm : MS) (y1 y2 y3 : Int32), Rel u mm → V_X7_beside (fun r u2 => V_X8_beside (fun r2 mm2 => r = r2 ∧ Rel u2 mm2) mm y1 y2 y3) u y1 y2 y3
abbrev st_wrong (Rel : US → MS → Prop) : Prop := ∀ (u : US) (mm : MS), Rel u mm → V_X7_wrong (fun r => V_X8_wrong (fun r2 => r = r2 ∧ Rel u mm) mm ) u 
abbrev st_swaps (Rel : US → MS → Prop) : Prop := ∀ (u : US) (mm : MS), Rel u mm → V_X7_swaps (fun r => V_X8_swaps (fun r2 => r = r2 ∧ Rel u mm) mm ) u 
abbrev st_seen (Rel : US → MS → Prop) : Prop := ∀ (u : US) (mm : MS) (y1 y2 y3 : Int32), Rel u mm → V_X7_seen (fun r u2 => V_X8_seen (fun r2 mm2 => r = r2 ∧ Rel u2 mm2) mm y1 y2 y3) u y1 y2 y3
abbrev st_where (Rel : US → MS → Prop) : Prop := ∀ (u : US) (mm : MS) (y1 y2 : Int32), Rel u mm → V_X7_where (fun r u2 => V_X8_where (fun r2 mm2 => r = r2 ∧ Rel u2 mm2) mm y1 y2) u y1 y2
abbrev st_tell (Rel : US → MS → Prop) : Prop := ∀ (u : US) (mm : MS) (y1 : Int32), Rel u mm → V_X7_tell (fun r u2 => V_X8_tell (fun r2 mm2 => r = r2 ∧ Rel u2 mm2) mm y1) u y1
abbrev st_note (Rel : US → MS → Prop) : Prop := ∀ (u : US) (mm : MS) (y1 y2 y3 : Int32), Rel u mm → V_X7_note (fun r u2 => V_X8_note (fun r2 mm2 => r = r2 ∧ Rel u2 mm2) mm y1 y2 y3) u y1 y2 y3
abbrev st_mark (Rel : US → MS → Prop) : Prop := ∀ (u : US) (mm : MS) (y1 y2 y3 y4 : Int32), Rel u mm → V_X7_mark (fun r u2 => V_X8_mark (fun r2 mm2 => r = r2 ∧ Rel u2 mm2) mm y1 y2 y3 y4) u y1 y2 y3 y4
abbrev st_forget (Rel : US → MS → Prop) : Prop := ∀ (u : US) (mm : MS) (y1 : Int32), Rel u mm → V_X7_forget (fun r u2 => V_X8_forget (fun r2 mm2 => r = r2 ∧ Rel u2 mm2) mm y1) u y1
abbrev st_is (Rel : US → MS → Prop) : Prop := ∀ (u : US) (mm : MS) (y1 : Int32), Rel u mm → V_X7_is (fun r u2 => V_X8_is (fun r2 mm2 => r = r2 ∧ Rel u2 mm2) mm y1) u y1
abbrev st_look (Rel : US → MS → Prop) : Prop := ∀ (u : US) (mm : MS) (y1 : Int32), Rel u mm → V_X7_look (fun r u2 => V_X8_look (fun r2 mm2 => r = r2 ∧ Rel u2 mm2) mm y1) u y1
abbrev st_kinds (Rel : US → MS → Prop) : Prop := ∀ (u : US) (mm : MS) (y1 : Int32), Rel u mm → V_X7_kinds (fun r u2 => V_X8_kinds (fun r2 mm2 => r = r2 ∧ Rel u2 mm2) mm y1) u y1
abbrev st_ask (Rel : US → MS → Prop) : Prop := ∀ (u : US) (mm : MS) (y1 : Int32), Rel u mm → V_X7_ask (fun r u2 => V_X8_ask (fun r2 mm2 => r = r2 ∧ Rel u2 mm2) mm y1) u y1
abbrev st_whispers (Rel : US → MS → Prop) : Prop := ∀ (u : US) (mm : MS) (y1 y2 y3 : Int32), Rel u mm → V_X7_whispers (fun r u2 => V_X8_whispers (fun r2 mm2 => r = r2 ∧ Rel u2 mm2) mm y1 y2 y3) u y1 y2 y3
abbrev st_wet (Rel : US → MS → Prop) : Prop := ∀ (u : US) (mm : MS) (y1 y2 : Int32), Rel u mm → V_X7_wet (fun r u2 => V_X8_wet (fun r2 mm2 => r = r2 ∧ Rel u2 mm2) mm y1 y2) u y1 y2
abbrev st_evenings (Rel : US → MS → Prop) : Prop := ∀ (u : US) (mm : MS) (y1 y2 : Int32), Rel u mm → V_X7_evenings (fun r u2 => V_X8_evenings (fun r2 mm2 => r = r2 ∧ Rel u2 mm2) mm y1 y2) u y1 y2
abbrev st_part (Rel : US → MS → Prop) : Prop := ∀ (u : US) (mm : MS) (y1 : Int32), Rel u mm → V_X7_part (fun r u2 => V_X8_part (fun r2 mm2 => r = r2 ∧ Rel u2 mm2) mm y1) u y1
abbrev st_image (Rel : US → MS → Prop) : Prop := ∀ (u : US) (mm : MS) (y1 : Int32), Rel u mm → V_X7_image (fun r u2 => V_X8_image (fun r2 mm2 => r = r2 ∧ Rel u2 mm2) mm y1) u y1
abbrev st_from (Rel : US → MS → Prop) : Prop := ∀ (u : US) (mm : MS) (y1 : Int32), Rel u mm → V_X7_from (fun r u2 => V_X8_from (fun r2 mm2 => r = r2 ∧ Rel u2 mm2) mm y1) u y1
abbrev st_status (Rel : US → MS → Prop) : Prop := ∀ (u : US) (mm : MS) (y1 : Int32), Rel u mm → V_X7_status (fun r u2 => V_X8_status (fun r2 mm2 => r = r2 ∧ Rel u2 mm2) mm y1) u y1
abbrev st_count (Rel : US → MS → Prop) : Prop := ∀ (u : US) (mm : MS) (y1 : Int32), Rel u mm → V_X7_count (fun r u2 => V_X8_count (fun r2 mm2 => r = r2 ∧ Rel u2 mm2) mm y1) u y1
abbrev st_digest (Rel : US → MS → Prop) : Prop := ∀ (u : US) (mm : MS), Rel u mm → V_X7_digest (fun r => V_X8_digest (fun r2 => r = r2 ∧ Rel u mm) mm ) u 
def law_ok (Rel : US → MS → Prop) : Prop := st_hall Rel ∧ st_row Rel ∧ st_soul Rel ∧ st_type Rel ∧ st_clear Rel ∧ st_read Rel ∧ st_shows Rel ∧ st_moves Rel ∧ st_sends Rel ∧ st_coat Rel ∧ st_minutes Rel ∧ st_undo Rel ∧ st_of Rel ∧ st_about Rel ∧ st_makes Rel ∧ st_order Rel ∧ st_best Rel ∧ st_beside Rel ∧ st_wrong Rel ∧ st_swaps Rel ∧ st_seen Rel ∧ st_where Rel ∧ st_tell Rel ∧ st_note Rel ∧ st_mark Rel ∧ st_forget Rel ∧ st_is Rel ∧ st_look Rel ∧ st_kinds Rel ∧ st_ask Rel ∧ st_whispers Rel ∧ st_wet Rel ∧ st_evenings Rel ∧ st_part Rel ∧ st_image Rel ∧ st_from Rel ∧ st_status Rel ∧ st_count Rel ∧ st_digest Rel
theorem fb_X7_hall : bx_FB yX7_hall cX7_hall 2 (some .int) 0 := ⟨(wsAll_mem (List.mem_of_getElem? (i := 289) (by decide +kernel)) (by decide +kernel)), (wsAll_mem (List.mem_of_getElem? (i := 72) (by decide +kernel)) (by decide +kernel)), by decide +kernel, by decide +kernel, by decide +kernel⟩
theorem fc_L_13 : bx_FV RL 13 RX7 yX7_hall cX7_hall 2 (some .int) 0 := ⟨⟨fb_X7_hall, (wsAll_mem (List.mem_of_getElem? (i := 286) (by decide +kernel)) (by decide +kernel))⟩, (wsAll_mem (List.mem_of_getElem? (i := 287) (by decide +kernel)) (by decide +kernel)), (wsAll_mem (List.mem_of_getElem? (i := 288) (by decide +kernel)) (by decide +kernel))⟩
theorem fb_X8_hall : bx_FB yX8_hall cX8_hall 2 (some .int) 0 := ⟨(wsAll_mem (List.mem_of_getElem? (i := 961) (by decide +kernel)) (by decide +kernel)), (wsAll_mem (List.mem_of_getElem? (i := 79) (by decide +kernel)) (by decide +kernel)), by decide +kernel, by decide +kernel, by decide +kernel⟩
theorem fc_L_17 : bx_FV RL 17 RX8 yX8_hall cX8_hall 2 (some .int) 0 := ⟨⟨fb_X8_hall, (wsAll_mem (List.mem_of_getElem? (i := 958) (by decide +kernel)) (by decide +kernel))⟩, (wsAll_mem (List.mem_of_getElem? (i := 959) (by decide +kernel)) (by decide +kernel)), (wsAll_mem (List.mem_of_getElem? (i := 960) (by decide +kernel)) (by decide +kernel))⟩
theorem fb_X7_row : bx_FB yX7_row cX7_row 4 (some .int) 2 := ⟨(wsAll_mem (List.mem_of_getElem? (i := 301) (by decide +kernel)) (by decide +kernel)), (wsAll_mem (List.mem_of_getElem? (i := 72) (by decide +kernel)) (by decide +kernel)), by decide +kernel, by decide +kernel, by decide +kernel⟩
theorem fc_L_18 : bx_FV RL 18 RX7 yX7_row cX7_row 4 (some .int) 2 := ⟨⟨fb_X7_row, (wsAll_mem (List.mem_of_getElem? (i := 298) (by decide +kernel)) (by decide +kernel))⟩, (wsAll_mem (List.mem_of_getElem? (i := 299) (by decide +kernel)) (by decide +kernel)), (wsAll_mem (List.mem_of_getElem? (i := 300) (by decide +kernel)) (by decide +kernel))⟩
theorem fb_X8_row : bx_FB yX8_row cX8_row 4 (some .int) 2 := ⟨(wsAll_mem (List.mem_of_getElem? (i := 968) (by decide +kernel)) (by decide +kernel)), (wsAll_mem (List.mem_of_getElem? (i := 79) (by decide +kernel)) (by decide +kernel)), by decide +kernel, by decide +kernel, by decide +kernel⟩
theorem fc_L_22 : bx_FV RL 22 RX8 yX8_row cX8_row 4 (some .int) 2 := ⟨⟨fb_X8_row, (wsAll_mem (List.mem_of_getElem? (i := 965) (by decide +kernel)) (by decide +kernel))⟩, (wsAll_mem (List.mem_of_getElem? (i := 966) (by decide +kernel)) (by decide +kernel)), (wsAll_mem (List.mem_of_getElem? (i := 967) (by decide +kernel)) (by decide +kernel))⟩
theorem fb_X7_soul : bx_FB yX7_soul cX7_soul 3 (some .int) 2 := ⟨(wsAll_mem (List.mem_of_getElem? (i := 313) (by decide +kernel)) (by decide +kernel)), (wsAll_mem (List.mem_of_getElem? (i := 72) (by decide +kernel)) (by decide +kernel)), by decide +kernel, by decide +kernel, by decide +kernel⟩
theorem fc_L_23 : bx_FV RL 23 RX7 yX7_soul cX7_soul 3 (some .int) 2 := ⟨⟨fb_X7_soul, (wsAll_mem (List.mem_of_getElem? (i := 310) (by decide +kernel)) (by decide +kernel))⟩, (wsAll_mem (List.mem_of_getElem? (i := 311) (by decide +kernel)) (by decide +kernel)), (wsAll_mem (List.mem_of_getElem? (i := 312) (by decide +kernel)) (by decide +kernel))⟩
theorem fb_X8_soul : bx_FB yX8_soul cX8_soul 3 (some .int) 2 := ⟨(wsAll_mem (List.mem_of_getElem? (i := 981) (by decide +kernel)) (by decide +kernel)), (wsAll_mem (List.mem_of_getElem? (i := 79) (by decide +kernel)) (by decide +kernel)), by decide +kernel, by decide +kernel, by decide +kernel⟩
theorem fc_L_26 : bx_FV RL 26 RX8 yX8_soul cX8_soul 3 (some .int) 2 := ⟨⟨fb_X8_soul, (wsAll_mem (List.mem_of_getElem? (i := 978) (by decide +kernel)) (by decide +kernel))⟩, (wsAll_mem (List.mem_of_getElem? (i := 979) (by decide +kernel)) (by decide +kernel)), (wsAll_mem (List.mem_of_getElem? (i := 980) (by decide +kernel)) (by decide +kernel))⟩
theorem fb_X7_type : bx_FB yX7_type cX7_type 2 (some .int) 1 := ⟨(wsAll_mem (List.mem_of_getElem? (i := 325) (by decide +kernel)) (by decide +kernel)), (wsAll_mem (List.mem_of_getElem? (i := 72) (by decide +kernel)) (by decide +kernel)), by decide +kernel, by decide +kernel, by decide +kernel⟩
theorem fc_L_27 : bx_FV RL 27 RX7 yX7_type cX7_type 2 (some .int) 1 := ⟨⟨fb_X7_type, (wsAll_mem (List.mem_of_getElem? (i := 322) (by decide +kernel)) (by decide +kernel))⟩, (wsAll_mem (List.mem_of_getElem? (i := 323) (by decide +kernel)) (by decide +kernel)), (wsAll_mem (List.mem_of_getElem? (i := 324) (by decide +kernel)) (by decide +kernel))⟩
theorem fb_X8_type : bx_FB yX8_type cX8_type 2 (some .int) 1 := ⟨(wsAll_mem (List.mem_of_getElem? (i := 996) (by decide +kernel)) (by decide +kernel)), (wsAll_mem (List.mem_of_getElem? (i := 79) (by decide +kernel)) (by decide +kernel)), by decide +kernel, by decide +kernel, by decide +kernel⟩
theorem fc_L_31 : bx_FV RL 31 RX8 yX8_type cX8_type 2 (some .int) 1 := ⟨⟨fb_X8_type, (wsAll_mem (List.mem_of_getElem? (i := 993) (by decide +kernel)) (by decide +kernel))⟩, (wsAll_mem (List.mem_of_getElem? (i := 994) (by decide +kernel)) (by decide +kernel)), (wsAll_mem (List.mem_of_getElem? (i := 995) (by decide +kernel)) (by decide +kernel))⟩
theorem fb_X7_clear : bx_FB yX7_clear cX7_clear 1 (some .int) 0 := ⟨(wsAll_mem (List.mem_of_getElem? (i := 337) (by decide +kernel)) (by decide +kernel)), (wsAll_mem (List.mem_of_getElem? (i := 72) (by decide +kernel)) (by decide +kernel)), by decide +kernel, by decide +kernel, by decide +kernel⟩
theorem fc_L_32 : bx_FV RL 32 RX7 yX7_clear cX7_clear 1 (some .int) 0 := ⟨⟨fb_X7_clear, (wsAll_mem (List.mem_of_getElem? (i := 334) (by decide +kernel)) (by decide +kernel))⟩, (wsAll_mem (List.mem_of_getElem? (i := 335) (by decide +kernel)) (by decide +kernel)), (wsAll_mem (List.mem_of_getElem? (i := 336) (by decide +kernel)) (by decide +kernel))⟩
theorem fb_X8_clear : bx_FB yX8_clear cX8_clear 2 (some .int) 0 := ⟨(wsAll_mem (List.mem_of_getElem? (i := 1001) (by decide +kernel)) (by decide +kernel)), (wsAll_mem (List.mem_of_getElem? (i := 79) (by decide +kernel)) (by decide +kernel)), by decide +kernel, by decide +kernel, by decide +kernel⟩
theorem fc_L_35 : bx_FV RL 35 RX8 yX8_clear cX8_clear 2 (some .int) 0 := ⟨⟨fb_X8_clear, (wsAll_mem (List.mem_of_getElem? (i := 998) (by decide +kernel)) (by decide +kernel))⟩, (wsAll_mem (List.mem_of_getElem? (i := 999) (by decide +kernel)) (by decide +kernel)), (wsAll_mem (List.mem_of_getElem? (i := 1000) (by decide +kernel)) (by decide +kernel))⟩
theorem fb_X7_read : bx_FB yX7_read cX7_read 2 (some .int) 0 := ⟨(wsAll_mem (List.mem_of_getElem? (i := 345) (by decide +kernel)) (by decide +kernel)), (wsAll_mem (List.mem_of_getElem? (i := 72) (by decide +kernel)) (by decide +kernel)), by decide +kernel, by decide +kernel, by decide +kernel⟩
theorem fc_L_36 : bx_FV RL 36 RX7 yX7_read cX7_read 2 (some .int) 0 := ⟨⟨fb_X7_read, (wsAll_mem (List.mem_of_getElem? (i := 342) (by decide +kernel)) (by decide +kernel))⟩, (wsAll_mem (List.mem_of_getElem? (i := 343) (by decide +kernel)) (by decide +kernel)), (wsAll_mem (List.mem_of_getElem? (i := 344) (by decide +kernel)) (by decide +kernel))⟩
theorem fb_X8_read : bx_FB yX8_read cX8_read 3 (some .int) 0 := ⟨(wsAll_mem (List.mem_of_getElem? (i := 1005) (by decide +kernel)) (by decide +kernel)), (wsAll_mem (List.mem_of_getElem? (i := 79) (by decide +kernel)) (by decide +kernel)), by decide +kernel, by decide +kernel, by decide +kernel⟩
theorem fc_L_39 : bx_FV RL 39 RX8 yX8_read cX8_read 3 (some .int) 0 := ⟨⟨fb_X8_read, (wsAll_mem (List.mem_of_getElem? (i := 1002) (by decide +kernel)) (by decide +kernel))⟩, (wsAll_mem (List.mem_of_getElem? (i := 1003) (by decide +kernel)) (by decide +kernel)), (wsAll_mem (List.mem_of_getElem? (i := 1004) (by decide +kernel)) (by decide +kernel))⟩
theorem fb_X7_shows : bx_FB yX7_shows cX7_shows 3 (some .int) 2 := ⟨(wsAll_mem (List.mem_of_getElem? (i := 523) (by decide +kernel)) (by decide +kernel)), (wsAll_mem (List.mem_of_getElem? (i := 72) (by decide +kernel)) (by decide +kernel)), by decide +kernel, by decide +kernel, by decide +kernel⟩
theorem fc_L_40 : bx_FV RL 40 RX7 yX7_shows cX7_shows 3 (some .int) 2 := ⟨⟨fb_X7_shows, (wsAll_mem (List.mem_of_getElem? (i := 520) (by decide +kernel)) (by decide +kernel))⟩, (wsAll_mem (List.mem_of_getElem? (i := 521) (by decide +kernel)) (by decide +kernel)), (wsAll_mem (List.mem_of_getElem? (i := 522) (by decide +kernel)) (by decide +kernel))⟩
theorem fb_X8_shows : bx_FB yX8_shows cX8_shows 3 (some .int) 2 := ⟨(wsAll_mem (List.mem_of_getElem? (i := 1117) (by decide +kernel)) (by decide +kernel)), (wsAll_mem (List.mem_of_getElem? (i := 79) (by decide +kernel)) (by decide +kernel)), by decide +kernel, by decide +kernel, by decide +kernel⟩
theorem fc_L_43 : bx_FV RL 43 RX8 yX8_shows cX8_shows 3 (some .int) 2 := ⟨⟨fb_X8_shows, (wsAll_mem (List.mem_of_getElem? (i := 1114) (by decide +kernel)) (by decide +kernel))⟩, (wsAll_mem (List.mem_of_getElem? (i := 1115) (by decide +kernel)) (by decide +kernel)), (wsAll_mem (List.mem_of_getElem? (i := 1116) (by decide +kernel)) (by decide +kernel))⟩
theorem fb_X7_moves : bx_FB yX7_moves cX7_moves 3 (some .int) 2 := ⟨(wsAll_mem (List.mem_of_getElem? (i := 560) (by decide +kernel)) (by decide +kernel)), (wsAll_mem (List.mem_of_getElem? (i := 72) (by decide +kernel)) (by decide +kernel)), by decide +kernel, by decide +kernel, by decide +kernel⟩
theorem fc_L_44 : bx_FV RL 44 RX7 yX7_moves cX7_moves 3 (some .int) 2 := ⟨⟨fb_X7_moves, (wsAll_mem (List.mem_of_getElem? (i := 557) (by decide +kernel)) (by decide +kernel))⟩, (wsAll_mem (List.mem_of_getElem? (i := 558) (by decide +kernel)) (by decide +kernel)), (wsAll_mem (List.mem_of_getElem? (i := 559) (by decide +kernel)) (by decide +kernel))⟩
theorem fb_X8_moves : bx_FB yX8_moves cX8_moves 3 (some .int) 2 := ⟨(wsAll_mem (List.mem_of_getElem? (i := 1129) (by decide +kernel)) (by decide +kernel)), (wsAll_mem (List.mem_of_getElem? (i := 79) (by decide +kernel)) (by decide +kernel)), by decide +kernel, by decide +kernel, by decide +kernel⟩
theorem fc_L_47 : bx_FV RL 47 RX8 yX8_moves cX8_moves 3 (some .int) 2 := ⟨⟨fb_X8_moves, (wsAll_mem (List.mem_of_getElem? (i := 1126) (by decide +kernel)) (by decide +kernel))⟩, (wsAll_mem (List.mem_of_getElem? (i := 1127) (by decide +kernel)) (by decide +kernel)), (wsAll_mem (List.mem_of_getElem? (i := 1128) (by decide +kernel)) (by decide +kernel))⟩
theorem fb_X7_sends : bx_FB yX7_sends cX7_sends 2 (some .int) 1 := ⟨(wsAll_mem (List.mem_of_getElem? (i := 568) (by decide +kernel)) (by decide +kernel)), (wsAll_mem (List.mem_of_getElem? (i := 72) (by decide +kernel)) (by decide +kernel)), by decide +kernel, by decide +kernel, by decide +kernel⟩
theorem fc_L_48 : bx_FV RL 48 RX7 yX7_sends cX7_sends 2 (some .int) 1 := ⟨⟨fb_X7_sends, (wsAll_mem (List.mem_of_getElem? (i := 565) (by decide +kernel)) (by decide +kernel))⟩, (wsAll_mem (List.mem_of_getElem? (i := 566) (by decide +kernel)) (by decide +kernel)), (wsAll_mem (List.mem_of_getElem? (i := 567) (by decide +kernel)) (by decide +kernel))⟩
theorem fb_X8_sends : bx_FB yX8_sends cX8_sends 2 (some .int) 1 := ⟨(wsAll_mem (List.mem_of_getElem? (i := 1133) (by decide +kernel)) (by decide +kernel)), (wsAll_mem (List.mem_of_getElem? (i := 79) (by decide +kernel)) (by decide +kernel)), by decide +kernel, by decide +kernel, by decide +kernel⟩
theorem fc_L_51 : bx_FV RL 51 RX8 yX8_sends cX8_sends 2 (some .int) 1 := ⟨⟨fb_X8_sends, (wsAll_mem (List.mem_of_getElem? (i := 1130) (by decide +kernel)) (by decide +kernel))⟩, (wsAll_mem (List.mem_of_getElem? (i := 1131) (by decide +kernel)) (by decide +kernel)), (wsAll_mem (List.mem_of_getElem? (i := 1132) (by decide +kernel)) (by decide +kernel))⟩
theorem fb_X7_coat : bx_FB yX7_coat cX7_coat 3 (some .int) 2 := ⟨(wsAll_mem (List.mem_of_getElem? (i := 573) (by decide +kernel)) (by decide +kernel)), (wsAll_mem (List.mem_of_getElem? (i := 72) (by decide +kernel)) (by decide +kernel)), by decide +kernel, by decide +kernel, by decide +kernel⟩
theorem fc_L_52 : bx_FV RL 52 RX7 yX7_coat cX7_coat 3 (some .int) 2 := ⟨⟨fb_X7_coat, (wsAll_mem (List.mem_of_getElem? (i := 570) (by decide +kernel)) (by decide +kernel))⟩, (wsAll_mem (List.mem_of_getElem? (i := 571) (by decide +kernel)) (by decide +kernel)), (wsAll_mem (List.mem_of_getElem? (i := 572) (by decide +kernel)) (by decide +kernel))⟩
theorem fb_X8_coat : bx_FB yX8_coat cX8_coat 3 (some .int) 2 := ⟨(wsAll_mem (List.mem_of_getElem? (i := 1137) (by decide +kernel)) (by decide +kernel)), (wsAll_mem (List.mem_of_getElem? (i := 79) (by decide +kernel)) (by decide +kernel)), by decide +kernel, by decide +kernel, by decide +kernel⟩
theorem fc_L_55 : bx_FV RL 55 RX8 yX8_coat cX8_coat 3 (some .int) 2 := ⟨⟨fb_X8_coat, (wsAll_mem (List.mem_of_getElem? (i := 1134) (by decide +kernel)) (by decide +kernel))⟩, (wsAll_mem (List.mem_of_getElem? (i := 1135) (by decide +kernel)) (by decide +kernel)), (wsAll_mem (List.mem_of_getElem? (i := 1136) (by decide +kernel)) (by decide +kernel))⟩
theorem fb_X7_minutes : bx_FB yX7_minutes cX7_minutes 2 (some .int) 1 := ⟨(wsAll_mem (List.mem_of_getElem? (i := 579) (by decide +kernel)) (by decide +kernel)), (wsAll_mem (List.mem_of_getElem? (i := 72) (by decide +kernel)) (by decide +kernel)), by decide +kernel, by decide +kernel, by decide +kernel⟩
theorem fc_L_56 : bx_FV RL 56 RX7 yX7_minutes cX7_minutes 2 (some .int) 1 := ⟨⟨fb_X7_minutes, (wsAll_mem (List.mem_of_getElem? (i := 576) (by decide +kernel)) (by decide +kernel))⟩, (wsAll_mem (List.mem_of_getElem? (i := 577) (by decide +kernel)) (by decide +kernel)), (wsAll_mem (List.mem_of_getElem? (i := 578) (by decide +kernel)) (by decide +kernel))⟩
theorem fb_X8_minutes : bx_FB yX8_minutes cX8_minutes 2 (some .int) 1 := ⟨(wsAll_mem (List.mem_of_getElem? (i := 1141) (by decide +kernel)) (by decide +kernel)), (wsAll_mem (List.mem_of_getElem? (i := 79) (by decide +kernel)) (by decide +kernel)), by decide +kernel, by decide +kernel, by decide +kernel⟩
theorem fc_L_59 : bx_FV RL 59 RX8 yX8_minutes cX8_minutes 2 (some .int) 1 := ⟨⟨fb_X8_minutes, (wsAll_mem (List.mem_of_getElem? (i := 1138) (by decide +kernel)) (by decide +kernel))⟩, (wsAll_mem (List.mem_of_getElem? (i := 1139) (by decide +kernel)) (by decide +kernel)), (wsAll_mem (List.mem_of_getElem? (i := 1140) (by decide +kernel)) (by decide +kernel))⟩
theorem fb_X7_undo : bx_FB yX7_undo cX7_undo 1 (some .int) 0 := ⟨(wsAll_mem (List.mem_of_getElem? (i := 584) (by decide +kernel)) (by decide +kernel)), (wsAll_mem (List.mem_of_getElem? (i := 72) (by decide +kernel)) (by decide +kernel)), by decide +kernel, by decide +kernel, by decide +kernel⟩
theorem fc_L_60 : bx_FV RL 60 RX7 yX7_undo cX7_undo 1 (some .int) 0 := ⟨⟨fb_X7_undo, (wsAll_mem (List.mem_of_getElem? (i := 581) (by decide +kernel)) (by decide +kernel))⟩, (wsAll_mem (List.mem_of_getElem? (i := 582) (by decide +kernel)) (by decide +kernel)), (wsAll_mem (List.mem_of_getElem? (i := 583) (by decide +kernel)) (by decide +kernel))⟩
theorem fb_X8_undo : bx_FB yX8_undo cX8_undo 3 (some .int) 0 := ⟨(wsAll_mem (List.mem_of_getElem? (i := 1109) (by decide +kernel)) (by decide +kernel)), (wsAll_mem (List.mem_of_getElem? (i := 79) (by decide +kernel)) (by decide +kernel)), by decide +kernel, by decide +kernel, by decide +kernel⟩
theorem fc_L_63 : bx_FV RL 63 RX8 yX8_undo cX8_undo 3 (some .int) 0 := ⟨⟨fb_X8_undo, (wsAll_mem (List.mem_of_getElem? (i := 1106) (by decide +kernel)) (by decide +kernel))⟩, (wsAll_mem (List.mem_of_getElem? (i := 1107) (by decide +kernel)) (by decide +kernel)), (wsAll_mem (List.mem_of_getElem? (i := 1108) (by decide +kernel)) (by decide +kernel))⟩
theorem fb_X7_of : bx_FB yX7_of cX7_of 3 (some .int) 2 := ⟨(wsAll_mem (List.mem_of_getElem? (i := 600) (by decide +kernel)) (by decide +kernel)), (wsAll_mem (List.mem_of_getElem? (i := 72) (by decide +kernel)) (by decide +kernel)), by decide +kernel, by decide +kernel, by decide +kernel⟩
theorem fc_L_64 : bx_FV RL 64 RX7 yX7_of cX7_of 3 (some .int) 2 := ⟨⟨fb_X7_of, (wsAll_mem (List.mem_of_getElem? (i := 597) (by decide +kernel)) (by decide +kernel))⟩, (wsAll_mem (List.mem_of_getElem? (i := 598) (by decide +kernel)) (by decide +kernel)), (wsAll_mem (List.mem_of_getElem? (i := 599) (by decide +kernel)) (by decide +kernel))⟩
theorem fb_X8_of : bx_FB yX8_of cX8_of 3 (some .int) 2 := ⟨(wsAll_mem (List.mem_of_getElem? (i := 1146) (by decide +kernel)) (by decide +kernel)), (wsAll_mem (List.mem_of_getElem? (i := 79) (by decide +kernel)) (by decide +kernel)), by decide +kernel, by decide +kernel, by decide +kernel⟩
theorem fc_L_67 : bx_FV RL 67 RX8 yX8_of cX8_of 3 (some .int) 2 := ⟨⟨fb_X8_of, (wsAll_mem (List.mem_of_getElem? (i := 1143) (by decide +kernel)) (by decide +kernel))⟩, (wsAll_mem (List.mem_of_getElem? (i := 1144) (by decide +kernel)) (by decide +kernel)), (wsAll_mem (List.mem_of_getElem? (i := 1145) (by decide +kernel)) (by decide +kernel))⟩
theorem fb_X7_about : bx_FB yX7_about cX7_about 3 (some .int) 2 := ⟨(wsAll_mem (List.mem_of_getElem? (i := 604) (by decide +kernel)) (by decide +kernel)), (wsAll_mem (List.mem_of_getElem? (i := 72) (by decide +kernel)) (by decide +kernel)), by decide +kernel, by decide +kernel, by decide +kernel⟩
theorem fc_L_68 : bx_FV RL 68 RX7 yX7_about cX7_about 3 (some .int) 2 := ⟨⟨fb_X7_about, (wsAll_mem (List.mem_of_getElem? (i := 601) (by decide +kernel)) (by decide +kernel))⟩, (wsAll_mem (List.mem_of_getElem? (i := 602) (by decide +kernel)) (by decide +kernel)), (wsAll_mem (List.mem_of_getElem? (i := 603) (by decide +kernel)) (by decide +kernel))⟩
theorem fb_X8_about : bx_FB yX8_about cX8_about 3 (some .int) 2 := ⟨(wsAll_mem (List.mem_of_getElem? (i := 1151) (by decide +kernel)) (by decide +kernel)), (wsAll_mem (List.mem_of_getElem? (i := 79) (by decide +kernel)) (by decide +kernel)), by decide +kernel, by decide +kernel, by decide +kernel⟩
theorem fc_L_71 : bx_FV RL 71 RX8 yX8_about cX8_about 3 (some .int) 2 := ⟨⟨fb_X8_about, (wsAll_mem (List.mem_of_getElem? (i := 1148) (by decide +kernel)) (by decide +kernel))⟩, (wsAll_mem (List.mem_of_getElem? (i := 1149) (by decide +kernel)) (by decide +kernel)), (wsAll_mem (List.mem_of_getElem? (i := 1150) (by decide +kernel)) (by decide +kernel))⟩
theorem fb_X7_makes : bx_FB yX7_makes cX7_makes 3 (some .int) 2 := ⟨(wsAll_mem (List.mem_of_getElem? (i := 620) (by decide +kernel)) (by decide +kernel)), (wsAll_mem (List.mem_of_getElem? (i := 72) (by decide +kernel)) (by decide +kernel)), by decide +kernel, by decide +kernel, by decide +kernel⟩
theorem fc_L_72 : bx_FV RL 72 RX7 yX7_makes cX7_makes 3 (some .int) 2 := ⟨⟨fb_X7_makes, (wsAll_mem (List.mem_of_getElem? (i := 617) (by decide +kernel)) (by decide +kernel))⟩, (wsAll_mem (List.mem_of_getElem? (i := 618) (by decide +kernel)) (by decide +kernel)), (wsAll_mem (List.mem_of_getElem? (i := 619) (by decide +kernel)) (by decide +kernel))⟩
theorem fb_X8_makes : bx_FB yX8_makes cX8_makes 3 (some .int) 2 := ⟨(wsAll_mem (List.mem_of_getElem? (i := 1161) (by decide +kernel)) (by decide +kernel)), (wsAll_mem (List.mem_of_getElem? (i := 79) (by decide +kernel)) (by decide +kernel)), by decide +kernel, by decide +kernel, by decide +kernel⟩
theorem fc_L_75 : bx_FV RL 75 RX8 yX8_makes cX8_makes 3 (some .int) 2 := ⟨⟨fb_X8_makes, (wsAll_mem (List.mem_of_getElem? (i := 1158) (by decide +kernel)) (by decide +kernel))⟩, (wsAll_mem (List.mem_of_getElem? (i := 1159) (by decide +kernel)) (by decide +kernel)), (wsAll_mem (List.mem_of_getElem? (i := 1160) (by decide +kernel)) (by decide +kernel))⟩
theorem fb_X7_order : bx_FB yX7_order cX7_order 2 (some .int) 1 := ⟨(wsAll_mem (List.mem_of_getElem? (i := 625) (by decide +kernel)) (by decide +kernel)), (wsAll_mem (List.mem_of_getElem? (i := 72) (by decide +kernel)) (by decide +kernel)), by decide +kernel, by decide +kernel, by decide +kernel⟩
theorem fc_L_76 : bx_FV RL 76 RX7 yX7_order cX7_order 2 (some .int) 1 := ⟨⟨fb_X7_order, (wsAll_mem (List.mem_of_getElem? (i := 622) (by decide +kernel)) (by decide +kernel))⟩, (wsAll_mem (List.mem_of_getElem? (i := 623) (by decide +kernel)) (by decide +kernel)), (wsAll_mem (List.mem_of_getElem? (i := 624) (by decide +kernel)) (by decide +kernel))⟩
theorem fb_X8_order : bx_FB yX8_order cX8_order 7 (some .int) 1 := ⟨(wsAll_mem (List.mem_of_getElem? (i := 1169) (by decide +kernel)) (by decide +kernel)), (wsAll_mem (List.mem_of_getElem? (i := 79) (by decide +kernel)) (by decide +kernel)), by decide +kernel, by decide +kernel, by decide +kernel⟩
theorem fc_L_79 : bx_FV RL 79 RX8 yX8_order cX8_order 7 (some .int) 1 := ⟨⟨fb_X8_order, (wsAll_mem (List.mem_of_getElem? (i := 1166) (by decide +kernel)) (by decide +kernel))⟩, (wsAll_mem (List.mem_of_getElem? (i := 1167) (by decide +kernel)) (by decide +kernel)), (wsAll_mem (List.mem_of_getElem? (i := 1168) (by decide +kernel)) (by decide +kernel))⟩
theorem fb_X7_best : bx_FB yX7_best cX7_best 4 (some .int) 2 := ⟨(wsAll_mem (List.mem_of_getElem? (i := 679) (by decide +kernel)) (by decide +kernel)), (wsAll_mem (List.mem_of_getElem? (i := 72) (by decide +kernel)) (by decide +kernel)), by decide +kernel, by decide +kernel, by decide +kernel⟩
theorem fc_L_80 : bx_FV RL 80 RX7 yX7_best cX7_best 4 (some .int) 2 := ⟨⟨fb_X7_best, (wsAll_mem (List.mem_of_getElem? (i := 676) (by decide +kernel)) (by decide +kernel))⟩, (wsAll_mem (List.mem_of_getElem? (i := 677) (by decide +kernel)) (by decide +kernel)), (wsAll_mem (List.mem_of_getElem? (i := 678) (by decide +kernel)) (by decide +kernel))⟩
theorem fb_X8_best : bx_FB yX8_best cX8_best 7 (some .int) 2 := ⟨(wsAll_mem (List.mem_of_getElem? (i := 1189) (by decide +kernel)) (by decide +kernel)), (wsAll_mem (List.mem_of_getElem? (i := 79) (by decide +kernel)) (by decide +kernel)), by decide +kernel, by decide +kernel, by decide +kernel⟩
theorem fc_L_83 : bx_FV RL 83 RX8 yX8_best cX8_best 7 (some .int) 2 := ⟨⟨fb_X8_best, (wsAll_mem (List.mem_of_getElem? (i := 1186) (by decide +kernel)) (by decide +kernel))⟩, (wsAll_mem (List.mem_of_getElem? (i := 1187) (by decide +kernel)) (by decide +kernel)), (wsAll_mem (List.mem_of_getElem? (i := 1188) (by decide +kernel)) (by decide +kernel))⟩
theorem fb_X7_beside : bx_FB yX7_beside cX7_beside 5 (some .int) 3 := ⟨(wsAll_mem (List.mem_of_getElem? (i := 691) (by decide +kernel)) (by decide +kernel)), (wsAll_mem (List.mem_of_getElem? (i := 72) (by decide +kernel)) (by decide +kernel)), by decide +kernel, by decide +kernel, by decide +kernel⟩
theorem fc_L_84 : bx_FV RL 84 RX7 yX7_beside cX7_beside 5 (some .int) 3 := ⟨⟨fb_X7_beside, (wsAll_mem (List.mem_of_getElem? (i := 688) (by decide +kernel)) (by decide +kernel))⟩, (wsAll_mem (List.mem_of_getElem? (i := 689) (by decide +kernel)) (by decide +kernel)), (wsAll_mem (List.mem_of_getElem? (i := 690) (by decide +kernel)) (by decide +kernel))⟩
theorem fb_X8_beside : bx_FB yX8_beside cX8_beside 9 (some .int) 3 := ⟨(wsAll_mem (List.mem_of_getElem? (i := 1193) (by decide +kernel)) (by decide +kernel)), (wsAll_mem (List.mem_of_getElem? (i := 79) (by decide +kernel)) (by decide +kernel)), by decide +kernel, by decide +kernel, by decide +kernel⟩
theorem fc_L_88 : bx_FV RL 88 RX8 yX8_beside cX8_beside 9 (some .int) 3 := ⟨⟨fb_X8_beside, (wsAll_mem (List.mem_of_getElem? (i := 1190) (by decide +kernel)) (by decide +kernel))⟩, (wsAll_mem (List.mem_of_getElem? (i := 1191) (by decide +kernel)) (by decide +kernel)), (wsAll_mem (List.mem_of_getElem? (i := 1192) (by decide +kernel)) (by decide +kernel))⟩
theorem fb_X7_wrong : bx_FB yX7_wrong cX7_wrong 3 (some .int) 0 := ⟨(wsAll_mem (List.mem_of_getElem? (i := 708) (by decide +kernel)) (by decide +kernel)), (wsAll_mem (List.mem_of_getElem? (i := 72) (by decide +kernel)) (by decide +kernel)), by decide +kernel, by decide +kernel, by decide +kernel⟩
theorem fc_L_89 : bx_FV RL 89 RX7 yX7_wrong cX7_wrong 3 (some .int) 0 := ⟨⟨fb_X7_wrong, (wsAll_mem (List.mem_of_getElem? (i := 705) (by decide +kernel)) (by decide +kernel))⟩, (wsAll_mem (List.mem_of_getElem? (i := 706) (by decide +kernel)) (by decide +kernel)), (wsAll_mem (List.mem_of_getElem? (i := 707) (by decide +kernel)) (by decide +kernel))⟩
theorem fb_X8_wrong : bx_FB yX8_wrong cX8_wrong 3 (some .int) 0 := ⟨(wsAll_mem (List.mem_of_getElem? (i := 1197) (by decide +kernel)) (by decide +kernel)), (wsAll_mem (List.mem_of_getElem? (i := 79) (by decide +kernel)) (by decide +kernel)), by decide +kernel, by decide +kernel, by decide +kernel⟩
theorem fc_L_92 : bx_FV RL 92 RX8 yX8_wrong cX8_wrong 3 (some .int) 0 := ⟨⟨fb_X8_wrong, (wsAll_mem (List.mem_of_getElem? (i := 1194) (by decide +kernel)) (by decide +kernel))⟩, (wsAll_mem (List.mem_of_getElem? (i := 1195) (by decide +kernel)) (by decide +kernel)), (wsAll_mem (List.mem_of_getElem? (i := 1196) (by decide +kernel)) (by decide +kernel))⟩
theorem fb_X7_swaps : bx_FB yX7_swaps cX7_swaps 1 (some .int) 0 := ⟨(wsAll_mem (List.mem_of_getElem? (i := 712) (by decide +kernel)) (by decide +kernel)), (wsAll_mem (List.mem_of_getElem? (i := 72) (by decide +kernel)) (by decide +kernel)), by decide +kernel, by decide +kernel, by decide +kernel⟩
theorem fc_L_93 : bx_FV RL 93 RX7 yX7_swaps cX7_swaps 1 (some .int) 0 := ⟨⟨fb_X7_swaps, (wsAll_mem (List.mem_of_getElem? (i := 709) (by decide +kernel)) (by decide +kernel))⟩, (wsAll_mem (List.mem_of_getElem? (i := 710) (by decide +kernel)) (by decide +kernel)), (wsAll_mem (List.mem_of_getElem? (i := 711) (by decide +kernel)) (by decide +kernel))⟩
theorem fb_X8_swaps : bx_FB yX8_swaps cX8_swaps 6 (some .int) 0 := ⟨(wsAll_mem (List.mem_of_getElem? (i := 1201) (by decide +kernel)) (by decide +kernel)), (wsAll_mem (List.mem_of_getElem? (i := 79) (by decide +kernel)) (by decide +kernel)), by decide +kernel, by decide +kernel, by decide +kernel⟩
theorem fc_L_96 : bx_FV RL 96 RX8 yX8_swaps cX8_swaps 6 (some .int) 0 := ⟨⟨fb_X8_swaps, (wsAll_mem (List.mem_of_getElem? (i := 1198) (by decide +kernel)) (by decide +kernel))⟩, (wsAll_mem (List.mem_of_getElem? (i := 1199) (by decide +kernel)) (by decide +kernel)), (wsAll_mem (List.mem_of_getElem? (i := 1200) (by decide +kernel)) (by decide +kernel))⟩
theorem fb_X7_seen : bx_FB yX7_seen cX7_seen 4 (some .int) 3 := ⟨(wsAll_mem (List.mem_of_getElem? (i := 727) (by decide +kernel)) (by decide +kernel)), (wsAll_mem (List.mem_of_getElem? (i := 72) (by decide +kernel)) (by decide +kernel)), by decide +kernel, by decide +kernel, by decide +kernel⟩
theorem fc_L_97 : bx_FV RL 97 RX7 yX7_seen cX7_seen 4 (some .int) 3 := ⟨⟨fb_X7_seen, (wsAll_mem (List.mem_of_getElem? (i := 724) (by decide +kernel)) (by decide +kernel))⟩, (wsAll_mem (List.mem_of_getElem? (i := 725) (by decide +kernel)) (by decide +kernel)), (wsAll_mem (List.mem_of_getElem? (i := 726) (by decide +kernel)) (by decide +kernel))⟩
theorem fb_X8_seen : bx_FB yX8_seen cX8_seen 4 (some .int) 3 := ⟨(wsAll_mem (List.mem_of_getElem? (i := 1213) (by decide +kernel)) (by decide +kernel)), (wsAll_mem (List.mem_of_getElem? (i := 79) (by decide +kernel)) (by decide +kernel)), by decide +kernel, by decide +kernel, by decide +kernel⟩
theorem fc_L_100 : bx_FV RL 100 RX8 yX8_seen cX8_seen 4 (some .int) 3 := ⟨⟨fb_X8_seen, (wsAll_mem (List.mem_of_getElem? (i := 1210) (by decide +kernel)) (by decide +kernel))⟩, (wsAll_mem (List.mem_of_getElem? (i := 1211) (by decide +kernel)) (by decide +kernel)), (wsAll_mem (List.mem_of_getElem? (i := 1212) (by decide +kernel)) (by decide +kernel))⟩
theorem fb_X7_where : bx_FB yX7_where cX7_where 6 (some .int) 2 := ⟨(wsAll_mem (List.mem_of_getElem? (i := 738) (by decide +kernel)) (by decide +kernel)), (wsAll_mem (List.mem_of_getElem? (i := 72) (by decide +kernel)) (by decide +kernel)), by decide +kernel, by decide +kernel, by decide +kernel⟩
theorem fc_L_101 : bx_FV RL 101 RX7 yX7_where cX7_where 6 (some .int) 2 := ⟨⟨fb_X7_where, (wsAll_mem (List.mem_of_getElem? (i := 735) (by decide +kernel)) (by decide +kernel))⟩, (wsAll_mem (List.mem_of_getElem? (i := 736) (by decide +kernel)) (by decide +kernel)), (wsAll_mem (List.mem_of_getElem? (i := 737) (by decide +kernel)) (by decide +kernel))⟩
theorem fb_X8_where : bx_FB yX8_where cX8_where 6 (some .int) 2 := ⟨(wsAll_mem (List.mem_of_getElem? (i := 1221) (by decide +kernel)) (by decide +kernel)), (wsAll_mem (List.mem_of_getElem? (i := 79) (by decide +kernel)) (by decide +kernel)), by decide +kernel, by decide +kernel, by decide +kernel⟩
theorem fc_L_104 : bx_FV RL 104 RX8 yX8_where cX8_where 6 (some .int) 2 := ⟨⟨fb_X8_where, (wsAll_mem (List.mem_of_getElem? (i := 1218) (by decide +kernel)) (by decide +kernel))⟩, (wsAll_mem (List.mem_of_getElem? (i := 1219) (by decide +kernel)) (by decide +kernel)), (wsAll_mem (List.mem_of_getElem? (i := 1220) (by decide +kernel)) (by decide +kernel))⟩
theorem fb_X7_tell : bx_FB yX7_tell cX7_tell 7 (some .int) 1 := ⟨(wsAll_mem (List.mem_of_getElem? (i := 752) (by decide +kernel)) (by decide +kernel)), (wsAll_mem (List.mem_of_getElem? (i := 72) (by decide +kernel)) (by decide +kernel)), by decide +kernel, by decide +kernel, by decide +kernel⟩
theorem fc_L_105 : bx_FV RL 105 RX7 yX7_tell cX7_tell 7 (some .int) 1 := ⟨⟨fb_X7_tell, (wsAll_mem (List.mem_of_getElem? (i := 749) (by decide +kernel)) (by decide +kernel))⟩, (wsAll_mem (List.mem_of_getElem? (i := 750) (by decide +kernel)) (by decide +kernel)), (wsAll_mem (List.mem_of_getElem? (i := 751) (by decide +kernel)) (by decide +kernel))⟩
theorem fb_X8_tell : bx_FB yX8_tell cX8_tell 6 (some .int) 1 := ⟨(wsAll_mem (List.mem_of_getElem? (i := 1237) (by decide +kernel)) (by decide +kernel)), (wsAll_mem (List.mem_of_getElem? (i := 79) (by decide +kernel)) (by decide +kernel)), by decide +kernel, by decide +kernel, by decide +kernel⟩
theorem fc_L_108 : bx_FV RL 108 RX8 yX8_tell cX8_tell 6 (some .int) 1 := ⟨⟨fb_X8_tell, (wsAll_mem (List.mem_of_getElem? (i := 1234) (by decide +kernel)) (by decide +kernel))⟩, (wsAll_mem (List.mem_of_getElem? (i := 1235) (by decide +kernel)) (by decide +kernel)), (wsAll_mem (List.mem_of_getElem? (i := 1236) (by decide +kernel)) (by decide +kernel))⟩
theorem fb_X7_note : bx_FB yX7_note cX7_note 4 (some .int) 3 := ⟨(wsAll_mem (List.mem_of_getElem? (i := 770) (by decide +kernel)) (by decide +kernel)), (wsAll_mem (List.mem_of_getElem? (i := 72) (by decide +kernel)) (by decide +kernel)), by decide +kernel, by decide +kernel, by decide +kernel⟩
theorem fc_L_109 : bx_FV RL 109 RX7 yX7_note cX7_note 4 (some .int) 3 := ⟨⟨fb_X7_note, (wsAll_mem (List.mem_of_getElem? (i := 767) (by decide +kernel)) (by decide +kernel))⟩, (wsAll_mem (List.mem_of_getElem? (i := 768) (by decide +kernel)) (by decide +kernel)), (wsAll_mem (List.mem_of_getElem? (i := 769) (by decide +kernel)) (by decide +kernel))⟩
theorem fb_X8_note : bx_FB yX8_note cX8_note 4 (some .int) 3 := ⟨(wsAll_mem (List.mem_of_getElem? (i := 1249) (by decide +kernel)) (by decide +kernel)), (wsAll_mem (List.mem_of_getElem? (i := 79) (by decide +kernel)) (by decide +kernel)), by decide +kernel, by decide +kernel, by decide +kernel⟩
theorem fc_L_112 : bx_FV RL 112 RX8 yX8_note cX8_note 4 (some .int) 3 := ⟨⟨fb_X8_note, (wsAll_mem (List.mem_of_getElem? (i := 1246) (by decide +kernel)) (by decide +kernel))⟩, (wsAll_mem (List.mem_of_getElem? (i := 1247) (by decide +kernel)) (by decide +kernel)), (wsAll_mem (List.mem_of_getElem? (i := 1248) (by decide +kernel)) (by decide +kernel))⟩
theorem fb_X7_mark : bx_FB yX7_mark cX7_mark 5 (some .int) 4 := ⟨(wsAll_mem (List.mem_of_getElem? (i := 774) (by decide +kernel)) (by decide +kernel)), (wsAll_mem (List.mem_of_getElem? (i := 72) (by decide +kernel)) (by decide +kernel)), by decide +kernel, by decide +kernel, by decide +kernel⟩
theorem fc_L_113 : bx_FV RL 113 RX7 yX7_mark cX7_mark 5 (some .int) 4 := ⟨⟨fb_X7_mark, (wsAll_mem (List.mem_of_getElem? (i := 771) (by decide +kernel)) (by decide +kernel))⟩, (wsAll_mem (List.mem_of_getElem? (i := 772) (by decide +kernel)) (by decide +kernel)), (wsAll_mem (List.mem_of_getElem? (i := 773) (by decide +kernel)) (by decide +kernel))⟩
theorem fb_X8_mark : bx_FB yX8_mark cX8_mark 5 (some .int) 4 := ⟨(wsAll_mem (List.mem_of_getElem? (i := 1254) (by decide +kernel)) (by decide +kernel)), (wsAll_mem (List.mem_of_getElem? (i := 79) (by decide +kernel)) (by decide +kernel)), by decide +kernel, by decide +kernel, by decide +kernel⟩
theorem fc_L_117 : bx_FV RL 117 RX8 yX8_mark cX8_mark 5 (some .int) 4 := ⟨⟨fb_X8_mark, (wsAll_mem (List.mem_of_getElem? (i := 1251) (by decide +kernel)) (by decide +kernel))⟩, (wsAll_mem (List.mem_of_getElem? (i := 1252) (by decide +kernel)) (by decide +kernel)), (wsAll_mem (List.mem_of_getElem? (i := 1253) (by decide +kernel)) (by decide +kernel))⟩
theorem fb_X7_forget : bx_FB yX7_forget cX7_forget 2 (some .int) 1 := ⟨(wsAll_mem (List.mem_of_getElem? (i := 783) (by decide +kernel)) (by decide +kernel)), (wsAll_mem (List.mem_of_getElem? (i := 72) (by decide +kernel)) (by decide +kernel)), by decide +kernel, by decide +kernel, by decide +kernel⟩
theorem fc_L_118 : bx_FV RL 118 RX7 yX7_forget cX7_forget 2 (some .int) 1 := ⟨⟨fb_X7_forget, (wsAll_mem (List.mem_of_getElem? (i := 780) (by decide +kernel)) (by decide +kernel))⟩, (wsAll_mem (List.mem_of_getElem? (i := 781) (by decide +kernel)) (by decide +kernel)), (wsAll_mem (List.mem_of_getElem? (i := 782) (by decide +kernel)) (by decide +kernel))⟩
theorem fb_X8_forget : bx_FB yX8_forget cX8_forget 4 (some .int) 1 := ⟨(wsAll_mem (List.mem_of_getElem? (i := 1258) (by decide +kernel)) (by decide +kernel)), (wsAll_mem (List.mem_of_getElem? (i := 79) (by decide +kernel)) (by decide +kernel)), by decide +kernel, by decide +kernel, by decide +kernel⟩
theorem fc_L_121 : bx_FV RL 121 RX8 yX8_forget cX8_forget 4 (some .int) 1 := ⟨⟨fb_X8_forget, (wsAll_mem (List.mem_of_getElem? (i := 1255) (by decide +kernel)) (by decide +kernel))⟩, (wsAll_mem (List.mem_of_getElem? (i := 1256) (by decide +kernel)) (by decide +kernel)), (wsAll_mem (List.mem_of_getElem? (i := 1257) (by decide +kernel)) (by decide +kernel))⟩
theorem fb_X7_is : bx_FB yX7_is cX7_is 2 (some .int) 1 := ⟨(wsAll_mem (List.mem_of_getElem? (i := 787) (by decide +kernel)) (by decide +kernel)), (wsAll_mem (List.mem_of_getElem? (i := 72) (by decide +kernel)) (by decide +kernel)), by decide +kernel, by decide +kernel, by decide +kernel⟩
theorem fc_L_122 : bx_FV RL 122 RX7 yX7_is cX7_is 2 (some .int) 1 := ⟨⟨fb_X7_is, (wsAll_mem (List.mem_of_getElem? (i := 784) (by decide +kernel)) (by decide +kernel))⟩, (wsAll_mem (List.mem_of_getElem? (i := 785) (by decide +kernel)) (by decide +kernel)), (wsAll_mem (List.mem_of_getElem? (i := 786) (by decide +kernel)) (by decide +kernel))⟩
theorem fb_X8_is : bx_FB yX8_is cX8_is 2 (some .int) 1 := ⟨(wsAll_mem (List.mem_of_getElem? (i := 1262) (by decide +kernel)) (by decide +kernel)), (wsAll_mem (List.mem_of_getElem? (i := 79) (by decide +kernel)) (by decide +kernel)), by decide +kernel, by decide +kernel, by decide +kernel⟩
theorem fc_L_125 : bx_FV RL 125 RX8 yX8_is cX8_is 2 (some .int) 1 := ⟨⟨fb_X8_is, (wsAll_mem (List.mem_of_getElem? (i := 1259) (by decide +kernel)) (by decide +kernel))⟩, (wsAll_mem (List.mem_of_getElem? (i := 1260) (by decide +kernel)) (by decide +kernel)), (wsAll_mem (List.mem_of_getElem? (i := 1261) (by decide +kernel)) (by decide +kernel))⟩
theorem fb_X7_look : bx_FB yX7_look cX7_look 7 (some .int) 1 := ⟨(wsAll_mem (List.mem_of_getElem? (i := 800) (by decide +kernel)) (by decide +kernel)), (wsAll_mem (List.mem_of_getElem? (i := 72) (by decide +kernel)) (by decide +kernel)), by decide +kernel, by decide +kernel, by decide +kernel⟩
theorem fc_L_126 : bx_FV RL 126 RX7 yX7_look cX7_look 7 (some .int) 1 := ⟨⟨fb_X7_look, (wsAll_mem (List.mem_of_getElem? (i := 797) (by decide +kernel)) (by decide +kernel))⟩, (wsAll_mem (List.mem_of_getElem? (i := 798) (by decide +kernel)) (by decide +kernel)), (wsAll_mem (List.mem_of_getElem? (i := 799) (by decide +kernel)) (by decide +kernel))⟩
theorem fb_X8_look : bx_FB yX8_look cX8_look 7 (some .int) 1 := ⟨(wsAll_mem (List.mem_of_getElem? (i := 1270) (by decide +kernel)) (by decide +kernel)), (wsAll_mem (List.mem_of_getElem? (i := 79) (by decide +kernel)) (by decide +kernel)), by decide +kernel, by decide +kernel, by decide +kernel⟩
theorem fc_L_129 : bx_FV RL 129 RX8 yX8_look cX8_look 7 (some .int) 1 := ⟨⟨fb_X8_look, (wsAll_mem (List.mem_of_getElem? (i := 1267) (by decide +kernel)) (by decide +kernel))⟩, (wsAll_mem (List.mem_of_getElem? (i := 1268) (by decide +kernel)) (by decide +kernel)), (wsAll_mem (List.mem_of_getElem? (i := 1269) (by decide +kernel)) (by decide +kernel))⟩
theorem fb_X7_kinds : bx_FB yX7_kinds cX7_kinds 2 (some .int) 1 := ⟨(wsAll_mem (List.mem_of_getElem? (i := 808) (by decide +kernel)) (by decide +kernel)), (wsAll_mem (List.mem_of_getElem? (i := 72) (by decide +kernel)) (by decide +kernel)), by decide +kernel, by decide +kernel, by decide +kernel⟩
theorem fc_L_130 : bx_FV RL 130 RX7 yX7_kinds cX7_kinds 2 (some .int) 1 := ⟨⟨fb_X7_kinds, (wsAll_mem (List.mem_of_getElem? (i := 805) (by decide +kernel)) (by decide +kernel))⟩, (wsAll_mem (List.mem_of_getElem? (i := 806) (by decide +kernel)) (by decide +kernel)), (wsAll_mem (List.mem_of_getElem? (i := 807) (by decide +kernel)) (by decide +kernel))⟩
theorem fb_X8_kinds : bx_FB yX8_kinds cX8_kinds 2 (some .int) 1 := ⟨(wsAll_mem (List.mem_of_getElem? (i := 1274) (by decide +kernel)) (by decide +kernel)), (wsAll_mem (List.mem_of_getElem? (i := 79) (by decide +kernel)) (by decide +kernel)), by decide +kernel, by decide +kernel, by decide +kernel⟩
theorem fc_L_133 : bx_FV RL 133 RX8 yX8_kinds cX8_kinds 2 (some .int) 1 := ⟨⟨fb_X8_kinds, (wsAll_mem (List.mem_of_getElem? (i := 1271) (by decide +kernel)) (by decide +kernel))⟩, (wsAll_mem (List.mem_of_getElem? (i := 1272) (by decide +kernel)) (by decide +kernel)), (wsAll_mem (List.mem_of_getElem? (i := 1273) (by decide +kernel)) (by decide +kernel))⟩
theorem fb_X7_ask : bx_FB yX7_ask cX7_ask 8 (some .int) 1 := ⟨(wsAll_mem (List.mem_of_getElem? (i := 820) (by decide +kernel)) (by decide +kernel)), (wsAll_mem (List.mem_of_getElem? (i := 72) (by decide +kernel)) (by decide +kernel)), by decide +kernel, by decide +kernel, by decide +kernel⟩
theorem fc_L_134 : bx_FV RL 134 RX7 yX7_ask cX7_ask 8 (some .int) 1 := ⟨⟨fb_X7_ask, (wsAll_mem (List.mem_of_getElem? (i := 817) (by decide +kernel)) (by decide +kernel))⟩, (wsAll_mem (List.mem_of_getElem? (i := 818) (by decide +kernel)) (by decide +kernel)), (wsAll_mem (List.mem_of_getElem? (i := 819) (by decide +kernel)) (by decide +kernel))⟩
theorem fb_X8_ask : bx_FB yX8_ask cX8_ask 8 (some .int) 1 := ⟨(wsAll_mem (List.mem_of_getElem? (i := 1282) (by decide +kernel)) (by decide +kernel)), (wsAll_mem (List.mem_of_getElem? (i := 79) (by decide +kernel)) (by decide +kernel)), by decide +kernel, by decide +kernel, by decide +kernel⟩
theorem fc_L_137 : bx_FV RL 137 RX8 yX8_ask cX8_ask 8 (some .int) 1 := ⟨⟨fb_X8_ask, (wsAll_mem (List.mem_of_getElem? (i := 1279) (by decide +kernel)) (by decide +kernel))⟩, (wsAll_mem (List.mem_of_getElem? (i := 1280) (by decide +kernel)) (by decide +kernel)), (wsAll_mem (List.mem_of_getElem? (i := 1281) (by decide +kernel)) (by decide +kernel))⟩
theorem fb_X7_whispers : bx_FB yX7_whispers cX7_whispers 10 (some .int) 3 := ⟨(wsAll_mem (List.mem_of_getElem? (i := 828) (by decide +kernel)) (by decide +kernel)), (wsAll_mem (List.mem_of_getElem? (i := 72) (by decide +kernel)) (by decide +kernel)), by decide +kernel, by decide +kernel, by decide +kernel⟩
theorem fc_L_138 : bx_FV RL 138 RX7 yX7_whispers cX7_whispers 10 (some .int) 3 := ⟨⟨fb_X7_whispers, (wsAll_mem (List.mem_of_getElem? (i := 825) (by decide +kernel)) (by decide +kernel))⟩, (wsAll_mem (List.mem_of_getElem? (i := 826) (by decide +kernel)) (by decide +kernel)), (wsAll_mem (List.mem_of_getElem? (i := 827) (by decide +kernel)) (by decide +kernel))⟩
theorem fb_X8_whispers : bx_FB yX8_whispers cX8_whispers 9 (some .int) 3 := ⟨(wsAll_mem (List.mem_of_getElem? (i := 1286) (by decide +kernel)) (by decide +kernel)), (wsAll_mem (List.mem_of_getElem? (i := 79) (by decide +kernel)) (by decide +kernel)), by decide +kernel, by decide +kernel, by decide +kernel⟩
theorem fc_L_141 : bx_FV RL 141 RX8 yX8_whispers cX8_whispers 9 (some .int) 3 := ⟨⟨fb_X8_whispers, (wsAll_mem (List.mem_of_getElem? (i := 1283) (by decide +kernel)) (by decide +kernel))⟩, (wsAll_mem (List.mem_of_getElem? (i := 1284) (by decide +kernel)) (by decide +kernel)), (wsAll_mem (List.mem_of_getElem? (i := 1285) (by decide +kernel)) (by decide +kernel))⟩
theorem fb_X7_wet : bx_FB yX7_wet cX7_wet 5 (some .int) 2 := ⟨(wsAll_mem (List.mem_of_getElem? (i := 832) (by decide +kernel)) (by decide +kernel)), (wsAll_mem (List.mem_of_getElem? (i := 72) (by decide +kernel)) (by decide +kernel)), by decide +kernel, by decide +kernel, by decide +kernel⟩
theorem fc_L_142 : bx_FV RL 142 RX7 yX7_wet cX7_wet 5 (some .int) 2 := ⟨⟨fb_X7_wet, (wsAll_mem (List.mem_of_getElem? (i := 829) (by decide +kernel)) (by decide +kernel))⟩, (wsAll_mem (List.mem_of_getElem? (i := 830) (by decide +kernel)) (by decide +kernel)), (wsAll_mem (List.mem_of_getElem? (i := 831) (by decide +kernel)) (by decide +kernel))⟩
theorem fb_X8_wet : bx_FB yX8_wet cX8_wet 6 (some .int) 2 := ⟨(wsAll_mem (List.mem_of_getElem? (i := 1294) (by decide +kernel)) (by decide +kernel)), (wsAll_mem (List.mem_of_getElem? (i := 79) (by decide +kernel)) (by decide +kernel)), by decide +kernel, by decide +kernel, by decide +kernel⟩
theorem fc_L_145 : bx_FV RL 145 RX8 yX8_wet cX8_wet 6 (some .int) 2 := ⟨⟨fb_X8_wet, (wsAll_mem (List.mem_of_getElem? (i := 1291) (by decide +kernel)) (by decide +kernel))⟩, (wsAll_mem (List.mem_of_getElem? (i := 1292) (by decide +kernel)) (by decide +kernel)), (wsAll_mem (List.mem_of_getElem? (i := 1293) (by decide +kernel)) (by decide +kernel))⟩
theorem fb_X7_evenings : bx_FB yX7_evenings cX7_evenings 7 (some .int) 2 := ⟨(wsAll_mem (List.mem_of_getElem? (i := 840) (by decide +kernel)) (by decide +kernel)), (wsAll_mem (List.mem_of_getElem? (i := 72) (by decide +kernel)) (by decide +kernel)), by decide +kernel, by decide +kernel, by decide +kernel⟩
theorem fc_L_146 : bx_FV RL 146 RX7 yX7_evenings cX7_evenings 7 (some .int) 2 := ⟨⟨fb_X7_evenings, (wsAll_mem (List.mem_of_getElem? (i := 837) (by decide +kernel)) (by decide +kernel))⟩, (wsAll_mem (List.mem_of_getElem? (i := 838) (by decide +kernel)) (by decide +kernel)), (wsAll_mem (List.mem_of_getElem? (i := 839) (by decide +kernel)) (by decide +kernel))⟩
theorem fb_X8_evenings : bx_FB yX8_evenings cX8_evenings 10 (some .int) 2 := ⟨(wsAll_mem (List.mem_of_getElem? (i := 1303) (by decide +kernel)) (by decide +kernel)), (wsAll_mem (List.mem_of_getElem? (i := 79) (by decide +kernel)) (by decide +kernel)), by decide +kernel, by decide +kernel, by decide +kernel⟩
theorem fc_L_149 : bx_FV RL 149 RX8 yX8_evenings cX8_evenings 10 (some .int) 2 := ⟨⟨fb_X8_evenings, (wsAll_mem (List.mem_of_getElem? (i := 1300) (by decide +kernel)) (by decide +kernel))⟩, (wsAll_mem (List.mem_of_getElem? (i := 1301) (by decide +kernel)) (by decide +kernel)), (wsAll_mem (List.mem_of_getElem? (i := 1302) (by decide +kernel)) (by decide +kernel))⟩
theorem fb_X7_part : bx_FB yX7_part cX7_part 2 (some .long) 1 := ⟨(wsAll_mem (List.mem_of_getElem? (i := 861) (by decide +kernel)) (by decide +kernel)), (wsAll_mem (List.mem_of_getElem? (i := 72) (by decide +kernel)) (by decide +kernel)), by decide +kernel, by decide +kernel, by decide +kernel⟩
theorem fc_L_150 : bx_FV RL 150 RX7 yX7_part cX7_part 2 (some .long) 1 := ⟨⟨fb_X7_part, (wsAll_mem (List.mem_of_getElem? (i := 858) (by decide +kernel)) (by decide +kernel))⟩, (wsAll_mem (List.mem_of_getElem? (i := 859) (by decide +kernel)) (by decide +kernel)), (wsAll_mem (List.mem_of_getElem? (i := 860) (by decide +kernel)) (by decide +kernel))⟩
theorem fb_X8_part : bx_FB yX8_part cX8_part 2 (some .long) 1 := ⟨(wsAll_mem (List.mem_of_getElem? (i := 1316) (by decide +kernel)) (by decide +kernel)), (wsAll_mem (List.mem_of_getElem? (i := 79) (by decide +kernel)) (by decide +kernel)), by decide +kernel, by decide +kernel, by decide +kernel⟩
theorem fc_L_154 : bx_FV RL 154 RX8 yX8_part cX8_part 2 (some .long) 1 := ⟨⟨fb_X8_part, (wsAll_mem (List.mem_of_getElem? (i := 1313) (by decide +kernel)) (by decide +kernel))⟩, (wsAll_mem (List.mem_of_getElem? (i := 1314) (by decide +kernel)) (by decide +kernel)), (wsAll_mem (List.mem_of_getElem? (i := 1315) (by decide +kernel)) (by decide +kernel))⟩
theorem fb_X7_image : bx_FB yX7_image cX7_image 2 (some .int) 1 := ⟨(wsAll_mem (List.mem_of_getElem? (i := 865) (by decide +kernel)) (by decide +kernel)), (wsAll_mem (List.mem_of_getElem? (i := 72) (by decide +kernel)) (by decide +kernel)), by decide +kernel, by decide +kernel, by decide +kernel⟩
theorem fc_L_155 : bx_FV RL 155 RX7 yX7_image cX7_image 2 (some .int) 1 := ⟨⟨fb_X7_image, (wsAll_mem (List.mem_of_getElem? (i := 862) (by decide +kernel)) (by decide +kernel))⟩, (wsAll_mem (List.mem_of_getElem? (i := 863) (by decide +kernel)) (by decide +kernel)), (wsAll_mem (List.mem_of_getElem? (i := 864) (by decide +kernel)) (by decide +kernel))⟩
theorem fb_X8_image : bx_FB yX8_image cX8_image 3 (some .int) 1 := ⟨(wsAll_mem (List.mem_of_getElem? (i := 1320) (by decide +kernel)) (by decide +kernel)), (wsAll_mem (List.mem_of_getElem? (i := 79) (by decide +kernel)) (by decide +kernel)), by decide +kernel, by decide +kernel, by decide +kernel⟩
theorem fc_L_158 : bx_FV RL 158 RX8 yX8_image cX8_image 3 (some .int) 1 := ⟨⟨fb_X8_image, (wsAll_mem (List.mem_of_getElem? (i := 1317) (by decide +kernel)) (by decide +kernel))⟩, (wsAll_mem (List.mem_of_getElem? (i := 1318) (by decide +kernel)) (by decide +kernel)), (wsAll_mem (List.mem_of_getElem? (i := 1319) (by decide +kernel)) (by decide +kernel))⟩
theorem fb_X7_from : bx_FB yX7_from cX7_from 2 (some .int) 1 := ⟨(wsAll_mem (List.mem_of_getElem? (i := 869) (by decide +kernel)) (by decide +kernel)), (wsAll_mem (List.mem_of_getElem? (i := 72) (by decide +kernel)) (by decide +kernel)), by decide +kernel, by decide +kernel, by decide +kernel⟩
theorem fc_L_159 : bx_FV RL 159 RX7 yX7_from cX7_from 2 (some .int) 1 := ⟨⟨fb_X7_from, (wsAll_mem (List.mem_of_getElem? (i := 866) (by decide +kernel)) (by decide +kernel))⟩, (wsAll_mem (List.mem_of_getElem? (i := 867) (by decide +kernel)) (by decide +kernel)), (wsAll_mem (List.mem_of_getElem? (i := 868) (by decide +kernel)) (by decide +kernel))⟩
theorem fb_X8_from : bx_FB yX8_from cX8_from 3 (some .int) 1 := ⟨(wsAll_mem (List.mem_of_getElem? (i := 1324) (by decide +kernel)) (by decide +kernel)), (wsAll_mem (List.mem_of_getElem? (i := 79) (by decide +kernel)) (by decide +kernel)), by decide +kernel, by decide +kernel, by decide +kernel⟩
theorem fc_L_162 : bx_FV RL 162 RX8 yX8_from cX8_from 3 (some .int) 1 := ⟨⟨fb_X8_from, (wsAll_mem (List.mem_of_getElem? (i := 1321) (by decide +kernel)) (by decide +kernel))⟩, (wsAll_mem (List.mem_of_getElem? (i := 1322) (by decide +kernel)) (by decide +kernel)), (wsAll_mem (List.mem_of_getElem? (i := 1323) (by decide +kernel)) (by decide +kernel))⟩
theorem fb_X7_status : bx_FB yX7_status cX7_status 2 (some .int) 1 := ⟨(wsAll_mem (List.mem_of_getElem? (i := 873) (by decide +kernel)) (by decide +kernel)), (wsAll_mem (List.mem_of_getElem? (i := 72) (by decide +kernel)) (by decide +kernel)), by decide +kernel, by decide +kernel, by decide +kernel⟩
theorem fc_L_163 : bx_FV RL 163 RX7 yX7_status cX7_status 2 (some .int) 1 := ⟨⟨fb_X7_status, (wsAll_mem (List.mem_of_getElem? (i := 870) (by decide +kernel)) (by decide +kernel))⟩, (wsAll_mem (List.mem_of_getElem? (i := 871) (by decide +kernel)) (by decide +kernel)), (wsAll_mem (List.mem_of_getElem? (i := 872) (by decide +kernel)) (by decide +kernel))⟩
theorem fb_X8_status : bx_FB yX8_status cX8_status 2 (some .int) 1 := ⟨(wsAll_mem (List.mem_of_getElem? (i := 1328) (by decide +kernel)) (by decide +kernel)), (wsAll_mem (List.mem_of_getElem? (i := 79) (by decide +kernel)) (by decide +kernel)), by decide +kernel, by decide +kernel, by decide +kernel⟩
theorem fc_L_166 : bx_FV RL 166 RX8 yX8_status cX8_status 2 (some .int) 1 := ⟨⟨fb_X8_status, (wsAll_mem (List.mem_of_getElem? (i := 1325) (by decide +kernel)) (by decide +kernel))⟩, (wsAll_mem (List.mem_of_getElem? (i := 1326) (by decide +kernel)) (by decide +kernel)), (wsAll_mem (List.mem_of_getElem? (i := 1327) (by decide +kernel)) (by decide +kernel))⟩
theorem fb_X7_count : bx_FB yX7_count cX7_count 2 (some .int) 1 := ⟨(wsAll_mem (List.mem_of_getElem? (i := 877) (by decide +kernel)) (by decide +kernel)), (wsAll_mem (List.mem_of_getElem? (i := 72) (by decide +kernel)) (by decide +kernel)), by decide +kernel, by decide +kernel, by decide +kernel⟩
theorem fc_L_167 : bx_FV RL 167 RX7 yX7_count cX7_count 2 (some .int) 1 := ⟨⟨fb_X7_count, (wsAll_mem (List.mem_of_getElem? (i := 874) (by decide +kernel)) (by decide +kernel))⟩, (wsAll_mem (List.mem_of_getElem? (i := 875) (by decide +kernel)) (by decide +kernel)), (wsAll_mem (List.mem_of_getElem? (i := 876) (by decide +kernel)) (by decide +kernel))⟩
theorem fb_X8_count : bx_FB yX8_count cX8_count 2 (some .int) 1 := ⟨(wsAll_mem (List.mem_of_getElem? (i := 1332) (by decide +kernel)) (by decide +kernel)), (wsAll_mem (List.mem_of_getElem? (i := 79) (by decide +kernel)) (by decide +kernel)), by decide +kernel, by decide +kernel, by decide +kernel⟩
theorem fc_L_170 : bx_FV RL 170 RX8 yX8_count cX8_count 2 (some .int) 1 := ⟨⟨fb_X8_count, (wsAll_mem (List.mem_of_getElem? (i := 1329) (by decide +kernel)) (by decide +kernel))⟩, (wsAll_mem (List.mem_of_getElem? (i := 1330) (by decide +kernel)) (by decide +kernel)), (wsAll_mem (List.mem_of_getElem? (i := 1331) (by decide +kernel)) (by decide +kernel))⟩
theorem fb_X7_digest : bx_FB yX7_digest cX7_digest 4 (some .long) 0 := ⟨(wsAll_mem (List.mem_of_getElem? (i := 890) (by decide +kernel)) (by decide +kernel)), (wsAll_mem (List.mem_of_getElem? (i := 72) (by decide +kernel)) (by decide +kernel)), by decide +kernel, by decide +kernel, by decide +kernel⟩
theorem fc_L_171 : bx_FV RL 171 RX7 yX7_digest cX7_digest 4 (some .long) 0 := ⟨⟨fb_X7_digest, (wsAll_mem (List.mem_of_getElem? (i := 887) (by decide +kernel)) (by decide +kernel))⟩, (wsAll_mem (List.mem_of_getElem? (i := 888) (by decide +kernel)) (by decide +kernel)), (wsAll_mem (List.mem_of_getElem? (i := 889) (by decide +kernel)) (by decide +kernel))⟩
theorem fb_X8_digest : bx_FB yX8_digest cX8_digest 4 (some .long) 0 := ⟨(wsAll_mem (List.mem_of_getElem? (i := 1341) (by decide +kernel)) (by decide +kernel)), (wsAll_mem (List.mem_of_getElem? (i := 79) (by decide +kernel)) (by decide +kernel)), by decide +kernel, by decide +kernel, by decide +kernel⟩
theorem fc_L_175 : bx_FV RL 175 RX8 yX8_digest cX8_digest 4 (some .long) 0 := ⟨⟨fb_X8_digest, (wsAll_mem (List.mem_of_getElem? (i := 1338) (by decide +kernel)) (by decide +kernel))⟩, (wsAll_mem (List.mem_of_getElem? (i := 1339) (by decide +kernel)) (by decide +kernel)), (wsAll_mem (List.mem_of_getElem? (i := 1340) (by decide +kernel)) (by decide +kernel))⟩
section LW2
variable {p : Program} {l : Launch} {e : Env} {s : State} {m : MethodId} {below : List Frame} {meth : Method} {c : Code} {E : bx_E} {a b : Nat → Nat} {q0 L : Nat} {xs : Nat → Int32}
set_option maxRecDepth 20000 in
set_option maxHeartbeats 4000000 in
theorem lcase_0 (C : bx_C p room_1 s m #[Value.ref q0] meth c cL_law 4 RL ret E (fun q : Nat => s.heap.size ≤ q) 84 2186) (hX : va_X q0 L xs s s.heap) (hbl : q0 < s.heap.size) {x3 : Int32} (hi1 : vp_in (x3 + 1) L) (hi2 : vp_in (x3 + 2) L) (hi3 : vp_in (x3 + 3) L) (hi4 : vp_in (x3 + 4) L) {Rel : US → MS → Prop} {u : US} {mm : MS} (hv : V_X7_hall (fun r u2 => V_X8_hall (fun r2 mm2 => r = r2 ∧ Rel u2 mm2) mm ) u ) (kk : ∀ (u : US) (mm : MS), Rel u mm → bx_S p l e room_1 s m #[Value.ref q0] below meth c 4 E (fun q : Nat => s.heap.size ≤ q) (lw_Z below #[Value.ref q0] s) 84 2186 1263 [(0, .ref q0), (1, .ref (a 0)), (2, .ref (b 0)), (3, .int x3)] [] (w_U E a u ++ w_M E b mm)) : bx_S p l e room_1 s m #[Value.ref q0] below meth c 4 E (fun q : Nat => s.heap.size ≤ q) (lw_Z below #[Value.ref q0] s) 84 2186 204 [(0, .ref q0), (1, .ref (a 0)), (2, .ref (b 0)), (3, .int x3)] [] (w_U E a u ++ w_M E b mm) := by
  have hbA : ¬ (fun q : Nat => s.heap.size ≤ q) q0 := Nat.not_le.mpr hbl
  refine bx_aload_n C 205 dL_law_204 rfl rfl rfl ?_
  obtain ⟨fsU, haU⟩ := lw_atU (E := E) (a := a) (b := b) (u := u) (mm := mm)
  refine bx_qVi C 0 haU rfl 208 fc_L_13 (k_X7_hall l E a _ _ hv) dL_law_205 ⟨rfl, rfl, Nat.le_of_ble_eq_true rfl, Nat.le_of_ble_eq_true rfl⟩ [0, 1, 2, 3, 4, 5, 6, 7, 8, 9, 10, 11, 12, 13, 14, 15, 16, 17, 18, 19, 20, 21, 22, 23, 24, 25, 26, 27, 28, 29, 30, 31, 32, 33, 34, 35, 36, 37, 38, 39, 40, 41, 42, 43, 44, 45, 46, 47, 48, 49, 50, 51, 52, 53, 54, 55, 56, 57, 58, 59, 60, 61, 62, 63, 64, 65, 66, 67, 68, 69, 70, 71, 72, 73] (fun v => w_U E a v ++ w_M E b mm) lw_psU lw_ndU lw_adU lw_puU rfl rfl (Nat.le_of_ble_eq_true rfl) rfl (fun r1 u2 hv => ?_)
  refine bx_aload_n C 209 dL_law_208 rfl rfl rfl ?_
  obtain ⟨fsM, haM⟩ := lw_atM (E := E) (a := a) (b := b) (u := u2) (mm := mm)
  refine bx_qVi C 74 haM rfl 212 fc_L_17 (k_X8_hall l E b _ _ hv) dL_law_209 ⟨rfl, rfl, Nat.le_of_ble_eq_true rfl, Nat.le_of_ble_eq_true rfl⟩ [74, 75, 76, 77, 78, 79, 80, 81, 82, 83] (fun v => w_U E a u2 ++ w_M E b v) lw_psM lw_ndM lw_adM lw_puM rfl rfl (Nat.le_of_ble_eq_true rfl) rfl (fun r2 mm2 hv => ?_)
  refine bx_icmp_eq C 1263 215 dL_law_212 (by decide) rfl (fun _ => ?_) (fun h => absurd hv.1 h)
  exact kk _ _ hv.2
set_option maxRecDepth 20000 in
set_option maxHeartbeats 4000000 in
theorem lcase_1 (C : bx_C p room_1 s m #[Value.ref q0] meth c cL_law 4 RL ret E (fun q : Nat => s.heap.size ≤ q) 84 2186) (hX : va_X q0 L xs s s.heap) (hbl : q0 < s.heap.size) {x3 : Int32} (hi1 : vp_in (x3 + 1) L) (hi2 : vp_in (x3 + 2) L) (hi3 : vp_in (x3 + 3) L) (hi4 : vp_in (x3 + 4) L) {Rel : US → MS → Prop} {u : US} {mm : MS} (hv : V_X7_row (fun r u2 => V_X8_row (fun r2 mm2 => r = r2 ∧ Rel u2 mm2) mm (xs (x3 + 1).toNatClampNeg) (xs (x3 + 2).toNatClampNeg)) u (xs (x3 + 1).toNatClampNeg) (xs (x3 + 2).toNatClampNeg)) (kk : ∀ (u : US) (mm : MS), Rel u mm → bx_S p l e room_1 s m #[Value.ref q0] below meth c 4 E (fun q : Nat => s.heap.size ≤ q) (lw_Z below #[Value.ref q0] s) 84 2186 1263 [(0, .ref q0), (1, .ref (a 0)), (2, .ref (b 0)), (3, .int x3)] [] (w_U E a u ++ w_M E b mm)) : bx_S p l e room_1 s m #[Value.ref q0] below meth c 4 E (fun q : Nat => s.heap.size ≤ q) (lw_Z below #[Value.ref q0] s) 84 2186 217 [(0, .ref q0), (1, .ref (a 0)), (2, .ref (b 0)), (3, .int x3)] [] (w_U E a u ++ w_M E b mm) := by
  have hbA : ¬ (fun q : Nat => s.heap.size ≤ q) q0 := Nat.not_le.mpr hbl
  refine bx_aload_n C 218 dL_law_217 rfl rfl rfl ?_
  refine bx_aload_n C 219 dL_law_218 rfl rfl rfl ?_
  refine bx_iload_n C 220 dL_law_219 rfl rfl rfl ?_
  refine bx_iconst C 1 221 dL_law_220 ic_1 rfl ?_
  refine bx_iadd C 222 dL_law_221 rfl ?_
  refine bx_sld C 223 hX hbl hbA dL_law_222 hi1 rfl ?_
  refine bx_aload_n C 224 dL_law_223 rfl rfl rfl ?_
  refine bx_iload_n C 225 dL_law_224 rfl rfl rfl ?_
  refine bx_iconst C 2 226 dL_law_225 ic_2 rfl ?_
  refine bx_iadd C 227 dL_law_226 rfl ?_
  refine bx_sld C 228 hX hbl hbA dL_law_227 hi2 rfl ?_
  obtain ⟨fsU, haU⟩ := lw_atU (E := E) (a := a) (b := b) (u := u) (mm := mm)
  refine bx_qVi C 0 haU rfl 231 fc_L_18 (k_X7_row l E a _ _ _ _ hv) dL_law_228 ⟨rfl, rfl, Nat.le_of_ble_eq_true rfl, Nat.le_of_ble_eq_true rfl⟩ [0, 1, 2, 3, 4, 5, 6, 7, 8, 9, 10, 11, 12, 13, 14, 15, 16, 17, 18, 19, 20, 21, 22, 23, 24, 25, 26, 27, 28, 29, 30, 31, 32, 33, 34, 35, 36, 37, 38, 39, 40, 41, 42, 43, 44, 45, 46, 47, 48, 49, 50, 51, 52, 53, 54, 55, 56, 57, 58, 59, 60, 61, 62, 63, 64, 65, 66, 67, 68, 69, 70, 71, 72, 73] (fun v => w_U E a v ++ w_M E b mm) lw_psU lw_ndU lw_adU lw_puU rfl rfl (Nat.le_of_ble_eq_true rfl) rfl (fun r1 u2 hv => ?_)
  refine bx_aload_n C 232 dL_law_231 rfl rfl rfl ?_
  refine bx_aload_n C 233 dL_law_232 rfl rfl rfl ?_
  refine bx_iload_n C 234 dL_law_233 rfl rfl rfl ?_
  refine bx_iconst C 1 235 dL_law_234 ic_1 rfl ?_
  refine bx_iadd C 236 dL_law_235 rfl ?_
  refine bx_sld C 237 hX hbl hbA dL_law_236 hi1 rfl ?_
  refine bx_aload_n C 238 dL_law_237 rfl rfl rfl ?_
  refine bx_iload_n C 239 dL_law_238 rfl rfl rfl ?_
  refine bx_iconst C 2 240 dL_law_239 ic_2 rfl ?_
  refine bx_iadd C 241 dL_law_240 rfl ?_
  refine bx_sld C 242 hX hbl hbA dL_law_241 hi2 rfl ?_
  obtain ⟨fsM, haM⟩ := lw_atM (E := E) (a := a) (b := b) (u := u2) (mm := mm)
  refine bx_qVi C 74 haM rfl 245 fc_L_22 (k_X8_row l E b _ _ _ _ hv) dL_law_242 ⟨rfl, rfl, Nat.le_of_ble_eq_true rfl, Nat.le_of_ble_eq_true rfl⟩ [74, 75, 76, 77, 78, 79, 80, 81, 82, 83] (fun v => w_U E a u2 ++ w_M E b v) lw_psM lw_ndM lw_adM lw_puM rfl rfl (Nat.le_of_ble_eq_true rfl) rfl (fun r2 mm2 hv => ?_)
  refine bx_icmp_eq C 1263 248 dL_law_245 (by decide) rfl (fun _ => ?_) (fun h => absurd hv.1 h)
  exact kk _ _ hv.2
set_option maxRecDepth 20000 in
set_option maxHeartbeats 4000000 in
theorem lcase_2 (C : bx_C p room_1 s m #[Value.ref q0] meth c cL_law 4 RL ret E (fun q : Nat => s.heap.size ≤ q) 84 2186) (hX : va_X q0 L xs s s.heap) (hbl : q0 < s.heap.size) {x3 : Int32} (hi1 : vp_in (x3 + 1) L) (hi2 : vp_in (x3 + 2) L) (hi3 : vp_in (x3 + 3) L) (hi4 : vp_in (x3 + 4) L) {Rel : US → MS → Prop} {u : US} {mm : MS} (hv : V_X7_soul (fun r u2 => V_X8_soul (fun r2 mm2 => r = r2 ∧ Rel u2 mm2) mm (xs (x3 + 1).toNatClampNeg) (xs (x3 + 2).toNatClampNeg)) u (xs (x3 + 1).toNatClampNeg) (xs (x3 + 2).toNatClampNeg)) (kk : ∀ (u : US) (mm : MS), Rel u mm → bx_S p l e room_1 s m #[Value.ref q0] below meth c 4 E (fun q : Nat => s.heap.size ≤ q) (lw_Z below #[Value.ref q0] s) 84 2186 1263 [(0, .ref q0), (1, .ref (a 0)), (2, .ref (b 0)), (3, .int x3)] [] (w_U E a u ++ w_M E b mm)) : bx_S p l e room_1 s m #[Value.ref q0] below meth c 4 E (fun q : Nat => s.heap.size ≤ q) (lw_Z below #[Value.ref q0] s) 84 2186 250 [(0, .ref q0), (1, .ref (a 0)), (2, .ref (b 0)), (3, .int x3)] [] (w_U E a u ++ w_M E b mm) := by
  have hbA : ¬ (fun q : Nat => s.heap.size ≤ q) q0 := Nat.not_le.mpr hbl
  refine bx_aload_n C 251 dL_law_250 rfl rfl rfl ?_
  refine bx_aload_n C 252 dL_law_251 rfl rfl rfl ?_
  refine bx_iload_n C 253 dL_law_252 rfl rfl rfl ?_
  refine bx_iconst C 1 254 dL_law_253 ic_1 rfl ?_
  refine bx_iadd C 255 dL_law_254 rfl ?_
  refine bx_sld C 256 hX hbl hbA dL_law_255 hi1 rfl ?_
  refine bx_aload_n C 257 dL_law_256 rfl rfl rfl ?_
  refine bx_iload_n C 258 dL_law_257 rfl rfl rfl ?_
  refine bx_iconst C 2 259 dL_law_258 ic_2 rfl ?_
  refine bx_iadd C 260 dL_law_259 rfl ?_
  refine bx_sld C 261 hX hbl hbA dL_law_260 hi2 rfl ?_
  obtain ⟨fsU, haU⟩ := lw_atU (E := E) (a := a) (b := b) (u := u) (mm := mm)
  refine bx_qVi C 0 haU rfl 264 fc_L_23 (k_X7_soul l E a _ _ _ _ hv) dL_law_261 ⟨rfl, rfl, Nat.le_of_ble_eq_true rfl, Nat.le_of_ble_eq_true rfl⟩ [0, 1, 2, 3, 4, 5, 6, 7, 8, 9, 10, 11, 12, 13, 14, 15, 16, 17, 18, 19, 20, 21, 22, 23, 24, 25, 26, 27, 28, 29, 30, 31, 32, 33, 34, 35, 36, 37, 38, 39, 40, 41, 42, 43, 44, 45, 46, 47, 48, 49, 50, 51, 52, 53, 54, 55, 56, 57, 58, 59, 60, 61, 62, 63, 64, 65, 66, 67, 68, 69, 70, 71, 72, 73] (fun v => w_U E a v ++ w_M E b mm) lw_psU lw_ndU lw_adU lw_puU rfl rfl (Nat.le_of_ble_eq_true rfl) rfl (fun r1 u2 hv => ?_)
  refine bx_aload_n C 265 dL_law_264 rfl rfl rfl ?_
  refine bx_aload_n C 266 dL_law_265 rfl rfl rfl ?_
  refine bx_iload_n C 267 dL_law_266 rfl rfl rfl ?_
  refine bx_iconst C 1 268 dL_law_267 ic_1 rfl ?_
  refine bx_iadd C 269 dL_law_268 rfl ?_
  refine bx_sld C 270 hX hbl hbA dL_law_269 hi1 rfl ?_
  refine bx_aload_n C 271 dL_law_270 rfl rfl rfl ?_
  refine bx_iload_n C 272 dL_law_271 rfl rfl rfl ?_
  refine bx_iconst C 2 273 dL_law_272 ic_2 rfl ?_
  refine bx_iadd C 274 dL_law_273 rfl ?_
  refine bx_sld C 275 hX hbl hbA dL_law_274 hi2 rfl ?_
  obtain ⟨fsM, haM⟩ := lw_atM (E := E) (a := a) (b := b) (u := u2) (mm := mm)
  refine bx_qVi C 74 haM rfl 278 fc_L_26 (k_X8_soul l E b _ _ _ _ hv) dL_law_275 ⟨rfl, rfl, Nat.le_of_ble_eq_true rfl, Nat.le_of_ble_eq_true rfl⟩ [74, 75, 76, 77, 78, 79, 80, 81, 82, 83] (fun v => w_U E a u2 ++ w_M E b v) lw_psM lw_ndM lw_adM lw_puM rfl rfl (Nat.le_of_ble_eq_true rfl) rfl (fun r2 mm2 hv => ?_)
  refine bx_icmp_eq C 1263 281 dL_law_278 (by decide) rfl (fun _ => ?_) (fun h => absurd hv.1 h)
  exact kk _ _ hv.2
set_option maxRecDepth 20000 in
set_option maxHeartbeats 4000000 in
theorem lcase_3 (C : bx_C p room_1 s m #[Value.ref q0] meth c cL_law 4 RL ret E (fun q : Nat => s.heap.size ≤ q) 84 2186) (hX : va_X q0 L xs s s.heap) (hbl : q0 < s.heap.size) {x3 : Int32} (hi1 : vp_in (x3 + 1) L) (hi2 : vp_in (x3 + 2) L) (hi3 : vp_in (x3 + 3) L) (hi4 : vp_in (x3 + 4) L) {Rel : US → MS → Prop} {u : US} {mm : MS} (hv : V_X7_type (fun r u2 => V_X8_type (fun r2 mm2 => r = r2 ∧ Rel u2 mm2) mm (xs (x3 + 1).toNatClampNeg)) u (xs (x3 + 1).toNatClampNeg)) (kk : ∀ (u : US) (mm : MS), Rel u mm → bx_S p l e room_1 s m #[Value.ref q0] below meth c 4 E (fun q : Nat => s.heap.size ≤ q) (lw_Z below #[Value.ref q0] s) 84 2186 1263 [(0, .ref q0), (1, .ref (a 0)), (2, .ref (b 0)), (3, .int x3)] [] (w_U E a u ++ w_M E b mm)) : bx_S p l e room_1 s m #[Value.ref q0] below meth c 4 E (fun q : Nat => s.heap.size ≤ q) (lw_Z below #[Value.ref q0] s) 84 2186 283 [(0, .ref q0), (1, .ref (a 0)), (2, .ref (b 0)), (3, .int x3)] [] (w_U E a u ++ w_M E b mm) := by
  have hbA : ¬ (fun q : Nat => s.heap.size ≤ q) q0 := Nat.not_le.mpr hbl
  refine bx_aload_n C 284 dL_law_283 rfl rfl rfl ?_
  refine bx_aload_n C 285 dL_law_284 rfl rfl rfl ?_
  refine bx_iload_n C 286 dL_law_285 rfl rfl rfl ?_
  refine bx_iconst C 1 287 dL_law_286 ic_1 rfl ?_
  refine bx_iadd C 288 dL_law_287 rfl ?_
  refine bx_sld C 289 hX hbl hbA dL_law_288 hi1 rfl ?_
  obtain ⟨fsU, haU⟩ := lw_atU (E := E) (a := a) (b := b) (u := u) (mm := mm)
  refine bx_qVi C 0 haU rfl 292 fc_L_27 (k_X7_type l E a _ _ _ hv) dL_law_289 ⟨rfl, rfl, Nat.le_of_ble_eq_true rfl, Nat.le_of_ble_eq_true rfl⟩ [0, 1, 2, 3, 4, 5, 6, 7, 8, 9, 10, 11, 12, 13, 14, 15, 16, 17, 18, 19, 20, 21, 22, 23, 24, 25, 26, 27, 28, 29, 30, 31, 32, 33, 34, 35, 36, 37, 38, 39, 40, 41, 42, 43, 44, 45, 46, 47, 48, 49, 50, 51, 52, 53, 54, 55, 56, 57, 58, 59, 60, 61, 62, 63, 64, 65, 66, 67, 68, 69, 70, 71, 72, 73] (fun v => w_U E a v ++ w_M E b mm) lw_psU lw_ndU lw_adU lw_puU rfl rfl (Nat.le_of_ble_eq_true rfl) rfl (fun r1 u2 hv => ?_)
  refine bx_aload_n C 293 dL_law_292 rfl rfl rfl ?_
  refine bx_aload_n C 294 dL_law_293 rfl rfl rfl ?_
  refine bx_iload_n C 295 dL_law_294 rfl rfl rfl ?_
  refine bx_iconst C 1 296 dL_law_295 ic_1 rfl ?_
  refine bx_iadd C 297 dL_law_296 rfl ?_
  refine bx_sld C 298 hX hbl hbA dL_law_297 hi1 rfl ?_
  obtain ⟨fsM, haM⟩ := lw_atM (E := E) (a := a) (b := b) (u := u2) (mm := mm)
  refine bx_qVi C 74 haM rfl 301 fc_L_31 (k_X8_type l E b _ _ _ hv) dL_law_298 ⟨rfl, rfl, Nat.le_of_ble_eq_true rfl, Nat.le_of_ble_eq_true rfl⟩ [74, 75, 76, 77, 78, 79, 80, 81, 82, 83] (fun v => w_U E a u2 ++ w_M E b v) lw_psM lw_ndM lw_adM lw_puM rfl rfl (Nat.le_of_ble_eq_true rfl) rfl (fun r2 mm2 hv => ?_)
  refine bx_icmp_eq C 1263 304 dL_law_301 (by decide) rfl (fun _ => ?_) (fun h => absurd hv.1 h)
  exact kk _ _ hv.2
set_option maxRecDepth 20000 in
set_option maxHeartbeats 4000000 in
theorem lcase_4 (C : bx_C p room_1 s m #[Value.ref q0] meth c cL_law 4 RL ret E (fun q : Nat => s.heap.size ≤ q) 84 2186) (hX : va_X q0 L xs s s.heap) (hbl : q0 < s.heap.size) {x3 : Int32} (hi1 : vp_in (x3 + 1) L) (hi2 : vp_in (x3 + 2) L) (hi3 : vp_in (x3 + 3) L) (hi4 : vp_in (x3 + 4) L) {Rel : US → MS → Prop} {u : US} {mm : MS} (hv : V_X7_clear (fun r u2 => V_X8_clear (fun r2 mm2 => r = r2 ∧ Rel u2 mm2) mm ) u ) (kk : ∀ (u : US) (mm : MS), Rel u mm → bx_S p l e room_1 s m #[Value.ref q0] below meth c 4 E (fun q : Nat => s.heap.size ≤ q) (lw_Z below #[Value.ref q0] s) 84 2186 1263 [(0, .ref q0), (1, .ref (a 0)), (2, .ref (b 0)), (3, .int x3)] [] (w_U E a u ++ w_M E b mm)) : bx_S p l e room_1 s m #[Value.ref q0] below meth c 4 E (fun q : Nat => s.heap.size ≤ q) (lw_Z below #[Value.ref q0] s) 84 2186 306 [(0, .ref q0), (1, .ref (a 0)), (2, .ref (b 0)), (3, .int x3)] [] (w_U E a u ++ w_M E b mm) := by
  have hbA : ¬ (fun q : Nat => s.heap.size ≤ q) q0 := Nat.not_le.mpr hbl
  refine bx_aload_n C 307 dL_law_306 rfl rfl rfl ?_
  obtain ⟨fsU, haU⟩ := lw_atU (E := E) (a := a) (b := b) (u := u) (mm := mm)
  refine bx_qVi C 0 haU rfl 310 fc_L_32 (k_X7_clear l E a _ _ hv) dL_law_307 ⟨rfl, rfl, Nat.le_of_ble_eq_true rfl, Nat.le_of_ble_eq_true rfl⟩ [0, 1, 2, 3, 4, 5, 6, 7, 8, 9, 10, 11, 12, 13, 14, 15, 16, 17, 18, 19, 20, 21, 22, 23, 24, 25, 26, 27, 28, 29, 30, 31, 32, 33, 34, 35, 36, 37, 38, 39, 40, 41, 42, 43, 44, 45, 46, 47, 48, 49, 50, 51, 52, 53, 54, 55, 56, 57, 58, 59, 60, 61, 62, 63, 64, 65, 66, 67, 68, 69, 70, 71, 72, 73] (fun v => w_U E a v ++ w_M E b mm) lw_psU lw_ndU lw_adU lw_puU rfl rfl (Nat.le_of_ble_eq_true rfl) rfl (fun r1 u2 hv => ?_)
  refine bx_aload_n C 311 dL_law_310 rfl rfl rfl ?_
  obtain ⟨fsM, haM⟩ := lw_atM (E := E) (a := a) (b := b) (u := u2) (mm := mm)
  refine bx_qVi C 74 haM rfl 314 fc_L_35 (k_X8_clear l E b _ _ hv) dL_law_311 ⟨rfl, rfl, Nat.le_of_ble_eq_true rfl, Nat.le_of_ble_eq_true rfl⟩ [74, 75, 76, 77, 78, 79, 80, 81, 82, 83] (fun v => w_U E a u2 ++ w_M E b v) lw_psM lw_ndM lw_adM lw_puM rfl rfl (Nat.le_of_ble_eq_true rfl) rfl (fun r2 mm2 hv => ?_)
  refine bx_icmp_eq C 1263 317 dL_law_314 (by decide) rfl (fun _ => ?_) (fun h => absurd hv.1 h)
  exact kk _ _ hv.2
set_option maxRecDepth 20000 in
set_option maxHeartbeats 4000000 in
theorem lcase_5 (C : bx_C p room_1 s m #[Value.ref q0] meth c cL_law 4 RL ret E (fun q : Nat => s.heap.size ≤ q) 84 2186) (hX : va_X q0 L xs s s.heap) (hbl : q0 < s.heap.size) {x3 : Int32} (hi1 : vp_in (x3 + 1) L) (hi2 : vp_in (x3 + 2) L) (hi3 : vp_in (x3 + 3) L) (hi4 : vp_in (x3 + 4) L) {Rel : US → MS → Prop} {u : US} {mm : MS} (hv : V_X7_read (fun r u2 => V_X8_read (fun r2 mm2 => r = r2 ∧ Rel u2 mm2) mm ) u ) (kk : ∀ (u : US) (mm : MS), Rel u mm → bx_S p l e room_1 s m #[Value.ref q0] below meth c 4 E (fun q : Nat => s.heap.size ≤ q) (lw_Z below #[Value.ref q0] s) 84 2186 1263 [(0, .ref q0), (1, .ref (a 0)), (2, .ref (b 0)), (3, .int x3)] [] (w_U E a u ++ w_M E b mm)) : bx_S p l e room_1 s m #[Value.ref q0] below meth c 4 E (fun q : Nat => s.heap.size ≤ q) (lw_Z below #[Value.ref q0] s) 84 2186 319 [(0, .ref q0), (1, .ref (a 0)), (2, .ref (b 0)), (3, .int x3)] [] (w_U E a u ++ w_M E b mm) := by
  have hbA : ¬ (fun q : Nat => s.heap.size ≤ q) q0 := Nat.not_le.mpr hbl
  refine bx_aload_n C 320 dL_law_319 rfl rfl rfl ?_
  obtain ⟨fsU, haU⟩ := lw_atU (E := E) (a := a) (b := b) (u := u) (mm := mm)
  refine bx_qVi C 0 haU rfl 323 fc_L_36 (k_X7_read l E a _ _ hv) dL_law_320 ⟨rfl, rfl, Nat.le_of_ble_eq_true rfl, Nat.le_of_ble_eq_true rfl⟩ [0, 1, 2, 3, 4, 5, 6, 7, 8, 9, 10, 11, 12, 13, 14, 15, 16, 17, 18, 19, 20, 21, 22, 23, 24, 25, 26, 27, 28, 29, 30, 31, 32, 33, 34, 35, 36, 37, 38, 39, 40, 41, 42, 43, 44, 45, 46, 47, 48, 49, 50, 51, 52, 53, 54, 55, 56, 57, 58, 59, 60, 61, 62, 63, 64, 65, 66, 67, 68, 69, 70, 71, 72, 73] (fun v => w_U E a v ++ w_M E b mm) lw_psU lw_ndU lw_adU lw_puU rfl rfl (Nat.le_of_ble_eq_true rfl) rfl (fun r1 u2 hv => ?_)
  refine bx_aload_n C 324 dL_law_323 rfl rfl rfl ?_
  obtain ⟨fsM, haM⟩ := lw_atM (E := E) (a := a) (b := b) (u := u2) (mm := mm)
  refine bx_qVi C 74 haM rfl 327 fc_L_39 (k_X8_read l E b _ _ hv) dL_law_324 ⟨rfl, rfl, Nat.le_of_ble_eq_true rfl, Nat.le_of_ble_eq_true rfl⟩ [74, 75, 76, 77, 78, 79, 80, 81, 82, 83] (fun v => w_U E a u2 ++ w_M E b v) lw_psM lw_ndM lw_adM lw_puM rfl rfl (Nat.le_of_ble_eq_true rfl) rfl (fun r2 mm2 hv => ?_)
  refine bx_icmp_eq C 1263 330 dL_law_327 (by decide) rfl (fun _ => ?_) (fun h => absurd hv.1 h)
  exact kk _ _ hv.2
set_option maxRecDepth 20000 in
set_option maxHeartbeats 4000000 in
theorem lcase_6 (C : bx_C p room_1 s m #[Value.ref q0] meth c cL_law 4 RL ret E (fun q : Nat => s.heap.size ≤ q) 84 2186) (hX : va_X q0 L xs s s.heap) (hbl : q0 < s.heap.size) {x3 : Int32} (hi1 : vp_in (x3 + 1) L) (hi2 : vp_in (x3 + 2) L) (hi3 : vp_in (x3 + 3) L) (hi4 : vp_in (x3 + 4) L) {Rel : US → MS → Prop} {u : US} {mm : MS} (hv : V_X7_shows (fun r u2 => V_X8_shows (fun r2 mm2 => r = r2 ∧ Rel u2 mm2) mm (xs (x3 + 1).toNatClampNeg) (xs (x3 + 2).toNatClampNeg)) u (xs (x3 + 1).toNatClampNeg) (xs (x3 + 2).toNatClampNeg)) (kk : ∀ (u : US) (mm : MS), Rel u mm → bx_S p l e room_1 s m #[Value.ref q0] below meth c 4 E (fun q : Nat => s.heap.size ≤ q) (lw_Z below #[Value.ref q0] s) 84 2186 1263 [(0, .ref q0), (1, .ref (a 0)), (2, .ref (b 0)), (3, .int x3)] [] (w_U E a u ++ w_M E b mm)) : bx_S p l e room_1 s m #[Value.ref q0] below meth c 4 E (fun q : Nat => s.heap.size ≤ q) (lw_Z below #[Value.ref q0] s) 84 2186 332 [(0, .ref q0), (1, .ref (a 0)), (2, .ref (b 0)), (3, .int x3)] [] (w_U E a u ++ w_M E b mm) := by
  have hbA : ¬ (fun q : Nat => s.heap.size ≤ q) q0 := Nat.not_le.mpr hbl
  refine bx_aload_n C 333 dL_law_332 rfl rfl rfl ?_
  refine bx_aload_n C 334 dL_law_333 rfl rfl rfl ?_
  refine bx_iload_n C 335 dL_law_334 rfl rfl rfl ?_
  refine bx_iconst C 1 336 dL_law_335 ic_1 rfl ?_
  refine bx_iadd C 337 dL_law_336 rfl ?_
  refine bx_sld C 338 hX hbl hbA dL_law_337 hi1 rfl ?_
  refine bx_aload_n C 339 dL_law_338 rfl rfl rfl ?_
  refine bx_iload_n C 340 dL_law_339 rfl rfl rfl ?_
  refine bx_iconst C 2 341 dL_law_340 ic_2 rfl ?_
  refine bx_iadd C 342 dL_law_341 rfl ?_
  refine bx_sld C 343 hX hbl hbA dL_law_342 hi2 rfl ?_
  obtain ⟨fsU, haU⟩ := lw_atU (E := E) (a := a) (b := b) (u := u) (mm := mm)
  refine bx_qVi C 0 haU rfl 346 fc_L_40 (k_X7_shows l E a _ _ _ _ hv) dL_law_343 ⟨rfl, rfl, Nat.le_of_ble_eq_true rfl, Nat.le_of_ble_eq_true rfl⟩ [0, 1, 2, 3, 4, 5, 6, 7, 8, 9, 10, 11, 12, 13, 14, 15, 16, 17, 18, 19, 20, 21, 22, 23, 24, 25, 26, 27, 28, 29, 30, 31, 32, 33, 34, 35, 36, 37, 38, 39, 40, 41, 42, 43, 44, 45, 46, 47, 48, 49, 50, 51, 52, 53, 54, 55, 56, 57, 58, 59, 60, 61, 62, 63, 64, 65, 66, 67, 68, 69, 70, 71, 72, 73] (fun v => w_U E a v ++ w_M E b mm) lw_psU lw_ndU lw_adU lw_puU rfl rfl (Nat.le_of_ble_eq_true rfl) rfl (fun r1 u2 hv => ?_)
  refine bx_aload_n C 347 dL_law_346 rfl rfl rfl ?_
  refine bx_aload_n C 348 dL_law_347 rfl rfl rfl ?_
  refine bx_iload_n C 349 dL_law_348 rfl rfl rfl ?_
  refine bx_iconst C 1 350 dL_law_349 ic_1 rfl ?_
  refine bx_iadd C 351 dL_law_350 rfl ?_
  refine bx_sld C 352 hX hbl hbA dL_law_351 hi1 rfl ?_
  refine bx_aload_n C 353 dL_law_352 rfl rfl rfl ?_
  refine bx_iload_n C 354 dL_law_353 rfl rfl rfl ?_
  refine bx_iconst C 2 355 dL_law_354 ic_2 rfl ?_
  refine bx_iadd C 356 dL_law_355 rfl ?_
  refine bx_sld C 357 hX hbl hbA dL_law_356 hi2 rfl ?_
  obtain ⟨fsM, haM⟩ := lw_atM (E := E) (a := a) (b := b) (u := u2) (mm := mm)
  refine bx_qVi C 74 haM rfl 360 fc_L_43 (k_X8_shows l E b _ _ _ _ hv) dL_law_357 ⟨rfl, rfl, Nat.le_of_ble_eq_true rfl, Nat.le_of_ble_eq_true rfl⟩ [74, 75, 76, 77, 78, 79, 80, 81, 82, 83] (fun v => w_U E a u2 ++ w_M E b v) lw_psM lw_ndM lw_adM lw_puM rfl rfl (Nat.le_of_ble_eq_true rfl) rfl (fun r2 mm2 hv => ?_)
  refine bx_icmp_eq C 1263 363 dL_law_360 (by decide) rfl (fun _ => ?_) (fun h => absurd hv.1 h)
  exact kk _ _ hv.2
set_option maxRecDepth 20000 in
set_option maxHeartbeats 4000000 in
theorem lcase_7 (C : bx_C p room_1 s m #[Value.ref q0] meth c cL_law 4 RL ret E (fun q : Nat => s.heap.size ≤ q) 84 2186) (hX : va_X q0 L xs s s.heap) (hbl : q0 < s.heap.size) {x3 : Int32} (hi1 : vp_in (x3 + 1) L) (hi2 : vp_in (x3 + 2) L) (hi3 : vp_in (x3 + 3) L) (hi4 : vp_in (x3 + 4) L) {Rel : US → MS → Prop} {u : US} {mm : MS} (hv : V_X7_moves (fun r u2 => V_X8_moves (fun r2 mm2 => r = r2 ∧ Rel u2 mm2) mm (xs (x3 + 1).toNatClampNeg) (xs (x3 + 2).toNatClampNeg)) u (xs (x3 + 1).toNatClampNeg) (xs (x3 + 2).toNatClampNeg)) (kk : ∀ (u : US) (mm : MS), Rel u mm → bx_S p l e room_1 s m #[Value.ref q0] below meth c 4 E (fun q : Nat => s.heap.size ≤ q) (lw_Z below #[Value.ref q0] s) 84 2186 1263 [(0, .ref q0), (1, .ref (a 0)), (2, .ref (b 0)), (3, .int x3)] [] (w_U E a u ++ w_M E b mm)) : bx_S p l e room_1 s m #[Value.ref q0] below meth c 4 E (fun q : Nat => s.heap.size ≤ q) (lw_Z below #[Value.ref q0] s) 84 2186 365 [(0, .ref q0), (1, .ref (a 0)), (2, .ref (b 0)), (3, .int x3)] [] (w_U E a u ++ w_M E b mm) := by
  have hbA : ¬ (fun q : Nat => s.heap.size ≤ q) q0 := Nat.not_le.mpr hbl
  refine bx_aload_n C 366 dL_law_365 rfl rfl rfl ?_
  refine bx_aload_n C 367 dL_law_366 rfl rfl rfl ?_
  refine bx_iload_n C 368 dL_law_367 rfl rfl rfl ?_
  refine bx_iconst C 1 369 dL_law_368 ic_1 rfl ?_
  refine bx_iadd C 370 dL_law_369 rfl ?_
  refine bx_sld C 371 hX hbl hbA dL_law_370 hi1 rfl ?_
  refine bx_aload_n C 372 dL_law_371 rfl rfl rfl ?_
  refine bx_iload_n C 373 dL_law_372 rfl rfl rfl ?_
  refine bx_iconst C 2 374 dL_law_373 ic_2 rfl ?_
  refine bx_iadd C 375 dL_law_374 rfl ?_
  refine bx_sld C 376 hX hbl hbA dL_law_375 hi2 rfl ?_
  obtain ⟨fsU, haU⟩ := lw_atU (E := E) (a := a) (b := b) (u := u) (mm := mm)
  refine bx_qVi C 0 haU rfl 379 fc_L_44 (k_X7_moves l E a _ _ _ _ hv) dL_law_376 ⟨rfl, rfl, Nat.le_of_ble_eq_true rfl, Nat.le_of_ble_eq_true rfl⟩ [0, 1, 2, 3, 4, 5, 6, 7, 8, 9, 10, 11, 12, 13, 14, 15, 16, 17, 18, 19, 20, 21, 22, 23, 24, 25, 26, 27, 28, 29, 30, 31, 32, 33, 34, 35, 36, 37, 38, 39, 40, 41, 42, 43, 44, 45, 46, 47, 48, 49, 50, 51, 52, 53, 54, 55, 56, 57, 58, 59, 60, 61, 62, 63, 64, 65, 66, 67, 68, 69, 70, 71, 72, 73] (fun v => w_U E a v ++ w_M E b mm) lw_psU lw_ndU lw_adU lw_puU rfl rfl (Nat.le_of_ble_eq_true rfl) rfl (fun r1 u2 hv => ?_)
  refine bx_aload_n C 380 dL_law_379 rfl rfl rfl ?_
  refine bx_aload_n C 381 dL_law_380 rfl rfl rfl ?_
  refine bx_iload_n C 382 dL_law_381 rfl rfl rfl ?_
  refine bx_iconst C 1 383 dL_law_382 ic_1 rfl ?_
  refine bx_iadd C 384 dL_law_383 rfl ?_
  refine bx_sld C 385 hX hbl hbA dL_law_384 hi1 rfl ?_
  refine bx_aload_n C 386 dL_law_385 rfl rfl rfl ?_
  refine bx_iload_n C 387 dL_law_386 rfl rfl rfl ?_
  refine bx_iconst C 2 388 dL_law_387 ic_2 rfl ?_
  refine bx_iadd C 389 dL_law_388 rfl ?_
  refine bx_sld C 390 hX hbl hbA dL_law_389 hi2 rfl ?_
  obtain ⟨fsM, haM⟩ := lw_atM (E := E) (a := a) (b := b) (u := u2) (mm := mm)
  refine bx_qVi C 74 haM rfl 393 fc_L_47 (k_X8_moves l E b _ _ _ _ hv) dL_law_390 ⟨rfl, rfl, Nat.le_of_ble_eq_true rfl, Nat.le_of_ble_eq_true rfl⟩ [74, 75, 76, 77, 78, 79, 80, 81, 82, 83] (fun v => w_U E a u2 ++ w_M E b v) lw_psM lw_ndM lw_adM lw_puM rfl rfl (Nat.le_of_ble_eq_true rfl) rfl (fun r2 mm2 hv => ?_)
  refine bx_icmp_eq C 1263 396 dL_law_393 (by decide) rfl (fun _ => ?_) (fun h => absurd hv.1 h)
  exact kk _ _ hv.2
set_option maxRecDepth 20000 in
set_option maxHeartbeats 4000000 in
theorem lcase_8 (C : bx_C p room_1 s m #[Value.ref q0] meth c cL_law 4 RL ret E (fun q : Nat => s.heap.size ≤ q) 84 2186) (hX : va_X q0 L xs s s.heap) (hbl : q0 < s.heap.size) {x3 : Int32} (hi1 : vp_in (x3 + 1) L) (hi2 : vp_in (x3 + 2) L) (hi3 : vp_in (x3 + 3) L) (hi4 : vp_in (x3 + 4) L) {Rel : US → MS → Prop} {u : US} {mm : MS} (hv : V_X7_sends (fun r u2 => V_X8_sends (fun r2 mm2 => r = r2 ∧ Rel u2 mm2) mm (xs (x3 + 1).toNatClampNeg)) u (xs (x3 + 1).toNatClampNeg)) (kk : ∀ (u : US) (mm : MS), Rel u mm → bx_S p l e room_1 s m #[Value.ref q0] below meth c 4 E (fun q : Nat => s.heap.size ≤ q) (lw_Z below #[Value.ref q0] s) 84 2186 1263 [(0, .ref q0), (1, .ref (a 0)), (2, .ref (b 0)), (3, .int x3)] [] (w_U E a u ++ w_M E b mm)) : bx_S p l e room_1 s m #[Value.ref q0] below meth c 4 E (fun q : Nat => s.heap.size ≤ q) (lw_Z below #[Value.ref q0] s) 84 2186 398 [(0, .ref q0), (1, .ref (a 0)), (2, .ref (b 0)), (3, .int x3)] [] (w_U E a u ++ w_M E b mm) := by
  have hbA : ¬ (fun q : Nat => s.heap.size ≤ q) q0 := Nat.not_le.mpr hbl
  refine bx_aload_n C 399 dL_law_398 rfl rfl rfl ?_
  refine bx_aload_n C 400 dL_law_399 rfl rfl rfl ?_
  refine bx_iload_n C 401 dL_law_400 rfl rfl rfl ?_
  refine bx_iconst C 1 402 dL_law_401 ic_1 rfl ?_
  refine bx_iadd C 403 dL_law_402 rfl ?_
  refine bx_sld C 404 hX hbl hbA dL_law_403 hi1 rfl ?_
  obtain ⟨fsU, haU⟩ := lw_atU (E := E) (a := a) (b := b) (u := u) (mm := mm)
  refine bx_qVi C 0 haU rfl 407 fc_L_48 (k_X7_sends l E a _ _ _ hv) dL_law_404 ⟨rfl, rfl, Nat.le_of_ble_eq_true rfl, Nat.le_of_ble_eq_true rfl⟩ [0, 1, 2, 3, 4, 5, 6, 7, 8, 9, 10, 11, 12, 13, 14, 15, 16, 17, 18, 19, 20, 21, 22, 23, 24, 25, 26, 27, 28, 29, 30, 31, 32, 33, 34, 35, 36, 37, 38, 39, 40, 41, 42, 43, 44, 45, 46, 47, 48, 49, 50, 51, 52, 53, 54, 55, 56, 57, 58, 59, 60, 61, 62, 63, 64, 65, 66, 67, 68, 69, 70, 71, 72, 73] (fun v => w_U E a v ++ w_M E b mm) lw_psU lw_ndU lw_adU lw_puU rfl rfl (Nat.le_of_ble_eq_true rfl) rfl (fun r1 u2 hv => ?_)
  refine bx_aload_n C 408 dL_law_407 rfl rfl rfl ?_
  refine bx_aload_n C 409 dL_law_408 rfl rfl rfl ?_
  refine bx_iload_n C 410 dL_law_409 rfl rfl rfl ?_
  refine bx_iconst C 1 411 dL_law_410 ic_1 rfl ?_
  refine bx_iadd C 412 dL_law_411 rfl ?_
  refine bx_sld C 413 hX hbl hbA dL_law_412 hi1 rfl ?_
  obtain ⟨fsM, haM⟩ := lw_atM (E := E) (a := a) (b := b) (u := u2) (mm := mm)
  refine bx_qVi C 74 haM rfl 416 fc_L_51 (k_X8_sends l E b _ _ _ hv) dL_law_413 ⟨rfl, rfl, Nat.le_of_ble_eq_true rfl, Nat.le_of_ble_eq_true rfl⟩ [74, 75, 76, 77, 78, 79, 80, 81, 82, 83] (fun v => w_U E a u2 ++ w_M E b v) lw_psM lw_ndM lw_adM lw_puM rfl rfl (Nat.le_of_ble_eq_true rfl) rfl (fun r2 mm2 hv => ?_)
  refine bx_icmp_eq C 1263 419 dL_law_416 (by decide) rfl (fun _ => ?_) (fun h => absurd hv.1 h)
  exact kk _ _ hv.2
set_option maxRecDepth 20000 in
set_option maxHeartbeats 4000000 in
theorem lcase_9 (C : bx_C p room_1 s m #[Value.ref q0] meth c cL_law 4 RL ret E (fun q : Nat => s.heap.size ≤ q) 84 2186) (hX : va_X q0 L xs s s.heap) (hbl : q0 < s.heap.size) {x3 : Int32} (hi1 : vp_in (x3 + 1) L) (hi2 : vp_in (x3 + 2) L) (hi3 : vp_in (x3 + 3) L) (hi4 : vp_in (x3 + 4) L) {Rel : US → MS → Prop} {u : US} {mm : MS} (hv : V_X7_coat (fun r u2 => V_X8_coat (fun r2 mm2 => r = r2 ∧ Rel u2 mm2) mm (xs (x3 + 1).toNatClampNeg) (xs (x3 + 2).toNatClampNeg)) u (xs (x3 + 1).toNatClampNeg) (xs (x3 + 2).toNatClampNeg)) (kk : ∀ (u : US) (mm : MS), Rel u mm → bx_S p l e room_1 s m #[Value.ref q0] below meth c 4 E (fun q : Nat => s.heap.size ≤ q) (lw_Z below #[Value.ref q0] s) 84 2186 1263 [(0, .ref q0), (1, .ref (a 0)), (2, .ref (b 0)), (3, .int x3)] [] (w_U E a u ++ w_M E b mm)) : bx_S p l e room_1 s m #[Value.ref q0] below meth c 4 E (fun q : Nat => s.heap.size ≤ q) (lw_Z below #[Value.ref q0] s) 84 2186 421 [(0, .ref q0), (1, .ref (a 0)), (2, .ref (b 0)), (3, .int x3)] [] (w_U E a u ++ w_M E b mm) := by
  have hbA : ¬ (fun q : Nat => s.heap.size ≤ q) q0 := Nat.not_le.mpr hbl
  refine bx_aload_n C 422 dL_law_421 rfl rfl rfl ?_
  refine bx_aload_n C 423 dL_law_422 rfl rfl rfl ?_
  refine bx_iload_n C 424 dL_law_423 rfl rfl rfl ?_
  refine bx_iconst C 1 425 dL_law_424 ic_1 rfl ?_
  refine bx_iadd C 426 dL_law_425 rfl ?_
  refine bx_sld C 427 hX hbl hbA dL_law_426 hi1 rfl ?_
  refine bx_aload_n C 428 dL_law_427 rfl rfl rfl ?_
  refine bx_iload_n C 429 dL_law_428 rfl rfl rfl ?_
  refine bx_iconst C 2 430 dL_law_429 ic_2 rfl ?_
  refine bx_iadd C 431 dL_law_430 rfl ?_
  refine bx_sld C 432 hX hbl hbA dL_law_431 hi2 rfl ?_
  obtain ⟨fsU, haU⟩ := lw_atU (E := E) (a := a) (b := b) (u := u) (mm := mm)
  refine bx_qVi C 0 haU rfl 435 fc_L_52 (k_X7_coat l E a _ _ _ _ hv) dL_law_432 ⟨rfl, rfl, Nat.le_of_ble_eq_true rfl, Nat.le_of_ble_eq_true rfl⟩ [0, 1, 2, 3, 4, 5, 6, 7, 8, 9, 10, 11, 12, 13, 14, 15, 16, 17, 18, 19, 20, 21, 22, 23, 24, 25, 26, 27, 28, 29, 30, 31, 32, 33, 34, 35, 36, 37, 38, 39, 40, 41, 42, 43, 44, 45, 46, 47, 48, 49, 50, 51, 52, 53, 54, 55, 56, 57, 58, 59, 60, 61, 62, 63, 64, 65, 66, 67, 68, 69, 70, 71, 72, 73] (fun v => w_U E a v ++ w_M E b mm) lw_psU lw_ndU lw_adU lw_puU rfl rfl (Nat.le_of_ble_eq_true rfl) rfl (fun r1 u2 hv => ?_)
  refine bx_aload_n C 436 dL_law_435 rfl rfl rfl ?_
  refine bx_aload_n C 437 dL_law_436 rfl rfl rfl ?_
  refine bx_iload_n C 438 dL_law_437 rfl rfl rfl ?_
  refine bx_iconst C 1 439 dL_law_438 ic_1 rfl ?_
  refine bx_iadd C 440 dL_law_439 rfl ?_
  refine bx_sld C 441 hX hbl hbA dL_law_440 hi1 rfl ?_
  refine bx_aload_n C 442 dL_law_441 rfl rfl rfl ?_
  refine bx_iload_n C 443 dL_law_442 rfl rfl rfl ?_
  refine bx_iconst C 2 444 dL_law_443 ic_2 rfl ?_
  refine bx_iadd C 445 dL_law_444 rfl ?_
  refine bx_sld C 446 hX hbl hbA dL_law_445 hi2 rfl ?_
  obtain ⟨fsM, haM⟩ := lw_atM (E := E) (a := a) (b := b) (u := u2) (mm := mm)
  refine bx_qVi C 74 haM rfl 449 fc_L_55 (k_X8_coat l E b _ _ _ _ hv) dL_law_446 ⟨rfl, rfl, Nat.le_of_ble_eq_true rfl, Nat.le_of_ble_eq_true rfl⟩ [74, 75, 76, 77, 78, 79, 80, 81, 82, 83] (fun v => w_U E a u2 ++ w_M E b v) lw_psM lw_ndM lw_adM lw_puM rfl rfl (Nat.le_of_ble_eq_true rfl) rfl (fun r2 mm2 hv => ?_)
  refine bx_icmp_eq C 1263 452 dL_law_449 (by decide) rfl (fun _ => ?_) (fun h => absurd hv.1 h)
  exact kk _ _ hv.2
set_option maxRecDepth 20000 in
set_option maxHeartbeats 4000000 in
theorem lcase_10 (C : bx_C p room_1 s m #[Value.ref q0] meth c cL_law 4 RL ret E (fun q : Nat => s.heap.size ≤ q) 84 2186) (hX : va_X q0 L xs s s.heap) (hbl : q0 < s.heap.size) {x3 : Int32} (hi1 : vp_in (x3 + 1) L) (hi2 : vp_in (x3 + 2) L) (hi3 : vp_in (x3 + 3) L) (hi4 : vp_in (x3 + 4) L) {Rel : US → MS → Prop} {u : US} {mm : MS} (hv : V_X7_minutes (fun r u2 => V_X8_minutes (fun r2 mm2 => r = r2 ∧ Rel u2 mm2) mm (xs (x3 + 1).toNatClampNeg)) u (xs (x3 + 1).toNatClampNeg)) (kk : ∀ (u : US) (mm : MS), Rel u mm → bx_S p l e room_1 s m #[Value.ref q0] below meth c 4 E (fun q : Nat => s.heap.size ≤ q) (lw_Z below #[Value.ref q0] s) 84 2186 1263 [(0, .ref q0), (1, .ref (a 0)), (2, .ref (b 0)), (3, .int x3)] [] (w_U E a u ++ w_M E b mm)) : bx_S p l e room_1 s m #[Value.ref q0] below meth c 4 E (fun q : Nat => s.heap.size ≤ q) (lw_Z below #[Value.ref q0] s) 84 2186 454 [(0, .ref q0), (1, .ref (a 0)), (2, .ref (b 0)), (3, .int x3)] [] (w_U E a u ++ w_M E b mm) := by
  have hbA : ¬ (fun q : Nat => s.heap.size ≤ q) q0 := Nat.not_le.mpr hbl
  refine bx_aload_n C 455 dL_law_454 rfl rfl rfl ?_
  refine bx_aload_n C 456 dL_law_455 rfl rfl rfl ?_
  refine bx_iload_n C 457 dL_law_456 rfl rfl rfl ?_
  refine bx_iconst C 1 458 dL_law_457 ic_1 rfl ?_
  refine bx_iadd C 459 dL_law_458 rfl ?_
  refine bx_sld C 460 hX hbl hbA dL_law_459 hi1 rfl ?_
  obtain ⟨fsU, haU⟩ := lw_atU (E := E) (a := a) (b := b) (u := u) (mm := mm)
  refine bx_qVi C 0 haU rfl 463 fc_L_56 (k_X7_minutes l E a _ _ _ hv) dL_law_460 ⟨rfl, rfl, Nat.le_of_ble_eq_true rfl, Nat.le_of_ble_eq_true rfl⟩ [0, 1, 2, 3, 4, 5, 6, 7, 8, 9, 10, 11, 12, 13, 14, 15, 16, 17, 18, 19, 20, 21, 22, 23, 24, 25, 26, 27, 28, 29, 30, 31, 32, 33, 34, 35, 36, 37, 38, 39, 40, 41, 42, 43, 44, 45, 46, 47, 48, 49, 50, 51, 52, 53, 54, 55, 56, 57, 58, 59, 60, 61, 62, 63, 64, 65, 66, 67, 68, 69, 70, 71, 72, 73] (fun v => w_U E a v ++ w_M E b mm) lw_psU lw_ndU lw_adU lw_puU rfl rfl (Nat.le_of_ble_eq_true rfl) rfl (fun r1 u2 hv => ?_)
  refine bx_aload_n C 464 dL_law_463 rfl rfl rfl ?_
  refine bx_aload_n C 465 dL_law_464 rfl rfl rfl ?_
  refine bx_iload_n C 466 dL_law_465 rfl rfl rfl ?_
  refine bx_iconst C 1 467 dL_law_466 ic_1 rfl ?_
  refine bx_iadd C 468 dL_law_467 rfl ?_
  refine bx_sld C 469 hX hbl hbA dL_law_468 hi1 rfl ?_
  obtain ⟨fsM, haM⟩ := lw_atM (E := E) (a := a) (b := b) (u := u2) (mm := mm)
  refine bx_qVi C 74 haM rfl 472 fc_L_59 (k_X8_minutes l E b _ _ _ hv) dL_law_469 ⟨rfl, rfl, Nat.le_of_ble_eq_true rfl, Nat.le_of_ble_eq_true rfl⟩ [74, 75, 76, 77, 78, 79, 80, 81, 82, 83] (fun v => w_U E a u2 ++ w_M E b v) lw_psM lw_ndM lw_adM lw_puM rfl rfl (Nat.le_of_ble_eq_true rfl) rfl (fun r2 mm2 hv => ?_)
  refine bx_icmp_eq C 1263 475 dL_law_472 (by decide) rfl (fun _ => ?_) (fun h => absurd hv.1 h)
  exact kk _ _ hv.2
set_option maxRecDepth 20000 in
set_option maxHeartbeats 4000000 in
theorem lcase_11 (C : bx_C p room_1 s m #[Value.ref q0] meth c cL_law 4 RL ret E (fun q : Nat => s.heap.size ≤ q) 84 2186) (hX : va_X q0 L xs s s.heap) (hbl : q0 < s.heap.size) {x3 : Int32} (hi1 : vp_in (x3 + 1) L) (hi2 : vp_in (x3 + 2) L) (hi3 : vp_in (x3 + 3) L) (hi4 : vp_in (x3 + 4) L) {Rel : US → MS → Prop} {u : US} {mm : MS} (hv : V_X7_undo (fun r u2 => V_X8_undo (fun r2 mm2 => r = r2 ∧ Rel u2 mm2) mm ) u ) (kk : ∀ (u : US) (mm : MS), Rel u mm → bx_S p l e room_1 s m #[Value.ref q0] below meth c 4 E (fun q : Nat => s.heap.size ≤ q) (lw_Z below #[Value.ref q0] s) 84 2186 1263 [(0, .ref q0), (1, .ref (a 0)), (2, .ref (b 0)), (3, .int x3)] [] (w_U E a u ++ w_M E b mm)) : bx_S p l e room_1 s m #[Value.ref q0] below meth c 4 E (fun q : Nat => s.heap.size ≤ q) (lw_Z below #[Value.ref q0] s) 84 2186 477 [(0, .ref q0), (1, .ref (a 0)), (2, .ref (b 0)), (3, .int x3)] [] (w_U E a u ++ w_M E b mm) := by
  have hbA : ¬ (fun q : Nat => s.heap.size ≤ q) q0 := Nat.not_le.mpr hbl
  refine bx_aload_n C 478 dL_law_477 rfl rfl rfl ?_
  obtain ⟨fsU, haU⟩ := lw_atU (E := E) (a := a) (b := b) (u := u) (mm := mm)
  refine bx_qVi C 0 haU rfl 481 fc_L_60 (k_X7_undo l E a _ _ hv) dL_law_478 ⟨rfl, rfl, Nat.le_of_ble_eq_true rfl, Nat.le_of_ble_eq_true rfl⟩ [0, 1, 2, 3, 4, 5, 6, 7, 8, 9, 10, 11, 12, 13, 14, 15, 16, 17, 18, 19, 20, 21, 22, 23, 24, 25, 26, 27, 28, 29, 30, 31, 32, 33, 34, 35, 36, 37, 38, 39, 40, 41, 42, 43, 44, 45, 46, 47, 48, 49, 50, 51, 52, 53, 54, 55, 56, 57, 58, 59, 60, 61, 62, 63, 64, 65, 66, 67, 68, 69, 70, 71, 72, 73] (fun v => w_U E a v ++ w_M E b mm) lw_psU lw_ndU lw_adU lw_puU rfl rfl (Nat.le_of_ble_eq_true rfl) rfl (fun r1 u2 hv => ?_)
  refine bx_aload_n C 482 dL_law_481 rfl rfl rfl ?_
  obtain ⟨fsM, haM⟩ := lw_atM (E := E) (a := a) (b := b) (u := u2) (mm := mm)
  refine bx_qVi C 74 haM rfl 485 fc_L_63 (k_X8_undo l E b _ _ hv) dL_law_482 ⟨rfl, rfl, Nat.le_of_ble_eq_true rfl, Nat.le_of_ble_eq_true rfl⟩ [74, 75, 76, 77, 78, 79, 80, 81, 82, 83] (fun v => w_U E a u2 ++ w_M E b v) lw_psM lw_ndM lw_adM lw_puM rfl rfl (Nat.le_of_ble_eq_true rfl) rfl (fun r2 mm2 hv => ?_)
  refine bx_icmp_eq C 1263 488 dL_law_485 (by decide) rfl (fun _ => ?_) (fun h => absurd hv.1 h)
  exact kk _ _ hv.2
set_option maxRecDepth 20000 in
set_option maxHeartbeats 4000000 in
theorem lcase_12 (C : bx_C p room_1 s m #[Value.ref q0] meth c cL_law 4 RL ret E (fun q : Nat => s.heap.size ≤ q) 84 2186) (hX : va_X q0 L xs s s.heap) (hbl : q0 < s.heap.size) {x3 : Int32} (hi1 : vp_in (x3 + 1) L) (hi2 : vp_in (x3 + 2) L) (hi3 : vp_in (x3 + 3) L) (hi4 : vp_in (x3 + 4) L) {Rel : US → MS → Prop} {u : US} {mm : MS} (hv : V_X7_of (fun r u2 => V_X8_of (fun r2 mm2 => r = r2 ∧ Rel u2 mm2) mm (xs (x3 + 1).toNatClampNeg) (xs (x3 + 2).toNatClampNeg)) u (xs (x3 + 1).toNatClampNeg) (xs (x3 + 2).toNatClampNeg)) (kk : ∀ (u : US) (mm : MS), Rel u mm → bx_S p l e room_1 s m #[Value.ref q0] below meth c 4 E (fun q : Nat => s.heap.size ≤ q) (lw_Z below #[Value.ref q0] s) 84 2186 1263 [(0, .ref q0), (1, .ref (a 0)), (2, .ref (b 0)), (3, .int x3)] [] (w_U E a u ++ w_M E b mm)) : bx_S p l e room_1 s m #[Value.ref q0] below meth c 4 E (fun q : Nat => s.heap.size ≤ q) (lw_Z below #[Value.ref q0] s) 84 2186 490 [(0, .ref q0), (1, .ref (a 0)), (2, .ref (b 0)), (3, .int x3)] [] (w_U E a u ++ w_M E b mm) := by
  have hbA : ¬ (fun q : Nat => s.heap.size ≤ q) q0 := Nat.not_le.mpr hbl
  refine bx_aload_n C 491 dL_law_490 rfl rfl rfl ?_
  refine bx_aload_n C 492 dL_law_491 rfl rfl rfl ?_
  refine bx_iload_n C 493 dL_law_492 rfl rfl rfl ?_
  refine bx_iconst C 1 494 dL_law_493 ic_1 rfl ?_
  refine bx_iadd C 495 dL_law_494 rfl ?_
  refine bx_sld C 496 hX hbl hbA dL_law_495 hi1 rfl ?_
  refine bx_aload_n C 497 dL_law_496 rfl rfl rfl ?_
  refine bx_iload_n C 498 dL_law_497 rfl rfl rfl ?_
  refine bx_iconst C 2 499 dL_law_498 ic_2 rfl ?_
  refine bx_iadd C 500 dL_law_499 rfl ?_
  refine bx_sld C 501 hX hbl hbA dL_law_500 hi2 rfl ?_
  obtain ⟨fsU, haU⟩ := lw_atU (E := E) (a := a) (b := b) (u := u) (mm := mm)
  refine bx_qVi C 0 haU rfl 504 fc_L_64 (k_X7_of l E a _ _ _ _ hv) dL_law_501 ⟨rfl, rfl, Nat.le_of_ble_eq_true rfl, Nat.le_of_ble_eq_true rfl⟩ [0, 1, 2, 3, 4, 5, 6, 7, 8, 9, 10, 11, 12, 13, 14, 15, 16, 17, 18, 19, 20, 21, 22, 23, 24, 25, 26, 27, 28, 29, 30, 31, 32, 33, 34, 35, 36, 37, 38, 39, 40, 41, 42, 43, 44, 45, 46, 47, 48, 49, 50, 51, 52, 53, 54, 55, 56, 57, 58, 59, 60, 61, 62, 63, 64, 65, 66, 67, 68, 69, 70, 71, 72, 73] (fun v => w_U E a v ++ w_M E b mm) lw_psU lw_ndU lw_adU lw_puU rfl rfl (Nat.le_of_ble_eq_true rfl) rfl (fun r1 u2 hv => ?_)
  refine bx_aload_n C 505 dL_law_504 rfl rfl rfl ?_
  refine bx_aload_n C 506 dL_law_505 rfl rfl rfl ?_
  refine bx_iload_n C 507 dL_law_506 rfl rfl rfl ?_
  refine bx_iconst C 1 508 dL_law_507 ic_1 rfl ?_
  refine bx_iadd C 509 dL_law_508 rfl ?_
  refine bx_sld C 510 hX hbl hbA dL_law_509 hi1 rfl ?_
  refine bx_aload_n C 511 dL_law_510 rfl rfl rfl ?_
  refine bx_iload_n C 512 dL_law_511 rfl rfl rfl ?_
  refine bx_iconst C 2 513 dL_law_512 ic_2 rfl ?_
  refine bx_iadd C 514 dL_law_513 rfl ?_
  refine bx_sld C 515 hX hbl hbA dL_law_514 hi2 rfl ?_
  obtain ⟨fsM, haM⟩ := lw_atM (E := E) (a := a) (b := b) (u := u2) (mm := mm)
  refine bx_qVi C 74 haM rfl 518 fc_L_67 (k_X8_of l E b _ _ _ _ hv) dL_law_515 ⟨rfl, rfl, Nat.le_of_ble_eq_true rfl, Nat.le_of_ble_eq_true rfl⟩ [74, 75, 76, 77, 78, 79, 80, 81, 82, 83] (fun v => w_U E a u2 ++ w_M E b v) lw_psM lw_ndM lw_adM lw_puM rfl rfl (Nat.le_of_ble_eq_true rfl) rfl (fun r2 mm2 hv => ?_)
  refine bx_icmp_eq C 1263 521 dL_law_518 (by decide) rfl (fun _ => ?_) (fun h => absurd hv.1 h)
  exact kk _ _ hv.2
set_option maxRecDepth 20000 in
set_option maxHeartbeats 4000000 in
theorem lcase_13 (C : bx_C p room_1 s m #[Value.ref q0] meth c cL_law 4 RL ret E (fun q : Nat => s.heap.size ≤ q) 84 2186) (hX : va_X q0 L xs s s.heap) (hbl : q0 < s.heap.size) {x3 : Int32} (hi1 : vp_in (x3 + 1) L) (hi2 : vp_in (x3 + 2) L) (hi3 : vp_in (x3 + 3) L) (hi4 : vp_in (x3 + 4) L) {Rel : US → MS → Prop} {u : US} {mm : MS} (hv : V_X7_about (fun r u2 => V_X8_about (fun r2 mm2 => r = r2 ∧ Rel u2 mm2) mm (xs (x3 + 1).toNatClampNeg) (xs (x3 + 2).toNatClampNeg)) u (xs (x3 + 1).toNatClampNeg) (xs (x3 + 2).toNatClampNeg)) (kk : ∀ (u : US) (mm : MS), Rel u mm → bx_S p l e room_1 s m #[Value.ref q0] below meth c 4 E (fun q : Nat => s.heap.size ≤ q) (lw_Z below #[Value.ref q0] s) 84 2186 1263 [(0, .ref q0), (1, .ref (a 0)), (2, .ref (b 0)), (3, .int x3)] [] (w_U E a u ++ w_M E b mm)) : bx_S p l e room_1 s m #[Value.ref q0] below meth c 4 E (fun q : Nat => s.heap.size ≤ q) (lw_Z below #[Value.ref q0] s) 84 2186 523 [(0, .ref q0), (1, .ref (a 0)), (2, .ref (b 0)), (3, .int x3)] [] (w_U E a u ++ w_M E b mm) := by
  have hbA : ¬ (fun q : Nat => s.heap.size ≤ q) q0 := Nat.not_le.mpr hbl
  refine bx_aload_n C 524 dL_law_523 rfl rfl rfl ?_
  refine bx_aload_n C 525 dL_law_524 rfl rfl rfl ?_
  refine bx_iload_n C 526 dL_law_525 rfl rfl rfl ?_
  refine bx_iconst C 1 527 dL_law_526 ic_1 rfl ?_
  refine bx_iadd C 528 dL_law_527 rfl ?_
  refine bx_sld C 529 hX hbl hbA dL_law_528 hi1 rfl ?_
  refine bx_aload_n C 530 dL_law_529 rfl rfl rfl ?_
  refine bx_iload_n C 531 dL_law_530 rfl rfl rfl ?_
  refine bx_iconst C 2 532 dL_law_531 ic_2 rfl ?_
  refine bx_iadd C 533 dL_law_532 rfl ?_
  refine bx_sld C 534 hX hbl hbA dL_law_533 hi2 rfl ?_
  obtain ⟨fsU, haU⟩ := lw_atU (E := E) (a := a) (b := b) (u := u) (mm := mm)
  refine bx_qVi C 0 haU rfl 537 fc_L_68 (k_X7_about l E a _ _ _ _ hv) dL_law_534 ⟨rfl, rfl, Nat.le_of_ble_eq_true rfl, Nat.le_of_ble_eq_true rfl⟩ [0, 1, 2, 3, 4, 5, 6, 7, 8, 9, 10, 11, 12, 13, 14, 15, 16, 17, 18, 19, 20, 21, 22, 23, 24, 25, 26, 27, 28, 29, 30, 31, 32, 33, 34, 35, 36, 37, 38, 39, 40, 41, 42, 43, 44, 45, 46, 47, 48, 49, 50, 51, 52, 53, 54, 55, 56, 57, 58, 59, 60, 61, 62, 63, 64, 65, 66, 67, 68, 69, 70, 71, 72, 73] (fun v => w_U E a v ++ w_M E b mm) lw_psU lw_ndU lw_adU lw_puU rfl rfl (Nat.le_of_ble_eq_true rfl) rfl (fun r1 u2 hv => ?_)
  refine bx_aload_n C 538 dL_law_537 rfl rfl rfl ?_
  refine bx_aload_n C 539 dL_law_538 rfl rfl rfl ?_
  refine bx_iload_n C 540 dL_law_539 rfl rfl rfl ?_
  refine bx_iconst C 1 541 dL_law_540 ic_1 rfl ?_
  refine bx_iadd C 542 dL_law_541 rfl ?_
  refine bx_sld C 543 hX hbl hbA dL_law_542 hi1 rfl ?_
  refine bx_aload_n C 544 dL_law_543 rfl rfl rfl ?_
  refine bx_iload_n C 545 dL_law_544 rfl rfl rfl ?_
  refine bx_iconst C 2 546 dL_law_545 ic_2 rfl ?_
  refine bx_iadd C 547 dL_law_546 rfl ?_
  refine bx_sld C 548 hX hbl hbA dL_law_547 hi2 rfl ?_
  obtain ⟨fsM, haM⟩ := lw_atM (E := E) (a := a) (b := b) (u := u2) (mm := mm)
  refine bx_qVi C 74 haM rfl 551 fc_L_71 (k_X8_about l E b _ _ _ _ hv) dL_law_548 ⟨rfl, rfl, Nat.le_of_ble_eq_true rfl, Nat.le_of_ble_eq_true rfl⟩ [74, 75, 76, 77, 78, 79, 80, 81, 82, 83] (fun v => w_U E a u2 ++ w_M E b v) lw_psM lw_ndM lw_adM lw_puM rfl rfl (Nat.le_of_ble_eq_true rfl) rfl (fun r2 mm2 hv => ?_)
  refine bx_icmp_eq C 1263 554 dL_law_551 (by decide) rfl (fun _ => ?_) (fun h => absurd hv.1 h)
  exact kk _ _ hv.2
set_option maxRecDepth 20000 in
set_option maxHeartbeats 4000000 in
theorem lcase_14 (C : bx_C p room_1 s m #[Value.ref q0] meth c cL_law 4 RL ret E (fun q : Nat => s.heap.size ≤ q) 84 2186) (hX : va_X q0 L xs s s.heap) (hbl : q0 < s.heap.size) {x3 : Int32} (hi1 : vp_in (x3 + 1) L) (hi2 : vp_in (x3 + 2) L) (hi3 : vp_in (x3 + 3) L) (hi4 : vp_in (x3 + 4) L) {Rel : US → MS → Prop} {u : US} {mm : MS} (hv : V_X7_makes (fun r u2 => V_X8_makes (fun r2 mm2 => r = r2 ∧ Rel u2 mm2) mm (xs (x3 + 1).toNatClampNeg) (xs (x3 + 2).toNatClampNeg)) u (xs (x3 + 1).toNatClampNeg) (xs (x3 + 2).toNatClampNeg)) (kk : ∀ (u : US) (mm : MS), Rel u mm → bx_S p l e room_1 s m #[Value.ref q0] below meth c 4 E (fun q : Nat => s.heap.size ≤ q) (lw_Z below #[Value.ref q0] s) 84 2186 1263 [(0, .ref q0), (1, .ref (a 0)), (2, .ref (b 0)), (3, .int x3)] [] (w_U E a u ++ w_M E b mm)) : bx_S p l e room_1 s m #[Value.ref q0] below meth c 4 E (fun q : Nat => s.heap.size ≤ q) (lw_Z below #[Value.ref q0] s) 84 2186 556 [(0, .ref q0), (1, .ref (a 0)), (2, .ref (b 0)), (3, .int x3)] [] (w_U E a u ++ w_M E b mm) := by
  have hbA : ¬ (fun q : Nat => s.heap.size ≤ q) q0 := Nat.not_le.mpr hbl
  refine bx_aload_n C 557 dL_law_556 rfl rfl rfl ?_
  refine bx_aload_n C 558 dL_law_557 rfl rfl rfl ?_
  refine bx_iload_n C 559 dL_law_558 rfl rfl rfl ?_
  refine bx_iconst C 1 560 dL_law_559 ic_1 rfl ?_
  refine bx_iadd C 561 dL_law_560 rfl ?_
  refine bx_sld C 562 hX hbl hbA dL_law_561 hi1 rfl ?_
  refine bx_aload_n C 563 dL_law_562 rfl rfl rfl ?_
  refine bx_iload_n C 564 dL_law_563 rfl rfl rfl ?_
  refine bx_iconst C 2 565 dL_law_564 ic_2 rfl ?_
  refine bx_iadd C 566 dL_law_565 rfl ?_
  refine bx_sld C 567 hX hbl hbA dL_law_566 hi2 rfl ?_
  obtain ⟨fsU, haU⟩ := lw_atU (E := E) (a := a) (b := b) (u := u) (mm := mm)
  refine bx_qVi C 0 haU rfl 570 fc_L_72 (k_X7_makes l E a _ _ _ _ hv) dL_law_567 ⟨rfl, rfl, Nat.le_of_ble_eq_true rfl, Nat.le_of_ble_eq_true rfl⟩ [0, 1, 2, 3, 4, 5, 6, 7, 8, 9, 10, 11, 12, 13, 14, 15, 16, 17, 18, 19, 20, 21, 22, 23, 24, 25, 26, 27, 28, 29, 30, 31, 32, 33, 34, 35, 36, 37, 38, 39, 40, 41, 42, 43, 44, 45, 46, 47, 48, 49, 50, 51, 52, 53, 54, 55, 56, 57, 58, 59, 60, 61, 62, 63, 64, 65, 66, 67, 68, 69, 70, 71, 72, 73] (fun v => w_U E a v ++ w_M E b mm) lw_psU lw_ndU lw_adU lw_puU rfl rfl (Nat.le_of_ble_eq_true rfl) rfl (fun r1 u2 hv => ?_)
  refine bx_aload_n C 571 dL_law_570 rfl rfl rfl ?_
  refine bx_aload_n C 572 dL_law_571 rfl rfl rfl ?_
  refine bx_iload_n C 573 dL_law_572 rfl rfl rfl ?_
  refine bx_iconst C 1 574 dL_law_573 ic_1 rfl ?_
  refine bx_iadd C 575 dL_law_574 rfl ?_
  refine bx_sld C 576 hX hbl hbA dL_law_575 hi1 rfl ?_
  refine bx_aload_n C 577 dL_law_576 rfl rfl rfl ?_
  refine bx_iload_n C 578 dL_law_577 rfl rfl rfl ?_
  refine bx_iconst C 2 579 dL_law_578 ic_2 rfl ?_
  refine bx_iadd C 580 dL_law_579 rfl ?_
  refine bx_sld C 581 hX hbl hbA dL_law_580 hi2 rfl ?_
  obtain ⟨fsM, haM⟩ := lw_atM (E := E) (a := a) (b := b) (u := u2) (mm := mm)
  refine bx_qVi C 74 haM rfl 584 fc_L_75 (k_X8_makes l E b _ _ _ _ hv) dL_law_581 ⟨rfl, rfl, Nat.le_of_ble_eq_true rfl, Nat.le_of_ble_eq_true rfl⟩ [74, 75, 76, 77, 78, 79, 80, 81, 82, 83] (fun v => w_U E a u2 ++ w_M E b v) lw_psM lw_ndM lw_adM lw_puM rfl rfl (Nat.le_of_ble_eq_true rfl) rfl (fun r2 mm2 hv => ?_)
  refine bx_icmp_eq C 1263 587 dL_law_584 (by decide) rfl (fun _ => ?_) (fun h => absurd hv.1 h)
  exact kk _ _ hv.2
set_option maxRecDepth 20000 in
set_option maxHeartbeats 4000000 in
theorem lcase_15 (C : bx_C p room_1 s m #[Value.ref q0] meth c cL_law 4 RL ret E (fun q : Nat => s.heap.size ≤ q) 84 2186) (hX : va_X q0 L xs s s.heap) (hbl : q0 < s.heap.size) {x3 : Int32} (hi1 : vp_in (x3 + 1) L) (hi2 : vp_in (x3 + 2) L) (hi3 : vp_in (x3 + 3) L) (hi4 : vp_in (x3 + 4) L) {Rel : US → MS → Prop} {u : US} {mm : MS} (hv : V_X7_order (fun r u2 => V_X8_order (fun r2 mm2 => r = r2 ∧ Rel u2 mm2) mm (xs (x3 + 1).toNatClampNeg)) u (xs (x3 + 1).toNatClampNeg)) (kk : ∀ (u : US) (mm : MS), Rel u mm → bx_S p l e room_1 s m #[Value.ref q0] below meth c 4 E (fun q : Nat => s.heap.size ≤ q) (lw_Z below #[Value.ref q0] s) 84 2186 1263 [(0, .ref q0), (1, .ref (a 0)), (2, .ref (b 0)), (3, .int x3)] [] (w_U E a u ++ w_M E b mm)) : bx_S p l e room_1 s m #[Value.ref q0] below meth c 4 E (fun q : Nat => s.heap.size ≤ q) (lw_Z below #[Value.ref q0] s) 84 2186 589 [(0, .ref q0), (1, .ref (a 0)), (2, .ref (b 0)), (3, .int x3)] [] (w_U E a u ++ w_M E b mm) := by
  have hbA : ¬ (fun q : Nat => s.heap.size ≤ q) q0 := Nat.not_le.mpr hbl
  refine bx_aload_n C 590 dL_law_589 rfl rfl rfl ?_
  refine bx_aload_n C 591 dL_law_590 rfl rfl rfl ?_
  refine bx_iload_n C 592 dL_law_591 rfl rfl rfl ?_
  refine bx_iconst C 1 593 dL_law_592 ic_1 rfl ?_
  refine bx_iadd C 594 dL_law_593 rfl ?_
  refine bx_sld C 595 hX hbl hbA dL_law_594 hi1 rfl ?_
  obtain ⟨fsU, haU⟩ := lw_atU (E := E) (a := a) (b := b) (u := u) (mm := mm)
  refine bx_qVi C 0 haU rfl 598 fc_L_76 (k_X7_order l E a _ _ _ hv) dL_law_595 ⟨rfl, rfl, Nat.le_of_ble_eq_true rfl, Nat.le_of_ble_eq_true rfl⟩ [0, 1, 2, 3, 4, 5, 6, 7, 8, 9, 10, 11, 12, 13, 14, 15, 16, 17, 18, 19, 20, 21, 22, 23, 24, 25, 26, 27, 28, 29, 30, 31, 32, 33, 34, 35, 36, 37, 38, 39, 40, 41, 42, 43, 44, 45, 46, 47, 48, 49, 50, 51, 52, 53, 54, 55, 56, 57, 58, 59, 60, 61, 62, 63, 64, 65, 66, 67, 68, 69, 70, 71, 72, 73] (fun v => w_U E a v ++ w_M E b mm) lw_psU lw_ndU lw_adU lw_puU rfl rfl (Nat.le_of_ble_eq_true rfl) rfl (fun r1 u2 hv => ?_)
  refine bx_aload_n C 599 dL_law_598 rfl rfl rfl ?_
  refine bx_aload_n C 600 dL_law_599 rfl rfl rfl ?_
  refine bx_iload_n C 601 dL_law_600 rfl rfl rfl ?_
  refine bx_iconst C 1 602 dL_law_601 ic_1 rfl ?_
  refine bx_iadd C 603 dL_law_602 rfl ?_
  refine bx_sld C 604 hX hbl hbA dL_law_603 hi1 rfl ?_
  obtain ⟨fsM, haM⟩ := lw_atM (E := E) (a := a) (b := b) (u := u2) (mm := mm)
  refine bx_qVi C 74 haM rfl 607 fc_L_79 (k_X8_order l E b _ _ _ hv) dL_law_604 ⟨rfl, rfl, Nat.le_of_ble_eq_true rfl, Nat.le_of_ble_eq_true rfl⟩ [74, 75, 76, 77, 78, 79, 80, 81, 82, 83] (fun v => w_U E a u2 ++ w_M E b v) lw_psM lw_ndM lw_adM lw_puM rfl rfl (Nat.le_of_ble_eq_true rfl) rfl (fun r2 mm2 hv => ?_)
  refine bx_icmp_eq C 1263 610 dL_law_607 (by decide) rfl (fun _ => ?_) (fun h => absurd hv.1 h)
  exact kk _ _ hv.2
set_option maxRecDepth 20000 in
set_option maxHeartbeats 4000000 in
theorem lcase_16 (C : bx_C p room_1 s m #[Value.ref q0] meth c cL_law 4 RL ret E (fun q : Nat => s.heap.size ≤ q) 84 2186) (hX : va_X q0 L xs s s.heap) (hbl : q0 < s.heap.size) {x3 : Int32} (hi1 : vp_in (x3 + 1) L) (hi2 : vp_in (x3 + 2) L) (hi3 : vp_in (x3 + 3) L) (hi4 : vp_in (x3 + 4) L) {Rel : US → MS → Prop} {u : US} {mm : MS} (hv : V_X7_best (fun r u2 => V_X8_best (fun r2 mm2 => r = r2 ∧ Rel u2 mm2) mm (xs (x3 + 1).toNatClampNeg) (xs (x3 + 2).toNatClampNeg)) u (xs (x3 + 1).toNatClampNeg) (xs (x3 + 2).toNatClampNeg)) (kk : ∀ (u : US) (mm : MS), Rel u mm → bx_S p l e room_1 s m #[Value.ref q0] below meth c 4 E (fun q : Nat => s.heap.size ≤ q) (lw_Z below #[Value.ref q0] s) 84 2186 1263 [(0, .ref q0), (1, .ref (a 0)), (2, .ref (b 0)), (3, .int x3)] [] (w_U E a u ++ w_M E b mm)) : bx_S p l e room_1 s m #[Value.ref q0] below meth c 4 E (fun q : Nat => s.heap.size ≤ q) (lw_Z below #[Value.ref q0] s) 84 2186 612 [(0, .ref q0), (1, .ref (a 0)), (2, .ref (b 0)), (3, .int x3)] [] (w_U E a u ++ w_M E b mm) := by
  have hbA : ¬ (fun q : Nat => s.heap.size ≤ q) q0 := Nat.not_le.mpr hbl
  refine bx_aload_n C 613 dL_law_612 rfl rfl rfl ?_
  refine bx_aload_n C 614 dL_law_613 rfl rfl rfl ?_
  refine bx_iload_n C 615 dL_law_614 rfl rfl rfl ?_
  refine bx_iconst C 1 616 dL_law_615 ic_1 rfl ?_
  refine bx_iadd C 617 dL_law_616 rfl ?_
  refine bx_sld C 618 hX hbl hbA dL_law_617 hi1 rfl ?_
  refine bx_aload_n C 619 dL_law_618 rfl rfl rfl ?_
  refine bx_iload_n C 620 dL_law_619 rfl rfl rfl ?_
  refine bx_iconst C 2 621 dL_law_620 ic_2 rfl ?_
  refine bx_iadd C 622 dL_law_621 rfl ?_
  refine bx_sld C 623 hX hbl hbA dL_law_622 hi2 rfl ?_
  obtain ⟨fsU, haU⟩ := lw_atU (E := E) (a := a) (b := b) (u := u) (mm := mm)
  refine bx_qVi C 0 haU rfl 626 fc_L_80 (k_X7_best l E a _ _ _ _ hv) dL_law_623 ⟨rfl, rfl, Nat.le_of_ble_eq_true rfl, Nat.le_of_ble_eq_true rfl⟩ [0, 1, 2, 3, 4, 5, 6, 7, 8, 9, 10, 11, 12, 13, 14, 15, 16, 17, 18, 19, 20, 21, 22, 23, 24, 25, 26, 27, 28, 29, 30, 31, 32, 33, 34, 35, 36, 37, 38, 39, 40, 41, 42, 43, 44, 45, 46, 47, 48, 49, 50, 51, 52, 53, 54, 55, 56, 57, 58, 59, 60, 61, 62, 63, 64, 65, 66, 67, 68, 69, 70, 71, 72, 73] (fun v => w_U E a v ++ w_M E b mm) lw_psU lw_ndU lw_adU lw_puU rfl rfl (Nat.le_of_ble_eq_true rfl) rfl (fun r1 u2 hv => ?_)
  refine bx_aload_n C 627 dL_law_626 rfl rfl rfl ?_
  refine bx_aload_n C 628 dL_law_627 rfl rfl rfl ?_
  refine bx_iload_n C 629 dL_law_628 rfl rfl rfl ?_
  refine bx_iconst C 1 630 dL_law_629 ic_1 rfl ?_
  refine bx_iadd C 631 dL_law_630 rfl ?_
  refine bx_sld C 632 hX hbl hbA dL_law_631 hi1 rfl ?_
  refine bx_aload_n C 633 dL_law_632 rfl rfl rfl ?_
  refine bx_iload_n C 634 dL_law_633 rfl rfl rfl ?_
  refine bx_iconst C 2 635 dL_law_634 ic_2 rfl ?_
  refine bx_iadd C 636 dL_law_635 rfl ?_
  refine bx_sld C 637 hX hbl hbA dL_law_636 hi2 rfl ?_
  obtain ⟨fsM, haM⟩ := lw_atM (E := E) (a := a) (b := b) (u := u2) (mm := mm)
  refine bx_qVi C 74 haM rfl 640 fc_L_83 (k_X8_best l E b _ _ _ _ hv) dL_law_637 ⟨rfl, rfl, Nat.le_of_ble_eq_true rfl, Nat.le_of_ble_eq_true rfl⟩ [74, 75, 76, 77, 78, 79, 80, 81, 82, 83] (fun v => w_U E a u2 ++ w_M E b v) lw_psM lw_ndM lw_adM lw_puM rfl rfl (Nat.le_of_ble_eq_true rfl) rfl (fun r2 mm2 hv => ?_)
  refine bx_icmp_eq C 1263 643 dL_law_640 (by decide) rfl (fun _ => ?_) (fun h => absurd hv.1 h)
  exact kk _ _ hv.2
set_option maxRecDepth 20000 in
set_option maxHeartbeats 4000000 in
theorem lcase_17 (C : bx_C p room_1 s m #[Value.ref q0] meth c cL_law 4 RL ret E (fun q : Nat => s.heap.size ≤ q) 84 2186) (hX : va_X q0 L xs s s.heap) (hbl : q0 < s.heap.size) {x3 : Int32} (hi1 : vp_in (x3 + 1) L) (hi2 : vp_in (x3 + 2) L) (hi3 : vp_in (x3 + 3) L) (hi4 : vp_in (x3 + 4) L) {Rel : US → MS → Prop} {u : US} {mm : MS} (hv : V_X7_beside (fun r u2 => V_X8_beside (fun r2 mm2 => r = r2 ∧ Rel u2 mm2) mm (xs (x3 + 1).toNatClampNeg) (xs (x3 + 2).toNatClampNeg) (xs (x3 + 3).toNatClampNeg)) u (xs (x3 + 1).toNatClampNeg) (xs (x3 + 2).toNatClampNeg) (xs (x3 + 3).toNatClampNeg)) (kk : ∀ (u : US) (mm : MS), Rel u mm → bx_S p l e room_1 s m #[Value.ref q0] below meth c 4 E (fun q : Nat => s.heap.size ≤ q) (lw_Z below #[Value.ref q0] s) 84 2186 1263 [(0, .ref q0), (1, .ref (a 0)), (2, .ref (b 0)), (3, .int x3)] [] (w_U E a u ++ w_M E b mm)) : bx_S p l e room_1 s m #[Value.ref q0] below meth c 4 E (fun q : Nat => s.heap.size ≤ q) (lw_Z below #[Value.ref q0] s) 84 2186 645 [(0, .ref q0), (1, .ref (a 0)), (2, .ref (b 0)), (3, .int x3)] [] (w_U E a u ++ w_M E b mm) := by
  have hbA : ¬ (fun q : Nat => s.heap.size ≤ q) q0 := Nat.not_le.mpr hbl
  refine bx_aload_n C 646 dL_law_645 rfl rfl rfl ?_
  refine bx_aload_n C 647 dL_law_646 rfl rfl rfl ?_
  refine bx_iload_n C 648 dL_law_647 rfl rfl rfl ?_
  refine bx_iconst C 1 649 dL_law_648 ic_1 rfl ?_
  refine bx_iadd C 650 dL_law_649 rfl ?_
  refine bx_sld C 651 hX hbl hbA dL_law_650 hi1 rfl ?_
  refine bx_aload_n C 652 dL_law_651 rfl rfl rfl ?_
  refine bx_iload_n C 653 dL_law_652 rfl rfl rfl ?_
  refine bx_iconst C 2 654 dL_law_653 ic_2 rfl ?_
  refine bx_iadd C 655 dL_law_654 rfl ?_
  refine bx_sld C 656 hX hbl hbA dL_law_655 hi2 rfl ?_
  refine bx_aload_n C 657 dL_law_656 rfl rfl rfl ?_
  refine bx_iload_n C 658 dL_law_657 rfl rfl rfl ?_
  refine bx_iconst C 3 659 dL_law_658 ic_3 rfl ?_
  refine bx_iadd C 660 dL_law_659 rfl ?_
  refine bx_sld C 661 hX hbl hbA dL_law_660 hi3 rfl ?_
  obtain ⟨fsU, haU⟩ := lw_atU (E := E) (a := a) (b := b) (u := u) (mm := mm)
  refine bx_qVi C 0 haU rfl 664 fc_L_84 (k_X7_beside l E a _ _ _ _ _ hv) dL_law_661 ⟨rfl, rfl, Nat.le_of_ble_eq_true rfl, Nat.le_of_ble_eq_true rfl⟩ [0, 1, 2, 3, 4, 5, 6, 7, 8, 9, 10, 11, 12, 13, 14, 15, 16, 17, 18, 19, 20, 21, 22, 23, 24, 25, 26, 27, 28, 29, 30, 31, 32, 33, 34, 35, 36, 37, 38, 39, 40, 41, 42, 43, 44, 45, 46, 47, 48, 49, 50, 51, 52, 53, 54, 55, 56, 57, 58, 59, 60, 61, 62, 63, 64, 65, 66, 67, 68, 69, 70, 71, 72, 73] (fun v => w_U E a v ++ w_M E b mm) lw_psU lw_ndU lw_adU lw_puU rfl rfl (Nat.le_of_ble_eq_true rfl) rfl (fun r1 u2 hv => ?_)
  refine bx_aload_n C 665 dL_law_664 rfl rfl rfl ?_
  refine bx_aload_n C 666 dL_law_665 rfl rfl rfl ?_
  refine bx_iload_n C 667 dL_law_666 rfl rfl rfl ?_
  refine bx_iconst C 1 668 dL_law_667 ic_1 rfl ?_
  refine bx_iadd C 669 dL_law_668 rfl ?_
  refine bx_sld C 670 hX hbl hbA dL_law_669 hi1 rfl ?_
  refine bx_aload_n C 671 dL_law_670 rfl rfl rfl ?_
  refine bx_iload_n C 672 dL_law_671 rfl rfl rfl ?_
  refine bx_iconst C 2 673 dL_law_672 ic_2 rfl ?_
  refine bx_iadd C 674 dL_law_673 rfl ?_
  refine bx_sld C 675 hX hbl hbA dL_law_674 hi2 rfl ?_
  refine bx_aload_n C 676 dL_law_675 rfl rfl rfl ?_
  refine bx_iload_n C 677 dL_law_676 rfl rfl rfl ?_
  refine bx_iconst C 3 678 dL_law_677 ic_3 rfl ?_
  refine bx_iadd C 679 dL_law_678 rfl ?_
  refine bx_sld C 680 hX hbl hbA dL_law_679 hi3 rfl ?_
  obtain ⟨fsM, haM⟩ := lw_atM (E := E) (a := a) (b := b) (u := u2) (mm := mm)
  refine bx_qVi C 74 haM rfl 683 fc_L_88 (k_X8_beside l E b _ _ _ _ _ hv) dL_law_680 ⟨rfl, rfl, Nat.le_of_ble_eq_true rfl, Nat.le_of_ble_eq_true rfl⟩ [74, 75, 76, 77, 78, 79, 80, 81, 82, 83] (fun v => w_U E a u2 ++ w_M E b v) lw_psM lw_ndM lw_adM lw_puM rfl rfl (Nat.le_of_ble_eq_true rfl) rfl (fun r2 mm2 hv => ?_)
  refine bx_icmp_eq C 1263 686 dL_law_683 (by decide) rfl (fun _ => ?_) (fun h => absurd hv.1 h)
  exact kk _ _ hv.2
set_option maxRecDepth 20000 in
set_option maxHeartbeats 4000000 in
theorem lcase_18 (C : bx_C p room_1 s m #[Value.ref q0] meth c cL_law 4 RL ret E (fun q : Nat => s.heap.size ≤ q) 84 2186) (hX : va_X q0 L xs s s.heap) (hbl : q0 < s.heap.size) {x3 : Int32} (hi1 : vp_in (x3 + 1) L) (hi2 : vp_in (x3 + 2) L) (hi3 : vp_in (x3 + 3) L) (hi4 : vp_in (x3 + 4) L) {Rel : US → MS → Prop} {u : US} {mm : MS} (hv : V_X7_wrong (fun r => V_X8_wrong (fun r2 => r = r2 ∧ Rel u mm) mm ) u ) (kk : ∀ (u : US) (mm : MS), Rel u mm → bx_S p l e room_1 s m #[Value.ref q0] below meth c 4 E (fun q : Nat => s.heap.size ≤ q) (lw_Z below #[Value.ref q0] s) 84 2186 1263 [(0, .ref q0), (1, .ref (a 0)), (2, .ref (b 0)), (3, .int x3)] [] (w_U E a u ++ w_M E b mm)) : bx_S p l e room_1 s m #[Value.ref q0] below meth c 4 E (fun q : Nat => s.heap.size ≤ q) (lw_Z below #[Value.ref q0] s) 84 2186 688 [(0, .ref q0), (1, .ref (a 0)), (2, .ref (b 0)), (3, .int x3)] [] (w_U E a u ++ w_M E b mm) := by
  have hbA : ¬ (fun q : Nat => s.heap.size ≤ q) q0 := Nat.not_le.mpr hbl
  refine bx_aload_n C 689 dL_law_688 rfl rfl rfl ?_
  obtain ⟨fsU, haU⟩ := lw_atU (E := E) (a := a) (b := b) (u := u) (mm := mm)
  refine bx_pVi C 0 haU rfl 692 fc_L_89 (k_X7_wrong l E a _ _ hv) dL_law_689 ⟨rfl, rfl, Nat.le_of_ble_eq_true rfl, Nat.le_of_ble_eq_true rfl⟩ [0, 1, 2, 3, 4, 5, 6, 7, 8, 9, 10, 11, 12, 13, 14, 15, 16, 17, 18, 19, 20, 21, 22, 23, 24, 25, 26, 27, 28, 29, 30, 31, 32, 33, 34, 35, 36, 37, 38, 39, 40, 41, 42, 43, 44, 45, 46, 47, 48, 49, 50, 51, 52, 53, 54, 55, 56, 57, 58, 59, 60, 61, 62, 63, 64, 65, 66, 67, 68, 69, 70, 71, 72, 73] lw_psU lw_ndU rfl rfl (Nat.le_of_ble_eq_true rfl) rfl (fun r1 hv => ?_)
  refine bx_aload_n C 693 dL_law_692 rfl rfl rfl ?_
  obtain ⟨fsM, haM⟩ := lw_atM (E := E) (a := a) (b := b) (u := u) (mm := mm)
  refine bx_pVi C 74 haM rfl 696 fc_L_92 (k_X8_wrong l E b _ _ hv) dL_law_693 ⟨rfl, rfl, Nat.le_of_ble_eq_true rfl, Nat.le_of_ble_eq_true rfl⟩ [74, 75, 76, 77, 78, 79, 80, 81, 82, 83] lw_psM lw_ndM rfl rfl (Nat.le_of_ble_eq_true rfl) rfl (fun r2 hv => ?_)
  refine bx_icmp_eq C 1263 699 dL_law_696 (by decide) rfl (fun _ => ?_) (fun h => absurd hv.1 h)
  exact kk _ _ hv.2
set_option maxRecDepth 20000 in
set_option maxHeartbeats 4000000 in
theorem lcase_19 (C : bx_C p room_1 s m #[Value.ref q0] meth c cL_law 4 RL ret E (fun q : Nat => s.heap.size ≤ q) 84 2186) (hX : va_X q0 L xs s s.heap) (hbl : q0 < s.heap.size) {x3 : Int32} (hi1 : vp_in (x3 + 1) L) (hi2 : vp_in (x3 + 2) L) (hi3 : vp_in (x3 + 3) L) (hi4 : vp_in (x3 + 4) L) {Rel : US → MS → Prop} {u : US} {mm : MS} (hv : V_X7_swaps (fun r => V_X8_swaps (fun r2 => r = r2 ∧ Rel u mm) mm ) u ) (kk : ∀ (u : US) (mm : MS), Rel u mm → bx_S p l e room_1 s m #[Value.ref q0] below meth c 4 E (fun q : Nat => s.heap.size ≤ q) (lw_Z below #[Value.ref q0] s) 84 2186 1263 [(0, .ref q0), (1, .ref (a 0)), (2, .ref (b 0)), (3, .int x3)] [] (w_U E a u ++ w_M E b mm)) : bx_S p l e room_1 s m #[Value.ref q0] below meth c 4 E (fun q : Nat => s.heap.size ≤ q) (lw_Z below #[Value.ref q0] s) 84 2186 701 [(0, .ref q0), (1, .ref (a 0)), (2, .ref (b 0)), (3, .int x3)] [] (w_U E a u ++ w_M E b mm) := by
  have hbA : ¬ (fun q : Nat => s.heap.size ≤ q) q0 := Nat.not_le.mpr hbl
  refine bx_aload_n C 702 dL_law_701 rfl rfl rfl ?_
  obtain ⟨fsU, haU⟩ := lw_atU (E := E) (a := a) (b := b) (u := u) (mm := mm)
  refine bx_pVi C 0 haU rfl 705 fc_L_93 (k_X7_swaps l E a _ _ hv) dL_law_702 ⟨rfl, rfl, Nat.le_of_ble_eq_true rfl, Nat.le_of_ble_eq_true rfl⟩ [0, 1, 2, 3, 4, 5, 6, 7, 8, 9, 10, 11, 12, 13, 14, 15, 16, 17, 18, 19, 20, 21, 22, 23, 24, 25, 26, 27, 28, 29, 30, 31, 32, 33, 34, 35, 36, 37, 38, 39, 40, 41, 42, 43, 44, 45, 46, 47, 48, 49, 50, 51, 52, 53, 54, 55, 56, 57, 58, 59, 60, 61, 62, 63, 64, 65, 66, 67, 68, 69, 70, 71, 72, 73] lw_psU lw_ndU rfl rfl (Nat.le_of_ble_eq_true rfl) rfl (fun r1 hv => ?_)
  refine bx_aload_n C 706 dL_law_705 rfl rfl rfl ?_
  obtain ⟨fsM, haM⟩ := lw_atM (E := E) (a := a) (b := b) (u := u) (mm := mm)
  refine bx_pVi C 74 haM rfl 709 fc_L_96 (k_X8_swaps l E b _ _ hv) dL_law_706 ⟨rfl, rfl, Nat.le_of_ble_eq_true rfl, Nat.le_of_ble_eq_true rfl⟩ [74, 75, 76, 77, 78, 79, 80, 81, 82, 83] lw_psM lw_ndM rfl rfl (Nat.le_of_ble_eq_true rfl) rfl (fun r2 hv => ?_)
  refine bx_icmp_eq C 1263 712 dL_law_709 (by decide) rfl (fun _ => ?_) (fun h => absurd hv.1 h)
  exact kk _ _ hv.2
set_option maxRecDepth 20000 in
set_option maxHeartbeats 4000000 in
theorem lcase_20 (C : bx_C p room_1 s m #[Value.ref q0] meth c cL_law 4 RL ret E (fun q : Nat => s.heap.size ≤ q) 84 2186) (hX : va_X q0 L xs s s.heap) (hbl : q0 < s.heap.size) {x3 : Int32} (hi1 : vp_in (x3 + 1) L) (hi2 : vp_in (x3 + 2) L) (hi3 : vp_in (x3 + 3) L) (hi4 : vp_in (x3 + 4) L) {Rel : US → MS → Prop} {u : US} {mm : MS} (hv : V_X7_seen (fun r u2 => V_X8_seen (fun r2 mm2 => r = r2 ∧ Rel u2 mm2) mm (xs (x3 + 1).toNatClampNeg) (xs (x3 + 2).toNatClampNeg) (xs (x3 + 3).toNatClampNeg)) u (xs (x3 + 1).toNatClampNeg) (xs (x3 + 2).toNatClampNeg) (xs (x3 + 3).toNatClampNeg)) (kk : ∀ (u : US) (mm : MS), Rel u mm → bx_S p l e room_1 s m #[Value.ref q0] below meth c 4 E (fun q : Nat => s.heap.size ≤ q) (lw_Z below #[Value.ref q0] s) 84 2186 1263 [(0, .ref q0), (1, .ref (a 0)), (2, .ref (b 0)), (3, .int x3)] [] (w_U E a u ++ w_M E b mm)) : bx_S p l e room_1 s m #[Value.ref q0] below meth c 4 E (fun q : Nat => s.heap.size ≤ q) (lw_Z below #[Value.ref q0] s) 84 2186 714 [(0, .ref q0), (1, .ref (a 0)), (2, .ref (b 0)), (3, .int x3)] [] (w_U E a u ++ w_M E b mm) := by
  have hbA : ¬ (fun q : Nat => s.heap.size ≤ q) q0 := Nat.not_le.mpr hbl
  refine bx_aload_n C 715 dL_law_714 rfl rfl rfl ?_
  refine bx_aload_n C 716 dL_law_715 rfl rfl rfl ?_
  refine bx_iload_n C 717 dL_law_716 rfl rfl rfl ?_
  refine bx_iconst C 1 718 dL_law_717 ic_1 rfl ?_
  refine bx_iadd C 719 dL_law_718 rfl ?_
  refine bx_sld C 720 hX hbl hbA dL_law_719 hi1 rfl ?_
  refine bx_aload_n C 721 dL_law_720 rfl rfl rfl ?_
  refine bx_iload_n C 722 dL_law_721 rfl rfl rfl ?_
  refine bx_iconst C 2 723 dL_law_722 ic_2 rfl ?_
  refine bx_iadd C 724 dL_law_723 rfl ?_
  refine bx_sld C 725 hX hbl hbA dL_law_724 hi2 rfl ?_
  refine bx_aload_n C 726 dL_law_725 rfl rfl rfl ?_
  refine bx_iload_n C 727 dL_law_726 rfl rfl rfl ?_
  refine bx_iconst C 3 728 dL_law_727 ic_3 rfl ?_
  refine bx_iadd C 729 dL_law_728 rfl ?_
  refine bx_sld C 730 hX hbl hbA dL_law_729 hi3 rfl ?_
  obtain ⟨fsU, haU⟩ := lw_atU (E := E) (a := a) (b := b) (u := u) (mm := mm)
  refine bx_qVi C 0 haU rfl 733 fc_L_97 (k_X7_seen l E a _ _ _ _ _ hv) dL_law_730 ⟨rfl, rfl, Nat.le_of_ble_eq_true rfl, Nat.le_of_ble_eq_true rfl⟩ [0, 1, 2, 3, 4, 5, 6, 7, 8, 9, 10, 11, 12, 13, 14, 15, 16, 17, 18, 19, 20, 21, 22, 23, 24, 25, 26, 27, 28, 29, 30, 31, 32, 33, 34, 35, 36, 37, 38, 39, 40, 41, 42, 43, 44, 45, 46, 47, 48, 49, 50, 51, 52, 53, 54, 55, 56, 57, 58, 59, 60, 61, 62, 63, 64, 65, 66, 67, 68, 69, 70, 71, 72, 73] (fun v => w_U E a v ++ w_M E b mm) lw_psU lw_ndU lw_adU lw_puU rfl rfl (Nat.le_of_ble_eq_true rfl) rfl (fun r1 u2 hv => ?_)
  refine bx_aload_n C 734 dL_law_733 rfl rfl rfl ?_
  refine bx_aload_n C 735 dL_law_734 rfl rfl rfl ?_
  refine bx_iload_n C 736 dL_law_735 rfl rfl rfl ?_
  refine bx_iconst C 1 737 dL_law_736 ic_1 rfl ?_
  refine bx_iadd C 738 dL_law_737 rfl ?_
  refine bx_sld C 739 hX hbl hbA dL_law_738 hi1 rfl ?_
  refine bx_aload_n C 740 dL_law_739 rfl rfl rfl ?_
  refine bx_iload_n C 741 dL_law_740 rfl rfl rfl ?_
  refine bx_iconst C 2 742 dL_law_741 ic_2 rfl ?_
  refine bx_iadd C 743 dL_law_742 rfl ?_
  refine bx_sld C 744 hX hbl hbA dL_law_743 hi2 rfl ?_
  refine bx_aload_n C 745 dL_law_744 rfl rfl rfl ?_
  refine bx_iload_n C 746 dL_law_745 rfl rfl rfl ?_
  refine bx_iconst C 3 747 dL_law_746 ic_3 rfl ?_
  refine bx_iadd C 748 dL_law_747 rfl ?_
  refine bx_sld C 749 hX hbl hbA dL_law_748 hi3 rfl ?_
  obtain ⟨fsM, haM⟩ := lw_atM (E := E) (a := a) (b := b) (u := u2) (mm := mm)
  refine bx_qVi C 74 haM rfl 752 fc_L_100 (k_X8_seen l E b _ _ _ _ _ hv) dL_law_749 ⟨rfl, rfl, Nat.le_of_ble_eq_true rfl, Nat.le_of_ble_eq_true rfl⟩ [74, 75, 76, 77, 78, 79, 80, 81, 82, 83] (fun v => w_U E a u2 ++ w_M E b v) lw_psM lw_ndM lw_adM lw_puM rfl rfl (Nat.le_of_ble_eq_true rfl) rfl (fun r2 mm2 hv => ?_)
  refine bx_icmp_eq C 1263 755 dL_law_752 (by decide) rfl (fun _ => ?_) (fun h => absurd hv.1 h)
  exact kk _ _ hv.2
set_option maxRecDepth 20000 in
set_option maxHeartbeats 4000000 in
theorem lcase_21 (C : bx_C p room_1 s m #[Value.ref q0] meth c cL_law 4 RL ret E (fun q : Nat => s.heap.size ≤ q) 84 2186) (hX : va_X q0 L xs s s.heap) (hbl : q0 < s.heap.size) {x3 : Int32} (hi1 : vp_in (x3 + 1) L) (hi2 : vp_in (x3 + 2) L) (hi3 : vp_in (x3 + 3) L) (hi4 : vp_in (x3 + 4) L) {Rel : US → MS → Prop} {u : US} {mm : MS} (hv : V_X7_where (fun r u2 => V_X8_where (fun r2 mm2 => r = r2 ∧ Rel u2 mm2) mm (xs (x3 + 1).toNatClampNeg) (xs (x3 + 2).toNatClampNeg)) u (xs (x3 + 1).toNatClampNeg) (xs (x3 + 2).toNatClampNeg)) (kk : ∀ (u : US) (mm : MS), Rel u mm → bx_S p l e room_1 s m #[Value.ref q0] below meth c 4 E (fun q : Nat => s.heap.size ≤ q) (lw_Z below #[Value.ref q0] s) 84 2186 1263 [(0, .ref q0), (1, .ref (a 0)), (2, .ref (b 0)), (3, .int x3)] [] (w_U E a u ++ w_M E b mm)) : bx_S p l e room_1 s m #[Value.ref q0] below meth c 4 E (fun q : Nat => s.heap.size ≤ q) (lw_Z below #[Value.ref q0] s) 84 2186 757 [(0, .ref q0), (1, .ref (a 0)), (2, .ref (b 0)), (3, .int x3)] [] (w_U E a u ++ w_M E b mm) := by
  have hbA : ¬ (fun q : Nat => s.heap.size ≤ q) q0 := Nat.not_le.mpr hbl
  refine bx_aload_n C 758 dL_law_757 rfl rfl rfl ?_
  refine bx_aload_n C 759 dL_law_758 rfl rfl rfl ?_
  refine bx_iload_n C 760 dL_law_759 rfl rfl rfl ?_
  refine bx_iconst C 1 761 dL_law_760 ic_1 rfl ?_
  refine bx_iadd C 762 dL_law_761 rfl ?_
  refine bx_sld C 763 hX hbl hbA dL_law_762 hi1 rfl ?_
  refine bx_aload_n C 764 dL_law_763 rfl rfl rfl ?_
  refine bx_iload_n C 765 dL_law_764 rfl rfl rfl ?_
  refine bx_iconst C 2 766 dL_law_765 ic_2 rfl ?_
  refine bx_iadd C 767 dL_law_766 rfl ?_
  refine bx_sld C 768 hX hbl hbA dL_law_767 hi2 rfl ?_
  obtain ⟨fsU, haU⟩ := lw_atU (E := E) (a := a) (b := b) (u := u) (mm := mm)
  refine bx_qVi C 0 haU rfl 771 fc_L_101 (k_X7_where l E a _ _ _ _ hv) dL_law_768 ⟨rfl, rfl, Nat.le_of_ble_eq_true rfl, Nat.le_of_ble_eq_true rfl⟩ [0, 1, 2, 3, 4, 5, 6, 7, 8, 9, 10, 11, 12, 13, 14, 15, 16, 17, 18, 19, 20, 21, 22, 23, 24, 25, 26, 27, 28, 29, 30, 31, 32, 33, 34, 35, 36, 37, 38, 39, 40, 41, 42, 43, 44, 45, 46, 47, 48, 49, 50, 51, 52, 53, 54, 55, 56, 57, 58, 59, 60, 61, 62, 63, 64, 65, 66, 67, 68, 69, 70, 71, 72, 73] (fun v => w_U E a v ++ w_M E b mm) lw_psU lw_ndU lw_adU lw_puU rfl rfl (Nat.le_of_ble_eq_true rfl) rfl (fun r1 u2 hv => ?_)
  refine bx_aload_n C 772 dL_law_771 rfl rfl rfl ?_
  refine bx_aload_n C 773 dL_law_772 rfl rfl rfl ?_
  refine bx_iload_n C 774 dL_law_773 rfl rfl rfl ?_
  refine bx_iconst C 1 775 dL_law_774 ic_1 rfl ?_
  refine bx_iadd C 776 dL_law_775 rfl ?_
  refine bx_sld C 777 hX hbl hbA dL_law_776 hi1 rfl ?_
  refine bx_aload_n C 778 dL_law_777 rfl rfl rfl ?_
  refine bx_iload_n C 779 dL_law_778 rfl rfl rfl ?_
  refine bx_iconst C 2 780 dL_law_779 ic_2 rfl ?_
  refine bx_iadd C 781 dL_law_780 rfl ?_
  refine bx_sld C 782 hX hbl hbA dL_law_781 hi2 rfl ?_
  obtain ⟨fsM, haM⟩ := lw_atM (E := E) (a := a) (b := b) (u := u2) (mm := mm)
  refine bx_qVi C 74 haM rfl 785 fc_L_104 (k_X8_where l E b _ _ _ _ hv) dL_law_782 ⟨rfl, rfl, Nat.le_of_ble_eq_true rfl, Nat.le_of_ble_eq_true rfl⟩ [74, 75, 76, 77, 78, 79, 80, 81, 82, 83] (fun v => w_U E a u2 ++ w_M E b v) lw_psM lw_ndM lw_adM lw_puM rfl rfl (Nat.le_of_ble_eq_true rfl) rfl (fun r2 mm2 hv => ?_)
  refine bx_icmp_eq C 1263 788 dL_law_785 (by decide) rfl (fun _ => ?_) (fun h => absurd hv.1 h)
  exact kk _ _ hv.2
set_option maxRecDepth 20000 in
set_option maxHeartbeats 4000000 in
theorem lcase_22 (C : bx_C p room_1 s m #[Value.ref q0] meth c cL_law 4 RL ret E (fun q : Nat => s.heap.size ≤ q) 84 2186) (hX : va_X q0 L xs s s.heap) (hbl : q0 < s.heap.size) {x3 : Int32} (hi1 : vp_in (x3 + 1) L) (hi2 : vp_in (x3 + 2) L) (hi3 : vp_in (x3 + 3) L) (hi4 : vp_in (x3 + 4) L) {Rel : US → MS → Prop} {u : US} {mm : MS} (hv : V_X7_tell (fun r u2 => V_X8_tell (fun r2 mm2 => r = r2 ∧ Rel u2 mm2) mm (xs (x3 + 1).toNatClampNeg)) u (xs (x3 + 1).toNatClampNeg)) (kk : ∀ (u : US) (mm : MS), Rel u mm → bx_S p l e room_1 s m #[Value.ref q0] below meth c 4 E (fun q : Nat => s.heap.size ≤ q) (lw_Z below #[Value.ref q0] s) 84 2186 1263 [(0, .ref q0), (1, .ref (a 0)), (2, .ref (b 0)), (3, .int x3)] [] (w_U E a u ++ w_M E b mm)) : bx_S p l e room_1 s m #[Value.ref q0] below meth c 4 E (fun q : Nat => s.heap.size ≤ q) (lw_Z below #[Value.ref q0] s) 84 2186 790 [(0, .ref q0), (1, .ref (a 0)), (2, .ref (b 0)), (3, .int x3)] [] (w_U E a u ++ w_M E b mm) := by
  have hbA : ¬ (fun q : Nat => s.heap.size ≤ q) q0 := Nat.not_le.mpr hbl
  refine bx_aload_n C 791 dL_law_790 rfl rfl rfl ?_
  refine bx_aload_n C 792 dL_law_791 rfl rfl rfl ?_
  refine bx_iload_n C 793 dL_law_792 rfl rfl rfl ?_
  refine bx_iconst C 1 794 dL_law_793 ic_1 rfl ?_
  refine bx_iadd C 795 dL_law_794 rfl ?_
  refine bx_sld C 796 hX hbl hbA dL_law_795 hi1 rfl ?_
  obtain ⟨fsU, haU⟩ := lw_atU (E := E) (a := a) (b := b) (u := u) (mm := mm)
  refine bx_qVi C 0 haU rfl 799 fc_L_105 (k_X7_tell l E a _ _ _ hv) dL_law_796 ⟨rfl, rfl, Nat.le_of_ble_eq_true rfl, Nat.le_of_ble_eq_true rfl⟩ [0, 1, 2, 3, 4, 5, 6, 7, 8, 9, 10, 11, 12, 13, 14, 15, 16, 17, 18, 19, 20, 21, 22, 23, 24, 25, 26, 27, 28, 29, 30, 31, 32, 33, 34, 35, 36, 37, 38, 39, 40, 41, 42, 43, 44, 45, 46, 47, 48, 49, 50, 51, 52, 53, 54, 55, 56, 57, 58, 59, 60, 61, 62, 63, 64, 65, 66, 67, 68, 69, 70, 71, 72, 73] (fun v => w_U E a v ++ w_M E b mm) lw_psU lw_ndU lw_adU lw_puU rfl rfl (Nat.le_of_ble_eq_true rfl) rfl (fun r1 u2 hv => ?_)
  refine bx_aload_n C 800 dL_law_799 rfl rfl rfl ?_
  refine bx_aload_n C 801 dL_law_800 rfl rfl rfl ?_
  refine bx_iload_n C 802 dL_law_801 rfl rfl rfl ?_
  refine bx_iconst C 1 803 dL_law_802 ic_1 rfl ?_
  refine bx_iadd C 804 dL_law_803 rfl ?_
  refine bx_sld C 805 hX hbl hbA dL_law_804 hi1 rfl ?_
  obtain ⟨fsM, haM⟩ := lw_atM (E := E) (a := a) (b := b) (u := u2) (mm := mm)
  refine bx_qVi C 74 haM rfl 808 fc_L_108 (k_X8_tell l E b _ _ _ hv) dL_law_805 ⟨rfl, rfl, Nat.le_of_ble_eq_true rfl, Nat.le_of_ble_eq_true rfl⟩ [74, 75, 76, 77, 78, 79, 80, 81, 82, 83] (fun v => w_U E a u2 ++ w_M E b v) lw_psM lw_ndM lw_adM lw_puM rfl rfl (Nat.le_of_ble_eq_true rfl) rfl (fun r2 mm2 hv => ?_)
  refine bx_icmp_eq C 1263 811 dL_law_808 (by decide) rfl (fun _ => ?_) (fun h => absurd hv.1 h)
  exact kk _ _ hv.2
set_option maxRecDepth 20000 in
set_option maxHeartbeats 4000000 in
theorem lcase_23 (C : bx_C p room_1 s m #[Value.ref q0] meth c cL_law 4 RL ret E (fun q : Nat => s.heap.size ≤ q) 84 2186) (hX : va_X q0 L xs s s.heap) (hbl : q0 < s.heap.size) {x3 : Int32} (hi1 : vp_in (x3 + 1) L) (hi2 : vp_in (x3 + 2) L) (hi3 : vp_in (x3 + 3) L) (hi4 : vp_in (x3 + 4) L) {Rel : US → MS → Prop} {u : US} {mm : MS} (hv : V_X7_note (fun r u2 => V_X8_note (fun r2 mm2 => r = r2 ∧ Rel u2 mm2) mm (xs (x3 + 1).toNatClampNeg) (xs (x3 + 2).toNatClampNeg) (xs (x3 + 3).toNatClampNeg)) u (xs (x3 + 1).toNatClampNeg) (xs (x3 + 2).toNatClampNeg) (xs (x3 + 3).toNatClampNeg)) (kk : ∀ (u : US) (mm : MS), Rel u mm → bx_S p l e room_1 s m #[Value.ref q0] below meth c 4 E (fun q : Nat => s.heap.size ≤ q) (lw_Z below #[Value.ref q0] s) 84 2186 1263 [(0, .ref q0), (1, .ref (a 0)), (2, .ref (b 0)), (3, .int x3)] [] (w_U E a u ++ w_M E b mm)) : bx_S p l e room_1 s m #[Value.ref q0] below meth c 4 E (fun q : Nat => s.heap.size ≤ q) (lw_Z below #[Value.ref q0] s) 84 2186 813 [(0, .ref q0), (1, .ref (a 0)), (2, .ref (b 0)), (3, .int x3)] [] (w_U E a u ++ w_M E b mm) := by
  have hbA : ¬ (fun q : Nat => s.heap.size ≤ q) q0 := Nat.not_le.mpr hbl
  refine bx_aload_n C 814 dL_law_813 rfl rfl rfl ?_
  refine bx_aload_n C 815 dL_law_814 rfl rfl rfl ?_
  refine bx_iload_n C 816 dL_law_815 rfl rfl rfl ?_
  refine bx_iconst C 1 817 dL_law_816 ic_1 rfl ?_
  refine bx_iadd C 818 dL_law_817 rfl ?_
  refine bx_sld C 819 hX hbl hbA dL_law_818 hi1 rfl ?_
  refine bx_aload_n C 820 dL_law_819 rfl rfl rfl ?_
  refine bx_iload_n C 821 dL_law_820 rfl rfl rfl ?_
  refine bx_iconst C 2 822 dL_law_821 ic_2 rfl ?_
  refine bx_iadd C 823 dL_law_822 rfl ?_
  refine bx_sld C 824 hX hbl hbA dL_law_823 hi2 rfl ?_
  refine bx_aload_n C 825 dL_law_824 rfl rfl rfl ?_
  refine bx_iload_n C 826 dL_law_825 rfl rfl rfl ?_
  refine bx_iconst C 3 827 dL_law_826 ic_3 rfl ?_
  refine bx_iadd C 828 dL_law_827 rfl ?_
  refine bx_sld C 829 hX hbl hbA dL_law_828 hi3 rfl ?_
  obtain ⟨fsU, haU⟩ := lw_atU (E := E) (a := a) (b := b) (u := u) (mm := mm)
  refine bx_qVi C 0 haU rfl 832 fc_L_109 (k_X7_note l E a _ _ _ _ _ hv) dL_law_829 ⟨rfl, rfl, Nat.le_of_ble_eq_true rfl, Nat.le_of_ble_eq_true rfl⟩ [0, 1, 2, 3, 4, 5, 6, 7, 8, 9, 10, 11, 12, 13, 14, 15, 16, 17, 18, 19, 20, 21, 22, 23, 24, 25, 26, 27, 28, 29, 30, 31, 32, 33, 34, 35, 36, 37, 38, 39, 40, 41, 42, 43, 44, 45, 46, 47, 48, 49, 50, 51, 52, 53, 54, 55, 56, 57, 58, 59, 60, 61, 62, 63, 64, 65, 66, 67, 68, 69, 70, 71, 72, 73] (fun v => w_U E a v ++ w_M E b mm) lw_psU lw_ndU lw_adU lw_puU rfl rfl (Nat.le_of_ble_eq_true rfl) rfl (fun r1 u2 hv => ?_)
  refine bx_aload_n C 833 dL_law_832 rfl rfl rfl ?_
  refine bx_aload_n C 834 dL_law_833 rfl rfl rfl ?_
  refine bx_iload_n C 835 dL_law_834 rfl rfl rfl ?_
  refine bx_iconst C 1 836 dL_law_835 ic_1 rfl ?_
  refine bx_iadd C 837 dL_law_836 rfl ?_
  refine bx_sld C 838 hX hbl hbA dL_law_837 hi1 rfl ?_
  refine bx_aload_n C 839 dL_law_838 rfl rfl rfl ?_
  refine bx_iload_n C 840 dL_law_839 rfl rfl rfl ?_
  refine bx_iconst C 2 841 dL_law_840 ic_2 rfl ?_
  refine bx_iadd C 842 dL_law_841 rfl ?_
  refine bx_sld C 843 hX hbl hbA dL_law_842 hi2 rfl ?_
  refine bx_aload_n C 844 dL_law_843 rfl rfl rfl ?_
  refine bx_iload_n C 845 dL_law_844 rfl rfl rfl ?_
  refine bx_iconst C 3 846 dL_law_845 ic_3 rfl ?_
  refine bx_iadd C 847 dL_law_846 rfl ?_
  refine bx_sld C 848 hX hbl hbA dL_law_847 hi3 rfl ?_
  obtain ⟨fsM, haM⟩ := lw_atM (E := E) (a := a) (b := b) (u := u2) (mm := mm)
  refine bx_qVi C 74 haM rfl 851 fc_L_112 (k_X8_note l E b _ _ _ _ _ hv) dL_law_848 ⟨rfl, rfl, Nat.le_of_ble_eq_true rfl, Nat.le_of_ble_eq_true rfl⟩ [74, 75, 76, 77, 78, 79, 80, 81, 82, 83] (fun v => w_U E a u2 ++ w_M E b v) lw_psM lw_ndM lw_adM lw_puM rfl rfl (Nat.le_of_ble_eq_true rfl) rfl (fun r2 mm2 hv => ?_)
  refine bx_icmp_eq C 1263 854 dL_law_851 (by decide) rfl (fun _ => ?_) (fun h => absurd hv.1 h)
  exact kk _ _ hv.2
set_option maxRecDepth 20000 in
set_option maxHeartbeats 4000000 in
theorem lcase_24 (C : bx_C p room_1 s m #[Value.ref q0] meth c cL_law 4 RL ret E (fun q : Nat => s.heap.size ≤ q) 84 2186) (hX : va_X q0 L xs s s.heap) (hbl : q0 < s.heap.size) {x3 : Int32} (hi1 : vp_in (x3 + 1) L) (hi2 : vp_in (x3 + 2) L) (hi3 : vp_in (x3 + 3) L) (hi4 : vp_in (x3 + 4) L) {Rel : US → MS → Prop} {u : US} {mm : MS} (hv : V_X7_mark (fun r u2 => V_X8_mark (fun r2 mm2 => r = r2 ∧ Rel u2 mm2) mm (xs (x3 + 1).toNatClampNeg) (xs (x3 + 2).toNatClampNeg) (xs (x3 + 3).toNatClampNeg) (xs (x3 + 4).toNatClampNeg)) u (xs (x3 + 1).toNatClampNeg) (xs (x3 + 2).toNatClampNeg) (xs (x3 + 3).toNatClampNeg) (xs (x3 + 4).toNatClampNeg)) (kk : ∀ (u : US) (mm : MS), Rel u mm → bx_S p l e room_1 s m #[Value.ref q0] below meth c 4 E (fun q : Nat => s.heap.size ≤ q) (lw_Z below #[Value.ref q0] s) 84 2186 1263 [(0, .ref q0), (1, .ref (a 0)), (2, .ref (b 0)), (3, .int x3)] [] (w_U E a u ++ w_M E b mm)) : bx_S p l e room_1 s m #[Value.ref q0] below meth c 4 E (fun q : Nat => s.heap.size ≤ q) (lw_Z below #[Value.ref q0] s) 84 2186 856 [(0, .ref q0), (1, .ref (a 0)), (2, .ref (b 0)), (3, .int x3)] [] (w_U E a u ++ w_M E b mm) := by
  have hbA : ¬ (fun q : Nat => s.heap.size ≤ q) q0 := Nat.not_le.mpr hbl
  refine bx_aload_n C 857 dL_law_856 rfl rfl rfl ?_
  refine bx_aload_n C 858 dL_law_857 rfl rfl rfl ?_
  refine bx_iload_n C 859 dL_law_858 rfl rfl rfl ?_
  refine bx_iconst C 1 860 dL_law_859 ic_1 rfl ?_
  refine bx_iadd C 861 dL_law_860 rfl ?_
  refine bx_sld C 862 hX hbl hbA dL_law_861 hi1 rfl ?_
  refine bx_aload_n C 863 dL_law_862 rfl rfl rfl ?_
  refine bx_iload_n C 864 dL_law_863 rfl rfl rfl ?_
  refine bx_iconst C 2 865 dL_law_864 ic_2 rfl ?_
  refine bx_iadd C 866 dL_law_865 rfl ?_
  refine bx_sld C 867 hX hbl hbA dL_law_866 hi2 rfl ?_
  refine bx_aload_n C 868 dL_law_867 rfl rfl rfl ?_
  refine bx_iload_n C 869 dL_law_868 rfl rfl rfl ?_
  refine bx_iconst C 3 870 dL_law_869 ic_3 rfl ?_
  refine bx_iadd C 871 dL_law_870 rfl ?_
  refine bx_sld C 872 hX hbl hbA dL_law_871 hi3 rfl ?_
  refine bx_aload_n C 873 dL_law_872 rfl rfl rfl ?_
  refine bx_iload_n C 874 dL_law_873 rfl rfl rfl ?_
  refine bx_iconst C 4 875 dL_law_874 ic_4 rfl ?_
  refine bx_iadd C 876 dL_law_875 rfl ?_
  refine bx_sld C 877 hX hbl hbA dL_law_876 hi4 rfl ?_
  obtain ⟨fsU, haU⟩ := lw_atU (E := E) (a := a) (b := b) (u := u) (mm := mm)
  refine bx_qVi C 0 haU rfl 880 fc_L_113 (k_X7_mark l E a _ _ _ _ _ _ hv) dL_law_877 ⟨rfl, rfl, Nat.le_of_ble_eq_true rfl, Nat.le_of_ble_eq_true rfl⟩ [0, 1, 2, 3, 4, 5, 6, 7, 8, 9, 10, 11, 12, 13, 14, 15, 16, 17, 18, 19, 20, 21, 22, 23, 24, 25, 26, 27, 28, 29, 30, 31, 32, 33, 34, 35, 36, 37, 38, 39, 40, 41, 42, 43, 44, 45, 46, 47, 48, 49, 50, 51, 52, 53, 54, 55, 56, 57, 58, 59, 60, 61, 62, 63, 64, 65, 66, 67, 68, 69, 70, 71, 72, 73] (fun v => w_U E a v ++ w_M E b mm) lw_psU lw_ndU lw_adU lw_puU rfl rfl (Nat.le_of_ble_eq_true rfl) rfl (fun r1 u2 hv => ?_)
  refine bx_aload_n C 881 dL_law_880 rfl rfl rfl ?_
  refine bx_aload_n C 882 dL_law_881 rfl rfl rfl ?_
  refine bx_iload_n C 883 dL_law_882 rfl rfl rfl ?_
  refine bx_iconst C 1 884 dL_law_883 ic_1 rfl ?_
  refine bx_iadd C 885 dL_law_884 rfl ?_
  refine bx_sld C 886 hX hbl hbA dL_law_885 hi1 rfl ?_
  refine bx_aload_n C 887 dL_law_886 rfl rfl rfl ?_
  refine bx_iload_n C 888 dL_law_887 rfl rfl rfl ?_
  refine bx_iconst C 2 889 dL_law_888 ic_2 rfl ?_
  refine bx_iadd C 890 dL_law_889 rfl ?_
  refine bx_sld C 891 hX hbl hbA dL_law_890 hi2 rfl ?_
  refine bx_aload_n C 892 dL_law_891 rfl rfl rfl ?_
  refine bx_iload_n C 893 dL_law_892 rfl rfl rfl ?_
  refine bx_iconst C 3 894 dL_law_893 ic_3 rfl ?_
  refine bx_iadd C 895 dL_law_894 rfl ?_
  refine bx_sld C 896 hX hbl hbA dL_law_895 hi3 rfl ?_
  refine bx_aload_n C 897 dL_law_896 rfl rfl rfl ?_
  refine bx_iload_n C 898 dL_law_897 rfl rfl rfl ?_
  refine bx_iconst C 4 899 dL_law_898 ic_4 rfl ?_
  refine bx_iadd C 900 dL_law_899 rfl ?_
  refine bx_sld C 901 hX hbl hbA dL_law_900 hi4 rfl ?_
  obtain ⟨fsM, haM⟩ := lw_atM (E := E) (a := a) (b := b) (u := u2) (mm := mm)
  refine bx_qVi C 74 haM rfl 904 fc_L_117 (k_X8_mark l E b _ _ _ _ _ _ hv) dL_law_901 ⟨rfl, rfl, Nat.le_of_ble_eq_true rfl, Nat.le_of_ble_eq_true rfl⟩ [74, 75, 76, 77, 78, 79, 80, 81, 82, 83] (fun v => w_U E a u2 ++ w_M E b v) lw_psM lw_ndM lw_adM lw_puM rfl rfl (Nat.le_of_ble_eq_true rfl) rfl (fun r2 mm2 hv => ?_)
  refine bx_icmp_eq C 1263 907 dL_law_904 (by decide) rfl (fun _ => ?_) (fun h => absurd hv.1 h)
  exact kk _ _ hv.2
set_option maxRecDepth 20000 in
set_option maxHeartbeats 4000000 in
theorem lcase_25 (C : bx_C p room_1 s m #[Value.ref q0] meth c cL_law 4 RL ret E (fun q : Nat => s.heap.size ≤ q) 84 2186) (hX : va_X q0 L xs s s.heap) (hbl : q0 < s.heap.size) {x3 : Int32} (hi1 : vp_in (x3 + 1) L) (hi2 : vp_in (x3 + 2) L) (hi3 : vp_in (x3 + 3) L) (hi4 : vp_in (x3 + 4) L) {Rel : US → MS → Prop} {u : US} {mm : MS} (hv : V_X7_forget (fun r u2 => V_X8_forget (fun r2 mm2 => r = r2 ∧ Rel u2 mm2) mm (xs (x3 + 1).toNatClampNeg)) u (xs (x3 + 1).toNatClampNeg)) (kk : ∀ (u : US) (mm : MS), Rel u mm → bx_S p l e room_1 s m #[Value.ref q0] below meth c 4 E (fun q : Nat => s.heap.size ≤ q) (lw_Z below #[Value.ref q0] s) 84 2186 1263 [(0, .ref q0), (1, .ref (a 0)), (2, .ref (b 0)), (3, .int x3)] [] (w_U E a u ++ w_M E b mm)) : bx_S p l e room_1 s m #[Value.ref q0] below meth c 4 E (fun q : Nat => s.heap.size ≤ q) (lw_Z below #[Value.ref q0] s) 84 2186 909 [(0, .ref q0), (1, .ref (a 0)), (2, .ref (b 0)), (3, .int x3)] [] (w_U E a u ++ w_M E b mm) := by
  have hbA : ¬ (fun q : Nat => s.heap.size ≤ q) q0 := Nat.not_le.mpr hbl
  refine bx_aload_n C 910 dL_law_909 rfl rfl rfl ?_
  refine bx_aload_n C 911 dL_law_910 rfl rfl rfl ?_
  refine bx_iload_n C 912 dL_law_911 rfl rfl rfl ?_
  refine bx_iconst C 1 913 dL_law_912 ic_1 rfl ?_
  refine bx_iadd C 914 dL_law_913 rfl ?_
  refine bx_sld C 915 hX hbl hbA dL_law_914 hi1 rfl ?_
  obtain ⟨fsU, haU⟩ := lw_atU (E := E) (a := a) (b := b) (u := u) (mm := mm)
  refine bx_qVi C 0 haU rfl 918 fc_L_118 (k_X7_forget l E a _ _ _ hv) dL_law_915 ⟨rfl, rfl, Nat.le_of_ble_eq_true rfl, Nat.le_of_ble_eq_true rfl⟩ [0, 1, 2, 3, 4, 5, 6, 7, 8, 9, 10, 11, 12, 13, 14, 15, 16, 17, 18, 19, 20, 21, 22, 23, 24, 25, 26, 27, 28, 29, 30, 31, 32, 33, 34, 35, 36, 37, 38, 39, 40, 41, 42, 43, 44, 45, 46, 47, 48, 49, 50, 51, 52, 53, 54, 55, 56, 57, 58, 59, 60, 61, 62, 63, 64, 65, 66, 67, 68, 69, 70, 71, 72, 73] (fun v => w_U E a v ++ w_M E b mm) lw_psU lw_ndU lw_adU lw_puU rfl rfl (Nat.le_of_ble_eq_true rfl) rfl (fun r1 u2 hv => ?_)
  refine bx_aload_n C 919 dL_law_918 rfl rfl rfl ?_
  refine bx_aload_n C 920 dL_law_919 rfl rfl rfl ?_
  refine bx_iload_n C 921 dL_law_920 rfl rfl rfl ?_
  refine bx_iconst C 1 922 dL_law_921 ic_1 rfl ?_
  refine bx_iadd C 923 dL_law_922 rfl ?_
  refine bx_sld C 924 hX hbl hbA dL_law_923 hi1 rfl ?_
  obtain ⟨fsM, haM⟩ := lw_atM (E := E) (a := a) (b := b) (u := u2) (mm := mm)
  refine bx_qVi C 74 haM rfl 927 fc_L_121 (k_X8_forget l E b _ _ _ hv) dL_law_924 ⟨rfl, rfl, Nat.le_of_ble_eq_true rfl, Nat.le_of_ble_eq_true rfl⟩ [74, 75, 76, 77, 78, 79, 80, 81, 82, 83] (fun v => w_U E a u2 ++ w_M E b v) lw_psM lw_ndM lw_adM lw_puM rfl rfl (Nat.le_of_ble_eq_true rfl) rfl (fun r2 mm2 hv => ?_)
  refine bx_icmp_eq C 1263 930 dL_law_927 (by decide) rfl (fun _ => ?_) (fun h => absurd hv.1 h)
  exact kk _ _ hv.2
set_option maxRecDepth 20000 in
set_option maxHeartbeats 4000000 in
theorem lcase_26 (C : bx_C p room_1 s m #[Value.ref q0] meth c cL_law 4 RL ret E (fun q : Nat => s.heap.size ≤ q) 84 2186) (hX : va_X q0 L xs s s.heap) (hbl : q0 < s.heap.size) {x3 : Int32} (hi1 : vp_in (x3 + 1) L) (hi2 : vp_in (x3 + 2) L) (hi3 : vp_in (x3 + 3) L) (hi4 : vp_in (x3 + 4) L) {Rel : US → MS → Prop} {u : US} {mm : MS} (hv : V_X7_is (fun r u2 => V_X8_is (fun r2 mm2 => r = r2 ∧ Rel u2 mm2) mm (xs (x3 + 1).toNatClampNeg)) u (xs (x3 + 1).toNatClampNeg)) (kk : ∀ (u : US) (mm : MS), Rel u mm → bx_S p l e room_1 s m #[Value.ref q0] below meth c 4 E (fun q : Nat => s.heap.size ≤ q) (lw_Z below #[Value.ref q0] s) 84 2186 1263 [(0, .ref q0), (1, .ref (a 0)), (2, .ref (b 0)), (3, .int x3)] [] (w_U E a u ++ w_M E b mm)) : bx_S p l e room_1 s m #[Value.ref q0] below meth c 4 E (fun q : Nat => s.heap.size ≤ q) (lw_Z below #[Value.ref q0] s) 84 2186 932 [(0, .ref q0), (1, .ref (a 0)), (2, .ref (b 0)), (3, .int x3)] [] (w_U E a u ++ w_M E b mm) := by
  have hbA : ¬ (fun q : Nat => s.heap.size ≤ q) q0 := Nat.not_le.mpr hbl
  refine bx_aload_n C 933 dL_law_932 rfl rfl rfl ?_
  refine bx_aload_n C 934 dL_law_933 rfl rfl rfl ?_
  refine bx_iload_n C 935 dL_law_934 rfl rfl rfl ?_
  refine bx_iconst C 1 936 dL_law_935 ic_1 rfl ?_
  refine bx_iadd C 937 dL_law_936 rfl ?_
  refine bx_sld C 938 hX hbl hbA dL_law_937 hi1 rfl ?_
  obtain ⟨fsU, haU⟩ := lw_atU (E := E) (a := a) (b := b) (u := u) (mm := mm)
  refine bx_qVi C 0 haU rfl 941 fc_L_122 (k_X7_is l E a _ _ _ hv) dL_law_938 ⟨rfl, rfl, Nat.le_of_ble_eq_true rfl, Nat.le_of_ble_eq_true rfl⟩ [0, 1, 2, 3, 4, 5, 6, 7, 8, 9, 10, 11, 12, 13, 14, 15, 16, 17, 18, 19, 20, 21, 22, 23, 24, 25, 26, 27, 28, 29, 30, 31, 32, 33, 34, 35, 36, 37, 38, 39, 40, 41, 42, 43, 44, 45, 46, 47, 48, 49, 50, 51, 52, 53, 54, 55, 56, 57, 58, 59, 60, 61, 62, 63, 64, 65, 66, 67, 68, 69, 70, 71, 72, 73] (fun v => w_U E a v ++ w_M E b mm) lw_psU lw_ndU lw_adU lw_puU rfl rfl (Nat.le_of_ble_eq_true rfl) rfl (fun r1 u2 hv => ?_)
  refine bx_aload_n C 942 dL_law_941 rfl rfl rfl ?_
  refine bx_aload_n C 943 dL_law_942 rfl rfl rfl ?_
  refine bx_iload_n C 944 dL_law_943 rfl rfl rfl ?_
  refine bx_iconst C 1 945 dL_law_944 ic_1 rfl ?_
  refine bx_iadd C 946 dL_law_945 rfl ?_
  refine bx_sld C 947 hX hbl hbA dL_law_946 hi1 rfl ?_
  obtain ⟨fsM, haM⟩ := lw_atM (E := E) (a := a) (b := b) (u := u2) (mm := mm)
  refine bx_qVi C 74 haM rfl 950 fc_L_125 (k_X8_is l E b _ _ _ hv) dL_law_947 ⟨rfl, rfl, Nat.le_of_ble_eq_true rfl, Nat.le_of_ble_eq_true rfl⟩ [74, 75, 76, 77, 78, 79, 80, 81, 82, 83] (fun v => w_U E a u2 ++ w_M E b v) lw_psM lw_ndM lw_adM lw_puM rfl rfl (Nat.le_of_ble_eq_true rfl) rfl (fun r2 mm2 hv => ?_)
  refine bx_icmp_eq C 1263 953 dL_law_950 (by decide) rfl (fun _ => ?_) (fun h => absurd hv.1 h)
  exact kk _ _ hv.2
set_option maxRecDepth 20000 in
set_option maxHeartbeats 4000000 in
theorem lcase_27 (C : bx_C p room_1 s m #[Value.ref q0] meth c cL_law 4 RL ret E (fun q : Nat => s.heap.size ≤ q) 84 2186) (hX : va_X q0 L xs s s.heap) (hbl : q0 < s.heap.size) {x3 : Int32} (hi1 : vp_in (x3 + 1) L) (hi2 : vp_in (x3 + 2) L) (hi3 : vp_in (x3 + 3) L) (hi4 : vp_in (x3 + 4) L) {Rel : US → MS → Prop} {u : US} {mm : MS} (hv : V_X7_look (fun r u2 => V_X8_look (fun r2 mm2 => r = r2 ∧ Rel u2 mm2) mm (xs (x3 + 1).toNatClampNeg)) u (xs (x3 + 1).toNatClampNeg)) (kk : ∀ (u : US) (mm : MS), Rel u mm → bx_S p l e room_1 s m #[Value.ref q0] below meth c 4 E (fun q : Nat => s.heap.size ≤ q) (lw_Z below #[Value.ref q0] s) 84 2186 1263 [(0, .ref q0), (1, .ref (a 0)), (2, .ref (b 0)), (3, .int x3)] [] (w_U E a u ++ w_M E b mm)) : bx_S p l e room_1 s m #[Value.ref q0] below meth c 4 E (fun q : Nat => s.heap.size ≤ q) (lw_Z below #[Value.ref q0] s) 84 2186 955 [(0, .ref q0), (1, .ref (a 0)), (2, .ref (b 0)), (3, .int x3)] [] (w_U E a u ++ w_M E b mm) := by
  have hbA : ¬ (fun q : Nat => s.heap.size ≤ q) q0 := Nat.not_le.mpr hbl
  refine bx_aload_n C 956 dL_law_955 rfl rfl rfl ?_
  refine bx_aload_n C 957 dL_law_956 rfl rfl rfl ?_
  refine bx_iload_n C 958 dL_law_957 rfl rfl rfl ?_
  refine bx_iconst C 1 959 dL_law_958 ic_1 rfl ?_
  refine bx_iadd C 960 dL_law_959 rfl ?_
  refine bx_sld C 961 hX hbl hbA dL_law_960 hi1 rfl ?_
  obtain ⟨fsU, haU⟩ := lw_atU (E := E) (a := a) (b := b) (u := u) (mm := mm)
  refine bx_qVi C 0 haU rfl 964 fc_L_126 (k_X7_look l E a _ _ _ hv) dL_law_961 ⟨rfl, rfl, Nat.le_of_ble_eq_true rfl, Nat.le_of_ble_eq_true rfl⟩ [0, 1, 2, 3, 4, 5, 6, 7, 8, 9, 10, 11, 12, 13, 14, 15, 16, 17, 18, 19, 20, 21, 22, 23, 24, 25, 26, 27, 28, 29, 30, 31, 32, 33, 34, 35, 36, 37, 38, 39, 40, 41, 42, 43, 44, 45, 46, 47, 48, 49, 50, 51, 52, 53, 54, 55, 56, 57, 58, 59, 60, 61, 62, 63, 64, 65, 66, 67, 68, 69, 70, 71, 72, 73] (fun v => w_U E a v ++ w_M E b mm) lw_psU lw_ndU lw_adU lw_puU rfl rfl (Nat.le_of_ble_eq_true rfl) rfl (fun r1 u2 hv => ?_)
  refine bx_aload_n C 965 dL_law_964 rfl rfl rfl ?_
  refine bx_aload_n C 966 dL_law_965 rfl rfl rfl ?_
  refine bx_iload_n C 967 dL_law_966 rfl rfl rfl ?_
  refine bx_iconst C 1 968 dL_law_967 ic_1 rfl ?_
  refine bx_iadd C 969 dL_law_968 rfl ?_
  refine bx_sld C 970 hX hbl hbA dL_law_969 hi1 rfl ?_
  obtain ⟨fsM, haM⟩ := lw_atM (E := E) (a := a) (b := b) (u := u2) (mm := mm)
  refine bx_qVi C 74 haM rfl 973 fc_L_129 (k_X8_look l E b _ _ _ hv) dL_law_970 ⟨rfl, rfl, Nat.le_of_ble_eq_true rfl, Nat.le_of_ble_eq_true rfl⟩ [74, 75, 76, 77, 78, 79, 80, 81, 82, 83] (fun v => w_U E a u2 ++ w_M E b v) lw_psM lw_ndM lw_adM lw_puM rfl rfl (Nat.le_of_ble_eq_true rfl) rfl (fun r2 mm2 hv => ?_)
  refine bx_icmp_eq C 1263 976 dL_law_973 (by decide) rfl (fun _ => ?_) (fun h => absurd hv.1 h)
  exact kk _ _ hv.2
set_option maxRecDepth 20000 in
set_option maxHeartbeats 4000000 in
theorem lcase_28 (C : bx_C p room_1 s m #[Value.ref q0] meth c cL_law 4 RL ret E (fun q : Nat => s.heap.size ≤ q) 84 2186) (hX : va_X q0 L xs s s.heap) (hbl : q0 < s.heap.size) {x3 : Int32} (hi1 : vp_in (x3 + 1) L) (hi2 : vp_in (x3 + 2) L) (hi3 : vp_in (x3 + 3) L) (hi4 : vp_in (x3 + 4) L) {Rel : US → MS → Prop} {u : US} {mm : MS} (hv : V_X7_kinds (fun r u2 => V_X8_kinds (fun r2 mm2 => r = r2 ∧ Rel u2 mm2) mm (xs (x3 + 1).toNatClampNeg)) u (xs (x3 + 1).toNatClampNeg)) (kk : ∀ (u : US) (mm : MS), Rel u mm → bx_S p l e room_1 s m #[Value.ref q0] below meth c 4 E (fun q : Nat => s.heap.size ≤ q) (lw_Z below #[Value.ref q0] s) 84 2186 1263 [(0, .ref q0), (1, .ref (a 0)), (2, .ref (b 0)), (3, .int x3)] [] (w_U E a u ++ w_M E b mm)) : bx_S p l e room_1 s m #[Value.ref q0] below meth c 4 E (fun q : Nat => s.heap.size ≤ q) (lw_Z below #[Value.ref q0] s) 84 2186 978 [(0, .ref q0), (1, .ref (a 0)), (2, .ref (b 0)), (3, .int x3)] [] (w_U E a u ++ w_M E b mm) := by
  have hbA : ¬ (fun q : Nat => s.heap.size ≤ q) q0 := Nat.not_le.mpr hbl
  refine bx_aload_n C 979 dL_law_978 rfl rfl rfl ?_
  refine bx_aload_n C 980 dL_law_979 rfl rfl rfl ?_
  refine bx_iload_n C 981 dL_law_980 rfl rfl rfl ?_
  refine bx_iconst C 1 982 dL_law_981 ic_1 rfl ?_
  refine bx_iadd C 983 dL_law_982 rfl ?_
  refine bx_sld C 984 hX hbl hbA dL_law_983 hi1 rfl ?_
  obtain ⟨fsU, haU⟩ := lw_atU (E := E) (a := a) (b := b) (u := u) (mm := mm)
  refine bx_qVi C 0 haU rfl 987 fc_L_130 (k_X7_kinds l E a _ _ _ hv) dL_law_984 ⟨rfl, rfl, Nat.le_of_ble_eq_true rfl, Nat.le_of_ble_eq_true rfl⟩ [0, 1, 2, 3, 4, 5, 6, 7, 8, 9, 10, 11, 12, 13, 14, 15, 16, 17, 18, 19, 20, 21, 22, 23, 24, 25, 26, 27, 28, 29, 30, 31, 32, 33, 34, 35, 36, 37, 38, 39, 40, 41, 42, 43, 44, 45, 46, 47, 48, 49, 50, 51, 52, 53, 54, 55, 56, 57, 58, 59, 60, 61, 62, 63, 64, 65, 66, 67, 68, 69, 70, 71, 72, 73] (fun v => w_U E a v ++ w_M E b mm) lw_psU lw_ndU lw_adU lw_puU rfl rfl (Nat.le_of_ble_eq_true rfl) rfl (fun r1 u2 hv => ?_)
  refine bx_aload_n C 988 dL_law_987 rfl rfl rfl ?_
  refine bx_aload_n C 989 dL_law_988 rfl rfl rfl ?_
  refine bx_iload_n C 990 dL_law_989 rfl rfl rfl ?_
  refine bx_iconst C 1 991 dL_law_990 ic_1 rfl ?_
  refine bx_iadd C 992 dL_law_991 rfl ?_
  refine bx_sld C 993 hX hbl hbA dL_law_992 hi1 rfl ?_
  obtain ⟨fsM, haM⟩ := lw_atM (E := E) (a := a) (b := b) (u := u2) (mm := mm)
  refine bx_qVi C 74 haM rfl 996 fc_L_133 (k_X8_kinds l E b _ _ _ hv) dL_law_993 ⟨rfl, rfl, Nat.le_of_ble_eq_true rfl, Nat.le_of_ble_eq_true rfl⟩ [74, 75, 76, 77, 78, 79, 80, 81, 82, 83] (fun v => w_U E a u2 ++ w_M E b v) lw_psM lw_ndM lw_adM lw_puM rfl rfl (Nat.le_of_ble_eq_true rfl) rfl (fun r2 mm2 hv => ?_)
  refine bx_icmp_eq C 1263 999 dL_law_996 (by decide) rfl (fun _ => ?_) (fun h => absurd hv.1 h)
  exact kk _ _ hv.2
set_option maxRecDepth 20000 in
set_option maxHeartbeats 4000000 in
theorem lcase_29 (C : bx_C p room_1 s m #[Value.ref q0] meth c cL_law 4 RL ret E (fun q : Nat => s.heap.size ≤ q) 84 2186) (hX : va_X q0 L xs s s.heap) (hbl : q0 < s.heap.size) {x3 : Int32} (hi1 : vp_in (x3 + 1) L) (hi2 : vp_in (x3 + 2) L) (hi3 : vp_in (x3 + 3) L) (hi4 : vp_in (x3 + 4) L) {Rel : US → MS → Prop} {u : US} {mm : MS} (hv : V_X7_ask (fun r u2 => V_X8_ask (fun r2 mm2 => r = r2 ∧ Rel u2 mm2) mm (xs (x3 + 1).toNatClampNeg)) u (xs (x3 + 1).toNatClampNeg)) (kk : ∀ (u : US) (mm : MS), Rel u mm → bx_S p l e room_1 s m #[Value.ref q0] below meth c 4 E (fun q : Nat => s.heap.size ≤ q) (lw_Z below #[Value.ref q0] s) 84 2186 1263 [(0, .ref q0), (1, .ref (a 0)), (2, .ref (b 0)), (3, .int x3)] [] (w_U E a u ++ w_M E b mm)) : bx_S p l e room_1 s m #[Value.ref q0] below meth c 4 E (fun q : Nat => s.heap.size ≤ q) (lw_Z below #[Value.ref q0] s) 84 2186 1001 [(0, .ref q0), (1, .ref (a 0)), (2, .ref (b 0)), (3, .int x3)] [] (w_U E a u ++ w_M E b mm) := by
  have hbA : ¬ (fun q : Nat => s.heap.size ≤ q) q0 := Nat.not_le.mpr hbl
  refine bx_aload_n C 1002 dL_law_1001 rfl rfl rfl ?_
  refine bx_aload_n C 1003 dL_law_1002 rfl rfl rfl ?_
  refine bx_iload_n C 1004 dL_law_1003 rfl rfl rfl ?_
  refine bx_iconst C 1 1005 dL_law_1004 ic_1 rfl ?_
  refine bx_iadd C 1006 dL_law_1005 rfl ?_
  refine bx_sld C 1007 hX hbl hbA dL_law_1006 hi1 rfl ?_
  obtain ⟨fsU, haU⟩ := lw_atU (E := E) (a := a) (b := b) (u := u) (mm := mm)
  refine bx_qVi C 0 haU rfl 1010 fc_L_134 (k_X7_ask l E a _ _ _ hv) dL_law_1007 ⟨rfl, rfl, Nat.le_of_ble_eq_true rfl, Nat.le_of_ble_eq_true rfl⟩ [0, 1, 2, 3, 4, 5, 6, 7, 8, 9, 10, 11, 12, 13, 14, 15, 16, 17, 18, 19, 20, 21, 22, 23, 24, 25, 26, 27, 28, 29, 30, 31, 32, 33, 34, 35, 36, 37, 38, 39, 40, 41, 42, 43, 44, 45, 46, 47, 48, 49, 50, 51, 52, 53, 54, 55, 56, 57, 58, 59, 60, 61, 62, 63, 64, 65, 66, 67, 68, 69, 70, 71, 72, 73] (fun v => w_U E a v ++ w_M E b mm) lw_psU lw_ndU lw_adU lw_puU rfl rfl (Nat.le_of_ble_eq_true rfl) rfl (fun r1 u2 hv => ?_)
  refine bx_aload_n C 1011 dL_law_1010 rfl rfl rfl ?_
  refine bx_aload_n C 1012 dL_law_1011 rfl rfl rfl ?_
  refine bx_iload_n C 1013 dL_law_1012 rfl rfl rfl ?_
  refine bx_iconst C 1 1014 dL_law_1013 ic_1 rfl ?_
  refine bx_iadd C 1015 dL_law_1014 rfl ?_
  refine bx_sld C 1016 hX hbl hbA dL_law_1015 hi1 rfl ?_
  obtain ⟨fsM, haM⟩ := lw_atM (E := E) (a := a) (b := b) (u := u2) (mm := mm)
  refine bx_qVi C 74 haM rfl 1019 fc_L_137 (k_X8_ask l E b _ _ _ hv) dL_law_1016 ⟨rfl, rfl, Nat.le_of_ble_eq_true rfl, Nat.le_of_ble_eq_true rfl⟩ [74, 75, 76, 77, 78, 79, 80, 81, 82, 83] (fun v => w_U E a u2 ++ w_M E b v) lw_psM lw_ndM lw_adM lw_puM rfl rfl (Nat.le_of_ble_eq_true rfl) rfl (fun r2 mm2 hv => ?_)
  refine bx_icmp_eq C 1263 1022 dL_law_1019 (by decide) rfl (fun _ => ?_) (fun h => absurd hv.1 h)
  exact kk _ _ hv.2
set_option maxRecDepth 20000 in
set_option maxHeartbeats 4000000 in
theorem lcase_30 (C : bx_C p room_1 s m #[Value.ref q0] meth c cL_law 4 RL ret E (fun q : Nat => s.heap.size ≤ q) 84 2186) (hX : va_X q0 L xs s s.heap) (hbl : q0 < s.heap.size) {x3 : Int32} (hi1 : vp_in (x3 + 1) L) (hi2 : vp_in (x3 + 2) L) (hi3 : vp_in (x3 + 3) L) (hi4 : vp_in (x3 + 4) L) {Rel : US → MS → Prop} {u : US} {mm : MS} (hv : V_X7_whispers (fun r u2 => V_X8_whispers (fun r2 mm2 => r = r2 ∧ Rel u2 mm2) mm (xs (x3 + 1).toNatClampNeg) (xs (x3 + 2).toNatClampNeg) (xs (x3 + 3).toNatClampNeg)) u (xs (x3 + 1).toNatClampNeg) (xs (x3 + 2).toNatClampNeg) (xs (x3 + 3).toNatClampNeg)) (kk : ∀ (u : US) (mm : MS), Rel u mm → bx_S p l e room_1 s m #[Value.ref q0] below meth c 4 E (fun q : Nat => s.heap.size ≤ q) (lw_Z below #[Value.ref q0] s) 84 2186 1263 [(0, .ref q0), (1, .ref (a 0)), (2, .ref (b 0)), (3, .int x3)] [] (w_U E a u ++ w_M E b mm)) : bx_S p l e room_1 s m #[Value.ref q0] below meth c 4 E (fun q : Nat => s.heap.size ≤ q) (lw_Z below #[Value.ref q0] s) 84 2186 1024 [(0, .ref q0), (1, .ref (a 0)), (2, .ref (b 0)), (3, .int x3)] [] (w_U E a u ++ w_M E b mm) := by
  have hbA : ¬ (fun q : Nat => s.heap.size ≤ q) q0 := Nat.not_le.mpr hbl
  refine bx_aload_n C 1025 dL_law_1024 rfl rfl rfl ?_
  refine bx_aload_n C 1026 dL_law_1025 rfl rfl rfl ?_
  refine bx_iload_n C 1027 dL_law_1026 rfl rfl rfl ?_
  refine bx_iconst C 1 1028 dL_law_1027 ic_1 rfl ?_
  refine bx_iadd C 1029 dL_law_1028 rfl ?_
  refine bx_sld C 1030 hX hbl hbA dL_law_1029 hi1 rfl ?_
  refine bx_aload_n C 1031 dL_law_1030 rfl rfl rfl ?_
  refine bx_iload_n C 1032 dL_law_1031 rfl rfl rfl ?_
  refine bx_iconst C 2 1033 dL_law_1032 ic_2 rfl ?_
  refine bx_iadd C 1034 dL_law_1033 rfl ?_
  refine bx_sld C 1035 hX hbl hbA dL_law_1034 hi2 rfl ?_
  refine bx_aload_n C 1036 dL_law_1035 rfl rfl rfl ?_
  refine bx_iload_n C 1037 dL_law_1036 rfl rfl rfl ?_
  refine bx_iconst C 3 1038 dL_law_1037 ic_3 rfl ?_
  refine bx_iadd C 1039 dL_law_1038 rfl ?_
  refine bx_sld C 1040 hX hbl hbA dL_law_1039 hi3 rfl ?_
  obtain ⟨fsU, haU⟩ := lw_atU (E := E) (a := a) (b := b) (u := u) (mm := mm)
  refine bx_qVi C 0 haU rfl 1043 fc_L_138 (k_X7_whispers l E a _ _ _ _ _ hv) dL_law_1040 ⟨rfl, rfl, Nat.le_of_ble_eq_true rfl, Nat.le_of_ble_eq_true rfl⟩ [0, 1, 2, 3, 4, 5, 6, 7, 8, 9, 10, 11, 12, 13, 14, 15, 16, 17, 18, 19, 20, 21, 22, 23, 24, 25, 26, 27, 28, 29, 30, 31, 32, 33, 34, 35, 36, 37, 38, 39, 40, 41, 42, 43, 44, 45, 46, 47, 48, 49, 50, 51, 52, 53, 54, 55, 56, 57, 58, 59, 60, 61, 62, 63, 64, 65, 66, 67, 68, 69, 70, 71, 72, 73] (fun v => w_U E a v ++ w_M E b mm) lw_psU lw_ndU lw_adU lw_puU rfl rfl (Nat.le_of_ble_eq_true rfl) rfl (fun r1 u2 hv => ?_)
  refine bx_aload_n C 1044 dL_law_1043 rfl rfl rfl ?_
  refine bx_aload_n C 1045 dL_law_1044 rfl rfl rfl ?_
  refine bx_iload_n C 1046 dL_law_1045 rfl rfl rfl ?_
  refine bx_iconst C 1 1047 dL_law_1046 ic_1 rfl ?_
  refine bx_iadd C 1048 dL_law_1047 rfl ?_
  refine bx_sld C 1049 hX hbl hbA dL_law_1048 hi1 rfl ?_
  refine bx_aload_n C 1050 dL_law_1049 rfl rfl rfl ?_
  refine bx_iload_n C 1051 dL_law_1050 rfl rfl rfl ?_
  refine bx_iconst C 2 1052 dL_law_1051 ic_2 rfl ?_
  refine bx_iadd C 1053 dL_law_1052 rfl ?_
  refine bx_sld C 1054 hX hbl hbA dL_law_1053 hi2 rfl ?_
  refine bx_aload_n C 1055 dL_law_1054 rfl rfl rfl ?_
  refine bx_iload_n C 1056 dL_law_1055 rfl rfl rfl ?_
  refine bx_iconst C 3 1057 dL_law_1056 ic_3 rfl ?_
  refine bx_iadd C 1058 dL_law_1057 rfl ?_
  refine bx_sld C 1059 hX hbl hbA dL_law_1058 hi3 rfl ?_
  obtain ⟨fsM, haM⟩ := lw_atM (E := E) (a := a) (b := b) (u := u2) (mm := mm)
  refine bx_qVi C 74 haM rfl 1062 fc_L_141 (k_X8_whispers l E b _ _ _ _ _ hv) dL_law_1059 ⟨rfl, rfl, Nat.le_of_ble_eq_true rfl, Nat.le_of_ble_eq_true rfl⟩ [74, 75, 76, 77, 78, 79, 80, 81, 82, 83] (fun v => w_U E a u2 ++ w_M E b v) lw_psM lw_ndM lw_adM lw_puM rfl rfl (Nat.le_of_ble_eq_true rfl) rfl (fun r2 mm2 hv => ?_)
  refine bx_icmp_eq C 1263 1065 dL_law_1062 (by decide) rfl (fun _ => ?_) (fun h => absurd hv.1 h)
  exact kk _ _ hv.2
set_option maxRecDepth 20000 in
set_option maxHeartbeats 4000000 in
theorem lcase_31 (C : bx_C p room_1 s m #[Value.ref q0] meth c cL_law 4 RL ret E (fun q : Nat => s.heap.size ≤ q) 84 2186) (hX : va_X q0 L xs s s.heap) (hbl : q0 < s.heap.size) {x3 : Int32} (hi1 : vp_in (x3 + 1) L) (hi2 : vp_in (x3 + 2) L) (hi3 : vp_in (x3 + 3) L) (hi4 : vp_in (x3 + 4) L) {Rel : US → MS → Prop} {u : US} {mm : MS} (hv : V_X7_wet (fun r u2 => V_X8_wet (fun r2 mm2 => r = r2 ∧ Rel u2 mm2) mm (xs (x3 + 1).toNatClampNeg) (xs (x3 + 2).toNatClampNeg)) u (xs (x3 + 1).toNatClampNeg) (xs (x3 + 2).toNatClampNeg)) (kk : ∀ (u : US) (mm : MS), Rel u mm → bx_S p l e room_1 s m #[Value.ref q0] below meth c 4 E (fun q : Nat => s.heap.size ≤ q) (lw_Z below #[Value.ref q0] s) 84 2186 1263 [(0, .ref q0), (1, .ref (a 0)), (2, .ref (b 0)), (3, .int x3)] [] (w_U E a u ++ w_M E b mm)) : bx_S p l e room_1 s m #[Value.ref q0] below meth c 4 E (fun q : Nat => s.heap.size ≤ q) (lw_Z below #[Value.ref q0] s) 84 2186 1067 [(0, .ref q0), (1, .ref (a 0)), (2, .ref (b 0)), (3, .int x3)] [] (w_U E a u ++ w_M E b mm) := by
  have hbA : ¬ (fun q : Nat => s.heap.size ≤ q) q0 := Nat.not_le.mpr hbl
  refine bx_aload_n C 1068 dL_law_1067 rfl rfl rfl ?_
  refine bx_aload_n C 1069 dL_law_1068 rfl rfl rfl ?_
  refine bx_iload_n C 1070 dL_law_1069 rfl rfl rfl ?_
  refine bx_iconst C 1 1071 dL_law_1070 ic_1 rfl ?_
  refine bx_iadd C 1072 dL_law_1071 rfl ?_
  refine bx_sld C 1073 hX hbl hbA dL_law_1072 hi1 rfl ?_
  refine bx_aload_n C 1074 dL_law_1073 rfl rfl rfl ?_
  refine bx_iload_n C 1075 dL_law_1074 rfl rfl rfl ?_
  refine bx_iconst C 2 1076 dL_law_1075 ic_2 rfl ?_
  refine bx_iadd C 1077 dL_law_1076 rfl ?_
  refine bx_sld C 1078 hX hbl hbA dL_law_1077 hi2 rfl ?_
  obtain ⟨fsU, haU⟩ := lw_atU (E := E) (a := a) (b := b) (u := u) (mm := mm)
  refine bx_qVi C 0 haU rfl 1081 fc_L_142 (k_X7_wet l E a _ _ _ _ hv) dL_law_1078 ⟨rfl, rfl, Nat.le_of_ble_eq_true rfl, Nat.le_of_ble_eq_true rfl⟩ [0, 1, 2, 3, 4, 5, 6, 7, 8, 9, 10, 11, 12, 13, 14, 15, 16, 17, 18, 19, 20, 21, 22, 23, 24, 25, 26, 27, 28, 29, 30, 31, 32, 33, 34, 35, 36, 37, 38, 39, 40, 41, 42, 43, 44, 45, 46, 47, 48, 49, 50, 51, 52, 53, 54, 55, 56, 57, 58, 59, 60, 61, 62, 63, 64, 65, 66, 67, 68, 69, 70, 71, 72, 73] (fun v => w_U E a v ++ w_M E b mm) lw_psU lw_ndU lw_adU lw_puU rfl rfl (Nat.le_of_ble_eq_true rfl) rfl (fun r1 u2 hv => ?_)
  refine bx_aload_n C 1082 dL_law_1081 rfl rfl rfl ?_
  refine bx_aload_n C 1083 dL_law_1082 rfl rfl rfl ?_
  refine bx_iload_n C 1084 dL_law_1083 rfl rfl rfl ?_
  refine bx_iconst C 1 1085 dL_law_1084 ic_1 rfl ?_
  refine bx_iadd C 1086 dL_law_1085 rfl ?_
  refine bx_sld C 1087 hX hbl hbA dL_law_1086 hi1 rfl ?_
  refine bx_aload_n C 1088 dL_law_1087 rfl rfl rfl ?_
  refine bx_iload_n C 1089 dL_law_1088 rfl rfl rfl ?_
  refine bx_iconst C 2 1090 dL_law_1089 ic_2 rfl ?_
  refine bx_iadd C 1091 dL_law_1090 rfl ?_
  refine bx_sld C 1092 hX hbl hbA dL_law_1091 hi2 rfl ?_
  obtain ⟨fsM, haM⟩ := lw_atM (E := E) (a := a) (b := b) (u := u2) (mm := mm)
  refine bx_qVi C 74 haM rfl 1095 fc_L_145 (k_X8_wet l E b _ _ _ _ hv) dL_law_1092 ⟨rfl, rfl, Nat.le_of_ble_eq_true rfl, Nat.le_of_ble_eq_true rfl⟩ [74, 75, 76, 77, 78, 79, 80, 81, 82, 83] (fun v => w_U E a u2 ++ w_M E b v) lw_psM lw_ndM lw_adM lw_puM rfl rfl (Nat.le_of_ble_eq_true rfl) rfl (fun r2 mm2 hv => ?_)
  refine bx_icmp_eq C 1263 1098 dL_law_1095 (by decide) rfl (fun _ => ?_) (fun h => absurd hv.1 h)
  exact kk _ _ hv.2
set_option maxRecDepth 20000 in
set_option maxHeartbeats 4000000 in
theorem lcase_32 (C : bx_C p room_1 s m #[Value.ref q0] meth c cL_law 4 RL ret E (fun q : Nat => s.heap.size ≤ q) 84 2186) (hX : va_X q0 L xs s s.heap) (hbl : q0 < s.heap.size) {x3 : Int32} (hi1 : vp_in (x3 + 1) L) (hi2 : vp_in (x3 + 2) L) (hi3 : vp_in (x3 + 3) L) (hi4 : vp_in (x3 + 4) L) {Rel : US → MS → Prop} {u : US} {mm : MS} (hv : V_X7_evenings (fun r u2 => V_X8_evenings (fun r2 mm2 => r = r2 ∧ Rel u2 mm2) mm (xs (x3 + 1).toNatClampNeg) (xs (x3 + 2).toNatClampNeg)) u (xs (x3 + 1).toNatClampNeg) (xs (x3 + 2).toNatClampNeg)) (kk : ∀ (u : US) (mm : MS), Rel u mm → bx_S p l e room_1 s m #[Value.ref q0] below meth c 4 E (fun q : Nat => s.heap.size ≤ q) (lw_Z below #[Value.ref q0] s) 84 2186 1263 [(0, .ref q0), (1, .ref (a 0)), (2, .ref (b 0)), (3, .int x3)] [] (w_U E a u ++ w_M E b mm)) : bx_S p l e room_1 s m #[Value.ref q0] below meth c 4 E (fun q : Nat => s.heap.size ≤ q) (lw_Z below #[Value.ref q0] s) 84 2186 1100 [(0, .ref q0), (1, .ref (a 0)), (2, .ref (b 0)), (3, .int x3)] [] (w_U E a u ++ w_M E b mm) := by
  have hbA : ¬ (fun q : Nat => s.heap.size ≤ q) q0 := Nat.not_le.mpr hbl
  refine bx_aload_n C 1101 dL_law_1100 rfl rfl rfl ?_
  refine bx_aload_n C 1102 dL_law_1101 rfl rfl rfl ?_
  refine bx_iload_n C 1103 dL_law_1102 rfl rfl rfl ?_
  refine bx_iconst C 1 1104 dL_law_1103 ic_1 rfl ?_
  refine bx_iadd C 1105 dL_law_1104 rfl ?_
  refine bx_sld C 1106 hX hbl hbA dL_law_1105 hi1 rfl ?_
  refine bx_aload_n C 1107 dL_law_1106 rfl rfl rfl ?_
  refine bx_iload_n C 1108 dL_law_1107 rfl rfl rfl ?_
  refine bx_iconst C 2 1109 dL_law_1108 ic_2 rfl ?_
  refine bx_iadd C 1110 dL_law_1109 rfl ?_
  refine bx_sld C 1111 hX hbl hbA dL_law_1110 hi2 rfl ?_
  obtain ⟨fsU, haU⟩ := lw_atU (E := E) (a := a) (b := b) (u := u) (mm := mm)
  refine bx_qVi C 0 haU rfl 1114 fc_L_146 (k_X7_evenings l E a _ _ _ _ hv) dL_law_1111 ⟨rfl, rfl, Nat.le_of_ble_eq_true rfl, Nat.le_of_ble_eq_true rfl⟩ [0, 1, 2, 3, 4, 5, 6, 7, 8, 9, 10, 11, 12, 13, 14, 15, 16, 17, 18, 19, 20, 21, 22, 23, 24, 25, 26, 27, 28, 29, 30, 31, 32, 33, 34, 35, 36, 37, 38, 39, 40, 41, 42, 43, 44, 45, 46, 47, 48, 49, 50, 51, 52, 53, 54, 55, 56, 57, 58, 59, 60, 61, 62, 63, 64, 65, 66, 67, 68, 69, 70, 71, 72, 73] (fun v => w_U E a v ++ w_M E b mm) lw_psU lw_ndU lw_adU lw_puU rfl rfl (Nat.le_of_ble_eq_true rfl) rfl (fun r1 u2 hv => ?_)
  refine bx_aload_n C 1115 dL_law_1114 rfl rfl rfl ?_
  refine bx_aload_n C 1116 dL_law_1115 rfl rfl rfl ?_
  refine bx_iload_n C 1117 dL_law_1116 rfl rfl rfl ?_
  refine bx_iconst C 1 1118 dL_law_1117 ic_1 rfl ?_
  refine bx_iadd C 1119 dL_law_1118 rfl ?_
  refine bx_sld C 1120 hX hbl hbA dL_law_1119 hi1 rfl ?_
  refine bx_aload_n C 1121 dL_law_1120 rfl rfl rfl ?_
  refine bx_iload_n C 1122 dL_law_1121 rfl rfl rfl ?_
  refine bx_iconst C 2 1123 dL_law_1122 ic_2 rfl ?_
  refine bx_iadd C 1124 dL_law_1123 rfl ?_
  refine bx_sld C 1125 hX hbl hbA dL_law_1124 hi2 rfl ?_
  obtain ⟨fsM, haM⟩ := lw_atM (E := E) (a := a) (b := b) (u := u2) (mm := mm)
  refine bx_qVi C 74 haM rfl 1128 fc_L_149 (k_X8_evenings l E b _ _ _ _ hv) dL_law_1125 ⟨rfl, rfl, Nat.le_of_ble_eq_true rfl, Nat.le_of_ble_eq_true rfl⟩ [74, 75, 76, 77, 78, 79, 80, 81, 82, 83] (fun v => w_U E a u2 ++ w_M E b v) lw_psM lw_ndM lw_adM lw_puM rfl rfl (Nat.le_of_ble_eq_true rfl) rfl (fun r2 mm2 hv => ?_)
  refine bx_icmp_eq C 1263 1131 dL_law_1128 (by decide) rfl (fun _ => ?_) (fun h => absurd hv.1 h)
  exact kk _ _ hv.2
set_option maxRecDepth 20000 in
set_option maxHeartbeats 4000000 in
theorem lcase_33 (C : bx_C p room_1 s m #[Value.ref q0] meth c cL_law 4 RL ret E (fun q : Nat => s.heap.size ≤ q) 84 2186) (hX : va_X q0 L xs s s.heap) (hbl : q0 < s.heap.size) {x3 : Int32} (hi1 : vp_in (x3 + 1) L) (hi2 : vp_in (x3 + 2) L) (hi3 : vp_in (x3 + 3) L) (hi4 : vp_in (x3 + 4) L) {Rel : US → MS → Prop} {u : US} {mm : MS} (hv : V_X7_part (fun r u2 => V_X8_part (fun r2 mm2 => r = r2 ∧ Rel u2 mm2) mm (xs (x3 + 1).toNatClampNeg)) u (xs (x3 + 1).toNatClampNeg)) (kk : ∀ (u : US) (mm : MS), Rel u mm → bx_S p l e room_1 s m #[Value.ref q0] below meth c 4 E (fun q : Nat => s.heap.size ≤ q) (lw_Z below #[Value.ref q0] s) 84 2186 1263 [(0, .ref q0), (1, .ref (a 0)), (2, .ref (b 0)), (3, .int x3)] [] (w_U E a u ++ w_M E b mm)) : bx_S p l e room_1 s m #[Value.ref q0] below meth c 4 E (fun q : Nat => s.heap.size ≤ q) (lw_Z below #[Value.ref q0] s) 84 2186 1133 [(0, .ref q0), (1, .ref (a 0)), (2, .ref (b 0)), (3, .int x3)] [] (w_U E a u ++ w_M E b mm) := by
  have hbA : ¬ (fun q : Nat => s.heap.size ≤ q) q0 := Nat.not_le.mpr hbl
  refine bx_aload_n C 1134 dL_law_1133 rfl rfl rfl ?_
  refine bx_aload_n C 1135 dL_law_1134 rfl rfl rfl ?_
  refine bx_iload_n C 1136 dL_law_1135 rfl rfl rfl ?_
  refine bx_iconst C 1 1137 dL_law_1136 ic_1 rfl ?_
  refine bx_iadd C 1138 dL_law_1137 rfl ?_
  refine bx_sld C 1139 hX hbl hbA dL_law_1138 hi1 rfl ?_
  obtain ⟨fsU, haU⟩ := lw_atU (E := E) (a := a) (b := b) (u := u) (mm := mm)
  refine bx_qVl C 0 haU rfl 1142 fc_L_150 (k_X7_part l E a _ _ _ hv) dL_law_1139 ⟨rfl, rfl, Nat.le_of_ble_eq_true rfl, Nat.le_of_ble_eq_true rfl⟩ [0, 1, 2, 3, 4, 5, 6, 7, 8, 9, 10, 11, 12, 13, 14, 15, 16, 17, 18, 19, 20, 21, 22, 23, 24, 25, 26, 27, 28, 29, 30, 31, 32, 33, 34, 35, 36, 37, 38, 39, 40, 41, 42, 43, 44, 45, 46, 47, 48, 49, 50, 51, 52, 53, 54, 55, 56, 57, 58, 59, 60, 61, 62, 63, 64, 65, 66, 67, 68, 69, 70, 71, 72, 73] (fun v => w_U E a v ++ w_M E b mm) lw_psU lw_ndU lw_adU lw_puU rfl rfl (Nat.le_of_ble_eq_true rfl) rfl (fun r1 u2 hv => ?_)
  refine bx_aload_n C 1143 dL_law_1142 rfl rfl rfl ?_
  refine bx_aload_n C 1144 dL_law_1143 rfl rfl rfl ?_
  refine bx_iload_n C 1145 dL_law_1144 rfl rfl rfl ?_
  refine bx_iconst C 1 1146 dL_law_1145 ic_1 rfl ?_
  refine bx_iadd C 1147 dL_law_1146 rfl ?_
  refine bx_sld C 1148 hX hbl hbA dL_law_1147 hi1 rfl ?_
  obtain ⟨fsM, haM⟩ := lw_atM (E := E) (a := a) (b := b) (u := u2) (mm := mm)
  refine bx_qVl C 74 haM rfl 1151 fc_L_154 (k_X8_part l E b _ _ _ hv) dL_law_1148 ⟨rfl, rfl, Nat.le_of_ble_eq_true rfl, Nat.le_of_ble_eq_true rfl⟩ [74, 75, 76, 77, 78, 79, 80, 81, 82, 83] (fun v => w_U E a u2 ++ w_M E b v) lw_psM lw_ndM lw_adM lw_puM rfl rfl (Nat.le_of_ble_eq_true rfl) rfl (fun r2 mm2 hv => ?_)
  refine bx_lcmp C 1152 dL_law_1151 rfl ?_
  refine bx_if_eq C 1263 1155 dL_law_1152 (by decide) rfl (fun _ => ?_) (fun h => absurd (by rw [hv.1]; exact lw_cmp _) h)
  exact kk _ _ hv.2
set_option maxRecDepth 20000 in
set_option maxHeartbeats 4000000 in
theorem lcase_34 (C : bx_C p room_1 s m #[Value.ref q0] meth c cL_law 4 RL ret E (fun q : Nat => s.heap.size ≤ q) 84 2186) (hX : va_X q0 L xs s s.heap) (hbl : q0 < s.heap.size) {x3 : Int32} (hi1 : vp_in (x3 + 1) L) (hi2 : vp_in (x3 + 2) L) (hi3 : vp_in (x3 + 3) L) (hi4 : vp_in (x3 + 4) L) {Rel : US → MS → Prop} {u : US} {mm : MS} (hv : V_X7_image (fun r u2 => V_X8_image (fun r2 mm2 => r = r2 ∧ Rel u2 mm2) mm (xs (x3 + 1).toNatClampNeg)) u (xs (x3 + 1).toNatClampNeg)) (kk : ∀ (u : US) (mm : MS), Rel u mm → bx_S p l e room_1 s m #[Value.ref q0] below meth c 4 E (fun q : Nat => s.heap.size ≤ q) (lw_Z below #[Value.ref q0] s) 84 2186 1263 [(0, .ref q0), (1, .ref (a 0)), (2, .ref (b 0)), (3, .int x3)] [] (w_U E a u ++ w_M E b mm)) : bx_S p l e room_1 s m #[Value.ref q0] below meth c 4 E (fun q : Nat => s.heap.size ≤ q) (lw_Z below #[Value.ref q0] s) 84 2186 1157 [(0, .ref q0), (1, .ref (a 0)), (2, .ref (b 0)), (3, .int x3)] [] (w_U E a u ++ w_M E b mm) := by
  have hbA : ¬ (fun q : Nat => s.heap.size ≤ q) q0 := Nat.not_le.mpr hbl
  refine bx_aload_n C 1158 dL_law_1157 rfl rfl rfl ?_
  refine bx_aload_n C 1159 dL_law_1158 rfl rfl rfl ?_
  refine bx_iload_n C 1160 dL_law_1159 rfl rfl rfl ?_
  refine bx_iconst C 1 1161 dL_law_1160 ic_1 rfl ?_
  refine bx_iadd C 1162 dL_law_1161 rfl ?_
  refine bx_sld C 1163 hX hbl hbA dL_law_1162 hi1 rfl ?_
  obtain ⟨fsU, haU⟩ := lw_atU (E := E) (a := a) (b := b) (u := u) (mm := mm)
  refine bx_qVi C 0 haU rfl 1166 fc_L_155 (k_X7_image l E a _ _ _ hv) dL_law_1163 ⟨rfl, rfl, Nat.le_of_ble_eq_true rfl, Nat.le_of_ble_eq_true rfl⟩ [0, 1, 2, 3, 4, 5, 6, 7, 8, 9, 10, 11, 12, 13, 14, 15, 16, 17, 18, 19, 20, 21, 22, 23, 24, 25, 26, 27, 28, 29, 30, 31, 32, 33, 34, 35, 36, 37, 38, 39, 40, 41, 42, 43, 44, 45, 46, 47, 48, 49, 50, 51, 52, 53, 54, 55, 56, 57, 58, 59, 60, 61, 62, 63, 64, 65, 66, 67, 68, 69, 70, 71, 72, 73] (fun v => w_U E a v ++ w_M E b mm) lw_psU lw_ndU lw_adU lw_puU rfl rfl (Nat.le_of_ble_eq_true rfl) rfl (fun r1 u2 hv => ?_)
  refine bx_aload_n C 1167 dL_law_1166 rfl rfl rfl ?_
  refine bx_aload_n C 1168 dL_law_1167 rfl rfl rfl ?_
  refine bx_iload_n C 1169 dL_law_1168 rfl rfl rfl ?_
  refine bx_iconst C 1 1170 dL_law_1169 ic_1 rfl ?_
  refine bx_iadd C 1171 dL_law_1170 rfl ?_
  refine bx_sld C 1172 hX hbl hbA dL_law_1171 hi1 rfl ?_
  obtain ⟨fsM, haM⟩ := lw_atM (E := E) (a := a) (b := b) (u := u2) (mm := mm)
  refine bx_qVi C 74 haM rfl 1175 fc_L_158 (k_X8_image l E b _ _ _ hv) dL_law_1172 ⟨rfl, rfl, Nat.le_of_ble_eq_true rfl, Nat.le_of_ble_eq_true rfl⟩ [74, 75, 76, 77, 78, 79, 80, 81, 82, 83] (fun v => w_U E a u2 ++ w_M E b v) lw_psM lw_ndM lw_adM lw_puM rfl rfl (Nat.le_of_ble_eq_true rfl) rfl (fun r2 mm2 hv => ?_)
  refine bx_icmp_eq C 1263 1178 dL_law_1175 (by decide) rfl (fun _ => ?_) (fun h => absurd hv.1 h)
  exact kk _ _ hv.2
set_option maxRecDepth 20000 in
set_option maxHeartbeats 4000000 in
theorem lcase_35 (C : bx_C p room_1 s m #[Value.ref q0] meth c cL_law 4 RL ret E (fun q : Nat => s.heap.size ≤ q) 84 2186) (hX : va_X q0 L xs s s.heap) (hbl : q0 < s.heap.size) {x3 : Int32} (hi1 : vp_in (x3 + 1) L) (hi2 : vp_in (x3 + 2) L) (hi3 : vp_in (x3 + 3) L) (hi4 : vp_in (x3 + 4) L) {Rel : US → MS → Prop} {u : US} {mm : MS} (hv : V_X7_from (fun r u2 => V_X8_from (fun r2 mm2 => r = r2 ∧ Rel u2 mm2) mm (xs (x3 + 1).toNatClampNeg)) u (xs (x3 + 1).toNatClampNeg)) (kk : ∀ (u : US) (mm : MS), Rel u mm → bx_S p l e room_1 s m #[Value.ref q0] below meth c 4 E (fun q : Nat => s.heap.size ≤ q) (lw_Z below #[Value.ref q0] s) 84 2186 1263 [(0, .ref q0), (1, .ref (a 0)), (2, .ref (b 0)), (3, .int x3)] [] (w_U E a u ++ w_M E b mm)) : bx_S p l e room_1 s m #[Value.ref q0] below meth c 4 E (fun q : Nat => s.heap.size ≤ q) (lw_Z below #[Value.ref q0] s) 84 2186 1180 [(0, .ref q0), (1, .ref (a 0)), (2, .ref (b 0)), (3, .int x3)] [] (w_U E a u ++ w_M E b mm) := by
  have hbA : ¬ (fun q : Nat => s.heap.size ≤ q) q0 := Nat.not_le.mpr hbl
  refine bx_aload_n C 1181 dL_law_1180 rfl rfl rfl ?_
  refine bx_aload_n C 1182 dL_law_1181 rfl rfl rfl ?_
  refine bx_iload_n C 1183 dL_law_1182 rfl rfl rfl ?_
  refine bx_iconst C 1 1184 dL_law_1183 ic_1 rfl ?_
  refine bx_iadd C 1185 dL_law_1184 rfl ?_
  refine bx_sld C 1186 hX hbl hbA dL_law_1185 hi1 rfl ?_
  obtain ⟨fsU, haU⟩ := lw_atU (E := E) (a := a) (b := b) (u := u) (mm := mm)
  refine bx_qVi C 0 haU rfl 1189 fc_L_159 (k_X7_from l E a _ _ _ hv) dL_law_1186 ⟨rfl, rfl, Nat.le_of_ble_eq_true rfl, Nat.le_of_ble_eq_true rfl⟩ [0, 1, 2, 3, 4, 5, 6, 7, 8, 9, 10, 11, 12, 13, 14, 15, 16, 17, 18, 19, 20, 21, 22, 23, 24, 25, 26, 27, 28, 29, 30, 31, 32, 33, 34, 35, 36, 37, 38, 39, 40, 41, 42, 43, 44, 45, 46, 47, 48, 49, 50, 51, 52, 53, 54, 55, 56, 57, 58, 59, 60, 61, 62, 63, 64, 65, 66, 67, 68, 69, 70, 71, 72, 73] (fun v => w_U E a v ++ w_M E b mm) lw_psU lw_ndU lw_adU lw_puU rfl rfl (Nat.le_of_ble_eq_true rfl) rfl (fun r1 u2 hv => ?_)
  refine bx_aload_n C 1190 dL_law_1189 rfl rfl rfl ?_
  refine bx_aload_n C 1191 dL_law_1190 rfl rfl rfl ?_
  refine bx_iload_n C 1192 dL_law_1191 rfl rfl rfl ?_
  refine bx_iconst C 1 1193 dL_law_1192 ic_1 rfl ?_
  refine bx_iadd C 1194 dL_law_1193 rfl ?_
  refine bx_sld C 1195 hX hbl hbA dL_law_1194 hi1 rfl ?_
  obtain ⟨fsM, haM⟩ := lw_atM (E := E) (a := a) (b := b) (u := u2) (mm := mm)
  refine bx_qVi C 74 haM rfl 1198 fc_L_162 (k_X8_from l E b _ _ _ hv) dL_law_1195 ⟨rfl, rfl, Nat.le_of_ble_eq_true rfl, Nat.le_of_ble_eq_true rfl⟩ [74, 75, 76, 77, 78, 79, 80, 81, 82, 83] (fun v => w_U E a u2 ++ w_M E b v) lw_psM lw_ndM lw_adM lw_puM rfl rfl (Nat.le_of_ble_eq_true rfl) rfl (fun r2 mm2 hv => ?_)
  refine bx_icmp_eq C 1263 1201 dL_law_1198 (by decide) rfl (fun _ => ?_) (fun h => absurd hv.1 h)
  exact kk _ _ hv.2
set_option maxRecDepth 20000 in
set_option maxHeartbeats 4000000 in
theorem lcase_36 (C : bx_C p room_1 s m #[Value.ref q0] meth c cL_law 4 RL ret E (fun q : Nat => s.heap.size ≤ q) 84 2186) (hX : va_X q0 L xs s s.heap) (hbl : q0 < s.heap.size) {x3 : Int32} (hi1 : vp_in (x3 + 1) L) (hi2 : vp_in (x3 + 2) L) (hi3 : vp_in (x3 + 3) L) (hi4 : vp_in (x3 + 4) L) {Rel : US → MS → Prop} {u : US} {mm : MS} (hv : V_X7_status (fun r u2 => V_X8_status (fun r2 mm2 => r = r2 ∧ Rel u2 mm2) mm (xs (x3 + 1).toNatClampNeg)) u (xs (x3 + 1).toNatClampNeg)) (kk : ∀ (u : US) (mm : MS), Rel u mm → bx_S p l e room_1 s m #[Value.ref q0] below meth c 4 E (fun q : Nat => s.heap.size ≤ q) (lw_Z below #[Value.ref q0] s) 84 2186 1263 [(0, .ref q0), (1, .ref (a 0)), (2, .ref (b 0)), (3, .int x3)] [] (w_U E a u ++ w_M E b mm)) : bx_S p l e room_1 s m #[Value.ref q0] below meth c 4 E (fun q : Nat => s.heap.size ≤ q) (lw_Z below #[Value.ref q0] s) 84 2186 1203 [(0, .ref q0), (1, .ref (a 0)), (2, .ref (b 0)), (3, .int x3)] [] (w_U E a u ++ w_M E b mm) := by
  have hbA : ¬ (fun q : Nat => s.heap.size ≤ q) q0 := Nat.not_le.mpr hbl
  refine bx_aload_n C 1204 dL_law_1203 rfl rfl rfl ?_
  refine bx_aload_n C 1205 dL_law_1204 rfl rfl rfl ?_
  refine bx_iload_n C 1206 dL_law_1205 rfl rfl rfl ?_
  refine bx_iconst C 1 1207 dL_law_1206 ic_1 rfl ?_
  refine bx_iadd C 1208 dL_law_1207 rfl ?_
  refine bx_sld C 1209 hX hbl hbA dL_law_1208 hi1 rfl ?_
  obtain ⟨fsU, haU⟩ := lw_atU (E := E) (a := a) (b := b) (u := u) (mm := mm)
  refine bx_qVi C 0 haU rfl 1212 fc_L_163 (k_X7_status l E a _ _ _ hv) dL_law_1209 ⟨rfl, rfl, Nat.le_of_ble_eq_true rfl, Nat.le_of_ble_eq_true rfl⟩ [0, 1, 2, 3, 4, 5, 6, 7, 8, 9, 10, 11, 12, 13, 14, 15, 16, 17, 18, 19, 20, 21, 22, 23, 24, 25, 26, 27, 28, 29, 30, 31, 32, 33, 34, 35, 36, 37, 38, 39, 40, 41, 42, 43, 44, 45, 46, 47, 48, 49, 50, 51, 52, 53, 54, 55, 56, 57, 58, 59, 60, 61, 62, 63, 64, 65, 66, 67, 68, 69, 70, 71, 72, 73] (fun v => w_U E a v ++ w_M E b mm) lw_psU lw_ndU lw_adU lw_puU rfl rfl (Nat.le_of_ble_eq_true rfl) rfl (fun r1 u2 hv => ?_)
  refine bx_aload_n C 1213 dL_law_1212 rfl rfl rfl ?_
  refine bx_aload_n C 1214 dL_law_1213 rfl rfl rfl ?_
  refine bx_iload_n C 1215 dL_law_1214 rfl rfl rfl ?_
  refine bx_iconst C 1 1216 dL_law_1215 ic_1 rfl ?_
  refine bx_iadd C 1217 dL_law_1216 rfl ?_
  refine bx_sld C 1218 hX hbl hbA dL_law_1217 hi1 rfl ?_
  obtain ⟨fsM, haM⟩ := lw_atM (E := E) (a := a) (b := b) (u := u2) (mm := mm)
  refine bx_qVi C 74 haM rfl 1221 fc_L_166 (k_X8_status l E b _ _ _ hv) dL_law_1218 ⟨rfl, rfl, Nat.le_of_ble_eq_true rfl, Nat.le_of_ble_eq_true rfl⟩ [74, 75, 76, 77, 78, 79, 80, 81, 82, 83] (fun v => w_U E a u2 ++ w_M E b v) lw_psM lw_ndM lw_adM lw_puM rfl rfl (Nat.le_of_ble_eq_true rfl) rfl (fun r2 mm2 hv => ?_)
  refine bx_icmp_eq C 1263 1224 dL_law_1221 (by decide) rfl (fun _ => ?_) (fun h => absurd hv.1 h)
  exact kk _ _ hv.2
set_option maxRecDepth 20000 in
set_option maxHeartbeats 4000000 in
theorem lcase_37 (C : bx_C p room_1 s m #[Value.ref q0] meth c cL_law 4 RL ret E (fun q : Nat => s.heap.size ≤ q) 84 2186) (hX : va_X q0 L xs s s.heap) (hbl : q0 < s.heap.size) {x3 : Int32} (hi1 : vp_in (x3 + 1) L) (hi2 : vp_in (x3 + 2) L) (hi3 : vp_in (x3 + 3) L) (hi4 : vp_in (x3 + 4) L) {Rel : US → MS → Prop} {u : US} {mm : MS} (hv : V_X7_count (fun r u2 => V_X8_count (fun r2 mm2 => r = r2 ∧ Rel u2 mm2) mm (xs (x3 + 1).toNatClampNeg)) u (xs (x3 + 1).toNatClampNeg)) (kk : ∀ (u : US) (mm : MS), Rel u mm → bx_S p l e room_1 s m #[Value.ref q0] below meth c 4 E (fun q : Nat => s.heap.size ≤ q) (lw_Z below #[Value.ref q0] s) 84 2186 1263 [(0, .ref q0), (1, .ref (a 0)), (2, .ref (b 0)), (3, .int x3)] [] (w_U E a u ++ w_M E b mm)) : bx_S p l e room_1 s m #[Value.ref q0] below meth c 4 E (fun q : Nat => s.heap.size ≤ q) (lw_Z below #[Value.ref q0] s) 84 2186 1226 [(0, .ref q0), (1, .ref (a 0)), (2, .ref (b 0)), (3, .int x3)] [] (w_U E a u ++ w_M E b mm) := by
  have hbA : ¬ (fun q : Nat => s.heap.size ≤ q) q0 := Nat.not_le.mpr hbl
  refine bx_aload_n C 1227 dL_law_1226 rfl rfl rfl ?_
  refine bx_aload_n C 1228 dL_law_1227 rfl rfl rfl ?_
  refine bx_iload_n C 1229 dL_law_1228 rfl rfl rfl ?_
  refine bx_iconst C 1 1230 dL_law_1229 ic_1 rfl ?_
  refine bx_iadd C 1231 dL_law_1230 rfl ?_
  refine bx_sld C 1232 hX hbl hbA dL_law_1231 hi1 rfl ?_
  obtain ⟨fsU, haU⟩ := lw_atU (E := E) (a := a) (b := b) (u := u) (mm := mm)
  refine bx_qVi C 0 haU rfl 1235 fc_L_167 (k_X7_count l E a _ _ _ hv) dL_law_1232 ⟨rfl, rfl, Nat.le_of_ble_eq_true rfl, Nat.le_of_ble_eq_true rfl⟩ [0, 1, 2, 3, 4, 5, 6, 7, 8, 9, 10, 11, 12, 13, 14, 15, 16, 17, 18, 19, 20, 21, 22, 23, 24, 25, 26, 27, 28, 29, 30, 31, 32, 33, 34, 35, 36, 37, 38, 39, 40, 41, 42, 43, 44, 45, 46, 47, 48, 49, 50, 51, 52, 53, 54, 55, 56, 57, 58, 59, 60, 61, 62, 63, 64, 65, 66, 67, 68, 69, 70, 71, 72, 73] (fun v => w_U E a v ++ w_M E b mm) lw_psU lw_ndU lw_adU lw_puU rfl rfl (Nat.le_of_ble_eq_true rfl) rfl (fun r1 u2 hv => ?_)
  refine bx_aload_n C 1236 dL_law_1235 rfl rfl rfl ?_
  refine bx_aload_n C 1237 dL_law_1236 rfl rfl rfl ?_
  refine bx_iload_n C 1238 dL_law_1237 rfl rfl rfl ?_
  refine bx_iconst C 1 1239 dL_law_1238 ic_1 rfl ?_
  refine bx_iadd C 1240 dL_law_1239 rfl ?_
  refine bx_sld C 1241 hX hbl hbA dL_law_1240 hi1 rfl ?_
  obtain ⟨fsM, haM⟩ := lw_atM (E := E) (a := a) (b := b) (u := u2) (mm := mm)
  refine bx_qVi C 74 haM rfl 1244 fc_L_170 (k_X8_count l E b _ _ _ hv) dL_law_1241 ⟨rfl, rfl, Nat.le_of_ble_eq_true rfl, Nat.le_of_ble_eq_true rfl⟩ [74, 75, 76, 77, 78, 79, 80, 81, 82, 83] (fun v => w_U E a u2 ++ w_M E b v) lw_psM lw_ndM lw_adM lw_puM rfl rfl (Nat.le_of_ble_eq_true rfl) rfl (fun r2 mm2 hv => ?_)
  refine bx_icmp_eq C 1263 1247 dL_law_1244 (by decide) rfl (fun _ => ?_) (fun h => absurd hv.1 h)
  exact kk _ _ hv.2
set_option maxRecDepth 20000 in
set_option maxHeartbeats 4000000 in
theorem lcase_38 (C : bx_C p room_1 s m #[Value.ref q0] meth c cL_law 4 RL ret E (fun q : Nat => s.heap.size ≤ q) 84 2186) (hX : va_X q0 L xs s s.heap) (hbl : q0 < s.heap.size) {x3 : Int32} (hi1 : vp_in (x3 + 1) L) (hi2 : vp_in (x3 + 2) L) (hi3 : vp_in (x3 + 3) L) (hi4 : vp_in (x3 + 4) L) {Rel : US → MS → Prop} {u : US} {mm : MS} (hv : V_X7_digest (fun r => V_X8_digest (fun r2 => r = r2 ∧ Rel u mm) mm ) u ) (kk : ∀ (u : US) (mm : MS), Rel u mm → bx_S p l e room_1 s m #[Value.ref q0] below meth c 4 E (fun q : Nat => s.heap.size ≤ q) (lw_Z below #[Value.ref q0] s) 84 2186 1263 [(0, .ref q0), (1, .ref (a 0)), (2, .ref (b 0)), (3, .int x3)] [] (w_U E a u ++ w_M E b mm)) : bx_S p l e room_1 s m #[Value.ref q0] below meth c 4 E (fun q : Nat => s.heap.size ≤ q) (lw_Z below #[Value.ref q0] s) 84 2186 1249 [(0, .ref q0), (1, .ref (a 0)), (2, .ref (b 0)), (3, .int x3)] [] (w_U E a u ++ w_M E b mm) := by
  have hbA : ¬ (fun q : Nat => s.heap.size ≤ q) q0 := Nat.not_le.mpr hbl
  refine bx_aload_n C 1250 dL_law_1249 rfl rfl rfl ?_
  obtain ⟨fsU, haU⟩ := lw_atU (E := E) (a := a) (b := b) (u := u) (mm := mm)
  refine bx_pVl C 0 haU rfl 1253 fc_L_171 (k_X7_digest l E a _ _ hv) dL_law_1250 ⟨rfl, rfl, Nat.le_of_ble_eq_true rfl, Nat.le_of_ble_eq_true rfl⟩ [0, 1, 2, 3, 4, 5, 6, 7, 8, 9, 10, 11, 12, 13, 14, 15, 16, 17, 18, 19, 20, 21, 22, 23, 24, 25, 26, 27, 28, 29, 30, 31, 32, 33, 34, 35, 36, 37, 38, 39, 40, 41, 42, 43, 44, 45, 46, 47, 48, 49, 50, 51, 52, 53, 54, 55, 56, 57, 58, 59, 60, 61, 62, 63, 64, 65, 66, 67, 68, 69, 70, 71, 72, 73] lw_psU lw_ndU rfl rfl (Nat.le_of_ble_eq_true rfl) rfl (fun r1 hv => ?_)
  refine bx_aload_n C 1254 dL_law_1253 rfl rfl rfl ?_
  obtain ⟨fsM, haM⟩ := lw_atM (E := E) (a := a) (b := b) (u := u) (mm := mm)
  refine bx_pVl C 74 haM rfl 1257 fc_L_175 (k_X8_digest l E b _ _ hv) dL_law_1254 ⟨rfl, rfl, Nat.le_of_ble_eq_true rfl, Nat.le_of_ble_eq_true rfl⟩ [74, 75, 76, 77, 78, 79, 80, 81, 82, 83] lw_psM lw_ndM rfl rfl (Nat.le_of_ble_eq_true rfl) rfl (fun r2 hv => ?_)
  refine bx_lcmp C 1258 dL_law_1257 rfl ?_
  refine bx_if_eq C 1263 1261 dL_law_1258 (by decide) rfl (fun _ => ?_) (fun h => absurd (by rw [hv.1]; exact lw_cmp _) h)
  exact kk _ _ hv.2
end LW2
