/-! ===== the model's goes; what stays true of hall and row ===== -/
theorem i32_0p (k : Int32) : 0 + k = k := by grind
theorem upd_eq {f : Nat → Int32} {k : Nat} {x : Int32} : upd f k x k = x := pk_us
theorem upd_ne {f : Nat → Int32} {k j : Nat} {x : Int32} (h : ¬ j = k) : upd f k x j = f j := pk_un h
theorem whoH_none {u : HS} (h : HI u) {c : Int32} : whoH u c = -1 ↔ ∀ j, j < HN u → ¬ hce u j = c := by
  have h7 := h.2
  unfold whoH
  rcases fnd_spec (p := fun i => decide (hce u i = c)) (HN u) 0 with ⟨h1, h2⟩ | ⟨j, h1, h2, h3, h4, h5⟩
  · refine ⟨fun _ j hj => ?_, fun _ => h1⟩
    simpa using h2 j (Nat.zero_le j) (by omega)
  · refine ⟨fun e => ?_, fun q => ?_⟩
    · rw [h4] at e
      exact absurd e (nI_ne_m1 (by omega))
    · exact absurd (by simpa using h3) (q j (by omega))
/-- what a soul makes by its way to a cell, its own knees apart -/
def makesB (u : HS) (i : Nat) (c : Int32) : Int32 := if c = -1 then 0 else fussV (hsk u i) (nI (kneesB u c (nI i))) (hmi u)
theorem m_goes {K : Int32 → (Nat → Int32) → Prop} {u : HS} {f : Nat → Int32} {i : Nat} {c : Int32} (h : RC u f) (hi : i < HN u) (k : K (makesB u i (hce u i) + makesB u i c) (rowGo f i c (makesB u i (hce u i) + makesB u i c))) : V_X8_goes K f (nI i) c := by
  have h7 := h.1.2
  have s40 : ∀ z w : Int32, z = makesB u i (hce u i) → w = makesB u i c → V_X8_goes_40 K f (nI i) c z w := by
    intro z w hz hw
    subst hz; subst hw
    unfold V_X8_goes_40 V_X8_sits
    rw [ix_cell, nI_clamp (by omega)]
    refine ⟨vp_in_nI (by omega) (by decide), m_fusses ?_⟩
    rw [upd_ne (f := f) (k := 11 + 3 * i) (j := 7) (by omega), upd_ne (f := f) (k := 11 + 3 * i) (j := 6) (by omega)]
    exact k
  have s23 : ∀ z : Int32, z = makesB u i (hce u i) → V_X8_goes_23 K f (nI i) c z := by
    intro z hz
    refine ⟨fun hc => m_makesBy h hi (s40 _ _ hz (by unfold makesB; rw [if_neg hc])), fun hc => s40 _ _ hz (by unfold makesB; rw [if_pos hc])⟩
  refine m_cellOf h hi ⟨fun hc => m_cellOf h hi (m_makesBy h hi (s23 _ (by unfold makesB; rw [if_neg hc]))), fun hc => s23 _ (by unfold makesB; rw [if_pos hc])⟩
theorem cap_eq (x : Int32) : (if x < 999999 then x else 999999) = (if x ≤ 999999 then x else 999999) := by
  by_cases h : x < 999999
  · rw [if_pos h, if_pos (Int32.le_of_lt h)]
  · rw [if_neg h]
    by_cases h2 : x ≤ 999999
    · rw [if_pos h2]
      exact Int32.le_antisymm (Int32.not_lt.mp h) h2
    · rw [if_neg h2]
theorem CF.set {n i : Nat} {ce : Nat → Int32} {c : Int32} (h : CF n ce) (hc : c = -1 ∨ (vp_in c 30 ∧ ∀ j, j < n → ¬ ce j = c)) : CF n (upd ce i c) := by
  refine ⟨fun j hj => ?_, fun a b hab hb e => ?_⟩
  · by_cases e : j = i
    · subst e; rw [upd_eq]
      exact hc.imp id (fun q => q.1)
    · rw [upd_ne e]; exact h.1 j hj
  · by_cases ea : a = i
    · subst ea
      rw [upd_eq, upd_ne (by omega)] at e
      rw [upd_eq]
      rcases hc with q | q
      · exact q
      · exact absurd e.symm (q.2 b hb)
    · rw [upd_ne ea] at e ⊢
      by_cases eb : b = i
      · subst eb
        rw [upd_eq] at e
        rcases hc with q | q
        · exact e.trans q
        · exact absurd e (q.2 a (by omega))
      · rw [upd_ne eb] at e
        exact h.2 a b hab hb e
theorem RC.go {u : HS} {f : Nat → Int32} {i : Nat} {c : Int32} (h : RC u f) (hi : i < HN u) (hc : c = -1 ∨ (vp_in c 30 ∧ ∀ j, j < HN u → ¬ hce u j = c)) (x : Int32) : RC (settleH (setCe u (nI i) c) x) (rowGo f i c x) := by
  obtain ⟨h1, h2, h3, h4, h5, h6, h8, h9⟩ := h
  have h7 := h1.2
  have hcl : (nI i).toNatClampNeg = i := nI_clamp (by omega)
  have hce' : hce (settleH (setCe u (nI i) c) x) = upd (hce u) i c := by show upd _ (nI i).toNatClampNeg c = _; rw [hcl]
  unfold rowGo
  refine ⟨h1, ?_, fun r hr => ?_, ?_, ?_, ?_, fun j hj => ?_, ?_⟩
  · rw [upd_ne (by omega), upd_ne (by omega), upd_ne (by omega)]; exact h2
  · rw [upd_ne (by omega), upd_ne (by omega), upd_ne (by omega)]; exact h3 r hr
  · rw [upd_ne (by omega), upd_ne (by omega), upd_ne (by omega)]; exact h4
  · rw [upd_eq]
    show hmi u + 1 = _
    rw [h5]
  · rw [upd_ne (by omega), upd_eq]
    show (if hfu u + x < 999999 then hfu u + x else 999999) = _
    rw [cap_eq, h6]
  · have hj : j < HN u := hj
    have q := h8 j hj
    rw [upd_ne (by omega), upd_ne (by omega), upd_ne (by omega), upd_ne (by omega), upd_ne (by omega), upd_ne (by omega), upd_ne (by omega), upd_ne (by omega), hce']
    refine ⟨q.1, q.2.1, ?_, q.2.2.2⟩
    by_cases e : j = i
    · subst e
      rw [upd_eq, upd_eq, i32_p1m]
    · rw [upd_ne e, upd_ne (by omega)]
      exact q.2.2.1
  · rw [hce']
    exact h9.set hc
