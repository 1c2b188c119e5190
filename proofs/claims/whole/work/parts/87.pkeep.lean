/-! ===== what may be undone: kept and gone back to; halls copied, emptied ===== -/
def setPa (u : HS) (p : TS) : HS := (u.1, u.2.1, u.2.2.1, u.2.2.2.1, u.2.2.2.2.1, u.2.2.2.2.2.1, u.2.2.2.2.2.2.1, u.2.2.2.2.2.2.2.1, u.2.2.2.2.2.2.2.2.1, u.2.2.2.2.2.2.2.2.2.1, u.2.2.2.2.2.2.2.2.2.2.1, p)
/-- the table of what may be undone, kA + 1 entries of which the last is the hall as it stands; the first ones were the old one's from entry d on -/
def KP (u : HS) (q : TS) (kA d : Nat) (p : TS) : Prop := p.2 = nI (kA + 1) ∧ (∀ j, j < kA * 10 → p.1 j = q.1 (j + 10 * d)) ∧ (∀ i, i < HN u → p.1 (kA * 10 + i) = hce u i) ∧ p.1 (kA * 10 + 7) = hco u ∧ p.1 (kA * 10 + 8) = hfu u ∧ p.1 (kA * 10 + 9) = hmi u
theorem l_remember {K : HS → Prop} {u : HS} (h : HI u) {q : TS} {kA d : Nat} (hk : kA < 8) (kk : ∀ p : TS, KP u q kA d p → K (setPa u p)) : ∀ (k i : Nat) (p : TS), i + k = HN u → p.2 = nI (kA + 1) → (∀ j, j < kA * 10 → p.1 j = q.1 (j + 10 * d)) → (∀ j, j < i → p.1 (kA * 10 + j) = hce u j) → V_X0_remember_26 K (k + 1) (setPa u p) (nI i)
  | 0, i, p, hi, h2, h3, h4 => by
    have h7 := h.2
    refine bt (by show hso u ≤ nI i; rw [h.1]; exact nI_le (by omega) (by omega)) ?_
    refine r_tput (c := 7) TM_pa h2 hk (by decide) (r_tput (c := 8) TM_pa h2 hk (by decide) (r_tput (c := 9) TM_pa h2 hk (by decide) ?_))
    refine kk _ ⟨h2, fun j hj => ?_, fun j hj => ?_, ?_, ?_, ?_⟩
    · show upd (upd (upd p.1 (kA * 10 + 7) _) (kA * 10 + 8) _) (kA * 10 + 9) _ j = _
      rw [upd_ne (by omega), upd_ne (by omega), upd_ne (by omega)]; exact h3 j hj
    · show upd (upd (upd p.1 (kA * 10 + 7) _) (kA * 10 + 8) _) (kA * 10 + 9) _ (kA * 10 + j) = _
      rw [upd_ne (by omega), upd_ne (by omega), upd_ne (by omega)]; exact h4 j (by omega)
    · show upd (upd (upd p.1 (kA * 10 + 7) _) (kA * 10 + 8) _) (kA * 10 + 9) _ _ = _
      rw [upd_ne (by omega), upd_ne (by omega), upd_eq]; rfl
    · show upd (upd (upd p.1 (kA * 10 + 7) _) (kA * 10 + 8) _) (kA * 10 + 9) _ _ = _
      rw [upd_ne (by omega), upd_eq]; rfl
    · show upd (upd (upd p.1 (kA * 10 + 7) _) (kA * 10 + 8) _) (kA * 10 + 9) _ _ = _
      rw [upd_eq]; rfl
  | k + 1, i, p, hi, h2, h3, h4 => by
    have h7 := h.2
    refine bf (by show ¬ hso u ≤ nI i; rw [h.1]; exact nI_ge (by omega) (by omega)) ⟨vp_in_nI (by omega) (by decide), ?_⟩
    refine r_tput (c := i) TM_pa h2 hk (by omega) ?_
    rw [nI_1, nI_clamp (by omega)]
    refine l_remember h hk kk k (i + 1) (upd p.1 (kA * 10 + i) (hce u i), p.2) (by omega) h2 (fun j hj => ?_) (fun j hj => ?_)
    · show upd p.1 _ _ j = _
      rw [upd_ne (by omega)]; exact h3 j hj
    · show upd p.1 _ _ (kA * 10 + j) = _
      by_cases e : j = i
      · subst e; rw [upd_eq]
      · rw [upd_ne (by omega)]; exact h4 j (by omega)
theorem r_remember {K : HS → Prop} {u : HS} (h : HI u) {k : Nat} (hk : (hpa u).2 = nI k) (hk8 : k ≤ 8) (kk : ∀ p : TS, KP u (hpa u) (if k = 8 then 7 else k) (if k = 8 then 1 else 0) p → K (setPa u p)) : V_X0_remember K u := by
  by_cases e : k = 8
  · subst e
    rw [if_pos rfl, if_pos rfl] at kk
    refine r_tfull1 TM_pa hk (z1 (r_tdropF (k := 7) TM_pa hk (by decide) ?_))
    refine r_topen (k := 7) TM_pa rfl (by decide) ⟨_, l_remember h (q := hpa u) (kA := 7) (d := 1) (by decide) kk (HN u) 0 (va_cpy (hpa u).1 (hpa u).1 10 0 (7 * 10), nI 8) (by omega) rfl (fun j hj => ?_) (fun j hj => absurd hj (by omega))⟩
    show va_cpy _ _ 10 0 (7 * 10) j = _
    rw [pk_cpy_in (Nat.zero_le j) (by omega), show 10 + (j - 0) = j + 10 * 1 by omega]
  · rw [if_neg e, if_neg e] at kk
    refine r_tfull0 TM_pa hk (by omega) (z0 ?_)
    refine r_topen TM_pa hk (by omega) ⟨_, l_remember h (q := hpa u) (kA := k) (d := 0) (by omega) kk (HN u) 0 ((hpa u).1, nI (k + 1)) (by omega) rfl (fun j hj => rfl) (fun j hj => absurd hj (by omega))⟩
/-- going back -/
theorem l_goBack {K : HS → Prop} {u : HS} (h : HI u) {k : Nat} (hk : (hpa u).2 = nI (k + 1)) (hk8 : k < 8) (kk : ∀ ce : Nat → Int32, (∀ i, i < HN u → ce i = (hpa u).1 (k * 10 + i)) → K (u.1, u.2.1, u.2.2.1, ce, u.2.2.2.2.1, (hpa u).1 (k * 10 + 7), (hpa u).1 (k * 10 + 9), (hpa u).1 (k * 10 + 8), hsg u, hnt u, hmk u, ((hpa u).1, nI k))) : ∀ (r i : Nat) (ce : Nat → Int32), i + r = HN u → (∀ j, j < i → ce j = (hpa u).1 (k * 10 + j)) → V_X0_goBack_12 K (r + 1) (u.1, u.2.1, u.2.2.1, ce, u.2.2.2.2) (nI k) (nI i)
  | 0, i, ce, hi, h4 => by
    have h7 := h.2
    refine bt (by show hso u ≤ nI i; rw [h.1]; exact nI_le (by omega) (by omega)) ?_
    refine r_tat (c := 7) TM_pa hk (by omega) (by omega) (by decide) (r_tat (c := 8) TM_pa hk (by omega) (by omega) (by decide) (r_tat (c := 9) TM_pa hk (by omega) (by omega) (by decide) (r_tdropL hk hk8 ?_)))
    exact kk ce (fun j hj => h4 j (by omega))
  | r + 1, i, ce, hi, h4 => by
    have h7 := h.2
    refine bf (by show ¬ hso u ≤ nI i; rw [h.1]; exact nI_ge (by omega) (by omega)) ?_
    refine r_tat (c := i) TM_pa hk (by omega) (by omega) (by omega) ⟨vp_in_nI (by omega) (by decide), ?_⟩
    rw [nI_1, nI_clamp (by omega)]
    refine l_goBack h hk hk8 kk r (i + 1) _ (by omega) (fun j hj => ?_)
    by_cases e : j = i
    · subst e; exact upd_eq
    · exact (upd_ne e).trans (h4 j (by omega))
theorem r_goBack {K : HS → Prop} {u : HS} (h : HI u) {k : Nat} (hk : (hpa u).2 = nI (k + 1)) (hk8 : k < 8) (kk : ∀ ce : Nat → Int32, (∀ i, i < HN u → ce i = (hpa u).1 (k * 10 + i)) → K (u.1, u.2.1, u.2.2.1, ce, u.2.2.2.2.1, (hpa u).1 (k * 10 + 7), (hpa u).1 (k * 10 + 9), (hpa u).1 (k * 10 + 8), hsg u, hnt u, hmk u, ((hpa u).1, nI k))) : V_X0_goBack K u := by
  refine ⟨HN u + 1, ?_⟩
  have e : u.2.2.2.2.2.2.2.2.2.2.2.2 - 1 = nI k := by
    show (hpa u).2 - 1 = _
    rw [hk]; exact nI_pred k
  rw [e]
  exact l_goBack h hk hk8 kk (HN u) 0 (hce u) (by omega) (fun j hj => absurd hj (by omega))
/-- the model keeps: entries and what stays -/
def KM (f : Nat → Int32) (kA d : Nat) (g : Nat → Int32) : Prop := (∀ j, j < 90 → g j = f j) ∧ g 90 = nI (kA + 1) ∧ (∀ j, j < kA * 10 → g (91 + j) = f (91 + j + 10 * d)) ∧ g (91 + kA * 10) = f 5 ∧ g (92 + kA * 10) = f 6 ∧ g (93 + kA * 10) = f 7 ∧ ∀ i, i < 7 → g (94 + kA * 10 + i) = f (11 + 3 * i)
theorem ml_keep2 {K : MS → Prop} {mm : MS} {f : Nat → Int32} {kA d : Nat} (hk : kA < 8) (kk : ∀ g, KM f kA d g → K (g, mm.2)) : ∀ (k i : Nat) (g : Nat → Int32), i + k = 7 → (∀ j, j < 90 → g j = f j) → g 90 = nI kA → (∀ j, j < kA * 10 → g (91 + j) = f (91 + j + 10 * d)) → g (91 + kA * 10) = f 5 → g (92 + kA * 10) = f 6 → g (93 + kA * 10) = f 7 → (∀ j, j < i → g (94 + kA * 10 + j) = f (11 + 3 * j)) → V_X8_keep_103 K (k + 1) (g, mm.2) (nI (91 + kA * 10)) (nI i)
  | 0, i, g, hi, h1, h2, h3, h4, h5, h6, h8 => by
    refine bt (nI_le (a := 7) (by omega) (by omega)) ?_
    refine kk _ ⟨fun j hj => ?_, ?_, fun j hj => ?_, ?_, ?_, ?_, fun j hj => ?_⟩
    · show upd g 90 _ j = _
      rw [upd_ne (by omega)]; exact h1 j hj
    · show upd g 90 (g 90 + 1) 90 = _
      rw [upd_eq, h2, nI_1]
    · show upd g 90 _ _ = _
      rw [upd_ne (by omega)]; exact h3 j hj
    · show upd g 90 _ _ = _
      rw [upd_ne (by omega)]; exact h4
    · show upd g 90 _ _ = _
      rw [upd_ne (by omega)]; exact h5
    · show upd g 90 _ _ = _
      rw [upd_ne (by omega)]; exact h6
    · show upd g 90 _ _ = _
      rw [upd_ne (by omega)]; exact h8 j (by omega)
  | k + 1, i, g, hi, h1, h2, h3, h4, h5, h6, h8 => by
    refine bf (nI_ge (b := 7) (by omega) (by omega)) ?_
    refine m_soulOf (f := g) 2 (by omega) (by decide) ?_
    have e : nI (91 + kA * 10) + 3 + nI i = nI (94 + kA * 10 + i) := by
      show nI (91 + kA * 10) + nI 3 + nI i = _
      rw [nI_add, nI_add]; congr 1; omega
    rw [e, nI_clamp (by omega), nI_1, show 9 + 3 * i + 2 = 11 + 3 * i by omega]
    refine ⟨vp_in_nI (by omega) (by decide), ml_keep2 hk kk k (i + 1) _ (by omega) (fun j hj => ?_) ?_ (fun j hj => ?_) ?_ ?_ ?_ (fun j hj => ?_)⟩
    · rw [upd_ne (by omega)]; exact h1 j hj
    · rw [upd_ne (by omega)]; exact h2
    · rw [upd_ne (by omega)]; exact h3 j hj
    · rw [upd_ne (by omega)]; exact h4
    · rw [upd_ne (by omega)]; exact h5
    · rw [upd_ne (by omega)]; exact h6
    · by_cases q : j = i
      · subst q; rw [upd_eq]; exact h1 _ (by omega)
      · rw [upd_ne (by omega)]; exact h8 j (by omega)
theorem m_keep58 {K : MS → Prop} {mm : MS} {f g : Nat → Int32} {kA d : Nat} (hk : kA < 8) (kk : ∀ g, KM f kA d g → K (g, mm.2)) (h1 : ∀ j, j < 90 → g j = f j) (h2 : g 90 = nI kA) (h3 : ∀ j, j < kA * 10 → g (91 + j) = f (91 + j + 10 * d)) : V_X8_keep_58 K (g, mm.2) := by
  have e0 : (91 : Int32) + 10 * g 90 = nI (91 + kA * 10) := by
    rw [h2]
    show nI 91 + nI 10 * nI kA = _
    rw [pk_mul, nI_add]; congr 1; omega
  refine ⟨4, ?_⟩
  show V_X8_keep_74 K 4 (g, mm.2) (91 + 10 * g 90) 0
  rw [e0]
  have e1 : ∀ j : Nat, nI (91 + kA * 10) + nI j = nI (91 + kA * 10 + j) := fun j => nI_add _ _
  have e2 : ∀ j : Nat, (5 : Int32) + nI j = nI (5 + j) := fun j => nI_add 5 j
  have c1 : ∀ j : Nat, j < 3 → (nI (91 + kA * 10 + j)).toNatClampNeg = 91 + kA * 10 + j := fun j hj => nI_clamp (by omega)
  have c2 : ∀ j : Nat, j < 3 → (nI (5 + j)).toNatClampNeg = 5 + j := fun j hj => nI_clamp (by omega)
  have st : ∀ (g : Nat → Int32) (j : Nat), j < 3 → ∀ n, V_X8_keep_74 K n (upd g (91 + kA * 10 + j) (g (5 + j)), mm.2) (nI (91 + kA * 10)) (nI (j + 1)) → V_X8_keep_74 K (n + 1) (g, mm.2) (nI (91 + kA * 10)) (nI j) := by
    intro g j hj n hv
    refine bf (nI_ge (b := 3) hj (by decide)) ?_
    rw [e1, e2, c1 j hj, c2 j hj, nI_1]
    exact ⟨vp_in_nI (by omega) (by decide), vp_in_nI (by omega) (by decide), hv⟩
  refine st g 0 (by decide) 3 (st _ 1 (by decide) 2 (st _ 2 (by decide) 1 ?_))
  refine bt (nI_le (a := 3) (b := 3) (by decide) (by decide)) ⟨_, ml_keep2 hk kk 7 0 _ (by omega) (fun j hj => ?_) ?_ (fun j hj => ?_) ?_ ?_ ?_ (fun j hj => absurd hj (by omega))⟩
  · rw [upd_ne (by omega), upd_ne (by omega), upd_ne (by omega)]; exact h1 j hj
  · rw [upd_ne (by omega), upd_ne (by omega), upd_ne (by omega)]; exact h2
  · rw [upd_ne (by omega), upd_ne (by omega), upd_ne (by omega)]; exact h3 j hj
  · rw [upd_ne (by omega), upd_ne (by omega), show 91 + kA * 10 = 91 + kA * 10 + 0 from rfl, upd_eq]; exact h1 5 (by omega)
  · rw [upd_ne (by omega), show 92 + kA * 10 = 91 + kA * 10 + 1 by omega, upd_eq, upd_ne (by omega)]; exact h1 6 (by omega)
  · rw [show 93 + kA * 10 = 91 + kA * 10 + 2 by omega, upd_eq, upd_ne (by omega), upd_ne (by omega)]; exact h1 7 (by omega)
theorem ml_keep0 {K : MS → Prop} {mm : MS} {f : Nat → Int32} (h90 : f 90 = nI 8) (kk : ∀ g, KM f 7 1 g → K (g, mm.2)) : ∀ (k i : Nat) (g : Nat → Int32), i + k = 70 → (∀ j, j ≤ 90 → g j = f j) → (∀ j, j < i → g (91 + j) = f (91 + j + 10)) → (∀ j, i ≤ j → j < 80 → g (91 + j) = f (91 + j)) → V_X8_keep_14 K (k + 1) (g, mm.2) (nI i)
  | 0, i, g, hi, h1, h2, h3 => by
    refine bt (nI_le (a := 70) (by omega) (by omega)) ?_
    refine m_keep58 (f := f) (kA := 7) (d := 1) (by decide) kk (fun j hj => ?_) ?_ (fun j hj => ?_)
    · rw [upd_ne (by omega)]; exact h1 j (by omega)
    · rw [upd_eq]
      show g 90 - 1 = nI 7
      rw [h1 90 (by omega), h90]
      exact nI_pred 7
    · rw [upd_ne (by omega)]; exact h2 j (by omega)
  | k + 1, i, g, hi, h1, h2, h3 => by
    refine bf (nI_ge (b := 70) (by omega) (by omega)) ?_
    have e1 : (91 : Int32) + nI i = nI (91 + i) := nI_add 91 i
    have e2 : nI (91 + i) + 10 = nI (91 + i + 10) := nI_add _ 10
    rw [e1, e2, nI_clamp (by omega), nI_clamp (by omega), nI_1]
    refine ⟨vp_in_nI (by omega) (by decide), vp_in_nI (by omega) (by decide), ml_keep0 h90 kk k (i + 1) _ (by omega) (fun j hj => ?_) (fun j hj => ?_) (fun j h4 h5 => ?_)⟩
    · rw [upd_ne (by omega)]; exact h1 j hj
    · by_cases q : j = i
      · subst q
        rw [upd_eq, show 91 + j + 10 = 91 + (j + 10) by omega]
        exact (h3 (j + 10) (by omega) (by omega)).trans (by congr 1)
      · rw [upd_ne (by omega)]; exact h2 j (by omega)
    · rw [upd_ne (by omega)]; exact h3 j (by omega) h5
theorem m_keep {K : MS → Prop} {mm : MS} {k : Nat} (hk : mm.1 90 = nI k) (hk8 : k ≤ 8) (kk : ∀ g, KM mm.1 (if k = 8 then 7 else k) (if k = 8 then 1 else 0) g → K (g, mm.2)) : V_X8_keep K mm := by
  by_cases e : k = 8
  · subst e
    rw [if_pos rfl, if_pos rfl] at kk
    exact nt hk ⟨_, ml_keep0 hk kk 70 0 mm.1 (by omega) (fun j _ => rfl) (fun j hj => absurd hj (by omega)) (fun j _ _ => rfl)⟩
  · rw [if_neg e, if_neg e] at kk
    refine nf (fun q => ?_) (m_keep58 (f := mm.1) (g := mm.1) (kA := k) (d := 0) (by omega) kk (fun j _ => rfl) hk (fun j _ => rfl))
    rw [hk] at q
    exact e ((nI_eq (b := 8) (by omega) (by decide)).mp q)
