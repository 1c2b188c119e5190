/-! ===== steps: undo ===== -/
/-- the model goes back -/
def UM (f : Nat → Int32) (n k : Nat) (g : Nat → Int32) : Prop := g 90 = nI k ∧ g 5 = f (91 + k * 10) ∧ g 6 = f (92 + k * 10) ∧ g 7 = f (93 + k * 10) ∧ (∀ i, i < n → g (11 + 3 * i) = f (94 + k * 10 + i)) ∧ (∀ j, j < 171 → ¬ j = 90 → ¬ j = 5 → ¬ j = 6 → ¬ j = 7 → (∀ i, i < n → ¬ j = 11 + 3 * i) → g j = f j)
theorem ml_undo2 {K : Int32 → MS → Prop} {mm : MS} {f : Nat → Int32} {n k : Nat} (hn : n ≤ 7) (h8 : f 8 = nI n) (hk : k < 8) (kk : ∀ g, UM f n k g → K (g 6) (g, mm.2)) : ∀ (r i : Nat) (g : Nat → Int32), i + r = n → UM f i k g → V_X8_undo_71 K (r + 1) (g, mm.2) (nI (91 + k * 10)) (nI i)
  | 0, i, g, hi, hg => by
    have e8 : g 8 = nI n := by rw [hg.2.2.2.2.2 8 (by omega) (by omega) (by omega) (by omega) (by omega) (fun i _ => by omega)]; exact h8
    have ei : i = n := by omega
    subst ei
    exact bt (by show g 8 ≤ nI i; rw [e8]; exact Int32.le_refl _) (kk g hg)
  | r + 1, i, g, hi, hg => by
    have e8 : g 8 = nI n := by rw [hg.2.2.2.2.2 8 (by omega) (by omega) (by omega) (by omega) (by omega) (fun i _ => by omega)]; exact h8
    refine bf (by show ¬ g 8 ≤ nI i; rw [e8]; exact nI_ge (by omega) (by omega)) ?_
    have e1 : nI (91 + k * 10) + 3 + nI i = nI (94 + k * 10 + i) := by
      show nI (91 + k * 10) + nI 3 + nI i = _
      rw [nI_add, nI_add]; congr 1; omega
    rw [e1, ix_cell, nI_clamp (by omega), nI_clamp (by omega), nI_1]
    refine ⟨vp_in_nI (by omega) (by decide), vp_in_nI (by omega) (by decide), ml_undo2 hn h8 hk kk r (i + 1) _ (by omega) ?_⟩
    obtain ⟨g1, g2, g3, g4, g5, g6⟩ := hg
    have src : g (94 + k * 10 + i) = f (94 + k * 10 + i) := g6 _ (by omega) (by omega) (by omega) (by omega) (by omega) (fun j hj => by omega)
    refine ⟨?_, ?_, ?_, ?_, fun j hj => ?_, fun j h1 h2 h3 h4 h5 h6 => ?_⟩
    · rw [upd_ne (by omega)]; exact g1
    · rw [upd_ne (by omega)]; exact g2
    · rw [upd_ne (by omega)]; exact g3
    · rw [upd_ne (by omega)]; exact g4
    · by_cases q : j = i
      · subst q; rw [upd_eq]; exact src
      · rw [upd_ne (by omega)]; exact g5 j (by omega)
    · rw [upd_ne (h6 i (by omega))]
      exact g6 j h1 h2 h3 h4 h5 (fun i2 hi2 => h6 i2 (by omega))
theorem m_undo {K : Int32 → MS → Prop} {mm : MS} {n k : Nat} (hn : n ≤ 7) (h8 : mm.1 8 = nI n) (h90 : mm.1 90 = nI (k + 1)) (hk : k < 8) (kk : ∀ g, UM mm.1 n k g → K (g 6) (g, mm.2)) : V_X8_undo K mm := by
  have ne0 : ¬ mm.1 90 = 0 := by
    rw [h90]
    exact nI_ne0 (by omega) (by omega)
  refine nf ne0 ⟨4, ?_⟩
  have e90 : mm.1 90 - 1 = nI k := by rw [h90]; exact nI_pred k
  have e0 : (91 : Int32) + 10 * (upd mm.1 90 (mm.1 90 - 1)) 90 = nI (91 + k * 10) := by
    rw [upd_eq, e90]
    show nI 91 + nI 10 * nI k = _
    rw [pk_mul, nI_add]; congr 1; omega
  rw [e0, e90]
  have e1 : ∀ j : Nat, nI (91 + k * 10) + nI j = nI (91 + k * 10 + j) := fun j => nI_add _ _
  have e2 : ∀ j : Nat, (5 : Int32) + nI j = nI (5 + j) := fun j => nI_add 5 j
  have st : ∀ (g : Nat → Int32) (j : Nat), j < 3 → ∀ n, V_X8_undo_42 K n (upd g (5 + j) (g (91 + k * 10 + j)), mm.2) (nI (91 + k * 10)) (nI (j + 1)) → V_X8_undo_42 K (n + 1) (g, mm.2) (nI (91 + k * 10)) (nI j) := by
    intro g j hj n hv
    refine bf (nI_ge (b := 3) hj (by decide)) ?_
    rw [e1, e2, nI_clamp (by omega), nI_clamp (by omega), nI_1]
    exact ⟨vp_in_nI (by omega) (by decide), vp_in_nI (by omega) (by decide), hv⟩
  refine st _ 0 (by decide) 3 (st _ 1 (by decide) 2 (st _ 2 (by decide) 1 ?_))
  refine bt (nI_le (a := 3) (b := 3) (by decide) (by decide)) ⟨_, ml_undo2 hn h8 hk kk n 0 _ (by omega) ⟨?_, ?_, ?_, ?_, fun i hi => absurd hi (by omega), fun j h1 h2 h3 h4 h5 h6 => ?_⟩⟩
  · rw [upd_ne (by omega), upd_ne (by omega), upd_ne (by omega), upd_eq]
  · rw [upd_ne (by omega), upd_ne (by omega), show 5 = 5 + 0 from rfl, upd_eq, upd_ne (by omega)]; rfl
  · rw [upd_ne (by omega), show 6 = 5 + 1 from rfl, upd_eq, upd_ne (by omega), upd_ne (by omega), show 91 + k * 10 + 1 = 92 + k * 10 by omega]
  · rw [show 7 = 5 + 2 from rfl, upd_eq, upd_ne (by omega), upd_ne (by omega), upd_ne (by omega), show 91 + k * 10 + 2 = 93 + k * 10 by omega]
  · rw [upd_ne (by omega), upd_ne (by omega), upd_ne (by omega), upd_ne (by omega)]
theorem p_undo : st_undo Rel := by
  intro u mm hr
  have hH := hr.1
  have hC := hH.1
  have hI := hC.1
  have l7 := hI.2
  obtain ⟨h1, h2, h3, h4, h5, h6, h7, k, k1, k2, k3, k4⟩ := hH
  have h8 : mm.1 8 = nI (HN u.1) := hC.2.1.trans hI.1
  cases k with
  | zero =>
    refine nt k2 ?_
    show V_X8_undo _ mm
    exact nt k3 (And.intro rfl hr.no)
  | succ k =>
    refine nf (by rw [show u.1.2.2.2.2.2.2.2.2.2.2.2.2 = nI (k + 1) from k2]; exact nI_ne0 (by omega) (by omega)) ?_
    refine r_goBack hI k2 (by omega) (fun ce hce => ?_)
    show V_X8_undo _ mm
    refine m_undo l7 h8 k3 (by omega) (fun g hg => ?_)
    obtain ⟨g1, g2, g3, g4, g5, g6⟩ := hg
    obtain ⟨q1, q2, q3, q4, q5, q6, q7⟩ := k4 k (by omega)
    have gn : ∀ j, j < 171 → ¬ j = 90 → ¬ j = 5 → ¬ j = 6 → ¬ j = 7 → (∀ i, i < HN u.1 → ¬ j = 11 + 3 * i) → g j = mm.1 j := g6
    refine ⟨?_, hr.now ?_⟩
    · rw [g3]; exact q5
    · obtain ⟨a1, a2, a3, a4, a5, a6, a7, a8⟩ := hC
      refine ⟨⟨a1, ?_, fun r hr => ?_, ?_, ?_, ?_, fun i hi => ?_, ?_⟩, q6, q7, h4.keep (fun j b1 b2 => gn j (by omega) (by omega) (by omega) (by omega) (by omega) (fun i hi => by omega)), h5.keep (fun j b1 b2 => gn j (by omega) (by omega) (by omega) (by omega) (by omega) (fun i hi => by omega)), h6, h7.keep (fun j b1 b2 => gn j (by omega) (by omega) (by omega) (by omega) (by omega) (fun i hi => by omega)), ⟨k, by omega, rfl, g1, fun t ht => ?_⟩⟩
      · rw [gn 8 (by omega) (by omega) (by omega) (by omega) (by omega) (fun i hi => by omega)]; exact a2
      · rw [gn r (by omega) (by omega) (by omega) (by omega) (by omega) (fun i hi => by omega)]; exact a3 r hr
      · rw [g2]; exact q3
      · rw [g3]; exact q5
      · rw [g4]; exact q4
      · have hi : i < HN u.1 := hi
        have b := a7 i hi
        rw [gn (9 + 3 * i) (by omega) (by omega) (by omega) (by omega) (by omega) (fun i2 hi => by omega), gn (10 + 3 * i) (by omega) (by omega) (by omega) (by omega) (by omega) (fun i2 hi => by omega), g5 i hi]
        exact ⟨b.1, b.2.1, (hce i hi).trans (q1 i hi), b.2.2.2⟩
      · exact q2.congr (fun i hi => hce i hi)
      · obtain ⟨q1, q2, q3, q4, q5, q6, q7⟩ := k4 t (by omega)
        have gh : ∀ j, j < 10 → g (91 + t * 10 + j) = mm.1 (91 + t * 10 + j) := fun j hj => gn _ (by omega) (by omega) (by omega) (by omega) (by omega) (fun i hi => by have : i < HN u.1 := hi; omega)
        refine ⟨fun i hi => ?_, q2, ?_, ?_, ?_, q6, q7⟩
        · have hi : i < HN u.1 := hi
          have := gh (3 + i) (by omega)
          rw [show 91 + t * 10 + (3 + i) = 94 + t * 10 + i by omega] at this
          rw [this]; exact q1 i hi
        · exact q3.trans (gh 0 (by omega)).symm
        · have := gh 2 (by omega)
          rw [show 91 + t * 10 + 2 = 93 + t * 10 by omega] at this
          rw [this]; exact q4
        · have := gh 1 (by omega)
          rw [show 91 + t * 10 + 1 = 92 + t * 10 by omega] at this
          rw [this]; exact q5
