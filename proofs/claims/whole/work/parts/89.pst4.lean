/-! ===== steps: hall, row, soul, text, and plain reads ===== -/
theorem l_reset {K : HS → Prop} {u : HS} (kk : ∀ rk : Nat → Int32, (∀ r, r < 5 → rk r = 0) → K (rk, u.2.1, u.2.2.1, u.2.2.2.1, 0, 0, 0, 0, ((hsg u).1, 0), ((hnt u).1, 0), ((hmk u).1, 0), ((hpa u).1, 0))) : ∀ (k i : Nat) (rk : Nat → Int32), i + k = 5 → (∀ r, r < i → rk r = 0) → V_X0_reset_2 K (k + 1) (rk, u.2) (nI i)
  | 0, i, rk, hi, h => bt (nI_le (a := 5) (by omega) (by omega)) (kk rk (fun r hr => h r (by omega)))
  | k + 1, i, rk, hi, h => by
    refine bf (nI_ge (b := 5) (by omega) (by omega)) ⟨vp_in_nI (by omega) (by decide), ?_⟩
    rw [nI_clamp (by omega), nI_1]
    refine l_reset kk k (i + 1) _ (by omega) (fun r hr => ?_)
    by_cases e : r = i
    · subst e; rw [upd_eq]
    · rw [upd_ne e]; exact h r (by omega)
theorem r_reset {K : HS → Prop} {u : HS} (kk : ∀ rk : Nat → Int32, (∀ r, r < 5 → rk r = 0) → K (rk, u.2.1, u.2.2.1, u.2.2.2.1, 0, 0, 0, 0, ((hsg u).1, 0), ((hnt u).1, 0), ((hmk u).1, 0), ((hpa u).1, 0))) : V_X0_reset K u := ⟨_, l_reset kk 5 0 u.1 (by omega) (fun r hr => absurd hr (by omega))⟩
theorem ml_empty {K : (Nat → Int32) → Prop} (kk : ∀ g : Nat → Int32, (∀ j, j < 171 → g j = 0) → K g) : ∀ (k i : Nat) (g : Nat → Int32), i + k = 171 → (∀ j, j < i → g j = 0) → V_X8_empty_2 K (k + 1) g (nI i)
  | 0, i, g, hi, h => bt (nI_le (a := 171) (by omega) (by omega)) (kk g (fun j hj => h j (by omega)))
  | k + 1, i, g, hi, h => by
    refine bf (nI_ge (b := 171) (by omega) (by omega)) ⟨vp_in_nI (by omega) (by decide), ?_⟩
    rw [nI_clamp (by omega), nI_1]
    refine ml_empty kk k (i + 1) _ (by omega) (fun r hr => ?_)
    by_cases e : r = i
    · subst e; rw [upd_eq]
    · rw [upd_ne e]; exact h r (by omega)
theorem m_empty {K : (Nat → Int32) → Prop} {f : Nat → Int32} (kk : ∀ g : Nat → Int32, (∀ j, j < 171 → g j = 0) → K g) : V_X8_empty K f := ⟨_, ml_empty kk 171 0 f (by omega) (fun r hr => absurd hr (by omega))⟩
theorem RH.none {rk sk sb ce : Nat → Int32} {a b c d : Nat → Int32} {g : Nat → Int32} (h : ∀ r, r < 5 → rk r = 0) (hg : ∀ j, j < 171 → g j = 0) : RH (rk, sk, sb, ce, 0, 0, 0, 0, (a, 0), (b, 0), (c, 0), (d, 0)) g := by
  have hn : HN (rk, sk, sb, ce, 0, 0, 0, 0, (a, 0), (b, 0), (c, 0), (d, 0)) = 0 := by show (0 : Int32).toNatClampNeg = 0; decide
  refine ⟨⟨⟨by rw [hn]; rfl, by rw [hn]; decide⟩, hg 8 (by omega), fun r hr => ?_, (hg 5 (by omega)).symm, (hg 6 (by omega)).symm, (hg 7 (by omega)).symm, fun i hi => ?_, ?_⟩, vp_in_nI (n := 0) (by decide) (by decide), vp_in_nI (n := 0) (by decide) (by decide), ⟨0, by omega, rfl, hg 30 (by omega), fun j hj => absurd hj (by omega)⟩, ⟨0, by omega, rfl, hg 46 (by omega), fun j hj => absurd hj (by omega)⟩, ?_, ⟨0, by omega, rfl, hg 65 (by omega), fun j hj => absurd hj (by omega)⟩, RP.zero rfl (hg 90 (by omega))⟩
  · rw [hg r (by omega)]; exact ⟨h r hr, vp_in_nI (n := 0) (by decide) (by decide)⟩
  · rw [hn] at hi; exact absurd hi (by omega)
  · rw [hn]; exact ⟨fun i hi => absurd hi (by omega), fun i j _ hj => absurd hj (by omega)⟩
  · intro n e hn6 j hj
    have : n = 0 := ((nI_eq (a := 0) (b := n) (by omega) (by omega)).mp e).symm
    omega
theorem p_hall : st_hall Rel := by
  intro u mm hr
  have hC := hr.1.1
  refine r_reset (fun rk h => ?_)
  show V_X8_hall _ mm
  refine m_empty (fun g hg => ?_)
  exact ⟨hC.2.1.symm, hr.now (RH.none h hg)⟩
theorem rel0 : Rel us0 ms0 := by
  refine ⟨RH.none (fun _ _ => rfl) (fun _ _ => rfl), fun i _ => ⟨rfl, Or.inl rfl⟩, fun h => absurd h (by decide), fun h => absurd h (by decide), ⟨0, by omega, rfl, rfl, fun j hj => absurd hj (by omega)⟩, rfl, rfl, rfl, rfl, rfl⟩
theorem p_row : st_row Rel := by
  intro u mm x1 x2 hr
  have hH := hr.1
  have hC := hH.1
  by_cases h1 : vp_in x1 5
  · refine r_within1 5 rfl (by decide) h1 (z1 ?_)
    by_cases h2 : vp_in x2 6
    · refine r_within1 6 rfl (by decide) h2 (y1 ⟨h1, h1, ?_⟩)
      show V_X8_row _ mm _ _
      refine m_in1 5 (by decide) h1 (z1 (m_in1 6 (by decide) h2 (y1 ⟨vi_mono h1 (by decide), vi_mono h1 (by decide), ?_⟩)))
      obtain ⟨r, r5, er⟩ := vp_in_of h1 (by decide)
      have ecl : x1.toNatClampNeg = r := by rw [er]; exact nI_clamp (by omega)
      rw [ecl]
      refine ⟨(hC.2.2.1 r r5).1, hr.now ?_⟩
      obtain ⟨g1, g2, g3, g4, g5, g6, g7, g8⟩ := hH
      obtain ⟨a1, a2, a3, a4, a5, a6, a7, a8⟩ := hC
      have e : ∀ j, 5 ≤ j → ¬ j = 90 → upd (upd mm.1 r x2) 90 0 j = mm.1 j := fun j h h2 => by rw [upd_ne h2, upd_ne (by omega)]
      refine ⟨⟨a1, ?_, fun q hq => ?_, ?_, ?_, ?_, fun i hi => ?_, a8⟩, g2, g3, g4.keep (fun j q1 q2 => e j (by omega) (by omega)), g5.keep (fun j q1 q2 => e j (by omega) (by omega)), g6, g7.keep (fun j q1 q2 => e j (by omega) (by omega)), RP.zero rfl upd_eq⟩
      · rw [e 8 (by omega) (by omega)]; exact a2
      · show upd u.1.1 r x2 q = _ ∧ _
        rw [upd_ne (k := 90) (by omega)]
        by_cases eq : q = r
        · subst eq; rw [upd_eq, upd_eq]; exact ⟨rfl, h2⟩
        · rw [upd_ne eq, upd_ne eq]; exact a3 q hq
      · rw [e 5 (by omega) (by omega)]; exact a4
      · rw [e 6 (by omega) (by omega)]; exact a5
      · rw [e 7 (by omega) (by omega)]; exact a6
      · have l7 := a1.2
        have hi : i < HN u.1 := hi
        rw [e _ (by omega) (by omega), e _ (by omega) (by omega), e _ (by omega) (by omega)]; exact a7 i hi
    · refine r_within0 6 rfl (by decide) h2 (y0 ?_)
      show V_X8_row _ mm _ _
      exact m_in1 5 (by decide) h1 (z1 (m_in0 6 (by decide) h2 (y0 (And.intro rfl hr.bad))))
  · refine r_within0 5 rfl (by decide) h1 (z0 ?_)
    show V_X8_row _ mm _ _
    exact m_in0 5 (by decide) h1 (z0 (And.intro rfl hr.bad))
theorem m_comes {K : (Nat → Int32) → Prop} {f : Nat → Int32} {n : Nat} {x y : Int32} (h8 : f 8 = nI n) (hn : n < 7) (kk : K (upd (upd (upd (upd f (9 + 3 * n) x) (10 + 3 * n) y) (11 + 3 * n) 0) 8 (nI (n + 1)))) : V_X8_comes K f x y := by
  have e0 : (9 : Int32) + 3 * f 8 = nI (9 + 3 * n) := by
    rw [h8]
    show nI 9 + nI 3 * nI n = _
    rw [pk_mul, nI_add]
  have e1 : nI (9 + 3 * n) + 1 = nI (10 + 3 * n) := (nI_1 _).trans (by congr 1; omega)
  have e2 : nI (9 + 3 * n) + 2 = nI (11 + 3 * n) := (nI_add _ 2).trans (by congr 1; omega)
  unfold V_X8_comes
  rw [e0, e1, e2, nI_clamp (by omega), nI_clamp (by omega), nI_clamp (by omega)]
  refine ⟨vp_in_nI (by omega) (by decide), vp_in_nI (by omega) (by decide), vp_in_nI (by omega) (by decide), ?_⟩
  rw [upd_ne (k := 11 + 3 * n) (j := 8) (by omega), upd_ne (k := 10 + 3 * n) (j := 8) (by omega), upd_ne (k := 9 + 3 * n) (j := 8) (by omega), h8, nI_1]
  exact kk
theorem RH.come {u : HS} {f : Nat → Int32} {n : Nat} {x1 x2 : Int32} (hH : RH u f) (hN : HN u = n) (hn : n < 7) (h1 : vp_in x1 6) (h2 : vp_in x2 30) : RH (u.1, upd u.2.1 n x1, upd u.2.2.1 n x2, upd u.2.2.2.1 n (-1), nI (n + 1), u.2.2.2.2.2.1, u.2.2.2.2.2.2.1, u.2.2.2.2.2.2.2.1, hsg u, hnt u, hmk u, ((hpa u).1, (0 : Int32))) (upd (upd (upd (upd (upd f (9 + 3 * n) x1) (10 + 3 * n) x2) (11 + 3 * n) 0) 8 (nI (n + 1))) 90 0) := by
  obtain ⟨g1, g2, g3, g4, g5, g6, g7, g8⟩ := hH
  obtain ⟨a1, a2, a3, a4, a5, a6, a7, a8⟩ := g1
  rw [hN] at a7 a8
  have hn2 : HN (u.1, upd u.2.1 n x1, upd u.2.2.1 n x2, upd u.2.2.2.1 n (-1), nI (n + 1), u.2.2.2.2.2.1, u.2.2.2.2.2.2.1, u.2.2.2.2.2.2.2.1, hsg u, hnt u, hmk u, ((hpa u).1, (0 : Int32))) = n + 1 := nI_clamp (by omega)
  have e : ∀ j, ¬ j = 90 → ¬ j = 8 → ¬ j = 11 + 3 * n → ¬ j = 10 + 3 * n → ¬ j = 9 + 3 * n → upd (upd (upd (upd (upd f (9 + 3 * n) x1) (10 + 3 * n) x2) (11 + 3 * n) 0) 8 (nI (n + 1))) 90 0 j = f j := fun j b1 b2 b3 b4 b5 => by rw [upd_ne b1, upd_ne b2, upd_ne b3, upd_ne b4, upd_ne b5]
  have e30 : ∀ j, 30 ≤ j → j < 90 → upd (upd (upd (upd (upd f (9 + 3 * n) x1) (10 + 3 * n) x2) (11 + 3 * n) 0) 8 (nI (n + 1))) 90 0 j = f j := fun j b1 b2 => e j (by omega) (by omega) (by omega) (by omega) (by omega)
  refine ⟨⟨⟨by rw [hn2], by rw [hn2]; omega⟩, ?_, fun q hq => ?_, ?_, ?_, ?_, fun i hi => ?_, ?_⟩, g2, g3, g4.keep (fun j q1 q2 => e30 j (by omega) (by omega)), g5.keep (fun j q1 q2 => e30 j (by omega) (by omega)), g6, g7.keep (fun j q1 q2 => e30 j (by omega) (by omega)), RP.zero rfl upd_eq⟩
  · rw [upd_ne (by omega), upd_eq]
  · rw [e q (by omega) (by omega) (by omega) (by omega) (by omega)]; exact a3 q hq
  · rw [e 5 (by omega) (by omega) (by omega) (by omega) (by omega)]; exact a4
  · rw [e 6 (by omega) (by omega) (by omega) (by omega) (by omega)]; exact a5
  · rw [e 7 (by omega) (by omega) (by omega) (by omega) (by omega)]; exact a6
  · rw [hn2] at hi
    show upd u.2.1 n x1 i = _ ∧ upd u.2.2.1 n x2 i = _ ∧ upd u.2.2.2.1 n (-1) i = _ ∧ vp_in (upd u.2.1 n x1 i) 6 ∧ vp_in (upd u.2.2.1 n x2 i) 30
    by_cases ei : i = n
    · subst ei
      rw [upd_eq, upd_eq, upd_eq, upd_ne (k := 90) (by omega), upd_ne (k := 8) (by omega), upd_ne (k := 11 + 3 * i) (by omega), upd_ne (k := 10 + 3 * i) (by omega), upd_eq, upd_ne (k := 90) (by omega), upd_ne (k := 8) (by omega), upd_ne (k := 11 + 3 * i) (by omega), upd_eq, upd_ne (k := 90) (by omega), upd_ne (k := 8) (by omega), upd_eq]
      exact ⟨rfl, rfl, rfl, h1, h2⟩
    · rw [upd_ne ei, upd_ne ei, upd_ne ei, e _ (by omega) (by omega) (by omega) (by omega) (by omega), e _ (by omega) (by omega) (by omega) (by omega) (by omega), e _ (by omega) (by omega) (by omega) (by omega) (by omega)]
      exact a7 i (by omega)
  · rw [hn2]
    show CF (n + 1) (upd u.2.2.2.1 n (-1))
    refine ⟨fun i hi => ?_, fun i j hij hj q => ?_⟩
    · by_cases ei : i = n
      · subst ei; exact Or.inl upd_eq
      · rw [upd_ne ei]; exact a8.1 i (by omega)
    · by_cases ej : j = n
      · subst ej
        rw [upd_eq] at q
        exact q
      · rw [upd_ne (show ¬ i = n by omega)] at q ⊢
        rw [upd_ne ej] at q
        exact a8.2 i j hij (by omega) q
theorem p_soul : st_soul Rel := by
  intro u mm x1 x2 hr
  have hH := hr.1
  have hC := hH.1
  have hI := hC.1
  have l7 := hI.2
  have h8 : mm.1 8 = nI (HN u.1) := hC.2.1.trans hI.1
  by_cases h1 : vp_in x1 6
  · refine r_within1 6 rfl (by decide) h1 (z1 ?_)
    by_cases h2 : vp_in x2 30
    · refine r_within1 30 rfl (by decide) h2 (y1 ?_)
      by_cases hn : HN u.1 < 7
      · refine bt (by show hso u.1 < 7; rw [hI.1]; exact nI_lt (b := 7) hn (by decide)) ?_
        unfold V_X4_empty
        refine r_addSoul (u := (u.1.1, u.1.2.1, u.1.2.2.1, u.1.2.2.2.1, u.1.2.2.2.2.1, u.1.2.2.2.2.2.1, u.1.2.2.2.2.2.2.1, u.1.2.2.2.2.2.2.2.1, hsg u.1, hnt u.1, hmk u.1, ((hpa u.1).1, 0))) hI hn ?_
        show V_X8_soul _ mm _ _
        have n7 : ¬ mm.1 8 = 7 := by
          rw [h8]
          intro q
          have := (nI_eq (b := 7) (by omega) (by decide)).mp q
          omega
        refine m_in1 6 (by decide) h1 (z1 (m_isCell1 h2 (y1 (nf n7 (m_comes h8 hn ?_)))))
        rw [upd_ne (k := 90) (j := 8) (by omega), upd_eq, nI_pred]
        have hcome := RH.come (u := u.1) (n := HN u.1) (x1 := x1) (x2 := x2) hH rfl hn h1 h2
        exact And.intro rfl (hr.now hcome)
      · have e7 : HN u.1 = 7 := by omega
        refine bf (by show ¬ hso u.1 < 7; rw [hI.1, e7]; decide) ?_
        show V_X8_soul _ mm _ _
        exact m_in1 6 (by decide) h1 (z1 (m_isCell1 h2 (y1 (nt (by rw [h8, e7]; rfl) (And.intro rfl hr.full)))))
    · refine r_within0 30 rfl (by decide) h2 (y0 ?_)
      show V_X8_soul _ mm _ _
      exact m_in1 6 (by decide) h1 (z1 (m_isCell0 h2 (y0 (And.intro rfl hr.bad))))
  · refine r_within0 6 rfl (by decide) h1 (z0 ?_)
    show V_X8_soul _ mm _ _
    exact m_in0 6 (by decide) h1 (z0 (And.intro rfl hr.bad))
