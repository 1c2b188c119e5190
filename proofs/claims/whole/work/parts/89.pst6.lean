/-! ===== steps: seen, note, mark, forget ===== -/
theorem m_comes3 {K : (Nat → Int32) → Prop} {f : Nat → Int32} {b k : Nat} {x y z w : Int32} (hb : f b = nI k) (hk : b + 4 + 3 * k < 171) (kk : K (upd (upd (upd (upd f (b + 1 + k * 3) x) (b + 1 + k * 3 + 1) y) (b + 1 + k * 3 + 2) z) b (nI (k + 1)))) : V_X8_comesRow K f (nI b) 3 x y z w := by
  have c : (nI b).toNatClampNeg = b := nI_clamp (by omega)
  have e0 : nI b + 1 + 3 * f b = nI (b + 1 + k * 3) := by
    rw [hb, nI_1]
    show nI (b + 1) + nI 3 * nI k = _
    rw [pk_mul, nI_add]; congr 1; omega
  have e1 : nI (b + 1 + k * 3) + 1 = nI (b + 1 + k * 3 + 1) := nI_1 _
  have e2 : nI (b + 1 + k * 3) + 2 = nI (b + 1 + k * 3 + 2) := nI_add _ 2
  unfold V_X8_comesRow V_X8_comesRow_45
  rw [c, e0, e1, e2, nI_clamp (by omega), nI_clamp (by omega), nI_clamp (by omega)]
  refine ⟨vp_in_nI (by omega) (by decide), vp_in_nI (by omega) (by decide), vp_in_nI (by omega) (by decide), vp_in_nI (by omega) (by decide), nf (by decide) ⟨vp_in_nI (by omega) (by decide), vp_in_nI (by omega) (by decide), ?_⟩⟩
  rw [upd_ne (j := b) (by omega), upd_ne (j := b) (by omega), upd_ne (j := b) (by omega), hb, nI_1]
  exact kk
theorem m_comes4 {K : (Nat → Int32) → Prop} {f : Nat → Int32} {b k : Nat} {x y z w : Int32} (hb : f b = nI k) (hk : b + 5 + 4 * k < 171) (kk : K (upd (upd (upd (upd (upd f (b + 1 + k * 4) x) (b + 1 + k * 4 + 1) y) (b + 1 + k * 4 + 2) z) (b + 1 + k * 4 + 3) w) b (nI (k + 1)))) : V_X8_comesRow K f (nI b) 4 x y z w := by
  have c : (nI b).toNatClampNeg = b := nI_clamp (by omega)
  have e0 : nI b + 1 + 4 * f b = nI (b + 1 + k * 4) := by
    rw [hb, nI_1]
    show nI (b + 1) + nI 4 * nI k = _
    rw [pk_mul, nI_add]; congr 1; omega
  have e1 : nI (b + 1 + k * 4) + 1 = nI (b + 1 + k * 4 + 1) := nI_1 _
  have e2 : nI (b + 1 + k * 4) + 2 = nI (b + 1 + k * 4 + 2) := nI_add _ 2
  have e3 : nI (b + 1 + k * 4) + 3 = nI (b + 1 + k * 4 + 3) := nI_add _ 3
  unfold V_X8_comesRow V_X8_comesRow_45
  rw [c, e0, e1, e2, e3, nI_clamp (by omega), nI_clamp (by omega), nI_clamp (by omega), nI_clamp (by omega)]
  refine ⟨vp_in_nI (by omega) (by decide), vp_in_nI (by omega) (by decide), vp_in_nI (by omega) (by decide), vp_in_nI (by omega) (by decide), nt (by decide) ⟨vp_in_nI (by omega) (by decide), vp_in_nI (by omega) (by decide), vp_in_nI (by omega) (by decide), ?_⟩⟩
  rw [upd_ne (j := b) (by omega), upd_ne (j := b) (by omega), upd_ne (j := b) (by omega), upd_ne (j := b) (by omega), hb, nI_1]
  exact kk
theorem RH.tabs {u : HS} {f g : Nat → Int32} (h : RH u f) {a b c : TS} (e1 : ∀ j, j < 30 → g j = f j) (e2 : ∀ j, 90 ≤ j → j < 171 → g j = f j) (h1 : RT 5 3 30 a g) (h2 : RT 6 3 46 b g) (h3 : NS b) (h4 : RT 6 4 65 c g) : RH (u.1, u.2.1, u.2.2.1, u.2.2.2.1, u.2.2.2.2.1, u.2.2.2.2.2.1, u.2.2.2.2.2.2.1, u.2.2.2.2.2.2.2.1, a, b, c, hpa u) g := by
  obtain ⟨g1, g2, g3, g4, g5, g6, g7, g8⟩ := h
  exact ⟨g1.same e1 rfl rfl rfl rfl rfl rfl rfl rfl, g2, g3, h1, h2, h3, h4, g8.keep g1.1.2 e2⟩
theorem RT.add3 {cap b k : Nat} {t : TS} {f : Nat → Int32} {x y z : Int32} (h : RT cap 3 b t f) (hk : t.2 = nI k) (hkc : k < cap) (hc : cap ≤ 8) : RT cap 3 b (upd (upd (upd t.1 (k * 3) x) (k * 3 + 1) y) (k * 3 + 2) z, nI (k + 1)) (upd (upd (upd (upd f (b + 1 + k * 3) x) (b + 1 + k * 3 + 1) y) (b + 1 + k * 3 + 2) z) b (nI (k + 1))) := by
  obtain ⟨n, n1, n2, n3, n4⟩ := h
  have : n = k := (nI_eq (by omega) (by omega)).mp (n2.symm.trans hk)
  subst this
  refine ⟨n + 1, by omega, rfl, upd_eq, fun j hj => ?_⟩
  dsimp only
  rw [upd_ne (k := b) (by omega)]
  by_cases q2 : j = n * 3 + 2
  · subst q2; rw [upd_eq, show b + 1 + (n * 3 + 2) = b + 1 + n * 3 + 2 by omega, upd_eq]
  · rw [upd_ne q2, upd_ne (k := b + 1 + n * 3 + 2) (by omega)]
    by_cases q1 : j = n * 3 + 1
    · subst q1; rw [upd_eq, show b + 1 + (n * 3 + 1) = b + 1 + n * 3 + 1 by omega, upd_eq]
    · rw [upd_ne q1, upd_ne (k := b + 1 + n * 3 + 1) (by omega)]
      by_cases q0 : j = n * 3
      · subst q0; rw [upd_eq, upd_eq]
      · rw [upd_ne q0, upd_ne (k := b + 1 + n * 3) (by omega)]; exact n4 j (by omega)
theorem RT.add4 {cap b k : Nat} {t : TS} {f : Nat → Int32} {x y z w : Int32} (h : RT cap 4 b t f) (hk : t.2 = nI k) (hkc : k < cap) (hc : cap ≤ 8) : RT cap 4 b (upd (upd (upd (upd t.1 (k * 4) x) (k * 4 + 1) y) (k * 4 + 2) z) (k * 4 + 3) w, nI (k + 1)) (upd (upd (upd (upd (upd f (b + 1 + k * 4) x) (b + 1 + k * 4 + 1) y) (b + 1 + k * 4 + 2) z) (b + 1 + k * 4 + 3) w) b (nI (k + 1))) := by
  obtain ⟨n, n1, n2, n3, n4⟩ := h
  have : n = k := (nI_eq (by omega) (by omega)).mp (n2.symm.trans hk)
  subst this
  refine ⟨n + 1, by omega, rfl, upd_eq, fun j hj => ?_⟩
  dsimp only
  rw [upd_ne (k := b) (by omega)]
  by_cases q3 : j = n * 4 + 3
  · subst q3; rw [upd_eq, show b + 1 + (n * 4 + 3) = b + 1 + n * 4 + 3 by omega, upd_eq]
  · rw [upd_ne q3, upd_ne (k := b + 1 + n * 4 + 3) (by omega)]
    by_cases q2 : j = n * 4 + 2
    · subst q2; rw [upd_eq, show b + 1 + (n * 4 + 2) = b + 1 + n * 4 + 2 by omega, upd_eq]
    · rw [upd_ne q2, upd_ne (k := b + 1 + n * 4 + 2) (by omega)]
      by_cases q1 : j = n * 4 + 1
      · subst q1; rw [upd_eq, show b + 1 + (n * 4 + 1) = b + 1 + n * 4 + 1 by omega, upd_eq]
      · rw [upd_ne q1, upd_ne (k := b + 1 + n * 4 + 1) (by omega)]
        by_cases q0 : j = n * 4
        · subst q0; rw [upd_eq, upd_eq]
        · rw [upd_ne q0, upd_ne (k := b + 1 + n * 4) (by omega)]; exact n4 j (by omega)
theorem RT.size {cap w b : Nat} {t : TS} {f : Nat → Int32} (h : RT cap w b t f) : ∃ k, k ≤ cap ∧ t.2 = nI k ∧ f b = nI k := by
  obtain ⟨n, n1, n2, n3, n4⟩ := h
  exact ⟨n, n1, n2, n3⟩
theorem ne_cap {f : Nat → Int32} {b k c : Nat} (h : f b = nI k) (hk : k < c) (hc : c ≤ 8) : ¬ f b = nI c := by
  rw [h]; intro q
  have := (nI_eq (by omega) (by omega)).mp q
  omega
theorem p_seen : st_seen Rel := by
  intro u mm x1 x2 x3 hr
  have hH := hr.1
  have hC := hH.1
  have hI := hC.1
  by_cases hi : isS u.1 x1
  · refine r_isSoul1 hI hi (z1 ?_)
    by_cases h2 : vp_in x2 100
    · refine r_within1 100 rfl (by decide) h2 (z1 ?_)
      by_cases h3 : vp_in x3 41
      · refine r_within1 41 rfl (by decide) h3 (y1 ?_)
        obtain ⟨k, k1, k2, k3⟩ := hH.2.2.2.1.size
        rcases Nat.lt_or_ge k 5 with q | q
        · refine r_tfull0 TM_sg k2 q (z0 (r_tadd TM_sg (by decide) k2 q ?_))
          show V_X8_seen _ mm _ _ _
          refine m_isSoul1 hC hi (z1 (m_in1 100 (by decide) h2 (z1 (m_in1 41 (by decide) h3 (y1 (nf (ne_cap k3 q (by decide)) (m_comes3 (b := 30) k3 (by omega) ?_)))))))
          refine ⟨upd_eq.symm, hr.now (hH.tabs (fun j hj => ?_) (fun j h1 h2 => ?_) (hH.2.2.2.1.add3 k2 q (by decide)) (hH.2.2.2.2.1.keep (fun j h1 h2 => ?_)) hH.2.2.2.2.2.1 (hH.2.2.2.2.2.2.1.keep (fun j h1 h2 => ?_)))⟩
          all_goals rw [upd_ne (by omega), upd_ne (by omega), upd_ne (by omega), upd_ne (by omega)]
        · have e : k = 5 := by omega
          subst e
          refine r_tfull1 TM_sg k2 (z1 ?_)
          unfold V_X7_refuseFull
          show V_X8_seen _ mm _ _ _
          exact m_isSoul1 hC hi (z1 (m_in1 100 (by decide) h2 (z1 (m_in1 41 (by decide) h3 (y1 (nt k3 (And.intro rfl hr.full)))))))
      · refine r_within0 41 rfl (by decide) h3 (y0 ?_)
        unfold V_X7_seen_29 V_X7_refuseBad
        show V_X8_seen _ mm _ _ _
        exact m_isSoul1 hC hi (z1 (m_in1 100 (by decide) h2 (z1 (m_in0 41 (by decide) h3 (y0 (And.intro rfl hr.bad))))))
    · refine r_within0 100 rfl (by decide) h2 (z0 ?_)
      unfold V_X7_seen_29 V_X7_refuseBad
      show V_X8_seen _ mm _ _ _
      exact m_isSoul1 hC hi (z1 (m_in0 100 (by decide) h2 (z0 (And.intro rfl hr.bad))))
  · refine r_isSoul0 hI hi (z0 ?_)
    unfold V_X7_seen_29 V_X7_refuseBad
    show V_X8_seen _ mm _ _ _
    exact m_isSoul0 hC hi (z0 (And.intro rfl hr.bad))
theorem p_note : st_note Rel := by
  intro u mm x1 x2 x3 hr
  have hH := hr.1
  have hC := hH.1
  have hI := hC.1
  by_cases hi : vp_in x1 5
  · refine r_within1 5 rfl (by decide) hi (z1 ?_)
    by_cases h2 : vp_in x2 6
    · refine r_within1 6 rfl (by decide) h2 (z1 ?_)
      by_cases h3 : vp_in x3 21
      · refine r_within1 21 rfl (by decide) h3 (y1 ?_)
        obtain ⟨k, k1, k2, k3⟩ := hH.2.2.2.2.1.size
        rcases Nat.lt_or_ge k 6 with q | q
        · refine r_tfull0 TM_nt k2 q (z0 (r_tadd TM_nt (by decide) k2 q ?_))
          show V_X8_note _ mm _ _ _
          refine m_in1 5 (by decide) hi (z1 (m_in1 6 (by decide) h2 (z1 (m_in1 21 (by decide) h3 (y1 (nf (ne_cap k3 q (by decide)) (m_comes3 (b := 46) k3 (by omega) ?_)))))))
          refine ⟨upd_eq.symm, hr.now (hH.tabs (fun j hj => ?_) (fun j h1 h2 => ?_) (hH.2.2.2.1.keep (fun j h1 h2 => ?_)) (hH.2.2.2.2.1.add3 k2 q (by decide)) ?_ (hH.2.2.2.2.2.2.1.keep (fun j h1 h2 => ?_)))⟩
          · rw [upd_ne (by omega), upd_ne (by omega), upd_ne (by omega), upd_ne (by omega)]
          · rw [upd_ne (by omega), upd_ne (by omega), upd_ne (by omega), upd_ne (by omega)]
          · rw [upd_ne (by omega), upd_ne (by omega), upd_ne (by omega), upd_ne (by omega)]
          · intro n e hn6 j hj
            have en : n = k + 1 := ((nI_eq (a := k + 1) (b := n) (by omega) (by omega)).mp e).symm
            subst en
            show vp_in (upd (upd (upd _ (k * 3) x1) (k * 3 + 1) x2) (k * 3 + 2) x3 (j * 3 + 1)) 6
            rw [upd_ne (by omega)]
            by_cases ej : j = k
            · subst ej; rw [upd_eq]; exact h2
            · rw [upd_ne (by omega), upd_ne (by omega)]
              exact hH.2.2.2.2.2.1 k k2 (by omega) j (by omega)
          · rw [upd_ne (by omega), upd_ne (by omega), upd_ne (by omega), upd_ne (by omega)]
        · have e : k = 6 := by omega
          subst e
          refine r_tfull1 TM_nt k2 (z1 ?_)
          unfold V_X7_refuseFull
          show V_X8_note _ mm _ _ _
          exact m_in1 5 (by decide) hi (z1 (m_in1 6 (by decide) h2 (z1 (m_in1 21 (by decide) h3 (y1 (nt k3 (And.intro rfl hr.full)))))))
      · refine r_within0 21 rfl (by decide) h3 (y0 ?_)
        unfold V_X7_note_26 V_X7_refuseBad
        show V_X8_note _ mm _ _ _
        exact m_in1 5 (by decide) hi (z1 (m_in1 6 (by decide) h2 (z1 (m_in0 21 (by decide) h3 (y0 (And.intro rfl hr.bad))))))
    · refine r_within0 6 rfl (by decide) h2 (z0 ?_)
      unfold V_X7_note_26 V_X7_refuseBad
      show V_X8_note _ mm _ _ _
      exact m_in1 5 (by decide) hi (z1 (m_in0 6 (by decide) h2 (z0 (And.intro rfl hr.bad))))
  · refine r_within0 5 rfl (by decide) hi (z0 ?_)
    unfold V_X7_note_26 V_X7_refuseBad
    show V_X8_note _ mm _ _ _
    exact m_in0 5 (by decide) hi (z0 (And.intro rfl hr.bad))
theorem p_mark : st_mark Rel := by
  intro u mm x1 x2 x3 x4 hr
  have hH := hr.1
  have hC := hH.1
  have hI := hC.1
  by_cases hi : isS u.1 x1
  · refine r_isSoul1 hI hi (z1 ?_)
    by_cases h2 : vp_in x2 6
    · refine r_within1 6 rfl (by decide) h2 (z1 ?_)
      by_cases h3 : vp_in x3 100
      · refine r_within1 100 rfl (by decide) h3 (z1 ?_)
        by_cases h4 : vp_in x4 41
        · refine r_within1 41 rfl (by decide) h4 (y1 ?_)
          obtain ⟨k, k1, k2, k3⟩ := hH.2.2.2.2.2.2.1.size
          rcases Nat.lt_or_ge k 6 with q | q
          · refine r_tfull0 TM_mk k2 q (z0 (r_tadd4 TM_mk (by decide) k2 q ?_))
            show V_X8_mark _ mm _ _ _ _
            refine m_isSoul1 hC hi (z1 (m_in1 6 (by decide) h2 (z1 (m_in1 100 (by decide) h3 (z1 (m_in1 41 (by decide) h4 (y1 (nf (ne_cap k3 q (by decide)) (m_comes4 (b := 65) k3 (by omega) ?_)))))))))
            refine ⟨upd_eq.symm, hr.now (hH.tabs (fun j hj => ?_) (fun j h1 h2 => ?_) (hH.2.2.2.1.keep (fun j h1 h2 => ?_)) (hH.2.2.2.2.1.keep (fun j h1 h2 => ?_)) hH.2.2.2.2.2.1 (hH.2.2.2.2.2.2.1.add4 k2 q (by decide)))⟩
            all_goals rw [upd_ne (by omega), upd_ne (by omega), upd_ne (by omega), upd_ne (by omega), upd_ne (by omega)]
          · have e : k = 6 := by omega
            subst e
            refine r_tfull1 TM_mk k2 (z1 ?_)
            unfold V_X7_refuseFull
            show V_X8_mark _ mm _ _ _ _
            exact m_isSoul1 hC hi (z1 (m_in1 6 (by decide) h2 (z1 (m_in1 100 (by decide) h3 (z1 (m_in1 41 (by decide) h4 (y1 (nt k3 (And.intro rfl hr.full)))))))))
        · refine r_within0 41 rfl (by decide) h4 (y0 ?_)
          unfold V_X7_mark_39 V_X7_refuseBad
          show V_X8_mark _ mm _ _ _ _
          exact m_isSoul1 hC hi (z1 (m_in1 6 (by decide) h2 (z1 (m_in1 100 (by decide) h3 (z1 (m_in0 41 (by decide) h4 (y0 (And.intro rfl hr.bad))))))))
      · refine r_within0 100 rfl (by decide) h3 (z0 ?_)
        unfold V_X7_mark_39 V_X7_refuseBad
        show V_X8_mark _ mm _ _ _ _
        exact m_isSoul1 hC hi (z1 (m_in1 6 (by decide) h2 (z1 (m_in0 100 (by decide) h3 (z0 (And.intro rfl hr.bad))))))
    · refine r_within0 6 rfl (by decide) h2 (z0 ?_)
      unfold V_X7_mark_39 V_X7_refuseBad
      show V_X8_mark _ mm _ _ _ _
      exact m_isSoul1 hC hi (z1 (m_in0 6 (by decide) h2 (z0 (And.intro rfl hr.bad))))
  · refine r_isSoul0 hI hi (z0 ?_)
    unfold V_X7_mark_39 V_X7_refuseBad
    show V_X8_mark _ mm _ _ _ _
    exact m_isSoul0 hC hi (z0 (And.intro rfl hr.bad))
theorem RT.none {cap w b : Nat} {t : TS} {f : Nat → Int32} : RT cap w b (t.1, 0) (upd f b 0) := ⟨0, by omega, rfl, upd_eq, fun j hj => absurd hj (by omega)⟩
theorem NS.none {t : TS} : NS (t.1, 0) := by
  intro n e hn6 j hj
  have : n = 0 := ((nI_eq (a := 0) (b := n) (by omega) (by omega)).mp e).symm
  omega
theorem p_forget : st_forget Rel := by
  intro u mm x1 hr
  have hH := hr.1
  obtain ⟨g1, g2, g3, g4, g5, g6, g7, g8⟩ := id hH
  by_cases h : vp_in x1 3
  · rcases three h with e | e | e
    · subst e
      refine ⟨fun _ => ?_, fun z => absurd z (by decide), fun z => absurd z (by decide), fun z => absurd rfl z.1⟩
      unfold V_X4_empty
      show V_X8_forget _ mm _
      refine m_in1 3 (by decide) h (y1 (nt rfl ⟨vp_in_nI (n := 30) (by decide) (by decide), vp_in_nI (n := 30) (by decide) (by decide), ?_⟩))
      obtain ⟨k, k1, k2, k3⟩ := g4.size
      refine ⟨k2.trans k3.symm, hr.now (hH.tabs (fun j hj => upd_ne (by show ¬ j = 30; omega)) (fun j h1 h2 => upd_ne (by show ¬ j = 30; omega)) RT.none (g5.keep (fun j h1 h2 => upd_ne (by show ¬ j = 30; omega))) g6 (g7.keep (fun j h1 h2 => upd_ne (by show ¬ j = 30; omega))))⟩
    · subst e
      refine ⟨fun z => absurd z (by decide), fun _ => ?_, fun z => absurd z (by decide), fun z => absurd rfl z.2.1⟩
      unfold V_X4_empty
      show V_X8_forget _ mm _
      refine m_in1 3 (by decide) h (y1 (nf (by decide) (nt rfl ⟨vp_in_nI (n := 46) (by decide) (by decide), vp_in_nI (n := 46) (by decide) (by decide), ?_⟩)))
      obtain ⟨k, k1, k2, k3⟩ := g5.size
      refine ⟨k2.trans k3.symm, hr.now (hH.tabs (fun j hj => upd_ne (by show ¬ j = 46; omega)) (fun j h1 h2 => upd_ne (by show ¬ j = 46; omega)) (g4.keep (fun j h1 h2 => upd_ne (by show ¬ j = 46; omega))) RT.none NS.none (g7.keep (fun j h1 h2 => upd_ne (by show ¬ j = 46; omega))))⟩
    · subst e
      refine ⟨fun z => absurd z (by decide), fun z => absurd z (by decide), fun _ => ?_, fun z => absurd rfl z.2.2⟩
      unfold V_X4_empty
      show V_X8_forget _ mm _
      refine m_in1 3 (by decide) h (y1 (nf (by decide) (nf (by decide) ⟨vp_in_nI (n := 65) (by decide) (by decide), vp_in_nI (n := 65) (by decide) (by decide), ?_⟩)))
      obtain ⟨k, k1, k2, k3⟩ := g7.size
      refine ⟨k2.trans k3.symm, hr.now (hH.tabs (fun j hj => upd_ne (by show ¬ j = 65; omega)) (fun j h1 h2 => upd_ne (by show ¬ j = 65; omega)) (g4.keep (fun j h1 h2 => upd_ne (by show ¬ j = 65; omega))) (g5.keep (fun j h1 h2 => upd_ne (by show ¬ j = 65; omega))) g6 RT.none)⟩
  · have n := three_n h
    refine ⟨fun z => absurd z n.1, fun z => absurd z n.2.1, fun z => absurd z n.2.2, fun _ => ?_⟩
    unfold V_X7_refuseBad
    show V_X8_forget _ mm _
    exact m_in0 3 (by decide) h (y0 (And.intro rfl hr.bad))
