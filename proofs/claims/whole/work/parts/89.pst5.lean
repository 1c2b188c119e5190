/-! ===== steps: of, about, makes, status, part, clear, type ===== -/
theorem three {x : Int32} (h : vp_in x 3) : x = 0 ∨ x = 1 ∨ x = 2 := by
  obtain ⟨j, hj, rfl⟩ := vp_in_of h (by decide)
  have : j = 0 ∨ j = 1 ∨ j = 2 := by omega
  rcases this with rfl | rfl | rfl
  · exact Or.inl rfl
  · exact Or.inr (Or.inl rfl)
  · exact Or.inr (Or.inr rfl)
theorem three_n {x : Int32} (h : ¬ vp_in x 3) : ¬ x = 0 ∧ ¬ x = 1 ∧ ¬ x = 2 :=
  ⟨fun q => h (by rw [q]; exact vp_in_nI (n := 0) (by decide) (by decide)), fun q => h (by rw [q]; exact vp_in_nI (n := 1) (by decide) (by decide)), fun q => h (by rw [q]; exact vp_in_nI (n := 2) (by decide) (by decide))⟩
theorem p_of : st_of Rel := by
  intro u mm x1 x2 hr
  have hH := hr.1
  have hC := hH.1
  have hI := hC.1
  by_cases hi : isS u.1 x1
  · refine r_isSoul1 hI hi (z1 ?_)
    by_cases h2 : vp_in x2 3
    · refine r_within1 3 rfl (by decide) h2 (y1 ?_)
      have h7 := hi.in7 hI
      obtain ⟨i, i1, rfl, i7⟩ := hi.of hI
      have hcl : (nI i).toNatClampNeg = i := nI_clamp (by omega)
      have q := hC.2.2.2.2.2.2.1 i i1
      rw [hcl]
      rcases three h2 with e | e | e
      · subst e
        refine ⟨fun _ => ⟨h7, ?_⟩, fun z => absurd z (by decide), fun z => absurd rfl z.1⟩
        show V_X8_of _ mm _ _
        refine m_isSoul1 hC hi (z1 (m_in1 3 (by decide) h2 (y1 (bf (by decide) (m_soulOf 0 i7 (by decide) ?_)))))
        exact ⟨q.1, hr⟩
      · subst e
        refine ⟨fun z => absurd z (by decide), fun _ => ⟨h7, ?_⟩, fun z => absurd rfl z.2⟩
        show V_X8_of _ mm _ _
        refine m_isSoul1 hC hi (z1 (m_in1 3 (by decide) h2 (y1 (bf (by decide) (m_soulOf 1 i7 (by decide) ?_)))))
        rw [show 9 + 3 * i + 1 = 10 + 3 * i by omega]
        exact ⟨q.2.1, hr⟩
      · subst e
        refine ⟨fun z => absurd z (by decide), fun z => absurd z (by decide), fun _ => ⟨h7, ?_⟩⟩
        show V_X8_of _ mm _ _
        exact m_isSoul1 hC hi (z1 (m_in1 3 (by decide) h2 (y1 (bt (by decide) (m_cellOf hC i1 (And.intro rfl hr))))))
    · refine r_within0 3 rfl (by decide) h2 (y0 ?_)
      show V_X8_of _ mm _ _
      exact m_isSoul1 hC hi (z1 (m_in0 3 (by decide) h2 (y0 (And.intro rfl hr.bad))))
  · refine r_isSoul0 hI hi (z0 ?_)
    show V_X8_of _ mm _ _
    exact m_isSoul0 hC hi (z0 (And.intro rfl hr.bad))
theorem p_about : st_about Rel := by
  intro u mm x1 x2 hr
  have hH := hr.1
  have hC := hH.1
  have hI := hC.1
  have eco : hco u.1 = mm.1 5 := hC.2.2.2.1
  by_cases hc : vp_in x1 30
  · refine r_within1 30 rfl (by decide) hc (z1 ?_)
    by_cases h2 : vp_in x2 5
    · refine r_within1 5 rfl (by decide) h2 (y1 ?_)
      obtain ⟨j, hj, rfl⟩ := vp_in_of h2 (by decide)
      have : j = 0 ∨ j = 1 ∨ j = 2 ∨ j = 3 ∨ j = 4 := by omega
      rcases this with rfl | rfl | rfl | rfl | rfl
      · refine ⟨fun _ => ⟨vi_row hc, ?_⟩, fun z => absurd z (by decide), fun z => absurd z (by decide), fun z => absurd z (by decide), fun z => absurd rfl z.1⟩
        show V_X8_about _ mm _ _
        refine m_isCell1 hc (y1 ⟨fun _ => ⟨vi_mono (vi_row hc) (by decide), ?_⟩, fun z => absurd z (by decide), fun z => absurd z (by decide), fun z => absurd z (by decide), fun z => absurd z (by decide), fun z => absurd rfl z.1⟩)
        obtain ⟨r, r5, er⟩ := vp_in_of (vi_row hc) (by decide)
        have ecl : (x1 / 6).toNatClampNeg = r := by rw [er]; exact nI_clamp (by omega)
        rw [ecl]
        exact ⟨(hC.2.2.1 r r5).1, hr⟩
      · refine ⟨fun z => absurd z (by decide), fun _ => r_sitterAt hI ?_, fun z => absurd z (by decide), fun z => absurd z (by decide), fun z => absurd rfl z.2.1⟩
        show V_X8_about _ mm _ _
        exact m_isCell1 hc (y1 ⟨fun z => absurd z (by decide), fun _ => m_whoSits hC (And.intro rfl hr), fun z => absurd z (by decide), fun z => absurd z (by decide), fun z => absurd z (by decide), fun z => absurd rfl z.2.1⟩)
      · refine ⟨fun z => absurd z (by decide), fun z => absurd z (by decide), fun _ => ?_, fun z => absurd z (by decide), fun z => absurd rfl z.2.2.1⟩
        by_cases h9 : hasB (hco u.1) x1
        · refine r_hasCoat1 h9 (z1 ?_)
          show V_X8_about _ mm _ _
          exact m_isCell1 hc (y1 ⟨fun z => absurd z (by decide), fun z => absurd z (by decide), fun _ => m_has1 (by rw [← eco]; exact h9) (z1 (And.intro rfl hr)), fun z => absurd z (by decide), fun z => absurd z (by decide), fun z => absurd rfl z.2.2.1⟩)
        · refine r_hasCoat0 h9 (z0 ?_)
          show V_X8_about _ mm _ _
          exact m_isCell1 hc (y1 ⟨fun z => absurd z (by decide), fun z => absurd z (by decide), fun _ => m_has0 (by rw [← eco]; exact h9) (z0 (And.intro rfl hr)), fun z => absurd z (by decide), fun z => absurd z (by decide), fun z => absurd rfl z.2.2.1⟩)
      · refine ⟨fun z => absurd z (by decide), fun z => absurd z (by decide), fun z => absurd z (by decide), fun _ => r_kneesTo hI ?_, fun z => absurd rfl z.2.2.2⟩
        show V_X8_about _ mm _ _
        refine m_isCell1 hc (y1 ⟨fun z => absurd z (by decide), fun z => absurd z (by decide), fun z => absurd z (by decide), fun _ => m_knees hC ?_, fun z => absurd z (by decide), fun z => absurd rfl z.2.2.2.1⟩)
        rw [kneesB_none hI]
        exact ⟨rfl, hr⟩
      · refine ⟨fun z => absurd z (by decide), fun z => absurd z (by decide), fun z => absurd z (by decide), fun z => absurd z (by decide), fun _ => r_sightFrom hc ?_⟩
        show V_X8_about _ mm _ _
        exact m_isCell1 hc (y1 ⟨fun z => absurd z (by decide), fun z => absurd z (by decide), fun z => absurd z (by decide), fun z => absurd z (by decide), fun _ => m_seesFrom hC hc (And.intro rfl hr), fun z => absurd rfl z.2.2.2.2⟩)
    · refine r_within0 5 rfl (by decide) h2 (y0 ?_)
      unfold V_X7_about_17 V_X7_refuseBad
      show V_X8_about _ mm _ _
      have n : ∀ k : Nat, k < 5 → ¬ x2 = nI k := fun k hk q => h2 (by rw [q]; exact vp_in_nI hk (by decide))
      exact m_isCell1 hc (y1 ⟨fun z => absurd z (n 0 (by decide)), fun z => absurd z (n 1 (by decide)), fun z => absurd z (n 2 (by decide)), fun z => absurd z (n 3 (by decide)), fun z => absurd z (n 4 (by decide)), fun _ => And.intro rfl hr.bad⟩)
  · refine r_within0 30 rfl (by decide) hc (z0 ?_)
    unfold V_X7_about_17 V_X7_refuseBad
    show V_X8_about _ mm _ _
    exact m_isCell0 hc (y0 (And.intro rfl hr.bad))
theorem m_isOut1 {K : Int32 → Prop} {u : HS} {mm : MS} {i : Nat} (h : RC u mm.1) (hi : i < HN u) (ho : hce u i = -1) (k : K 1) : V_X8_isOut K mm (nI i) := m_cellOf h hi (nt ho k)
theorem m_isOut0 {K : Int32 → Prop} {u : HS} {mm : MS} {i : Nat} (h : RC u mm.1) (hi : i < HN u) (ho : ¬ hce u i = -1) (k : K 0) : V_X8_isOut K mm (nI i) := m_cellOf h hi (nf ho k)
theorem p_makes : st_makes Rel := by
  intro u mm x1 x2 hr
  have hH := hr.1
  have hC := hH.1
  have hI := hC.1
  by_cases hi : isS u.1 x1
  · refine r_isSoul1 hI hi (z1 ?_)
    by_cases hc : vp_in x2 30
    · refine r_within1 30 rfl (by decide) hc (y1 ?_)
      have h7 := hi.in7 hI
      obtain ⟨i, i1, rfl, i7⟩ := hi.of hI
      have hcl : (nI i).toNatClampNeg = i := nI_clamp (by omega)
      by_cases ho : hce u.1 i = -1
      · refine r_sits0 h7 (by rw [hcl]; exact ho) (z0 (r_fussTo hI h7 ?_))
        show V_X8_makes _ mm _ _
        refine m_isSoul1 hC hi (z1 (m_isCell1 hc (y1 (m_isOut1 hC i1 ho (z1 (m_makesBy hC i1 ?_))))))
        exact ⟨(fussH_at hI i1 hc (Or.inl ho)).symm, hr⟩
      · refine r_sits1 h7 (by rw [hcl]; exact ho) (z1 ?_)
        show V_X8_makes _ mm _ _
        exact m_isSoul1 hC hi (z1 (m_isCell1 hc (y1 (m_isOut0 hC i1 ho (z0 (And.intro rfl hr.no))))))
    · refine r_within0 30 rfl (by decide) hc (y0 ?_)
      show V_X8_makes _ mm _ _
      exact m_isSoul1 hC hi (z1 (m_isCell0 hc (y0 (And.intro rfl hr.bad))))
  · refine r_isSoul0 hI hi (z0 ?_)
    show V_X8_makes _ mm _ _
    exact m_isSoul0 hC hi (z0 (And.intro rfl hr.bad))
theorem p_status : st_status Rel := by
  intro u mm x1 hr
  obtain ⟨h1, a1, a2, a3, a4, a5, a6, a7, a8, a9⟩ := id hr
  by_cases h : vp_in x1 3
  · rcases three h with e | e | e
    · subst e
      refine ⟨fun _ => ?_, fun z => absurd z (by decide), fun z => absurd z (by decide), fun z => absurd rfl z.1⟩
      show V_X8_status _ mm _
      exact m_in1 3 (by decide) h (y1 ⟨h, And.intro a7 hr⟩)
    · subst e
      refine ⟨fun z => absurd z (by decide), fun _ => ?_, fun z => absurd z (by decide), fun z => absurd rfl z.2.1⟩
      show V_X8_status _ mm _
      exact m_in1 3 (by decide) h (y1 ⟨h, And.intro a8 hr⟩)
    · subst e
      refine ⟨fun z => absurd z (by decide), fun z => absurd z (by decide), fun _ => ?_, fun z => absurd rfl z.2.2⟩
      show V_X8_status _ mm _
      exact m_in1 3 (by decide) h (y1 ⟨h, And.intro a9 hr⟩)
  · have n := three_n h
    refine ⟨fun z => absurd z n.1, fun z => absurd z n.2.1, fun z => absurd z n.2.2, fun _ => ?_⟩
    unfold V_X7_refuseBad
    show V_X8_status _ mm _
    exact m_in0 3 (by decide) h (y0 (And.intro rfl hr.bad))
theorem p_part : st_part Rel := by
  intro u mm x1 hr
  obtain ⟨h1, a1, a2, a3, a4, a5, a6, a7, a8, a9⟩ := id hr
  by_cases h0 : x1 = 0
  · subst h0
    refine ⟨fun _ => ?_, fun z => absurd z (by decide), fun z => absurd rfl z.1⟩
    show V_X8_part _ mm _
    exact m_in1 2 (by decide) (vp_in_nI (n := 0) (by decide) (by decide)) (z1 (nt rfl (And.intro a5 hr)))
  · by_cases h1' : x1 = 1
    · subst h1'
      refine ⟨fun z => absurd z (by decide), fun _ => ?_, fun z => absurd rfl z.2⟩
      show V_X8_part _ mm _
      exact m_in1 2 (by decide) (vp_in_nI (n := 1) (by decide) (by decide)) (z1 (nf (by decide) (And.intro a6 hr)))
    · refine ⟨fun z => absurd z h0, fun z => absurd z h1', fun _ => ?_⟩
      unfold V_X7_refuseBad
      show V_X8_part _ mm _
      refine m_in0 2 (by decide) (fun h => ?_) (z0 (And.intro rfl hr.bad))
      obtain ⟨j, hj, rfl⟩ := vp_in_of h (by decide)
      have : j = 0 ∨ j = 1 := by omega
      rcases this with rfl | rfl
      · exact h0 rfl
      · exact h1' rfl
theorem p_clear : st_clear Rel := by
  intro u mm hr
  obtain ⟨h1, a1, a2, a3, ⟨n, n1, n2, n3, n4⟩, a5⟩ := id hr
  unfold V_X7_clear V_X6_empty
  show V_X8_clear _ mm
  exact And.intro (n2.trans n3.symm) ⟨h1, a1, a2, a3, ⟨0, by omega, rfl, rfl, fun j hj => absurd hj (by omega)⟩, a5⟩
theorem byte_ok : ∀ j : Nat, j < 128 → vp_nar .byte ((nI j).toInt8.toInt32) = nI j := by decide +kernel
theorem p_type : st_type Rel := by
  intro u mm x1 hr
  obtain ⟨h1, a1, a2, a3, ⟨n, n1, n2, n3, n4⟩, a5⟩ := id hr
  have badc : ¬ vp_in x1 128 → V_X7_type_10 (fun r u2 => V_X8_type (fun r2 mm2 => r = r2 ∧ Rel u2 mm2) mm x1) u := by
    intro h
    unfold V_X7_type_10 V_X7_refuseBad
    show V_X8_type _ mm _
    exact m_in0 128 (by decide) h (y0 (And.intro rfl hr.bad))
  by_cases h : vp_in x1 128
  · refine bf (vi_0 h) ?_
    obtain ⟨c, hc, rfl⟩ := vp_in_of h (by decide)
    refine bt (nI_le (b := 127) (by omega) (by decide)) ?_
    rcases Nat.lt_or_ge n 150 with q | q
    · refine bt (by rw [n2]; exact nI_lt (b := 150) q (by decide)) (z0 ?_)
      refine bf (by rw [n2]; exact nI_ge (b := n) (a := 150) |> fun _ => nI_ge (a := n) (b := 150) q (by decide)) ⟨by rw [n2]; exact vp_in_nI q (by decide), ?_⟩
      show V_X8_type _ mm _
      have ne : ¬ mm.2.2.2.2.2.2.2.2.1 = 150 := by
        rw [n3]; intro z
        have := (nI_eq (b := 150) (by omega) (by decide)).mp z
        omega
      refine m_in1 128 (by decide) h (y1 (nf ne ⟨by rw [n3]; exact vp_in_nI q (by decide), ?_⟩))
      rw [n2, n3, nI_clamp (by omega), nI_1]
      refine ⟨rfl, h1, a1, a2, a3, ⟨n + 1, by omega, rfl, rfl, fun j hj => ?_⟩, a5⟩
      show upd u.2.2.2.2.2.1.2.1 n _ j = upd mm.2.2.2.2.2.2.2.1 n (nI c) j ∧ vp_in (upd mm.2.2.2.2.2.2.2.1 n (nI c) j) 128
      by_cases e : j = n
      · subst e
        rw [upd_eq, upd_eq, byte_ok c hc]
        exact ⟨rfl, h⟩
      · rw [upd_ne e, upd_ne e]
        exact n4 j (by omega)
    · have e : n = 150 := by omega
      subst e
      refine bf (by rw [n2]; decide) (z1 ?_)
      unfold V_X7_refuseFull
      show V_X8_type _ mm _
      exact m_in1 128 (by decide) h (y1 (nt n3 (And.intro rfl hr.full)))
  · rcases vi_not h (by decide) with q | q
    · exact bt q (badc h)
    · refine ⟨fun _ => badc h, fun _ => bf (fun z => ?_) (badc h)⟩
      have a1 := Int32.le_iff_toInt_le.mp q
      have a2 := Int32.le_iff_toInt_le.mp z
      have b1 : (nI 128).toInt = 128 := by decide
      have b2 : (127 : Int32).toInt = 127 := by decide
      omega
