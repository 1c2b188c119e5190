/-! ===== steps: the hall and its souls ===== -/
theorem s_mi {u : HS} {f : Nat → Int32} (h : RH u f) : (hmi u < 9999 ∧ ¬ f 6 = 9999 ∧ vp_in (hmi u + 1) 10000) ∨ (¬ hmi u < 9999 ∧ f 6 = 9999) := by
  have e : hmi u = f 6 := h.1.2.2.2.2.1
  obtain ⟨t, ht, et⟩ := vp_in_of h.2.2.1 (by decide)
  rw [← e, et]
  rcases Nat.lt_or_ge t 9999 with q | q
  · refine Or.inl ⟨nI_lt (b := 9999) q (by decide), fun z => ?_, by rw [nI_1]; exact vp_in_nI (by omega) (by decide)⟩
    have := (nI_eq (b := 9999) (by omega) (by decide)).mp z
    omega
  · have : t = 9999 := by omega
    subst this
    exact Or.inr ⟨by decide, rfl⟩
theorem p_shows : st_shows Rel := by
  intro u mm x1 x2 hr
  have hH := hr.1
  have hC := hH.1
  have hI := hC.1
  by_cases hi : isS u.1 x1
  · refine r_isSoul1 hI hi (z1 ?_)
    by_cases hc : vp_in x2 30
    · refine r_within1 30 rfl (by decide) hc (y1 ?_)
      obtain ⟨i, i1, rfl, i7⟩ := hi.of hI
      have hcl : (nI i).toNatClampNeg = i := nI_clamp (by omega)
      by_cases ho : hce u.1 i = -1
      · refine r_sits0 (hi.in7 hI) (by rw [hcl]; exact ho) (y0 ?_)
        by_cases hf : freeH u.1 x2
        · refine r_isFree1 hI hf (z1 ?_)
          rcases s_mi hH with ⟨m1, m2, m3⟩ | ⟨m1, m2⟩
          · refine bt m1 ?_
            obtain ⟨k, k1, k2, k3⟩ := hH.past
            refine r_remember hI k2 k1 (fun p hp => ?_)
            refine r_showIn (u := setPa u.1 p) hI (hi.in7 hI) ?_
            refine m_isSoul1 hC hi (z1 (m_isCell1 hc (y1 (m_cellOf hC i1 (nt ho (m_isFree1 hC hf (z1 (nf m2 (m_keep k3 k1 (fun g hg => ?_)))))))))) 
            have hK := hH.keep k2 k1 hp hg
            refine m_goes hK.1 i1 ?_
            have e0 : makesB (setPa u.1 p) i (hce (setPa u.1 p) i) = 0 := by
              have : hce (setPa u.1 p) i = -1 := ho
              rw [this]; rfl
            have e1 : makesB (setPa u.1 p) i x2 = fussH (setPa u.1 p) (nI i) x2 := by
              unfold makesB
              have hn1 : ¬ x2 = -1 := fun q => by rw [q] at hc; exact absurd hc (by unfold vp_in; decide)
              rw [if_neg hn1]
              exact fussH_at (u := setPa u.1 p) hI i1 hc (Or.inl ho)
            rw [e0, e1, i32_0p]
            exact ⟨rfl, hr.now (hK.go m3 i1 (Or.inr ⟨hc, (whoH_none hI).mp hf.1⟩) _)⟩
          · refine bf m1 ?_
            show V_X8_shows _ mm _ _
            exact m_isSoul1 hC hi (z1 (m_isCell1 hc (y1 (m_cellOf hC i1 (nt ho (m_isFree1 hC hf (z1 (nt m2 (And.intro rfl hr.no)))))))))
        · refine r_isFree0 hI hf (z0 ?_)
          show V_X8_shows _ mm _ _
          exact m_isSoul1 hC hi (z1 (m_isCell1 hc (y1 (m_cellOf hC i1 (nt ho (m_isFree0 hC hf (z0 (And.intro rfl hr.no))))))))
      · refine r_sits1 (hi.in7 hI) (by rw [hcl]; exact ho) (y1 ?_)
        show V_X8_shows _ mm _ _
        exact m_isSoul1 hC hi (z1 (m_isCell1 hc (y1 (m_cellOf hC i1 (nf ho (And.intro rfl hr.no))))))
    · refine r_within0 30 rfl (by decide) hc (y0 ?_)
      show V_X8_shows _ mm _ _
      exact m_isSoul1 hC hi (z1 (m_isCell0 hc (y0 (And.intro rfl hr.bad))))
  · refine r_isSoul0 hI hi (z0 ?_)
    show V_X8_shows _ mm _ _
    exact m_isSoul0 hC hi (z0 (And.intro rfl hr.bad))
theorem upd_upd (f : Nat → Int32) (k : Nat) (a b : Int32) : upd (upd f k a) k b = upd f k b := by
  funext j
  by_cases e : j = k
  · subst e; rw [upd_eq, upd_eq]
  · rw [upd_ne e, upd_ne e, upd_ne e]
theorem cell_ne {c : Int32} (h : vp_in c 30) : ¬ c = -1 := fun q => by rw [q] at h; exact absurd h (by unfold vp_in; decide)
theorem makesB_own {u : HS} {f : Nat → Int32} (h : RC u f) {i : Nat} (hi : i < HN u) (ho : ¬ hce u i = -1) : makesB u i (hce u i) = fussH u (nI i) (hce u i) := by
  unfold makesB
  rw [if_neg ho]
  have hc : vp_in (hce u i) 30 := (h.2.2.2.2.2.2.2.1 i hi).resolve_left ho
  exact fussH_at h.1 hi hc (Or.inr rfl)
theorem knees_off {u : HS} (h : HI u) {i : Nat} (hi : i < HN u) {c : Int32} (hc : vp_in c 30) : kneesB u c (nI i) = kneesH (setCe u (nI i) (-1)) c := by
  have h7 := h.2
  have hcl : (nI i).toNatClampNeg = i := nI_clamp (by omega)
  refine cnt_congr _ _ (fun j _ hj => ?_)
  show decide (¬ nI j = nI i ∧ ¬ hce u j < aisleV c ∧ ¬ c ≤ hce u j) = decide (¬ upd (hce u) (nI i).toNatClampNeg (-1) j < aisleV c ∧ ¬ c ≤ upd (hce u) (nI i).toNatClampNeg (-1) j)
  rw [hcl]
  by_cases e : j = i
  · subst e
    rw [upd_eq]
    have h3 := Int32.not_lt.mp (ai_nn hc)
    have h4 : (-1 : Int32) < 0 := by decide
    have h5 : (-1 : Int32) < aisleV c := Int32.lt_of_lt_of_le h4 h3
    simp [h5]
  · rw [upd_ne e]
    have : ¬ nI j = nI i := fun q => e ((nI_eq (by omega) (by omega)).mp q)
    simp [this]
theorem p_moves : st_moves Rel := by
  intro u mm x1 x2 hr
  have hH := hr.1
  have hC := hH.1
  have hI := hC.1
  by_cases hi : isS u.1 x1
  · refine r_isSoul1 hI hi (z1 ?_)
    by_cases hc : vp_in x2 30
    · refine r_within1 30 rfl (by decide) hc (y1 ?_)
      obtain ⟨i, i1, rfl, i7⟩ := hi.of hI
      have hcl : (nI i).toNatClampNeg = i := nI_clamp (by omega)
      by_cases ho : hce u.1 i = -1
      · refine r_sits0 (hi.in7 hI) (by rw [hcl]; exact ho) (z0 ?_)
        show V_X8_moves _ mm _ _
        exact m_isSoul1 hC hi (z1 (m_isCell1 hc (y1 (m_cellOf hC i1 (bt ho (And.intro rfl hr.no))))))
      · refine r_sits1 (hi.in7 hI) (by rw [hcl]; exact ho) (z1 ?_)
        by_cases hf : freeH u.1 x2
        · refine r_isFree1 hI hf (z1 ?_)
          rcases s_mi hH with ⟨m1, m2, m3⟩ | ⟨m1, m2⟩
          · refine bt m1 ?_
            obtain ⟨k, k1, k2, k3⟩ := hH.past
            refine r_remember hI k2 k1 (fun p hp => ?_)
            refine r_moveTo (u := setPa u.1 p) hI (hi.in7 hI) ?_
            rw [hcl]
            show V_X8_moves _ mm _ _
            refine m_isSoul1 hC hi (z1 (m_isCell1 hc (y1 (m_cellOf hC i1 (bf ho (m_isFree1 hC hf (z1 (nf m2 (m_keep k3 k1 (fun g hg => ?_))))))))))
            have hK := hH.keep k2 k1 hp hg
            refine m_goes hK.1 i1 ?_
            have e0 : makesB (setPa u.1 p) i (hce (setPa u.1 p) i) = fussH (setPa u.1 p) (nI i) (hce (setPa u.1 p) i) := makesB_own hK.1 i1 ho
            have e1 : makesB (setPa u.1 p) i x2 = fussH (setCe (setPa u.1 p) (nI i) (-1)) (nI i) x2 := by
              unfold makesB fussH
              rw [if_neg (cell_ne hc), knees_off (u := setPa u.1 p) hI i1 hc, hcl]
              rfl
            have e2 : setCe (setCe (setPa u.1 p) (nI i) (-1)) (nI i) x2 = setCe (setPa u.1 p) (nI i) x2 := by
              unfold setCe
              dsimp only
              rw [upd_upd]
            rw [e0, e1, e2]
            exact ⟨rfl, hr.now (hK.go m3 i1 (Or.inr ⟨hc, (whoH_none hI).mp hf.1⟩) _)⟩
          · refine bf m1 ?_
            show V_X8_moves _ mm _ _
            exact m_isSoul1 hC hi (z1 (m_isCell1 hc (y1 (m_cellOf hC i1 (bf ho (m_isFree1 hC hf (z1 (nt m2 (And.intro rfl hr.no)))))))))
        · refine r_isFree0 hI hf (z0 ?_)
          show V_X8_moves _ mm _ _
          exact m_isSoul1 hC hi (z1 (m_isCell1 hc (y1 (m_cellOf hC i1 (bf ho (m_isFree0 hC hf (z0 (And.intro rfl hr.no))))))))
    · refine r_within0 30 rfl (by decide) hc (y0 ?_)
      show V_X8_moves _ mm _ _
      exact m_isSoul1 hC hi (z1 (m_isCell0 hc (y0 (And.intro rfl hr.bad))))
  · refine r_isSoul0 hI hi (z0 ?_)
    show V_X8_moves _ mm _ _
    exact m_isSoul0 hC hi (z0 (And.intro rfl hr.bad))
theorem p_sends : st_sends Rel := by
  intro u mm x1 hr
  have hH := hr.1
  have hC := hH.1
  have hI := hC.1
  by_cases hi : isS u.1 x1
  · refine r_isSoul1 hI hi (y1 ?_)
    obtain ⟨i, i1, rfl, i7⟩ := hi.of hI
    have hcl : (nI i).toNatClampNeg = i := nI_clamp (by omega)
    by_cases ho : hce u.1 i = -1
    · refine r_sits0 (hi.in7 hI) (by rw [hcl]; exact ho) (z0 ?_)
      show V_X8_sends _ mm _
      exact m_isSoul1 hC hi (y1 (m_cellOf hC i1 (bt ho (And.intro rfl hr.no))))
    · refine r_sits1 (hi.in7 hI) (by rw [hcl]; exact ho) (z1 ?_)
      rcases s_mi hH with ⟨m1, m2, m3⟩ | ⟨m1, m2⟩
      · refine bt m1 ?_
        obtain ⟨k, k1, k2, k3⟩ := hH.past
        refine r_remember hI k2 k1 (fun p hp => ?_)
        refine r_sendOut (u := setPa u.1 p) hI (hi.in7 hI) ?_
        rw [hcl]
        show V_X8_sends _ mm _
        refine m_isSoul1 hC hi (y1 (m_cellOf hC i1 (bf ho (nf m2 (m_keep k3 k1 (fun g hg => ?_))))))
        have hK := hH.keep k2 k1 hp hg
        refine m_goes hK.1 i1 ?_
        have e0 : makesB (setPa u.1 p) i (hce (setPa u.1 p) i) = fussH (setPa u.1 p) (nI i) (hce (setPa u.1 p) i) := makesB_own hK.1 i1 ho
        have e1 : makesB (setPa u.1 p) i (-1) = 0 := rfl
        rw [e0, e1, i32_p0]
        exact ⟨rfl, hr.now (hK.go m3 i1 (Or.inl rfl) _)⟩
      · refine bf m1 ?_
        show V_X8_sends _ mm _
        exact m_isSoul1 hC hi (y1 (m_cellOf hC i1 (bf ho (nt m2 (And.intro rfl hr.no)))))
  · refine r_isSoul0 hI hi (y0 ?_)
    show V_X8_sends _ mm _
    exact m_isSoul0 hC hi (y0 (And.intro rfl hr.bad))
