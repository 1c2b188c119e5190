/-! ===== steps: best, whispers ===== -/
theorem fussV_t (kind k t : Int32) : fussV kind k t = fussV kind k (if t < 10 then nI 0 else nI 10) := by
  have e0 : nI 0 < 10 := by decide
  have e1 : ¬ nI 10 < 10 := by decide
  by_cases h : t < 10
  · rw [if_pos h]
    unfold fussV
    simp only [h, e0, if_true]
  · rw [if_neg h]
    unfold fussV
    simp only [h, e1, if_false]
theorem fu_dec : ∀ k : Nat, k < 16 → ∀ j : Nat, j < 6 → ((fussV (nI j) (nI k) (nI 0)).toNatClampNeg < 64 ∧ fussV (nI j) (nI k) (nI 0) = nI (fussV (nI j) (nI k) (nI 0)).toNatClampNeg) ∧ ((fussV (nI j) (nI k) (nI 10)).toNatClampNeg < 64 ∧ fussV (nI j) (nI k) (nI 10) = nI (fussV (nI j) (nI k) (nI 10)).toNatClampNeg) := by decide +kernel
theorem fu_small {kind t : Int32} {k : Nat} (hk : k < 16) (h : vp_in kind 6) : ∃ a, a < 64 ∧ fussV kind (nI k) t = nI a := by
  obtain ⟨j, hj, rfl⟩ := vp_in_of h (by decide)
  obtain ⟨⟨a1, a2⟩, ⟨b1, b2⟩⟩ := fu_dec k hk j hj
  rw [fussV_t]
  by_cases q : t < 10
  · rw [if_pos q]; exact ⟨_, a1, a2⟩
  · rw [if_neg q]; exact ⟨_, b1, b2⟩
theorem kneesH_le {u : HS} (h : HI u) (c : Int32) : kneesH u c ≤ 7 := Nat.le_trans (cnt_le _ _) h.2
theorem fussH_small {u : HS} {f : Nat → Int32} (h : RC u f) {i : Nat} (hi : i < HN u) (c : Int32) : ∃ a, a < 64 ∧ fussH u (nI i) c = nI a := by
  unfold fussH
  rw [nI_clamp (by have := h.1.2; omega)]
  exact fu_small (by have := kneesH_le h.1 c; omega) (h.2.2.2.2.2.2.1 i hi).2.2.2.1
theorem sightH_small {u : HS} {f : Nat → Int32} (h : RC u f) {c : Int32} (hc : vp_in c 30) : ∃ a, a < 16 ∧ sightH u c = nI a := by
  obtain ⟨r, hr, er⟩ := vp_in_of (vi_row hc) (by decide)
  obtain ⟨s, hs, es⟩ := vp_in_of (vi_seat hc) (by decide)
  unfold sightH
  rw [es, er, nI_clamp (by omega)]
  obtain ⟨e, v⟩ := h.2.2.1 r hr
  rw [e]
  obtain ⟨j, hj, ej⟩ := vp_in_of v (by decide)
  rw [ej]
  exact ⟨_, (sgt_dec s hs j hj).1, (sgt_dec s hs j hj).2⟩
def worthH (u : HS) (i : Nat) (c : Int32) : Int32 := sightH u c - fussH u (nI i) c
theorem worth_big {u : HS} {f : Nat → Int32} (h : RC u f) {i : Nat} (hi : i < HN u) {c : Int32} (hc : vp_in c 30) : ¬ worthH u i c ≤ -1000 := by
  obtain ⟨a, ha, ea⟩ := sightH_small h hc
  obtain ⟨b, hb, eb⟩ := fussH_small h hi c
  unfold worthH
  rw [ea, eb, Int32.le_iff_toInt_le, pk_sub_toInt (by omega) (by omega), show (-1000 : Int32).toInt = -1000 by decide]
  omega
theorem r_worth {K : Int32 → Prop} {u : US} {i : Nat} {c : Int32} (h : HI u.1) (hi : i < 7) (hc : vp_in c 30) (k : K (worthH u.1 i c)) : V_X7_worth K u (nI i) c := r_sightFrom hc (r_fussTo h (vp_in_nI hi (by decide)) k)
def bcF (p : Nat → Bool) (w : Int32 → Int32) : Nat → Nat → Int32 → Int32
  | 0, _, x => x
  | k + 1, c, x => bcF p w k (c + 1) (if p c = true then (if x = -1 then nI c else if w (nI c) ≤ w x then x else nI c) else x)
def cellOr (x : Int32) : Prop := x = -1 ∨ vp_in x 30
theorem bcF_cell {p : Nat → Bool} {w : Int32 → Int32} : ∀ (k c : Nat) (x : Int32), c + k = 30 → cellOr x → cellOr (bcF p w k c x)
  | 0, c, x, hc, h => h
  | k + 1, c, x, hc, h => by
    rw [bcF]
    have v : vp_in (nI c) 30 := vp_in_nI (by omega) (by decide)
    refine bcF_cell k (c + 1) _ (by omega) ?_
    split
    · split
      · exact Or.inr v
      · split
        · exact h
        · exact Or.inr v
    · exact h
theorem l_best {K : Int32 → Prop} {u : US} {i : Nat} (h : HI u.1) (hi : i < 7) : ∀ (k c : Nat) (x : Int32), c + k = 30 → cellOr x → K (bcF (fun c => freeB u.1 (nI c)) (worthH u.1 i) k c x) → V_X7_bestCell_4 K (k + 1) u (nI i) x (nI c)
  | 0, c, x, hc, hx, hK => bt (nI_le (a := 30) (by omega) (by omega)) hK
  | k + 1, c, x, hc, hx, hK => by
    have v : vp_in (nI c) 30 := vp_in_nI (by omega) (by decide)
    refine bf (nI_ge (b := 30) (by omega) (by omega)) ?_
    rw [bcF] at hK
    rw [nI_1]
    by_cases q : freeB u.1 (nI c) = true
    · rw [if_pos q] at hK
      refine r_isFree1 h (freeB1 q) (z1 ?_)
      by_cases q2 : x = -1
      · rw [if_pos q2] at hK
        exact bt q2 (l_best h hi k (c + 1) _ (by omega) (Or.inr v) hK)
      · rw [if_neg q2] at hK
        refine bf q2 (r_worth h hi v (r_worth h hi (hx.resolve_left q2) ?_))
        by_cases q3 : worthH u.1 i (nI c) ≤ worthH u.1 i x
        · rw [if_pos q3] at hK
          exact bt q3 (l_best h hi k (c + 1) _ (by omega) hx hK)
        · rw [if_neg q3] at hK
          exact bf q3 (l_best h hi k (c + 1) _ (by omega) (Or.inr v) hK)
    · rw [if_neg q] at hK
      exact r_isFree0 h (freeB0 q) (z0 (l_best h hi k (c + 1) _ (by omega) hx hK))
def bestA (w : Int32 → Int32) (y R : Int32) : Int32 := if y = 0 then R else if R = -1 then -1000 else w R
theorem ml_best {K : Int32 → MS → Prop} {u : HS} {mm : MS} {i : Nat} {y : Int32} (h : RC u mm.1) (hi : i < HN u) (ho : hce u i = -1) : ∀ (k c : Nat) (x m : Int32), c + k = 30 → ((x = -1 ∧ m = -1000) ∨ (¬ x = -1 ∧ m = worthH u i x)) → K (bestA (worthH u i) y (bcF (fun c => freeB u (nI c)) (worthH u i) k c x)) mm → V_X8_best_58 K (k + 1) mm (nI i) y m x (nI c)
  | 0, c, x, m, hc, hx, hK => by
    rw [bcF] at hK
    refine bt (nI_le (a := 30) (by omega) (by omega)) ⟨fun q => ?_, fun q => ?_⟩
    · unfold bestA at hK
      rw [if_neg q] at hK
      rcases hx with ⟨h1, h2⟩ | ⟨h1, h2⟩
      · rw [h2]
        rw [if_pos h1] at hK; exact hK
      · rw [h2]
        rw [if_neg h1] at hK; exact hK
    · unfold bestA at hK
      rw [if_pos q] at hK; exact hK
  | k + 1, c, x, m, hc, hx, hK => by
    have v : vp_in (nI c) 30 := vp_in_nI (by omega) (by decide)
    refine bf (nI_ge (b := 30) (by omega) (by omega)) (m_seesFrom h v (m_makesBy h hi ?_))
    rw [fussH_at h.1 hi v (Or.inl ho)]
    rw [bcF] at hK
    rw [nI_1]
    by_cases q : freeB u (nI c) = true
    · rw [if_pos q] at hK
      refine m_isFree1 h (freeB1 q) (z1 ?_)
      show (worthH u i (nI c) ≤ m → _) ∧ (¬ worthH u i (nI c) ≤ m → V_X8_best_58 K (k + 1) mm (nI i) y (worthH u i (nI c)) _ _)
      rcases hx with ⟨h1, h2⟩ | ⟨h1, h2⟩
      · rw [if_pos h1] at hK
        refine bf (by rw [h2]; exact worth_big h hi v) (ml_best h hi ho k (c + 1) _ _ (by omega) (Or.inr ⟨cell_ne v, rfl⟩) hK)
      · rw [if_neg h1] at hK
        rw [h2]
        by_cases q3 : worthH u i (nI c) ≤ worthH u i x
        · rw [if_pos q3] at hK
          exact bt q3 (ml_best h hi ho k (c + 1) _ _ (by omega) (Or.inr ⟨h1, rfl⟩) hK)
        · rw [if_neg q3] at hK
          exact bf q3 (ml_best h hi ho k (c + 1) _ _ (by omega) (Or.inr ⟨cell_ne v, rfl⟩) hK)
    · rw [if_neg q] at hK
      exact m_isFree0 h (freeB0 q) (z0 (ml_best h hi ho k (c + 1) _ _ (by omega) hx hK))
theorem p_best : st_best Rel := by
  intro u mm x y hr
  have hH := hr.1
  have hC := hH.1
  have hI := hC.1
  have bad : (V_X8_best (fun r2 mm2 => (-1001 : Int32) = r2 ∧ Rel (uBad u) mm2) mm x y) → V_X7_best_19 (fun r u2 => V_X8_best (fun r2 mm2 => r = r2 ∧ Rel u2 mm2) mm x y) u := fun z => z
  by_cases hi : isS u.1 x
  · refine r_isSoul1 hI hi (z1 ?_)
    by_cases hc : vp_in y 2
    · refine r_within1 2 rfl (by decide) hc (y1 ?_)
      have h7 := hi.in7 hI
      obtain ⟨i, i1, rfl, i7⟩ := hi.of hI
      have hcl : (nI i).toNatClampNeg = i := nI_clamp (by omega)
      by_cases ho : hce u.1 i = -1
      · refine r_sits0 h7 (by rw [hcl]; exact ho) (z0 ⟨31, l_best hI i7 30 0 (-1) (by omega) (Or.inl rfl) ?_⟩)
        have hR := bcF_cell (p := fun c => freeB u.1 (nI c)) (w := worthH u.1 i) 30 0 (-1) (by omega) (Or.inl rfl)
        have md : ∀ r, r = bestA (worthH u.1 i) y (bcF (fun c => freeB u.1 (nI c)) (worthH u.1 i) 30 0 (-1)) → V_X8_best (fun r2 mm2 => r = r2 ∧ Rel u mm2) mm (nI i) y := by
          intro r er
          refine m_isSoul1 hC hi (z1 (m_in1 2 (by decide) hc (y1 (m_isOut1 hC i1 ho (y1 ⟨31, ml_best hC i1 ho 30 0 (-1) (-1000) (by omega) (Or.inl ⟨rfl, rfl⟩) ⟨er, hr⟩⟩)))))
        generalize bcF (fun c => freeB u.1 (nI c)) (worthH u.1 i) 30 0 (-1) = R at hR md
        refine ⟨fun q => ⟨fun q2 => ?_, fun q2 => ?_⟩, fun q => ?_⟩
        · refine r_worth hI i7 (hR.resolve_left q2) (md _ ?_)
          unfold bestA; rw [if_neg q, if_neg q2]
        · refine md _ ?_
          unfold bestA; rw [if_neg q, if_pos q2]
        · refine md _ ?_
          unfold bestA; rw [if_pos q]
      · refine r_sits1 h7 (by rw [hcl]; exact ho) (z1 ?_)
        unfold V_X7_refuseNo
        show V_X8_best _ mm _ _
        exact m_isSoul1 hC hi (z1 (m_in1 2 (by decide) hc (y1 (m_isOut0 hC i1 ho (y0 (And.intro rfl hr.no))))))
    · refine r_within0 2 rfl (by decide) hc (y0 (bad ?_))
      exact m_isSoul1 hC hi (z1 (m_in0 2 (by decide) hc (y0 (And.intro rfl hr.bad))))
  · refine r_isSoul0 hI hi (z0 (bad ?_))
    exact m_isSoul0 hC hi (z0 (And.intro rfl hr.bad))
/- whispers -/
def wh0 (s : Int32) : Int32 := if s / 2 < s then 0 else 1
def wh1 (s fb x : Int32) : Int32 := if s < s / 2 then x else if 2 < -fb then x else x ||| 2
def wh2 (s fa x : Int32) : Int32 := if s < s / 2 then x else if 2 < -fa then x else x ||| 4
def wh3 (fa fb x : Int32) : Int32 := if -fa < 2 then x else if -fb < 2 then x else x ||| 8
theorem l_wh3 {K : Int32 → US → Prop} {u : US} {fa fb x : Int32} (k : K (wh3 fa fb x) u) : V_X7_whispers_142 K u 2 (-fa) (-fb) x := by
  unfold wh3 at k
  refine ⟨fun q => ?_, fun q => ⟨fun q2 => ?_, fun q2 => ?_⟩⟩
  · rw [if_pos q] at k; exact k
  · rw [if_neg q, if_pos q2] at k; exact k
  · rw [if_neg q, if_neg q2] at k; exact k
theorem l_wh2 {K : Int32 → US → Prop} {u : US} {s fa fb x : Int32} (k : K (wh3 fa fb (wh2 s fa x)) u) : V_X7_whispers_122 K u s (s / 2) 2 (-fa) (-fb) x := by
  unfold wh2 at k
  refine ⟨fun q => l_wh3 ?_, fun q => ⟨fun q2 => l_wh3 ?_, fun q2 => l_wh3 ?_⟩⟩
  · rw [if_pos q] at k; exact k
  · rw [if_neg q, if_pos q2] at k; exact k
  · rw [if_neg q, if_neg q2] at k; exact k
theorem l_wh1 {K : Int32 → US → Prop} {u : US} {s fa fb x : Int32} (k : K (wh3 fa fb (wh2 s fa (wh1 s fb x))) u) : V_X7_whispers_102 K u s (s / 2) 2 (-fa) (-fb) x := by
  unfold wh1 at k
  refine ⟨fun q => l_wh2 ?_, fun q => ⟨fun q2 => l_wh2 ?_, fun q2 => l_wh2 ?_⟩⟩
  · rw [if_pos q] at k; exact k
  · rw [if_neg q, if_pos q2] at k; exact k
  · rw [if_neg q, if_neg q2] at k; exact k
/-- what the one has of it, by who yields -/
theorem m_has00 {K : Int32 → Prop} {u : HS} {mm : MS} {i : Nat} {c : Int32} (h : RC u mm.1) (hi : i < HN u) (hc : vp_in c 30) (k : K (-(fussH u (nI i) c))) : V_X8_has0 K mm (nI i) c 0 0 := by
  have h7 := h.1.2
  refine m_seesFrom h hc (z0 (z0 (m_soulOf 0 (by omega) (by decide) (m_knees h ?_))))
  rw [kneesB_none h.1, show 9 + 3 * i + 0 = 9 + 3 * i by omega, ← (h.2.2.2.2.2.2.1 i hi).1, ← h.2.2.2.2.1]
  refine m_fussBy (h.2.2.2.2.2.2.1 i hi).2.2.2.1 ?_
  unfold fussH at k
  rw [nI_clamp (by omega)] at k
  exact k
theorem m_has01 {K : Int32 → Prop} {u : HS} {mm : MS} {i : Nat} {c : Int32} (h : RC u mm.1) (hc : vp_in c 30) (k : K (sightH u c)) : V_X8_has0 K mm (nI i) c 0 1 := m_seesFrom h hc (z0 (z1 k))
theorem m_has10 {K : Int32 → Prop} {u : HS} {mm : MS} {i : Nat} {c : Int32} (h : RC u mm.1) (hc : vp_in c 30) (k : K 2) : V_X8_has0 K mm (nI i) c 1 0 := m_seesFrom h hc (z1 (z0 k))
theorem m_has11 {K : Int32 → Prop} {u : HS} {mm : MS} {i : Nat} {c : Int32} (h : RC u mm.1) (hc : vp_in c 30) (k : K (sightH u c / 2)) : V_X8_has0 K mm (nI i) c 1 1 := m_seesFrom h hc (z1 (z1 k))
theorem m_whispers {K : Int32 → MS → Prop} {u : HS} {mm : MS} {a b : Nat} {c : Int32} (h : RC u mm.1) (ha : a < HN u) (hb : b < HN u) (hc : vp_in c 30) (k : K (wh3 (fussH u (nI a) c) (fussH u (nI b) c) (wh2 (sightH u c) (fussH u (nI a) c) (wh1 (sightH u c) (fussH u (nI b) c) (wh0 (sightH u c))))) mm) : V_X8_whispers_39 K 5 mm (nI a) (nI b) c 0 0 := by
  generalize hs : sightH u c = s at k
  generalize hfa : fussH u (nI a) c = fa at k
  generalize hfb : fussH u (nI b) c = fb at k
  have s3 : ∀ x, K (wh3 fa fb x) mm → V_X8_whispers_39 K 2 mm (nI a) (nI b) c x 3 := by
    intro x kx
    unfold wh3 at kx
    refine bf (by decide) (nf (by decide) (nf (by decide) (m_has00 h ha hc (y0 (m_has10 h hc ?_)))))
    rw [hfa]
    refine ⟨fun q => ?_, fun q => m_has00 h hb hc (y0 (m_has10 h hc ?_))⟩
    · rw [if_pos q] at kx
      refine z0 (bt (by decide) ?_)
      rw [or0]; exact kx
    · rw [hfb]
      rw [if_neg q] at kx
      refine ⟨fun q2 => ?_, fun q2 => ?_⟩
      · rw [if_pos q2] at kx
        refine z0 (bt (by decide) ?_)
        rw [or0]; exact kx
      · rw [if_neg q2] at kx
        exact z1 (bt (by decide) kx)
  have s2 : ∀ x, K (wh3 fa fb (wh2 s fa x)) mm → V_X8_whispers_39 K 3 mm (nI a) (nI b) c x 2 := by
    intro x kx
    unfold wh2 at kx
    refine bf (by decide) (nt (by decide) (nf (by decide) (m_has10 h hc (y1 (m_has00 h ha hc ?_)))))
    rw [hfa]
    refine ⟨fun q => ?_, fun q => m_has01 h hc (y0 (m_has11 h hc ?_))⟩
    · refine z0 (s3 _ ?_)
      rw [or0]
      by_cases q2 : s < s / 2
      · rw [if_pos q2] at kx; exact kx
      · rw [if_neg q2, if_pos q] at kx; exact kx
    · rw [hs]
      refine ⟨fun q2 => ?_, fun q2 => ?_⟩
      · refine z0 (s3 _ ?_)
        rw [or0]
        rw [if_pos q2] at kx; exact kx
      · rw [if_neg q2, if_neg q] at kx
        exact z1 (s3 _ kx)
  have s1 : ∀ x, K (wh3 fa fb (wh2 s fa (wh1 s fb x))) mm → V_X8_whispers_39 K 4 mm (nI a) (nI b) c x 1 := by
    intro x kx
    unfold wh1 at kx
    refine bf (by decide) (nf (by decide) (nt (by decide) (m_has01 h hc (y0 (m_has11 h hc ?_)))))
    rw [hs]
    refine ⟨fun q => ?_, fun q => m_has10 h hc (y1 (m_has00 h hb hc ?_))⟩
    · refine z0 (s2 _ ?_)
      rw [or0]
      rw [if_pos q] at kx; exact kx
    · rw [hfb]
      rw [if_neg q] at kx
      refine ⟨fun q2 => ?_, fun q2 => ?_⟩
      · refine z0 (s2 _ ?_)
        rw [or0]
        rw [if_pos q2] at kx; exact kx
      · rw [if_neg q2] at kx
        exact z1 (s2 _ kx)
  unfold wh0 at k
  refine bf (by decide) (nt (by decide) (nt (by decide) (m_has11 h hc (y1 (m_has01 h hc ?_)))))
  rw [hs]
  refine ⟨fun q => ?_, fun q => m_has11 h hc (y1 (m_has01 h hc ?_))⟩
  · refine z0 (s1 _ ?_)
    rw [or0]
    rw [if_pos q] at k; exact k
  · rw [hs]
    rw [if_neg q] at k
    exact bf q (z1 (s1 _ k))
theorem p_whispers : st_whispers Rel := by
  intro u mm x y c hr
  have hH := hr.1
  have hC := hH.1
  have hI := hC.1
  have bad : (V_X8_whispers (fun r2 mm2 => (-2 : Int32) = r2 ∧ Rel (uBad u) mm2) mm x y c) → V_X7_whispers_36 (fun r u2 => V_X8_whispers (fun r2 mm2 => r = r2 ∧ Rel u2 mm2) mm x y c) u := fun z => z
  by_cases hi : isS u.1 x
  · refine r_isSoul1 hI hi (z1 ?_)
    by_cases hj : isS u.1 y
    · refine r_isSoul1 hI hj (z1 ?_)
      by_cases he : x = y
      · exact bt he (bad (m_isSoul1 hC hi (z1 (m_isSoul1 hC hj (z1 (bt he (And.intro rfl hr.bad)))))))
      · refine bf he ?_
        by_cases hc : vp_in c 30
        · refine r_within1 30 rfl (by decide) hc (y1 ?_)
          have h7 := hi.in7 hI
          have h7b := hj.in7 hI
          obtain ⟨a, a1, rfl, a7⟩ := hi.of hI
          obtain ⟨b, b1, rfl, b7⟩ := hj.of hI
          refine r_sightFrom hc (r_fussTo hI h7 (r_fussTo hI h7b ?_))
          have md : V_X8_whispers (fun r2 mm2 => wh3 (fussH u.1 (nI a) c) (fussH u.1 (nI b) c) (wh2 (sightH u.1 c) (fussH u.1 (nI a) c) (wh1 (sightH u.1 c) (fussH u.1 (nI b) c) (wh0 (sightH u.1 c)))) = r2 ∧ Rel u mm2) mm (nI a) (nI b) c :=
            m_isSoul1 hC hi (z1 (m_isSoul1 hC hj (z1 (bf he (m_isCell1 hc (y1 ⟨5, m_whispers hC a1 b1 hc (And.intro rfl hr)⟩))))))
          refine ⟨fun q => l_wh1 ?_, fun q => l_wh1 ?_⟩
          · have e : wh0 (sightH u.1 c) = 0 := by unfold wh0; rw [if_pos q]
            rw [e] at md; exact md
          · have e : wh0 (sightH u.1 c) = 0 ||| 1 := by unfold wh0; rw [if_neg q]; decide
            rw [e] at md; exact md
        · refine r_within0 30 rfl (by decide) hc (y0 (bad ?_))
          exact m_isSoul1 hC hi (z1 (m_isSoul1 hC hj (z1 (bf he (m_isCell0 hc (y0 (And.intro rfl hr.bad)))))))
    · refine r_isSoul0 hI hj (z0 (bad ?_))
      exact m_isSoul1 hC hi (z1 (m_isSoul0 hC hj (z0 (And.intro rfl hr.bad))))
  · refine r_isSoul0 hI hi (z0 (bad ?_))
    exact m_isSoul0 hC hi (z0 (And.intro rfl hr.bad))
