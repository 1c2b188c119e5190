/-! ===== steps: image, from ===== -/
def EqT (n : Nat) (a b : TS) : Prop := a.2 = b.2 ∧ ∀ j, j < n → a.1 j = b.1 j
def EqH (v b : HS) : Prop := (∀ r, r < 5 → hrk v r = hrk b r) ∧ (∀ i, i < 7 → hsk v i = hsk b i) ∧ (∀ i, i < 7 → hsb v i = hsb b i) ∧ (∀ i, i < 7 → hce v i = hce b i) ∧ hso v = hso b ∧ hco v = hco b ∧ hmi v = hmi b ∧ hfu v = hfu b ∧ EqT 15 (hsg v) (hsg b) ∧ EqT 18 (hnt v) (hnt b) ∧ EqT 24 (hmk v) (hmk b) ∧ EqT 80 (hpa v) (hpa b)
theorem RT.copy {cap w base n : Nat} {t v : TS} {f g : Nat → Int32} (h : RT cap w base t f) (e : EqT n v t) (hn : cap * w ≤ n) (eg : ∀ j, base ≤ j → j ≤ base + cap * w → g j = f j) : RT cap w base v g := by
  obtain ⟨k, h1, h2, h3, h4⟩ := h
  have hkw : k * w ≤ cap * w := Nat.mul_le_mul_right w h1
  exact ⟨k, h1, e.1.trans h2, (eg base (by omega) (by omega)).trans h3, fun j hj => by rw [e.2 j (by omega), eg _ (by omega) (by omega)]; exact h4 j hj⟩
theorem RC.copy {u v : HS} {f g : Nat → Int32} (h : RC u f) (e : EqH v u) (eg : ∀ j, j < 30 → g j = f j) : RC v g := by
  obtain ⟨a1, a2, a3, a4, a5, a6, a7, a8⟩ := h
  obtain ⟨b1, b2, b3, b4, b5, b6, b7, b8, b9⟩ := e
  have hN : HN v = HN u := by unfold HN; rw [b5]
  have l7 := a1.2
  refine ⟨⟨by rw [hN, b5]; exact a1.1, by rw [hN]; exact a1.2⟩, by rw [eg 8 (by omega), b5]; exact a2, fun r hr => by rw [eg r (by omega), b1 r hr]; exact a3 r hr, by rw [eg 5 (by omega), b6]; exact a4, by rw [eg 6 (by omega), b7]; exact a5, by rw [eg 7 (by omega), b8]; exact a6, fun i hi => ?_, ?_⟩
  · rw [hN] at hi
    rw [eg _ (by omega), eg _ (by omega), eg _ (by omega), b2 i (by omega), b3 i (by omega), b4 i (by omega)]
    exact a7 i hi
  · rw [hN]; exact a8.congr (fun i hi => b4 i (by omega))
theorem RP.copy {n : Nat} {p q : TS} {f g : Nat → Int32} (h : RP n p f) (hn : n ≤ 7) (e : EqT 80 q p) (eg : ∀ j, 90 ≤ j → j < 171 → g j = f j) : RP n q g := by
  obtain ⟨k, h1, h2, h3, h4⟩ := h
  refine ⟨k, h1, e.1.trans h2, (eg 90 (by omega) (by omega)).trans h3, fun t ht => ?_⟩
  obtain ⟨c1, c2, c3, c4, c5, c6, c7⟩ := h4 t ht
  rw [e.2 _ (by omega), e.2 _ (by omega), e.2 _ (by omega), eg _ (by omega) (by omega), eg _ (by omega) (by omega), eg _ (by omega) (by omega)]
  refine ⟨fun i hi => ?_, c2.congr (fun i hi => e.2 _ (by omega)), c3, c4, c5, c6, c7⟩
  rw [e.2 _ (by omega), eg _ (by omega) (by omega)]; exact c1 i hi
theorem RH.copy {u v : HS} {f g : Nat → Int32} (h : RH u f) (e : EqH v u) (eg : ∀ j, j < 171 → g j = f j) : RH v g := by
  obtain ⟨h1, h2, h3, h4, h5, h6, h7, h8⟩ := h
  obtain ⟨b1, b2, b3, b4, b5, b6, b7, b8, b9, b10, b11, b12⟩ := id e
  have hN : HN v = HN u := by unfold HN; rw [b5]
  refine ⟨h1.copy e (fun j hj => eg j (by omega)), by rw [b6]; exact h2, by rw [b7]; exact h3, h4.copy b9 (by decide) (fun j _ _ => eg j (by omega)), h5.copy b10 (by decide) (fun j _ _ => eg j (by omega)), fun n hn hn6 j hj => ?_, h7.copy b11 (by decide) (fun j _ _ => eg j (by omega)), ?_⟩
  · rw [b10.2 _ (by omega)]; exact h6 n (b10.1.symm.trans hn) hn6 j hj
  · rw [hN]; exact h8.copy h1.1.2 b12 (fun j _ hj => eg j hj)
theorem cpy_at {f g : Nat → Int32} {n j : Nat} (h : j < n) : va_cpy f g 0 0 n j = f j := by
  rw [pk_cpy_in (Nat.zero_le j) (by omega), Nat.zero_add, Nat.sub_zero]
theorem r_take {K : HS × HS → Prop} {a b : HS} {f : Nat → Int32} (h : RH b f) (kk : ∀ v, EqH v b → K (v, b)) : V_X0_takeFrom K (a, b) := by
  obtain ⟨h1, h2, h3, h4, h5, h6, h7, h8⟩ := h
  obtain ⟨k4, k4a, k4b, _⟩ := h4
  obtain ⟨k5, k5a, k5b, _⟩ := h5
  obtain ⟨k7, k7a, k7b, _⟩ := h7
  obtain ⟨k8, k8a, k8b, _⟩ := h8
  refine ⟨by unfold bx_cin; decide, by unfold bx_cin; decide, by unfold bx_cin; decide, by unfold bx_cin; decide, ?_⟩
  refine r_ttake TM_sg k4b k4a (fun g1 e1 => r_ttake TM_nt k5b k5a (fun g2 e2 => r_ttake TM_mk k7b k7a (fun g3 e3 => r_ttake TM_pa k8b k8a (fun g4 e4 => ?_))))
  exact kk _ ⟨fun r hr => cpy_at hr, fun r hr => cpy_at hr, fun r hr => cpy_at hr, fun r hr => cpy_at hr, rfl, rfl, rfl, rfl, ⟨rfl, e1⟩, ⟨rfl, e2⟩, ⟨rfl, e3⟩, ⟨rfl, e4⟩⟩
theorem ml_image {K : Int32 → MS → Prop} {mm : MS} {i : Nat} (hi : i < 2) (kk : ∀ g : Nat → Int32, (∀ j, j < 171 → g (171 * i + j) = mm.1 j) → (∀ j, j < 342 → (∀ l, l < 171 → ¬ j = 171 * i + l) → g j = mm.2.2.1 j) → K 1 (mm.1, mm.2.1, g, upd mm.2.2.2.1 i (vp_nar .boolean 1), mm.2.2.2.2)) : ∀ (k j : Nat) (g : Nat → Int32), j + k = 171 → (∀ l, l < j → g (171 * i + l) = mm.1 l) → (∀ l, l < 342 → (∀ q, q < 171 → ¬ l = 171 * i + q) → g l = mm.2.2.1 l) → V_X8_image_17 K (k + 1) (mm.1, mm.2.1, g, mm.2.2.2) (nI i) (nI j)
  | 0, j, g, hj, h1, h2 => by
    refine bt (nI_le (a := 171) (by omega) (by omega)) ⟨vp_in_nI hi (by decide), ?_⟩
    rw [nI_clamp (by omega)]
    exact kk g (fun l hl => h1 l (by omega)) h2
  | k + 1, j, g, hj, h1, h2 => by
    have e : (171 : Int32) * nI i + nI j = nI (171 * i + j) := by
      show nI 171 * nI i + nI j = _
      rw [pk_mul, nI_add]
    refine bf (nI_ge (b := 171) (by omega) (by omega)) ⟨vp_in_nI (by omega) (by decide), ?_⟩
    rw [e, nI_clamp (by omega), nI_clamp (by omega), nI_1]
    refine ⟨vp_in_nI (by omega) (by decide), ml_image hi kk k (j + 1) (upd g (171 * i + j) (mm.1 j)) (by omega) (fun l hl => ?_) (fun l hl hq => ?_)⟩
    · by_cases q : l = j
      · subst q; exact upd_eq
      · rw [upd_ne (by omega)]; exact h1 l (by omega)
    · rw [upd_ne (hq j (by omega))]; exact h2 l hl hq
theorem ml_from {K : Int32 → MS → Prop} {mm : MS} {i : Nat} (hi : i < 2) (kk : ∀ g : Nat → Int32, (∀ j, j < 171 → g j = mm.2.2.1 (171 * i + j)) → K 1 (g, mm.2)) : ∀ (k j : Nat) (g : Nat → Int32), j + k = 171 → (∀ l, l < j → g l = mm.2.2.1 (171 * i + l)) → V_X8_from_31 K (k + 1) (g, mm.2) (nI i) (nI j)
  | 0, j, g, hj, h1 => bt (nI_le (a := 171) (by omega) (by omega)) (kk g (fun l hl => h1 l (by omega)))
  | k + 1, j, g, hj, h1 => by
    have e : (171 : Int32) * nI i + nI j = nI (171 * i + j) := by
      show nI 171 * nI i + nI j = _
      rw [pk_mul, nI_add]
    refine bf (nI_ge (b := 171) (by omega) (by omega)) ?_
    rw [e, nI_clamp (by omega), nI_clamp (by omega), nI_1]
    refine ⟨vp_in_nI (by omega) (by decide), vp_in_nI (by omega) (by decide), ml_from hi kk k (j + 1) _ (by omega) (fun l hl => ?_)⟩
    by_cases q : l = j
    · subst q; exact upd_eq
    · rw [upd_ne q]; exact h1 l (by omega)
theorem two {x : Int32} (h : vp_in x 2) : x = nI 0 ∨ x = nI 1 := by
  obtain ⟨j, hj, rfl⟩ := vp_in_of h (by decide)
  rcases (by omega : j = 0 ∨ j = 1) with rfl | rfl
  · exact Or.inl rfl
  · exact Or.inr rfl
theorem nar1 : vp_nar .boolean 1 = 1 := by decide
theorem EqH.refl (v : HS) : EqH v v := ⟨fun _ _ => rfl, fun _ _ => rfl, fun _ _ => rfl, fun _ _ => rfl, rfl, rfl, rfl, rfl, ⟨rfl, fun _ _ => rfl⟩, ⟨rfl, fun _ _ => rfl⟩, ⟨rfl, fun _ _ => rfl⟩, ⟨rfl, fun _ _ => rfl⟩⟩
theorem p_image : st_image Rel := by
  intro u mm x1 hr
  obtain ⟨hH, a1, a2, a3, a4⟩ := id hr
  by_cases h : vp_in x1 2
  · refine r_within1 2 rfl (by decide) h (y1 ⟨?_, ?_, ?_⟩)
    · rcases two h with q | q
      · exact Or.inl q
      · exact Or.inr q
    · intro q
      refine r_take hH (fun v ev => ⟨h, ?_⟩)
      subst q
      show V_X8_image _ mm _
      refine m_in1 2 (by decide) h (y1 ⟨_, ml_image (mm := mm) (i := 0) (by decide) (fun g g1 g2 => ?_) 171 0 mm.2.2.1 (by omega) (fun l hl => absurd hl (by omega)) (fun l _ _ => rfl)⟩)
      refine ⟨rfl, hH, fun i hi => ?_, fun _ => hH.copy ev (fun j hj => ?_), fun q => ?_, a4⟩
      · show upd u.2.2.2.2.1 0 (vp_nar .boolean 1) i = upd mm.2.2.2.1 0 (vp_nar .boolean 1) i ∧ (upd mm.2.2.2.1 0 (vp_nar .boolean 1) i = 0 ∨ upd mm.2.2.2.1 0 (vp_nar .boolean 1) i = 1)
        by_cases q : i = 0
        · subst q; rw [upd_eq, upd_eq, nar1]; exact ⟨rfl, Or.inr rfl⟩
        · rw [upd_ne q, upd_ne q]; exact a1 i hi
      · have := g1 j hj
        rw [show 171 * 0 + j = j by omega] at this; exact this
      · have q2 : mm.2.2.2.1 1 = 1 := by
          have : upd mm.2.2.2.1 0 (vp_nar .boolean 1) 1 = 1 := q
          rw [upd_ne (by omega)] at this; exact this
        refine (a3 q2).copy (EqH.refl _) (fun j hj => ?_)
        exact g2 (171 + j) (by omega) (fun l hl => by omega)
    · intro q
      refine r_take hH (fun v ev => ⟨h, ?_⟩)
      subst q
      show V_X8_image _ mm _
      refine m_in1 2 (by decide) h (y1 ⟨_, ml_image (mm := mm) (i := 1) (by decide) (fun g g1 g2 => ?_) 171 0 mm.2.2.1 (by omega) (fun l hl => absurd hl (by omega)) (fun l _ _ => rfl)⟩)
      refine ⟨rfl, hH, fun i hi => ?_, fun q => ?_, fun _ => hH.copy ev (fun j hj => ?_), a4⟩
      · show upd u.2.2.2.2.1 1 (vp_nar .boolean 1) i = upd mm.2.2.2.1 1 (vp_nar .boolean 1) i ∧ (upd mm.2.2.2.1 1 (vp_nar .boolean 1) i = 0 ∨ upd mm.2.2.2.1 1 (vp_nar .boolean 1) i = 1)
        by_cases q : i = 1
        · subst q; rw [upd_eq, upd_eq, nar1]; exact ⟨rfl, Or.inr rfl⟩
        · rw [upd_ne q, upd_ne q]; exact a1 i hi
      · have q2 : mm.2.2.2.1 0 = 1 := by
          have : upd mm.2.2.2.1 1 (vp_nar .boolean 1) 0 = 1 := q
          rw [upd_ne (by omega)] at this; exact this
        refine (a2 q2).copy (EqH.refl _) (fun j hj => ?_)
        exact g2 j (by omega) (fun l hl => by omega)
      · exact g1 j hj
  · refine r_within0 2 rfl (by decide) h (y0 ?_)
    unfold V_X7_refuseBad
    show V_X8_image _ mm _
    exact m_in0 2 (by decide) h (y0 (And.intro rfl hr.bad))
theorem p_from : st_from Rel := by
  intro u mm x1 hr
  obtain ⟨hH, a1, a2, a3, a4⟩ := id hr
  by_cases h : vp_in x1 2
  · refine r_within1 2 rfl (by decide) h (y1 ⟨h, ?_⟩)
    have key : ∀ i, i < 2 → x1 = nI i → (mm.2.2.2.1 i = 1 → RH (if i = 0 then u.2.2.1 else u.2.2.2.1) (fun k => mm.2.2.1 (171 * i + k))) := by
      intro i hi _ q
      rcases (by omega : i = 0 ∨ i = 1) with rfl | rfl
      · exact (a2 q).copy (EqH.refl _) (fun j hj => by show mm.2.2.1 (171 * 0 + j) = _; rw [show 171 * 0 + j = j by omega])
      · exact a3 q
    obtain ⟨i, hi, hx⟩ := vp_in_of h (by decide)
    have cl : x1.toNatClampNeg = i := by rw [hx]; exact nI_clamp (by omega)
    rw [cl, (a1 i hi).1]
    rcases (a1 i hi).2 with z | z
    · refine nt z ?_
      unfold V_X7_refuseNo
      show V_X8_from _ mm _
      exact m_in1 2 (by decide) h (y1 ⟨h, by rw [cl]; exact nt z (And.intro rfl hr.no)⟩)
    · have nz : ¬ mm.2.2.2.1 i = 0 := by rw [z]; decide
      have fin : ∀ (v : HS) (w2 : US), EqH v (if i = 0 then u.2.2.1 else u.2.2.2.1) → w2 = (v, u.2) → V_X8_from (fun r2 mm2 => (1 : Int32) = r2 ∧ Rel w2 mm2) mm x1 := by
        intro v w2 ev hw
        refine m_in1 2 (by decide) h (y1 ⟨h, ?_⟩)
        rw [cl]
        refine nf nz ?_
        rw [hx]
        refine ⟨_, ml_from (mm := mm) hi (fun g g1 => ?_) 171 0 mm.1 (by omega) (fun l hl => absurd hl (by omega))⟩
        refine ⟨rfl, ?_⟩
        rw [hw]
        exact hr.now ((key i hi hx z).copy ev (fun j hj => g1 j hj))
      refine nf nz ⟨two h, fun q => ?_, fun q => ?_⟩
      · have i0 : i = 0 := (nI_eq (b := 0) (by omega) (by decide)).mp (hx.symm.trans q)
        subst i0
        exact r_take (a2 z) (fun v ev => fin v _ ev rfl)
      · have i0 : i = 1 := (nI_eq (b := 1) (by omega) (by decide)).mp (hx.symm.trans q)
        subst i0
        exact r_take (a3 z) (fun v ev => fin v _ ev rfl)
  · refine r_within0 2 rfl (by decide) h (y0 ?_)
    unfold V_X7_refuseBad
    show V_X8_from _ mm _
    exact m_in0 2 (by decide) h (y0 (And.intro rfl hr.bad))
