/-! ===== steps: where, tell ===== -/
theorem cnt_or {p q r : Nat → Bool} : ∀ (k i : Nat), (∀ j, i ≤ j → j < i + k → p j = true → q j = true ∨ r j = true) → cnt p k i ≤ cnt q k i + cnt r k i
  | 0, i, h => Nat.le_refl 0
  | k + 1, i, h => by
    rw [cnt, cnt, cnt]
    have := cnt_or (p := p) (q := q) (r := r) k (i + 1) (fun j h1 h2 => h j (by omega) (by omega))
    by_cases z : p i = true
    · rcases h i (by omega) (by omega) z with y | y
      · rw [if_pos z, if_pos y]; omega
      · rw [if_pos z, if_pos y]; omega
    · rw [if_neg z]; omega
theorem cnt_one {p : Nat → Bool} : ∀ (k i : Nat), (∀ a b, i ≤ a → a < b → b < i + k → p a = true → p b = true → False) → cnt p k i ≤ 1
  | 0, i, h => Nat.zero_le 1
  | k + 1, i, h => by
    rw [cnt]
    by_cases z : p i = true
    · rw [if_pos z, cnt_none k (i + 1) (fun j h1 h2 => by
        by_cases y : p j = true
        · exact (h i j (by omega) (by omega) (by omega) z y).elim
        · simpa using y)]
      omega
    · rw [if_neg z]
      have := cnt_one (p := p) k (i + 1) (fun a b h1 h2 h3 => h a b (by omega) h2 (by omega))
      omega
theorem aisle_nI {j : Nat} (hj : j < 30) : aisleV (nI j) = nI (j / 6 * 6) := by
  unfold aisleV
  have := pk_rem (a := j) (d := 6) (by omega) (by decide) (by decide)
  rw [show (6 : Int32) = nI 6 from rfl, this, pk_sub (Nat.mod_le _ _)]
  congr 1; omega
theorem span_le {n : Nat} {ce : Nat → Int32} (h : CF n ce) (a : Nat) : ∀ m, a + m ≤ 30 → cnt (fun i => decide (¬ ce i < nI a ∧ ¬ nI (a + m) ≤ ce i)) n 0 ≤ m
  | 0, ha => by
    rw [cnt_none n 0 (fun j _ _ => by
      apply decide_eq_false
      rintro ⟨h1, h2⟩
      rw [Int32.lt_iff_toInt_lt] at h1
      rw [Int32.le_iff_toInt_le] at h2
      exact h2 (by rw [Nat.add_zero]; omega))]
    omega
  | m + 1, ha => by
    have i1 := span_le h a m (by omega)
    have i2 : cnt (fun i => decide (ce i = nI (a + m))) n 0 ≤ 1 := cnt_one n 0 (fun x y _ hxy hy px py => by
      have ex := of_decide_eq_true px
      have ey := of_decide_eq_true py
      have := h.2 x y hxy (by omega) (ex.trans ey.symm)
      rw [ex] at this
      exact nI_ne_m1 (by omega) this)
    have i3 := cnt_or (p := fun i => decide (¬ ce i < nI a ∧ ¬ nI (a + (m + 1)) ≤ ce i)) (q := fun i => decide (¬ ce i < nI a ∧ ¬ nI (a + m) ≤ ce i)) (r := fun i => decide (ce i = nI (a + m))) n 0 (fun j _ _ hp => by
      obtain ⟨h1, h2⟩ := of_decide_eq_true hp
      by_cases e : ce j = nI (a + m)
      · exact Or.inr (decide_eq_true e)
      · refine Or.inl (decide_eq_true ⟨h1, fun h3 => ?_⟩)
        rw [Int32.le_iff_toInt_le, nI_toInt (by omega)] at h2 h3
        exact e (Int32.toInt_inj.mp (by rw [nI_toInt (by omega)]; omega)))
    omega
theorem knees5 {u : HS} {f : Nat → Int32} (h : RC u f) {j : Nat} (hj : j < 30) : kneesH u (nI j) ≤ 5 := by
  unfold kneesH
  rw [aisle_nI hj]
  have := span_le h.2.2.2.2.2.2.2 (j / 6 * 6) (j % 6) (by omega)
  rw [show j / 6 * 6 + j % 6 = j by omega] at this
  omega
def freeB (u : HS) (c : Int32) : Bool := decide (whoH u c = -1 ∧ ¬ ((hco u >>> (c &&& 31)) &&& 1) = 1)
theorem freeB1 {u : HS} {c : Int32} (h : freeB u c = true) : freeH u c := by
  have z : whoH u c = -1 ∧ ¬ ((hco u >>> (c &&& 31)) &&& 1) = 1 := of_decide_eq_true h
  exact z
theorem freeB0 {u : HS} {c : Int32} (h : ¬ freeB u c = true) : ¬ freeH u c := fun z => h (by
  have z2 : whoH u c = -1 ∧ ¬ ((hco u >>> (c &&& 31)) &&& 1) = 1 := z
  exact decide_eq_true z2)
def sgP (t : TS) (i kind knees : Int32) (j : Nat) : Bool := decide (¬ t.1 (j * 3 + 0) = i ∨ fussV kind knees (t.1 (j * 3 + 1)) = t.1 (j * 3 + 2))
def cellFit (u : HS) (i c : Nat) : Bool := freeB u (nI c) && allF (sgP (hsg u) (nI i) (hsk u i) (nI (kneesH u (nI c)))) (hsg u).2.toNatClampNeg 0
theorem l_fitsSg {K : Int32 → Prop} {u : US} {n i : Nat} {kn : Int32} (hi : i < 7) (hn : (hsg u.1).2 = nI n) (hn6 : n ≤ 5) : ∀ (k j : Nat), j + k = n → K (b01 (allF (sgP (hsg u.1) (nI i) (hsk u.1 i) kn) k j)) → V_X7_fitsSightings_2 K (k + 1) u (nI i) kn (nI j)
  | 0, j, hj, hK => bt (by show (hsg u.1).2 ≤ nI j; rw [hn]; exact nI_le (by omega) (by omega)) hK
  | k + 1, j, hj, hK => by
    refine bf (by show ¬ (hsg u.1).2 ≤ nI j; rw [hn]; exact nI_ge (by omega) (by omega)) ?_
    rw [allF] at hK
    refine r_tat (l := j) (c := 0) TM_sg hn hn6 (by omega) (by decide) ?_
    rw [nI_1]
    by_cases q : (hsg u.1).1 (j * 3 + 0) = nI i
    · refine nt q ⟨vp_in_nI hi (by decide), r_tat (l := j) (c := 1) TM_sg hn hn6 (by omega) (by decide) (r_fuss (r_tat (l := j) (c := 2) TM_sg hn hn6 (by omega) (by decide) ?_))⟩
      rw [nI_clamp (by omega)]
      by_cases q2 : fussV (hsk u.1 i) kn ((hsg u.1).1 (j * 3 + 1)) = (hsg u.1).1 (j * 3 + 2)
      · have e : sgP (hsg u.1) (nI i) (hsk u.1 i) kn j = true := by simp only [sgP, decide_eq_true_eq]; exact Or.inr q2
        rw [e, Bool.true_and] at hK
        exact bt q2 (l_fitsSg hi hn hn6 k (j + 1) (by omega) hK)
      · have e : sgP (hsg u.1) (nI i) (hsk u.1 i) kn j = false := by simp only [sgP, decide_eq_false_iff_not]; exact fun z => z.elim (fun z => z q) q2
        rw [e, Bool.false_and] at hK
        exact bf q2 hK
    · have e : sgP (hsg u.1) (nI i) (hsk u.1 i) kn j = true := by simp only [sgP, decide_eq_true_eq]; exact Or.inl q
      rw [e, Bool.true_and] at hK
      exact nf q (l_fitsSg hi hn hn6 k (j + 1) (by omega) hK)
theorem l_cells {K : Int32 → Prop} {u : US} {f : Nat → Int32} {i : Nat} (h : RH u.1 f) (hi : i < 7) : ∀ (k c : Nat) (b : Int32), c + k = 30 → K (orF (cellFit u.1 i) k c b) → V_X7_cellsThatFit_4 K (k + 1) u (nI i) b (nI c)
  | 0, c, b, hc, hK => bt (nI_le (a := 30) (by omega) (by omega)) hK
  | k + 1, c, b, hc, hK => by
    have hI := h.1.1
    refine bf (nI_ge (b := 30) (by omega) (by omega)) ?_
    rw [orF] at hK
    rw [nI_1]
    by_cases q : freeB u.1 (nI c) = true
    · refine r_isFree1 hI (freeB1 q) (z1 (r_kneesTo hI ?_))
      obtain ⟨n, n1, n2, n3⟩ := h.2.2.2.1.size
      have e : cellFit u.1 i c = allF (sgP (hsg u.1) (nI i) (hsk u.1 i) (nI (kneesH u.1 (nI c)))) n 0 := by
        unfold cellFit; rw [q, n2, nI_clamp (by omega), Bool.true_and]
      refine ⟨_, l_fitsSg hi n2 n1 n 0 (by omega) ?_⟩
      rw [← e]
      by_cases q2 : cellFit u.1 i c = true
      · rw [if_pos q2] at hK
        rw [q2]
        exact z1 (l_cells h hi k (c + 1) _ (by omega) hK)
      · rw [if_neg q2] at hK
        rw [show cellFit u.1 i c = false by simpa using q2]
        exact z0 (l_cells h hi k (c + 1) _ (by omega) hK)
    · have e : ¬ cellFit u.1 i c = true := by unfold cellFit; simp [q]
      rw [if_neg e] at hK
      exact r_isFree0 hI (freeB0 q) (z0 (l_cells h hi k (c + 1) _ (by omega) hK))
theorem ml_mayBez {K : Int32 → Prop} {mm : MS} {n : Nat} {x1 x2 : Int32} (hn : mm.1 30 = nI n) (hn6 : n ≤ 5) (hK : K 0) : ∀ (k j : Nat), j + k = n → V_X8_mayBe_12 K (k + 1) mm x1 x2 0 (nI j)
  | 0, j, hj => bt (by rw [hn]; exact nI_le (by omega) (by omega)) ⟨Or.inl rfl, hK⟩
  | k + 1, j, hj => bf (by rw [hn]; exact nI_ge (by omega) (by omega)) (z0 (by rw [nI_1]; exact ml_mayBez hn hn6 hK k (j + 1) (by omega)))
theorem ml_mayBe {K : Int32 → Prop} {u : HS} {mm : MS} {n i c : Nat} (h : RH u mm.1) (hi : i < HN u) (h2 : (hsg u).2 = nI n) (hn : mm.1 30 = nI n) (hn6 : n ≤ 5) : ∀ (k j : Nat), j + k = n → K (b01 (allF (sgP (hsg u) (nI i) (hsk u i) (nI (kneesH u (nI c)))) k j)) → V_X8_mayBe_12 K (k + 1) mm (nI i) (nI c) 1 (nI j)
  | 0, j, hj, hK => bt (by rw [hn]; exact nI_le (by omega) (by omega)) ⟨Or.inr rfl, hK⟩
  | k + 1, j, hj, hK => by
    have hT := h.2.2.2.1
    have hC := h.1
    have h7 := hC.1.2
    refine bf (by rw [hn]; exact nI_ge (by omega) (by omega)) (z1 ?_)
    rw [allF] at hK
    rw [nI_1]
    refine m_told (c := 0) hT h2 (by omega) (by decide) (by decide) (k := j) (by omega) (by decide) ?_
    by_cases q : (hsg u).1 (j * 3 + 0) = nI i
    · refine nt q (m_soulOf 0 (by omega) (by decide) ?_)
      refine m_knees hC ?_
      rw [kneesB_none hC.1, show 9 + 3 * i + 0 = 9 + 3 * i by omega, ← (hC.2.2.2.2.2.2.1 i hi).1]
      refine m_told (c := 1) hT h2 (by omega) (by decide) (by decide) (k := j) (by omega) (by decide) (m_fussBy (hC.2.2.2.2.2.2.1 i hi).2.2.2.1 (m_told (c := 2) hT h2 (by omega) (by decide) (by decide) (k := j) (by omega) (by decide) ?_))
      by_cases q2 : fussV (hsk u i) (nI (kneesH u (nI c))) ((hsg u).1 (j * 3 + 1)) = (hsg u).1 (j * 3 + 2)
      · have e : sgP (hsg u) (nI i) (hsk u i) (nI (kneesH u (nI c))) j = true := by simp only [sgP, decide_eq_true_eq]; exact Or.inr q2
        rw [e, Bool.true_and] at hK
        exact nt q2 (ml_mayBe h hi h2 hn hn6 k (j + 1) (by omega) hK)
      · have e : sgP (hsg u) (nI i) (hsk u i) (nI (kneesH u (nI c))) j = false := by simp only [sgP, decide_eq_false_iff_not]; exact fun z => z.elim (fun z => z q) q2
        rw [e, Bool.false_and] at hK
        exact nf q2 (ml_mayBez hn hn6 hK k (j + 1) (by omega))
    · have e : sgP (hsg u) (nI i) (hsk u i) (nI (kneesH u (nI c))) j = true := by simp only [sgP, decide_eq_true_eq]; exact Or.inl q
      rw [e, Bool.true_and] at hK
      exact nf q (ml_mayBe h hi h2 hn hn6 k (j + 1) (by omega) hK)
theorem m_mayBe1 {K : Int32 → Prop} {u : HS} {mm : MS} {i c : Nat} (h : RH u mm.1) (hi : i < HN u) (k : K (b01 (cellFit u i c))) : V_X8_mayBe K mm (nI i) (nI c) := by
  obtain ⟨n, n1, n2, n3⟩ := h.2.2.2.1.size
  by_cases q : freeB u (nI c) = true
  · have e : cellFit u i c = allF (sgP (hsg u) (nI i) (hsk u i) (nI (kneesH u (nI c)))) n 0 := by
      unfold cellFit; rw [q, n2, nI_clamp (by omega), Bool.true_and]
    rw [e] at k
    exact m_isFree1 h.1 (freeB1 q) ⟨_, ml_mayBe h hi n2 n3 n1 n 0 (by omega) k⟩
  · have e : cellFit u i c = false := by unfold cellFit; simp [q]
    rw [e] at k
    exact m_isFree0 h.1 (freeB0 q) ⟨_, ml_mayBez n3 n1 k n 0 (by omega)⟩
def whF (p : Nat → Bool) (x : Int32) : Nat → Nat → Nat → Int32
  | 0, _, n => if x = -1 then nI n else -5
  | r + 1, c, n => if p c = true then (if nI n = x then nI c else whF p x r (c + 1) (n + 1)) else whF p x r (c + 1) n
def wmF (p : Nat → Bool) (x : Int32) : Nat → Nat → Nat → Int32 → Int32
  | 0, _, n, f => if x = -1 then nI n else f
  | r + 1, c, n, f => if p c = true then wmF p x r (c + 1) (n + 1) (if nI n = x then nI c else f) else wmF p x r (c + 1) n f
theorem wm_found {p : Nat → Bool} {y : Nat} {f : Int32} : ∀ (r c n : Nat), y < n → n + r ≤ 100 → wmF p (nI y) r c n f = f
  | 0, c, n, h1, h2 => by rw [wmF, if_neg (nI_ne_m1 (by omega))]
  | r + 1, c, n, h1, h2 => by
    rw [wmF]
    split
    · rw [if_neg (fun q => by have := (nI_eq (by omega) (by omega)).mp q; omega)]
      exact wm_found r (c + 1) (n + 1) (by omega) (by omega)
    · exact wm_found r (c + 1) n h1 (by omega)
theorem wm_wh {p : Nat → Bool} {x : Int32} : ∀ (r c n : Nat), n + r ≤ 100 → wmF p x r c n (-5) = whF p x r c n
  | 0, c, n, h => rfl
  | r + 1, c, n, h => by
    rw [wmF, whF]
    by_cases q : p c = true
    · rw [if_pos q, if_pos q]
      by_cases q2 : nI n = x
      · rw [if_pos q2, if_pos q2, ← q2]
        exact wm_found r (c + 1) (n + 1) (by omega) (by omega)
      · rw [if_neg q2, if_neg q2]
        exact wm_wh r (c + 1) (n + 1) (by omega)
    · rw [if_neg q, if_neg q]
      exact wm_wh r (c + 1) n (by omega)
theorem l_where {K : Int32 → US → Prop} {u : US} {x b : Int32} {p : Nat → Bool} (hb : ∀ j, j < 30 → (hasB b (nI j) ↔ p j = true)) : ∀ (r c n : Nat), c + r = 30 → K (whF p x r c n) u → V_X7_where_35 K (r + 1) u x b (nI n) (nI c)
  | 0, c, n, hc, hK => by
    rw [whF] at hK
    refine bt (nI_le (a := 30) (by omega) (by omega)) ⟨fun q => ?_, fun q => ?_⟩
    · rw [if_neg q] at hK; exact hK
    · rw [if_pos q] at hK; exact hK
  | r + 1, c, n, hc, hK => by
    rw [whF] at hK
    refine bf (nI_ge (b := 30) (by omega) (by omega)) ?_
    rw [nI_1, nI_1]
    by_cases q : p c = true
    · rw [if_pos q] at hK
      refine r_has1 ((hb c (by omega)).mpr q) (z1 ⟨fun q2 => ?_, fun q2 => ?_⟩)
      · rw [if_neg q2] at hK
        exact l_where hb r (c + 1) (n + 1) (by omega) hK
      · rw [if_pos q2] at hK; exact hK
    · rw [if_neg q] at hK
      exact r_has0 (fun z => q ((hb c (by omega)).mp z)) (z0 (l_where hb r (c + 1) n (by omega) hK))
theorem ml_where {K : Int32 → MS → Prop} {u : HS} {mm : MS} {x : Int32} {i : Nat} (h : RH u mm.1) (hi : i < HN u) : ∀ (r c n : Nat) (f : Int32), c + r = 30 → K (wmF (cellFit u i) x r c n f) mm → V_X8_where_29 K (r + 1) mm (nI i) x (nI n) f (nI c)
  | 0, c, n, f, hc, hK => by
    rw [wmF] at hK
    refine bt (nI_le (a := 30) (by omega) (by omega)) ⟨fun q => ?_, fun q => ?_⟩
    · rw [if_neg q] at hK; exact hK
    · rw [if_pos q] at hK; exact hK
  | r + 1, c, n, f, hc, hK => by
    rw [wmF] at hK
    refine bf (nI_ge (b := 30) (by omega) (by omega)) (m_mayBe1 h hi ?_)
    rw [nI_1, nI_1]
    by_cases q : cellFit u i c = true
    · rw [if_pos q] at hK
      rw [q]
      refine z1 ⟨fun q2 => ?_, fun q2 => ?_⟩
      · rw [if_neg q2] at hK
        exact ml_where h hi r (c + 1) (n + 1) f (by omega) hK
      · rw [if_pos q2] at hK
        exact ml_where h hi r (c + 1) (n + 1) _ (by omega) hK
    · rw [if_neg q] at hK
      rw [show cellFit u i c = false by simpa using q]
      exact z0 (ml_where h hi r (c + 1) n f (by omega) hK)
theorem p_where : st_where Rel := by
  intro u mm x y hr
  have hH := hr.1
  have hC := hH.1
  have hI := hC.1
  have bad : (V_X8_where (fun r2 mm2 => (-10 : Int32) = r2 ∧ Rel (uBad u) mm2) mm x y) → V_X7_where_16 (fun r u2 => V_X8_where (fun r2 mm2 => r = r2 ∧ Rel u2 mm2) mm x y) u := fun z => z
  by_cases h : isS u.1 x
  · by_cases h2 : (-1 : Int32) ≤ y
    · obtain ⟨i, hi, rfl, hi7⟩ := isS.of hI h
      refine r_isSoul1 hI h (z1 (bt h2 ⟨31, l_cells hH hi7 30 0 0 (by omega) ?_⟩))
      refine ⟨_, l_where (p := cellFit u.1 i) (fun j hj => orF_has (by decide) hj) 30 0 0 (by omega) ?_⟩
      show V_X8_where _ mm _ _
      refine m_isSoul1 hC h (z1 (bt h2 ⟨_, ml_where hH hi 30 0 0 (-5) (by omega) ⟨?_, hr⟩⟩))
      rw [wm_wh 30 0 0 (by omega)]
    · refine r_isSoul1 hI h (z1 (bf h2 (bad ?_)))
      exact m_isSoul1 hC h (z1 (bf h2 (And.intro rfl hr.bad)))
  · refine r_isSoul0 hI h (z0 (bad ?_))
    exact m_isSoul0 hC h (z0 (And.intro rfl hr.bad))
/- tell -/
def tv (u : HS) (i t c : Nat) : Nat := fss (kneesH u (nI c)) t (hsk u i).toNatClampNeg
theorem tv_ok {u : HS} {f : Nat → Int32} (h : RC u f) {i t c : Nat} (hi : i < HN u) (ht : t < 20) (hc : c < 30) : tv u i t c < 16 ∧ fussV (hsk u i) (nI (kneesH u (nI c))) (nI t) = nI (tv u i t c) := by
  obtain ⟨j, hj, e⟩ := vp_in_of (h.2.2.2.2.2.2.1 i hi).2.2.2.1 (by decide)
  have := fss_dec t ht (kneesH u (nI c)) (by have := knees5 h hc; omega) j hj
  unfold tv
  rw [e, nI_clamp (by omega)]
  exact this
theorem l_mostCells {K : Int32 → US → Prop} {u : US} {f : Nat → Int32} {b : Int32} {p : Nat → Bool} {i s : Nat} (h : RC u.1 f) (hi : i < HN u.1) (hs : s < 20) (hb : ∀ j, j < 30 → (hasB b (nI j) ↔ p j = true)) (kk : ∀ t, K (nI (most p (tv u.1 i s) 30)) (uT u t)) : ∀ (k j : Nat) (t : TS) (T : Nat → Nat), j + k = 30 → TA t T → (∀ x, T x ≤ j) → tl p (tv u.1 i s) k j T = tl p (tv u.1 i s) 30 0 (fun _ => 0) → V_X7_mostCellsAlike_10 K (k + 1) (uT u t) b (hsk u.1 i) (nI s) (nI j)
  | 0, j, t, T, hj, ht, hB, he => by
    refine bt (nI_le (a := 30) (by omega) (by omega)) ?_
    show K t.2 (uT u t)
    rw [ht.2, show T = tl p (tv u.1 i s) 30 0 (fun _ => 0) from he]
    exact kk t
  | k + 1, j, t, T, hj, ht, hB, he => by
    refine bf (nI_ge (b := 30) (by omega) (by omega)) ?_
    obtain ⟨g1, g2⟩ := tv_ok h hi hs (c := j) (by omega)
    rw [tl] at he
    rw [nI_1]
    by_cases q : p j = true
    · rw [if_pos q] at he
      refine r_has1 ((hb j (by omega)).mpr q) (z1 (r_kneesTo (u := u.1) h.1 (r_fuss ?_)))
      rw [g2]
      exact r_add ht g1 (fun x => Nat.le_trans (hB x) (by omega)) (fun t' ht' => l_mostCells h hi hs hb kk k (j + 1) t' _ (by omega) ht' (bump_le hB) he)
    · rw [if_neg q] at he
      exact r_has0 (fun z => q ((hb j (by omega)).mp z)) (z0 (l_mostCells h hi hs hb kk k (j + 1) t T (by omega) ht (fun x => Nat.le_succ_of_le (hB x)) he))
def tellM (u : HS) (i t : Nat) : Nat := most (cellFit u i) (tv u i t) 30
theorem l_tell {K : Int32 → US → Prop} {u : US} {f : Nat → Int32} {b : Int32} {i : Nat} (h : RC u.1 f) (hi : i < HN u.1) (hb : ∀ j, j < 30 → (hasB b (nI j) ↔ cellFit u.1 i j = true)) : ∀ (k s : Nat) (st : Int32 × Nat) (t : TS), s + k = 20 → st.2 ≤ 100 → (∀ t', K (bestP (tellM u.1 i) nI k s st).1 (uT u t')) → V_X7_tell_33 K (k + 1) (uT u t) (nI i) b st.1 (nI st.2) (nI s)
  | 0, s, st, t, hi, hs, hK => bt (nI_le (a := 20) (by omega) (by omega)) (hK t)
  | k + 1, s, st, t, hsk, hs, hK => by
    have h7 := h.1.2
    refine bf (nI_ge (b := 20) (by omega) (by omega)) ⟨vp_in_nI (by omega) (by decide), ?_⟩
    rw [nI_clamp (by omega)]
    refine r_treset (fun t0 ht0 => ⟨31, l_mostCells (u := u) h hi (by omega) hb (fun t' => ?_) 30 0 t0 _ (by omega) ht0 (fun _ => Nat.le_refl 0) rfl⟩)
    have hm : tellM u.1 i s ≤ 30 := most_le
    have hE : most (cellFit u.1 i) (tv u.1 i s) 30 = tellM u.1 i s := rfl
    rw [bestP] at hK
    rw [nI_1]
    by_cases q : tellM u.1 i s = 0
    · rw [if_pos (Or.inl q)] at hK
      exact bt ((i0 (by omega)).mpr q) (l_tell h hi hb k (s + 1) st t' (by omega) hs hK)
    · refine bf (fun z => q ((i0 (by omega)).mp z)) ?_
      by_cases q2 : st.2 ≤ tellM u.1 i s
      · rw [if_pos (Or.inr q2)] at hK
        exact bt (nI_le q2 (by omega)) (l_tell h hi hb k (s + 1) st t' (by omega) hs hK)
      · rw [if_neg (fun z => z.elim q q2)] at hK
        exact bf (nI_ge (by omega) (by omega)) (l_tell h hi hb k (s + 1) (nI s, tellM u.1 i s) t' (by omega) (by show tellM u.1 i s ≤ 100; omega) hK)
theorem ml_tell2 {K : Int32 → MS → Prop} {B : MS → Int32 → Int32 → Int32 → Int32 → Prop} {u : HS} {m : MS} {x2 x3 : Int32} {i s : Nat} (h : RH u m.1) (hi : i < HN u) (hs : s < 20) (k0 : tellM u i s = 0 → ∀ a, B (mA m a) (nI i) x2 x3 (nI s + 1)) (k1 : ¬ tellM u i s = 0 → x3 ≤ nI (tellM u i s) → ∀ a, B (mA m a) (nI i) x2 x3 (nI s + 1)) (k2 : ¬ tellM u i s = 0 → ¬ x3 ≤ nI (tellM u i s) → ∀ a, B (mA m a) (nI i) (nI s) (nI (tellM u i s)) (nI s + 1)) : ∀ (k c : Nat) (a : Nat → Int32) (T : Nat → Nat), c + k = 30 → AL a T → (∀ x, T x ≤ c) → (∀ x, 16 ≤ x → T x = 0) → tl (cellFit u i) (tv u i s) k c T = tl (cellFit u i) (tv u i s) 30 0 (fun _ => 0) → V_X8_tell_35 K B (k + 1) (mA m a) (nI i) x2 x3 (nI s) (nI c)
  | 0, c, a, T, hc, ha, hB, h0, he => by
    have e : T = tl (cellFit u i) (tv u i s) 30 0 (fun _ => 0) := he
    have hB2 : ∀ x, T x ≤ 1000 := fun x => Nat.le_trans (hB x) (by omega)
    have e2 : maxT T 16 = tellM u i s := by rw [e]; rfl
    have hm : tellM u i s ≤ 30 := most_le
    refine bt (nI_le (a := 30) (by omega) (by omega)) (m_most ha hB2 h0 ?_)
    rw [e2]
    refine ⟨fun q => k0 ((i0 (by omega)).mp q) a, fun q => m_most ha hB2 h0 ?_⟩
    have q' : ¬ tellM u i s = 0 := fun z => q ((i0 (by omega)).mpr z)
    rw [e2]
    refine ⟨fun z => k1 q' z a, fun z => m_most ha hB2 h0 ?_⟩
    rw [e2]; exact k2 q' z a
  | k + 1, c, a, T, hc, ha, hB, h0, he => by
    have h7 := h.1.1.2
    refine bf (nI_ge (b := 30) (by omega) (by omega)) (m_mayBe1 (mm := mA m a) h hi ?_)
    obtain ⟨g1, g2⟩ := tv_ok h.1 hi hs (c := c) (by omega)
    rw [tl] at he
    rw [nI_1]
    by_cases q : cellFit u i c = true
    · rw [if_pos q] at he
      rw [q]
      refine z1 (m_soulOf (f := m.1) 0 (by omega) (by decide) (m_knees (f := m.1) h.1 ?_))
      rw [kneesB_none h.1.1, show 9 + 3 * i + 0 = 9 + 3 * i by omega, ← (h.1.2.2.2.2.2.2.1 i hi).1]
      refine m_fussBy (h.1.2.2.2.2.2.2.1 i hi).2.2.2.1 ?_
      have v : vp_in (nI (tv u i s c)) 41 := vp_in_nI (by omega) (by decide)
      rw [g2, nI_clamp (by omega)]
      refine ⟨v, v, ml_tell2 h hi hs k0 k1 k2 k (c + 1) (upd a (tv u i s c) (a (tv u i s c) + 1)) _ (by omega) (ha.bump (by omega)) (bump_le hB) (fun x hx => ?_) he⟩
      unfold bump; rw [if_neg (by omega)]; exact h0 x hx
    · rw [if_neg q] at he
      rw [show cellFit u i c = false by simpa using q]
      exact z0 (ml_tell2 h hi hs k0 k1 k2 k (c + 1) a T (by omega) ha (fun x => Nat.le_succ_of_le (hB x)) h0 he)
theorem ml_tell {K : Int32 → MS → Prop} {u : HS} {m : MS} {i : Nat} (h : RH u m.1) (hi : i < HN u) : ∀ (k s : Nat) (st : Int32 × Nat) (a : Nat → Int32), s + k = 20 → st.2 ≤ 100 → (∀ a', K (bestP (tellM u i) nI k s st).1 (mA m a')) → V_X8_tell_21 K (k + 1) (mA m a) (nI i) st.1 (nI st.2) (nI s)
  | 0, s, st, a, hi, hs, hK => bt (nI_le (a := 20) (by omega) (by omega)) (hK a)
  | k + 1, s, st, a, hsk, hs, hK => by
    have hm : tellM u i s ≤ 30 := most_le
    rw [bestP] at hK
    refine bf (nI_ge (b := 20) (by omega) (by omega)) (m_clear (fun a0 ha0 => ⟨31, ml_tell2 h hi (by omega) (fun z a' => ?_) (fun z z2 a' => ?_) (fun z z2 a' => ?_) 30 0 a0 _ (by omega) ha0 (fun _ => Nat.le_refl 0) (fun _ _ => rfl) rfl⟩))
    · rw [if_pos (Or.inl z)] at hK
      rw [nI_1]
      exact ml_tell h hi k (s + 1) st a' (by omega) hs hK
    · rw [if_pos (Or.inr ((nI_leI (by omega) (by omega)).mp z2))] at hK
      rw [nI_1]
      exact ml_tell h hi k (s + 1) st a' (by omega) hs hK
    · rw [if_neg (fun y => y.elim z (fun y => z2 (nI_le y (by omega))))] at hK
      rw [nI_1]
      exact ml_tell h hi k (s + 1) (nI s, tellM u i s) a' (by omega) (by show tellM u i s ≤ 100; omega) hK
theorem p_tell : st_tell Rel := by
  intro u mm x hr
  have hH := hr.1
  have hC := hH.1
  have hI := hC.1
  by_cases h : isS u.1 x
  · obtain ⟨i, hi, rfl, hi7⟩ := isS.of hI h
    refine r_isSoul1 hI h (y1 ⟨31, l_cells hH hi7 30 0 0 (by omega) ?_⟩)
    refine ⟨21, l_tell (u := u) (t := u.2.2.2.2.2.2.2.1) hC hi (fun j hj => orF_has (by decide) hj) 20 0 (-1, 31) (by omega) (by decide) (fun t' => ?_)⟩
    show V_X8_tell _ mm _
    refine m_isSoul1 hC h (y1 ⟨21, ml_tell (m := mm) (a := mm.2.2.2.2.2.2.2.2.2.2.2.2.2.2.2) hH hi 20 0 (-1, 99) (by omega) (by decide) (fun a' => ⟨?_, hr.tal t' a'⟩)⟩)
    exact (SS.best (M := 30) (fun i => most_le) 20 0 (-1, 31) (-1, 99) (Or.inr ⟨rfl, by decide, by decide⟩)).fst
  · refine r_isSoul0 hI h (y0 ?_)
    unfold V_X7_refuseBad
    show V_X8_tell _ mm _
    exact m_isSoul0 hC h (y0 (And.intro rfl hr.bad))
