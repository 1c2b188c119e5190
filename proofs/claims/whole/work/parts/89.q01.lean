/-! ===== steps: wrong, is, kinds ===== -/
theorem or0 (x : Int32) : x ||| 0 = x := by
  apply Int32.toBitVec_inj.mp
  rw [Int32.toBitVec_or]
  exact BitVec.or_zero
def orF (p : Nat → Bool) : Nat → Nat → Int32 → Int32
  | 0, _, b => b
  | k + 1, i, b => orF p k (i + 1) (if p i = true then b ||| (1 <<< (nI i &&& 31)) else b)
def allF (p : Nat → Bool) : Nat → Nat → Bool
  | 0, _ => true
  | k + 1, i => p i && allF p k (i + 1)
def wrongP (u : HS) (i : Nat) : Bool := decide (¬ hce u i = -1 ∧ ¬ hce u i = hsb u i)
theorem l_wrong {K : Int32 → Prop} {u : US} (h : HI u.1) : ∀ (k i : Nat) (b : Int32), i + k = HN u.1 → K (orF (wrongP u.1) k i b) → V_X7_wrong_4 K (k + 1) u b (nI i)
  | 0, i, b, hi, hK => bt (by show hso u.1 ≤ nI i; rw [h.1]; exact nI_le (by omega) (by have := h.2; omega)) hK
  | k + 1, i, b, hi, hK => by
    have h7 := h.2
    have v : vp_in (nI i) 7 := vp_in_nI (by omega) (by decide)
    have cl : (nI i).toNatClampNeg = i := nI_clamp (by omega)
    refine bf (by show ¬ hso u.1 ≤ nI i; rw [h.1]; exact nI_ge (by omega) (by omega)) ?_
    rw [orF] at hK
    by_cases q : hce u.1 i = -1
    · rw [if_neg (by simp [wrongP, q])] at hK
      refine r_sits0 v (by rw [cl]; exact q) (z0 ?_)
      rw [nI_1]; exact l_wrong h k (i + 1) b (by omega) hK
    · refine r_sits1 v (by rw [cl]; exact q) (z1 ⟨v, v, ?_⟩)
      rw [cl, nI_1]
      by_cases q2 : hce u.1 i = hsb u.1 i
      · rw [if_neg (by simp [wrongP, q2])] at hK
        exact bt q2 (l_wrong h k (i + 1) b (by omega) hK)
      · rw [if_pos (by simp [wrongP, q, q2])] at hK
        exact bf q2 (l_wrong h k (i + 1) _ (by omega) hK)
theorem ml_wrong {K : Int32 → Prop} {u : HS} {mm : MS} (h : RC u mm.1) : ∀ (k i : Nat) (b : Int32), i + k = HN u → K (orF (wrongP u) k i b) → V_X8_wrong_4 K (k + 1) mm b (nI i)
  | 0, i, b, hi, hK => bt (by rw [h.2.1, h.1.1]; exact nI_le (by omega) (by have := h.1.2; omega)) hK
  | k + 1, i, b, hi, hK => by
    have h7 := h.1.2
    refine bf (by rw [h.2.1, h.1.1]; exact nI_ge (by omega) (by omega)) ?_
    rw [orF] at hK
    rw [nI_1, or0]
    by_cases q : hce u i = -1
    · rw [if_neg (by simp [wrongP, q])] at hK
      exact m_isOut1 h (by omega) q (y1 (ml_wrong h k (i + 1) b (by omega) hK))
    · refine m_isOut0 h (by omega) q (y0 (m_cellOf h (by omega) (m_soulOf 1 (by omega) (by decide) ?_)))
      rw [show 9 + 3 * i + 1 = 10 + 3 * i by omega, ← (h.2.2.2.2.2.2.1 i (by omega)).2.1]
      by_cases q2 : hce u i = hsb u i
      · rw [if_neg (by simp [wrongP, q2])] at hK
        exact bt q2 (ml_wrong h k (i + 1) b (by omega) hK)
      · rw [if_pos (by simp [wrongP, q, q2])] at hK
        exact bf q2 (ml_wrong h k (i + 1) _ (by omega) hK)
theorem p_wrong : st_wrong Rel := by
  intro u mm hr
  exact ⟨_, l_wrong hr.1.1.1 (HN u.1) 0 0 (by omega) ⟨_, ml_wrong hr.1.1 (HN u.1) 0 0 (by omega) ⟨rfl, hr⟩⟩⟩
theorem m_told {K : Int32 → Prop} {mm : MS} {cap w base n k c : Nat} {t : TS} (hT : RT cap w base t mm.1) (hn : t.2 = nI n) (hn8 : n ≤ 8) (hc8 : cap ≤ 8) (hb : base + 1 + cap * w ≤ 171) (hk : k < n) (hc : c < w) (kk : K (t.1 (k * w + c))) : V_X8_told K mm (nI base) (nI w) (nI k) (nI c) := by
  obtain ⟨z, z1, z2, z3, z4⟩ := hT
  have e : n = z := (nI_eq (by omega) (by omega)).mp (hn.symm.trans z2)
  subst e
  have l1 : k * w + c < n * w := tm_lt hk hc
  have l2 : n * w ≤ cap * w := Nat.mul_le_mul_right w z1
  have ei : nI base + 1 + nI w * nI k + nI c = nI (base + 1 + (k * w + c)) := by
    rw [nI_1, pk_mul, nI_add, nI_add, Nat.mul_comm w k, Nat.add_assoc (base + 1)]
  unfold V_X8_told
  rw [ei, nI_clamp (by omega), ← z4 _ l1]
  exact ⟨vp_in_nI (by omega) (by decide), kk⟩
def noteP (t : TS) (r kind : Int32) (j : Nat) : Bool := decide (¬ t.1 (j * 3 + 0) = r ∨ sightV kind (t.1 (j * 3 + 1)) = t.1 (j * 3 + 2))
def markP (t : TS) (i kind : Int32) (j : Nat) : Bool := decide (¬ t.1 (j * 4 + 0) = i ∨ fussV kind (t.1 (j * 4 + 1)) (t.1 (j * 4 + 2)) = t.1 (j * 4 + 3))
def b01 (b : Bool) : Int32 := if b = true then 1 else 0
theorem l_fitsNotes {K : Int32 → Prop} {u : US} {n : Nat} {r kind : Int32} (hn : (hnt u.1).2 = nI n) (hn6 : n ≤ 6) : ∀ (k j : Nat), j + k = n → K (b01 (allF (noteP (hnt u.1) r kind) k j)) → V_X7_fitsNotes_2 K (k + 1) u r kind (nI j)
  | 0, j, hj, hK => bt (by show (hnt u.1).2 ≤ nI j; rw [hn]; exact nI_le (by omega) (by omega)) hK
  | k + 1, j, hj, hK => by
    refine bf (by show ¬ (hnt u.1).2 ≤ nI j; rw [hn]; exact nI_ge (by omega) (by omega)) ?_
    rw [allF] at hK
    refine r_tat (l := j) (c := 0) TM_nt hn hn6 (by omega) (by decide) ?_
    rw [nI_1]
    by_cases q : (hnt u.1).1 (j * 3 + 0) = r
    · refine nt q (r_tat (l := j) (c := 1) TM_nt hn hn6 (by omega) (by decide) (r_sight (r_tat (l := j) (c := 2) TM_nt hn hn6 (by omega) (by decide) ?_)))
      by_cases q2 : sightV kind ((hnt u.1).1 (j * 3 + 1)) = (hnt u.1).1 (j * 3 + 2)
      · have e : noteP (hnt u.1) r kind j = true := by simp only [noteP, decide_eq_true_eq]; exact Or.inr q2
        rw [e, Bool.true_and] at hK
        exact bt q2 (l_fitsNotes hn hn6 k (j + 1) (by omega) hK)
      · have e : noteP (hnt u.1) r kind j = false := by simp only [noteP, decide_eq_false_iff_not]; exact fun z => z.elim (fun z => z q) q2
        rw [e, Bool.false_and] at hK
        exact bf q2 hK
    · have e : noteP (hnt u.1) r kind j = true := by simp only [noteP, decide_eq_true_eq]; exact Or.inl q
      rw [e, Bool.true_and] at hK
      exact nf q (l_fitsNotes hn hn6 k (j + 1) (by omega) hK)
theorem l_fitsMarks {K : Int32 → Prop} {u : US} {n : Nat} {r kind : Int32} (hn : (hmk u.1).2 = nI n) (hn6 : n ≤ 6) : ∀ (k j : Nat), j + k = n → K (b01 (allF (markP (hmk u.1) r kind) k j)) → V_X7_fitsMarks_2 K (k + 1) u r kind (nI j)
  | 0, j, hj, hK => bt (by show (hmk u.1).2 ≤ nI j; rw [hn]; exact nI_le (by omega) (by omega)) hK
  | k + 1, j, hj, hK => by
    refine bf (by show ¬ (hmk u.1).2 ≤ nI j; rw [hn]; exact nI_ge (by omega) (by omega)) ?_
    rw [allF] at hK
    refine r_tat (l := j) (c := 0) TM_mk hn hn6 (by omega) (by decide) ?_
    rw [nI_1]
    by_cases q : (hmk u.1).1 (j * 4 + 0) = r
    · refine nt q (r_tat (l := j) (c := 1) TM_mk hn hn6 (by omega) (by decide) (r_tat (l := j) (c := 2) TM_mk hn hn6 (by omega) (by decide) (r_fuss (r_tat (l := j) (c := 3) TM_mk hn hn6 (by omega) (by decide) ?_))))
      by_cases q2 : fussV kind ((hmk u.1).1 (j * 4 + 1)) ((hmk u.1).1 (j * 4 + 2)) = (hmk u.1).1 (j * 4 + 3)
      · have e : markP (hmk u.1) r kind j = true := by simp only [markP, decide_eq_true_eq]; exact Or.inr q2
        rw [e, Bool.true_and] at hK
        exact bt q2 (l_fitsMarks hn hn6 k (j + 1) (by omega) hK)
      · have e : markP (hmk u.1) r kind j = false := by simp only [markP, decide_eq_false_iff_not]; exact fun z => z.elim (fun z => z q) q2
        rw [e, Bool.false_and] at hK
        exact bf q2 hK
    · have e : markP (hmk u.1) r kind j = true := by simp only [markP, decide_eq_true_eq]; exact Or.inl q
      rw [e, Bool.true_and] at hK
      exact nf q (l_fitsMarks hn hn6 k (j + 1) (by omega) hK)
def noteFit (u : HS) (r : Int32) (kind : Nat) : Bool := allF (noteP (hnt u) r (nI kind)) (hnt u).2.toNatClampNeg 0
def markFit (u : HS) (i : Int32) (kind : Nat) : Bool := allF (markP (hmk u) i (nI kind)) (hmk u).2.toNatClampNeg 0
theorem r_fitsNotes {K : Int32 → Prop} {u : US} {f : Nat → Int32} {r : Int32} {kind : Nat} (h : RH u.1 f) (k : K (b01 (noteFit u.1 r kind))) : V_X7_fitsNotes K u r (nI kind) := by
  obtain ⟨n, n1, n2, n3⟩ := h.2.2.2.2.1.size
  refine ⟨_, l_fitsNotes n2 n1 n 0 (by omega) ?_⟩
  unfold noteFit at k
  rw [n2, nI_clamp (by omega)] at k
  exact k
theorem r_fitsMarks {K : Int32 → Prop} {u : US} {f : Nat → Int32} {r : Int32} {kind : Nat} (h : RH u.1 f) (k : K (b01 (markFit u.1 r kind))) : V_X7_fitsMarks K u r (nI kind) := by
  obtain ⟨n, n1, n2, n3⟩ := h.2.2.2.2.2.2.1.size
  refine ⟨_, l_fitsMarks n2 n1 n 0 (by omega) ?_⟩
  unfold markFit at k
  rw [n2, nI_clamp (by omega)] at k
  exact k
def noteBits (u : HS) (r : Int32) : Int32 := orF (noteFit u r) 6 0 0
def markBits (u : HS) (i : Int32) : Int32 := orF (markFit u i) 6 0 0
theorem l_rowKinds {K : Int32 → Prop} {u : US} {f : Nat → Int32} {r : Int32} (h : RH u.1 f) : ∀ (k j : Nat) (b : Int32), j + k = 6 → K (orF (noteFit u.1 r) k j b) → V_X7_rowKindsThatFit_4 K (k + 1) u r b (nI j)
  | 0, j, b, hj, hK => bt (nI_le (a := 6) (by omega) (by omega)) hK
  | k + 1, j, b, hj, hK => by
    refine bf (nI_ge (b := 6) (by omega) (by omega)) (r_fitsNotes h ?_)
    rw [nI_1]
    rw [orF] at hK
    by_cases q : noteFit u.1 r j = true
    · rw [if_pos q] at hK
      rw [q]
      exact z1 (l_rowKinds h k (j + 1) _ (by omega) hK)
    · rw [if_neg q] at hK
      rw [show noteFit u.1 r j = false by simpa using q]
      exact z0 (l_rowKinds h k (j + 1) _ (by omega) hK)
theorem l_soulKinds {K : Int32 → Prop} {u : US} {f : Nat → Int32} {r : Int32} (h : RH u.1 f) : ∀ (k j : Nat) (b : Int32), j + k = 6 → K (orF (markFit u.1 r) k j b) → V_X7_soulKindsThatFit_4 K (k + 1) u r b (nI j)
  | 0, j, b, hj, hK => bt (nI_le (a := 6) (by omega) (by omega)) hK
  | k + 1, j, b, hj, hK => by
    refine bf (nI_ge (b := 6) (by omega) (by omega)) (r_fitsMarks h ?_)
    rw [nI_1]
    rw [orF] at hK
    by_cases q : markFit u.1 r j = true
    · rw [if_pos q] at hK
      rw [q]
      exact z1 (l_soulKinds h k (j + 1) _ (by omega) hK)
    · rw [if_neg q] at hK
      rw [show markFit u.1 r j = false by simpa using q]
      exact z0 (l_soulKinds h k (j + 1) _ (by omega) hK)
theorem r_rowKinds {K : Int32 → Prop} {u : US} {f : Nat → Int32} {r : Int32} (h : RH u.1 f) (k : K (noteBits u.1 r)) : V_X7_rowKindsThatFit K u r := ⟨_, l_rowKinds h 6 0 0 (by omega) k⟩
theorem r_soulKinds {K : Int32 → Prop} {u : US} {f : Nat → Int32} {r : Int32} (h : RH u.1 f) (k : K (markBits u.1 r)) : V_X7_soulKindsThatFit K u r := ⟨_, l_soulKinds h 6 0 0 (by omega) k⟩
theorem ml_isBits2z {K : Int32 → Prop} {B : Int32 → Int32 → Int32 → Prop} {u : HS} {mm : MS} {n : Nat} {r b kind : Int32} (hn : mm.1 46 = nI n) (hn6 : n ≤ 6) (hB : B r b (kind + 1)) : ∀ (k j : Nat), j + k = n → V_X8_isBits_16 K B (k + 1) mm r b kind 0 (nI j)
  | 0, j, hj => bt (by rw [hn]; exact nI_le (by omega) (by omega)) (z0 (by rw [or0]; exact hB))
  | k + 1, j, hj => bf (by rw [hn]; exact nI_ge (by omega) (by omega)) (z0 (by rw [nI_1]; exact ml_isBits2z (u := u) hn hn6 hB k (j + 1) (by omega)))
theorem ml_isBits2 {K : Int32 → Prop} {B : Int32 → Int32 → Int32 → Prop} {u : HS} {mm : MS} {n : Nat} {r b kind : Int32} (h : RH u mm.1) (h2 : (hnt u).2 = nI n) (hn : mm.1 46 = nI n) (hn6 : n ≤ 6) (hk6 : vp_in kind 6) : ∀ (k j : Nat), j + k = n → B r (if allF (noteP (hnt u) r kind) k j = true then b ||| (1 <<< (kind &&& 31)) else b) (kind + 1) → V_X8_isBits_16 K B (k + 1) mm r b kind 1 (nI j)
  | 0, j, hj, hB => bt (by rw [hn]; exact nI_le (by omega) (by omega)) (z1 hB)
  | k + 1, j, hj, hB => by
    have hT := h.2.2.2.2.1
    refine bf (by rw [hn]; exact nI_ge (by omega) (by omega)) (z1 ?_)
    rw [allF] at hB
    rw [nI_1]
    refine m_told (c := 0) hT h2 (by omega) (by decide) (by decide) (k := j) (by omega) (by decide) ?_
    by_cases q : (hnt u).1 (j * 3 + 0) = r
    · refine nt q (m_told (c := 1) hT h2 (by omega) (by decide) (by decide) (k := j) (by omega) (by decide) (m_seesBy hk6 (h.2.2.2.2.2.1 n h2 hn6 j (by omega)) (m_told (c := 2) hT h2 (by omega) (by decide) (by decide) (k := j) (by omega) (by decide) ?_)))
      by_cases q2 : sightV kind ((hnt u).1 (j * 3 + 1)) = (hnt u).1 (j * 3 + 2)
      · have e : noteP (hnt u) r kind j = true := by simp only [noteP, decide_eq_true_eq]; exact Or.inr q2
        rw [e, Bool.true_and] at hB
        exact nt q2 (ml_isBits2 h h2 hn hn6 hk6 k (j + 1) (by omega) hB)
      · have e : noteP (hnt u) r kind j = false := by simp only [noteP, decide_eq_false_iff_not]; exact fun z => z.elim (fun z => z q) q2
        rw [e, Bool.false_and, if_neg (by decide)] at hB
        exact nf q2 (ml_isBits2z (u := u) hn hn6 hB k (j + 1) (by omega))
    · have e : noteP (hnt u) r kind j = true := by simp only [noteP, decide_eq_true_eq]; exact Or.inl q
      rw [e, Bool.true_and] at hB
      exact nf q (ml_isBits2 h h2 hn hn6 hk6 k (j + 1) (by omega) hB)
theorem ml_whatBits2z {K : Int32 → Prop} {B : Int32 → Int32 → Int32 → Prop} {u : HS} {mm : MS} {n : Nat} {r b kind : Int32} (hn : mm.1 65 = nI n) (hn6 : n ≤ 6) (hB : B r b (kind + 1)) : ∀ (k j : Nat), j + k = n → V_X8_whatBits_16 K B (k + 1) mm r b kind 0 (nI j)
  | 0, j, hj => bt (by rw [hn]; exact nI_le (by omega) (by omega)) (z0 (by rw [or0]; exact hB))
  | k + 1, j, hj => bf (by rw [hn]; exact nI_ge (by omega) (by omega)) (z0 (by rw [nI_1]; exact ml_whatBits2z (u := u) hn hn6 hB k (j + 1) (by omega)))
theorem ml_whatBits2 {K : Int32 → Prop} {B : Int32 → Int32 → Int32 → Prop} {u : HS} {mm : MS} {n : Nat} {r b kind : Int32} (h : RH u mm.1) (h2 : (hmk u).2 = nI n) (hn : mm.1 65 = nI n) (hn6 : n ≤ 6) (hk6 : vp_in kind 6) : ∀ (k j : Nat), j + k = n → B r (if allF (markP (hmk u) r kind) k j = true then b ||| (1 <<< (kind &&& 31)) else b) (kind + 1) → V_X8_whatBits_16 K B (k + 1) mm r b kind 1 (nI j)
  | 0, j, hj, hB => bt (by rw [hn]; exact nI_le (by omega) (by omega)) (z1 hB)
  | k + 1, j, hj, hB => by
    have hT := h.2.2.2.2.2.2.1
    refine bf (by rw [hn]; exact nI_ge (by omega) (by omega)) (z1 ?_)
    rw [allF] at hB
    rw [nI_1]
    refine m_told (c := 0) hT h2 (by omega) (by decide) (by decide) (k := j) (by omega) (by decide) ?_
    by_cases q : (hmk u).1 (j * 4 + 0) = r
    · refine nt q (m_told (c := 1) hT h2 (by omega) (by decide) (by decide) (k := j) (by omega) (by decide) (m_told (c := 2) hT h2 (by omega) (by decide) (by decide) (k := j) (by omega) (by decide) (m_fussBy hk6 (m_told (c := 3) hT h2 (by omega) (by decide) (by decide) (k := j) (by omega) (by decide) ?_))))
      by_cases q2 : fussV kind ((hmk u).1 (j * 4 + 1)) ((hmk u).1 (j * 4 + 2)) = (hmk u).1 (j * 4 + 3)
      · have e : markP (hmk u) r kind j = true := by simp only [markP, decide_eq_true_eq]; exact Or.inr q2
        rw [e, Bool.true_and] at hB
        exact nt q2 (ml_whatBits2 h h2 hn hn6 hk6 k (j + 1) (by omega) hB)
      · have e : markP (hmk u) r kind j = false := by simp only [markP, decide_eq_false_iff_not]; exact fun z => z.elim (fun z => z q) q2
        rw [e, Bool.false_and, if_neg (by decide)] at hB
        exact nf q2 (ml_whatBits2z (u := u) hn hn6 hB k (j + 1) (by omega))
    · have e : markP (hmk u) r kind j = true := by simp only [markP, decide_eq_true_eq]; exact Or.inl q
      rw [e, Bool.true_and] at hB
      exact nf q (ml_whatBits2 h h2 hn hn6 hk6 k (j + 1) (by omega) hB)
theorem ml_isBits {K : Int32 → Prop} {u : HS} {mm : MS} {r : Int32} (h : RH u mm.1) : ∀ (k j : Nat) (b : Int32), j + k = 6 → K (orF (noteFit u r) k j b) → V_X8_isBits_4 K (k + 1) mm r b (nI j)
  | 0, j, b, hj, hK => bt (nI_le (a := 6) (by omega) (by omega)) hK
  | k + 1, j, b, hj, hK => by
    obtain ⟨n, n1, n2, n3⟩ := h.2.2.2.2.1.size
    refine bf (nI_ge (b := 6) (by omega) (by omega)) ⟨_, ml_isBits2 h n2 n3 n1 (vp_in_nI (by omega) (by decide)) n 0 (by omega) ?_⟩
    rw [nI_1]
    rw [orF] at hK
    refine ml_isBits h k (j + 1) _ (by omega) ?_
    unfold noteFit at hK ⊢
    rw [n2, nI_clamp (by omega)] at hK ⊢
    exact hK
theorem ml_whatBits {K : Int32 → Prop} {u : HS} {mm : MS} {r : Int32} (h : RH u mm.1) : ∀ (k j : Nat) (b : Int32), j + k = 6 → K (orF (markFit u r) k j b) → V_X8_whatBits_4 K (k + 1) mm r b (nI j)
  | 0, j, b, hj, hK => bt (nI_le (a := 6) (by omega) (by omega)) hK
  | k + 1, j, b, hj, hK => by
    obtain ⟨n, n1, n2, n3⟩ := h.2.2.2.2.2.2.1.size
    refine bf (nI_ge (b := 6) (by omega) (by omega)) ⟨_, ml_whatBits2 h n2 n3 n1 (vp_in_nI (by omega) (by decide)) n 0 (by omega) ?_⟩
    rw [nI_1]
    rw [orF] at hK
    refine ml_whatBits h k (j + 1) _ (by omega) ?_
    unfold markFit at hK ⊢
    rw [n2, nI_clamp (by omega)] at hK ⊢
    exact hK
theorem m_isBits {K : Int32 → Prop} {u : HS} {mm : MS} {r : Int32} (h : RH u mm.1) (k : K (noteBits u r)) : V_X8_isBits K mm r := ⟨_, ml_isBits h 6 0 0 (by omega) k⟩
theorem m_whatBits {K : Int32 → Prop} {u : HS} {mm : MS} {r : Int32} (h : RH u mm.1) (k : K (markBits u r)) : V_X8_whatBits K mm r := ⟨_, ml_whatBits h 6 0 0 (by omega) k⟩
theorem p_is : st_is Rel := by
  intro u mm x hr
  by_cases h : vp_in x 5
  · refine r_within1 5 rfl (by decide) h (z1 (r_rowKinds hr.1 ?_))
    show V_X8_is _ mm _
    exact m_in1 5 (by decide) h (z1 (m_isBits hr.1 ⟨rfl, hr⟩))
  · refine r_within0 5 rfl (by decide) h (z0 ?_)
    unfold V_X7_refuseBad
    show V_X8_is _ mm _
    exact m_in0 5 (by decide) h (z0 (And.intro rfl hr.bad))
theorem p_kinds : st_kinds Rel := by
  intro u mm x hr
  have hC := hr.1.1
  have hI := hC.1
  by_cases h : isS u.1 x
  · refine r_isSoul1 hI h (z1 (r_soulKinds hr.1 ?_))
    show V_X8_kinds _ mm _
    exact m_isSoul1 hC h (z1 (m_whatBits hr.1 ⟨rfl, hr⟩))
  · refine r_isSoul0 hI h (z0 ?_)
    unfold V_X7_refuseBad
    show V_X8_kinds _ mm _
    exact m_isSoul0 hC h (z0 (And.intro rfl hr.bad))
