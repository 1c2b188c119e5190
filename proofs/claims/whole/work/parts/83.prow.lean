/-! ===== the model's row over the class's hall ===== -/
theorem aisle_eq (c : Int32) : aisleV c = c / 6 * 6 := by unfold aisleV; grind
theorem i32_21 (k : Int32) : k + 2 - 1 = k + 1 := by grind
theorem i32_p0 (k : Int32) : k + 0 = k := by grind
theorem i32_m1p (k : Int32) : k - 1 + 1 = k := by grind
theorem i32_p1m (k : Int32) : k + 1 - 1 = k := by grind
/-- cells: out or a cell; nobody on another's lap -/
def CF (n : Nat) (ce : Nat → Int32) : Prop := (∀ i, i < n → ce i = -1 ∨ vp_in (ce i) 30) ∧ ∀ i j, i < j → j < n → ce i = ce j → ce i = -1
/-- the row says what the hall says, but for the tables -/
def RC (u : HS) (f : Nat → Int32) : Prop := HI u ∧ f 8 = hso u ∧ (∀ r, r < 5 → hrk u r = f r ∧ vp_in (f r) 6) ∧ hco u = f 5 ∧ hmi u = f 6 ∧ hfu u = f 7 ∧ (∀ i, i < HN u → hsk u i = f (9 + 3 * i) ∧ hsb u i = f (10 + 3 * i) ∧ hce u i = f (11 + 3 * i) - 1 ∧ vp_in (hsk u i) 6 ∧ vp_in (hsb u i) 30) ∧ CF (HN u) (hce u)
theorem lg_ti (x : Int32) : x.toInt64.toInt = x.toInt := by simp
theorem lg_lt (x y : Int64) : lg_cmp x y < 0 ↔ x.toInt < y.toInt := by
  unfold lg_cmp
  have key := Int64.lt_iff_toInt_lt (x := y) (y := x)
  by_cases h : y < x
  · rw [if_pos h]
    have h2 := key.mp h
    exact ⟨fun q => absurd q (by decide), fun q => by omega⟩
  · rw [if_neg h]
    by_cases e : x = y
    · rw [if_pos e, e]
      exact ⟨fun q => absurd q (by decide), fun q => by omega⟩
    · rw [if_neg e]
      have h2 : ¬ y.toInt < x.toInt := fun q => h (key.mpr q)
      have h3 : ¬ x.toInt = y.toInt := fun q => e (Int64.toInt_inj.mp q)
      exact ⟨fun _ => by omega, fun _ => by decide⟩
theorem lg_gt (x y : Int64) : 0 < lg_cmp x y ↔ y.toInt < x.toInt := by
  unfold lg_cmp
  have key := Int64.lt_iff_toInt_lt (x := y) (y := x)
  by_cases h : y < x
  · rw [if_pos h]
    exact ⟨fun _ => key.mp h, fun _ => by decide⟩
  · rw [if_neg h]
    have h2 : ¬ y.toInt < x.toInt := fun q => h (key.mpr q)
    by_cases e : x = y
    · rw [if_pos e]
      exact ⟨fun q => absurd q (by decide), fun q => absurd q h2⟩
    · rw [if_neg e]
      exact ⟨fun q => absurd q (by decide), fun q => absurd q h2⟩
theorem m_in1 {K : Int32 → Prop} {x : Int32} {m : Int64} (n : Nat) (hm : m.toInt = (n : Int) - 1) (h : vp_in x n) (k : K 1) : V_X8_in K x.toInt64 0 m := by
  have h1 := vp_in_iff.mp h
  refine bf (fun q => ?_) (bf (fun q => ?_) k)
  · have := (lg_lt _ _).mp q; rw [lg_ti] at this; have h0 : (0 : Int64).toInt = 0 := by decide
    omega
  · have := (lg_gt _ _).mp q; rw [lg_ti] at this; omega
theorem m_in0 {K : Int32 → Prop} {x : Int32} {m : Int64} (n : Nat) (hm : m.toInt = (n : Int) - 1) (h : ¬ vp_in x n) (k : K 0) : V_X8_in K x.toInt64 0 m := by
  have h0 : (0 : Int64).toInt = 0 := by decide
  refine ⟨fun _ => k, fun q => bt ?_ k⟩
  have q1 : ¬ x.toInt64.toInt < (0 : Int64).toInt := fun z => q ((lg_lt _ _).mpr z)
  rw [lg_ti, h0] at q1
  refine (lg_gt _ _).mpr ?_
  rw [lg_ti, hm]
  have h2 : ¬ (0 ≤ x.toInt ∧ x.toInt < n) := fun z => h (vp_in_iff.mpr z)
  omega
theorem RC.most {u : HS} {f : Nat → Int32} (h : RC u f) : ((f 8 - 1 : Int32).toInt64).toInt = (HN u : Int) - 1 := by
  have h1 : f 8 = nI (HN u) := h.2.1.trans h.1.1
  have h7 := h.1.2
  rw [lg_ti, h1]
  exact pk_sub_toInt (b := 1) (by omega) (by decide)
theorem m_isSoul1 {K : Int32 → Prop} {u : HS} {mm : MS} {i : Int32} (h : RC u mm.1) (hi : isS u i) (k : K 1) : V_X8_isSoul K mm i := m_in1 (HN u) h.most hi ⟨Or.inr rfl, k⟩
theorem m_isSoul0 {K : Int32 → Prop} {u : HS} {mm : MS} {i : Int32} (h : RC u mm.1) (hi : ¬ isS u i) (k : K 0) : V_X8_isSoul K mm i := m_in0 (HN u) h.most hi ⟨Or.inl rfl, k⟩
theorem m_isCell1 {K : Int32 → Prop} {c : Int32} (h : vp_in c 30) (k : K 1) : V_X8_isCell K c := m_in1 30 (by decide) h ⟨Or.inr rfl, k⟩
theorem m_isCell0 {K : Int32 → Prop} {c : Int32} (h : ¬ vp_in c 30) (k : K 0) : V_X8_isCell K c := m_in0 30 (by decide) h ⟨Or.inl rfl, k⟩
theorem ix_soul (i w : Nat) : (9 : Int32) + 3 * nI i + nI w = nI (9 + 3 * i + w) := by
  show nI 9 + nI 3 * nI i + nI w = _
  rw [pk_mul, nI_add, nI_add]
theorem ix_cell (i : Nat) : (11 : Int32) + 3 * nI i = nI (11 + 3 * i) := by
  show nI 11 + nI 3 * nI i = _
  rw [pk_mul, nI_add]
theorem m_soulOf {K : Int32 → Prop} {f : Nat → Int32} {i : Nat} (w : Nat) (hi : i < 7) (hw : w < 3) (k : K (f (9 + 3 * i + w))) : V_X8_soulOf K f (nI i) (nI w) := by
  unfold V_X8_soulOf
  rw [ix_soul, nI_clamp (by omega)]
  exact ⟨vp_in_nI (by omega) (by decide), k⟩
theorem m_cellOf {K : Int32 → Prop} {u : HS} {f : Nat → Int32} {i : Nat} (h : RC u f) (hi : i < HN u) (k : K (hce u i)) : V_X8_cellOf K f (nI i) := by
  have h7 := h.1.2
  refine m_soulOf 2 (by omega) (by decide) ?_
  have e := (h.2.2.2.2.2.2.1 i hi).2.2.1
  rw [show 9 + 3 * i + 2 = 11 + 3 * i by omega, ← e]
  exact k
theorem m_cellOf7 {K : Int32 → Prop} {f : Nat → Int32} {i : Nat} (hi : i < 7) (k : K (f (11 + 3 * i) - 1)) : V_X8_cellOf K f (nI i) := by
  refine m_soulOf 2 hi (by decide) ?_
  rw [show 9 + 3 * i + 2 = 11 + 3 * i by omega]
  exact k
theorem ml_whoSits {K : Int32 → Prop} {u : HS} {f : Nat → Int32} (h : RC u f) {c : Int32} : ∀ (k i : Nat), i + k = HN u → K (fnd (fun j => decide (hce u j = c)) k i) → V_X8_whoSits_2 K (k + 1) f c (nI i)
  | 0, i, hi, hK => bt (by rw [h.2.1, h.1.1]; exact nI_le (by omega) (by have := h.1.2; omega)) hK
  | k + 1, i, hi, hK => by
    have h7 := h.1.2
    refine bf (by rw [h.2.1, h.1.1]; exact nI_ge (by omega) (by omega)) (m_cellOf h (by omega) ?_)
    rw [fnd] at hK
    by_cases hc : hce u i = c
    · rw [if_pos (by simpa using hc)] at hK
      exact nt hc hK
    · rw [if_neg (by simpa using hc)] at hK
      exact nf hc (by rw [nI_1]; exact ml_whoSits h k (i + 1) (by omega) hK)
theorem m_whoSits {K : Int32 → Prop} {u : HS} {f : Nat → Int32} {c : Int32} (h : RC u f) (k : K (whoH u c)) : V_X8_whoSits K f c := ⟨_, ml_whoSits h (HN u) 0 (by omega) k⟩
theorem m_has1 {K : Int32 → Prop} {b x : Int32} (h : hasB b x) (k : K 1) : V_X8_has K b x := ⟨fun q => absurd h q, fun _ => k⟩
theorem m_has0 {K : Int32 → Prop} {b x : Int32} (h : ¬ hasB b x) (k : K 0) : V_X8_has K b x := ⟨fun _ => k, fun q => absurd q h⟩
theorem m_isFree1 {K : Int32 → Prop} {u : HS} {f : Nat → Int32} {c : Int32} (h : RC u f) (hf : freeH u c) (k : K 1) : V_X8_isFree K f c := by
  have hc : hco u = f 5 := h.2.2.2.1
  exact m_whoSits h (nt hf.1 (m_has0 (by rw [← hc]; exact hf.2) (y0 k)))
theorem m_isFree0 {K : Int32 → Prop} {u : HS} {f : Nat → Int32} {c : Int32} (h : RC u f) (hf : ¬ freeH u c) (k : K 0) : V_X8_isFree K f c := by
  have hc : hco u = f 5 := h.2.2.2.1
  refine m_whoSits h ?_
  by_cases h1 : whoH u c = -1
  · exact nt h1 (m_has1 (by rw [← hc]; exact Classical.not_not.mp (fun q => hf ⟨h1, q⟩)) (y1 k))
  · exact nf h1 k
/-- knees but one soul's -/
def kneesB (u : HS) (c b : Int32) : Nat := cnt (fun i => decide (¬ nI i = b ∧ ¬ hce u i < aisleV c ∧ ¬ c ≤ hce u i)) (HN u) 0
theorem ml_knees {K : Int32 → Prop} {u : HS} {f : Nat → Int32} (h : RC u f) {c b : Int32} : ∀ (k i s : Nat), i + k = HN u → K (nI (s + cnt (fun j => decide (¬ nI j = b ∧ ¬ hce u j < aisleV c ∧ ¬ c ≤ hce u j)) k i)) → V_X8_knees_5 K (k + 1) f c b (nI s) (nI i)
  | 0, i, s, hi, hK => bt (by rw [h.2.1, h.1.1]; exact nI_le (by omega) (by have := h.1.2; omega)) hK
  | k + 1, i, s, hi, hK => by
    have h7 := h.1.2
    refine bf (by rw [h.2.1, h.1.1]; exact nI_ge (by omega) (by omega)) (m_cellOf h (by omega) ?_)
    rw [i32_p0, nI_1, nI_1, ← aisle_eq]
    rw [cnt] at hK
    have go0 := ml_knees (K := K) h (c := c) (b := b) k (i + 1) s (by omega)
    have go1 := ml_knees (K := K) h (c := c) (b := b) k (i + 1) (s + 1) (by omega)
    by_cases h0 : nI i = b
    · rw [if_neg (by simp [h0]), Nat.zero_add] at hK
      exact bt h0 (go0 hK)
    · refine bf h0 ?_
      by_cases h1 : hce u i < aisleV c
      · rw [if_neg (by simp [h1]), Nat.zero_add] at hK
        exact bt h1 (go0 hK)
      · refine bf h1 ?_
        by_cases h2 : c ≤ hce u i
        · rw [if_neg (by simp [h2]), Nat.zero_add] at hK
          exact bt h2 (go0 hK)
        · rw [if_pos (by simp [h0, h1, h2]), ← Nat.add_assoc] at hK
          exact bf h2 (go1 hK)
theorem m_knees {K : Int32 → Prop} {u : HS} {f : Nat → Int32} {c b : Int32} (h : RC u f) (k : K (nI (kneesB u c b))) : V_X8_knees K f c b := ⟨_, ml_knees h (HN u) 0 0 (by omega) (by rw [Nat.zero_add]; exact k)⟩
theorem kneesB_none {u : HS} (h : HI u) (c : Int32) : kneesB u c (-1) = kneesH u c := by
  refine cnt_congr _ _ (fun j _ hj => ?_)
  have h7 := h.2
  simp [nI_ne_m1 (j := j) (by omega)]
theorem ai_nn {c : Int32} (h : vp_in c 30) : ¬ aisleV c < 0 := by
  obtain ⟨j, hj, rfl⟩ := vp_in_of h (by decide)
  rw [aisle_eq]
  have e : nI j / 6 = nI (j / 6) := pk_div (d := 6) (by omega) (by decide) (by decide)
  rw [e]
  show ¬ nI (j / 6) * nI 6 < 0
  rw [pk_mul]
  exact nI_pos (by omega)
theorem kneesB_out {u : HS} (h : HI u) {c : Int32} (hc : vp_in c 30) {i : Nat} (hi : i < 7) (ho : hce u i = -1 ∨ hce u i = c) : kneesB u c (nI i) = kneesH u c := by
  have h7 := h.2
  refine cnt_congr _ _ (fun j _ hj => ?_)
  by_cases e : nI j = nI i
  · have e2 : j = i := (nI_eq (by omega) (by omega)).mp e
    subst e2
    rcases ho with q | q
    · have h2 : hce u j < aisleV c := by
        rw [q]
        have h3 := Int32.not_lt.mp (ai_nn hc)
        have h4 : (-1 : Int32) < 0 := by decide
        exact Int32.lt_of_lt_of_le h4 h3
      simp [h2]
    · have h2 : c ≤ hce u j := by rw [q]; exact Int32.le_refl c
      simp [h2]
  · simp [e]
