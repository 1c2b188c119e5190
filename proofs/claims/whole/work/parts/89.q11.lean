/-! ===== the model's next order ===== -/
def mO (m : MS) (g T B : Nat → Int32) : MS := (m.1, g, m.2.2.1, m.2.2.2.1, m.2.2.2.2.1, m.2.2.2.2.2.1, m.2.2.2.2.2.2.1, m.2.2.2.2.2.2.2.1, m.2.2.2.2.2.2.2.2.1, m.2.2.2.2.2.2.2.2.2.1, m.2.2.2.2.2.2.2.2.2.2.1, m.2.2.2.2.2.2.2.2.2.2.2.1, m.2.2.2.2.2.2.2.2.2.2.2.2.1, T, B, m.2.2.2.2.2.2.2.2.2.2.2.2.2.2.2)
theorem Rel.ord {u : US} {m : MS} (h : Rel u m) (g T B : Nat → Int32) : Rel u (mO m g T B) := h
/-- the array holds the list -/
def AR (T : Nat → Int32) (p : List Nat) : Prop := ∀ j, j < p.length → T j = nI (p.getD j 0)
def small (p : List Nat) : Prop := ∀ j, p.getD j 0 < 7
theorem getD_set {p : List Nat} {a x j : Nat} (ha : a < p.length) : (p.set a x).getD j 0 = if j = a then x else p.getD j 0 := by
  rw [List.getD_eq_getElem?_getD, List.getD_eq_getElem?_getD, List.getElem?_set]
  by_cases e : j = a
  · subst e
    rw [if_pos rfl, if_pos rfl, if_pos ha]; rfl
  · rw [if_neg e, if_neg (fun z => e z.symm)]
theorem swp_len (p : List Nat) (a b : Nat) : (swp p a b).length = p.length := by unfold swp; rw [List.length_set, List.length_set]
theorem swp_at {p : List Nat} {a b j : Nat} (ha : a < p.length) (hb : b < p.length) : (swp p a b).getD j 0 = if j = b then p.getD a 0 else if j = a then p.getD b 0 else p.getD j 0 := by
  unfold swp
  rw [getD_set (by rw [List.length_set]; exact hb), getD_set ha]
theorem AR.swp {T : Nat → Int32} {p : List Nat} {a b : Nat} (h : AR T p) (ha : a < p.length) (hb : b < p.length) : AR (upd (upd T a (T b)) b (T a)) (swp p a b) := by
  intro j hj
  rw [swp_len] at hj
  rw [swp_at ha hb]
  by_cases e : j = b
  · subst e
    rw [upd_eq, if_pos rfl]; exact h a ha
  · rw [upd_ne e, if_neg e]
    by_cases e2 : j = a
    · subst e2
      rw [upd_eq, if_pos rfl]; exact h b hb
    · rw [upd_ne e2, if_neg e2]; exact h j hj
theorem small.swp {p : List Nat} {a b : Nat} (h : small p) (ha : a < p.length) (hb : b < p.length) : small (swp p a b) := by
  intro j
  rw [swp_at ha hb]
  split
  · exact h a
  · split
    · exact h b
    · exact h j
theorem ml_rvs {K : Int32 → MS → Prop} {m : MS} {g B : Nat → Int32} : ∀ (f lo hi : Nat) (p : List Nat) (T : Nat → Int32), AR T p → small p → p.length ≤ 7 → hi < p.length → lo < 100 → hi ≤ lo + 2 * f → (∀ T', AR T' (rvs f lo hi p) → small (rvs f lo hi p) → (rvs f lo hi p).length = p.length → K 1 (mO m g T' B)) → V_X8_nextOrder_100 K (f + 1) (mO m g T B) (nI lo) (nI hi)
  | 0, lo, hi, p, T, h1, hs, h2, h3, hlo, h4, hK => bt (nI_le (by omega) (by omega)) (hK T h1 hs rfl)
  | f + 1, lo, hi, p, T, h1, hs, h2, h3, hlo, h4, hK => by
    rw [rvs] at hK
    by_cases q : hi ≤ lo
    · rw [if_pos q] at hK
      exact bt (nI_le q (by omega)) (hK T h1 hs rfl)
    · rw [if_neg q] at hK
      have v1 : vp_in (nI lo) 7 := vp_in_nI (by omega) (by decide)
      have v2 : vp_in (nI hi) 7 := vp_in_nI (by omega) (by decide)
      refine bf (nI_ge (by omega) (by omega)) ⟨v1, v2, v1, v2, ?_⟩
      rw [nI_clamp (by omega), nI_clamp (by omega), nI_1]
      have e : nI hi + (-1) = nI (hi - 1) := by
        have := pk_m1 (hi - 1)
        rw [show hi - 1 + 1 = hi by omega] at this; exact this
      rw [e]
      exact ml_rvs f (lo + 1) (hi - 1) (swp p lo hi) (upd (upd T lo (T hi)) hi (T lo)) (h1.swp (by omega) h3) (hs.swp (by omega) h3) (by rw [swp_len]; exact h2) (by rw [swp_len]; omega) (by omega) (by omega) (fun T' a1 a2 a3 => hK T' a1 a2 (by rw [a3, swp_len]))
theorem ml_nx2 {K : Int32 → MS → Prop} {m : MS} {g T B : Nat → Int32} {p : List Nat} {i : Nat} (h1 : AR T p) (hs : small p) (h2 : p.length ≤ 7) (hi : i + 1 < p.length) (hle : p.getD i 0 ≤ p.getD (i + 1) 0) (hK : ∀ j, i < j → j < p.length → j = fJ p (p.getD i 0) (p.length - 1) → ∃ n, V_X8_nextOrder_100 K n (mO m g (upd (upd T i (T j)) j (T i)) B) (nI i + 1) (nI p.length - 1)) : ∀ (k : Nat), i + 1 ≤ k → k < p.length → fJ p (p.getD i 0) k = fJ p (p.getD i 0) (p.length - 1) → V_X8_nextOrder_41 K (k + 1) (mO m g T B) (nI p.length) (nI i) (nI k)
  | 0, h, _, _ => absurd h (by omega)
  | k + 1, h, hk, he => by
    have v1 : vp_in (nI i) 7 := vp_in_nI (by omega) (by decide)
    have v2 : vp_in (nI (k + 1)) 7 := vp_in_nI (by omega) (by decide)
    have s1 := hs i
    have s2 := hs (k + 1)
    refine ⟨v2, v1, ?_⟩
    rw [nI_clamp (n := i) (by omega), nI_clamp (n := k + 1) (by omega)]
    show (T i ≤ T (k + 1) → _) ∧ (¬ T i ≤ T (k + 1) → _)
    rw [fJ] at he
    by_cases q : p.getD i 0 ≤ p.getD (k + 1) 0
    · rw [if_pos q] at he
      exact bt (by rw [h1 i (by omega), h1 (k + 1) hk]; exact nI_le q (by omega)) ⟨v1, v2, v1, v2, hK (k + 1) (by omega) hk he⟩
    · rw [if_neg q] at he
      refine bf (by rw [h1 i (by omega), h1 (k + 1) hk]; exact nI_ge (by omega) (by omega)) ?_
      rw [pk_m1]
      have : ¬ k = i := fun z => q (by rw [z]; exact hle)
      exact ml_nx2 h1 hs h2 hi hle hK k (by omega) (by omega) he
theorem ml_nx1 {K : Int32 → MS → Prop} {m : MS} {g T B : Nat → Int32} {p : List Nat} (h1 : AR T p) (hs : small p) (h2 : p.length ≤ 7) : ∀ (k : Nat), k < p.length → (fI p k = none → K 0 (mO m g T B)) → (∀ i, fI p k = some i → V_X8_nextOrder_31 K (mO m g T B) (nI p.length) (nI i)) → V_X8_nextOrder_4 K (k + 1) (mO m g T B) (nI p.length) (nI k + (-1))
  | 0, hk, k0, k1 => bt (by decide) (bf (by decide) (k0 rfl))
  | k + 1, hk, k0, k1 => by
    rw [pk_m1]
    have v1 : vp_in (nI k) 7 := vp_in_nI (by omega) (by decide)
    have v2 : vp_in (nI (k + 1)) 7 := vp_in_nI (by omega) (by decide)
    have s1 := hs k
    have s2 := hs (k + 1)
    refine bf (nI_pos (by omega)) ⟨v1, ?_⟩
    rw [nI_1, nI_clamp (n := k) (by omega), nI_clamp (n := k + 1) (by omega)]
    refine ⟨v2, ?_⟩
    show (T k ≤ T (k + 1) → _) ∧ (¬ T k ≤ T (k + 1) → _)
    rw [fI] at k0 k1
    by_cases q : p.getD k 0 ≤ p.getD (k + 1) 0
    · rw [if_pos q] at k1
      exact bt (by rw [h1 k (by omega), h1 (k + 1) hk]; exact nI_le q (by omega)) (k1 k rfl)
    · rw [if_neg q] at k0 k1
      exact bf (by rw [h1 k (by omega), h1 (k + 1) hk]; exact nI_ge (by omega) (by omega)) (ml_nx1 h1 hs h2 k (by omega) k0 k1)
theorem m_next {K : Int32 → MS → Prop} {m : MS} {g T B : Nat → Int32} {p : List Nat} (h1 : AR T p) (hs : small p) (h2 : p.length ≤ 7) (k0 : nxP p = none → K 0 (mO m g T B)) (k1 : ∀ q T', nxP p = some q → AR T' q → q.length = p.length → K 1 (mO m g T' B)) : V_X8_nextOrder K (mO m g T B) (nI p.length) := by
  by_cases z : p.length = 0
  · refine ⟨1, ?_⟩
    rw [z]
    have e : nxP p = none := by
      unfold nxP
      rw [z]; rfl
    exact bt (by decide) (bf (by decide) (k0 e))
  · have e : nI p.length - 2 = nI (p.length - 1) + (-1) := by
      have : p.length = p.length - 1 + 1 := by omega
      rw [this, ← nI_1]
      show nI (p.length - 1) + 1 - 2 = _
      grind
    refine ⟨p.length - 1 + 1, ?_⟩
    rw [e]
    refine ml_nx1 h1 hs h2 (p.length - 1) (by omega) (fun h => k0 (by unfold nxP; rw [h])) (fun i hi => ?_)
    obtain ⟨i1, i2⟩ := fI_lt hi
    have en : nI p.length - 1 = nI (p.length - 1) := by
      have := nI_pred (p.length - 1)
      rw [show p.length - 1 + 1 = p.length by omega] at this; exact this
    refine bt (nI_le (a := 0) (by omega) (by omega)) ⟨p.length - 1 + 1, ?_⟩
    rw [en]
    refine ml_nx2 h1 hs h2 (by omega) i2 (fun j j1 j2 j3 => ⟨5, ?_⟩) (p.length - 1) (by omega) (by omega) rfl
    rw [nI_1, en]
    have ls := swp_len p i j
    refine ml_rvs 4 (i + 1) (p.length - 1) (swp p i j) _ (h1.swp (by omega) j2) (hs.swp (by omega) j2) (by omega) (by omega) (by omega) (by omega) (fun T' a1 a2 a3 => ?_)
    refine k1 _ T' ?_ a1 (by rw [a3, ls])
    unfold nxP
    rw [hi, j3]
