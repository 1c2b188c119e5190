/-! ===== the class's hall: its fields by name, rules for its reads ===== -/
abbrev hrk (u : HS) : Nat → Int32 := u.1
abbrev hsk (u : HS) : Nat → Int32 := u.2.1
abbrev hsb (u : HS) : Nat → Int32 := u.2.2.1
abbrev hce (u : HS) : Nat → Int32 := u.2.2.2.1
abbrev hso (u : HS) : Int32 := u.2.2.2.2.1
abbrev hco (u : HS) : Int32 := u.2.2.2.2.2.1
abbrev hmi (u : HS) : Int32 := u.2.2.2.2.2.2.1
abbrev hfu (u : HS) : Int32 := u.2.2.2.2.2.2.2.1
abbrev hsg (u : HS) : TS := u.2.2.2.2.2.2.2.2.1
abbrev hnt (u : HS) : TS := u.2.2.2.2.2.2.2.2.2.1
abbrev hmk (u : HS) : TS := u.2.2.2.2.2.2.2.2.2.2.1
abbrev hpa (u : HS) : TS := u.2.2.2.2.2.2.2.2.2.2.2
/-- how many souls -/
def HN (u : HS) : Nat := (hso u).toNatClampNeg
def HI (u : HS) : Prop := hso u = nI (HN u) ∧ HN u ≤ 7
theorem HI.of {u : HS} {n : Nat} (h : hso u = nI n) (hn : n ≤ 7) : HI u ∧ HN u = n := by
  have e : HN u = n := by unfold HN; rw [h]; exact nI_clamp (by omega)
  exact ⟨⟨by rw [e]; exact h, by rw [e]; exact hn⟩, e⟩
/-- a soul that is there -/
def isS (u : HS) (i : Int32) : Prop := vp_in i (HN u)
theorem isS.of {u : HS} (h : HI u) {i : Int32} (hi : isS u i) : ∃ j, j < HN u ∧ i = nI j ∧ j < 7 := by
  obtain ⟨j, h1, h2⟩ := vp_in_of hi (by have := h.2; omega)
  exact ⟨j, h1, h2, by have := h.2; omega⟩
theorem isS.in7 {u : HS} (h : HI u) {i : Int32} (hi : isS u i) : vp_in i 7 := vi_mono hi h.2
theorem r_isSoul1 {K : Int32 → Prop} {u : HS} {i : Int32} (h : HI u) (hi : isS u i) (k : K 1) : V_X0_isSoul K u i := r_within1 (HN u) h.1 (by have := h.2; omega) hi ⟨Or.inr rfl, k⟩
theorem r_isSoul0 {K : Int32 → Prop} {u : HS} {i : Int32} (h : HI u) (hi : ¬ isS u i) (k : K 0) : V_X0_isSoul K u i := r_within0 (HN u) h.1 (by have := h.2; omega) hi ⟨Or.inl rfl, k⟩
theorem r_sits1 {K : Int32 → Prop} {u : HS} {i : Int32} (hi : vp_in i 7) (h : ¬ hce u i.toNatClampNeg = -1) (k : K 1) : V_X0_sits K u i := ⟨hi, bf h k⟩
theorem r_sits0 {K : Int32 → Prop} {u : HS} {i : Int32} (hi : vp_in i 7) (h : hce u i.toNatClampNeg = -1) (k : K 0) : V_X0_sits K u i := ⟨hi, bt h k⟩
/-- who sits at c -/
def whoH (u : HS) (c : Int32) : Int32 := fnd (fun i => decide (hce u i = c)) (HN u) 0
theorem l_sitterAt {K : Int32 → Prop} {u : HS} (h : HI u) {c : Int32} : ∀ (k i : Nat), i + k = HN u → K (fnd (fun j => decide (hce u j = c)) k i) → V_X0_sitterAt_2 K (k + 1) u c (nI i)
  | 0, i, hi, hK => bt (by show hso u ≤ nI i; rw [h.1]; exact nI_le (by omega) (by have := h.2; omega)) hK
  | k + 1, i, hi, hK => by
    have h7 := h.2
    refine bf (by show ¬ hso u ≤ nI i; rw [h.1]; exact nI_ge (by omega) (by omega)) ⟨vp_in_nI (by omega) (by decide), ?_⟩
    rw [nI_clamp (by omega)]
    rw [fnd] at hK
    by_cases hc : u.2.2.2.1 i = c
    · rw [if_pos (by simpa using hc)] at hK
      exact nt hc hK
    · rw [if_neg (by simpa using hc)] at hK
      exact nf hc (by rw [nI_1]; exact l_sitterAt h k (i + 1) (by omega) hK)
theorem r_sitterAt {K : Int32 → Prop} {u : HS} {c : Int32} (h : HI u) (k : K (whoH u c)) : V_X0_sitterAt K u c := ⟨_, l_sitterAt h (HN u) 0 (by omega) k⟩
theorem r_hasCoat1 {K : Int32 → Prop} {u : HS} {c : Int32} (h : hasB (hco u) c) (k : K 1) : V_X0_hasCoat K u c := r_has1 h ⟨Or.inr rfl, k⟩
theorem r_hasCoat0 {K : Int32 → Prop} {u : HS} {c : Int32} (h : ¬ hasB (hco u) c) (k : K 0) : V_X0_hasCoat K u c := r_has0 h ⟨Or.inl rfl, k⟩
def freeH (u : HS) (c : Int32) : Prop := whoH u c = -1 ∧ ¬ hasB (hco u) c
theorem r_isFree1 {K : Int32 → Prop} {u : HS} {c : Int32} (h : HI u) (hf : freeH u c) (k : K 1) : V_X0_isFree K u c := r_sitterAt h (nt hf.1 (r_hasCoat0 hf.2 (y0 k)))
theorem r_isFree0 {K : Int32 → Prop} {u : HS} {c : Int32} (h : HI u) (hf : ¬ freeH u c) (k : K 0) : V_X0_isFree K u c := by
  refine r_sitterAt h ?_
  by_cases h1 : whoH u c = -1
  · exact nt h1 (r_hasCoat1 (Classical.not_not.mp (fun q => hf ⟨h1, q⟩)) (y1 k))
  · exact nf h1 k
/-- knees passed on the way to c -/
def aisleV (c : Int32) : Int32 := c - (c - c / 6 * 6)
def kneesH (u : HS) (c : Int32) : Nat := cnt (fun i => decide (¬ hce u i < aisleV c ∧ ¬ c ≤ hce u i)) (HN u) 0
theorem l_kneesTo {K : Int32 → Prop} {u : HS} (h : HI u) {c a : Int32} : ∀ (k i s : Nat), i + k = HN u → K (nI (s + cnt (fun j => decide (¬ hce u j < a ∧ ¬ c ≤ hce u j)) k i)) → V_X0_kneesTo_12 K (k + 1) u c a (nI s) (nI i)
  | 0, i, s, hi, hK => bt (by show hso u ≤ nI i; rw [h.1]; exact nI_le (by omega) (by have := h.2; omega)) hK
  | k + 1, i, s, hi, hK => by
    have h7 := h.2
    refine bf (by show ¬ hso u ≤ nI i; rw [h.1]; exact nI_ge (by omega) (by omega)) ⟨vp_in_nI (by omega) (by decide), ?_⟩
    rw [nI_clamp (by omega), nI_1, nI_1]
    rw [cnt] at hK
    by_cases h1 : u.2.2.2.1 i < a
    · rw [if_neg (by simp [h1]), Nat.zero_add] at hK
      exact bt h1 (l_kneesTo h k (i + 1) s (by omega) hK)
    · refine bf h1 ⟨vp_in_nI (by omega) (by decide), ?_⟩
      by_cases h2 : c ≤ u.2.2.2.1 i
      · rw [if_neg (by simp [h2]), Nat.zero_add] at hK
        exact bt h2 (l_kneesTo h k (i + 1) s (by omega) hK)
      · rw [if_pos (by simp [h1, h2]), ← Nat.add_assoc] at hK
        exact bf h2 (l_kneesTo h k (i + 1) (s + 1) (by omega) hK)
theorem r_kneesTo {K : Int32 → Prop} {u : HS} {c : Int32} (h : HI u) (k : K (nI (kneesH u c))) : V_X0_kneesTo K u c := ⟨_, l_kneesTo h (HN u) 0 0 (by omega) (by rw [Nat.zero_add]; exact k)⟩
def sightH (u : HS) (c : Int32) : Int32 := sightV (hrk u (c / 6).toNatClampNeg) (c - c / 6 * 6)
theorem vi_row {c : Int32} (h : vp_in c 30) : vp_in (c / 6) 5 := by
  obtain ⟨j, hj, rfl⟩ := vp_in_of h (by decide)
  have e : nI j / 6 = nI (j / 6) := pk_div (d := 6) (by omega) (by decide) (by decide)
  rw [e]
  exact vp_in_nI (by omega) (by decide)
theorem r_sightFrom {K : Int32 → Prop} {u : HS} {c : Int32} (h : vp_in c 30) (k : K (sightH u c)) : V_X0_sightFrom K u c := ⟨vi_row h, r_sight k⟩
def fussH (u : HS) (i c : Int32) : Int32 := fussV (hsk u i.toNatClampNeg) (nI (kneesH u c)) (hmi u)
theorem r_fussTo {K : Int32 → Prop} {u : HS} {i c : Int32} (h : HI u) (hi : vp_in i 7) (k : K (fussH u i c)) : V_X0_fussTo K u i c := ⟨hi, r_kneesTo h (r_fuss k)⟩
/-- the hall with a soul at a cell, or out -/
def setCe (u : HS) (i c : Int32) : HS := (u.1, u.2.1, u.2.2.1, upd u.2.2.2.1 i.toNatClampNeg c, u.2.2.2.2)
/-- a minute gone, fuss made -/
def settleH (u : HS) (x : Int32) : HS := (u.1, u.2.1, u.2.2.1, u.2.2.2.1, u.2.2.2.2.1, u.2.2.2.2.2.1, u.2.2.2.2.2.2.1 + 1, (if (u.2.2.2.2.2.2.2.1 + x) < 999999 then (u.2.2.2.2.2.2.2.1 + x) else 999999), u.2.2.2.2.2.2.2.2)
theorem r_showIn {K : Int32 → HS → Prop} {u : HS} {i c : Int32} (h : HI u) (hi : vp_in i 7) (k : K (fussH u i c) (settleH (setCe u i c) (fussH u i c))) : V_X0_showIn K u i c := r_fussTo h hi ⟨hi, k⟩
theorem HI.setCe {u : HS} (h : HI u) (i c : Int32) : HI (setCe u i c) := h
theorem r_moveTo {K : Int32 → HS → Prop} {u : HS} {i c : Int32} (h : HI u) (hi : vp_in i 7) (k : K (fussH u i (hce u i.toNatClampNeg) + fussH (setCe u i (-1)) i c) (settleH (setCe (setCe u i (-1)) i c) (fussH u i (hce u i.toNatClampNeg) + fussH (setCe u i (-1)) i c))) : V_X0_moveTo K u i c := ⟨hi, r_fussTo h hi ⟨hi, r_fussTo (u := setCe u i (-1)) (h.setCe i (-1)) hi ⟨hi, k⟩⟩⟩
theorem r_sendOut {K : Int32 → HS → Prop} {u : HS} {i : Int32} (h : HI u) (hi : vp_in i 7) (k : K (fussH u i (hce u i.toNatClampNeg)) (settleH (setCe u i (-1)) (fussH u i (hce u i.toNatClampNeg)))) : V_X0_sendOut K u i := ⟨hi, r_fussTo h hi ⟨hi, k⟩⟩
theorem r_addSoul {K : Int32 → HS → Prop} {u : HS} {x y : Int32} (h : HI u) (hn : HN u < 7) (k : K (nI (HN u)) (u.1, upd u.2.1 (HN u) x, upd u.2.2.1 (HN u) y, upd u.2.2.2.1 (HN u) (-1), nI (HN u + 1), u.2.2.2.2.2)) : V_X0_addSoul K u x y := by
  have e : u.2.2.2.2.1 = nI (HN u) := h.1
  unfold V_X0_addSoul
  rw [e, nI_clamp (by omega), nI_1, nI_pred]
  exact bt (nI_lt (b := 7) hn (by decide)) ⟨vp_in_nI hn (by decide), vp_in_nI hn (by decide), vp_in_nI hn (by decide), k⟩
/-- how many sit -/
def sitsH (u : HS) : Nat := cnt (fun i => decide (¬ hce u i = -1)) (HN u) 0
theorem l_howManySit {K : Int32 → Prop} {u : HS} (h : HI u) : ∀ (k i s : Nat), i + k = HN u → K (nI (s + cnt (fun j => decide (¬ hce u j = -1)) k i)) → V_X0_howManySit_4 K (k + 1) u (nI s) (nI i)
  | 0, i, s, hi, hK => bt (by show hso u ≤ nI i; rw [h.1]; exact nI_le (by omega) (by have := h.2; omega)) hK
  | k + 1, i, s, hi, hK => by
    have h7 := h.2
    refine bf (by show ¬ hso u ≤ nI i; rw [h.1]; exact nI_ge (by omega) (by omega)) ?_
    rw [nI_1, nI_1]
    rw [cnt] at hK
    have hv : vp_in (nI i) 7 := vp_in_nI (by omega) (by decide)
    have hcl : (nI i).toNatClampNeg = i := nI_clamp (by omega)
    by_cases h1 : hce u i = -1
    · rw [if_neg (by simp [h1]), Nat.zero_add] at hK
      exact r_sits0 hv (by rw [hcl]; exact h1) (z0 (l_howManySit h k (i + 1) s (by omega) hK))
    · rw [if_pos (by simp [h1]), ← Nat.add_assoc] at hK
      exact r_sits1 hv (by rw [hcl]; exact h1) (z1 (l_howManySit h k (i + 1) (s + 1) (by omega) hK))
theorem r_howManySit {K : Int32 → Prop} {u : HS} (h : HI u) (k : K (nI (sitsH u))) : V_X0_howManySit K u := ⟨_, l_howManySit h (HN u) 0 0 (by omega) (by rw [Nat.zero_add]; exact k)⟩
