/-! ===== sights, fuss, and going, of the model ===== -/
theorem m_fussBy {K : Int32 → Prop} {kind n t : Int32} (hk : vp_in kind 6) (k : K (fussV kind n t)) : V_X8_fussBy K kind n t := by
  have key : ∀ z : Int32, z = (if t < 10 then n else 2 * n) → V_X8_fussBy_13 K kind n z := by
    intro z hz
    unfold fussV at k
    dsimp only at k
    rw [← hz, i32_21] at k
    refine ⟨fun h => ?_, fun h => ?_, fun h => ?_, fun h => ?_, fun h => ?_, fun h => ?_⟩
    · subst h; simpa using k
    · subst h; simpa using k
    · subst h; simpa using k
    · subst h; simpa using k
    · subst h; simpa using k
    · have h5 : kind = 5 := by
        obtain ⟨j, hj, rfl⟩ := vp_in_of hk (by decide)
        have : j = 0 ∨ j = 1 ∨ j = 2 ∨ j = 3 ∨ j = 4 ∨ j = 5 := by omega
        rcases this with rfl | rfl | rfl | rfl | rfl | rfl
        · exact absurd rfl h.1
        · exact absurd rfl h.2.1
        · exact absurd rfl h.2.2.1
        · exact absurd rfl h.2.2.2.1
        · exact absurd rfl h.2.2.2.2
        · rfl
      subst h5
      have e : n ≤ 0 ↔ n < 1 := by
        rw [Int32.le_iff_toInt_le, Int32.lt_iff_toInt_lt]
        have a0 : (0 : Int32).toInt = 0 := by decide
        have a1 : (1 : Int32).toInt = 1 := by decide
        omega
      rw [e]
      refine ⟨fun h2 => ?_, fun h2 => ?_⟩
      · simpa [h2] using k
      · simpa [h2] using k
  exact ⟨fun h => key _ (by rw [if_pos h]), fun h => key _ (by rw [if_neg h])⟩
theorem sv_dec : ∀ a : Nat, a < 6 → ∀ b : Nat, b < 6 → (let s := nI b; let kind := nI a; let off := (if 2 * s ≤ 5 then 5 - 2 * s else 2 * s - 5); let pl := 9 - off; let pi := if s = 2 then 0 else pl; sightV kind s = (if kind = 0 then pl else if kind = 1 then pi else if kind = 2 then pl + 4 else if kind = 3 then pl / 2 else if kind = 4 then (if pi ≤ 2 then 0 else pi - 2) else (if pl + 4 ≤ 2 * s then 0 else pl + 4 - 2 * s))) := by decide
theorem m_seesBy {K : Int32 → Prop} {kind s : Int32} (hk : vp_in kind 6) (hs : vp_in s 6) (k : K (sightV kind s)) : V_X8_seesBy K kind s := by
  obtain ⟨a, ha, rfl⟩ := vp_in_of hk (by decide)
  obtain ⟨b, hb, rfl⟩ := vp_in_of hs (by decide)
  have e := sv_dec a ha b hb
  dsimp only at e
  rw [e] at k
  clear e hk hs
  generalize nI a = kind at *
  generalize nI b = s at *
  have key : ∀ off pi : Int32, off = (if 2 * s ≤ 5 then 5 - 2 * s else 2 * s - 5) → pi = (if s = 2 then 0 else 9 - off) → V_X8_seesBy_36 K kind s (9 - off) pi := by
    intro off pi h1 h2
    rw [← h1, ← h2] at k
    refine ⟨fun h => ?_, fun h => ?_, fun h => ?_, fun h => ?_, fun h => ⟨fun h2 => ?_, fun h2 => ?_⟩, fun h => ⟨fun h2 => ?_, fun h2 => ?_⟩⟩
    · subst h; simpa using k
    · subst h; simpa using k
    · subst h; simpa using k
    · subst h; simpa using k
    · subst h; simpa [h2] using k
    · subst h; simpa [h2] using k
    · simpa [h.1, h.2.1, h.2.2.1, h.2.2.2.1, h.2.2.2.2, h2] using k
    · simpa [h.1, h.2.1, h.2.2.1, h.2.2.2.1, h.2.2.2.2, h2] using k
  have key2 : ∀ off : Int32, off = (if 2 * s ≤ 5 then 5 - 2 * s else 2 * s - 5) → V_X8_seesBy_20 K kind s off := fun off h => ⟨fun h2 => key off _ h (by rw [if_neg h2]), fun h2 => key off _ h (by rw [if_pos h2])⟩
  exact ⟨fun h => key2 _ (by rw [if_pos h]), fun h => key2 _ (by rw [if_neg h])⟩
theorem vi_seat {c : Int32} (h : vp_in c 30) : vp_in (c - c / 6 * 6) 6 := by
  obtain ⟨j, hj, rfl⟩ := vp_in_of h (by decide)
  have e : nI j - nI j / 6 * 6 = nI (j % 6) := pk_rem (d := 6) (by omega) (by decide) (by decide)
  rw [e]
  exact vp_in_nI (by omega) (by decide)
theorem m_seesFrom {K : Int32 → Prop} {u : HS} {f : Nat → Int32} {c : Int32} (h : RC u f) (hc : vp_in c 30) (k : K (sightH u c)) : V_X8_seesFrom K f c := by
  have h5 := vi_row hc
  obtain ⟨r, hr, er⟩ := vp_in_of h5 (by decide)
  have e := h.2.2.1 r hr
  have ecl : (c / 6).toNatClampNeg = r := by rw [er]; exact nI_clamp (by omega)
  unfold sightH at k
  rw [ecl, e.1] at k
  unfold V_X8_seesFrom
  rw [ecl]
  exact ⟨vi_mono h5 (by decide), m_seesBy e.2 (vi_seat hc) k⟩
theorem m_makesBy {K : Int32 → Prop} {u : HS} {f : Nat → Int32} {i : Nat} {c : Int32} (h : RC u f) (hi : i < HN u) (k : K (fussV (hsk u i) (nI (kneesB u c (nI i))) (hmi u))) : V_X8_makesBy K f (nI i) c := by
  have h7 := h.1.2
  have e := h.2.2.2.2.2.2.1 i hi
  refine m_soulOf 0 (by omega) (by decide) (m_knees h (m_fussBy ?_ ?_))
  · show vp_in (f (9 + 3 * i)) 6
    rw [← e.1]; exact e.2.2.2.1
  · show K (fussV (f (9 + 3 * i)) _ (f 6))
    rw [← e.1, ← h.2.2.2.2.1]; exact k
theorem fussH_at {u : HS} {i : Nat} {c : Int32} (h : HI u) (hi : i < HN u) (hc : vp_in c 30) (ho : hce u i = -1 ∨ hce u i = c) : fussV (hsk u i) (nI (kneesB u c (nI i))) (hmi u) = fussH u (nI i) c := by
  have h7 := h.2
  unfold fussH
  rw [kneesB_out h hc (by omega) ho, nI_clamp (by omega)]
/-- the model's row when a soul goes to a cell, or out, with much fuss -/
def rowGo (f : Nat → Int32) (i : Nat) (c x : Int32) : Nat → Int32 := upd (upd (upd f (11 + 3 * i) (c + 1)) 7 (if f 7 + x ≤ 999999 then f 7 + x else 999999)) 6 (f 6 + 1)
theorem m_fusses {K : (Nat → Int32) → Prop} {f : Nat → Int32} {x : Int32} (k : K (upd (upd f 7 (if f 7 + x ≤ 999999 then f 7 + x else 999999)) 6 (f 6 + 1))) : V_X8_fusses K f x := by
  have key : ∀ z : Int32, z = (if f 7 + x ≤ 999999 then f 7 + x else 999999) → V_X8_fusses_25 K f 7 z := by
    intro z hz
    subst hz
    exact ⟨(vp_in_nI (n := 7) (by decide) (by decide)), k⟩
  exact ⟨fun h => key _ (by rw [if_pos h]), fun h => key _ (by rw [if_neg h])⟩
