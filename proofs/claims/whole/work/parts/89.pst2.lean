/-! ===== steps: coats, minutes, undo ===== -/
theorem nI_xor (a b : Nat) : nI a ^^^ nI b = nI (a ^^^ b) := by
  apply Int32.toBitVec_inj.mp
  rw [Int32.toBitVec_xor]
  show BitVec.ofNat 32 a ^^^ BitVec.ofNat 32 b = BitVec.ofNat 32 (a ^^^ b)
  exact (BitVec.ofNat_xor).symm
theorem bit_at : ∀ j : Nat, j < 30 → (1 : Int32) <<< (nI j &&& 31) = nI (2 ^ j) := by decide
theorem coat_in {b c : Int32} (hb : vp_in b (2 ^ 30)) (hc : vp_in c 30) : vp_in (b ^^^ (1 <<< (c &&& 31))) (2 ^ 30) := by
  obtain ⟨z, hz, rfl⟩ := vp_in_of hb (by decide)
  obtain ⟨j, hj, rfl⟩ := vp_in_of hc (by decide)
  rw [bit_at j hj, nI_xor]
  have h1 : 2 ^ j < 2 ^ 30 := Nat.pow_lt_pow_right (by decide) hj
  exact vp_in_nI (Nat.xor_lt_two_pow hz h1) (by decide)
def setCo (u : HS) (x : Int32) : HS := (u.1, u.2.1, u.2.2.1, u.2.2.2.1, u.2.2.2.2.1, x, u.2.2.2.2.2.2)
def setMi (u : HS) (x : Int32) : HS := (u.1, u.2.1, u.2.2.1, u.2.2.2.1, u.2.2.2.2.1, u.2.2.2.2.2.1, x, u.2.2.2.2.2.2.2)
theorem RH.coat {u : HS} {f : Nat → Int32} (h : RH u f) {x : Int32} (hx : vp_in x (2 ^ 30)) : RH (setCo u x) (upd f 5 x) := by
  obtain ⟨h1, h2, h3, h4, h5, h6, h7, h8⟩ := h
  obtain ⟨a1, a2, a3, a4, a5, a6, a7, a8⟩ := h1
  have l7 := a1.2
  have e : ∀ j, 30 ≤ j → upd f 5 x j = f j := fun j hj => upd_ne (by omega)
  refine ⟨⟨a1, ?_, fun r hr => ?_, upd_eq.symm, ?_, ?_, fun i hi => ?_, a8⟩, hx, h3, h4.keep (fun j q _ => e j (by omega)), h5.keep (fun j q _ => e j (by omega)), h6, h7.keep (fun j q _ => e j (by omega)), h8.keep l7 (fun j q _ => e j (by omega))⟩
  · rw [upd_ne (by omega)]; exact a2
  · rw [upd_ne (by omega)]; exact a3 r hr
  · rw [upd_ne (by omega)]; exact a5
  · rw [upd_ne (by omega)]; exact a6
  · rw [upd_ne (by omega), upd_ne (by omega), upd_ne (by omega)]; exact a7 i hi
theorem RH.mins {u : HS} {f : Nat → Int32} (h : RH u f) {x : Int32} (hx : vp_in x 10000) : RH (setMi u x) (upd f 6 x) := by
  obtain ⟨h1, h2, h3, h4, h5, h6, h7, h8⟩ := h
  obtain ⟨a1, a2, a3, a4, a5, a6, a7, a8⟩ := h1
  have l7 := a1.2
  have e : ∀ j, 30 ≤ j → upd f 6 x j = f j := fun j hj => upd_ne (by omega)
  refine ⟨⟨a1, ?_, fun r hr => ?_, ?_, upd_eq.symm, ?_, fun i hi => ?_, a8⟩, h2, hx, h4.keep (fun j q _ => e j (by omega)), h5.keep (fun j q _ => e j (by omega)), h6, h7.keep (fun j q _ => e j (by omega)), h8.keep l7 (fun j q _ => e j (by omega))⟩
  · rw [upd_ne (by omega)]; exact a2
  · rw [upd_ne (by omega)]; exact a3 r hr
  · rw [upd_ne (by omega)]; exact a4
  · rw [upd_ne (by omega)]; exact a6
  · rw [upd_ne (by omega), upd_ne (by omega), upd_ne (by omega)]; exact a7 i hi
theorem p_coat : st_coat Rel := by
  intro u mm x1 x2 hr
  have hH := hr.1
  have hC := hH.1
  have hI := hC.1
  have eco : hco u.1 = mm.1 5 := hC.2.2.2.1
  by_cases hc : vp_in x1 30
  · refine r_within1 30 rfl (by decide) hc (z1 ?_)
    by_cases hs : vp_in x2 2
    · refine r_within1 2 rfl (by decide) hs (y1 ?_)
      have go : ∀ (r b : Int32), (∀ K : Int32 → MS → Prop, V_X8_coat_42 K mm x1 r b → V_X8_coat K mm x1 x2) → V_X7_coat_42 (fun r2 u2 => V_X8_coat (fun r3 mm2 => r2 = r3 ∧ Rel u2 mm2) mm x1 x2) u x1 r b := by
        intro r b hK
        by_cases e : r = b
        · exact bt e (hK _ (bt e (And.intro rfl hr.no)))
        · refine bf e (r_sitterAt hI ?_)
          by_cases hw : whoH u.1 x1 = -1
          · refine bt hw ?_
            obtain ⟨k, k1, k2, k3⟩ := hH.past
            refine r_remember hI k2 k1 (fun p hp => hK _ (bf e (m_whoSits hC (bt hw (m_keep k3 k1 (fun g hg => ?_))))))
            have hKp := hH.keep k2 k1 hp hg
            have eg : g 5 = hco u.1 := (hg.1 5 (by omega)).trans eco.symm
            show (1 : Int32) = 1 ∧ Rel _ (upd g 5 (g 5 ^^^ (1 <<< (x1 &&& 31))), mm.2)
            rw [eg]
            exact ⟨rfl, hr.now (hKp.coat (coat_in hH.2.1 hc))⟩
          · exact bf hw (hK _ (bf e (m_whoSits hC (bf hw (And.intro rfl hr.no)))))
      by_cases h9 : hasB (hco u.1) x1
      · refine r_hasCoat1 h9 ?_
        by_cases h1 : x2 = 1
        · exact nt h1 (go 1 1 (fun K hv => m_isCell1 hc (z1 (m_in1 2 (by decide) hs (y1 (m_has1 (by rw [← eco]; exact h9) (nt h1 hv)))))))
        · exact nf h1 (go 1 0 (fun K hv => m_isCell1 hc (z1 (m_in1 2 (by decide) hs (y1 (m_has1 (by rw [← eco]; exact h9) (nf h1 hv)))))))
      · refine r_hasCoat0 h9 ?_
        by_cases h1 : x2 = 1
        · exact nt h1 (go 0 1 (fun K hv => m_isCell1 hc (z1 (m_in1 2 (by decide) hs (y1 (m_has0 (by rw [← eco]; exact h9) (nt h1 hv)))))))
        · exact nf h1 (go 0 0 (fun K hv => m_isCell1 hc (z1 (m_in1 2 (by decide) hs (y1 (m_has0 (by rw [← eco]; exact h9) (nf h1 hv)))))))
    · refine r_within0 2 rfl (by decide) hs (y0 ?_)
      show V_X8_coat _ mm _ _
      exact m_isCell1 hc (z1 (m_in0 2 (by decide) hs (y0 (And.intro rfl hr.bad))))
  · refine r_within0 30 rfl (by decide) hc (z0 ?_)
    show V_X8_coat _ mm _ _
    exact m_isCell0 hc (z0 (And.intro rfl hr.bad))
theorem m_in99 {K : Int32 → Prop} {x : Int32} (h : ¬ x < 1 ∧ x ≤ 99) (k : K 1) : V_X8_in K x.toInt64 1 99 := by
  have a1 : (1 : Int32).toInt = 1 := by decide
  have a99 : (99 : Int32).toInt = 99 := by decide
  have b1 : (1 : Int64).toInt = 1 := by decide
  have b99 : (99 : Int64).toInt = 99 := by decide
  have h1 := Int32.le_iff_toInt_le.mp (Int32.not_lt.mp h.1)
  have h2 := Int32.le_iff_toInt_le.mp h.2
  refine bf (fun q => ?_) (bf (fun q => ?_) k)
  · have := (lg_lt _ _).mp q; rw [lg_ti] at this; omega
  · have := (lg_gt _ _).mp q; rw [lg_ti] at this; omega
theorem m_in99n {K : Int32 → Prop} {x : Int32} (h : ¬ (¬ x < 1 ∧ x ≤ 99)) (k : K 0) : V_X8_in K x.toInt64 1 99 := by
  have a1 : (1 : Int32).toInt = 1 := by decide
  have a99 : (99 : Int32).toInt = 99 := by decide
  have b1 : (1 : Int64).toInt = 1 := by decide
  have b99 : (99 : Int64).toInt = 99 := by decide
  refine ⟨fun _ => k, fun q => bt ?_ k⟩
  have q1 : ¬ x.toInt64.toInt < (1 : Int64).toInt := fun z => q ((lg_lt _ _).mpr z)
  rw [lg_ti, b1] at q1
  refine (lg_gt _ _).mpr ?_
  rw [lg_ti, b99]
  have h2 : ¬ x ≤ 99 := fun z => h ⟨fun y => by have := Int32.lt_iff_toInt_lt.mp y; omega, z⟩
  have := Int32.lt_iff_toInt_lt.mp (Int32.not_le.mp h2)
  omega
theorem cap9 (x : Int32) : (if x < 9999 then x else 9999) = (if x ≤ 9999 then x else 9999) := by
  by_cases h : x < 9999
  · rw [if_pos h, if_pos (Int32.le_of_lt h)]
  · rw [if_neg h]
    by_cases h2 : x ≤ 9999
    · rw [if_pos h2]
      exact Int32.le_antisymm (Int32.not_lt.mp h) h2
    · rw [if_neg h2]
theorem p_minutes : st_minutes Rel := by
  intro u mm x1 hr
  have hH := hr.1
  have hC := hH.1
  have hI := hC.1
  have emi : hmi u.1 = mm.1 6 := hC.2.2.2.2.1
  have badc : ¬ (¬ x1 < 1 ∧ x1 ≤ 99) → V_X7_minutes_11 (fun r u2 => V_X8_minutes (fun r2 mm2 => r = r2 ∧ Rel u2 mm2) mm x1) u := by
    intro h
    show V_X8_minutes _ mm _
    exact m_in99n h (y0 (And.intro rfl hr.bad))
  by_cases h1 : x1 < 1
  · exact bt h1 (badc (fun q => q.1 h1))
  · refine bf h1 ?_
    by_cases h2 : x1 ≤ 99
    · refine bt h2 ?_
      obtain ⟨k, k1, k2, k3⟩ := hH.past
      refine r_remember hI k2 k1 (fun p hp => ?_)
      show V_X8_minutes _ mm _
      refine m_in99 ⟨h1, h2⟩ (y1 (m_keep k3 k1 (fun g hg => ?_)))
      have hK := hH.keep k2 k1 hp hg
      have eg : g 6 = hmi u.1 := (hg.1 6 (by omega)).trans emi.symm
      have hin : vp_in (if hmi u.1 + x1 < 9999 then hmi u.1 + x1 else 9999) 10000 := by
        obtain ⟨t, ht, et⟩ := vp_in_of hH.2.2.1 (by decide)
        have hx : vp_in x1 100 := vp_in_iff.mpr (by
          have a1 := Int32.le_iff_toInt_le.mp (Int32.not_lt.mp h1)
          have a2 := Int32.le_iff_toInt_le.mp h2
          have b1 : (1 : Int32).toInt = 1 := by decide
          have b2 : (99 : Int32).toInt = 99 := by decide
          omega)
        obtain ⟨y, hy, ey⟩ := vp_in_of hx (by decide)
        rw [et, ey, nI_add]
        by_cases q : nI (t + y) < 9999
        · rw [if_pos q]
          have := (nI_ltI (b := 9999) (by omega) (by decide)).mp q
          exact vp_in_nI (by omega) (by decide)
        · rw [if_neg q]
          exact vp_in_nI (n := 9999) (by decide) (by decide)
      have key : ∀ z : Int32, z = (if hmi u.1 + x1 < 9999 then hmi u.1 + x1 else 9999) → V_X8_minutes_57 (fun r2 mm2 => (if hmi u.1 + x1 < 9999 then hmi u.1 + x1 else 9999) = r2 ∧ Rel (setMi (setPa u.1 p) (if hmi u.1 + x1 < 9999 then hmi u.1 + x1 else 9999), u.2) mm2) (g, mm.2) 6 z := by
        intro z hz
        subst hz
        refine ⟨vp_in_nI (n := 6) (by decide) (by decide), ?_⟩
        show _ = upd g 6 _ 6 ∧ Rel _ (upd g 6 _, mm.2)
        rw [upd_eq]
        exact ⟨rfl, hr.now (hK.mins hin)⟩
      show (g 6 + x1 ≤ 9999 → _) ∧ (¬ g 6 + x1 ≤ 9999 → _)
      rw [eg]
      exact ⟨fun q => key _ (by show g 6 + x1 = _; rw [eg, cap9, if_pos q]), fun q => key _ (by rw [cap9, if_neg q])⟩
    · exact bf h2 (badc (fun q => h2 q.2))
