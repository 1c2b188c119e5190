/-! ===== steps: count, digest ===== -/
def cntV (u : US) (x : Int32) : Int32 := if x = 0 then hso u.1 else if x = 1 then nI (sitsH u.1) else if x = 2 then nI (coatsH u.1) else if x = 3 then hmi u.1 else if x = 4 then hfu u.1 else if x = 5 then (hsg u.1).2 else if x = 6 then (hnt u.1).2 else if x = 7 then (hmk u.1).2 else if x = 8 then (hpa u.1).2 else u.2.2.2.2.2.1.2.2.1
theorem cntV_else {u : US} {x : Int32} (q : ¬ x = 0 ∧ ¬ x = 1 ∧ ¬ x = 2 ∧ ¬ x = 3 ∧ ¬ x = 4 ∧ ¬ x = 5 ∧ ¬ x = 6 ∧ ¬ x = 7 ∧ ¬ x = 8) : cntV u x = u.2.2.2.2.2.1.2.2.1 := by
  obtain ⟨q0, q1, q2, q3, q4, q5, q6, q7, q8⟩ := q
  rw [cntV, if_neg q0, if_neg q1, if_neg q2, if_neg q3, if_neg q4, if_neg q5, if_neg q6, if_neg q7, if_neg q8]
theorem r_howMany {K : Int32 → Prop} {u : US} {mm : MS} {x : Int32} (hr : Rel u mm) (k : K (cntV u x)) : V_X7_howMany K u x := by
  have hI := hr.1.1.1
  refine ⟨fun q => ?_, fun q => ?_, fun q => ?_, fun q => ?_, fun q => ?_, fun q => ?_, fun q => ?_, fun q => ?_, fun q => ?_, fun q => ?_⟩
  · subst q; exact k
  · subst q; exact r_howManySit hI k
  · subst q
    obtain ⟨n, hn, e⟩ := vp_in_of hr.1.2.1 (by decide)
    have k2 : K (nI (coatsH u.1)) := k
    unfold coatsH at k2
    rw [e, nI_clamp (by omega)] at k2
    have := r_bits hn k2
    rw [← e] at this
    exact this
  · subst q; exact k
  · subst q; exact k
  · subst q; exact k
  · subst q; exact k
  · subst q; exact k
  · subst q; exact k
  · rw [cntV_else q] at k; exact k
theorem ml_counted2 {K : Int32 → Prop} {u : US} {mm : MS} {x : Int32} (hr : Rel u mm) (k : K (cntV u x)) {n : Nat} (hn : n < 2 ^ 30) (en : hco u.1 = nI n) : ∀ (r j s : Nat), j + r = 30 → s + cnt (fun j => n.testBit j) r j = coatsH u.1 → V_X8_counted_42 K (r + 1) mm x (nI (sitsH u.1)) (nI s) (nI j)
  | 0, j, s, hj, hs => by
    obtain ⟨hH, a1, a2, a3, ⟨n', n1, n2, n3, n4⟩, a5⟩ := hr
    obtain ⟨hC, _, _, hs5, hs6, _, hs7, hs8⟩ := hH
    rw [cnt, Nat.add_zero] at hs
    refine bt (nI_le (a := 30) (by omega) (by omega)) ⟨fun q => ?_, fun q => ?_, fun q => ?_, fun q => ?_, fun q => ?_, fun q => ?_, fun q => ?_, fun q => ?_, fun q => ?_, fun q => ?_⟩
    · subst q; rw [hC.2.1]; exact k
    · subst q; exact k
    · subst q; rw [hs]; exact k
    · subst q; rw [← hC.2.2.2.2.1]; exact k
    · subst q; rw [← hC.2.2.2.2.2.1]; exact k
    · subst q
      obtain ⟨z, z1, z2, z3⟩ := hs5.size
      rw [z3, ← z2]; exact k
    · subst q
      obtain ⟨z, z1, z2, z3⟩ := hs6.size
      rw [z3, ← z2]; exact k
    · subst q
      obtain ⟨z, z1, z2, z3⟩ := hs7.size
      rw [z3, ← z2]; exact k
    · subst q
      obtain ⟨z, z1, z2, z3, _⟩ := hs8
      rw [z3, ← z2]; exact k
    · rw [cntV_else q] at k
      rw [n3, ← n2]; exact k
  | r + 1, j, s, hj, hs => by
    refine bf (nI_ge (b := 30) (by omega) (by omega)) ?_
    rw [cnt] at hs
    rw [← hr.1.1.2.2.2.1, i32_p0, nI_1, nI_1]
    rw [en]
    by_cases q : n.testBit j = true
    · rw [if_pos q] at hs
      exact m_has1 ((hasB_bit (by omega) (by omega)).mpr q) (z1 (ml_counted2 hr k hn en r (j + 1) (s + 1) (by omega) (by omega)))
    · rw [if_neg q] at hs
      exact m_has0 (fun z => q ((hasB_bit (by omega) (by omega)).mp z)) (z0 (ml_counted2 hr k hn en r (j + 1) s (by omega) (by omega)))
theorem ml_counted {K : Int32 → Prop} {u : US} {mm : MS} {x : Int32} (hr : Rel u mm) (k : K (cntV u x)) : ∀ (r i s : Nat), i + r = HN u.1 → s + cnt (fun i => decide (¬ hce u.1 i = -1)) r i = sitsH u.1 → V_X8_counted_4 K (r + 1) mm x (nI s) (nI i)
  | 0, i, s, hi, hs => by
    have hI := hr.1.1.1
    rw [cnt, Nat.add_zero] at hs
    refine bt (by rw [hr.1.1.2.1, hI.1]; exact nI_le (by omega) (by have := hI.2; omega)) ⟨31, ?_⟩
    rw [hs]
    obtain ⟨n, hn, e⟩ := vp_in_of hr.1.2.1 (by decide)
    refine ml_counted2 hr k hn e 30 0 0 (by omega) ?_
    unfold coatsH bits30
    rw [e, nI_clamp (by omega), Nat.zero_add]
  | r + 1, i, s, hi, hs => by
    have hC := hr.1.1
    have hI := hC.1
    have h7 := hI.2
    refine bf (by rw [hr.1.1.2.1, hI.1]; exact nI_ge (by omega) (by omega)) ?_
    rw [cnt] at hs
    rw [i32_p0, nI_1, nI_1]
    by_cases q : hce u.1 i = -1
    · rw [if_neg (by simp [q])] at hs
      exact m_isOut1 hC (by omega) q (z1 (ml_counted hr k r (i + 1) s (by omega) (by omega)))
    · rw [if_pos (by simp [q])] at hs
      exact m_isOut0 hC (by omega) q (z0 (ml_counted hr k r (i + 1) (s + 1) (by omega) (by omega)))
theorem m_counted {K : Int32 → Prop} {u : US} {mm : MS} {x : Int32} (hr : Rel u mm) (k : K (cntV u x)) : V_X8_counted K mm x := ⟨_, ml_counted hr k (HN u.1) 0 0 (by omega) (by rw [Nat.zero_add]; rfl)⟩
theorem p_count : st_count Rel := by
  intro u mm x hr
  by_cases h : vp_in x 10
  · refine r_within1 10 rfl (by decide) h (z1 (r_howMany hr ?_))
    show V_X8_count _ mm _
    exact m_in1 10 (by decide) h (z1 (m_counted hr ⟨rfl, hr⟩))
  · refine r_within0 10 rfl (by decide) h (z0 ?_)
    unfold V_X7_refuseBad
    show V_X8_count _ mm _
    exact m_in0 10 (by decide) h (z0 (And.intro rfl hr.bad))
/- digest -/
theorem mixF_split {f : Nat → Int32} : ∀ (a b i : Nat) (h : Int64), mixF f (a + b) i h = mixF f b (i + a) (mixF f a i h)
  | 0, b, i, h => by rw [Nat.zero_add, Nat.add_zero]; rfl
  | a + 1, b, i, h => by
    rw [Nat.add_right_comm, mixF, mixF, mixF_split a b (i + 1), show i + 1 + a = i + (a + 1) by omega]
theorem mixF_shift {f g : Nat → Int32} : ∀ (k i j : Nat) (h : Int64), (∀ l, l < k → f (i + l) = g (j + l)) → mixF f k i h = mixF g k j h
  | 0, _, _, _, _ => rfl
  | k + 1, i, j, h, e => by
    rw [mixF, mixF, show f i = g j from e 0 (by omega)]
    exact mixF_shift k (i + 1) (j + 1) _ (fun l hl => by
      have := e (l + 1) (by omega)
      rw [show i + 1 + l = i + (l + 1) by omega, show j + 1 + l = j + (l + 1) by omega]; exact this)
theorem ml_digestOf {K : Int64 → Prop} {mm : MS} {a m : Nat} (ha : a + m ≤ 171) : ∀ (r i : Nat) (h : Int64), i + r = m → K (mixF mm.1 r (a + i) h) → V_X8_digestOf_6 K (r + 1) mm (nI a) (nI m) h (nI i)
  | 0, i, h, hi, k => bt (nI_le (by omega) (by omega)) k
  | r + 1, i, h, hi, k => by
    refine bf (nI_ge (by omega) (by omega)) ?_
    rw [nI_add, nI_1, nI_clamp (by omega)]
    exact ⟨vp_in_nI (by omega) (by decide), ml_digestOf ha r (i + 1) _ (by omega) k⟩
theorem m_digestOf {K : Int64 → Prop} {mm : MS} {h : Int64} {x y : Int32} (a m : Nat) (hx : x = nI a) (hy : y = nI m) (ha : a + m ≤ 171) (k : K (mixF mm.1 m a h)) : V_X8_digestOf K mm h x y := by
  rw [hx, hy]; exact ⟨_, ml_digestOf ha m 0 h (by omega) k⟩
def soulMix (u : HS) : Nat → Nat → Int64 → Int64
  | 0, _, h => h
  | k + 1, i, h => soulMix u k (i + 1) (31 * (31 * (31 * h + (hsk u i).toInt64) + (hsb u i).toInt64) + (hce u i).toInt64)
def tabMix (u : HS) (h : Int64) : Int64 := mixF (hmk u).1 ((hmk u).2.toNatClampNeg * 4) 0 (mixF (hnt u).1 ((hnt u).2.toNatClampNeg * 3) 0 (mixF (hsg u).1 ((hsg u).2.toNatClampNeg * 3) 0 h))
def hallMix (u : HS) (h : Int64) : Int64 := tabMix u (soulMix u (HN u) 0 (31 * mixF (hrk u) 5 0 h + (hco u).toInt64))
theorem l_mix2 {K : Int64 → Prop} {u : HS} {f : Nat → Int32} (hH : RH u f) : ∀ (r i : Nat) (h : Int64), i + r = HN u → K (tabMix u (soulMix u r i h)) → V_X0_mixInto_47 K (r + 1) u h (nI i)
  | 0, i, h, hi, k => by
    obtain ⟨hC, _, _, ⟨z4, y4, x4, _⟩, ⟨z5, y5, x5, _⟩, _, ⟨z7, y7, x7, _⟩, _⟩ := hH
    refine bt (by show hso u ≤ nI i; rw [hC.1.1]; exact nI_le (by omega) (by have := hC.1.2; omega)) ?_
    refine r_tmix TM_sg x4 y4 (r_tmix TM_nt x5 y5 (r_tmix TM_mk x7 y7 ?_))
    unfold tabMix at k
    rw [x4, x5, x7, nI_clamp (by omega), nI_clamp (by omega), nI_clamp (by omega)] at k
    exact k
  | r + 1, i, h, hi, k => by
    have h7 := hH.1.1.2
    refine bf (by show ¬ hso u ≤ nI i; rw [hH.1.1.1]; exact nI_ge (by omega) (by omega)) ?_
    have v : vp_in (nI i) 7 := vp_in_nI (by omega) (by decide)
    rw [nI_clamp (by omega), nI_1]
    exact ⟨v, v, v, l_mix2 hH r (i + 1) _ (by omega) k⟩
theorem l_mix {K : Int64 → Prop} {u : HS} {f : Nat → Int32} (hH : RH u f) : ∀ (r i : Nat) (h : Int64), i + r = 5 → K (tabMix u (soulMix u (HN u) 0 (31 * mixF (hrk u) r i h + (hco u).toInt64))) → V_X0_mixInto_5 K (r + 1) u h (nI i)
  | 0, i, h, hi, k => bt (nI_le (a := 5) (by omega) (by omega)) ⟨_, l_mix2 hH (HN u) 0 _ (by omega) k⟩
  | r + 1, i, h, hi, k => by
    refine bf (nI_ge (b := 5) (by omega) (by omega)) ⟨vp_in_nI (by omega) (by decide), ?_⟩
    rw [nI_clamp (by omega), nI_1]
    exact l_mix hH r (i + 1) _ (by omega) k
theorem r_mix {K : Int64 → Prop} {u : HS} {f : Nat → Int32} {h : Int64} (hH : RH u f) (k : K (hallMix u h)) : V_X0_mixInto K u h := ⟨_, l_mix hH 5 0 h (by omega) k⟩
theorem RT.mix {cap w base : Nat} {t : TS} {f : Nat → Int32} {h : Int64} (hT : RT cap w base t f) (hc : cap ≤ 8) : ∃ n, n ≤ cap ∧ f base = nI n ∧ mixF f (n * w) (base + 1) h = mixF t.1 (t.2.toNatClampNeg * w) 0 h := by
  obtain ⟨z, z1, z2, z3, z4⟩ := hT
  refine ⟨z, z1, z3, ?_⟩
  rw [z2, nI_clamp (by omega)]
  exact mixF_shift (z * w) (base + 1) 0 h (fun l hl => by rw [Nat.zero_add]; exact (z4 l hl).symm)
theorem ml_dig2 {K : Int64 → Prop} {u : HS} {mm : MS} (hH : RH u mm.1) : ∀ (r i : Nat) (h : Int64), i + r = HN u → K (31 * (31 * tabMix u (soulMix u r i h) + mm.2.2.2.2.1) + mm.2.2.2.2.2.1) → V_X8_digest_42 K (r + 1) mm h (nI i)
  | 0, i, h, hi, k => by
    have hC := hH.1
    have h7 := hC.1.2
    refine bt (by rw [hC.2.1, hC.1.1]; exact nI_le (by omega) (by omega)) ?_
    obtain ⟨n1, l1, e1, f1⟩ := RT.mix (h := h) hH.2.2.2.1 (by decide)
    obtain ⟨n2, l2, e2, f2⟩ := RT.mix (h := mixF (hsg u).1 ((hsg u).2.toNatClampNeg * 3) 0 h) hH.2.2.2.2.1 (by decide)
    obtain ⟨n3, l3, e3, f3⟩ := RT.mix (h := mixF (hnt u).1 ((hnt u).2.toNatClampNeg * 3) 0 (mixF (hsg u).1 ((hsg u).2.toNatClampNeg * 3) 0 h)) hH.2.2.2.2.2.2.1 (by decide)
    have g : ∀ a n, nI a * nI n = nI (n * a) := fun a n => by rw [pk_mul, Nat.mul_comm]
    refine m_digestOf 31 (n1 * 3) rfl (by rw [e1]; exact g 3 n1) (by omega) ?_
    refine m_digestOf 47 (n2 * 3) rfl (by rw [e2]; exact g 3 n2) (by omega) ?_
    refine m_digestOf 66 (n3 * 4) rfl (by rw [e3]; exact g 4 n3) (by omega) ?_
    rw [f1, f2, f3]
    exact k
  | r + 1, i, h, hi, k => by
    have hC := hH.1
    have h7 := hC.1.2
    refine bf (by rw [hC.2.1, hC.1.1]; exact nI_ge (by omega) (by omega)) ?_
    refine m_digestOf (9 + 3 * i) 2 (by show nI 9 + nI 3 * nI i = _; rw [pk_mul, nI_add]) rfl (by omega) ?_
    refine m_cellOf hC (by omega) ?_
    rw [nI_1]
    refine ml_dig2 hH r (i + 1) _ (by omega) ?_
    have e : mixF mm.1 2 (9 + 3 * i) h = 31 * (31 * h + (hsk u i).toInt64) + (hsb u i).toInt64 := by
      obtain ⟨c1, c2, _⟩ := hC.2.2.2.2.2.2.1 i (by omega)
      rw [c1, c2]
      show 31 * (31 * h + (mm.1 (9 + 3 * i)).toInt64) + (mm.1 (9 + 3 * i + 1)).toInt64 = _
      rw [show 9 + 3 * i + 1 = 10 + 3 * i by omega]
    rw [e]; exact k
theorem dig_ok {K : Int64 → Prop} {u : US} {mm : MS} (hr : Rel u mm) (h : Int64) (k : K (31 * (31 * hallMix u.1 h + mm.2.2.2.2.1) + mm.2.2.2.2.2.1)) : V_X8_digest_6 K 1 mm h 10 := by
  refine bt (by decide) ?_
  refine m_digestOf 0 6 rfl rfl (by omega) ⟨_, ml_dig2 hr.1 (HN u.1) 0 _ (by omega) ?_⟩
  have hC := hr.1.1
  have e : mixF mm.1 6 0 h = 31 * mixF (hrk u.1) 5 0 h + (hco u.1).toInt64 := by
    rw [hC.2.2.2.1, mixF_split 5 1 0 h, mixF_shift (f := hrk u.1) (g := mm.1) 5 0 0 h (fun l hl => by rw [Nat.zero_add]; exact (hC.2.2.1 l hl).1)]
    rfl
  rw [e]; exact k
def tenMix (u : US) : Nat → Nat → Int64 → Int64
  | 0, _, h => h
  | k + 1, i, h => tenMix u k (i + 1) (31 * h + (cntV u (nI i)).toInt64)
theorem l_dig {K T : Int64 → Prop} {u : US} {mm : MS} (hr : Rel u mm) (kk : ∀ t, T t → K (31 * (31 * hallMix u.1 t + u.2.2.2.2.2.2.2.2.1) + u.2.2.2.2.2.2.2.2.2.1)) : ∀ (r i : Nat) (h : Int64), i + r = 10 → T (tenMix u r i h) → V_X7_digest_6 K (r + 1) u h (nI i)
  | 0, i, h, hi, k => bt (nI_le (a := 10) (by omega) (by omega)) (r_mix hr.1 (kk h k))
  | r + 1, i, h, hi, k => by
    refine bf (nI_ge (b := 10) (by omega) (by omega)) (r_howMany hr ?_)
    rw [nI_1]
    exact l_dig hr kk r (i + 1) _ (by omega) k
theorem ml_dig {K T : Int64 → Prop} {u : US} {mm : MS} (hr : Rel u mm) (kk : ∀ t, T t → K (31 * (31 * hallMix u.1 t + mm.2.2.2.2.1) + mm.2.2.2.2.2.1)) : ∀ (r i : Nat) (h : Int64), i + r = 10 → T (tenMix u r i h) → V_X8_digest_6 K (r + 1) mm h (nI i)
  | 0, i, h, hi, k => by
    have e : i = 10 := by omega
    subst e
    exact dig_ok hr h (kk h k)
  | r + 1, i, h, hi, k => by
    refine bf (nI_ge (b := 10) (by omega) (by omega)) (m_counted hr ?_)
    rw [nI_1]
    exact ml_dig hr kk r (i + 1) _ (by omega) k
theorem p_digest : st_digest Rel := by
  intro u mm hr
  refine ⟨11, l_dig (T := fun t => t = tenMix u 10 0 1699) hr (fun t ht => ?_) 10 0 1699 (by omega) rfl⟩
  refine ⟨11, ml_dig (T := fun t => t = tenMix u 10 0 1699) hr (fun t' ht' => ⟨?_, hr⟩) 10 0 1699 (by omega) rfl⟩
  obtain ⟨hH, a1, a2, a3, a4, b1, b2, _⟩ := hr
  rw [b1, b2, ht, ht']
