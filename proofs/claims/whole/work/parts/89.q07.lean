/-! ===== steps: wet, evenings ===== -/
def mFr (m : MS) (a b : Int64) : MS := (m.1, m.2.1, m.2.2.1, m.2.2.2.1, a, b, m.2.2.2.2.2.2)
def uFr (u : US) (a b : Int64) : US := (u.1, u.2.1, u.2.2.1, u.2.2.2.1, u.2.2.2.2.1, u.2.2.2.2.2.1, u.2.2.2.2.2.2.1, u.2.2.2.2.2.2.2.1, a, b, u.2.2.2.2.2.2.2.2.2.2)
theorem Rel.frac {u : US} {m : MS} (h : Rel u m) (a b : Int64) : Rel (uFr u a b) (mFr m a b) := by
  obtain ⟨h1, a1, a2, a3, a4, a5, a6, a7, a8, a9⟩ := h
  exact ⟨h1, a1, a2, a3, a4, rfl, rfl, a7, a8, a9⟩
theorem ml_frac {K : Int32 → MS → Prop} {m : MS} {o : Nat} (ho : o < 2 ^ 31) : ∀ (n x y : Nat), y < n → 0 < x + y → x < 2 ^ 31 → y < 2 ^ 31 → K 1 (mFr m (lN (o / Nat.gcd x y)) (lN (10 / Nat.gcd x y))) → V_X8_fraction_6 K n m (lN o) (lN 10) (lN x) (lN y)
  | 0, x, y, h1, h2, h3, h4, hK => absurd h1 (by omega)
  | n + 1, x, y, h1, h2, h3, h4, hK => by
    have l0 : (0 : Int64) = lN 0 := rfl
    by_cases q : y = 0
    · subst q
      have nx : ¬ lN x = 0 := by
        rw [l0, pk_lEQ (by omega) (by omega)]; omega
      rw [Nat.gcd_zero_right] at hK
      refine bt ((lg_cmp_eq _ _).mpr rfl) ⟨nx, nx, ?_⟩
      rw [pk_lDiv (by omega) (by omega) (by omega), pk_lDiv (by omega) (by omega) (by omega)]
      exact hK
    · have ny : ¬ lN y = 0 := by
        rw [l0, pk_lEQ (by omega) (by omega)]; exact q
      refine bf (fun z => ny ((lg_cmp_eq _ _).mp z)) ⟨ny, ?_⟩
      rw [pk_lRem (by omega) (by omega) (by omega)]
      have hm : x % y < y := Nat.mod_lt x (by omega)
      refine ml_frac ho n y (x % y) (by omega) (by omega) h4 (by omega) ?_
      rw [Nat.gcd_comm y, ← Nat.gcd_rec, Nat.gcd_comm y]
      exact hK
theorem l_ten {K : US → Prop} {u : US} {t : Nat} (ht : t < 2 ^ 20) (hK : K (uFr u (lN (t / Nat.gcd t 10)) (lN (10 / Nat.gcd t 10)))) : ∀ (d : Nat), Nat.gcd t 10 ≤ d → d ≤ 10 → V_X7_setTenths_3 K (d + 1) u (nI t) (nI d)
  | 0, h1, h2 => absurd (Nat.gcd_pos_of_pos_right t (show 0 < 10 by decide)) (by omega)
  | d + 1, h1, h2 => by
    have n0 : ¬ nI (d + 1) = 0 := nI_ne0 (by omega) (by omega)
    refine bf (nI_nlt (b := 1) (by omega) (by omega)) ⟨n0, ?_⟩
    have e10 : (10 : Int32) - 10 / nI (d + 1) * nI (d + 1) = nI (10 % (d + 1)) := pk_rem (a := 10) (by omega) (by omega) (by omega)
    have et : nI t - nI t / nI (d + 1) * nI (d + 1) = nI (t % (d + 1)) := pk_rem (by omega) (by omega) (by omega)
    have et2 : nI t / nI (d + 1) = nI (t / (d + 1)) := pk_div (by omega) (by omega) (by omega)
    have e102 : (10 : Int32) / nI (d + 1) = nI (10 / (d + 1)) := pk_div (a := 10) (by omega) (by omega) (by omega)
    have z : ∀ x : Nat, x < 2 ^ 31 → (nI x = 0 ↔ x = 0) := fun x hx => nI_eq (b := 0) hx (by decide)
    have m1 : 10 % (d + 1) < d + 1 := Nat.mod_lt _ (by omega)
    have m2 : t % (d + 1) < d + 1 := Nat.mod_lt _ (by omega)
    have go : ¬ Nat.gcd t 10 = d + 1 → V_X7_setTenths_3 K (d + 1) u (nI t) (nI (d + 1) + -1) := fun q => by
      rw [pk_m1]; exact l_ten ht hK d (by omega) (by omega)
    rw [e10, et]
    by_cases q1 : 10 % (d + 1) = 0
    · refine nt ((z _ (by omega)).mpr q1) ⟨n0, ?_⟩
      by_cases q2 : t % (d + 1) = 0
      · refine nt ((z _ (by omega)).mpr q2) ⟨n0, n0, ?_⟩
        have dv : d + 1 ∣ Nat.gcd t 10 := Nat.dvd_gcd (Nat.dvd_of_mod_eq_zero q2) (Nat.dvd_of_mod_eq_zero q1)
        have le : d + 1 ≤ Nat.gcd t 10 := Nat.le_of_dvd (Nat.gcd_pos_of_pos_right t (by decide)) dv
        have eq : Nat.gcd t 10 = d + 1 := by omega
        rw [eq] at hK
        have l1 : t / (d + 1) < 2 ^ 31 := Nat.lt_of_le_of_lt (Nat.div_le_self _ _) (by omega)
        have l2 : 10 / (d + 1) < 2 ^ 31 := Nat.lt_of_le_of_lt (Nat.div_le_self _ _) (by omega)
        rw [et2, e102, nI_l l1, nI_l l2]
        exact hK
      · refine nf (fun y => q2 ((z _ (by omega)).mp y)) (go (fun y => q2 ?_))
        rw [← y]; exact Nat.mod_eq_zero_of_dvd (Nat.gcd_dvd_left t 10)
    · refine nf (fun y => q1 ((z _ (by omega)).mp y)) (go (fun y => q1 ?_))
      rw [← y]; exact Nat.mod_eq_zero_of_dvd (Nat.gcd_dvd_right t 10)
theorem p_wet : st_wet Rel := by
  intro u mm x y hr
  have hH := hr.1
  have hC := hH.1
  have hI := hC.1
  have bad : (V_X8_wet (fun r2 mm2 => (-2 : Int32) = r2 ∧ Rel (uBad u) mm2) mm x y) → V_X7_wet_20 (fun r u2 => V_X8_wet (fun r2 mm2 => r = r2 ∧ Rel u2 mm2) mm x y) u := fun z => z
  by_cases hi : isS u.1 x
  · refine r_isSoul1 hI hi (z1 ?_)
    by_cases hc : vp_in y 11
    · refine r_within1 11 rfl (by decide) hc (y1 ?_)
      have h7 := hi.in7 hI
      obtain ⟨i, i1, rfl, i7⟩ := hi.of hI
      have hcl : (nI i).toNatClampNeg = i := nI_clamp (by omega)
      by_cases ho : hce u.1 i = -1
      · refine r_sits0 h7 (by rw [hcl]; exact ho) (z0 ⟨h7, ?_⟩)
        rw [hcl]
        have hs := hC.2.2.2.2.2.2.1 i i1
        obtain ⟨s, s30, es⟩ := vp_in_of hs.2.2.2.2 (by decide)
        obtain ⟨c, c11, rfl⟩ := vp_in_of hc (by decide)
        have vs : vp_in (nI s) 30 := vp_in_nI s30 (by decide)
        obtain ⟨a, ha, ea⟩ := fussH_small hC i1 (nI s)
        have es' : u.1.2.2.1 i = nI s := es
        rw [es']
        have e6 : nI s + 6 = nI (s + 6) := nI_add s 6
        rw [e6]
        have key : ∀ m, m < 30 → (24 ≤ s → m = s) → (s < 24 → m = s + 6) → V_X7_wet_72 (fun r u2 => V_X8_wet (fun r2 mm2 => r = r2 ∧ Rel u2 mm2) mm (nI i) (nI c)) u (nI i) (nI c) (nI s) (nI m) := by
          intro m m30 g1 g2
          have vm : vp_in (nI m) 30 := vp_in_nI m30 (by decide)
          obtain ⟨b, hb, eb⟩ := fussH_small hC i1 (nI m)
          refine r_fussTo hI h7 (r_fussTo hI h7 ?_)
          have b1 : (10 - c) * a ≤ 10 * 64 := Nat.mul_le_mul (by omega) (by omega)
          have b2 : c * b ≤ 10 * 64 := Nat.mul_le_mul (by omega) (by omega)
          have ev : (10 - nI c) * fussH u.1 (nI i) (nI s) + nI c * fussH u.1 (nI i) (nI m) = nI ((10 - c) * a + c * b) := by
            rw [ea, eb]
            show (nI 10 - nI c) * nI a + nI c * nI b = _
            rw [pk_sub (by omega), pk_mul, pk_mul, nI_add]
          rw [ev]
          refine ⟨_, l_ten (by omega) ?_ 10 (Nat.le_of_dvd (by decide) (Nat.gcd_dvd_right _ 10)) (by omega)⟩
          show V_X8_wet _ mm _ _
          have lev : (10 - (nI c).toInt64) * (nI a).toInt64 + (nI c).toInt64 * (nI b).toInt64 = lN ((10 - c) * a + c * b) := by
            rw [nI_l (by omega), nI_l (by omega), nI_l (by omega)]
            show (lN 10 - lN c) * lN a + lN c * lN b = _
            rw [lN_sub (by omega), lN_mul, lN_mul, lN_add]
          have fin : ∀ z1, z1 = fussH u.1 (nI i) (nI m) → V_X8_fraction (fun r2 mm2 => (1 : Int32) = r2 ∧ Rel (uFr u (lN (((10 - c) * a + c * b) / Nat.gcd ((10 - c) * a + c * b) 10)) (lN (10 / Nat.gcd ((10 - c) * a + c * b) 10))) mm2) mm ((10 - (nI c).toInt64) * (fussH u.1 (nI i) (nI s)).toInt64 + (nI c).toInt64 * z1.toInt64) 10 := by
            intro z1 hz
            rw [hz, ea, eb, lev]
            refine ⟨11, ?_⟩
            show V_X8_fraction_6 _ 11 mm (lN _) (lN 10) (lN _) (lN 10)
            exact ml_frac (by omega) 11 _ 10 (by omega) (by omega) (by omega) (by omega) ⟨rfl, hr.frac _ _⟩
          refine m_isSoul1 hC hi (z1 (m_in1 11 (by decide) hc (y1 (m_isOut1 hC i1 ho (y1 (m_soulOf 1 i7 (by decide) (m_makesBy hC i1 ?_)))))))
          rw [show 9 + 3 * i + 1 = 10 + 3 * i by omega, ← hs.2.1, es, fussH_at hI i1 vs (Or.inl ho), e6]
          by_cases q : 24 ≤ s
          · have em := g1 q
            subst em
            refine bt (nI_le (a := 24) q (by omega)) (m_makesBy hC i1 ?_)
            rw [fussH_at hI i1 vs (Or.inl ho)]
            exact fin _ rfl
          · have em := g2 (by omega)
            subst em
            refine bf (nI_ge (b := 24) (by omega) (by omega)) (m_makesBy hC i1 ?_)
            rw [fussH_at hI i1 vm (Or.inl ho)]
            exact fin _ rfl
        by_cases q : 24 ≤ s
        · exact bt (nI_le (a := 30) (by omega) (by omega)) (key s s30 (fun _ => rfl) (fun z => absurd z (by omega)))
        · exact bf (nI_ge (b := 30) (by omega) (by omega)) (key (s + 6) (by omega) (fun z => absurd z q) (fun _ => rfl))
      · refine r_sits1 h7 (by rw [hcl]; exact ho) (z1 ?_)
        unfold V_X7_refuseNo
        show V_X8_wet _ mm _ _
        exact m_isSoul1 hC hi (z1 (m_in1 11 (by decide) hc (y1 (m_isOut0 hC i1 ho (y0 (And.intro rfl hr.no))))))
    · refine r_within0 11 rfl (by decide) hc (y0 (bad ?_))
      exact m_isSoul1 hC hi (z1 (m_in0 11 (by decide) hc (y0 (And.intro rfl hr.bad))))
  · refine r_isSoul0 hI hi (z0 (bad ?_))
    exact m_isSoul0 hC hi (z0 (And.intro rfl hr.bad))
/- evenings -/
def tick (u : HS) : HS := (u.1, u.2.1, u.2.2.1, u.2.2.2.1, u.2.2.2.2.1, u.2.2.2.2.2.1, u.2.2.2.2.2.2.1 + 1, u.2.2.2.2.2.2.2)
theorem RC.tick {u : HS} {f : Nat → Int32} (h : RC u f) : RC (tick u) (upd f 6 (f 6 + 1)) := by
  obtain ⟨h1, h2, h3, h4, h5, h6, h8, h9⟩ := h
  have h7 := h1.2
  refine ⟨h1, ?_, fun r hr => ?_, ?_, ?_, ?_, fun j hj => ?_, h9⟩
  · rw [upd_ne (by omega)]; exact h2
  · rw [upd_ne (by omega)]; exact h3 r hr
  · rw [upd_ne (by omega)]; exact h4
  · rw [upd_eq]
    show hmi u + 1 = _
    rw [h5]
  · rw [upd_ne (by omega)]; exact h6
  · have hj : j < HN u := hj
    rw [upd_ne (by omega), upd_ne (by omega), upd_ne (by omega)]; exact h8 j hj
theorem ml_lay {K : MS → Prop} {mm : MS} (kk : ∀ g : Nat → Int32, (∀ j, j < 171 → g j = mm.1 j) → K (mm.1, g, mm.2.2)) : ∀ (k i : Nat) (g : Nat → Int32), i + k = 171 → (∀ j, j < i → g j = mm.1 j) → V_X8_layFresh_2 K (k + 1) (mm.1, g, mm.2.2) (nI i)
  | 0, i, g, hi, h => bt (nI_le (a := 171) (by omega) (by omega)) (kk g (fun j hj => h j (by omega)))
  | k + 1, i, g, hi, h => by
    have v : vp_in (nI i) 171 := vp_in_nI (by omega) (by decide)
    refine bf (nI_ge (b := 171) (by omega) (by omega)) ⟨v, v, ?_⟩
    rw [nI_clamp (by omega), nI_1]
    refine ml_lay kk k (i + 1) (upd g i (mm.1 i)) (by omega) (fun r hr => ?_)
    by_cases e : r = i
    · subst e; rw [upd_eq]
    · rw [upd_ne e]; exact h r (by omega)
theorem m_lay {K : MS → Prop} {mm : MS} (kk : ∀ g : Nat → Int32, (∀ j, j < 171 → g j = mm.1 j) → K (mm.1, g, mm.2.2)) : V_X8_layFresh K mm := ⟨_, ml_lay kk 171 0 mm.2.1 (by omega) (fun j hj => absurd hj (by omega))⟩
def nX (X : Nat) : Nat := (X * 1103515245 + 12345) % 2147483648
theorem nX_lt (X : Nat) : nX X < 2147483648 := Nat.mod_lt _ (by decide)
theorem ev_X {X : Nat} (h : X < 2147483648) : ((lN X * 1103515245) + 12345) - ((lN X * 1103515245) + 12345) / 2147483648 * 2147483648 = lN (nX X) := by
  have e : lN X * 1103515245 + 12345 = lN (X * 1103515245 + 12345) := by
    show lN X * lN 1103515245 + lN 12345 = _
    rw [lN_mul, lN_add]
  rw [e]
  exact pk_lRem (b := 2147483648) (by omega) (by decide) (by decide)
theorem ev_i {Y : Nat} (h : Y < 2147483648) : ((lN Y / 65536) - (lN Y / 65536) / 7 * 7).toInt32 = nI (Y / 65536 % 7) := by
  have e : lN Y / 65536 = lN (Y / 65536) := pk_lDiv (b := 65536) (by omega) (by decide) (by decide)
  rw [e]
  have e2 : lN (Y / 65536) - lN (Y / 65536) / 7 * 7 = lN (Y / 65536 % 7) := pk_lRem (b := 7) (by omega) (by decide) (by decide)
  rw [e2, lN_i]
theorem ev_c {Y : Nat} (h : Y < 2147483648) : ((lN Y / 1048576) - (lN Y / 1048576) / 30 * 30).toInt32 = nI (Y / 1048576 % 30) := by
  have e : lN Y / 1048576 = lN (Y / 1048576) := pk_lDiv (b := 1048576) (by omega) (by decide) (by decide)
  rw [e]
  have e2 : lN (Y / 1048576) - lN (Y / 1048576) / 30 * 30 = lN (Y / 1048576 % 30) := pk_lRem (b := 30) (by omega) (by decide) (by decide)
  rw [e2, lN_i]
/-- one evening's step -/
def liveR (u : HS) (i : Nat) (c : Int32) : Int32 × HS :=
  if i < HN u ∧ ¬ hce u i = -1 then (fussH u (nI i) (hce u i), settleH (setCe u (nI i) (-1)) (fussH u (nI i) (hce u i)))
  else if i < HN u ∧ freeB u c = true then (fussH u (nI i) c, settleH (setCe u (nI i) c) (fussH u (nI i) c))
  else (0, tick u)
theorem r_live {K : Int32 → HS → Prop} {u : HS} {i : Nat} {c : Int32} (h : HI u) (hi : i < 7) (k : K (liveR u i c).1 (liveR u i c).2) : V_X0_liveThrough K u (nI i) c := by
  have vi : vp_in (nI i) 7 := vp_in_nI hi (by decide)
  have cl : (nI i).toNatClampNeg = i := nI_clamp (by omega)
  by_cases s : i < HN u
  · have hs : isS u (nI i) := vp_in_nI s (by have := h.2; omega)
    refine r_isSoul1 h hs (z1 ?_)
    by_cases o : hce u i = -1
    · refine r_sits0 vi (by rw [cl]; exact o) (z0 (r_isSoul1 h hs (z1 ?_)))
      by_cases f : freeB u c = true
      · rw [show liveR u i c = (fussH u (nI i) c, settleH (setCe u (nI i) c) (fussH u (nI i) c)) by unfold liveR; rw [if_neg (fun z => z.2 o), if_pos ⟨s, f⟩]] at k
        exact r_isFree1 h (freeB1 f) (z1 (r_showIn h vi k))
      · rw [show liveR u i c = (0, tick u) by unfold liveR; rw [if_neg (fun z => z.2 o), if_neg (fun z => f z.2)]] at k
        exact r_isFree0 h (freeB0 f) (z0 k)
    · rw [show liveR u i c = (fussH u (nI i) (hce u i), settleH (setCe u (nI i) (-1)) (fussH u (nI i) (hce u i))) by unfold liveR; rw [if_pos ⟨s, o⟩]] at k
      refine r_sits1 vi (by rw [cl]; exact o) (z1 (r_sendOut h vi ?_))
      rw [cl]; exact k
  · have hs : ¬ isS u (nI i) := fun z => by
      obtain ⟨j, hj, e⟩ := vp_in_of z (by have := h.2; omega)
      have := (nI_eq (by omega) (by have := h.2; omega)).mp e
      omega
    rw [show liveR u i c = (0, tick u) by unfold liveR; rw [if_neg (fun z => s z.1), if_neg (fun z => s z.1)]] at k
    exact r_isSoul0 h hs (z0 (r_isSoul0 h hs (z0 k)))
/-- the numbers of an evening, held apart -/
def EvN (M : Nat) (N I C : Nat → Nat) : Prop := ∀ X, X < M → ((lN X * 1103515245) + 12345) - ((lN X * 1103515245) + 12345) / 2147483648 * 2147483648 = lN (N X) ∧ N X < M ∧ ((lN (N X) / 65536) - (lN (N X) / 65536) / 7 * 7).toInt32 = nI (I X) ∧ I X < 7 ∧ ((lN (N X) / 1048576) - (lN (N X) / 1048576) / 30 * 30).toInt32 = nI (C X) ∧ C X < 30
theorem evN : EvN 2147483648 nX (fun X => nX X / 65536 % 7) (fun X => nX X / 1048576 % 30) := fun X hX => ⟨ev_X hX, nX_lt X, ev_i (nX_lt X), Nat.mod_lt _ (by decide), ev_c (nX_lt X), Nat.mod_lt _ (by decide)⟩
section
variable {M : Nat} {N I C : Nat → Nat}
def evF (N I C : Nat → Nat) : Nat → Nat → HS → Int32 → Int32
  | 0, _, _, s => s
  | k + 1, X, t, s => evF N I C k (N X) (liveR t (I X) (nI (C X))).2 (s + (liveR t (I X) (nI (C X))).1)
theorem HI.live {u : HS} (h : HI u) (i : Nat) (c : Int32) : HI (liveR u i c).2 := by
  unfold liveR
  split
  · exact h
  · split
    · exact h
    · exact h
theorem l_even {K : Int32 → US → Prop} {u : US} {n : Nat} (E : EvN M N I C) (hn : n < 100) : ∀ (k j X : Nat) (t : HS) (s : Int32), j + k = n → X < M → HI t → (∀ t', K (evF N I C k X t s) (u.1, t', u.2.2)) → V_X7_evenings_45 K (k + 1) (u.1, t, u.2.2) (nI n) (lN X) s (nI j)
  | 0, j, X, t, s, hj, hX, ht, hK => bt (nI_le (by omega) (by omega)) (hK t)
  | k + 1, j, X, t, s, hj, hX, ht, hK => by
    obtain ⟨e1, e2, e3, e4, e5, e6⟩ := E X hX
    refine bf (nI_ge (by omega) (by omega)) ?_
    rw [e1, e3, e5, nI_1]
    show V_X0_liveThrough _ t _ _
    refine r_live ht e4 ?_
    exact l_even E hn k (j + 1) (N X) _ _ (by omega) e2 (ht.live _ _) hK
theorem ml_even {K : Int32 → MS → Prop} {m : MS} {n : Nat} (E : EvN M N I C) (hn : n < 100) : ∀ (k j X : Nat) (t : HS) (g : Nat → Int32) (s : Int32), j + k = n → X < M → RC t g → (∀ g', K (evF N I C k X t s) (m.1, g', m.2.2)) → V_X8_evenings_42 K (k + 1) (m.1, g, m.2.2) (nI n) (lN X) s (nI j)
  | 0, j, X, t, g, s, hj, hX, ht, hK => bt (nI_le (by omega) (by omega)) (hK g)
  | k + 1, j, X, t, g, s, hj, hX, ht, hK => by
    obtain ⟨e1, e2, e3, i7, e5, c30⟩ := E X hX
    have h7 := ht.1.2
    have rc := fun (t' : HS) (g' : Nat → Int32) (x : Int32) (hg : RC t' g') (hK : ∀ g', K (evF N I C k (N X) t' x) (m.1, g', m.2.2)) => ml_even (K := K) (m := m) E hn k (j + 1) (N X) t' g' x (by omega) e2 hg hK
    refine bf (nI_ge (by omega) (by omega)) ?_
    rw [e1, e3, e5]
    rw [evF] at hK
    generalize I X = i at *
    generalize C X = c at *
    generalize N X = Y at *
    have vc : vp_in (nI c) 30 := vp_in_nI c30 (by decide)
    have tck : (liveR t i (nI c)) = (0, tick t) → V_X8_evenings_177 K (fun v y0 y1 y2 y3 => V_X8_evenings_42 K (k + 1) v y0 y1 y2 y3) (m.1, g, m.2.2) (nI n) (lN Y) s (nI j) := by
      intro e
      rw [e] at hK
      show V_X8_evenings_42 K (k + 1) (m.1, upd g 6 (g 6 + 1), m.2.2) (nI n) (lN Y) s (nI j + 1)
      rw [nI_1]
      refine rc (tick t) _ s ht.tick (fun g' => ?_)
      have := hK g'
      rw [i32_p0] at this; exact this
    have e8 : g 8 = nI (HN t) := ht.2.1.trans ht.1.1
    show (g 8 ≤ nI i → _) ∧ (¬ g 8 ≤ nI i → _)
    rw [e8]
    by_cases q : i < HN t
    · refine bf (nI_ge q (by omega)) (z1 (m_cellOf ht q ?_))
      by_cases o : hce t i = -1
      · refine bt o (z1 ?_)
        by_cases f : freeB t (nI c) = true
        · refine m_isFree1 ht (freeB1 f) (z1 (m_goes ht q ?_))
          have e0 : makesB t i (hce t i) = 0 := by rw [o]; rfl
          have e1 : makesB t i (nI c) = fussH t (nI i) (nI c) := by
            unfold makesB
            rw [if_neg (cell_ne vc)]
            exact fussH_at ht.1 q vc (Or.inl o)
          rw [e0, e1, i32_0p, nI_1]
          have el : liveR t i (nI c) = (fussH t (nI i) (nI c), settleH (setCe t (nI i) (nI c)) (fussH t (nI i) (nI c))) := by unfold liveR; rw [if_neg (fun z => z.2 o), if_pos ⟨q, f⟩]
          rw [el] at hK
          exact rc _ _ _ (ht.go q (Or.inr ⟨vc, (whoH_none ht.1).mp (freeB1 f).1⟩) _) hK
        · exact m_isFree0 ht (freeB0 f) (z0 (tck (by unfold liveR; rw [if_neg (fun z => z.2 o), if_neg (fun z => f z.2)])))
      · refine bf o (m_goes ht q ?_)
        have e0 : makesB t i (-1) = 0 := rfl
        rw [makesB_own ht q o, e0, i32_p0, nI_1]
        have el : liveR t i (nI c) = (fussH t (nI i) (hce t i), settleH (setCe t (nI i) (-1)) (fussH t (nI i) (hce t i))) := by unfold liveR; rw [if_pos ⟨q, o⟩]
        rw [el] at hK
        exact rc _ _ _ (ht.go q (Or.inl rfl) _) hK
    · refine bt (nI_le (by omega) (by omega)) (z0 (z0 (tck ?_)))
      unfold liveR; rw [if_neg (fun z => q z.1), if_neg (fun z => q z.1)]
theorem even_ok (E : EvN M N I C) {u : US} {mm : MS} (hr : Rel u mm) {X n : Nat} (hX : X < M) (hX2 : X < 1000000) (hn : n < 61) (h1 : vp_in (nI X) 1000000) (h2 : vp_in (nI n) 61) {v : HS} (ev : EqH v u.1) : V_X7_evenings_45 (fun r u2 => V_X8_evenings (fun r2 mm2 => r = r2 ∧ Rel u2 mm2) mm (nI X) (nI n)) (n + 1) (u.1, v, u.2.2) (nI n) (lN X) 0 (nI 0) := by
  have hH := hr.1
  have hv : RC v mm.1 := (hH.copy ev (fun _ _ => rfl)).1
  refine l_even (u := u) E (by omega) n 0 X v 0 (by omega) hX hv.1 (fun t' => ?_)
  refine m_in1 1000000 (by decide) h1 (z1 (m_in1 61 (by decide) h2 (y1 (m_lay (fun g hg => ⟨n + 1, ?_⟩)))))
  rw [nI_l (by omega)]
  exact ml_even (m := mm) E (by omega) n 0 X v g 0 (by omega) hX (hH.copy ev hg).1 (fun g' => ⟨rfl, hr⟩)
end
theorem p_evenings : st_evenings Rel := by
  intro u mm x y hr
  have hH := hr.1
  have bad : (V_X8_evenings (fun r2 mm2 => (-2 : Int32) = r2 ∧ Rel (uBad u) mm2) mm x y) → V_X7_evenings_18 (fun r u2 => V_X8_evenings (fun r2 mm2 => r = r2 ∧ Rel u2 mm2) mm x y) u := fun z => z
  by_cases h1 : vp_in x 1000000
  · refine r_within1 1000000 rfl (by decide) h1 (z1 ?_)
    by_cases h2 : vp_in y 61
    · refine r_within1 61 rfl (by decide) h2 (y1 (r_take hH (fun v ev => ?_)))
      obtain ⟨X, hX, rfl⟩ := vp_in_of h1 (by decide)
      obtain ⟨n, hn, rfl⟩ := vp_in_of h2 (by decide)
      refine ⟨n + 1, ?_⟩
      rw [nI_l (by omega)]
      exact even_ok evN hr (by omega) hX hn h1 h2 ev
    · refine r_within0 61 rfl (by decide) h2 (y0 (bad ?_))
      exact m_in1 1000000 (by decide) h1 (z1 (m_in0 61 (by decide) h2 (y0 (And.intro rfl hr.bad))))
  · refine r_within0 1000000 rfl (by decide) h1 (z0 (bad ?_))
    exact m_in0 1000000 (by decide) h1 (z0 (And.intro rfl hr.bad))
