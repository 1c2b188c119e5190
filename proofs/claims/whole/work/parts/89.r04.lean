/-! ===== reading: the items ===== -/
abbrev RS : Type := Nat ⊕ (Nat × HS × (Nat → Int32))
def stopK (c : Nat → Nat) (n : Nat) (h : HS) (f : Nat → Int32) (p : Nat) : RS := if tM c n p = 200 then Sum.inr (tE c n p, h, f) else Sum.inl (tS c n p)
def itSoul (c : Nat → Nat) (n : Nat) (h : HS) (f : Nat → Int32) (p : Nat) : RS :=
  if HN h < 7 then
    (if inR (tM c n (tE c n p)) 0 5 then
      (if inR (tM c n (tE c n (tE c n p))) 0 29 then stopK c n (addH h (tM c n (tE c n p)) (tM c n (tE c n (tE c n p)))) (comeF f (HN h) (tM c n (tE c n p)) (tM c n (tE c n (tE c n p)))) (tE c n (tE c n (tE c n p)))
      else Sum.inl (tS c n (tE c n (tE c n p))))
    else Sum.inl (tS c n (tE c n p)))
  else Sum.inl (tS c n p)
def itCoat (c : Nat → Nat) (n : Nat) (h : HS) (f : Nat → Int32) (p : Nat) : RS :=
  if inR (tM c n (tE c n p)) 0 29 ∧ freeB h (tM c n (tE c n p)) = true then stopK c n (coatH h (tM c n (tE c n p))) (coatF f (tM c n (tE c n p))) (tE c n (tE c n p))
  else Sum.inl (tS c n (tE c n p))
def goR (c : Nat → Nat) (n : Nat) (h : HS) (f : Nat → Int32) (i : Nat) (d x : Int32) (p : Nat) : RS := stopK c n (settleH (setCe h (nI i) d) x) (rowGo f i d x) p
def itSit (c : Nat → Nat) (n : Nat) (h : HS) (f : Nat → Int32) (p : Nat) : RS :=
  if inR (tM c n (tE c n p)) 0 (hso h - 1) ∧ hce h (tM c n (tE c n p)).toNatClampNeg = -1 then
    (if inR (tM c n (tE c n (tE c n p))) 0 29 ∧ freeB h (tM c n (tE c n (tE c n p))) = true then goR c n h f (tM c n (tE c n p)).toNatClampNeg (tM c n (tE c n (tE c n p))) (fussH h (tM c n (tE c n p)) (tM c n (tE c n (tE c n p)))) (tE c n (tE c n (tE c n p)))
    else Sum.inl (tS c n (tE c n (tE c n p))))
  else Sum.inl (tS c n (tE c n p))
def itOut (c : Nat → Nat) (n : Nat) (h : HS) (f : Nat → Int32) (p : Nat) : RS :=
  if inR (tM c n (tE c n p)) 0 (hso h - 1) ∧ ¬ hce h (tM c n (tE c n p)).toNatClampNeg = -1 then goR c n h f (tM c n (tE c n p)).toNatClampNeg (-1) (fussH h (tM c n (tE c n p)) (hce h (tM c n (tE c n p)).toNatClampNeg)) (tE c n (tE c n p))
  else Sum.inl (tS c n (tE c n p))
def itMin (c : Nat → Nat) (n : Nat) (h : HS) (f : Nat → Int32) (p : Nat) : RS :=
  if inR (tM c n (tE c n p)) 1 99 then stopK c n (minH h (tM c n (tE c n p))) (minF f (tM c n (tE c n p))) (tE c n (tE c n p))
  else Sum.inl (tS c n (tE c n p))
def item (c : Nat → Nat) (n : Nat) (h : HS) (f : Nat → Int32) (p : Nat) : RS :=
  if tM c n p = 101 then itSoul c n h f p else if tM c n p = 102 then itCoat c n h f p else if tM c n p = 103 then itSit c n h f p else if tM c n p = 104 then itOut c n h f p else if tM c n p = 105 then itMin c n h f p else Sum.inl (tS c n p)
/-- minutes are few, by the length of what was read -/
def HB (h : HS) (p : Nat) : Prop := ∃ t, hmi h = nI t ∧ 7 * t ≤ 99 * p
def OK (n p : Nat) (R : RS) : Prop := (∀ q, R = Sum.inl q → q ≤ n) ∧ ∀ p' h' f', R = Sum.inr (p', h', f') → RQ h' f' ∧ HB h' p' ∧ p < p' ∧ p' ≤ n
theorem OK.no {n p q : Nat} (h : q ≤ n) : OK n p (Sum.inl q) := by
  refine ⟨fun q' e => ?_, fun _ _ _ e => absurd e (by simp)⟩
  have : q = q' := by simpa using e
  omega
section
variable {c : Nat → Nat} {n : Nat} {X : Nat → Int32}
theorem OK.stop (T : TX X c n) {h : HS} {f : Nat → Int32} {p p0 t : Nat} (hp : p ≤ n) (h0 : p0 < p) (hq : RQ h f) (ht : hmi h = nI t) (hb : 7 * t ≤ 99 * p) : OK n p0 (stopK c n h f p) := by
  obtain ⟨k, s1, s2, s3⟩ := tk_all T hp
  unfold stopK
  split
  · refine ⟨fun q e => absurd e (by simp), fun p' h' f' e => ?_⟩
    have e1 : tE c n p = p' ∧ h = h' ∧ f = f' := by simpa using e
    obtain ⟨rfl, rfl, rfl⟩ := e1
    exact ⟨hq, ⟨t, ht, by omega⟩, by omega, s3⟩
  · exact OK.no (by omega)
theorem so_toInt {h : HS} (hI : HI h) : (hso h - 1).toInt = (HN h : Int) - 1 := by
  have h7 := hI.2
  rw [hI.1]
  exact pk_sub_toInt (b := 1) (by omega) (by decide)
theorem item_ok (T : TX X c n) {h : HS} {f : Nat → Int32} {p : Nat} (hp : p ≤ n) (hq : RQ h f) (hb : HB h p) : OK n p (item c n h f p) := by
  have n150 := T.1
  obtain ⟨t, ht, hb⟩ := hb
  have hI := hq.1.1
  have h7 := hI.2
  have hm : vp_in (hmi h) 10000 := by rw [ht]; exact vp_in_nI (by omega) (by decide)
  have hm1 : hmi h + 1 = nI (t + 1) := by rw [ht, nI_1]
  obtain ⟨k0, s1, s2, s3⟩ := tk_all T hp
  obtain ⟨k1, r1, r2, r3⟩ := tk_all T s3
  obtain ⟨k2, u1, u2, u3⟩ := tk_all T r3
  unfold item
  split
  · rename_i z
    have g := tk_go k0 (by rw [z]; decide)
    unfold itSoul
    split
    · split
      · rename_i z1
        split
        · rename_i z2
          exact OK.stop T u3 (by omega) (hq.add (by assumption) (inR_of z1 (by decide)) (inR_of z2 (by decide)) hm) (t := t) ht (by omega)
        · exact OK.no (by omega)
      · exact OK.no (by omega)
    · exact OK.no (by omega)
  · split
    · rename_i z
      have g := tk_go k0 (by rw [z]; decide)
      unfold itCoat
      split
      · rename_i z1
        exact OK.stop T r3 (by omega) (hq.coat (inR_of z1.1 (by decide))) (t := t) ht (by omega)
      · exact OK.no (by omega)
    · split
      · rename_i z
        have g := tk_go k0 (by rw [z]; decide)
        unfold itSit
        split
        · rename_i z1
          obtain ⟨i, hi, ei⟩ := vp_in_of (inR_of z1.1 (so_toInt hI)) (by omega)
          split
          · rename_i z2
            unfold goR
            rw [ei, nI_clamp (by omega)]
            exact OK.stop T u3 (by omega) (hq.go hi (Or.inr ⟨inR_of z2.1 (by decide), (whoH_none hI).mp (freeB1 z2.2).1⟩) _) (t := t + 1) hm1 (by omega)
          · exact OK.no (by omega)
        · exact OK.no (by omega)
      · split
        · rename_i z
          have g := tk_go k0 (by rw [z]; decide)
          unfold itOut
          split
          · rename_i z1
            obtain ⟨i, hi, ei⟩ := vp_in_of (inR_of z1.1 (so_toInt hI)) (by omega)
            unfold goR
            rw [ei, nI_clamp (by omega)]
            exact OK.stop T r3 (by omega) (hq.go hi (Or.inl rfl) _) (t := t + 1) hm1 (by omega)
          · exact OK.no (by omega)
        · split
          · rename_i z
            have g := tk_min k0 z
            unfold itMin
            split
            · rename_i z1
              have z2 : vp_in (tM c n (tE c n p)) 100 := by
                refine inR_of (b := 99) ⟨fun y => z1.1 ?_, z1.2⟩ (by decide)
                exact Int32.lt_of_lt_of_le y (by decide)
              obtain ⟨v, hv, ev⟩ := vp_in_of z2 (by decide)
              rw [ev]
              obtain ⟨m1, m2⟩ := hq.min (v := v) ht (by omega)
              exact OK.stop T r3 (by omega) m1 m2 (by omega)
            · exact OK.no (by omega)
          · exact OK.no (by omega)
/- the class's items -/
theorem c_soul {K : Int32 → XS → Prop} {C : RS → Prop} (T : TX X c n) {h : HS} {f : Nat → Int32} {p : Nat} {v : Int32} (hp : p ≤ n) (hI : HI h) (k1 : ∀ h f p tk s v, p ≤ n → C (stopK c n h f p) → K 1 (h, X, nI n, tk, s, nI p, v)) (k0 : ∀ q h tk e v, C (Sum.inl q) → K 0 (h, X, nI n, tk, nI q, e, v)) (hC : C (itSoul c n h f p)) : V_X6_readSoul K (CS X c n h p v) := by
  obtain ⟨t0, s1, s2, s3⟩ := tk_all T hp
  obtain ⟨t1, r1, r2, r3⟩ := tk_all T s3
  obtain ⟨t2, u1, u2, u3⟩ := tk_all T r3
  have h7 := hI.2
  unfold itSoul at hC
  show (7 ≤ hso h → _) ∧ (¬ 7 ≤ hso h → _)
  rw [hI.1]
  by_cases z : HN h < 7
  · rw [if_pos z] at hC
    refine bf (nI_ge (b := 7) z (by decide)) (r_num T s3 (by decide) (by decide) (fun y => y1 ?_) (fun y v => y0 ?_))
    · rw [if_pos y] at hC
      refine r_num T r3 (by decide) (by decide) (fun y2 => y1 ?_) (fun y2 v => y0 ?_)
      · rw [if_pos y2] at hC
        exact r_addSoul hI z (k1 _ _ _ _ _ _ u3 hC)
      · rw [if_neg y2] at hC
        exact k0 _ _ _ _ _ hC
    · rw [if_neg y] at hC
      exact k0 _ _ _ _ _ hC
  · rw [if_neg z] at hC
    exact bt (nI_le (a := 7) (by omega) (by omega)) (k0 _ _ _ _ _ hC)
theorem c_coat {K : Int32 → XS → Prop} {C : RS → Prop} (T : TX X c n) {h : HS} {f : Nat → Int32} {p : Nat} {v : Int32} (hp : p ≤ n) (hI : HI h) (k1 : ∀ h f p tk s v, p ≤ n → C (stopK c n h f p) → K 1 (h, X, nI n, tk, s, nI p, v)) (k0 : ∀ q h tk e v, C (Sum.inl q) → K 0 (h, X, nI n, tk, nI q, e, v)) (hC : C (itCoat c n h f p)) : V_X6_readCoat K (CS X c n h p v) := by
  obtain ⟨t0, s1, s2, s3⟩ := tk_all T hp
  obtain ⟨t1, r1, r2, r3⟩ := tk_all T s3
  unfold itCoat at hC
  refine r_num T s3 (by decide) (by decide) (fun y => z1 ?_) (fun y v => z0 ?_)
  · by_cases z : freeB h (tM c n (tE c n p)) = true
    · rw [if_pos ⟨y, z⟩] at hC
      exact r_isFree1 hI (freeB1 z) (y1 (k1 _ _ _ _ _ _ r3 hC))
    · rw [if_neg (fun w => z w.2)] at hC
      exact r_isFree0 hI (freeB0 z) (y0 (k0 _ _ _ _ _ hC))
  · rw [if_neg (fun w => y w.1)] at hC
    exact k0 _ _ _ _ _ hC
theorem so_le {h : HS} (hI : HI h) : ¬ (99 : Int32) < hso h - 1 := by
  have h7 := hI.2
  rw [Int32.lt_iff_toInt_lt, so_toInt hI, show (99 : Int32).toInt = 99 by decide]
  omega
theorem c_sit {K : Int32 → XS → Prop} {C : RS → Prop} (T : TX X c n) {h : HS} {f : Nat → Int32} {p : Nat} {v : Int32} (hp : p ≤ n) (hI : HI h) (k1 : ∀ h f p tk s v, p ≤ n → C (stopK c n h f p) → K 1 (h, X, nI n, tk, s, nI p, v)) (k0 : ∀ q h tk e v, C (Sum.inl q) → K 0 (h, X, nI n, tk, nI q, e, v)) (hC : C (itSit c n h f p)) : V_X6_readSit K (CS X c n h p v) := by
  obtain ⟨t0, s1, s2, s3⟩ := tk_all T hp
  obtain ⟨t1, r1, r2, r3⟩ := tk_all T s3
  obtain ⟨t2, u1, u2, u3⟩ := tk_all T r3
  have h7 := hI.2
  unfold itSit at hC
  refine r_num T s3 (by decide) (so_le hI) (fun y => z1 ?_) (fun y v => z0 ?_)
  · have vi := vi_mono (inR_of y (so_toInt hI)) h7
    obtain ⟨i, hi, ei⟩ := vp_in_of vi (by decide)
    by_cases o : hce h (tM c n (tE c n p)).toNatClampNeg = -1
    · rw [if_pos ⟨y, o⟩] at hC
      refine r_sits0 vi o (z0 (r_num T r3 (by decide) (by decide) (fun y2 => z1 ?_) (fun y2 v => z0 ?_)))
      · by_cases z : freeB h (tM c n (tE c n (tE c n p))) = true
        · rw [if_pos ⟨y2, z⟩] at hC
          refine r_isFree1 hI (freeB1 z) (y1 (r_showIn hI vi (k1 _ (rowGo f (tM c n (tE c n p)).toNatClampNeg (tM c n (tE c n (tE c n p))) (fussH h (tM c n (tE c n p)) (tM c n (tE c n (tE c n p))))) _ _ _ _ u3 ?_)))
          unfold goR at hC
          have e : nI (tM c n (tE c n p)).toNatClampNeg = tM c n (tE c n p) := by rw [ei, nI_clamp (by omega)]
          rw [e] at hC
          exact hC
        · rw [if_neg (fun w => z w.2)] at hC
          exact r_isFree0 hI (freeB0 z) (y0 (k0 _ _ _ _ _ hC))
      · rw [if_neg (fun w => y2 w.1)] at hC
        exact k0 _ _ _ _ _ hC
    · rw [if_neg (fun w => o w.2)] at hC
      exact r_sits1 vi o (z1 (k0 _ _ _ _ _ hC))
  · rw [if_neg (fun w => y w.1)] at hC
    exact k0 _ _ _ _ _ hC
theorem c_out {K : Int32 → XS → Prop} {C : RS → Prop} (T : TX X c n) {h : HS} {f : Nat → Int32} {p : Nat} {v : Int32} (hp : p ≤ n) (hI : HI h) (k1 : ∀ h f p tk s v, p ≤ n → C (stopK c n h f p) → K 1 (h, X, nI n, tk, s, nI p, v)) (k0 : ∀ q h tk e v, C (Sum.inl q) → K 0 (h, X, nI n, tk, nI q, e, v)) (hC : C (itOut c n h f p)) : V_X6_readOut K (CS X c n h p v) := by
  obtain ⟨t0, s1, s2, s3⟩ := tk_all T hp
  obtain ⟨t1, r1, r2, r3⟩ := tk_all T s3
  have h7 := hI.2
  unfold itOut at hC
  refine r_num T s3 (by decide) (so_le hI) (fun y => z1 ?_) (fun y v => z0 ?_)
  · have vi := vi_mono (inR_of y (so_toInt hI)) h7
    obtain ⟨i, hi, ei⟩ := vp_in_of vi (by decide)
    by_cases o : hce h (tM c n (tE c n p)).toNatClampNeg = -1
    · rw [if_neg (fun w => w.2 o)] at hC
      exact r_sits0 vi o (y0 (k0 _ _ _ _ _ hC))
    · rw [if_pos ⟨y, o⟩] at hC
      refine r_sits1 vi o (y1 (r_sendOut hI vi (k1 _ (rowGo f (tM c n (tE c n p)).toNatClampNeg (-1) (fussH h (tM c n (tE c n p)) (hce h (tM c n (tE c n p)).toNatClampNeg))) _ _ _ _ r3 ?_)))
      unfold goR at hC
      have e : nI (tM c n (tE c n p)).toNatClampNeg = tM c n (tE c n p) := by rw [ei, nI_clamp (by omega)]
      rw [e] at hC
      exact hC
  · rw [if_neg (fun w => y w.1)] at hC
    exact k0 _ _ _ _ _ hC
theorem c_min {K : Int32 → XS → Prop} {C : RS → Prop} (T : TX X c n) {h : HS} {f : Nat → Int32} {p : Nat} {v : Int32} (hp : p ≤ n) (k1 : ∀ h f p tk s v, p ≤ n → C (stopK c n h f p) → K 1 (h, X, nI n, tk, s, nI p, v)) (k0 : ∀ q h tk e v, C (Sum.inl q) → K 0 (h, X, nI n, tk, nI q, e, v)) (hC : C (itMin c n h f p)) : V_X6_readMinutes K (CS X c n h p v) := by
  obtain ⟨t0, s1, s2, s3⟩ := tk_all T hp
  obtain ⟨t1, r1, r2, r3⟩ := tk_all T s3
  unfold itMin at hC
  refine r_num T s3 (by decide) (by decide) (fun y => y1 ?_) (fun y v => y0 ?_)
  · rw [if_pos y] at hC
    exact k1 _ _ _ _ _ _ r3 hC
  · rw [if_neg y] at hC
    exact k0 _ _ _ _ _ hC
theorem c_item {K : Int32 → XS → Prop} {C : RS → Prop} (T : TX X c n) {h : HS} {f : Nat → Int32} {p : Nat} {v : Int32} (hp : p ≤ n) (hI : HI h) (k1 : ∀ h f p tk s v, p ≤ n → C (stopK c n h f p) → K 1 (h, X, nI n, tk, s, nI p, v)) (k0 : ∀ q h tk e v, C (Sum.inl q) → K 0 (h, X, nI n, tk, nI q, e, v)) (hC : C (item c n h f p)) : V_X6_readItem K (CS X c n h p v) 0 := by
  obtain ⟨t0, s1, s2, s3⟩ := tk_all T hp
  have k1' : ∀ h f p tk s v, p ≤ n → C (stopK c n h f p) → ((1 : Int32) = 0 ∨ (1 : Int32) = 1) ∧ K 1 (h, X, nI n, tk, s, nI p, v) := fun h f p tk s v a b => ⟨Or.inr rfl, k1 h f p tk s v a b⟩
  have k0' : ∀ q h tk e v, C (Sum.inl q) → ((0 : Int32) = 0 ∨ (0 : Int32) = 1) ∧ K 0 (h, X, nI n, tk, nI q, e, v) := fun q h tk e v a => ⟨Or.inl rfl, k0 q h tk e v a⟩
  unfold item at hC
  show (¬ tC c n p = 1 → _) ∧ (tC c n p = 1 → _)
  by_cases w1 : tC c n p = 1
  · refine nt w1 ?_
    have tw : tM c n p = wordT c (tS c n p) (tE c n p) ∧ (∀ j, tS c n p ≤ j → j < tE c n p → iL (c j) = true) := by
      rcases t0 with z | z | z | z | z
      · rw [z.1] at w1; exact absurd w1 (by decide)
      · exact ⟨z.2.1, z.2.2.1⟩
      · rw [z.1] at w1; exact absurd w1 (by decide)
      · rw [z.1] at w1; exact absurd w1 (by decide)
      · rw [z.1] at w1; exact absurd w1 (by decide)
    have sp1 : ∀ (w : Nat) (K' : Int32 → Prop), w < 6 → tM c n p = nI (100 + w) → K' 1 → V_X6_spells w K' (CS X c n h p v) := fun w K' hw e k => r_spell T hw s2 s3 tw.2 (by rw [← tw.1, show decide (tM c n p = nI (100 + w)) = true by simpa using e]; exact k)
    have sp0 : ∀ (w : Nat) (K' : Int32 → Prop), w < 6 → ¬ tM c n p = nI (100 + w) → K' 0 → V_X6_spells w K' (CS X c n h p v) := fun w K' hw e k => r_spell T hw s2 s3 tw.2 (by rw [← tw.1, show decide (tM c n p = nI (100 + w)) = false by simpa using e]; exact k)
    by_cases e0 : tM c n p = nI (100 + 0)
    · have ne : ∀ x : Int32, ¬ (100 : Int32) = x → ¬ tM c n p = x := fun x hx hy => hx (e0.symm.trans hy)
      rw [if_neg (ne 101 (by decide)), if_neg (ne 102 (by decide)), if_neg (ne 103 (by decide)), if_neg (ne 104 (by decide)), if_neg (ne 105 (by decide))] at hC
      exact sp1 0 _ (by decide) e0 (bf (by decide) (k0 _ _ _ _ _ hC))
    · refine sp0 0 _ (by decide) e0 (bt rfl (z0 ?_))
      by_cases e1 : tM c n p = 101
      · rw [if_pos e1] at hC
        exact sp1 1 _ (by decide) e1 (z1 (c_soul T hp hI k1' k0' hC))
      · rw [if_neg e1] at hC
        refine sp0 1 _ (by decide) e1 (z0 ?_)
        by_cases e2 : tM c n p = 102
        · rw [if_pos e2] at hC
          exact sp1 2 _ (by decide) e2 (z1 (c_coat T hp hI k1' k0' hC))
        · rw [if_neg e2] at hC
          refine sp0 2 _ (by decide) e2 (z0 ?_)
          by_cases e3 : tM c n p = 103
          · rw [if_pos e3] at hC
            exact sp1 3 _ (by decide) e3 (z1 (c_sit T hp hI k1' k0' hC))
          · rw [if_neg e3] at hC
            refine sp0 3 _ (by decide) e3 (z0 ?_)
            by_cases e4 : tM c n p = 104
            · rw [if_pos e4] at hC
              exact sp1 4 _ (by decide) e4 (z1 (c_out T hp hI k1' k0' hC))
            · rw [if_neg e4] at hC
              refine sp0 4 _ (by decide) e4 (z0 ?_)
              by_cases e5 : tM c n p = 105
              · rw [if_pos e5] at hC
                refine sp1 5 _ (by decide) e5 (z1 (c_min T hp (fun h f p tk s v a b => z1 (k1 h f p tk s v a b)) (fun q h tk e v a => z0 (k0 q h tk e v a)) hC))
              · rw [if_neg e5] at hC
                exact sp0 5 _ (by decide) e5 (z0 (k0 _ _ _ _ _ hC))
  · have ne : ∀ w, w < 6 → ¬ tM c n p = nI (100 + w) := fun w hw e => w1 (tk_word t0 hw e)
    rw [if_neg (show ¬ tM c n p = 101 from ne 1 (by decide)), if_neg (show ¬ tM c n p = 102 from ne 2 (by decide)), if_neg (show ¬ tM c n p = 103 from ne 3 (by decide)), if_neg (show ¬ tM c n p = 104 from ne 4 (by decide)), if_neg (show ¬ tM c n p = 105 from ne 5 (by decide))] at hC
    exact nf w1 (k0 _ _ _ _ _ hC)
end
