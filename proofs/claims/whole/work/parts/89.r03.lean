/-! ===== reading: what a token may be; numbers, stops ===== -/
abbrev inR (x a b : Int32) : Prop := ¬ x < a ∧ ¬ b < x
theorem inR_of {x b : Int32} {N : Nat} (h : inR x 0 b) (hb : b.toInt = (N : Int) - 1) : vp_in x N := by
  rw [vp_in_iff]
  have h1 := h.1
  have h2 := h.2
  rw [Int32.lt_iff_toInt_lt] at h1 h2
  rw [show (0 : Int32).toInt = 0 by decide] at h1
  omega
theorem wordT_val {c : Nat → Nat} {q e : Nat} : wordT c q e = 300 ∨ ∃ w, w < 6 ∧ wordT c q e = nI (100 + w) := by
  unfold wordT
  split
  · unfold wT
    split
    · exact Or.inr ⟨0, by decide, rfl⟩
    · split
      · exact Or.inr ⟨1, by decide, rfl⟩
      · split
        · exact Or.inr ⟨2, by decide, rfl⟩
        · split
          · exact Or.inr ⟨3, by decide, rfl⟩
          · split
            · exact Or.inr ⟨4, by decide, rfl⟩
            · split
              · exact Or.inr ⟨5, by decide, rfl⟩
              · exact Or.inl rfl
  · exact Or.inl rfl
section
variable {c : Nat → Nat} {n : Nat}
/-- the kinds of token -/
def TK (c : Nat → Nat) (n p : Nat) : Prop := (tC c n p = 0 ∧ tM c n p = -1 ∧ tE c n p = tS c n p) ∨ (tC c n p = 1 ∧ tM c n p = wordT c (tS c n p) (tE c n p) ∧ (∀ j, tS c n p ≤ j → j < tE c n p → iL (c j) = true) ∧ tS c n p < tE c n p) ∨ (tC c n p = 2 ∧ (∃ x, x ≤ 99 ∧ tM c n p = nI x) ∧ tS c n p < tE c n p) ∨ (tC c n p = 3 ∧ tM c n p = 200 ∧ tS c n p < tE c n p) ∨ (tC c n p = 4 ∧ tM c n p = 300 ∧ tS c n p < tE c n p)
theorem tk_all {X : Nat → Int32} (T : TX X c n) {p : Nat} (hp : p ≤ n) : TK c n p ∧ p ≤ tS c n p ∧ tS c n p ≤ tE c n p ∧ tE c n p ≤ n := by
  obtain ⟨s1, s2⟩ := tS_ge (c := c) hp
  unfold TK tC tM tE
  generalize tS c n p = q at *
  by_cases z : n ≤ q
  · have eE : tEq c n q = q := by unfold tEq; rw [if_pos z]
    refine ⟨Or.inl ⟨by unfold tCq; rw [if_pos z], by unfold tMq; rw [if_pos z], eE⟩, s1, by rw [eE]; exact Nat.le_refl q, by rw [eE]; omega⟩
  · by_cases zl : iL (c q) = true
    · have eE : tEq c n q = rn (fun j => iL (c j)) (n - q) q := by unfold tEq; rw [if_neg z, if_pos zl]
      have g := rn_ge (P := fun j => iL (c j)) (n - q) q
      have ga := rn_all (P := fun j => iL (c j)) (n - q) q
      have nf : ¬ iF (c q) = true := by
        intro y
        have y1 := iL_of zl
        have y2 : 48 ≤ c q ∧ c q ≤ 57 := by simpa [iF] using y
        omega
      have g1 : q + 1 ≤ rn (fun j => iL (c j)) (n - q) q := by
        rw [show n - q = (n - q - 1) + 1 by omega, rn, if_pos zl]
        exact (rn_ge _ _).1
      rw [← eE] at g ga g1
      refine ⟨Or.inr (Or.inl ⟨by unfold tCq; rw [if_neg z, if_pos zl], by unfold tMq; rw [if_neg z, if_neg nf, if_pos zl], fun j h1 h2 => ga j h1 h2, by omega⟩), s1, by omega, by omega⟩
    · by_cases zf : iF (c q) = true
      · have eE : tEq c n q = rn (fun j => iF (c j)) (n - q) q := by unfold tEq; rw [if_neg z, if_neg zl, if_pos zf]
        have g := rn_ge (P := fun j => iF (c j)) (n - q) q
        have ga := rn_all (P := fun j => iF (c j)) (n - q) q
        have g1 : q + 1 ≤ rn (fun j => iF (c j)) (n - q) q := by
          rw [show n - q = (n - q - 1) + 1 by omega, rn, if_pos zf]
          exact (rn_ge _ _).1
        rw [← eE] at g ga g1
        have eM : tMq c n q = numT c q (tEq c n q) := by unfold tMq; rw [if_neg z, if_pos zf]
        have y1 : 48 ≤ c q ∧ c q ≤ 57 := by simpa [iF] using zf
        by_cases l : tEq c n q - q ≤ 2
        · refine ⟨Or.inr (Or.inr (Or.inl ⟨by unfold tCq; rw [if_neg z, if_neg zl, if_pos zf, if_pos l], ?_, by omega⟩)), s1, by omega, by omega⟩
          rw [eM]
          unfold numT
          rcases (by omega : tEq c n q - q = 1 ∨ tEq c n q - q = 2) with e | e
          · rw [if_pos e]; exact ⟨c q - 48, by omega, rfl⟩
          · rw [if_neg (by omega), if_pos e]
            have z2 := ga (q + 1) (by omega) (by omega)
            have y2 : 48 ≤ c (q + 1) ∧ c (q + 1) ≤ 57 := by simpa [iF] using z2
            exact ⟨_, by omega, rfl⟩
        · refine ⟨Or.inr (Or.inr (Or.inr (Or.inr ⟨by unfold tCq; rw [if_neg z, if_neg zl, if_pos zf, if_neg l], ?_, by omega⟩))), s1, by omega, by omega⟩
          rw [eM]
          unfold numT
          rw [if_neg (by omega), if_neg (by omega)]
      · have eE : tEq c n q = q + 1 := by unfold tEq; rw [if_neg z, if_neg zl, if_neg zf]
        by_cases z59 : c q = 59
        · exact ⟨Or.inr (Or.inr (Or.inr (Or.inl ⟨by unfold tCq; rw [if_neg z, if_neg zl, if_neg zf, if_pos z59], by unfold tMq; rw [if_neg z, if_neg zf, if_neg zl, if_pos z59], by omega⟩))), s1, by omega, by omega⟩
        · exact ⟨Or.inr (Or.inr (Or.inr (Or.inr ⟨by unfold tCq; rw [if_neg z, if_neg zl, if_neg zf, if_neg z59], by unfold tMq; rw [if_neg z, if_neg zf, if_neg zl, if_neg z59], by omega⟩))), s1, by omega, by omega⟩
theorem tk_num {p : Nat} (h : TK c n p) {a b : Int32} (ha : ¬ a < 0) (hb : ¬ 99 < b) (h2 : inR (tM c n p) a b) : tC c n p = 2 := by
  have no : ∀ x : Int32, tM c n p = x → (x < 0 ∨ 99 < x) → False := by
    intro x hx hy
    rw [hx] at h2
    have h3 := h2.1
    have h4 := h2.2
    rw [Int32.lt_iff_toInt_lt] at ha hb h3 h4
    rw [show (0 : Int32).toInt = 0 by decide] at ha
    rw [show (99 : Int32).toInt = 99 by decide] at hb
    rcases hy with hy | hy <;> rw [Int32.lt_iff_toInt_lt] at hy
    · rw [show (0 : Int32).toInt = 0 by decide] at hy; omega
    · rw [show (99 : Int32).toInt = 99 by decide] at hy; omega
  rcases h with h | h | h | h | h
  · exact absurd (no _ h.2.1 (Or.inl (by decide))) id
  · exfalso
    rcases wordT_val (c := c) (q := tS c n p) (e := tE c n p) with w | ⟨w, hw, e⟩
    · exact no _ (h.2.1.trans w) (Or.inr (by decide))
    · refine no _ (h.2.1.trans e) (Or.inr ?_)
      exact nI_lt (a := 99) (by omega) (by omega)
  · exact h.1
  · exact absurd (no _ h.2.1 (Or.inr (by decide))) id
  · exact absurd (no _ h.2.1 (Or.inr (by decide))) id
theorem tk_stop {p : Nat} (h : TK c n p) : tC c n p = 3 ↔ tM c n p = 200 := by
  rcases h with h | h | h | h | h
  · rw [h.1, h.2.1]; decide
  · rw [h.1, h.2.1]
    refine ⟨fun z => absurd z (by decide), fun z => ?_⟩
    rcases wordT_val (c := c) (q := tS c n p) (e := tE c n p) with w | ⟨w, hw, e⟩
    · rw [w] at z; exact absurd z (by decide)
    · rw [e] at z
      have := (nI_eq (b := 200) (by omega) (by decide)).mp z
      omega
  · obtain ⟨x, hx, e⟩ := h.2.1
    rw [h.1, e]
    refine ⟨fun z => absurd z (by decide), fun z => ?_⟩
    have := (nI_eq (b := 200) (by omega) (by decide)).mp z
    omega
  · rw [h.1, h.2.1]; exact ⟨fun _ => rfl, fun _ => rfl⟩
  · rw [h.1, h.2.1]; decide
theorem tk_end {p : Nat} (h : TK c n p) : tC c n p = 0 ↔ tM c n p = -1 := by
  rcases h with h | h | h | h | h
  · rw [h.1, h.2.1]; exact ⟨fun _ => rfl, fun _ => rfl⟩
  · rw [h.1, h.2.1]
    refine ⟨fun z => absurd z (by decide), fun z => ?_⟩
    rcases wordT_val (c := c) (q := tS c n p) (e := tE c n p) with w | ⟨w, hw, e⟩
    · rw [w] at z; exact absurd z (by decide)
    · rw [e] at z; exact absurd z (nI_ne_m1 (by omega))
  · obtain ⟨x, hx, e⟩ := h.2.1
    rw [h.1, e]
    exact ⟨fun z => absurd z (by decide), fun z => absurd z (nI_ne_m1 (by omega))⟩
  · rw [h.1, h.2.1]; decide
  · rw [h.1, h.2.1]; decide
theorem tk_word {p : Nat} (h : TK c n p) {w : Nat} (hw : w < 6) (e : tM c n p = nI (100 + w)) : tC c n p = 1 := by
  rcases h with h | h | h | h | h
  · rw [h.2.1] at e; exact absurd e.symm (nI_ne_m1 (by omega))
  · exact h.1
  · obtain ⟨x, hx, e2⟩ := h.2.1
    rw [e2] at e
    have := (nI_eq (by omega) (by omega)).mp e
    omega
  · rw [h.2.1] at e
    have := (nI_eq (a := 200) (by decide) (by omega)).mp e
    omega
  · rw [h.2.1] at e
    have := (nI_eq (a := 300) (by decide) (by omega)).mp e
    omega
theorem tk_go {p : Nat} (h : TK c n p) (e : ¬ tM c n p = -1) : tS c n p < tE c n p := by
  rcases h with h | h | h | h | h
  · exact absurd h.2.1 e
  · exact h.2.2.2
  · exact h.2.2
  · exact h.2.2
  · exact h.2.2
theorem tk_min {p : Nat} (h : TK c n p) (e : tM c n p = 105) : tS c n p + 7 ≤ tE c n p := by
  have h1 := tk_word h (w := 5) (by decide) e
  rcases h with h | h | h | h | h
  · rw [h.1] at h1; exact absurd h1 (by decide)
  · have e2 : wordT c (tS c n p) (tE c n p) = nI (100 + 5) := h.2.1.symm.trans e
    have := ((word_iff (c := c) (w := 5) (by decide) h.2.2.1).mp e2).1
    have l : wL 5 = 7 := by decide
    omega
  · rw [h.1] at h1; exact absurd h1 (by decide)
  · rw [h.1] at h1; exact absurd h1 (by decide)
  · rw [h.1] at h1; exact absurd h1 (by decide)
/-- the class's state behind a token -/
abbrev CS (X : Nat → Int32) (c : Nat → Nat) (n : Nat) (h : HS) (p : Nat) (v : Int32) : XS := (h, X, nI n, tC c n p, nI (tS c n p), nI (tE c n p), v)
theorem r_num {K : Int32 → XS → Prop} {X : Nat → Int32} {h : HS} {tk s v a b : Int32} {p : Nat} (T : TX X c n) (hp : p ≤ n) (ha : ¬ a < 0) (hb : ¬ 99 < b) (k1 : inR (tM c n p) a b → K 1 (CS X c n h p (tM c n p))) (k0 : ¬ inR (tM c n p) a b → ∀ v, K 0 (CS X c n h p v)) : V_X6_readNumber K (h, X, nI n, tk, s, nI p, v) a b := by
  have tk := (tk_all T hp).1
  refine r_adv T hp (fun v' hv => ⟨fun z => ?_, fun z => ?_⟩)
  · exact k0 (fun w => z (tk_num tk ha hb w)) v'
  · have e := hv z
    subst e
    refine ⟨fun y => k0 (fun w => w.1 y) _, fun y => ⟨fun x => k0 (fun w => w.2 x) _, fun x => k1 ⟨y, x⟩⟩⟩
theorem r_stop {K : Int32 → XS → Prop} {X : Nat → Int32} {h : HS} {tk s v : Int32} {p : Nat} (T : TX X c n) (hp : p ≤ n) (k1 : tM c n p = 200 → ∀ v, K 1 (CS X c n h p v)) (k0 : ¬ tM c n p = 200 → ∀ v, K 0 (CS X c n h p v)) : V_X6_readStop K (h, X, nI n, tk, s, nI p, v) := by
  have tk := (tk_all T hp).1
  refine r_adv T hp (fun v' hv => ⟨fun z => ?_, fun z => ?_⟩)
  · exact k0 (fun w => z ((tk_stop tk).mpr w)) v'
  · exact k1 ((tk_stop tk).mp z) v'
/- the model -/
theorem m_inR1 {K : Int32 → Prop} {x a b : Int32} (h : inR x a b) (k : K 1) : V_X8_in K x.toInt64 a.toInt64 b.toInt64 := by
  refine bf (fun q => ?_) (bf (fun q => ?_) k)
  · have := (lg_lt _ _).mp q; rw [lg_ti, lg_ti] at this; exact h.1 (Int32.lt_iff_toInt_lt.mpr this)
  · have := (lg_gt _ _).mp q; rw [lg_ti, lg_ti] at this; exact h.2 (Int32.lt_iff_toInt_lt.mpr this)
theorem m_inR0 {K : Int32 → Prop} {x a b : Int32} (h : ¬ inR x a b) (k : K 0) : V_X8_in K x.toInt64 a.toInt64 b.toInt64 := by
  refine ⟨fun _ => k, fun q => bt ?_ k⟩
  have q1 : ¬ x < a := fun z => q ((lg_lt _ _).mpr (by rw [lg_ti, lg_ti]; exact Int32.lt_iff_toInt_lt.mp z))
  have q2 : b < x := Classical.not_not.mp (fun z => h ⟨q1, z⟩)
  exact (lg_gt _ _).mpr (by rw [lg_ti, lg_ti]; exact Int32.lt_iff_toInt_lt.mp q2)
/-- the model's state with the token behind p -/
abbrev MP (m : MS) (c : Nat → Nat) (n : Nat) (f : Nat → Int32) (p : Nat) : MS := mR m f (nI (tE c n p)) (-1) (tM c n p) (nI (tS c n p))
theorem m_goOn {K : MS → Prop} {m : MS} {f : Nat → Int32} {t s : Int32} {p : Nat} (T : TX (txt m) c n) (hl : ltr m = nI n) (hp : p ≤ n) (hK : K (MP m c n f p)) : V_X8_goOnReading K (mR m f (nI p) (-1) t s) := nt rfl (m_nxt T hl hp hK)
theorem m_goF {K : MS → Prop} {m : MS} {f : Nat → Int32} {a t s : Int32} {q : Nat} (hq : q < 2 ^ 31) (hK : K (mR m f a (nI q) t s)) : V_X8_goOnReading K (mR m f a (nI q) t s) := nf (nI_ne_m1 hq) hK
theorem m_must1 {K : MS → Prop} {u : MS} (hK : K u) : V_X8_must K u 1 := y1 hK
theorem m_must0 {K : MS → Prop} {m : MS} {f : Nat → Int32} {a t s : Int32} (hK : K (mR m f a s t s)) : V_X8_must K (mR m f a (-1) t s) 0 := y0 (nt rfl hK)
theorem m_mustF {K : MS → Prop} {m : MS} {f : Nat → Int32} {a t s x : Int32} {q : Nat} (hq : q < 2 ^ 31) (hK : K (mR m f a (nI q) t s)) : V_X8_must K (mR m f a (nI q) t s) x := ⟨fun _ => hK, fun _ => nf (nI_ne_m1 hq) hK⟩
theorem m_num {K : Int32 → MS → Prop} {m : MS} {f : Nat → Int32} {a b : Int32} {p : Nat} (T : TX (txt m) c n) (hl : ltr m = nI n) (hp : p ≤ n) (k1 : inR (tM c n p) a b → K (tM c n p) (MP m c n f (tE c n p))) (k0 : ¬ inR (tM c n p) a b → K (tM c n p) (mR m f (nI (tE c n p)) (nI (tS c n p)) (tM c n p) (nI (tS c n p)))) : V_X8_number K (MP m c n f p) a b := by
  obtain ⟨_, h1, h2, h3⟩ := tk_all T hp
  have n150 := T.1
  refine nt rfl ?_
  by_cases z : inR (tM c n p) a b
  · exact m_inR1 z (z1 (m_must1 (m_goOn T hl h3 (k1 z))))
  · exact m_inR0 z (z0 (m_must0 (m_goF (by omega) (k0 z))))
theorem m_numF {K : Int32 → MS → Prop} {m : MS} {f : Nat → Int32} {a t s x y : Int32} {q : Nat} (hq : q < 2 ^ 31) (hK : K t (mR m f a (nI q) t s)) : V_X8_number K (mR m f a (nI q) t s) x y := nf (nI_ne_m1 hq) (m_must1 (m_goF hq hK))
theorem m_end {K : MS → Prop} {m : MS} {f : Nat → Int32} {p : Nat} (T : TX (txt m) c n) (hl : ltr m = nI n) (hp : p ≤ n) (k1 : tM c n p = 200 → K (MP m c n f (tE c n p))) (k0 : ¬ tM c n p = 200 → K (mR m f (nI (tE c n p)) (nI (tS c n p)) (tM c n p) (nI (tS c n p)))) : V_X8_end K (MP m c n f p) := by
  obtain ⟨_, h1, h2, h3⟩ := tk_all T hp
  have n150 := T.1
  refine nt rfl ?_
  by_cases z : tM c n p = 200
  · exact nt z (m_must1 (m_goOn T hl h3 (k1 z)))
  · exact nf z (m_must0 (m_goF (by omega) (k0 z)))
theorem m_endF {K : MS → Prop} {m : MS} {f : Nat → Int32} {a t s : Int32} {q : Nat} (hq : q < 2 ^ 31) (hK : K (mR m f a (nI q) t s)) : V_X8_end K (mR m f a (nI q) t s) := nf (nI_ne_m1 hq) (m_must1 (m_goF hq hK))
end
/-! the hall that is being read -/
def RQ (h : HS) (f : Nat → Int32) : Prop := RC h f ∧ vp_in (hco h) (2 ^ 30) ∧ (∀ j, 30 ≤ j → j < 171 → f j = 0) ∧ (hsg h).2 = 0 ∧ (hnt h).2 = 0 ∧ (hmk h).2 = 0 ∧ (hpa h).2 = 0
theorem RQ.rh {h : HS} {f : Nat → Int32} (q : RQ h f) (hm : vp_in (hmi h) 10000) : RH h f := by
  obtain ⟨q1, q2, q3, q4, q5, q6, q7⟩ := q
  refine ⟨q1, q2, hm, ⟨0, by omega, q4, q3 30 (by omega) (by omega), fun j hj => absurd hj (by omega)⟩, ⟨0, by omega, q5, q3 46 (by omega) (by omega), fun j hj => absurd hj (by omega)⟩, fun n e hn6 j hj => ?_, ⟨0, by omega, q6, q3 65 (by omega) (by omega), fun j hj => absurd hj (by omega)⟩, RP.zero q7 (q3 90 (by omega) (by omega))⟩
  have : n = 0 := ((nI_eq (a := 0) (b := n) (by omega) (by omega)).mp (q5.symm.trans e)).symm
  omega
def addH (h : HS) (a b : Int32) : HS := (h.1, upd h.2.1 (HN h) a, upd h.2.2.1 (HN h) b, upd h.2.2.2.1 (HN h) (-1), nI (HN h + 1), h.2.2.2.2.2)
def comeF (f : Nat → Int32) (k : Nat) (a b : Int32) : Nat → Int32 := upd (upd (upd (upd f (9 + 3 * k) a) (10 + 3 * k) b) (11 + 3 * k) 0) 8 (nI (k + 1))
def coatH (h : HS) (c : Int32) : HS := (h.1, h.2.1, h.2.2.1, h.2.2.2.1, h.2.2.2.2.1, h.2.2.2.2.2.1 ||| (1 <<< (c &&& 31)), h.2.2.2.2.2.2)
def coatF (f : Nat → Int32) (c : Int32) : Nat → Int32 := upd f 5 (f 5 ||| (1 <<< (c &&& 31)))
def minH (h : HS) (v : Int32) : HS := (h.1, h.2.1, h.2.2.1, h.2.2.2.1, h.2.2.2.2.1, h.2.2.2.2.2.1, (if h.2.2.2.2.2.2.1 + v < 9999 then h.2.2.2.2.2.2.1 + v else 9999), h.2.2.2.2.2.2.2)
def minF (f : Nat → Int32) (v : Int32) : Nat → Int32 := upd f 6 (f 6 + v)
def rowH (h : HS) (r : Nat) (v : Int32) : HS := (upd h.1 r v, h.2)
theorem RQ.add {h : HS} {f : Nat → Int32} {a b : Int32} (q : RQ h f) (hn : HN h < 7) (ha : vp_in a 6) (hb : vp_in b 30) (hm : vp_in (hmi h) 10000) : RQ (addH h a b) (comeF f (HN h) a b) := by
  have hH := RH.come (q.rh hm) rfl hn ha hb
  obtain ⟨q1, q2, q3, q4, q5, q6, q7⟩ := q
  refine ⟨hH.1.same (fun j hj => ?_) rfl rfl rfl rfl rfl rfl rfl rfl, q2, fun j h1 h2 => ?_, q4, q5, q6, q7⟩
  · unfold comeF; rw [upd_ne (k := 90) (by omega)]
  · unfold comeF
    rw [upd_ne (by omega), upd_ne (by omega), upd_ne (by omega), upd_ne (by omega)]
    exact q3 j h1 h2
theorem RQ.coat {h : HS} {f : Nat → Int32} {c : Int32} (q : RQ h f) (hc : vp_in c 30) : RQ (coatH h c) (coatF f c) := by
  obtain ⟨⟨a1, a2, a3, a4, a5, a6, a7, a8⟩, q2, q3, q4, q5, q6, q7⟩ := q
  have e : ∀ j, ¬ j = 5 → coatF f c j = f j := fun j hj => by unfold coatF; exact upd_ne hj
  have l7 := a1.2
  refine ⟨⟨a1, by rw [e 8 (by omega)]; exact a2, fun r hr => by rw [e r (by omega)]; exact a3 r hr, ?_, by rw [e 6 (by omega)]; exact a5, by rw [e 7 (by omega)]; exact a6, fun i hi => ?_, a8⟩, ?_, fun j h1 h2 => by rw [e j (by omega)]; exact q3 j h1 h2, q4, q5, q6, q7⟩
  · unfold coatF
    rw [upd_eq, ← a4]; rfl
  · have hi : i < HN h := hi
    rw [e _ (by omega), e _ (by omega), e _ (by omega)]; exact a7 i hi
  · show vp_in (hco h ||| (1 <<< (c &&& 31))) (2 ^ 30)
    obtain ⟨x, hx, ex⟩ := vp_in_of q2 (by decide)
    obtain ⟨j, hj, rfl⟩ := vp_in_of hc (by decide)
    rw [ex, bit_at j hj, nI_or]
    refine vp_in_nI (Nat.or_lt_two_pow hx ?_) (by decide)
    exact Nat.pow_lt_pow_right (by decide) hj
theorem RQ.go {h : HS} {f : Nat → Int32} {i : Nat} {c : Int32} (q : RQ h f) (hi : i < HN h) (hc : c = -1 ∨ (vp_in c 30 ∧ ∀ j, j < HN h → ¬ hce h j = c)) (x : Int32) : RQ (settleH (setCe h (nI i) c) x) (rowGo f i c x) := by
  obtain ⟨q1, q2, q3, q4, q5, q6, q7⟩ := q
  have l7 := q1.1.2
  refine ⟨q1.go hi hc x, q2, fun j h1 h2 => ?_, q4, q5, q6, q7⟩
  unfold rowGo
  rw [upd_ne (by omega), upd_ne (by omega), upd_ne (by omega)]
  exact q3 j h1 h2
theorem RQ.min {h : HS} {f : Nat → Int32} {t v : Nat} (q : RQ h f) (ht : hmi h = nI t) (hv : t + v < 9999) : RQ (minH h (nI v)) (minF f (nI v)) ∧ hmi (minH h (nI v)) = nI (t + v) := by
  obtain ⟨⟨a1, a2, a3, a4, a5, a6, a7, a8⟩, q2, q3, q4, q5, q6, q7⟩ := q
  have e : ∀ j, ¬ j = 6 → minF f (nI v) j = f j := fun j hj => by unfold minF; exact upd_ne hj
  have l7 := a1.2
  have em : hmi (minH h (nI v)) = nI (t + v) := by
    show (if hmi h + nI v < 9999 then hmi h + nI v else 9999) = _
    rw [ht, nI_add]
    exact if_pos (nI_lt (b := 9999) hv (by decide))
  refine ⟨⟨⟨a1, by rw [e 8 (by omega)]; exact a2, fun r hr => by rw [e r (by omega)]; exact a3 r hr, by rw [e 5 (by omega)]; exact a4, ?_, by rw [e 7 (by omega)]; exact a6, fun i hi => ?_, a8⟩, q2, fun j h1 h2 => by rw [e j (by omega)]; exact q3 j h1 h2, q4, q5, q6, q7⟩, em⟩
  · rw [em]
    unfold minF
    rw [upd_eq, ← a5, ht, nI_add]
  · have hi : i < HN h := hi
    rw [e _ (by omega), e _ (by omega), e _ (by omega)]; exact a7 i hi
theorem RQ.row {h : HS} {f : Nat → Int32} {r : Nat} {v : Int32} (q : RQ h f) (hr : r < 5) (hv : vp_in v 6) : RQ (rowH h r v) (upd f r v) := by
  obtain ⟨⟨a1, a2, a3, a4, a5, a6, a7, a8⟩, q2, q3, q4, q5, q6, q7⟩ := q
  have e : ∀ j, 5 ≤ j → upd f r v j = f j := fun j hj => upd_ne (by omega)
  have l7 := a1.2
  refine ⟨⟨a1, by rw [e 8 (by omega)]; exact a2, fun j hj => ?_, by rw [e 5 (by omega)]; exact a4, by rw [e 6 (by omega)]; exact a5, by rw [e 7 (by omega)]; exact a6, fun i hi => ?_, a8⟩, q2, fun j h1 h2 => by rw [e j (by omega)]; exact q3 j h1 h2, q4, q5, q6, q7⟩
  · show upd h.1 r v j = _ ∧ _
    by_cases z : j = r
    · subst z; rw [upd_eq, upd_eq]; exact ⟨rfl, hv⟩
    · rw [upd_ne z, upd_ne z]; exact a3 j hj
  · have hi : i < HN h := hi
    rw [e _ (by omega), e _ (by omega), e _ (by omega)]; exact a7 i hi
