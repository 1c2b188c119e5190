/-! ===== the model's tokens; words ===== -/
def mR (m : MS) (f : Nat → Int32) (a fl t s : Int32) : MS := (m.1, f, m.2.2.1, m.2.2.2.1, m.2.2.2.2.1, m.2.2.2.2.2.1, m.2.2.2.2.2.2.1, m.2.2.2.2.2.2.2.1, m.2.2.2.2.2.2.2.2.1, a, fl, t, s, m.2.2.2.2.2.2.2.2.2.2.2.2.2)
abbrev txt (m : MS) : Nat → Int32 := m.2.2.2.2.2.2.2.1
abbrev ltr (m : MS) : Int32 := m.2.2.2.2.2.2.2.2.1
theorem Rel.mR {u : US} {m : MS} (h : Rel u m) (f : Nat → Int32) (a fl t s : Int32) : Rel u (mR m f a fl t s) := h
section
variable {c : Nat → Nat} {n : Nat} {m : MS} {f : Nat → Int32}
theorem m_51 {K : Int32 → Prop} {a fl t : Int32} {q e v : Nat} (hq : q ≤ e) (he : e ≤ 150) (hv : v < 2 ^ 60) (k : K (if e - q ≤ 7 then wT v else 300)) : V_X8_wordBy_51 K (mR m f a fl t (nI q)) (nI e) (lN v) := by
  have cmp : ∀ x : Nat, x < 2 ^ 60 → (lg_cmp (lN v) (lN x) = 0 ↔ v = x) := fun x hx => by rw [lg_cmp_eq, pk_lEQ (by omega) (by omega)]
  show (nI e - nI q ≤ 7 → _) ∧ (¬ nI e - nI q ≤ 7 → _)
  rw [pk_sub hq]
  by_cases z : e - q ≤ 7
  · rw [if_pos z] at k
    refine bt (nI_le (b := 7) z (by omega)) ?_
    unfold wT at k
    by_cases z1 : v = 263564
    · rw [if_pos z1] at k; exact nt ((cmp 263564 (by decide)).mpr z1) k
    · rw [if_neg z1] at k
      refine nf (fun y => z1 ((cmp 263564 (by decide)).mp y)) ?_
      by_cases z2 : v = 638636
      · rw [if_pos z2] at k; exact nt ((cmp 638636 (by decide)).mpr z2) k
      · rw [if_neg z2] at k
        refine nf (fun y => z2 ((cmp 638636 (by decide)).mp y)) ?_
        by_cases z3 : v = 113716
        · rw [if_pos z3] at k; exact nt ((cmp 113716 (by decide)).mpr z3) k
        · rw [if_neg z3] at k
          refine nf (fun y => z3 ((cmp 113716 (by decide)).mp y)) ?_
          by_cases z4 : v = 19764
          · rw [if_pos z4] at k; exact nt ((cmp 19764 (by decide)).mpr z4) k
          · rw [if_neg z4] at k
            refine nf (fun y => z4 ((cmp 19764 (by decide)).mp y)) ?_
            by_cases z5 : v = 16052
            · rw [if_pos z5] at k; exact nt ((cmp 16052 (by decide)).mpr z5) k
            · rw [if_neg z5] at k
              refine nf (fun y => z5 ((cmp 16052 (by decide)).mp y)) ?_
              by_cases z6 : v = 14276022451
              · rw [if_pos z6] at k; exact nt ((cmp 14276022451 (by decide)).mpr z6) k
              · rw [if_neg z6] at k
                exact nf (fun y => z6 ((cmp 14276022451 (by decide)).mp y)) k
  · rw [if_neg z] at k
    exact bf (nI_ge (b := e - q) (a := 7) (by omega) (by omega)) k
theorem iL_of {x : Nat} (h : iL x = true) : 97 ≤ x ∧ x ≤ 122 := by simpa [iL] using h
theorem ml_word {K : Int32 → Prop} {a fl t : Int32} {q e : Nat} (T : TX (txt m) c n) (hq : q ≤ e) (he : e ≤ n) (hL : ∀ j, q ≤ j → j < e → iL (c j) = true) : ∀ (k j v d : Nat), ((j + k = e ∧ e ≤ q + 7) ∨ (j + k = q + 7 ∧ q + 7 ≤ e)) → q ≤ j → j - q = d → d ≤ 7 → v < 2 ^ (5 * d) → K (if e - q ≤ 7 then wT (ec c k j v) else 300) → V_X8_wordBy_8 K (k + 1) (mR m f a fl t (nI q)) (nI e) (lN v) (nI j)
  | 0, j, v, d, hj, hqj, hd, hd7, hv, hK => by
    have n150 := T.1
    have v60 : v < 2 ^ 60 := Nat.lt_of_lt_of_le hv (Nat.pow_le_pow_right (by decide) (by omega))
    by_cases z : e ≤ j
    · exact bt (nI_le z (by omega)) (m_51 hq (by omega) v60 hK)
    · refine bf (nI_ge (by omega) (by omega)) ?_
      show (nI q + 7 ≤ nI j → _) ∧ (¬ nI q + 7 ≤ nI j → _)
      rw [show nI q + 7 = nI (q + 7) from nI_add q 7]
      exact bt (nI_le (by omega) (by omega)) (m_51 hq (by omega) v60 hK)
  | k + 1, j, v, d, hj, hqj, hd, hd7, hv, hK => by
    have n150 := T.1
    have lt : j < e := by omega
    have lt7 : j < q + 7 ∨ e ≤ j := by omega
    obtain ⟨e1, e2⟩ := T.2 j (by omega)
    have l := iL_of (hL j hqj lt)
    refine bf (nI_ge lt (by omega)) ?_
    show (nI q + 7 ≤ nI j → _) ∧ (¬ nI q + 7 ≤ nI j → vp_in (nI j) 150 ∧ V_X8_wordBy_8 K (k + 1) (mR m f a fl t (nI q)) (nI e) (((32 * lN v) + (txt m (nI j).toNatClampNeg).toInt64) - 96) (nI j + 1))
    rw [show nI q + 7 = nI (q + 7) from nI_add q 7]
    have v60 : v < 2 ^ 60 := Nat.lt_of_lt_of_le hv (Nat.pow_le_pow_right (by decide) (by omega))
    by_cases z : q + 7 ≤ j
    · exfalso; omega
    · refine bf (nI_ge (by omega) (by omega)) ⟨vp_in_nI (by omega) (by decide), ?_⟩
      rw [nI_clamp (by omega), e1, nI_l (by omega), nI_1]
      have ev : (32 : Int64) * lN v + lN (c j) - 96 = lN (32 * v + (c j - 96)) := by
        show lN 32 * lN v + lN (c j) - lN 96 = _
        rw [lN_mul, lN_add, lN_sub (by omega)]
        congr 1; omega
      rw [ev]
      have p5 : 2 ^ (5 * (d + 1)) = 32 * 2 ^ (5 * d) := by rw [show 5 * (d + 1) = 5 + 5 * d by omega, Nat.pow_add]
      exact ml_word T hq he hL k (j + 1) _ (d + 1) (by omega) (by omega) (by omega) (by omega) (by omega) hK
theorem m_word {K : Int32 → Prop} {a fl t : Int32} {q e : Nat} (T : TX (txt m) c n) (hq : q ≤ e) (he : e ≤ n) (hL : ∀ j, q ≤ j → j < e → iL (c j) = true) (hK : K (wordT c q e)) : V_X8_wordBy K (mR m f a fl t (nI q)) (nI e) := by
  unfold wordT at hK
  by_cases z : e - q ≤ 7
  · refine ⟨e - q + 1, ml_word T hq he hL (e - q) q 0 0 (Or.inl ⟨by omega, by omega⟩) (Nat.le_refl q) (Nat.sub_self q) (by omega) (by decide) ?_⟩
    exact hK
  · refine ⟨7 + 1, ml_word T hq he hL 7 q 0 0 (Or.inr ⟨rfl, by omega⟩) (Nat.le_refl q) (Nat.sub_self q) (by omega) (by decide) ?_⟩
    rw [if_neg z] at hK ⊢
    exact hK
theorem ml_fig2 {K : MS → Prop} {fl : Int32} {q : Nat} (T : TX (txt m) c n) (hl : ltr m = nI n) : ∀ (k a : Nat) (t : Int32), a + k = n → q + 2 ≤ a → K (mR m f (nI (rn (fun j => iF (c j)) k a)) fl (if rn (fun j => iF (c j)) k a = a then t else 300) (nI q)) → V_X8_next_98 K (k + 1) (mR m f (nI a) fl t (nI q))
  | 0, a, t, ha, hq, hK => by
    rw [rn, if_pos rfl] at hK
    exact bt (by show ltr m ≤ nI a; rw [hl]; exact nI_le (by omega) (by have := T.1; omega)) hK
  | k + 1, a, t, ha, hq, hK => by
    have n150 := T.1
    obtain ⟨e1, e2⟩ := T.2 a (by omega)
    refine bf (by show ¬ ltr m ≤ nI a; rw [hl]; exact nI_ge (by omega) (by omega)) ⟨vp_in_nI (by omega) (by decide), ?_⟩
    show V_X8_isFigure _ (txt m (nI a).toNatClampNeg)
    rw [nI_clamp (by omega), e1]
    refine m_isF e2 ?_
    rw [rn] at hK
    by_cases z : iF (c a) = true
    · rw [if_pos z] at hK
      rw [z]
      refine z1 ?_
      have g := rn_ge (P := fun j => iF (c j)) k (a + 1)
      show (¬ nI a = nI q + 1 → V_X8_next_98 K (k + 1) (mR m f (nI a + 1) fl 300 (nI q))) ∧ (nI a = nI q + 1 → _)
      rw [nI_1, nI_1]
      refine nf (fun y => ?_) (ml_fig2 T hl k (a + 1) 300 (by omega) (by omega) ?_)
      · have := (nI_eq (by omega) (by omega)).mp y; omega
      · rw [if_neg (by omega)] at hK
        have e3 : (if rn (fun j => iF (c j)) k (a + 1) = a + 1 then (300 : Int32) else 300) = 300 := by split <;> rfl
        rw [e3]; exact hK
    · rw [if_neg z, if_pos rfl] at hK
      rw [show iF (c a) = false by simpa using z]
      exact z0 hK
theorem m_fig {K : MS → Prop} {fl : Int32} {q : Nat} (T : TX (txt m) c n) (hl : ltr m = nI n) (hq : q < n) (hf : iF (c q) = true) (hK : K (mR m f (nI (rn (fun j => iF (c j)) (n - q) q)) fl (numT c q (rn (fun j => iF (c j)) (n - q) q)) (nI q))) : ∃ k, V_X8_next_98 K k (mR m f (nI (q + 1)) fl (nI (c q - 48)) (nI q)) := by
  have n150 := T.1
  have e0 : rn (fun j => iF (c j)) (n - q) q = rn (fun j => iF (c j)) (n - (q + 1)) (q + 1) := by
    rw [show n - q = (n - (q + 1)) + 1 by omega, rn, if_pos hf]
  rw [e0] at hK
  unfold numT at hK
  refine ⟨n - (q + 1) + 1, ?_⟩
  cases hk : n - (q + 1) with
  | zero =>
    rw [hk, rn, if_pos (by omega)] at hK
    exact bt (by show ltr m ≤ nI (q + 1); rw [hl]; exact nI_le (by omega) (by omega)) hK
  | succ k =>
    obtain ⟨e1, e2⟩ := T.2 (q + 1) (by omega)
    rw [hk] at hK
    refine bf (by show ¬ ltr m ≤ nI (q + 1); rw [hl]; exact nI_ge (by omega) (by omega)) ⟨vp_in_nI (by omega) (by decide), ?_⟩
    show V_X8_isFigure _ (txt m (nI (q + 1)).toNatClampNeg)
    rw [nI_clamp (by omega), e1]
    refine m_isF e2 ?_
    rw [rn] at hK
    by_cases z : iF (c (q + 1)) = true
    · rw [if_pos z] at hK
      rw [z]
      refine z1 ?_
      have g := rn_ge (P := fun j => iF (c j)) k (q + 1 + 1)
      show (¬ nI (q + 1) = nI q + 1 → _) ∧ (nI (q + 1) = nI q + 1 → vp_in (nI (q + 1)) 150 ∧ V_X8_next_98 K (k + 1) (mR m f (nI (q + 1) + 1) fl ((10 * nI (c q - 48)) + txt m (nI (q + 1)).toNatClampNeg - 48) (nI q)))
      rw [nI_clamp (by omega), e1, nI_1, nI_1, fig_sub z]
      refine nt rfl ⟨vp_in_nI (by omega) (by decide), ml_fig2 T hl k (q + 1 + 1) _ (by omega) (by omega) ?_⟩
      rw [if_neg (by omega)] at hK
      by_cases y : rn (fun j => iF (c j)) k (q + 1 + 1) = q + 1 + 1
      · rw [if_pos (by omega)] at hK
        rw [if_pos y]; exact hK
      · rw [if_neg (by omega)] at hK
        rw [if_neg y]; exact hK
    · rw [if_neg z, if_pos (by omega)] at hK
      rw [show iF (c (q + 1)) = false by simpa using z]
      exact z0 hK
theorem ml_let {K : MS → Prop} {fl t : Int32} {q : Nat} (T : TX (txt m) c n) (hl : ltr m = nI n) : ∀ (k a : Nat), a + k = n → q ≤ a → (∀ j, q ≤ j → j < a → iL (c j) = true) → K (mR m f (nI (rn (fun j => iL (c j)) k a)) fl (wordT c q (rn (fun j => iL (c j)) k a)) (nI q)) → V_X8_next_187 K (k + 1) (mR m f (nI a) fl t (nI q))
  | 0, a, ha, hq, hL, hK => by
    refine bt (by show ltr m ≤ nI a; rw [hl]; exact nI_le (by omega) (by have := T.1; omega)) ?_
    show V_X8_wordBy _ (mR m f (nI a) fl t (nI q)) (nI a)
    exact m_word T hq (by omega) hL hK
  | k + 1, a, ha, hq, hL, hK => by
    have n150 := T.1
    obtain ⟨e1, e2⟩ := T.2 a (by omega)
    refine bf (by show ¬ ltr m ≤ nI a; rw [hl]; exact nI_ge (by omega) (by omega)) ⟨vp_in_nI (by omega) (by decide), ?_⟩
    show V_X8_isLetter _ (txt m (nI a).toNatClampNeg)
    rw [nI_clamp (by omega), e1]
    refine m_isL e2 ?_
    rw [rn] at hK
    by_cases z : iL (c a) = true
    · rw [if_pos z] at hK
      rw [z]
      refine z1 ?_
      show V_X8_next_187 K (k + 1) (mR m f (nI a + 1) fl t (nI q))
      rw [nI_1]
      refine ml_let T hl k (a + 1) (by omega) (by omega) (fun j h1 h2 => ?_) hK
      by_cases y : j = a
      · subst y; exact z
      · exact hL j h1 (by omega)
    · rw [if_neg z] at hK
      rw [show iL (c a) = false by simpa using z]
      refine z0 ?_
      show V_X8_wordBy _ (mR m f (nI a) fl t (nI q)) (nI a)
      exact m_word T hq (by omega) hL hK
theorem m_38 {K : MS → Prop} {fl t s : Int32} {q : Nat} (T : TX (txt m) c n) (hl : ltr m = nI n) (hq : q ≤ n) (hK : K (mR m f (nI (tEq c n q)) fl (tMq c n q) (nI q))) : V_X8_next_38 K (mR m f (nI q) fl t s) := by
  have n150 := T.1
  unfold tMq at hK
  show (¬ nI q = ltr m → _) ∧ (nI q = ltr m → K (mR m f (nI q) fl (-1) (nI q)))
  rw [hl]
  by_cases z : n ≤ q
  · rw [if_pos z] at hK
    have eE : tEq c n q = q := by unfold tEq; rw [if_pos z]
    rw [eE] at hK
    exact nt (by rw [show q = n by omega]) hK
  · rw [if_neg z] at hK
    obtain ⟨e1, e2⟩ := T.2 q (by omega)
    refine nf (fun y => ?_) ⟨vp_in_nI (by omega) (by decide), ?_⟩
    · have := (nI_eq (by omega) (by omega)).mp y; omega
    show V_X8_isFigure _ (txt m (nI q).toNatClampNeg)
    rw [nI_clamp (by omega), e1]
    refine m_isF e2 ?_
    by_cases zf : iF (c q) = true
    · rw [if_pos zf] at hK
      rw [zf]
      refine z1 ?_
      have nl : ¬ iL (c q) = true := by
        intro y
        have y1 := iL_of y
        have y2 : 48 ≤ c q ∧ c q ≤ 57 := by simpa [iF] using zf
        omega
      have eE : tEq c n q = rn (fun j => iF (c j)) (n - q) q := by unfold tEq; rw [if_neg z, if_neg nl, if_pos zf]
      rw [eE] at hK
      show ∃ k, V_X8_next_98 K k (mR m f (nI q + 1) fl (txt m (nI q).toNatClampNeg - 48) (nI q))
      have y2 : 48 ≤ c q ∧ c q ≤ 57 := by simpa [iF] using zf
      rw [nI_clamp (by omega), e1, nI_1, show nI (c q) - 48 = nI (c q - 48) from pk_sub (b := 48) y2.1]
      exact m_fig T hl (by omega) zf hK
    · rw [if_neg zf] at hK
      rw [show iF (c q) = false by simpa using zf]
      refine z0 ?_
      show V_X8_isLetter _ (txt m (nI q).toNatClampNeg)
      rw [nI_clamp (by omega), e1]
      refine m_isL e2 ?_
      by_cases zl : iL (c q) = true
      · rw [if_pos zl] at hK
        rw [zl]
        refine z1 ⟨n - (q + 1) + 1, ?_⟩
        show V_X8_next_187 K _ (mR m f (nI q + 1) fl t (nI q))
        rw [nI_1]
        have eE : tEq c n q = rn (fun j => iL (c j)) (n - (q + 1)) (q + 1) := by
          unfold tEq
          rw [if_neg z, if_pos zl, show n - q = (n - (q + 1)) + 1 by omega, rn, if_pos zl]
        rw [eE] at hK
        refine ml_let T hl (n - (q + 1)) (q + 1) (by omega) (by omega) (fun j h1 h2 => ?_) hK
        have : j = q := by omega
        subst this; exact zl
      · rw [if_neg zl] at hK
        rw [show iL (c q) = false by simpa using zl]
        have eE : tEq c n q = q + 1 := by unfold tEq; rw [if_neg z, if_neg zl, if_neg zf]
        rw [eE] at hK
        refine z0 ?_
        show (¬ txt m (nI q).toNatClampNeg = 59 → V_X8_next_257 K (mR m f (nI q + 1) fl t (nI q)) 300) ∧ (txt m (nI q).toNatClampNeg = 59 → V_X8_next_257 K (mR m f (nI q + 1) fl t (nI q)) 200)
        rw [nI_clamp (by omega), e1, nI_1]
        by_cases z59 : c q = 59
        · rw [if_pos z59] at hK
          exact nt (by rw [z59]; rfl) hK
        · rw [if_neg z59] at hK
          exact nf (fun w => z59 ((nI_eq (b := 59) (by omega) (by decide)).mp w)) hK
theorem ml_skip {K : MS → Prop} {fl t s : Int32} (T : TX (txt m) c n) (hl : ltr m = nI n) : ∀ (k a : Nat), a + k = n → V_X8_next_38 K (mR m f (nI (rn (fun j => decide (c j = 32)) k a)) fl t s) → V_X8_next_0 K (k + 1) (mR m f (nI a) fl t s)
  | 0, a, ha, hK => bt (by show ltr m ≤ nI a; rw [hl]; exact nI_le (by omega) (by have := T.1; omega)) hK
  | k + 1, a, ha, hK => by
    have n150 := T.1
    obtain ⟨e1, e2⟩ := T.2 a (by omega)
    refine bf (by show ¬ ltr m ≤ nI a; rw [hl]; exact nI_ge (by omega) (by omega)) ⟨vp_in_nI (by omega) (by decide), ?_⟩
    show (¬ txt m (nI a).toNatClampNeg = 32 → _) ∧ (txt m (nI a).toNatClampNeg = 32 → V_X8_next_0 K (k + 1) (mR m f (nI a + 1) fl t s))
    rw [nI_clamp (by omega), e1, nI_1]
    rw [rn] at hK
    by_cases z : c a = 32
    · rw [if_pos (by simpa using z)] at hK
      exact nt (by rw [z]; rfl) (ml_skip T hl k (a + 1) (by omega) hK)
    · rw [if_neg (by simpa using z)] at hK
      exact nf (fun w => z ((nI_eq (b := 32) (by omega) (by decide)).mp w)) hK
theorem m_nxt {K : MS → Prop} {fl t s : Int32} {p : Nat} (T : TX (txt m) c n) (hl : ltr m = nI n) (hp : p ≤ n) (hK : K (mR m f (nI (tE c n p)) fl (tM c n p) (nI (tS c n p)))) : V_X8_next K (mR m f (nI p) fl t s) := ⟨n - p + 1, ml_skip T hl (n - p) p (by omega) (m_38 T hl (tS_ge hp).2 hK)⟩
end
/- words -/
theorem ec_last {c : Nat → Nat} : ∀ (k q v : Nat), ec c (k + 1) q v = 32 * ec c k q v + (c (q + k) - 96)
  | 0, q, v => rfl
  | k + 1, q, v => by
    rw [ec, ec_last k (q + 1), ec, show q + 1 + k = q + (k + 1) by omega]
theorem ec_inj {c w : Nat → Nat} {q : Nat} : ∀ (k L : Nat), (∀ j, j < k → 97 ≤ c (q + j) ∧ c (q + j) ≤ 122) → (∀ j, j < L → 97 ≤ w j ∧ w j ≤ 122) → (ec c k q 0 = ec w L 0 0 ↔ k = L ∧ ∀ j, j < k → c (q + j) = w j)
  | 0, 0, _, _ => ⟨fun _ => ⟨rfl, fun j hj => absurd hj (by omega)⟩, fun _ => rfl⟩
  | 0, L + 1, _, h2 => by
    rw [ec_last]
    have := h2 L (by omega)
    rw [Nat.zero_add]
    refine ⟨fun h => ?_, fun h => absurd h.1 (by omega)⟩
    have h : 0 = 32 * ec w L 0 0 + (w L - 96) := h
    omega
  | k + 1, 0, h1, _ => by
    rw [ec_last]
    have := h1 k (by omega)
    refine ⟨fun h => ?_, fun h => absurd h.1 (by omega)⟩
    have h : 32 * ec c k q 0 + (c (q + k) - 96) = 0 := h
    omega
  | k + 1, L + 1, h1, h2 => by
    rw [ec_last, ec_last, Nat.zero_add]
    have a1 := h1 k (by omega)
    have a2 := h2 L (by omega)
    have ih := ec_inj (q := q) k L (fun j hj => h1 j (by omega)) (fun j hj => h2 j (by omega))
    refine ⟨fun h => ?_, fun h => ?_⟩
    · have e1 : ec c k q 0 = ec w L 0 0 := by omega
      have e2 : c (q + k) = w L := by omega
      obtain ⟨b1, b2⟩ := ih.mp e1
      refine ⟨by omega, fun j hj => ?_⟩
      by_cases z : j = k
      · subst z; rw [e2, b1]
      · exact b2 j (by omega)
    · have kL : k = L := by omega
      have e1 := ih.mpr ⟨kL, fun j hj => h.2 j (by omega)⟩
      have e2 := h.2 k (by omega)
      rw [e1, e2, kL]
def wd (w j : Nat) : Nat := (bx_ch w (nI j)).toNatClampNeg
def wL (w : Nat) : Nat := bx_sl.getD w 0
def cw (w : Nat) : Nat := [263564, 638636, 113716, 19764, 16052, 14276022451].getD w 0
theorem wd_dec : ∀ w : Nat, w < 6 → wL w ≤ 7 ∧ 0 < wL w ∧ ec (wd w) (wL w) 0 0 = cw w ∧ ∀ j : Nat, j < wL w → (97 ≤ wd w j ∧ wd w j ≤ 122) ∧ bx_ch w (nI j) = nI (wd w j) := by decide +kernel
theorem wT_iff {v w : Nat} (hw : w < 6) : wT v = nI (100 + w) ↔ v = cw w := by
  have : w = 0 ∨ w = 1 ∨ w = 2 ∨ w = 3 ∨ w = 4 ∨ w = 5 := by omega
  rcases this with rfl | rfl | rfl | rfl | rfl | rfl
  all_goals
    refine ⟨fun h => ?_, fun h => ?_⟩
    · unfold wT at h
      repeat' (split at h)
      all_goals first | assumption | exact absurd h (by decide)
    · rw [h]; decide
theorem word_iff {c : Nat → Nat} {q e w : Nat} (hw : w < 6) (hL : ∀ j, q ≤ j → j < e → iL (c j) = true) : wordT c q e = nI (100 + w) ↔ (e - q = wL w ∧ ∀ j, j < wL w → c (q + j) = wd w j) := by
  obtain ⟨d1, d2, d3, d4⟩ := wd_dec w hw
  have key := ec_inj (c := c) (w := wd w) (q := q) (e - q) (wL w) (fun j hj => iL_of (hL (q + j) (by omega) (by omega))) (fun j hj => (d4 j hj).1)
  unfold wordT
  by_cases z : e - q ≤ 7
  · rw [if_pos z, wT_iff hw, ← d3, key]
    exact ⟨fun h => ⟨h.1, fun j hj => h.2 j (by omega)⟩, fun h => ⟨h.1, fun j hj => h.2 j (by omega)⟩⟩
  · rw [if_neg z]
    refine ⟨fun h => ?_, fun h => absurd h.1 (by omega)⟩
    have : w = 0 ∨ w = 1 ∨ w = 2 ∨ w = 3 ∨ w = 4 ∨ w = 5 := by omega
    rcases this with rfl | rfl | rfl | rfl | rfl | rfl <;> exact absurd h (by decide)
theorem l_spell {K : Int32 → Prop} {c : Nat → Nat} {n q e w : Nat} {X : Nat → Int32} {h : HS} {tk v : Int32} (T : TX X c n) (hw : w < 6) (hqe : q + wL w = e) (he : e ≤ n) : ∀ (k j : Nat), j + k = wL w → K (b01 (allF (fun j => decide (c (q + j) = wd w j)) k j)) → V_X6_spells_20 w K (k + 1) (h, X, nI n, tk, nI q, nI e, v) (nI j)
  | 0, j, hj, hK => bt (by show nI (wL w) ≤ nI j; exact nI_le (by omega) (by have := (wd_dec w hw).1; omega)) hK
  | k + 1, j, hj, hK => by
    have n150 := T.1
    obtain ⟨d1, d2, d3, d4⟩ := wd_dec w hw
    obtain ⟨e1, e2⟩ := T.2 (q + j) (by omega)
    obtain ⟨d5, d6⟩ := d4 j (by omega)
    refine bf (by show ¬ nI (wL w) ≤ nI j; exact nI_ge (by omega) (by omega)) ?_
    show vp_in (nI q + nI j) 150 ∧ vp_in (nI j) (wL w) ∧ (X (nI q + nI j).toNatClampNeg = bx_ch w (nI j) → V_X6_spells_20 w K (k + 1) (h, X, nI n, tk, nI q, nI e, v) (nI j + 1)) ∧ (¬ X (nI q + nI j).toNatClampNeg = bx_ch w (nI j) → K 0)
    rw [nI_add, nI_clamp (by omega), e1, d6, nI_1]
    refine ⟨vp_in_nI (by omega) (by decide), vp_in_nI (by omega) (by omega), ?_⟩
    rw [allF] at hK
    by_cases z : c (q + j) = wd w j
    · rw [show decide (c (q + j) = wd w j) = true by simpa using z, Bool.true_and] at hK
      exact bt (by rw [z]) (l_spell T hw hqe he k (j + 1) (by omega) hK)
    · rw [show decide (c (q + j) = wd w j) = false by simpa using z, Bool.false_and] at hK
      exact bf (fun y => z ((nI_eq (by omega) (by omega)).mp y)) hK
theorem r_spell {K : Int32 → Prop} {c : Nat → Nat} {n q e w : Nat} {X : Nat → Int32} {h : HS} {tk v : Int32} (T : TX X c n) (hw : w < 6) (hq : q ≤ e) (he : e ≤ n) (hL : ∀ j, q ≤ j → j < e → iL (c j) = true) (hK : K (b01 (decide (wordT c q e = nI (100 + w))))) : V_X6_spells w K (h, X, nI n, tk, nI q, nI e, v) := by
  have n150 := T.1
  have iff := word_iff (c := c) hw hL
  obtain ⟨d1, d2, d3, d4⟩ := wd_dec w hw
  show (nI e - nI q = nI (wL w) → _) ∧ (¬ nI e - nI q = nI (wL w) → K 0)
  rw [pk_sub hq]
  by_cases z : e - q = wL w
  · refine bt (by rw [z]) ⟨wL w + 1, l_spell T hw (by omega) he (wL w) 0 (by omega) ?_⟩
    have eB : allF (fun j => decide (c (q + j) = wd w j)) (wL w) 0 = decide (wordT c q e = nI (100 + w)) := by
      by_cases y : wordT c q e = nI (100 + w)
      · rw [show decide (wordT c q e = nI (100 + w)) = true by simpa using y]
        exact (allF_spec _ _).mpr (fun j _ hj => by simpa using (iff.mp y).2 j (by omega))
      · rw [show decide (wordT c q e = nI (100 + w)) = false by simpa using y]
        cases hb : allF (fun j => decide (c (q + j) = wd w j)) (wL w) 0 with
        | false => rfl
        | true =>
          exfalso
          exact y (iff.mpr ⟨z, fun j hj => by simpa using (allF_spec _ _).mp hb j (by omega) (by omega)⟩)
    rw [eB]; exact hK
  · have y : ¬ wordT c q e = nI (100 + w) := fun y => z (iff.mp y).1
    rw [show decide (wordT c q e = nI (100 + w)) = false by simpa using y] at hK
    exact bf (fun x => z ((nI_eq (by omega) (by omega)).mp x)) hK
