/-! ===== the text, token by token ===== -/
def rn (P : Nat → Bool) : Nat → Nat → Nat
  | 0, p => p
  | k + 1, p => if P p = true then rn P k (p + 1) else p
theorem rn_ge {P : Nat → Bool} : ∀ (k p : Nat), p ≤ rn P k p ∧ rn P k p ≤ p + k
  | 0, p => ⟨Nat.le_refl p, Nat.le_refl _⟩
  | k + 1, p => by
    rw [rn]
    split
    · have := rn_ge (P := P) k (p + 1); omega
    · omega
theorem rn_all {P : Nat → Bool} : ∀ (k p j : Nat), p ≤ j → j < rn P k p → P j = true
  | 0, p, j, h1, h2 => absurd h2 (by rw [rn]; omega)
  | k + 1, p, j, h1, h2 => by
    rw [rn] at h2
    by_cases q : P p = true
    · rw [if_pos q] at h2
      by_cases e : j = p
      · subst e; exact q
      · exact rn_all k (p + 1) j (by omega) h2
    · rw [if_neg q] at h2; omega
theorem rn_end {P : Nat → Bool} : ∀ (k p : Nat), rn P k p < p + k → P (rn P k p) = false
  | 0, p, h => absurd h (by rw [rn]; omega)
  | k + 1, p, h => by
    rw [rn] at h ⊢
    by_cases q : P p = true
    · rw [if_pos q] at h ⊢
      exact rn_end k (p + 1) (by omega)
    · rw [if_neg q]; simpa using q
def iL (x : Nat) : Bool := decide (97 ≤ x ∧ x ≤ 122)
def iF (x : Nat) : Bool := decide (48 ≤ x ∧ x ≤ 57)
/-- where the token behind p begins -/
def tS (c : Nat → Nat) (n p : Nat) : Nat := rn (fun j => decide (c j = 32)) (n - p) p
def tEq (c : Nat → Nat) (n q : Nat) : Nat := if n ≤ q then q else if iL (c q) = true then rn (fun j => iL (c j)) (n - q) q else if iF (c q) = true then rn (fun j => iF (c j)) (n - q) q else q + 1
/-- and ends -/
def tE (c : Nat → Nat) (n p : Nat) : Nat := tEq c n (tS c n p)
def ec (c : Nat → Nat) : Nat → Nat → Nat → Nat
  | 0, _, v => v
  | k + 1, q, v => ec c k (q + 1) (32 * v + (c q - 96))
def numT (c : Nat → Nat) (q e : Nat) : Int32 := if e - q = 1 then nI (c q - 48) else if e - q = 2 then nI (10 * (c q - 48) + (c (q + 1) - 48)) else 300
def wT (v : Nat) : Int32 := if v = 263564 then 100 else if v = 638636 then 101 else if v = 113716 then 102 else if v = 19764 then 103 else if v = 16052 then 104 else if v = 14276022451 then 105 else 300
def wordT (c : Nat → Nat) (q e : Nat) : Int32 := if e - q ≤ 7 then wT (ec c (e - q) q 0) else 300
def tMq (c : Nat → Nat) (n q : Nat) : Int32 := if n ≤ q then -1 else if iF (c q) = true then numT c q (tEq c n q) else if iL (c q) = true then wordT c q (tEq c n q) else if c q = 59 then 200 else 300
/-- the token, as the model says it -/
def tM (c : Nat → Nat) (n p : Nat) : Int32 := tMq c n (tS c n p)
def tCq (c : Nat → Nat) (n q : Nat) : Int32 := if n ≤ q then 0 else if iL (c q) = true then 1 else if iF (c q) = true then (if tEq c n q - q ≤ 2 then 2 else 4) else if c q = 59 then 3 else 4
/-- what it is, as the class says it -/
def tC (c : Nat → Nat) (n p : Nat) : Int32 := tCq c n (tS c n p)
def TX (X : Nat → Int32) (c : Nat → Nat) (n : Nat) : Prop := n ≤ 150 ∧ ∀ j, j < n → X j = nI (c j) ∧ c j < 128
theorem r_isL {K : Int32 → Prop} {x : Nat} (hx : x < 128) (k : K (b01 (iL x))) : V_X6_isLetter K (nI x) := by
  unfold iL at k
  by_cases h1 : x < 97
  · rw [show decide (97 ≤ x ∧ x ≤ 122) = false by simp; omega] at k
    exact bt (nI_lt (b := 97) h1 (by omega)) k
  · refine bf (nI_nlt (b := 97) (by omega) (by omega)) ?_
    by_cases h2 : 122 < x
    · rw [show decide (97 ≤ x ∧ x ≤ 122) = false by simp; omega] at k
      exact bt (nI_lt (a := 122) h2 (by omega)) k
    · rw [show decide (97 ≤ x ∧ x ≤ 122) = true by simp; omega] at k
      exact bf (nI_nlt (a := 122) (by omega) (by omega)) k
theorem r_isF {K : Int32 → Prop} {x : Nat} (hx : x < 128) (k : K (b01 (iF x))) : V_X6_isFigure K (nI x) := by
  unfold iF at k
  by_cases h1 : x < 48
  · rw [show decide (48 ≤ x ∧ x ≤ 57) = false by simp; omega] at k
    exact bt (nI_lt (b := 48) h1 (by omega)) k
  · refine bf (nI_nlt (b := 48) (by omega) (by omega)) ?_
    by_cases h2 : 57 < x
    · rw [show decide (48 ≤ x ∧ x ≤ 57) = false by simp; omega] at k
      exact bt (nI_lt (a := 57) h2 (by omega)) k
    · rw [show decide (48 ≤ x ∧ x ≤ 57) = true by simp; omega] at k
      exact bf (nI_nlt (a := 57) (by omega) (by omega)) k
theorem m_isL {K : Int32 → Prop} {x : Nat} (hx : x < 128) (k : K (b01 (iL x))) : V_X8_isLetter K (nI x) := r_isL hx k
theorem m_isF {K : Int32 → Prop} {x : Nat} (hx : x < 128) (k : K (b01 (iF x))) : V_X8_isFigure K (nI x) := r_isF hx k
section
variable {c : Nat → Nat} {n : Nat} {X : Nat → Int32} {h : HS}
/- the class -/
theorem l_advL {K : XS → Prop} {tk v : Int32} {q : Nat} (T : TX X c n) : ∀ (k a : Nat), a + k = n → K (h, X, nI n, tk, nI q, nI (rn (fun j => iL (c j)) k a), v) → V_X6_advance_93 K (k + 1) (h, X, nI n, tk, nI q, nI a, v)
  | 0, a, ha, hK => bt (nI_le (by omega) (by have := T.1; omega)) hK
  | k + 1, a, ha, hK => by
    have n150 := T.1
    obtain ⟨e1, e2⟩ := T.2 a (by omega)
    refine bf (nI_ge (by omega) (by omega)) ⟨vp_in_nI (by omega) (by decide), ?_⟩
    show V_X6_isLetter _ (X (nI a).toNatClampNeg)
    rw [nI_clamp (by omega), e1]
    refine r_isL e2 ?_
    rw [rn] at hK
    by_cases q : iL (c a) = true
    · rw [if_pos q] at hK
      rw [q]
      refine z1 ?_
      show V_X6_advance_93 K (k + 1) (h, X, nI n, tk, _, nI a + 1, v)
      rw [nI_1]; exact l_advL T k (a + 1) (by omega) hK
    · rw [if_neg q] at hK
      rw [show iL (c a) = false by simpa using q]
      exact z0 hK
def vfI (c : Nat → Nat) : Nat → Nat → Int32 → Int32
  | 0, _, v => v
  | k + 1, a, v => vfI c k (a + 1) (10 * v + nI (c a) - 48)
theorem l_fig {K : XS → Prop} {tk : Int32} {q : Nat} (T : TX X c n) : ∀ (k a : Nat) (v : Int32), a + k = n → q ≤ a → K (h, X, nI n, (if rn (fun j => iF (c j)) k a - q ≤ 2 then 2 else 4), nI q, nI (rn (fun j => iF (c j)) k a), vfI c (rn (fun j => iF (c j)) k a - a) a v) → V_X6_takeFigures_5 K (k + 1) (h, X, nI n, tk, nI q, nI a, v)
  | 0, a, v, ha, hq, hK => by
    have n150 := T.1
    rw [rn, Nat.sub_self, vfI] at hK
    refine bt (nI_le (by omega) (by omega)) ?_
    show (2 < nI a - nI q → V_X6_takeFigures_87 K _ 4) ∧ (¬ 2 < nI a - nI q → V_X6_takeFigures_87 K _ 2)
    rw [pk_sub hq]
    by_cases z : a - q ≤ 2
    · rw [if_pos z] at hK
      exact bf (nI_nlt (a := 2) z (by omega)) hK
    · rw [if_neg z] at hK
      exact bt (nI_lt (a := 2) (by omega) (by omega)) hK
  | k + 1, a, v, ha, hq, hK => by
    have n150 := T.1
    obtain ⟨e1, e2⟩ := T.2 a (by omega)
    refine bf (nI_ge (by omega) (by omega)) ⟨vp_in_nI (by omega) (by decide), ?_⟩
    show V_X6_isFigure _ (X (nI a).toNatClampNeg)
    rw [nI_clamp (by omega), e1]
    refine r_isF e2 ?_
    rw [rn] at hK
    by_cases z : iF (c a) = true
    · rw [if_pos z] at hK
      rw [z]
      refine z1 ⟨vp_in_nI (by omega) (by decide), ?_⟩
      show V_X6_takeFigures_5 K (k + 1) (h, X, nI n, tk, nI q, nI a + 1, 10 * v + X a - 48)
      rw [e1, nI_1]
      have g := rn_ge (P := fun j => iF (c j)) k (a + 1)
      refine l_fig T k (a + 1) _ (by omega) (by omega) ?_
      rw [show rn (fun j => iF (c j)) k (a + 1) - a = (rn (fun j => iF (c j)) k (a + 1) - (a + 1)) + 1 by omega, vfI] at hK
      exact hK
    · rw [if_neg z, Nat.sub_self, vfI] at hK
      rw [show iF (c a) = false by simpa using z]
      refine z0 ?_
      show (2 < nI a - nI q → V_X6_takeFigures_87 K _ 4) ∧ (¬ 2 < nI a - nI q → V_X6_takeFigures_87 K _ 2)
      rw [pk_sub hq]
      by_cases z : a - q ≤ 2
      · rw [if_pos z] at hK
        exact bf (nI_nlt (a := 2) z (by omega)) hK
      · rw [if_neg z] at hK
        exact bt (nI_lt (a := 2) (by omega) (by omega)) hK
theorem fig_sub {x : Nat} (h : iF x = true) (v : Nat) : 10 * nI v + nI x - 48 = nI (10 * v + (x - 48)) := by
  have h1 : 48 ≤ x ∧ x ≤ 57 := by simpa [iF] using h
  show nI 10 * nI v + nI x - nI 48 = _
  rw [pk_mul, nI_add, pk_sub (by omega)]
  congr 1; omega
theorem r_46 {K : XS → Prop} {tk v ne : Int32} {q : Nat} (T : TX X c n) (hq : q ≤ n) (hK : ∀ v', (tCq c n q = 2 → v' = tMq c n q) → K (h, X, nI n, tCq c n q, nI q, nI (tEq c n q), v')) : V_X6_advance_46 K (h, X, nI n, tk, nI q, ne, v) := by
  have n150 := T.1
  unfold tCq tMq at hK
  by_cases z : n ≤ q
  · refine bf (nI_nlt (by omega) (by omega)) ?_
    rw [if_pos z] at hK
    have eE : tEq c n q = q := by unfold tEq; rw [if_pos z]
    rw [eE] at hK
    exact hK v (fun w => absurd w (by decide))
  · rw [if_neg z, if_neg z] at hK
    obtain ⟨e1, e2⟩ := T.2 q (by omega)
    have v150 : vp_in (nI q) 150 := vp_in_nI (by omega) (by decide)
    refine bt (nI_lt (by omega) (by omega)) ⟨v150, ?_⟩
    show V_X6_isLetter _ (X (nI q).toNatClampNeg)
    rw [nI_clamp (by omega), e1]
    refine r_isL e2 ?_
    by_cases zl : iL (c q) = true
    · rw [if_pos zl] at hK
      rw [zl]
      have eE : tEq c n q = rn (fun j => iL (c j)) (n - q) q := by unfold tEq; rw [if_neg z, if_pos zl]
      rw [eE] at hK
      exact z1 ⟨_, l_advL T (n - q) q (by omega) (hK v (fun w => absurd w (by decide)))⟩
    · rw [if_neg zl] at hK
      rw [show iL (c q) = false by simpa using zl]
      refine z0 ⟨v150, ?_⟩
      show V_X6_isFigure _ (X q)
      rw [e1]
      refine r_isF e2 ?_
      by_cases zf : iF (c q) = true
      · rw [if_pos zf, if_pos zf] at hK
        rw [zf]
        have eE : tEq c n q = rn (fun j => iF (c j)) (n - q) q := by unfold tEq; rw [if_neg z, if_neg zl, if_pos zf]
        refine z1 ⟨n - q + 1, l_fig T (n - q) q 0 (by omega) (Nat.le_refl q) ?_⟩
        rw [← eE]
        refine hK _ (fun w => ?_)
        have g := rn_ge (P := fun j => iF (c j)) (n - q) q
        have ga := rn_all (P := fun j => iF (c j)) (n - q) q
        rw [← eE] at g ga
        have g1 : q + 1 ≤ tEq c n q := by
          rw [eE, show n - q = (n - q - 1) + 1 by omega, rn, if_pos zf]
          exact (rn_ge _ _).1
        have l2 : tEq c n q - q ≤ 2 := by
          by_cases l : tEq c n q - q ≤ 2
          · exact l
          · rw [if_neg l] at w; exact absurd w (by decide)
        unfold numT
        have f1 := fig_sub zf 0
        rw [show nI 0 = 0 from rfl] at f1
        rcases (by omega : tEq c n q - q = 1 ∨ tEq c n q - q = 2) with l | l
        · rw [if_pos l, l, vfI, vfI, f1]
          congr 1; omega
        · rw [if_neg (by omega), if_pos l, l, vfI, vfI, vfI, f1]
          have zf2 := ga (q + 1) (by omega) (by omega)
          rw [fig_sub zf2]
          congr 1; omega
      · rw [if_neg zf, if_neg zf, if_neg zl] at hK
        rw [show iF (c q) = false by simpa using zf]
        have eE : tEq c n q = q + 1 := by unfold tEq; rw [if_neg z, if_neg zl, if_neg zf]
        rw [eE] at hK
        refine z0 ⟨v150, ?_⟩
        show (¬ X q = 59 → V_X6_advance_174 K (h, X, nI n, tk, nI q, nI q, v) 4) ∧ (X q = 59 → V_X6_advance_174 K (h, X, nI n, tk, nI q, nI q, v) 3)
        rw [e1]
        unfold V_X6_advance_174
        by_cases z59 : c q = 59
        · rw [if_pos z59] at hK
          refine nt (by rw [z59]; rfl) ?_
          show K (h, X, nI n, 3, nI q, nI q + 1, v)
          rw [nI_1]
          exact hK v (fun w => absurd w (by decide))
        · rw [if_neg z59] at hK
          refine nf (fun w => z59 ((nI_eq (b := 59) (by omega) (by decide)).mp w)) ?_
          show K (h, X, nI n, 4, nI q, nI q + 1, v)
          rw [nI_1]
          exact hK v (fun w => absurd w (by decide))
theorem l_skip {K : XS → Prop} {tk v ne : Int32} (T : TX X c n) : ∀ (k a : Nat), a + k = n → V_X6_advance_46 K (h, X, nI n, tk, nI (rn (fun j => decide (c j = 32)) k a), ne, v) → V_X6_advance_8 K (k + 1) (h, X, nI n, tk, nI a, ne, v)
  | 0, a, ha, hK => bt (nI_le (by omega) (by have := T.1; omega)) hK
  | k + 1, a, ha, hK => by
    have n150 := T.1
    obtain ⟨e1, e2⟩ := T.2 a (by omega)
    refine bf (nI_ge (by omega) (by omega)) ⟨vp_in_nI (by omega) (by decide), ?_⟩
    show (¬ X (nI a).toNatClampNeg = 32 → _) ∧ (X (nI a).toNatClampNeg = 32 → V_X6_advance_8 K (k + 1) (h, X, nI n, tk, nI a + 1, ne, v))
    rw [nI_clamp (by omega), e1, nI_1]
    rw [rn] at hK
    by_cases z : c a = 32
    · rw [if_pos (by simpa using z)] at hK
      exact nt (by rw [z]; rfl) (l_skip T k (a + 1) (by omega) hK)
    · rw [if_neg (by simpa using z)] at hK
      exact nf (fun w => z ((nI_eq (b := 32) (by omega) (by decide)).mp w)) hK
theorem tS_ge {c : Nat → Nat} {n p : Nat} (hp : p ≤ n) : p ≤ tS c n p ∧ tS c n p ≤ n := by
  have := rn_ge (P := fun j => decide (c j = 32)) (n - p) p
  unfold tS
  omega
theorem r_adv {K : XS → Prop} {tk s v : Int32} {p : Nat} (T : TX X c n) (hp : p ≤ n) (hK : ∀ v', (tC c n p = 2 → v' = tM c n p) → K (h, X, nI n, tC c n p, nI (tS c n p), nI (tE c n p), v')) : V_X6_advance K (h, X, nI n, tk, s, nI p, v) := ⟨n - p + 1, l_skip T (n - p) p (by omega) (r_46 T (tS_ge hp).2 hK)⟩
end
