/-! ===== sets as bits; tallies ===== -/
theorem nI_or (a b : Nat) : nI a ||| nI b = nI (a ||| b) := by
  apply Int32.toBitVec_inj.mp
  rw [Int32.toBitVec_or]
  show BitVec.ofNat 32 a ||| BitVec.ofNat 32 b = BitVec.ofNat 32 (a ||| b)
  exact (BitVec.ofNat_or).symm
def orN (p : Nat → Bool) : Nat → Nat → Nat → Nat
  | 0, _, b => b
  | k + 1, i, b => orN p k (i + 1) (if p i = true then b ||| 2 ^ i else b)
theorem orF_orN {p : Nat → Bool} : ∀ (k i b : Nat), i + k ≤ 30 → orF p k i (nI b) = nI (orN p k i b)
  | 0, _, _, _ => rfl
  | k + 1, i, b, h => by
    rw [orF, orN, bit_at i (by omega), nI_or]
    split
    · exact orF_orN k (i + 1) _ (by omega)
    · exact orF_orN k (i + 1) _ (by omega)
theorem orN_bit {p : Nat → Bool} : ∀ (k i b j : Nat), (orN p k i b).testBit j = (b.testBit j || (decide (i ≤ j ∧ j < i + k) && p j))
  | 0, i, b, j => by
    have : decide (i ≤ j ∧ j < i + 0) = false := decide_eq_false (by omega)
    rw [orN, this]; simp
  | k + 1, i, b, j => by
    rw [orN, orN_bit k (i + 1)]
    by_cases e : j = i
    · subst e
      have h1 : decide (j + 1 ≤ j ∧ j < j + 1 + k) = false := decide_eq_false (by omega)
      have h2 : decide (j ≤ j ∧ j < j + (k + 1)) = true := by simp
      rw [h1, h2]
      by_cases q : p j = true
      · rw [if_pos q, Nat.testBit_or, Nat.testBit_two_pow_self, q]; simp
      · rw [if_neg q]; simp [q]
    · have h1 : decide (i + 1 ≤ j ∧ j < i + 1 + k) = decide (i ≤ j ∧ j < i + (k + 1)) := by
        apply decide_eq_decide.mpr; omega
      rw [h1]
      congr 1
      split
      · rw [Nat.testBit_or, Nat.testBit_two_pow_of_ne (by omega), Bool.or_false]
      · rfl
theorem orN_lt {p : Nat → Bool} : ∀ (k i b : Nat), b < 2 ^ (i + k) → orN p k i b < 2 ^ (i + k)
  | 0, i, b, h => h
  | k + 1, i, b, h => by
    rw [orN, show i + (k + 1) = i + 1 + k by omega] at *
    apply orN_lt k (i + 1)
    split
    · exact Nat.or_lt_two_pow h (Nat.pow_lt_pow_right (by omega) (by omega))
    · exact h
theorem orF_has {p : Nat → Bool} {n j : Nat} (hn : n ≤ 30) (hj : j < n) : hasB (orF p n 0 0) (nI j) ↔ p j = true := by
  have l := orN_lt (p := p) n 0 0 (Nat.two_pow_pos _)
  rw [Nat.zero_add] at l
  have l2 : 2 ^ n ≤ 2 ^ 30 := Nat.pow_le_pow_right (by omega) hn
  have e : orF p n 0 0 = nI (orN p n 0 0) := orF_orN n 0 0 (by omega)
  rw [e, hasB_bit (by omega) (by omega), orN_bit]
  simp [hj]
theorem orF_zero {p : Nat → Bool} {n : Nat} (hn : n ≤ 30) : orF p n 0 0 = 0 ↔ ∀ j, j < n → p j = false := by
  have l := orN_lt (p := p) n 0 0 (Nat.two_pow_pos _)
  rw [Nat.zero_add] at l
  have l2 : 2 ^ n ≤ 2 ^ 30 := Nat.pow_le_pow_right (by omega) hn
  have e : orF p n 0 0 = nI (orN p n 0 0) := orF_orN n 0 0 (by omega)
  rw [e]
  constructor
  · intro h j hj
    have z : orN p n 0 0 = 0 := (nI_eq (b := 0) (by omega) (by decide)).mp h
    have := orN_bit (p := p) n 0 0 j
    rw [z] at this
    simp [hj] at this
    exact this
  · intro h
    have z : orN p n 0 0 = 0 := by
      apply Nat.eq_of_testBit_eq
      intro j
      rw [orN_bit]
      by_cases q : j < n
      · simp [h j q]
      · simp [q]
    rw [z]; rfl
def maxT (T : Nat → Nat) : Nat → Nat
  | 0 => 0
  | k + 1 => if T k ≤ maxT T k then maxT T k else T k
def bump (T : Nat → Nat) (v : Nat) : Nat → Nat := fun x => if x = v then T x + 1 else T x
theorem maxT_ge {T : Nat → Nat} : ∀ {k x : Nat}, x < k → T x ≤ maxT T k
  | k + 1, x, h => by
    rw [maxT]
    by_cases e : x = k
    · subst e; split <;> omega
    · have := maxT_ge (T := T) (k := k) (x := x) (by omega)
      split <;> omega
theorem maxT_le {T : Nat → Nat} {B : Nat} : ∀ (k : Nat), (∀ x, x < k → T x ≤ B) → maxT T k ≤ B
  | 0, _ => Nat.zero_le B
  | k + 1, h => by
    rw [maxT]
    have := maxT_le (T := T) k (fun x hx => h x (by omega))
    have := h k (by omega)
    split <;> omega
theorem maxT_bump {T : Nat → Nat} {k v : Nat} (hv : v < k) : maxT (bump T v) k = if maxT T k < T v + 1 then T v + 1 else maxT T k := by
  have bv : bump T v v = T v + 1 := if_pos rfl
  have bx : ∀ x, ¬ x = v → bump T v x = T x := fun x hx => if_neg hx
  have g1 := maxT_ge (T := bump T v) hv
  rw [bv] at g1
  have g2 : maxT T k ≤ maxT (bump T v) k := maxT_le k (fun x hx => by
    have := maxT_ge (T := bump T v) hx
    by_cases e : x = v
    · subst e; omega
    · rw [bx x e] at this; exact this)
  have g3 : maxT (bump T v) k ≤ (if maxT T k < T v + 1 then T v + 1 else maxT T k) := maxT_le k (fun x hx => by
    have := maxT_ge (T := T) hx
    by_cases e : x = v
    · subst e; rw [bv]; split <;> omega
    · rw [bx x e]; split <;> omega)
  split at g3 <;> rename_i q
  · rw [if_pos q]; omega
  · rw [if_neg q]; omega
theorem maxT_up {T : Nat → Nat} (h : ∀ x, 16 ≤ x → T x = 0) : ∀ k, maxT T (16 + k) = maxT T 16
  | 0 => rfl
  | k + 1 => by rw [← Nat.add_assoc, maxT, maxT_up h k, h _ (by omega), if_pos (by omega)]
def TA (t : TS) (T : Nat → Nat) : Prop := (∀ x, x < 16 → t.1 x = nI (T x)) ∧ t.2 = nI (maxT T 16)
def AL (a : Nat → Int32) (T : Nat → Nat) : Prop := ∀ x, x < 41 → a x = nI (T x)
theorem r_add {K : TS → Prop} {t : TS} {T : Nat → Nat} {v : Nat} (h : TA t T) (hv : v < 16) (hB : ∀ x, T x ≤ 1000) (kk : ∀ t', TA t' (bump T v) → K t') : V_X5_add K t (nI v) := by
  have vi : vp_in (nI v) 16 := vp_in_nI hv (by decide)
  refine r_within1 16 rfl (by decide) vi (z1 ⟨vi, vi, vi, kk _ ⟨fun x hx => ?_, ?_⟩⟩)
  · rw [nI_clamp (by omega)]
    by_cases e : x = v
    · subst e
      show upd t.1 x (t.1 x + 1) x = _
      rw [upd_eq, h.1 x hx, nI_1]
      show _ = nI (if x = x then T x + 1 else T x)
      rw [if_pos rfl]
    · show upd t.1 v (t.1 v + 1) x = _
      rw [upd_ne e, h.1 x hx]
      show _ = nI (if x = v then T x + 1 else T x)
      rw [if_neg e]
  · rw [nI_clamp (by omega)]
    show (if t.2 < upd t.1 v (t.1 v + 1) v then upd t.1 v (t.1 v + 1) v else t.2) = _
    have hB2 := maxT_le (T := T) 16 (fun x _ => hB x)
    have := hB v
    rw [upd_eq, h.1 v hv, nI_1, h.2, maxT_bump hv]
    by_cases q : maxT T 16 < T v + 1
    · rw [if_pos q, if_pos (nI_lt q (by omega))]
    · rw [if_neg q, if_neg (nI_nlt (by omega) (by omega))]
theorem l_treset {K : TS → Prop} (kk : ∀ t, TA t (fun _ => 0) → K t) : ∀ (k i : Nat) (t : TS), i + k = 16 → (∀ x, x < i → t.1 x = 0) → V_X5_reset_2 K (k + 1) t (nI i)
  | 0, i, t, hi, h => by
    refine bt (nI_le (a := 16) (by omega) (by omega)) (kk _ ⟨fun x hx => h x (by omega), ?_⟩)
    have : maxT (fun _ => 0) 16 = 0 := by decide
    rw [this]; rfl
  | k + 1, i, t, hi, h => by
    refine bf (nI_ge (b := 16) (by omega) (by omega)) ⟨vp_in_nI (by omega) (by decide), ?_⟩
    rw [nI_clamp (by omega), nI_1]
    refine l_treset kk k (i + 1) _ (by omega) (fun x hx => ?_)
    show upd t.1 i 0 x = 0
    by_cases e : x = i
    · subst e; exact upd_eq
    · rw [upd_ne e]; exact h x (by omega)
theorem r_treset {K : TS → Prop} {t : TS} (kk : ∀ t, TA t (fun _ => 0) → K t) : V_X5_reset K t := ⟨_, l_treset kk 16 0 t (by omega) (fun x hx => absurd hx (by omega))⟩
def mA (m : MS) (a : Nat → Int32) : MS := (m.1, m.2.1, m.2.2.1, m.2.2.2.1, m.2.2.2.2.1, m.2.2.2.2.2.1, m.2.2.2.2.2.2.1, m.2.2.2.2.2.2.2.1, m.2.2.2.2.2.2.2.2.1, m.2.2.2.2.2.2.2.2.2.1, m.2.2.2.2.2.2.2.2.2.2.1, m.2.2.2.2.2.2.2.2.2.2.2.1, m.2.2.2.2.2.2.2.2.2.2.2.2.1, m.2.2.2.2.2.2.2.2.2.2.2.2.2.1, m.2.2.2.2.2.2.2.2.2.2.2.2.2.2.1, a)
def uT (u : US) (t : TS) : US := (u.1, u.2.1, u.2.2.1, u.2.2.2.1, u.2.2.2.2.1, u.2.2.2.2.2.1, u.2.2.2.2.2.2.1, t, u.2.2.2.2.2.2.2.2)
theorem Rel.tal {u : US} {m : MS} (h : Rel u m) (t : TS) (a : Nat → Int32) : Rel (uT u t) (mA m a) := h
theorem ml_clear {K : MS → Prop} {m : MS} (kk : ∀ a, AL a (fun _ => 0) → K (mA m a)) : ∀ (k i : Nat) (a : Nat → Int32), i + k = 41 → (∀ x, x < i → a x = 0) → V_X8_clearAlike_2 K (k + 1) (mA m a) (nI i)
  | 0, i, a, hi, h => bt (nI_le (a := 41) (by omega) (by omega)) (kk a (fun x hx => h x (by omega)))
  | k + 1, i, a, hi, h => by
    refine bf (nI_ge (b := 41) (by omega) (by omega)) ⟨vp_in_nI (by omega) (by decide), ?_⟩
    rw [nI_clamp (by omega), nI_1]
    refine ml_clear kk k (i + 1) (upd a i 0) (by omega) (fun x hx => ?_)
    by_cases e : x = i
    · subst e; exact upd_eq
    · rw [upd_ne e]; exact h x (by omega)
theorem m_clear {K : MS → Prop} {m : MS} {a0 : Nat → Int32} (kk : ∀ a, AL a (fun _ => 0) → K (mA m a)) : V_X8_clearAlike K (mA m a0) := ⟨_, ml_clear kk 41 0 a0 (by omega) (fun x hx => absurd hx (by omega))⟩
theorem ml_most {K : Int32 → Prop} {m : MS} {a : Nat → Int32} {T : Nat → Nat} (h : AL a T) (hB : ∀ x, T x ≤ 1000) : ∀ (k i : Nat), i + k = 41 → K (nI (maxT T 41)) → V_X8_mostAlike_4 K (k + 1) (mA m a) (nI (maxT T i)) (nI i)
  | 0, i, hi, hK => by
    have e : i = 41 := by omega
    subst e
    exact bt (by decide) hK
  | k + 1, i, hi, hK => by
    have v : vp_in (nI i) 41 := vp_in_nI (by omega) (by decide)
    refine bf (nI_ge (b := 41) (by omega) (by omega)) ⟨v, ?_⟩
    have go := ml_most (m := m) h hB k (i + 1) (by omega) hK
    rw [maxT] at go
    have b1 := hB i
    have b2 := maxT_le (T := T) i (fun x _ => hB x)
    rw [nI_clamp (by omega), nI_1]
    show (a i ≤ nI (maxT T i) → _) ∧ (¬ a i ≤ nI (maxT T i) → vp_in (nI i) 41 ∧ V_X8_mostAlike_4 K (k + 1) (mA m a) (a i) _)
    rw [h i (by omega)]
    by_cases q : T i ≤ maxT T i
    · rw [if_pos q] at go
      exact bt (nI_le q (by omega)) go
    · rw [if_neg q] at go
      exact bf (nI_ge (by omega) (by omega)) ⟨v, go⟩
theorem m_most {K : Int32 → Prop} {m : MS} {a : Nat → Int32} {T : Nat → Nat} (h : AL a T) (hB : ∀ x, T x ≤ 1000) (h0 : ∀ x, 16 ≤ x → T x = 0) (k : K (nI (maxT T 16))) : V_X8_mostAlike K (mA m a) := by
  refine ⟨_, ml_most h hB 41 0 (by omega) ?_⟩
  rw [show 41 = 16 + 25 by omega, maxT_up h0]; exact k
theorem AL.bump {a : Nat → Int32} {T : Nat → Nat} {v : Nat} (h : AL a T) (hv : v < 41) : AL (upd a v (a v + 1)) (bump T v) := by
  intro x hx
  by_cases e : x = v
  · subst e
    rw [upd_eq, h x hx, nI_1]
    show _ = nI (if x = x then T x + 1 else T x)
    rw [if_pos rfl]
  · rw [upd_ne e, h x hx]
    show _ = nI (if x = v then T x + 1 else T x)
    rw [if_neg e]
/-- the tally of the values v of those that have p -/
def tl (p : Nat → Bool) (v : Nat → Nat) : Nat → Nat → (Nat → Nat) → Nat → Nat
  | 0, _, T => T
  | k + 1, i, T => tl p v k (i + 1) (if p i = true then bump T (v i) else T)
theorem bump_le {T : Nat → Nat} {v B : Nat} (h : ∀ x, T x ≤ B) : ∀ x, bump T v x ≤ B + 1 := by
  intro x
  have := h x
  unfold bump
  split <;> omega
theorem tl_le {p : Nat → Bool} {v : Nat → Nat} : ∀ (k i B : Nat) (T : Nat → Nat), (∀ x, T x ≤ B) → ∀ x, tl p v k i T x ≤ B + k
  | 0, i, B, T, h => h
  | k + 1, i, B, T, h => by
    intro x
    rw [tl]
    have := tl_le (p := p) (v := v) k (i + 1) (B + 1) (if p i = true then bump T (v i) else T) (fun y => by
      split
      · exact bump_le h y
      · have := h y; omega) x
    omega
theorem tl_ge {p : Nat → Bool} {v : Nat → Nat} : ∀ (k i : Nat) (T : Nat → Nat) (x : Nat), T x ≤ tl p v k i T x
  | 0, i, T, x => Nat.le_refl _
  | k + 1, i, T, x => by
    rw [tl]
    refine Nat.le_trans ?_ (tl_ge k (i + 1) _ x)
    split
    · unfold bump; split <;> omega
    · exact Nat.le_refl _
theorem tl_zero {p : Nat → Bool} {v : Nat → Nat} {n : Nat} (hv : ∀ j, j < n → v j < 16) : ∀ (k i : Nat) (T : Nat → Nat), i + k ≤ n → (∀ x, 16 ≤ x → T x = 0) → ∀ x, 16 ≤ x → tl p v k i T x = 0
  | 0, i, T, _, h => h
  | k + 1, i, T, hn, h => by
    rw [tl]
    refine tl_zero hv k (i + 1) _ (by omega) (fun x hx => ?_)
    split
    · unfold bump; rw [if_neg (by have := hv i (by omega); omega)]; exact h x hx
    · exact h x hx
theorem tl_pos {p : Nat → Bool} {v : Nat → Nat} : ∀ (k i j : Nat) (T : Nat → Nat), i ≤ j → j < i + k → p j = true → 1 ≤ tl p v k i T (v j)
  | 0, i, j, T, h1, h2, hp => absurd h2 (by omega)
  | k + 1, i, j, T, h1, h2, hp => by
    rw [tl]
    by_cases e : i = j
    · subst e
      rw [if_pos hp]
      refine Nat.le_trans ?_ (tl_ge k (i + 1) _ _)
      unfold bump; rw [if_pos rfl]; omega
    · exact tl_pos k (i + 1) j _ (by omega) (by omega) hp
theorem tl_none {p : Nat → Bool} {v : Nat → Nat} : ∀ (k i : Nat) (T : Nat → Nat), (∀ j, i ≤ j → j < i + k → p j = false) → tl p v k i T = T
  | 0, i, T, _ => rfl
  | k + 1, i, T, h => by
    rw [tl, if_neg (by rw [h i (by omega) (by omega)]; decide)]
    exact tl_none k (i + 1) T (fun j h1 h2 => h j (by omega) (by omega))
theorem tl_congr {p q : Nat → Bool} {v w : Nat → Nat} : ∀ (k i : Nat) (T : Nat → Nat), (∀ j, i ≤ j → j < i + k → p j = q j ∧ v j = w j) → tl p v k i T = tl q w k i T
  | 0, i, T, _ => rfl
  | k + 1, i, T, h => by
    rw [tl, tl, (h i (by omega) (by omega)).1, (h i (by omega) (by omega)).2]
    exact tl_congr k (i + 1) _ (fun j h1 h2 => h j (by omega) (by omega))
def most (p : Nat → Bool) (v : Nat → Nat) (n : Nat) : Nat := maxT (tl p v n 0 (fun _ => 0)) 16
theorem most_le {p : Nat → Bool} {v : Nat → Nat} {n : Nat} : most p v n ≤ n := maxT_le 16 (fun x _ => by have := tl_le (p := p) (v := v) n 0 0 (fun _ => 0) (fun _ => Nat.le_refl 0) x; omega)
theorem most_pos {p : Nat → Bool} {v : Nat → Nat} {n j : Nat} (hj : j < n) (hp : p j = true) (hv : v j < 16) : ¬ most p v n = 0 := by
  have h1 := tl_pos (v := v) n 0 j (fun _ => 0) (by omega) (by omega) hp
  have h2 := maxT_ge (T := tl p v n 0 (fun _ => 0)) hv
  unfold most; omega
theorem most_none {p : Nat → Bool} {v : Nat → Nat} {n : Nat} (h : ∀ j, j < n → p j = false) : most p v n = 0 := by
  unfold most
  rw [tl_none n 0 _ (fun j _ hj => h j (by omega))]; decide
/-- the first of those with the fewest alike -/
def bestP (m : Nat → Nat) (val : Nat → Int32) : Nat → Nat → Int32 × Nat → Int32 × Nat
  | 0, _, s => s
  | k + 1, i, s => bestP m val k (i + 1) (if m i = 0 ∨ s.2 ≤ m i then s else (val i, m i))
def SS (M : Nat) (s t : Int32 × Nat) : Prop := s = t ∨ (s.1 = t.1 ∧ M < s.2 ∧ M < t.2)
theorem SS.best {m : Nat → Nat} {val : Nat → Int32} {M : Nat} (hM : ∀ i, m i ≤ M) : ∀ (k i : Nat) (s t : Int32 × Nat), SS M s t → SS M (bestP m val k i s) (bestP m val k i t)
  | 0, i, s, t, h => h
  | k + 1, i, s, t, h => by
    rw [bestP, bestP]
    apply SS.best hM k (i + 1)
    rcases h with rfl | ⟨h1, h2, h3⟩
    · exact Or.inl rfl
    · by_cases q : m i = 0
      · rw [if_pos (Or.inl q), if_pos (Or.inl q)]; exact Or.inr ⟨h1, h2, h3⟩
      · have := hM i
        rw [if_neg (fun z => z.elim q (by omega)), if_neg (fun z => z.elim q (by omega))]; exact Or.inl rfl
theorem SS.fst {M : Nat} {s t : Int32 × Nat} (h : SS M s t) : s.1 = t.1 := h.elim (fun e => by rw [e]) (fun e => e.1)
theorem bestP_zero {m : Nat → Nat} {val : Nat → Int32} (h : ∀ i, m i = 0) : ∀ (k i : Nat) (s : Int32 × Nat), bestP m val k i s = s
  | 0, i, s => rfl
  | k + 1, i, s => by rw [bestP, if_pos (Or.inl (h i))]; exact bestP_zero h k (i + 1) s
theorem bestP_le {m : Nat → Nat} {val : Nat → Int32} {M : Nat} (hM : ∀ i, m i ≤ M) : ∀ (k i : Nat) (s : Int32 × Nat), s.2 ≤ M → (bestP m val k i s).2 ≤ M
  | 0, i, s, h => h
  | k + 1, i, s, h => by
    rw [bestP]
    refine bestP_le hM k (i + 1) _ ?_
    split
    · exact h
    · exact hM i
