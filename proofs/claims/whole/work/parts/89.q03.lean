/-! ===== steps: look, ask ===== -/
def sgt (s j : Nat) : Nat := (sightV (nI j) (nI s)).toNatClampNeg
def fss (k t j : Nat) : Nat := (fussV (nI j) (nI k) (nI t)).toNatClampNeg
theorem sgt_dec : ∀ s : Nat, s < 6 → ∀ j : Nat, j < 6 → sgt s j < 16 ∧ sightV (nI j) (nI s) = nI (sgt s j) := by decide +kernel
theorem fss_dec : ∀ t : Nat, t < 20 → ∀ k : Nat, k < 6 → ∀ j : Nat, j < 6 → fss k t j < 16 ∧ fussV (nI j) (nI k) (nI t) = nI (fss k t j) := by decide +kernel
theorem l_mostRow {K : Int32 → US → Prop} {u : US} {b : Int32} {p : Nat → Bool} {s : Nat} (hs : s < 6) (hb : ∀ j, j < 6 → (hasB b (nI j) ↔ p j = true)) (kk : ∀ t, K (nI (most p (sgt s) 6)) (uT u t)) : ∀ (k j : Nat) (t : TS) (T : Nat → Nat), j + k = 6 → TA t T → (∀ x, T x ≤ j) → tl p (sgt s) k j T = tl p (sgt s) 6 0 (fun _ => 0) → V_X7_mostRowKindsAlike_9 K (k + 1) (uT u t) b (nI s) (nI j)
  | 0, j, t, T, hj, ht, hB, he => by
    refine bt (nI_le (a := 6) (by omega) (by omega)) ?_
    show K t.2 (uT u t)
    rw [ht.2, show T = tl p (sgt s) 6 0 (fun _ => 0) from he]
    exact kk t
  | k + 1, j, t, T, hj, ht, hB, he => by
    refine bf (nI_ge (b := 6) (by omega) (by omega)) ?_
    obtain ⟨g1, g2⟩ := sgt_dec s hs j (by omega)
    rw [tl] at he
    rw [nI_1]
    by_cases q : p j = true
    · rw [if_pos q] at he
      refine r_has1 ((hb j (by omega)).mpr q) (z1 (r_sight ?_))
      rw [g2]
      exact r_add ht g1 (fun x => Nat.le_trans (hB x) (by omega)) (fun t' ht' => l_mostRow hs hb kk k (j + 1) t' _ (by omega) ht' (bump_le hB) he)
    · rw [if_neg q] at he
      exact r_has0 (fun z => q ((hb j (by omega)).mp z)) (z0 (l_mostRow hs hb kk k (j + 1) t T (by omega) ht (fun x => Nat.le_succ_of_le (hB x)) he))
theorem r_mostRow {K : Int32 → US → Prop} {u : US} {b : Int32} {p : Nat → Bool} {s : Nat} {t : TS} (hs : s < 6) (hb : ∀ j, j < 6 → (hasB b (nI j) ↔ p j = true)) (kk : ∀ t, K (nI (most p (sgt s) 6)) (uT u t)) : V_X7_mostRowKindsAlike K (uT u t) b (nI s) :=
  r_treset (fun t' ht' => ⟨_, l_mostRow hs hb kk 6 0 t' _ (by omega) ht' (fun _ => Nat.le_refl 0) rfl⟩)
theorem l_mostSoul {K : Int32 → US → Prop} {u : US} {b : Int32} {p : Nat → Bool} {n s : Nat} (hn : n < 6) (hs : s < 20) (hb : ∀ j, j < 6 → (hasB b (nI j) ↔ p j = true)) (kk : ∀ t, K (nI (most p (fss n s) 6)) (uT u t)) : ∀ (k j : Nat) (t : TS) (T : Nat → Nat), j + k = 6 → TA t T → (∀ x, T x ≤ j) → tl p (fss n s) k j T = tl p (fss n s) 6 0 (fun _ => 0) → V_X7_mostSoulKindsAlike_10 K (k + 1) (uT u t) b (nI n) (nI s) (nI j)
  | 0, j, t, T, hj, ht, hB, he => by
    refine bt (nI_le (a := 6) (by omega) (by omega)) ?_
    show K t.2 (uT u t)
    rw [ht.2, show T = tl p (fss n s) 6 0 (fun _ => 0) from he]
    exact kk t
  | k + 1, j, t, T, hj, ht, hB, he => by
    refine bf (nI_ge (b := 6) (by omega) (by omega)) ?_
    obtain ⟨g1, g2⟩ := fss_dec s hs n hn j (by omega)
    rw [tl] at he
    rw [nI_1]
    by_cases q : p j = true
    · rw [if_pos q] at he
      refine r_has1 ((hb j (by omega)).mpr q) (z1 (r_fuss ?_))
      rw [g2]
      exact r_add ht g1 (fun x => Nat.le_trans (hB x) (by omega)) (fun t' ht' => l_mostSoul hn hs hb kk k (j + 1) t' _ (by omega) ht' (bump_le hB) he)
    · rw [if_neg q] at he
      exact r_has0 (fun z => q ((hb j (by omega)).mp z)) (z0 (l_mostSoul hn hs hb kk k (j + 1) t T (by omega) ht (fun x => Nat.le_succ_of_le (hB x)) he))
theorem r_mostSoul {K : Int32 → US → Prop} {u : US} {b : Int32} {p : Nat → Bool} {n s : Nat} {t : TS} (hn : n < 6) (hs : s < 20) (hb : ∀ j, j < 6 → (hasB b (nI j) ↔ p j = true)) (kk : ∀ t, K (nI (most p (fss n s) 6)) (uT u t)) : V_X7_mostSoulKindsAlike K (uT u t) b (nI n) (nI s) :=
  r_treset (fun t' ht' => ⟨_, l_mostSoul hn hs hb kk 6 0 t' _ (by omega) ht' (fun _ => Nat.le_refl 0) rfl⟩)
theorem i0 {a : Nat} (ha : a < 2 ^ 31) : nI a ≤ 0 ↔ a = 0 := by
  rw [show (0 : Int32) = nI 0 from rfl, nI_leI ha (by omega)]; omega
theorem l_look {K : Int32 → US → Prop} {u : US} {b : Int32} {p : Nat → Bool} (hb : ∀ j, j < 6 → (hasB b (nI j) ↔ p j = true)) : ∀ (k i : Nat) (st : Int32 × Nat) (t : TS), i + k = 6 → st.2 ≤ 100 → (∀ t', K (bestP (fun s => most p (sgt s) 6) nI k i st).1 (uT u t')) → V_X7_look_30 K (k + 1) (uT u t) b st.1 (nI st.2) (nI i)
  | 0, i, st, t, hi, hs, hK => bt (nI_le (a := 6) (by omega) (by omega)) (hK t)
  | k + 1, i, st, t, hi, hs, hK => by
    refine bf (nI_ge (b := 6) (by omega) (by omega)) (r_mostRow (by omega) hb (fun t' => ?_))
    have hm := most_le (p := p) (v := sgt i) (n := 6)
    rw [bestP] at hK
    rw [nI_1]
    by_cases q : most p (sgt i) 6 = 0
    · rw [if_pos (Or.inl q)] at hK
      exact bt ((i0 (by omega)).mpr q) (l_look hb k (i + 1) st t' (by omega) hs hK)
    · refine bf (fun z => q ((i0 (by omega)).mp z)) ?_
      by_cases q2 : st.2 ≤ most p (sgt i) 6
      · rw [if_pos (Or.inr q2)] at hK
        exact bt (nI_le q2 (by omega)) (l_look hb k (i + 1) st t' (by omega) hs hK)
      · rw [if_neg (fun z => z.elim q q2)] at hK
        exact bf (nI_ge (by omega) (by omega)) (l_look hb k (i + 1) (nI i, most p (sgt i) 6) t' (by omega) (by show most p (sgt i) 6 ≤ 100; omega) hK)
theorem ml_look2 {K : Int32 → MS → Prop} {B : MS → Int32 → Int32 → Int32 → Int32 → Prop} {m : MS} {b x3 x4 : Int32} {p : Nat → Bool} {s : Nat} (hs : s < 6) (hb : ∀ j, j < 6 → (hasB b (nI j) ↔ p j = true)) (k1 : x4 ≤ nI (most p (sgt s) 6) → ∀ a, B (mA m a) b x3 x4 (nI s + 1)) (k2 : ¬ x4 ≤ nI (most p (sgt s) 6) → ∀ a, B (mA m a) b (nI s) (nI (most p (sgt s) 6)) (nI s + 1)) : ∀ (k j : Nat) (a : Nat → Int32) (T : Nat → Nat), j + k = 6 → AL a T → (∀ x, T x ≤ j) → (∀ x, 16 ≤ x → T x = 0) → tl p (sgt s) k j T = tl p (sgt s) 6 0 (fun _ => 0) → V_X8_look_50 K B (k + 1) (mA m a) b x3 x4 (nI s) (nI j)
  | 0, j, a, T, hj, ha, hB, h0, he => by
    have e : T = tl p (sgt s) 6 0 (fun _ => 0) := he
    have hB2 : ∀ x, T x ≤ 1000 := fun x => Nat.le_trans (hB x) (by omega)
    refine bt (nI_le (a := 6) (by omega) (by omega)) (m_most ha hB2 h0 ?_)
    have e2 : maxT T 16 = most p (sgt s) 6 := by rw [e]; rfl
    rw [e2]
    refine ⟨fun q => k1 q a, fun q => m_most ha hB2 h0 ?_⟩
    rw [e2]; exact k2 q a
  | k + 1, j, a, T, hj, ha, hB, h0, he => by
    refine bf (nI_ge (b := 6) (by omega) (by omega)) ?_
    obtain ⟨g1, g2⟩ := sgt_dec s hs j (by omega)
    rw [tl] at he
    rw [nI_1]
    by_cases q : p j = true
    · rw [if_pos q] at he
      refine m_has1 ((hb j (by omega)).mpr q) (z1 (m_seesBy (vp_in_nI (by omega) (by decide)) (vp_in_nI hs (by decide)) ?_))
      have v : vp_in (nI (sgt s j)) 41 := vp_in_nI (by omega) (by decide)
      rw [g2, nI_clamp (by omega)]
      refine ⟨v, v, ml_look2 hs hb k1 k2 k (j + 1) (upd a (sgt s j) (a (sgt s j) + 1)) _ (by omega) (ha.bump (by omega)) (bump_le hB) (fun x hx => ?_) he⟩
      unfold bump; rw [if_neg (by omega)]; exact h0 x hx
    · rw [if_neg q] at he
      exact m_has0 (fun z => q ((hb j (by omega)).mp z)) (z0 (ml_look2 hs hb k1 k2 k (j + 1) a T (by omega) ha (fun x => Nat.le_succ_of_le (hB x)) h0 he))
theorem ml_look {K : Int32 → MS → Prop} {m : MS} {b : Int32} {p : Nat → Bool} (hb : ∀ j, j < 6 → (hasB b (nI j) ↔ p j = true)) (hb0 : ¬ b = 0) (hp : ∃ j, j < 6 ∧ p j = true) : ∀ (k i : Nat) (st : Int32 × Nat) (a : Nat → Int32), i + k = 6 → st.2 ≤ 100 → (∀ a', K (bestP (fun s => most p (sgt s) 6) nI k i st).1 (mA m a')) → V_X8_look_32 K (k + 1) (mA m a) b st.1 (nI st.2) (nI i)
  | 0, i, st, a, hi, hs, hK => bt (nI_le (a := 6) (by omega) (by omega)) (hK a)
  | k + 1, i, st, a, hi, hs, hK => by
    have hm := most_le (p := p) (v := sgt i) (n := 6)
    obtain ⟨j, hj, hpj⟩ := id hp
    have q : ¬ most p (sgt i) 6 = 0 := most_pos hj hpj (sgt_dec i (by omega) j hj).1
    rw [bestP] at hK
    refine bf (nI_ge (b := 6) (by omega) (by omega)) (bf hb0 (m_clear (fun a0 ha0 => ⟨7, ml_look2 (by omega) hb (fun z a' => ?_) (fun z a' => ?_) 6 0 a0 _ (by omega) ha0 (fun _ => Nat.le_refl 0) (fun _ _ => rfl) rfl⟩)))
    · rw [if_pos (Or.inr ((nI_leI (by omega) (by omega)).mp z))] at hK
      rw [nI_1]
      exact ml_look hb hb0 hp k (i + 1) st a' (by omega) hs hK
    · rw [if_neg (fun y => y.elim q (fun y => z (nI_le y (by omega))))] at hK
      rw [nI_1]
      exact ml_look hb hb0 hp k (i + 1) (nI i, most p (sgt i) 6) a' (by omega) (by show most p (sgt i) 6 ≤ 100; omega) hK
theorem p_look : st_look Rel := by
  intro u mm x hr
  by_cases h : vp_in x 5
  · refine r_within1 5 rfl (by decide) h (y1 (r_rowKinds hr.1 ?_))
    have hb : ∀ j, j < 6 → (hasB (noteBits u.1 x) (nI j) ↔ noteFit u.1 x j = true) := fun j hj => orF_has (by decide) hj
    refine ⟨_, l_look (u := u) (t := u.2.2.2.2.2.2.2.1) hb 6 0 (-1, 7) (by omega) (by decide) (fun t' => ?_)⟩
    show V_X8_look _ mm _
    refine m_in1 5 (by decide) h (y1 (m_isBits hr.1 ?_))
    by_cases z : noteBits u.1 x = 0
    · have hz : ∀ j, j < 6 → noteFit u.1 x j = false := (orF_zero (by decide)).mp z
      refine ⟨1, bf (by decide) (bt z ⟨?_, hr⟩)⟩
      rw [bestP_zero (fun i => most_none hz)]
    · have hp : ∃ j, j < 6 ∧ noteFit u.1 x j = true := by
        by_cases y : ∃ j, j < 6 ∧ noteFit u.1 x j = true
        · exact y
        · exact absurd ((orF_zero (by decide)).mpr (fun j hj => by
            by_cases w : noteFit u.1 x j = true
            · exact absurd ⟨j, hj, w⟩ y
            · simpa using w)) z
      refine ⟨7, ml_look (m := mm) (a := mm.2.2.2.2.2.2.2.2.2.2.2.2.2.2.2) hb z hp 6 0 (-1, 9) (by omega) (by decide) (fun a' => ⟨?_, hr.tal t' a'⟩)⟩
      exact (SS.best (M := 6) (fun i => most_le) 6 0 (-1, 7) (-1, 9) (Or.inr ⟨rfl, by decide, by decide⟩)).fst
  · refine r_within0 5 rfl (by decide) h (y0 ?_)
    unfold V_X7_refuseBad
    show V_X8_look _ mm _
    exact m_in0 5 (by decide) h (y0 (And.intro rfl hr.bad))
/- ask -/
def askM (p : Nat → Bool) (n t : Nat) : Nat := most p (fss n t) 6
def askP (p : Nat → Bool) : Nat → Nat → Int32 × Nat → Int32 × Nat
  | 0, _, s => s
  | k + 1, j, s => askP p k (j + 1) (bestP (askM p j) (fun t => nI (100 * j + t)) 11 0 s)
theorem SS.ask {p : Nat → Bool} : ∀ (k j : Nat) (s t : Int32 × Nat), SS 6 s t → SS 6 (askP p k j s) (askP p k j t)
  | 0, _, _, _, h => h
  | k + 1, j, s, t, h => by
    rw [askP, askP]
    exact SS.ask k (j + 1) _ _ (SS.best (M := 6) (fun i => most_le) 11 0 s t h)
theorem askP_zero {p : Nat → Bool} (h : ∀ j, j < 6 → p j = false) : ∀ (k j : Nat) (s : Int32 × Nat), askP p k j s = s
  | 0, _, _ => rfl
  | k + 1, j, s => by rw [askP, bestP_zero (m := askM p j) (fun i => most_none h)]; exact askP_zero h k (j + 1) s
theorem l_ask2 {K : Int32 → US → Prop} {B : US → Int32 → Int32 → Int32 → Int32 → Prop} {u : US} {b : Int32} {p : Nat → Bool} {n : Nat} (hn : n < 6) (hb : ∀ j, j < 6 → (hasB b (nI j) ↔ p j = true)) : ∀ (k i : Nat) (st : Int32 × Nat) (t : TS), i + k = 11 → st.2 ≤ 100 → (∀ t', B (uT u t') b (bestP (askM p n) (fun t => nI (100 * n + t)) k i st).1 (nI (bestP (askM p n) (fun t => nI (100 * n + t)) k i st).2) (nI n + 1)) → V_X7_ask_43 K B (k + 1) (uT u t) b st.1 (nI st.2) (nI n) (nI i)
  | 0, i, st, t, hi, hs, hK => bt (nI_lt (a := 10) (by omega) (by omega)) (hK t)
  | k + 1, i, st, t, hi, hs, hK => by
    refine bf (nI_nlt (b := i) (a := 10) |> fun _ => nI_nlt (a := 10) (b := i) (by omega) (by omega)) (r_mostSoul hn (by omega) hb (fun t' => ?_))
    have hm : askM p n i ≤ 6 := most_le
    have hE : most p (fss n i) 6 = askM p n i := rfl
    rw [bestP] at hK
    rw [nI_1]
    by_cases q : askM p n i = 0
    · rw [if_pos (Or.inl q)] at hK
      exact bt ((i0 (by omega)).mpr q) (l_ask2 hn hb k (i + 1) st t' (by omega) hs hK)
    · refine bf (fun z => q ((i0 (by omega)).mp z)) ?_
      by_cases q2 : st.2 ≤ askM p n i
      · rw [if_pos (Or.inr q2)] at hK
        exact bt (nI_le q2 (by omega)) (l_ask2 hn hb k (i + 1) st t' (by omega) hs hK)
      · rw [if_neg (fun z => z.elim q q2)] at hK
        refine bf (nI_ge (by omega) (by omega)) ?_
        have e : (100 : Int32) * nI n + nI i = nI (100 * n + i) := by
          show nI 100 * nI n + nI i = _
          rw [pk_mul, nI_add]
        rw [e]
        exact l_ask2 hn hb k (i + 1) (nI (100 * n + i), askM p n i) t' (by omega) (by show askM p n i ≤ 100; omega) hK
theorem l_ask {K : Int32 → US → Prop} {u : US} {b : Int32} {p : Nat → Bool} (hb : ∀ j, j < 6 → (hasB b (nI j) ↔ p j = true)) : ∀ (k n : Nat) (st : Int32 × Nat) (t : TS), n + k = 6 → st.2 ≤ 100 → (∀ t', K (askP p k n st).1 (uT u t')) → V_X7_ask_33 K (k + 1) (uT u t) b st.1 (nI st.2) (nI n)
  | 0, n, st, t, hi, hs, hK => bt (nI_le (a := 6) (by omega) (by omega)) (hK t)
  | k + 1, n, st, t, hi, hs, hK => by
    rw [askP] at hK
    refine bf (nI_ge (b := 6) (by omega) (by omega)) ⟨12, l_ask2 (by omega) hb 11 0 st t (by omega) hs (fun t' => ?_)⟩
    rw [nI_1]
    exact l_ask hb k (n + 1) _ t' (by omega) (bestP_le (M := 100) (fun i => Nat.le_trans most_le (by decide)) 11 0 st hs) hK
theorem ml_ask3 {K : Int32 → MS → Prop} {B1 : MS → Int32 → Int32 → Int32 → Int32 → Prop} {B : MS → Int32 → Int32 → Int32 → Int32 → Int32 → Prop} {m : MS} {b x3 x4 : Int32} {p : Nat → Bool} {n s : Nat} (hn : n < 6) (hs : s < 20) (hb : ∀ j, j < 6 → (hasB b (nI j) ↔ p j = true)) (k1 : x4 ≤ nI (askM p n s) → ∀ a, B (mA m a) b x3 x4 (nI n) (nI s + 1)) (k2 : ¬ x4 ≤ nI (askM p n s) → ∀ a, B (mA m a) b (nI (100 * n + s)) (nI (askM p n s)) (nI n) (nI s + 1)) : ∀ (k j : Nat) (a : Nat → Int32) (T : Nat → Nat), j + k = 6 → AL a T → (∀ x, T x ≤ j) → (∀ x, 16 ≤ x → T x = 0) → tl p (fss n s) k j T = tl p (fss n s) 6 0 (fun _ => 0) → V_X8_ask_56 K B1 B (k + 1) (mA m a) b x3 x4 (nI n) (nI s) (nI j)
  | 0, j, a, T, hj, ha, hB, h0, he => by
    have e : T = tl p (fss n s) 6 0 (fun _ => 0) := he
    have hB2 : ∀ x, T x ≤ 1000 := fun x => Nat.le_trans (hB x) (by omega)
    refine bt (nI_le (a := 6) (by omega) (by omega)) (m_most ha hB2 h0 ?_)
    have e2 : maxT T 16 = askM p n s := by rw [e]; rfl
    have e3 : (100 : Int32) * nI n + nI s = nI (100 * n + s) := by
      show nI 100 * nI n + nI s = _
      rw [pk_mul, nI_add]
    rw [e2]
    refine ⟨fun q => k1 q a, fun q => m_most ha hB2 h0 ?_⟩
    rw [e2, e3]; exact k2 q a
  | k + 1, j, a, T, hj, ha, hB, h0, he => by
    refine bf (nI_ge (b := 6) (by omega) (by omega)) ?_
    obtain ⟨g1, g2⟩ := fss_dec s hs n hn j (by omega)
    rw [tl] at he
    rw [nI_1]
    by_cases q : p j = true
    · rw [if_pos q] at he
      refine m_has1 ((hb j (by omega)).mpr q) (z1 (m_fussBy (vp_in_nI (by omega) (by decide)) ?_))
      have v : vp_in (nI (fss n s j)) 41 := vp_in_nI (by omega) (by decide)
      rw [g2, nI_clamp (by omega)]
      refine ⟨v, v, ml_ask3 hn hs hb k1 k2 k (j + 1) (upd a (fss n s j) (a (fss n s j) + 1)) _ (by omega) (ha.bump (by omega)) (bump_le hB) (fun x hx => ?_) he⟩
      unfold bump; rw [if_neg (by omega)]; exact h0 x hx
    · rw [if_neg q] at he
      exact m_has0 (fun z => q ((hb j (by omega)).mp z)) (z0 (ml_ask3 hn hs hb k1 k2 k (j + 1) a T (by omega) ha (fun x => Nat.le_succ_of_le (hB x)) h0 he))
theorem ml_ask2 {K : Int32 → MS → Prop} {B : MS → Int32 → Int32 → Int32 → Int32 → Prop} {m : MS} {b : Int32} {p : Nat → Bool} {n : Nat} (hn : n < 6) (hb : ∀ j, j < 6 → (hasB b (nI j) ↔ p j = true)) (hb0 : ¬ b = 0) (hp : ∃ j, j < 6 ∧ p j = true) : ∀ (k i : Nat) (st : Int32 × Nat) (a : Nat → Int32), i + k = 11 → st.2 ≤ 100 → (∀ a', B (mA m a') b (bestP (askM p n) (fun t => nI (100 * n + t)) k i st).1 (nI (bestP (askM p n) (fun t => nI (100 * n + t)) k i st).2) (nI n + 1)) → V_X8_ask_38 K B (k + 1) (mA m a) b st.1 (nI st.2) (nI n) (nI i)
  | 0, i, st, a, hi, hs, hK => bt (nI_le (a := 11) (by omega) (by omega)) (hK a)
  | k + 1, i, st, a, hi, hs, hK => by
    have hm : askM p n i ≤ 6 := most_le
    obtain ⟨j, hj, hpj⟩ := id hp
    have q : ¬ askM p n i = 0 := most_pos hj hpj (fss_dec i (by omega) n hn j hj).1
    rw [bestP] at hK
    refine bf (nI_ge (b := 11) (by omega) (by omega)) (bf hb0 (m_clear (fun a0 ha0 => ⟨7, ml_ask3 hn (by omega) hb (fun z a' => ?_) (fun z a' => ?_) 6 0 a0 _ (by omega) ha0 (fun _ => Nat.le_refl 0) (fun _ _ => rfl) rfl⟩)))
    · rw [if_pos (Or.inr ((nI_leI (by omega) (by omega)).mp z))] at hK
      rw [nI_1]
      exact ml_ask2 hn hb hb0 hp k (i + 1) st a' (by omega) hs hK
    · rw [if_neg (fun y => y.elim q (fun y => z (nI_le y (by omega))))] at hK
      rw [nI_1]
      exact ml_ask2 hn hb hb0 hp k (i + 1) (nI (100 * n + i), askM p n i) a' (by omega) (by show askM p n i ≤ 100; omega) hK
theorem ml_ask {K : Int32 → MS → Prop} {m : MS} {b : Int32} {p : Nat → Bool} (hb : ∀ j, j < 6 → (hasB b (nI j) ↔ p j = true)) (hb0 : ¬ b = 0) (hp : ∃ j, j < 6 ∧ p j = true) : ∀ (k n : Nat) (st : Int32 × Nat) (a : Nat → Int32), n + k = 6 → st.2 ≤ 100 → (∀ a', K (askP p k n st).1 (mA m a')) → V_X8_ask_28 K (k + 1) (mA m a) b st.1 (nI st.2) (nI n)
  | 0, n, st, a, hi, hs, hK => bt (nI_le (a := 6) (by omega) (by omega)) (hK a)
  | k + 1, n, st, a, hi, hs, hK => by
    rw [askP] at hK
    refine bf (nI_ge (b := 6) (by omega) (by omega)) ⟨12, ml_ask2 (by omega) hb hb0 hp 11 0 st a (by omega) hs (fun a' => ?_)⟩
    rw [nI_1]
    exact ml_ask hb hb0 hp k (n + 1) _ a' (by omega) (bestP_le (M := 100) (fun i => Nat.le_trans most_le (by decide)) 11 0 st hs) hK
theorem ml_askz {K : Int32 → MS → Prop} {m : MS} {x3 x4 : Int32} (hK : K x3 m) : ∀ (k n : Nat), n + k = 6 → V_X8_ask_28 K (k + 1) m 0 x3 x4 (nI n)
  | 0, n, hi => bt (nI_le (a := 6) (by omega) (by omega)) hK
  | k + 1, n, hi => bf (nI_ge (b := 6) (by omega) (by omega)) ⟨1, bf (by decide) (z0 (by rw [nI_1]; exact ml_askz hK k (n + 1) (by omega)))⟩
theorem p_ask : st_ask Rel := by
  intro u mm x hr
  have hC := hr.1.1
  have hI := hC.1
  by_cases h : isS u.1 x
  · refine r_isSoul1 hI h (y1 (r_soulKinds hr.1 ?_))
    have hb : ∀ j, j < 6 → (hasB (markBits u.1 x) (nI j) ↔ markFit u.1 x j = true) := fun j hj => orF_has (by decide) hj
    refine ⟨_, l_ask (u := u) (t := u.2.2.2.2.2.2.2.1) hb 6 0 (-1, 7) (by omega) (by decide) (fun t' => ?_)⟩
    show V_X8_ask _ mm _
    refine m_isSoul1 hC h (y1 (m_whatBits hr.1 ?_))
    by_cases z : markBits u.1 x = 0
    · have hz : ∀ j, j < 6 → markFit u.1 x j = false := (orF_zero (by decide)).mp z
      rw [z]
      refine ⟨_, ml_askz ⟨?_, hr⟩ 6 0 (by omega)⟩
      rw [askP_zero hz]
    · have hp : ∃ j, j < 6 ∧ markFit u.1 x j = true := by
        by_cases y : ∃ j, j < 6 ∧ markFit u.1 x j = true
        · exact y
        · exact absurd ((orF_zero (by decide)).mpr (fun j hj => by
            by_cases w : markFit u.1 x j = true
            · exact absurd ⟨j, hj, w⟩ y
            · simpa using w)) z
      refine ⟨7, ml_ask (m := mm) (a := mm.2.2.2.2.2.2.2.2.2.2.2.2.2.2.2) hb z hp 6 0 (-1, 9) (by omega) (by decide) (fun a' => ⟨?_, hr.tal t' a'⟩)⟩
      exact (SS.ask 6 0 (-1, 7) (-1, 9) (Or.inr ⟨rfl, by decide, by decide⟩)).fst
  · refine r_isSoul0 hI h (y0 ?_)
    unfold V_X7_refuseBad
    show V_X8_ask _ mm _
    exact m_isSoul0 hC h (y0 (And.intro rfl hr.bad))
