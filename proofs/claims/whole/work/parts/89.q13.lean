/-! ===== orders: those who can come ===== -/
def nsB (u : HS) (b : Nat) (c : Int32) (j : Nat) : Bool := !(b.testBit j) || decide (¬ hsb u j = c)
def canB (u : HS) (b i : Nat) : Bool := decide (hce u i = -1) && (freeB u (hsb u i) && allF (nsB u b (hsb u i)) (HN u) 0)
def caM (u : HS) : Nat → Nat → Nat → Nat
  | 0, _, b => b
  | k + 1, i, b => caM u k (i + 1) (if canB u b i = true then b ||| 2 ^ i else b)
theorem l_hasStub {K : Int32 → Prop} {u : HS} {b : Nat} {c : Int32} (h : HI u) (hb : b < 128) : ∀ (k j : Nat), j + k = HN u → K (b01 (!(allF (nsB u b c) k j))) → V_X3_hasStub_2 K (k + 1) u (nI b) c (nI j)
  | 0, j, hj, hK => bt (by show hso u ≤ nI j; rw [h.1]; exact nI_le (by omega) (by have := h.2; omega)) hK
  | k + 1, j, hj, hK => by
    have h7 := h.2
    have hb2 := hasB_bit (n := b) (j := j) (by omega) (by omega)
    refine bf (by show ¬ hso u ≤ nI j; rw [h.1]; exact nI_ge (by omega) (by omega)) ?_
    rw [allF] at hK
    rw [nI_1]
    by_cases q : b.testBit j = true
    · refine r_has1 (hb2.mpr q) (z1 ⟨vp_in_nI (by omega) (by decide), ?_⟩)
      rw [nI_clamp (by omega)]
      by_cases q2 : hsb u j = c
      · rw [show nsB u b c j = false by simp [nsB, q, q2], Bool.false_and] at hK
        exact nt q2 hK
      · rw [show nsB u b c j = true by simp [nsB, q2], Bool.true_and] at hK
        exact nf q2 (l_hasStub h hb k (j + 1) (by omega) hK)
    · rw [show nsB u b c j = true by simp [nsB, q], Bool.true_and] at hK
      exact r_has0 (fun z => q (hb2.mp z)) (z0 (l_hasStub h hb k (j + 1) (by omega) hK))
theorem p2_le {i : Nat} (hi : i ≤ 7) : 2 ^ i ≤ 128 := by
  rw [show 128 = 2 ^ 7 by decide]; exact Nat.pow_le_pow_right (by decide) hi
theorem or_lt {b i : Nat} (hb : b < 2 ^ i) : b ||| 2 ^ i < 2 ^ (i + 1) := by
  refine Nat.or_lt_two_pow ?_ ?_
  · rw [Nat.pow_succ]; omega
  · rw [Nat.pow_succ]; have := Nat.two_pow_pos i; omega
theorem up_lt {b i : Nat} (hb : b < 2 ^ i) : b < 2 ^ (i + 1) := by rw [Nat.pow_succ]; omega
theorem l_can {K : Int32 → Prop} {u : HS} (h : HI u) : ∀ (k i b : Nat), i + k = HN u → b < 2 ^ i → K (nI (caM u k i b)) → V_X3_whoCanCome_4 K (k + 1) u (nI b) (nI i)
  | 0, i, b, hi, hb, hK => bt (by show hso u ≤ nI i; rw [h.1]; exact nI_le (by omega) (by have := h.2; omega)) hK
  | k + 1, i, b, hi, hb, hK => by
    have h7 := h.2
    have v : vp_in (nI i) 7 := vp_in_nI (by omega) (by decide)
    have cl : (nI i).toNatClampNeg = i := nI_clamp (by omega)
    have b128 : b < 128 := Nat.lt_of_lt_of_le hb (p2_le (by omega))
    refine bf (by show ¬ hso u ≤ nI i; rw [h.1]; exact nI_ge (by omega) (by omega)) ?_
    rw [caM] at hK
    rw [nI_1, bit_at i (by omega), nI_or, cl]
    have skip : ¬ canB u b i = true → V_X3_whoCanCome_4 K (k + 1) u (nI b) (nI (i + 1)) := fun q => by
      rw [if_neg q] at hK
      exact l_can h k (i + 1) b (by omega) (up_lt hb) hK
    by_cases q1 : hce u i = -1
    · refine r_sits0 v (by rw [cl]; exact q1) (y0 ⟨v, ?_⟩)
      by_cases q2 : freeB u (hsb u i) = true
      · refine r_isFree1 h (freeB1 q2) (z1 ⟨v, ⟨_, l_hasStub h b128 (HN u) 0 (by omega) ?_⟩⟩)
        by_cases q3 : allF (nsB u b (hsb u i)) (HN u) 0 = true
        · have c : canB u b i = true := by unfold canB; rw [q2, q3]; simp [q1]
          rw [if_pos c] at hK
          show (¬ b01 (!(allF (nsB u b (hsb u i)) (HN u) 0)) = 0 → _) ∧ (b01 (!(allF (nsB u b (hsb u i)) (HN u) 0)) = 0 → _)
          rw [q3]
          exact y0 (l_can h k (i + 1) (b ||| 2 ^ i) (by omega) (or_lt hb) hK)
        · show (¬ b01 (!(allF (nsB u b (hsb u i)) (HN u) 0)) = 0 → _) ∧ (b01 (!(allF (nsB u b (hsb u i)) (HN u) 0)) = 0 → _)
          rw [show allF (nsB u b (hsb u i)) (HN u) 0 = false by simpa using q3]
          refine y1 (skip (fun z => q3 ?_))
          unfold canB at z
          rw [Bool.and_eq_true, Bool.and_eq_true] at z
          exact z.2.2
      · refine r_isFree0 h (freeB0 q2) (z0 (skip (fun z => q2 ?_)))
        unfold canB at z
        rw [Bool.and_eq_true, Bool.and_eq_true] at z
        exact z.2.1
    · refine r_sits1 v (by rw [cl]; exact q1) (y1 (skip (fun z => q1 ?_)))
      unfold canB at z
      rw [Bool.and_eq_true] at z
      simpa using z.1
theorem lst_app : ∀ i : Nat, i < 7 → ∀ b : Nat, b < 2 ^ i → lst (b ||| 2 ^ i) = lst b ++ [i] := by decide +kernel
theorem ml_51z {K : Int32 → MS → Prop} {B : MS → Int32 → Int32 → Prop} {M : MS} {n : Nat} {x2 : Int32} (hn : n ≤ 7) (hB : B M (nI n) (x2 + 1)) : ∀ (k j : Nat), j + k = n → V_X8_layTried_51 K B (k + 1) M (nI n) x2 0 (nI j)
  | 0, j, hj => bt (nI_le (by omega) (by omega)) (z0 hB)
  | k + 1, j, hj => bf (nI_ge (by omega) (by omega)) (z0 (by rw [nI_1]; exact ml_51z hn hB k (j + 1) (by omega)))
theorem ml_51 {K : Int32 → MS → Prop} {B : MS → Int32 → Int32 → Prop} {u : HS} {m : MS} {g T Bs : Nat → Int32} {n i : Nat} (hR : RC u m.1) (hi : i < HN u) : ∀ (l : List Nat) (j : Nat), j + l.length = n → n ≤ i → (∀ x, x < l.length → T (j + x) = nI (l.getD x 0)) → (∀ x, x ∈ l → x < HN u) → (¬ (∀ x, x ∈ l → ¬ hsb u x = hsb u i) → B (mO m g T Bs) (nI n) (nI i + 1)) → ((∀ x, x ∈ l → ¬ hsb u x = hsb u i) → B (mO m g (upd T n (nI i)) Bs) (nI n + 1) (nI i + 1)) → V_X8_layTried_51 K B (l.length + 1) (mO m g T Bs) (nI n) (nI i) 1 (nI j)
  | [], j, hj, hn, hT, hl, k0, k1 => by
    have h7 := hR.1.2
    have hj : j + 0 = n := hj
    refine bt (nI_le (by omega) (by omega)) (z1 ⟨vp_in_nI (by omega) (by decide), ?_⟩)
    rw [nI_clamp (by omega)]
    exact k1 (fun x hx => absurd hx (by simp))
  | a :: l, j, hj, hn, hT, hl, k0, k1 => by
    have h7 := hR.1.2
    have hj : j + (l.length + 1) = n := hj
    have ha := hl a (by simp)
    refine bf (nI_ge (by omega) (by omega)) (z1 ⟨vp_in_nI (by omega) (by decide), ?_⟩)
    show V_X8_soulOf (fun r1 => V_X8_soulOf (fun r2 => ((r1 = r2 → V_X8_layTried_51 K B (l.length + 1) (mO m g T Bs) (nI n) (nI i) 0 (nI j + 1)) ∧ (¬ r1 = r2 → V_X8_layTried_51 K B (l.length + 1) (mO m g T Bs) (nI n) (nI i) 1 (nI j + 1)))) m.1 (nI i) 1) m.1 (T (nI j).toNatClampNeg) 1
    have t0 : T j = nI a := hT 0 (by show 0 < l.length + 1; omega)
    rw [nI_clamp (by omega), t0, nI_1]
    refine m_soulOf 1 (by omega) (by decide) (m_soulOf 1 (by omega) (by decide) ?_)
    rw [show 9 + 3 * a + 1 = 10 + 3 * a by omega, show 9 + 3 * i + 1 = 10 + 3 * i by omega, ← (hR.2.2.2.2.2.2.1 a ha).2.1, ← (hR.2.2.2.2.2.2.1 i hi).2.1]
    by_cases q : hsb u a = hsb u i
    · exact bt q (ml_51z (by omega) (k0 (fun z => z a (by simp) q)) l.length (j + 1) (by omega))
    · refine bf q (ml_51 hR hi l (j + 1) (by omega) hn (fun x hx => ?_) (fun x hx => hl x (List.mem_cons_of_mem _ hx)) (fun z => k0 (fun w => z (fun x hx => w x (List.mem_cons_of_mem _ hx)))) (fun z => k1 (fun x hx => ?_)))
      · have := hT (x + 1) (by show x + 1 < l.length + 1; omega)
        rw [show j + 1 + x = j + (x + 1) by omega]; exact this
      · rcases List.mem_cons.mp hx with rfl | hx
        · exact q
        · exact z x hx
theorem lst_le : ∀ i : Nat, i ≤ 7 → ∀ b : Nat, b < 2 ^ i → (lst b).length ≤ i := by decide +kernel
theorem bit_lt {b i j : Nat} (hb : b < 2 ^ i) (hj : b.testBit j = true) : j < i := by
  rcases Nat.lt_or_ge j i with h | h
  · exact h
  · rw [Nat.testBit_lt_two_pow (Nat.lt_of_lt_of_le hb (Nat.pow_le_pow_right (by decide) h))] at hj
    exact absurd hj (by decide)
theorem ns_iff {u : HS} {b i : Nat} (hb : b < 2 ^ i) (hi : i < HN u) (h7 : HN u ≤ 7) : allF (nsB u b (hsb u i)) (HN u) 0 = true ↔ ∀ x, x ∈ lst b → ¬ hsb u x = hsb u i := by
  rw [allF_spec]
  refine ⟨fun h x hx => ?_, fun h j _ hj => ?_⟩
  · obtain ⟨x7, xb⟩ := lst_mem.mp hx
    have := bit_lt hb xb
    have h1 := h x (by omega) (by omega)
    simpa [nsB, xb] using h1
  · by_cases q : b.testBit j = true
    · have := h j (lst_mem.mpr ⟨by omega, q⟩)
      simp [nsB, this]
    · simp [nsB, q]
theorem ml_can {K : Int32 → MS → Prop} {u : HS} {m : MS} {g Bs : Nat → Int32} (hR : RC u m.1) {A : Nat} (kk : ∀ T, AR T (lst A) → K (nI (lst A).length) (mO m g T Bs)) : ∀ (k i b : Nat) (T : Nat → Int32), i + k = HN u → b < 2 ^ i → caM u k i b = A → AR T (lst b) → V_X8_layTried_4 K (k + 1) (mO m g T Bs) (nI (lst b).length) (nI i)
  | 0, i, b, T, hi, hb, hA, hT => by
    have e : b = A := hA
    subst e
    exact bt (by show m.1 8 ≤ _; rw [hR.2.1, hR.1.1]; exact nI_le (by omega) (by have := hR.1.2; omega)) (kk T hT)
  | k + 1, i, b, T, hi, hb, hA, hT => by
    have h7 := hR.1.2
    have ll := lst_le i (by omega) b hb
    refine bf (by show ¬ m.1 8 ≤ _; rw [hR.2.1, hR.1.1]; exact nI_ge (by omega) (by omega)) ?_
    rw [caM] at hA
    have iff := ns_iff (u := u) hb (by omega) h7
    have skip : ¬ canB u b i = true → V_X8_layTried_4 K (k + 1) (mO m g T Bs) (nI (lst b).length) (nI i + 1) := fun q => by
      rw [if_neg q] at hA
      rw [nI_1]
      exact ml_can hR kk k (i + 1) b T (by omega) (up_lt hb) hA hT
    have zz : ¬ canB u b i = true → ∃ n4, V_X8_layTried_51 K (fun v y0 y1 => V_X8_layTried_4 K (k + 1) v y0 y1) n4 (mO m g T Bs) (nI (lst b).length) (nI i) 0 0 := fun q => ⟨(lst b).length + 1, ml_51z (by omega) (skip q) _ 0 (by omega)⟩
    by_cases q1 : hce u i = -1
    · refine m_isOut1 (mm := mO m g T Bs) hR (by omega) q1 (z1 ?_)
      show V_X8_soulOf _ m.1 _ _
      refine m_soulOf 1 (by omega) (by decide) ?_
      rw [show 9 + 3 * i + 1 = 10 + 3 * i by omega, ← (hR.2.2.2.2.2.2.1 i (by omega)).2.1]
      show V_X8_isFree _ m.1 _
      by_cases q2 : freeB u (hsb u i) = true
      · refine m_isFree1 hR (freeB1 q2) (z1 ⟨(lst b).length + 1, ?_⟩)
        refine ml_51 hR (by omega) (lst b) 0 (by omega) ll (fun x hx => by rw [Nat.zero_add]; exact hT x hx) (fun x hx => by have := bit_lt hb (lst_mem.mp hx).2; omega) (fun z => ?_) (fun z => ?_)
        · refine skip (fun w => z ?_)
          unfold canB at w
          rw [Bool.and_eq_true, Bool.and_eq_true] at w
          exact iff.mp w.2.2
        · have c : canB u b i = true := by unfold canB; rw [q2, iff.mpr z]; simp [q1]
          rw [if_pos c] at hA
          have la := lst_app i (by omega) b hb
          have len : (lst (b ||| 2 ^ i)).length = (lst b).length + 1 := by rw [la, List.length_append]; rfl
          rw [nI_1, nI_1, ← len]
          refine ml_can hR kk k (i + 1) (b ||| 2 ^ i) _ (by omega) (or_lt hb) hA (fun j hj => ?_)
          rw [la]
          by_cases e : j = (lst b).length
          · subst e
            rw [upd_eq, List.getD_eq_getElem?_getD, List.getElem?_append_right (Nat.le_refl _), Nat.sub_self]; rfl
          · rw [upd_ne e, List.getD_eq_getElem?_getD, List.getElem?_append_left (by omega), ← List.getD_eq_getElem?_getD]
            exact hT j (by omega)
      · refine m_isFree0 hR (freeB0 q2) (z0 (zz (fun z => q2 ?_)))
        unfold canB at z
        rw [Bool.and_eq_true, Bool.and_eq_true] at z
        exact z.2.1
    · refine m_isOut0 (mm := mO m g T Bs) hR (by omega) q1 (z0 (zz (fun z => q1 ?_)))
      unfold canB at z
      rw [Bool.and_eq_true] at z
      simpa using z.1
/-- what is true of them -/
def CP (u : HS) (b : Nat) : Prop := ∀ i, b.testBit i = true → i < HN u ∧ hce u i = -1 ∧ freeB u (hsb u i) = true ∧ ∀ j, b.testBit j = true → ¬ j = i → ¬ hsb u j = hsb u i
theorem CP.all {u : HS} (h : HI u) : ∀ (k i b : Nat), i + k = HN u → b < 2 ^ i → CP u b → CP u (caM u k i b) ∧ caM u k i b < 2 ^ (HN u)
  | 0, i, b, hi, hb, hc => by
    have e : i = HN u := by omega
    rw [← e]
    exact ⟨hc, hb⟩
  | k + 1, i, b, hi, hb, hc => by
    have h7 := h.2
    rw [caM]
    by_cases q : canB u b i = true
    · rw [if_pos q]
      refine CP.all h k (i + 1) (b ||| 2 ^ i) (by omega) (or_lt hb) ?_
      unfold canB at q
      rw [Bool.and_eq_true, Bool.and_eq_true] at q
      have q1 : hce u i = -1 := by simpa using q.1
      have q3 := (ns_iff (u := u) hb (by omega) h7).mp q.2.2
      have new : ∀ j, b.testBit j = true → ¬ hsb u j = hsb u i := fun j hj => q3 j (lst_mem.mpr ⟨by have := bit_lt hb hj; omega, hj⟩)
      intro x hx
      rw [or_bit] at hx
      by_cases e : i = x
      · subst e
        refine ⟨by omega, q1, q.2.1, fun j hj hji => ?_⟩
        rw [or_bit, show decide (i = j) = false by simpa using fun z => hji z.symm, Bool.or_false] at hj
        exact new j hj
      · rw [show decide (i = x) = false by simpa using e, Bool.or_false] at hx
        obtain ⟨c1, c2, c3, c4⟩ := hc x hx
        refine ⟨c1, c2, c3, fun j hj hjx => ?_⟩
        rw [or_bit] at hj
        by_cases e2 : i = j
        · subst e2; exact fun z => new x hx z.symm
        · rw [show decide (i = j) = false by simpa using e2, Bool.or_false] at hj
          exact c4 j hj hjx
    · rw [if_neg q]
      exact CP.all h k (i + 1) b (by omega) (up_lt hb) hc
/-- the set of them -/
def cam (u : HS) : Nat := caM u (HN u) 0 0
theorem cam_ok {u : HS} (h : HI u) : CA u (cam u) := by
  obtain ⟨h1, h2⟩ := CP.all h (HN u) 0 0 (by omega) (by decide) (fun i hi => by rw [Nat.zero_testBit] at hi; exact absurd hi (by decide))
  exact ⟨Nat.lt_of_lt_of_le h2 (p2_le h.2), h1⟩
theorem m_can {K : Int32 → MS → Prop} {u : HS} {m : MS} (hR : RC u m.1) (kk : ∀ T, AR T (lst (cam u)) → K (nI (lst (cam u)).length) (mO m m.2.1 T m.2.2.2.2.2.2.2.2.2.2.2.2.2.2.1)) : V_X8_layTried K m := ⟨HN u + 1, ml_can (A := cam u) hR kk (HN u) 0 0 m.2.2.2.2.2.2.2.2.2.2.2.2.2.1 (by omega) (by decide) rfl (fun j hj => absurd hj (by show ¬ j < 0; omega))⟩
theorem r_can {K : Int32 → Prop} {u : HS} (h : HI u) (k : K (nI (cam u))) : V_X3_whoCanCome K u := ⟨_, l_can h (HN u) 0 0 (by omega) (by decide) k⟩
