/-! ===== orders: the class's plan; step: order ===== -/
theorem and_not {A s : Nat} (hA : A < 128) : nI A &&& (nI s ^^^ (-1)) = nI (dif A s) := by
  apply Int32.toBitVec_inj.mp
  rw [Int32.toBitVec_and, Int32.toBitVec_xor, show (-1 : Int32).toBitVec = BitVec.allOnes 32 by decide]
  show BitVec.ofNat 32 A &&& (BitVec.ofNat 32 s ^^^ BitVec.allOnes 32) = BitVec.ofNat 32 (dif A s)
  apply BitVec.eq_of_getLsbD_eq
  intro i hi
  rw [BitVec.getLsbD_and, BitVec.getLsbD_xor, BitVec.getLsbD_ofNat, BitVec.getLsbD_ofNat, BitVec.getLsbD_ofNat, BitVec.getLsbD_allOnes, dif_bit hA]
  simp [hi]
theorem l_kneesOf {K : Int32 → Prop} {u : HS} {s : Nat} {c : Int32} (h : HI u) (hs : s < 128) : ∀ (k j n : Nat), j + k = HN u → K (nI (n + cnt (fun j => s.testBit j && decide (¬ hsb u j < aisleV c ∧ ¬ c ≤ hsb u j)) k j)) → V_X3_kneesOf_13 K (k + 1) u (nI s) c (aisleV c) (nI n) (nI j)
  | 0, j, n, hj, hK => bt (by show hso u ≤ nI j; rw [h.1]; exact nI_le (by omega) (by have := h.2; omega)) hK
  | k + 1, j, n, hj, hK => by
    have h7 := h.2
    have hb2 := hasB_bit (n := s) (j := j) (by omega) (by omega)
    have v : vp_in (nI j) 7 := vp_in_nI (by omega) (by decide)
    refine bf (by show ¬ hso u ≤ nI j; rw [h.1]; exact nI_ge (by omega) (by omega)) ?_
    rw [cnt] at hK
    rw [nI_1, nI_1, nI_clamp (by omega)]
    by_cases q : s.testBit j = true
    · refine r_has1 (hb2.mpr q) (z1 ⟨v, ?_⟩)
      by_cases q1 : hsb u j < aisleV c
      · rw [if_neg (by simp [q1]), Nat.zero_add] at hK
        exact bt q1 (l_kneesOf h hs k (j + 1) n (by omega) hK)
      · refine bf q1 ⟨v, ?_⟩
        by_cases q2 : c ≤ hsb u j
        · rw [if_neg (by simp [q2]), Nat.zero_add] at hK
          exact bt q2 (l_kneesOf h hs k (j + 1) n (by omega) hK)
        · rw [if_pos (by simp [q, q1, q2]), ← Nat.add_assoc] at hK
          exact bf q2 (l_kneesOf h hs k (j + 1) (n + 1) (by omega) hK)
    · rw [if_neg (by simp [q]), Nat.zero_add] at hK
      exact r_has0 (fun z => q (hb2.mp z)) (z0 (l_kneesOf h hs k (j + 1) n (by omega) hK))
theorem r_fbw {K : Int32 → Prop} {ts : TS} {u : HS} {f : Nat → Int32} {s i w : Nat} (h : RC u f) (hs : s < 128) (hi : i < HN u) (hv : ts.1 (s ||| 2 ^ i) = nI w) (k : K (nI (fzN u s i + w))) : V_X3_fussByWay K (ts, u) (nI s) (nI i) := by
  have h7 := h.1.2
  have v : vp_in (nI i) 7 := vp_in_nI (by omega) (by decide)
  have o := (or_dec s hs i (by omega)).1
  refine ⟨v, r_kneesTo h.1 ⟨v, ?_⟩⟩
  refine ⟨HN u + 1, l_kneesOf h.1 hs (HN u) 0 0 (by omega) ⟨v, r_bits (by omega) (r_fuss ?_)⟩⟩
  rw [bit_at i (by omega), nI_or, nI_clamp (n := i) (by omega), nI_clamp (n := s ||| 2 ^ i) (by omega), Nat.zero_add]
  refine ⟨vp_in_nI o (by decide), ?_⟩
  have e : fussV (hsk u i) (nI (kneesH u (hsb u i)) + nI (kS u s (hsb u i))) (hmi u + nI (bits30 s)) = nI (fzN u s i) := by
    rw [nI_add]; exact (fz_ok h s hi).1
  have e2 : fussV (hsk u i) (nI (kneesH u (hsb u i)) + nI (kS u s (hsb u i))) (hmi u + nI (bits30 s)) + ts.1 (s ||| 2 ^ i) = nI (fzN u s i + w) := by rw [e, hv, nI_add]
  have k2 : K (fussV (hsk u i) (nI (kneesH u (hsb u i)) + nI (kS u s (hsb u i))) (hmi u + nI (bits30 s)) + ts.1 (s ||| 2 ^ i)) := by rw [e2]; exact k
  exact k2
theorem lsf_none {p : Nat → Bool} : ∀ (k i : Nat), (∀ j, i ≤ j → p j = false) → lsf p k i = []
  | 0, _, _ => rfl
  | k + 1, i, h => by
    rw [lsf, if_neg (by rw [h i (Nat.le_refl i)]; decide)]
    exact lsf_none k (i + 1) (fun j hj => h j (by omega))
theorem lsf_cut {p : Nat → Bool} (r : Nat) : ∀ (k i : Nat), (∀ j, i + k ≤ j → p j = false) → lsf p (k + r) i = lsf p k i
  | 0, i, h => by rw [Nat.zero_add]; exact lsf_none r i h
  | k + 1, i, h => by
    rw [show k + 1 + r = (k + r) + 1 by omega, lsf, lsf, lsf_cut r k (i + 1) (fun j hj => h j (by omega))]
theorem lst_cut {u : HS} {A s : Nat} (h : HI u) (hA : CA u A) : lst (dif A s) = lsf (fun j => (dif A s).testBit j) (HN u) 0 := by
  have h7 := h.2
  have := lsf_cut (p := fun j => (dif A s).testBit j) (7 - HN u) (HN u) 0 (fun j hj => by
    cases hb : (dif A s).testBit j with
    | false => rfl
    | true =>
      have := (hA.2 j (dif_at hA.1 hb).2.1).1
      omega)
  rw [show HN u + (7 - HN u) = 7 by omega] at this
  exact this
theorem l_least {K : Int32 → Prop} {ts : TS} {u : HS} {f : Nat → Int32} {A s : Nat} {W : Nat → Nat} (h : RC u f) (hA : CA u A) (hs : s < 128) (hts : ts.2 = nI A) (hW : ∀ i, (dif A s).testBit i = true → ts.1 (s ||| 2 ^ i) = nI (W i) ∧ W i ≤ 1000) : ∀ (k j v : Nat), j + k = HN u → v ≤ 999999 → K (nI (mn (fun i => fzN u s i + W i) (lsf (fun i => (dif A s).testBit i) k j) v)) → V_X3_leastBehind_18 K (k + 1) (ts, u) (nI s) (nI v) (nI j)
  | 0, j, v, hj, hv, hK => bt (by show hso u ≤ nI j; rw [h.1.1]; exact nI_le (by omega) (by have := h.1.2; omega)) hK
  | k + 1, j, v, hj, hv, hK => by
    have h7 := h.1.2
    have dl := dif_lt (A := A) (s := s) hA.1
    have hb2 := hasB_bit (n := dif A s) (j := j) (by omega) (by omega)
    refine bf (by show ¬ hso u ≤ nI j; rw [h.1.1]; exact nI_ge (by omega) (by omega)) ?_
    show V_X7_has _ (ts.2 &&& (nI s ^^^ (-1))) (nI j)
    rw [hts, and_not hA.1, nI_1]
    rw [lsf] at hK
    by_cases q : (dif A s).testBit j = true
    · rw [if_pos q, mn] at hK
      obtain ⟨w1, w2⟩ := hW j q
      have f64 := fz_le h s j
      have hjN : j < HN u := by omega
      refine r_has1 (hb2.mpr q) (z1 (r_fbw (u := u) h hs hjN w1 ?_))
      have e : (if nI (fzN u s j + W j) < nI v then nI (fzN u s j + W j) else nI v) = nI (if fzN u s j + W j < v then fzN u s j + W j else v) := by
        by_cases z : fzN u s j + W j < v
        · rw [if_pos z, if_pos (nI_lt z (by omega))]
        · rw [if_neg z, if_neg (nI_nlt (by omega) (by omega))]
      rw [e]
      exact l_least h hA hs hts hW k (j + 1) _ (by omega) (by split <;> omega) hK
    · rw [if_neg q] at hK
      exact r_has0 (fun z => q (hb2.mp z)) (z0 (l_least h hA hs hts hW k (j + 1) v (by omega) hv hK))
def lenD (A s : Nat) : Nat := (lst (dif A s)).length
/-- the plan from lo on -/
def PA (u : HS) (A lo : Nat) (f : Nat → Int32) : Prop := ∀ s, lo ≤ s → s < 128 → sub s A → f s = nI (dpV (fzN u) A (lenD A s) s)
theorem dif_self {A : Nat} (hA : A < 128) : dif A A = 0 := by
  refine Nat.eq_of_testBit_eq (fun j => ?_)
  rw [dif_bit hA, Nat.zero_testBit]
  cases A.testBit j <;> rfl
theorem lst_nil : ∀ D : Nat, D < 128 → lst D = [] → D = 0 := by decide +kernel
theorem dif_pos {A s : Nat} (hA : A < 128) (hs : s < 128) (h : sub s A) (hn : ¬ s = A) : ∃ k, lenD A s = k + 1 := by
  cases hl : lenD A s with
  | succ k => exact ⟨k, rfl⟩
  | zero =>
    exfalso
    have z := lst_nil _ (dif_lt (s := s) hA) (List.length_eq_zero_iff.mp hl)
    refine hn (Nat.eq_of_testBit_eq (fun j => ?_))
    have b : (dif A s).testBit j = false := by rw [z]; exact Nat.zero_testBit j
    rw [dif_bit hA] at b
    cases hj : s.testBit j with
    | true => rw [sub_bit hs h hj]
    | false =>
      rw [hj] at b
      cases ha : A.testBit j with
      | true => rw [ha] at b; exact absurd b (by decide)
      | false => rfl
theorem PA.next {u : HS} {A lo s i k : Nat} {f : Nat → Int32} (hA : CA u A) (hs : s < 128) (hsub : sub s A) (hlo : lo ≤ s + 1) (hk : lenD A s = k + 1) (h : PA u A lo f) (hi : (dif A s).testBit i = true) : f (s ||| 2 ^ i) = nI (dpV (fzN u) A k (s ||| 2 ^ i)) := by
  obtain ⟨i7, a1, a2⟩ := dif_at hA.1 hi
  obtain ⟨o1, o2⟩ := or_dec s hs i i7
  have o2 := o2 a2
  have e := (dif_next hA.1 hi).2
  have e2 : lenD A (s ||| 2 ^ i) = k := by unfold lenD at hk ⊢; omega
  have := h (s ||| 2 ^ i) (by omega) o1 (sub_or hA.1 hs hsub hi)
  rw [e2] at this; exact this
theorem r_least {K : Int32 → Prop} {ts : TS} {u : HS} {f : Nat → Int32} {A s : Nat} (h : RC u f) (hA : CA u A) (hs : s < 128) (hsub : sub s A) (hts : ts.2 = nI A) (hP : PA u A (s + 1) ts.1) (k : K (nI (dpV (fzN u) A (lenD A s) s))) : V_X3_leastBehind K (ts, u) (nI s) := by
  have hA128 := hA.1
  by_cases e : s = A
  · subst e
    have d0 := dif_self hA.1
    refine nt (by show nI s = ts.2; rw [hts]) ⟨HN u + 1, l_least (W := fun _ => 0) h hA hs hts (fun i hi => ?_) (HN u) 0 0 (by omega) (by omega) ?_⟩
    · rw [d0, Nat.zero_testBit] at hi; exact absurd hi (by decide)
    · rw [← lst_cut h.1 hA, d0, show lst 0 = [] by decide]
      have : lenD s s = 0 := by unfold lenD; rw [d0]; decide
      rw [this] at k
      exact k
  · obtain ⟨k', hk⟩ := dif_pos hA.1 hs hsub e
    refine nf (fun z => e ?_) ⟨HN u + 1, l_least (W := fun i => dpV (fzN u) A k' (s ||| 2 ^ i)) h hA hs hts (fun i hi => ⟨hP.next hA hs hsub (Nat.le_refl _) hk hi, ?_⟩) (HN u) 0 999999 (by omega) (by omega) ?_⟩
    · have z : nI s = nI A := by rw [← hts]; exact z
      exact (nI_eq (by omega) (by omega)).mp z
    · have e := (dif_next hA.1 hi).2
      have hk2 := hk
      unfold lenD at hk2
      have l1 := dpV_le (fz_le h) hA.1 k' (s ||| 2 ^ i) (by omega)
      have l2 := lst_len _ (dif_lt (s := s) hA.1)
      show dpV (fzN u) A k' (s ||| 2 ^ i) ≤ 1000
      omega
    · rw [← lst_cut h.1 hA]
      rw [hk, dpV] at k
      exact k
theorem l_prep {K : TS × HS → Prop} {u : HS} {f : Nat → Int32} {A : Nat} (h : RC u f) (hA : CA u A) (kk : ∀ f', PA u A 0 f' → K ((f', nI A), u)) : ∀ (k : Nat) (f' : Nat → Int32), k ≤ 128 → PA u A k f' → V_X3_prepare_11 K (k + 1) ((f', nI A), u) (nI k + (-1))
  | 0, f', hk, hP => bt (by decide) (kk f' hP)
  | k + 1, f', hk, hP => by
    rw [pk_m1]
    refine bf (nI_pos (by omega)) ?_
    show (¬ (nI k &&& (nI A ^^^ (-1))) = 0 → _) ∧ ((nI k &&& (nI A ^^^ (-1))) = 0 → _)
    have dl : dif k A < 128 := dif_lt (by omega)
    rw [and_not (by omega)]
    by_cases q : dif k A = 0
    · refine nt (by rw [q]; rfl) (r_least (ts := (f', nI A)) h hA (by omega) q rfl hP ⟨vp_in_nI (by omega) (by decide), ?_⟩)
      rw [nI_clamp (by omega)]
      refine l_prep h hA kk k (upd f' k _) (by omega) (fun s h1 h2 h3 => ?_)
      by_cases e : s = k
      · subst e; rw [upd_eq]
      · rw [upd_ne e]; exact hP s (by omega) h2 h3
    · refine nf (fun z => q ((nI_eq (b := 0) (by omega) (by decide)).mp z)) (l_prep h hA kk k f' (by omega) (fun s h1 h2 h3 => ?_))
      have e : ¬ s = k := fun z => q (by rw [← z]; exact h3)
      exact hP s (by omega) h2 h3
theorem r_prep {K : TS × HS → Prop} {ts : TS} {u : HS} {f : Nat → Int32} (h : RC u f) (kk : ∀ f', PA u (cam u) 0 f' → K ((f', nI (cam u)), u)) : V_X3_prepare K (ts, u) := by
  refine r_can h.1 ⟨129, ?_⟩
  exact l_prep h (cam_ok h.1) kk 128 ts.1 (by omega) (fun s h1 h2 _ => absurd h2 (by omega))
def ftI (G : Nat → Nat) (v : Nat) : List Nat → Int32
  | [] => -1
  | i :: l => if G i = v then nI i else ftI G v l
theorem ftI_ft {G : Nat → Nat} {v : Nat} : ∀ (l : List Nat), (∃ i, i ∈ l ∧ G i = v) → ftI G v l = nI (ft G v l) ∧ ft G v l ∈ l
  | [], h => by obtain ⟨i, h1, _⟩ := h; exact absurd h1 (by simp)
  | j :: l, h => by
    rw [ftI, ft]
    by_cases q : G j = v
    · rw [if_pos q, if_pos q]; exact ⟨rfl, by simp⟩
    · rw [if_neg q, if_neg q]
      obtain ⟨i, h1, h2⟩ := h
      rcases List.mem_cons.mp h1 with rfl | h1
      · exact absurd h2 q
      · obtain ⟨a, b⟩ := ftI_ft l ⟨i, h1, h2⟩
        exact ⟨a, List.mem_cons_of_mem _ b⟩
theorem l_nextOf {K : Int32 → Prop} {ts : TS} {u : HS} {f : Nat → Int32} {A s V : Nat} {W : Nat → Nat} (h : RC u f) (hA : CA u A) (hs : s < 128) (hts : ts.2 = nI A) (hV : ts.1 s = nI V) (hV2 : V ≤ 999999) (hW : ∀ i, (dif A s).testBit i = true → ts.1 (s ||| 2 ^ i) = nI (W i) ∧ W i ≤ 1000) : ∀ (k j : Nat), j + k = HN u → K (ftI (fun i => fzN u s i + W i) V (lsf (fun i => (dif A s).testBit i) k j)) → V_X3_nextOf_2 K (k + 1) (ts, u) (nI s) (nI j)
  | 0, j, hj, hK => bt (by show hso u ≤ nI j; rw [h.1.1]; exact nI_le (by omega) (by have := h.1.2; omega)) hK
  | k + 1, j, hj, hK => by
    have h7 := h.1.2
    have dl := dif_lt (A := A) (s := s) hA.1
    have hb2 := hasB_bit (n := dif A s) (j := j) (by omega) (by omega)
    refine bf (by show ¬ hso u ≤ nI j; rw [h.1.1]; exact nI_ge (by omega) (by omega)) ?_
    show V_X7_has _ (ts.2 &&& (nI s ^^^ (-1))) (nI j)
    rw [hts, and_not hA.1, nI_1]
    rw [lsf] at hK
    by_cases q : (dif A s).testBit j = true
    · rw [if_pos q, ftI] at hK
      obtain ⟨w1, w2⟩ := hW j q
      have f64 := fz_le h s j
      have hjN : j < HN u := by omega
      refine r_has1 (hb2.mpr q) (z1 (r_fbw (u := u) h hs hjN w1 ⟨vp_in_nI hs (by decide), ?_⟩))
      rw [nI_clamp (by omega)]
      show (¬ nI (fzN u s j + W j) = ts.1 s → _) ∧ (nI (fzN u s j + W j) = ts.1 s → _)
      rw [hV]
      by_cases z : fzN u s j + W j = V
      · rw [if_pos z] at hK
        exact nt (by rw [z]) hK
      · rw [if_neg z] at hK
        exact nf (fun y => z ((nI_eq (by omega) (by omega)).mp y)) (l_nextOf h hA hs hts hV hV2 hW k (j + 1) (by omega) hK)
    · rw [if_neg q] at hK
      exact r_has0 (fun z => q (hb2.mp z)) (z0 (l_nextOf h hA hs hts hV hV2 hW k (j + 1) (by omega) hK))
theorem l_who {K : Int32 → Prop} {ts : TS} {u : HS} {f : Nat → Int32} {A k N : Nat} (h : RC u f) (hA : CA u A) (hts : ts.2 = nI A) (hP : PA u A 0 ts.1) (hk : k < N) (hN : N ≤ 7) : ∀ (r s p : Nat) (who : Int32), p + r = N → lenD A s = r → s < 128 → sub s A → K (if k < p then who else nI ((pth (fzN u) A r s).getD (k - p) 0)) → V_X3_whoComes_8 K (r + 1) (ts, u) (nI k) (nI s) who (nI p)
  | 0, s, p, who, hp, hr, hs, hsub, hK => by
    rw [if_pos (by omega)] at hK
    exact bt (nI_lt (by omega) (by omega)) hK
  | r + 1, s, p, who, hp, hr, hs, hsub, hK => by
    by_cases q : k < p
    · rw [if_pos q] at hK
      exact bt (nI_lt q (by omega)) hK
    · rw [if_neg q, pth] at hK
      refine bf (nI_nlt (by omega) (by omega)) (bf (nI_ge (b := 7) (by omega) (by omega)) ?_)
      have hb := fun i (hi : (dif A s).testBit i = true) => dpV_le (fz_le h) hA.1 r (s ||| 2 ^ i) (by have e := (dif_next hA.1 hi).2; unfold lenD at hr; omega)
      have hV : ts.1 s = nI (dpV (fzN u) A (r + 1) s) := by
        have := hP s (Nat.zero_le s) hs hsub
        rw [hr] at this; exact this
      have l7 : dpV (fzN u) A (r + 1) s ≤ 64 * (r + 1) := dpV_le (fz_le h) hA.1 (r + 1) s hr
      refine ⟨HN u + 1, l_nextOf (W := fun i => dpV (fzN u) A r (s ||| 2 ^ i)) h hA hs hts hV (by omega) (fun i hi => ⟨hP.next hA hs hsub (Nat.zero_le _) hr hi, by have := hb i hi; show dpV (fzN u) A r (s ||| 2 ^ i) ≤ 1000; omega⟩) (HN u) 0 (by omega) ?_⟩
      rw [← lst_cut h.1 hA]
      have ex : ∃ i, i ∈ lst (dif A s) ∧ (fun i => fzN u s i + dpV (fzN u) A r (s ||| 2 ^ i)) i = dpV (fzN u) A (r + 1) s := by
        rw [dpV]
        rcases mn_is (G := fun i => fzN u s i + dpV (fzN u) A r (s ||| 2 ^ i)) (lst (dif A s)) 999999 with z | ⟨i, i1, i2⟩
        · rw [dpV, z] at l7; omega
        · exact ⟨i, i1, i2.symm⟩
      obtain ⟨f1, f2⟩ := ftI_ft _ ex
      have hi := (lst_mem.mp f2).2
      have hi7 := (lst_mem.mp f2).1
      rw [f1]
      generalize ft (fun i => fzN u s i + dpV (fzN u) A r (s ||| 2 ^ i)) (dpV (fzN u) A (r + 1) s) (lst (dif A s)) = i at *
      refine nf (nI_ne_m1 (by omega)) ?_
      rw [bit_at i (by omega), nI_or, nI_1]
      have e := (dif_next hA.1 hi).2
      refine l_who h hA hts hP hk hN r (s ||| 2 ^ i) (p + 1) (nI i) (by omega) (by unfold lenD at hr ⊢; omega) (or_dec s hs i hi7).1 (sub_or hA.1 hs hsub hi) ?_
      by_cases z : k < p + 1
      · rw [if_pos z]
        rw [show k - p = 0 by omega] at hK
        exact hK
      · rw [if_neg z]
        rw [show k - p = (k - (p + 1)) + 1 by omega] at hK
        exact hK
theorem pth_len {F : Nat → Nat → Nat} {A : Nat} : ∀ (k s : Nat), (pth F A k s).length = k
  | 0, _ => rfl
  | k + 1, s => by rw [pth, List.length_cons, pth_len k]
theorem dif_zero {A : Nat} (hA : A < 128) : dif A 0 = A := by
  refine Nat.eq_of_testBit_eq (fun j => ?_)
  rw [dif_bit hA, Nat.zero_testBit]; simp
theorem bits_len : ∀ A : Nat, A < 128 → bits30 A = (lst A).length := by decide +kernel
/-- the model's whole search -/
theorem m_order {K : Int32 → MS → Prop} {u : HS} {m : MS} {T Bs : Nat → Int32} {x : Int32} (hR : RH u m.1) (hT : AR T (lst (cam u))) (hK : ∀ g T' Bs', AR Bs' (pth (fzN u) (cam u) (lst (cam u)).length 0) → ((¬ x = -1 → (vp_in x 7 ∧ K (Bs' x.toNatClampNeg) (mO m g T' Bs'))) ∧ (x = -1 → K (nI (dpV (fzN u) (cam u) (lst (cam u)).length 0)) (mO m g T' Bs')))) : ∃ n, V_X8_order_32 K n (mO m m.2.1 T Bs) x (nI (lst (cam u)).length) 9999 1 := by
  have hA := cam_ok hR.1.1
  have d0 := dif_zero hA.1
  have l7 := lst_len _ hA.1
  obtain ⟨c1, c2, c3⟩ := ch_all (lst (cam u)).length (cam u) hA.1 rfl
  have best := enm_best (F := fzN u) (A := cam u) (fz_le hR.1) hA.1 (lst (cam u)).length 0 0 [] 9999 [] (by rw [d0])
  have dl := dpV_le (F := fzN u) (fz_le hR.1) hA.1 (lst (cam u)).length 0 (by rw [d0])
  have vl := fun q hq => enm_vld (A := cam u) hA.1 (lst (cam u)).length 0 q (by rw [d0]) hq
  rw [if_pos (by omega), d0] at best
  rw [d0] at vl
  have es : (fun (acc : Nat × List Nat) q => if 0 + cost (fzN u) 0 q < acc.1 then (0 + cost (fzN u) 0 q, [] ++ q) else acc) = stp u := by
    funext acc q
    unfold stp
    rw [Nat.zero_add, List.nil_append]
  rw [es, Nat.zero_add, List.nil_append] at best
  generalize enm (lst (cam u)).length (lst (cam u)) = E at *
  cases E with
  | nil => exact absurd c2 (by simp)
  | cons p L =>
    have ep : p = lst (cam u) := by simpa using c2
    refine ⟨L.length + 2, ?_⟩
    exact ml_ord (R := (dpV (fzN u) (cam u) (lst (cam u)).length 0, pth (fzN u) (cam u) (lst (cam u)).length 0)) hR hA l7 hK L p (9999, []) m.2.1 T Bs c1 vl (by rw [ep]; exact hT) (fun j hj => absurd hj (by show ¬ j < 0; omega)) (Nat.le_refl _) best
def uP (u : US) (t : TS) : US := (u.1, u.2.1, u.2.2.1, u.2.2.2.1, u.2.2.2.2.1, u.2.2.2.2.2.1, t, u.2.2.2.2.2.2.2)
theorem Rel.plan {u : US} {m : MS} (h : Rel u m) (t : TS) : Rel (uP u t) m := h
theorem p_order : st_order Rel := by
  intro u mm x hr
  have hH := hr.1
  have hC := hH.1
  have hI := hC.1
  have hA := cam_ok hI
  have A128 := hA.1
  have l7 := lst_len _ hA.1
  have bl := bits_len _ hA.1
  have d0 := dif_zero hA.1
  have len0 : lenD (cam u.1) 0 = (lst (cam u.1)).length := by unfold lenD; rw [d0]
  by_cases h1 : -1 ≤ x
  · refine bt h1 (r_prep (f := mm.1) hC (fun f' hP => ?_))
    have hU : ∀ t, Rel (uP u t) mm := fun t => hr.plan t
    have v0 : f' 0 = nI (dpV (fzN u.1) (cam u.1) (lst (cam u.1)).length 0) := by
      have := hP 0 (Nat.le_refl 0) (by decide) (Nat.zero_and _)
      rw [len0] at this; exact this
    have md : ∀ r t, (nI (lst (cam u.1)).length ≤ x → r = -5) → (¬ nI (lst (cam u.1)).length ≤ x → (x = -1 → r = nI (dpV (fzN u.1) (cam u.1) (lst (cam u.1)).length 0)) ∧ (¬ x = -1 → vp_in x 7 ∧ x.toNatClampNeg < (lst (cam u.1)).length ∧ r = nI ((pth (fzN u.1) (cam u.1) (lst (cam u.1)).length 0).getD x.toNatClampNeg 0))) → V_X8_order (fun r2 mm2 => r = r2 ∧ Rel (uP u t) mm2) mm x := by
      intro r t g1 g2
      refine bt h1 (m_can hC (fun T hT => ?_))
      refine ⟨fun q => ?_, fun q => ?_⟩
      · have nq : ¬ nI (lst (cam u.1)).length ≤ x := fun z => Int32.lt_irrefl (Int32.lt_of_lt_of_le q z)
        obtain ⟨e1, e2⟩ := g2 nq
        refine m_order hH hT (fun g T' Bs' hB => ⟨fun z => ?_, fun z => ⟨e1 z, (hU t).ord _ _ _⟩⟩)
        obtain ⟨w1, w2, w3⟩ := e2 z
        refine ⟨w1, ?_, (hU t).ord _ _ _⟩
        rw [w3]
        exact (hB _ (by rw [pth_len]; exact w2)).symm
      · exact ⟨g1 (Int32.not_lt.mp q), (hU t).ord _ _ _⟩
    refine ⟨fun q => ?_, fun q => ?_⟩
    · have x0 : ¬ x < 0 := by
        intro z
        have a1 := Int32.le_iff_toInt_le.mp h1
        have a2 := Int32.lt_iff_toInt_lt.mp z
        rw [show (-1 : Int32).toInt = -1 by decide] at a1
        rw [show (0 : Int32).toInt = 0 by decide] at a2
        exact q (Int32.toInt_inj.mp (by rw [show (-1 : Int32).toInt = -1 by decide]; omega))
      obtain ⟨k, hk, rfl⟩ := nI_of x0
      refine r_bits (by omega) ?_
      rw [bl]
      by_cases z : (lst (cam u.1)).length ≤ k
      · exact bt (nI_le z hk) (md (-5) (f', nI (cam u.1)) (fun _ => rfl) (fun w => absurd (nI_le z hk) w))
      · have nz : ¬ nI (lst (cam u.1)).length ≤ nI k := nI_ge (by omega) (by omega)
        refine bf nz ⟨(lst (cam u.1)).length + 1, ?_⟩
        refine l_who (ts := (f', nI (cam u.1))) hC hA rfl hP (by omega) l7 (lst (cam u.1)).length 0 0 (-1) (by omega) len0 (by decide) (Nat.zero_and _) ?_
        rw [if_neg (by omega), Nat.sub_zero]
        refine md _ (f', nI (cam u.1)) (fun w => absurd w nz) (fun _ => ⟨fun w => absurd w q, fun _ => ⟨vp_in_nI (by omega) (by decide), ?_, ?_⟩⟩)
        · rw [nI_clamp hk]; omega
        · rw [nI_clamp hk]
    · have nz : ¬ nI (lst (cam u.1)).length ≤ x := by
        rw [q]
        exact fun w => Int32.lt_irrefl (Int32.lt_of_lt_of_le (m1_lt (i := (lst (cam u.1)).length) (by omega)) w)
      exact md (f' 0) (f', nI (cam u.1)) (fun w => absurd w nz) (fun _ => ⟨fun _ => v0, fun w => absurd q w⟩)
  · refine bf h1 ?_
    unfold V_X7_refuseBad
    show V_X8_order _ mm _
    exact bf h1 (And.intro rfl hr.bad)
