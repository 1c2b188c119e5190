/-! ===== step: swaps ===== -/
def ownP (u : HS) (i j : Nat) : Bool := decide (hce u j = -1 ∨ ¬ hsb u j = hsb u i)
def ownB (u : HS) (i : Nat) : Bool := decide (¬ hce u i = -1) && allF (ownP u i) i 0
theorem allF_spec {p : Nat → Bool} : ∀ (k i : Nat), allF p k i = true ↔ ∀ j, i ≤ j → j < i + k → p j = true
  | 0, i => ⟨fun _ j h1 h2 => absurd h2 (by omega), fun _ => rfl⟩
  | k + 1, i => by
    rw [allF, Bool.and_eq_true, allF_spec k (i + 1)]
    refine ⟨fun h j h1 h2 => ?_, fun h => ⟨h i (Nat.le_refl i) (by omega), fun j h1 h2 => h j (by omega) (by omega)⟩⟩
    by_cases e : j = i
    · subst e; exact h.1
    · exact h.2 j (by omega) (by omega)
theorem l_owns {K : Int32 → Prop} {u : HS} {i : Nat} (hi : i < 7) : ∀ (k j : Nat), j + k = i → K (b01 (allF (ownP u i) k j)) → V_X2_owns_12 K (k + 1) u (nI i) (nI j)
  | 0, j, hj, hK => bt (nI_le (by omega) (by omega)) hK
  | k + 1, j, hj, hK => by
    have v : vp_in (nI j) 7 := vp_in_nI (by omega) (by decide)
    have vi : vp_in (nI i) 7 := vp_in_nI hi (by decide)
    have cl : (nI j).toNatClampNeg = j := nI_clamp (by omega)
    have cli : (nI i).toNatClampNeg = i := nI_clamp (by omega)
    refine bf (nI_ge (by omega) (by omega)) ?_
    rw [allF] at hK
    by_cases q : hce u j = -1
    · rw [show ownP u i j = true by simp [ownP, q], Bool.true_and] at hK
      refine r_sits0 v (by rw [cl]; exact q) (z0 ?_)
      rw [nI_1]; exact l_owns hi k (j + 1) (by omega) hK
    · refine r_sits1 v (by rw [cl]; exact q) (z1 ⟨v, vi, ?_⟩)
      rw [cl, cli, nI_1]
      by_cases q2 : hsb u j = hsb u i
      · rw [show ownP u i j = false by simp [ownP, q, q2], Bool.false_and] at hK
        exact nt q2 hK
      · rw [show ownP u i j = true by simp [ownP, q2], Bool.true_and] at hK
        exact nf q2 (l_owns hi k (j + 1) (by omega) hK)
theorem r_owns {K : Int32 → Prop} {u : HS} {i : Nat} (hi : i < 7) (k : K (b01 (ownB u i))) : V_X2_owns K u (nI i) := by
  have vi : vp_in (nI i) 7 := vp_in_nI hi (by decide)
  have cli : (nI i).toNatClampNeg = i := nI_clamp (by omega)
  unfold ownB at k
  by_cases q : hce u i = -1
  · rw [show decide (¬ hce u i = -1) = false by simp [q], Bool.false_and] at k
    exact r_sits0 vi (by rw [cli]; exact q) (y0 k)
  · rw [show decide (¬ hce u i = -1) = true by simp [q], Bool.true_and] at k
    exact r_sits1 vi (by rw [cli]; exact q) (y1 ⟨_, l_owns hi i 0 (by omega) k⟩)
theorem ml_boundz {K : Int32 → Prop} {mm : MS} {i : Nat} (hi : i < 7) (hK : K 0) : ∀ (k j : Nat), j + k = i → V_X8_isBound_16 K (k + 1) mm (nI i) 0 (nI j)
  | 0, j, hj => bt (nI_le (by omega) (by omega)) ⟨Or.inl rfl, hK⟩
  | k + 1, j, hj => bf (nI_ge (by omega) (by omega)) (z0 (by rw [nI_1]; exact ml_boundz hi hK k (j + 1) (by omega)))
theorem ml_bound {K : Int32 → Prop} {u : HS} {mm : MS} {i : Nat} (h : RC u mm.1) (hi : i < HN u) : ∀ (k j : Nat), j + k = i → K (b01 (allF (ownP u i) k j)) → V_X8_isBound_16 K (k + 1) mm (nI i) 1 (nI j)
  | 0, j, hj, hK => bt (nI_le (by omega) (by have := h.1.2; omega)) ⟨Or.inr rfl, hK⟩
  | k + 1, j, hj, hK => by
    have h7 := h.1.2
    refine bf (nI_ge (by omega) (by omega)) (z1 ?_)
    rw [allF] at hK
    rw [nI_1]
    by_cases q : hce u j = -1
    · rw [show ownP u i j = true by simp [ownP, q], Bool.true_and] at hK
      exact m_isOut1 h (by omega) q (y1 (ml_bound h hi k (j + 1) (by omega) hK))
    · refine m_isOut0 h (by omega) q (y0 (m_soulOf 1 (by omega) (by decide) (m_soulOf 1 (by omega) (by decide) ?_)))
      rw [show 9 + 3 * j + 1 = 10 + 3 * j by omega, show 9 + 3 * i + 1 = 10 + 3 * i by omega, ← (h.2.2.2.2.2.2.1 j (by omega)).2.1, ← (h.2.2.2.2.2.2.1 i (by omega)).2.1]
      by_cases q2 : hsb u j = hsb u i
      · rw [show ownP u i j = false by simp [ownP, q, q2], Bool.false_and] at hK
        exact bt q2 (ml_boundz (by omega) hK k (j + 1) (by omega))
      · rw [show ownP u i j = true by simp [ownP, q2], Bool.true_and] at hK
        exact bf q2 (ml_bound h hi k (j + 1) (by omega) hK)
theorem m_bound {K : Int32 → Prop} {u : HS} {mm : MS} {i : Nat} (h : RC u mm.1) (hi : i < HN u) (k : K (b01 (ownB u i))) : V_X8_isBound K mm (nI i) := by
  have h7 := h.1.2
  unfold ownB at k
  by_cases q : hce u i = -1
  · rw [show decide (¬ hce u i = -1) = false by simp [q], Bool.false_and] at k
    exact m_isOut1 h hi q (y1 ⟨_, ml_boundz (by omega) k i 0 (by omega)⟩)
  · rw [show decide (¬ hce u i = -1) = true by simp [q], Bool.true_and] at k
    exact m_isOut0 h hi q (y0 ⟨_, ml_bound h hi i 0 (by omega) k⟩)
/-- who sits in the stub of j -/
def nxt (u : HS) (j : Nat) : Int32 := whoH u (hsb u j)
theorem who_of {u : HS} (h : HI u) (c : Int32) : whoH u c = -1 ∨ ∃ j, j < HN u ∧ whoH u c = nI j ∧ hce u j = c := by
  unfold whoH
  rcases fnd_spec (p := fun i => decide (hce u i = c)) (HN u) 0 with ⟨h1, h2⟩ | ⟨j, h1, h2, h3, h4, h5⟩
  · exact Or.inl h1
  · exact Or.inr ⟨j, by omega, h4, by simpa using h3⟩
/-- the ring from i on, of k steps, now at j -/
def lead (u : HS) (i : Nat) : Nat → Nat → Bool
  | 0, _ => false
  | k + 1, j => if nxt u j = nI i then true else if nxt u j < nI i then false else if ownB u (nxt u j).toNatClampNeg = true then lead u i k (nxt u j).toNatClampNeg else false
def inS (u : HS) (j : Nat) : Int32 := if nxt u j = -1 then -1 else if ownB u (nxt u j).toNatClampNeg = true then nxt u j else -1
def ringF (u : HS) (i : Nat) : Nat → Int32 → Int32
  | 0, o => o
  | k + 1, o => if o ≤ nI i then o else ringF u i k (inS u o.toNatClampNeg)
theorem m1_lt {i : Nat} (hi : i < 2 ^ 31) : (-1 : Int32) < nI i := by
  rw [Int32.lt_iff_toInt_lt, nI_toInt hi, show (-1 : Int32).toInt = -1 by decide]; omega
theorem lead_ring {u : HS} (h : HI u) {i : Nat} (hi : i < 7) (ho : ownB u i = true) : ∀ (k j : Nat), (ringF u i k (inS u j) = nI i ↔ lead u i (k + 1) j = true) := by
  have h7 := h.2
  have stop : ∀ k, ringF u i k (-1) = -1 := by
    intro k
    cases k with
    | zero => rfl
    | succ k => rw [ringF, if_pos (Int32.le_of_lt (m1_lt (by omega)))]
  intro k
  induction k with
  | zero =>
    intro j
    rw [ringF, lead]
    rcases who_of h (hsb u j) with q | ⟨w, w1, w2, w3⟩
    · have q : nxt u j = -1 := q
      have l := m1_lt (i := i) (by omega)
      unfold inS
      rw [if_pos q, q, if_neg (fun z => nI_ne_m1 (j := i) (by omega) z.symm), if_pos l]
      exact ⟨fun z => absurd z.symm (nI_ne_m1 (by omega)), fun z => absurd z (by decide)⟩
    · have w2 : nxt u j = nI w := w2
      have cl : (nI w).toNatClampNeg = w := nI_clamp (by omega)
      unfold inS
      rw [w2, if_neg (nI_ne_m1 (by omega)), cl]
      by_cases e : w = i
      · subst e
        rw [if_pos ho, if_pos rfl]; exact ⟨fun _ => rfl, fun _ => rfl⟩
      · have e2 : ¬ nI w = nI i := fun z => e ((nI_eq (by omega) (by omega)).mp z)
        rw [if_neg e2]
        have n1 : ¬ (if ownB u w = true then nI w else -1) = nI i := by
          split
          · exact e2
          · exact fun z => nI_ne_m1 (j := i) (by omega) z.symm
        refine ⟨fun z => absurd z n1, fun z => ?_⟩
        exfalso
        by_cases l : nI w < nI i
        · rw [if_pos l] at z; exact absurd z (by decide)
        · rw [if_neg l] at z
          split at z
          · exact absurd z (by simp [lead])
          · exact absurd z (by decide)
  | succ k ih =>
    intro j
    rw [lead]
    rcases who_of h (hsb u j) with q | ⟨w, w1, w2, w3⟩
    · have q : nxt u j = -1 := q
      have l := m1_lt (i := i) (by omega)
      have e : inS u j = -1 := by unfold inS; rw [if_pos q]
      rw [e, stop, q, if_neg (fun z => nI_ne_m1 (j := i) (by omega) z.symm), if_pos l]
      exact ⟨fun z => absurd z.symm (nI_ne_m1 (by omega)), fun z => absurd z (by decide)⟩
    · have w2 : nxt u j = nI w := w2
      have cl : (nI w).toNatClampNeg = w := nI_clamp (by omega)
      have e : inS u j = if ownB u w = true then nI w else -1 := by unfold inS; rw [w2, if_neg (nI_ne_m1 (by omega)), cl]
      rw [e, w2, cl]
      by_cases e : w = i
      · subst e
        rw [if_pos ho, if_pos rfl, ringF, if_pos (Int32.le_refl _)]; exact ⟨fun _ => rfl, fun _ => rfl⟩
      · have e2 : ¬ nI w = nI i := fun z => e ((nI_eq (by omega) (by omega)).mp z)
        rw [if_neg e2]
        by_cases l : nI w < nI i
        · rw [if_pos l]
          refine ⟨fun z => ?_, fun z => absurd z (by decide)⟩
          split at z
          · rw [ringF, if_pos (Int32.le_of_lt l)] at z; exact absurd z e2
          · rw [stop] at z; exact absurd z.symm (nI_ne_m1 (by omega))
        · rw [if_neg l]
          by_cases o : ownB u w = true
          · rw [if_pos o, if_pos o, ringF, if_neg (fun z => ?_), cl]
            · exact ih w
            · exact e2 (Int32.le_antisymm z (Int32.not_lt.mp l))
          · rw [if_neg o, if_neg o, stop]
            exact ⟨fun z => absurd z.symm (nI_ne_m1 (by omega)), fun z => absurd z (by decide)⟩
theorem pigeon : ∀ (n : Nat) (f : Nat → Nat), (∀ k, k ≤ n → f k < n) → ∃ a b, a < b ∧ b ≤ n ∧ f a = f b
  | 0, f, h => absurd (h 0 (Nat.le_refl 0)) (by omega)
  | n + 1, f, h => by
    by_cases q : ∃ a, a ≤ n ∧ f a = f (n + 1)
    · obtain ⟨a, h1, h2⟩ := q
      exact ⟨a, n + 1, by omega, Nat.le_refl _, h2⟩
    · have q : ∀ a, a ≤ n → ¬ f a = f (n + 1) := fun a h1 h2 => q ⟨a, h1, h2⟩
      obtain ⟨a, b, h1, h2, h3⟩ := pigeon n (fun k => if f k = n then f (n + 1) else f k) (fun k hk => by
        have h1 := h k (by omega)
        have h2 := h (n + 1) (Nat.le_refl _)
        have h3 := q k hk
        show (if f k = n then f (n + 1) else f k) < n
        split <;> omega)
      refine ⟨a, b, h1, by omega, ?_⟩
      have qa := q a (by omega)
      have qb := q b (by omega)
      have h3 : (if f a = n then f (n + 1) else f a) = (if f b = n then f (n + 1) else f b) := h3
      split at h3 <;> split at h3 <;> omega
theorem lead_path {u : HS} (h : HI u) {i : Nat} (hi : i < 7) : ∀ (k j : Nat), lead u i (k + 1) j = true → ¬ lead u i k j = true → ∃ p : Nat → Nat, p 0 = j ∧ (∀ m, m < k → nxt u (p m) = nI (p (m + 1)) ∧ i < p (m + 1) ∧ p (m + 1) < HN u ∧ ownB u (p (m + 1)) = true)
  | 0, j, h1, h2 => ⟨fun _ => j, rfl, fun m hm => absurd hm (by omega)⟩
  | k + 1, j, h1, h2 => by
    have h7 := h.2
    rw [lead] at h1 h2
    rcases who_of h (hsb u j) with q | ⟨w, w1, w2, w3⟩
    · have q : nxt u j = -1 := q
      rw [q, if_neg (fun z => nI_ne_m1 (j := i) (by omega) z.symm), if_pos (m1_lt (by omega))] at h1
      exact absurd h1 (by decide)
    · have w2 : nxt u j = nI w := w2
      have cl : (nI w).toNatClampNeg = w := nI_clamp (by omega)
      rw [w2, cl] at h1 h2
      by_cases e : nI w = nI i
      · rw [if_pos e] at h2; exact absurd rfl h2
      · rw [if_neg e] at h1 h2
        by_cases l : nI w < nI i
        · rw [if_pos l] at h1; exact absurd h1 (by decide)
        · rw [if_neg l] at h1 h2
          by_cases o : ownB u w = true
          · rw [if_pos o] at h1 h2
            obtain ⟨p, p1, p2⟩ := lead_path h hi k w h1 h2
            have hw : i < w := by
              have a1 : ¬ w = i := fun z => e (by rw [z])
              have a2 : ¬ w < i := fun z => l (nI_lt z (by omega))
              omega
            refine ⟨fun m => match m with | 0 => j | m + 1 => p m, rfl, fun m hm => ?_⟩
            cases m with
            | zero => exact ⟨by rw [w2]; show nI w = nI (p 0); rw [p1], by show i < p 0; rw [p1]; exact hw, by show p 0 < HN u; rw [p1]; exact w1, by show ownB u (p 0) = true; rw [p1]; exact o⟩
            | succ m => exact p2 m (by omega)
          · rw [if_neg o] at h1; exact absurd h1 (by decide)
theorem nxt_inj {u : HS} (h : HI u) {a b x : Nat} (hx : x < 7) (ha : ownB u a = true) (hb : ownB u b = true) (h1 : nxt u a = nI x) (h2 : nxt u b = nI x) : a = b := by
  have h7 := h.2
  have c1 : hce u x = hsb u a := by
    rcases who_of h (hsb u a) with q | ⟨w, w1, w2, w3⟩
    · exact absurd (h1.symm.trans q) (nI_ne_m1 (by omega))
    · have : w = x := (nI_eq (by omega) (by omega)).mp (w2.symm.trans h1)
      rw [← this]; exact w3
  have c2 : hce u x = hsb u b := by
    rcases who_of h (hsb u b) with q | ⟨w, w1, w2, w3⟩
    · exact absurd (h2.symm.trans q) (nI_ne_m1 (by omega))
    · have : w = x := (nI_eq (by omega) (by omega)).mp (w2.symm.trans h2)
      rw [← this]; exact w3
  have es : hsb u a = hsb u b := c1.symm.trans c2
  have key : ∀ a b : Nat, ownB u a = true → ownB u b = true → hsb u a = hsb u b → ¬ a < b := by
    intro a b ha hb es l
    unfold ownB at ha hb
    rw [Bool.and_eq_true] at ha hb
    have z := (allF_spec b 0).mp hb.2 a (by omega) (by omega)
    have z1 : ¬ hce u a = -1 := by simpa using ha.1
    have z2 : hce u a = -1 ∨ ¬ hsb u a = hsb u b := by simpa [ownP] using z
    exact z2.elim z1 (fun q => q es)
  have k1 := key a b ha hb es
  have k2 := key b a hb ha es.symm
  omega
theorem lead_78 {u : HS} (h : HI u) {i : Nat} (hi : i < HN u) (ho : ownB u i = true) : lead u i 8 i = lead u i 7 i := by
  have h7 := h.2
  have up : ∀ k j, lead u i k j = true → lead u i (k + 1) j = true := by
    intro k
    induction k with
    | zero => intro j z; exact absurd z (by simp [lead])
    | succ k ih =>
      intro j z
      rw [lead] at z ⊢
      split
      · rfl
      · rename_i e
        rw [if_neg e] at z
        split
        · rename_i l
          rw [if_pos l] at z; exact z
        · rename_i l
          rw [if_neg l] at z
          split
          · rename_i o
            rw [if_pos o] at z
            exact ih _ z
          · rename_i o
            rw [if_neg o] at z; exact z
  by_cases q7 : lead u i 7 i = true
  · rw [q7, up 7 i q7]
  · by_cases q8 : lead u i 8 i = true
    · exfalso
      obtain ⟨p, p1, p2⟩ := lead_path h (by omega) 7 i q8 q7
      obtain ⟨a, b, hab, hb, e⟩ := pigeon 6 (fun k => p (k + 1) - 1) (fun k hk => by
        obtain ⟨_, z2, z3, _⟩ := p2 k (by omega)
        show p (k + 1) - 1 < 6
        omega)
      have e : p (a + 1) = p (b + 1) := by
        obtain ⟨_, z2, z3, _⟩ := p2 a (by omega)
        obtain ⟨_, y2, y3, _⟩ := p2 b (by omega)
        have e : p (a + 1) - 1 = p (b + 1) - 1 := e
        omega
      have own : ∀ m, m ≤ 7 → ownB u (p m) = true := by
        intro m hm
        cases m with
        | zero => rw [p1]; exact ho
        | succ m => exact (p2 m (by omega)).2.2.2
      have back : ∀ d m, m + d ≤ 7 → p m = p (m + d) → p 0 = p d := by
        intro d m
        induction m with
        | zero => intro hm z; rw [z]; congr 1; omega
        | succ m ih =>
          intro hm z
          refine ih (by omega) ?_
          obtain ⟨x1, _, x3, _⟩ := p2 m (by omega)
          obtain ⟨y1, _, _, _⟩ := p2 (m + d) (by omega)
          refine nxt_inj h (x := p (m + 1)) (by omega) (own m (by omega)) (own (m + d) (by omega)) x1 ?_
          rw [y1, show m + d + 1 = m + 1 + d by omega, ← z]
      have f := back (b - a) (a + 1) (by omega) (by rw [e]; congr 1; omega)
      obtain ⟨_, z2, _, _⟩ := p2 (b - a - 1) (by omega)
      rw [show b - a - 1 + 1 = b - a by omega, ← f, p1] at z2
      omega
    · have a1 : lead u i 8 i = false := by simpa using q8
      have a2 : lead u i 7 i = false := by simpa using q7
      rw [a1, a2]
theorem l_lead {K : Int32 → Prop} {u : HS} (h : HI u) {i : Nat} (hi : i < 7) : ∀ (k s j : Nat), s + k = 7 → j < 7 → K (b01 (lead u i k j)) → V_X2_leadsRing_4 K (k + 1) u (nI i) (nI j) (nI s)
  | 0, s, j, hs, hj, hK => bt (nI_le (a := 7) (by omega) (by omega)) hK
  | k + 1, s, j, hs, hj, hK => by
    have h7 := h.2
    refine bf (nI_ge (b := 7) (by omega) (by omega)) ⟨vp_in_nI hj (by decide), r_sitterAt h ?_⟩
    rw [nI_clamp (by omega), nI_1]
    show (¬ nxt u j = nI i → _) ∧ (nxt u j = nI i → _)
    rw [lead] at hK
    by_cases e : nxt u j = nI i
    · rw [if_pos e] at hK; exact nt e hK
    · rw [if_neg e] at hK
      refine nf e ?_
      by_cases l : nxt u j < nI i
      · rw [if_pos l] at hK; exact bt l hK
      · rw [if_neg l] at hK
        refine bf l ?_
        rcases who_of h (hsb u j) with q | ⟨w, w1, w2, w3⟩
        · have q : nxt u j = -1 := q
          rw [q] at l; exact absurd (m1_lt (by omega)) l
        · have w2 : nxt u j = nI w := w2
          have cl : (nI w).toNatClampNeg = w := nI_clamp (by omega)
          rw [w2, cl] at hK
          show V_X2_owns _ u (nxt u j)
          rw [w2]
          refine r_owns (by omega) ?_
          by_cases o : ownB u w = true
          · rw [if_pos o] at hK
            rw [o]
            refine y1 ?_
            show V_X2_leadsRing_4 K (k + 1) u (nI i) (nxt u j) (nI (s + 1))
            rw [w2]
            exact l_lead h hi k (s + 1) w (by omega) (by omega) hK
          · rw [if_neg o] at hK
            rw [show ownB u w = false by simpa using o]
            exact y0 hK
theorem m_inS {K : Int32 → Prop} {u : HS} {mm : MS} {j : Nat} (h : RC u mm.1) (hj : j < HN u) (k : K (inS u j)) : V_X8_inStubOf K mm (nI j) := by
  have h7 := h.1.2
  refine m_soulOf 1 (by omega) (by decide) (m_whoSits h ?_)
  rw [show 9 + 3 * j + 1 = 10 + 3 * j by omega, ← (h.2.2.2.2.2.2.1 j hj).2.1]
  show (nxt u j = -1 → _) ∧ (¬ nxt u j = -1 → _)
  unfold inS at k
  rcases who_of h.1 (hsb u j) with q | ⟨w, w1, w2, w3⟩
  · have q : nxt u j = -1 := q
    rw [if_pos q] at k
    exact bt q k
  · have w2 : nxt u j = nI w := w2
    have cl : (nI w).toNatClampNeg = w := nI_clamp (by omega)
    rw [w2, if_neg (nI_ne_m1 (by omega)), cl] at k
    refine bf (by rw [w2]; exact nI_ne_m1 (by omega)) ?_
    show V_X8_isBound _ mm (nxt u j)
    rw [w2]
    refine m_bound h w1 ?_
    by_cases o : ownB u w = true
    · rw [if_pos o] at k
      rw [o]; exact z1 (by show K (nxt u j); rw [w2]; exact k)
    · rw [if_neg o] at k
      rw [show ownB u w = false by simpa using o]
      exact z0 k
theorem inS_of {u : HS} (h : HI u) (j : Nat) : inS u j = -1 ∨ ∃ w, w < HN u ∧ inS u j = nI w := by
  unfold inS
  rcases who_of h (hsb u j) with q | ⟨w, w1, w2, w3⟩
  · have q : nxt u j = -1 := q
    exact Or.inl (if_pos q)
  · have w2 : nxt u j = nI w := w2
    have h7 := h.2
    rw [w2, if_neg (nI_ne_m1 (by omega))]
    split
    · exact Or.inr ⟨w, w1, rfl⟩
    · exact Or.inl rfl
theorem ml_ring {K : Int32 → Prop} {B : Int32 → Int32 → Int32 → Prop} {u : HS} {mm : MS} {i : Nat} {x1 x2 : Int32} (h : RC u mm.1) (hi : i < 7) : ∀ (k s : Nat) (o : Int32), s + k = 7 → (o = -1 ∨ ∃ w, w < HN u ∧ o = nI w) → B x1 (x2 + (if ringF u i k o = nI i then 1 else 0)) (nI i + 1) → V_X8_swaps_58 K B (k + 1) mm x1 x2 (nI i) o (nI s)
  | 0, s, o, hs, ho, hB => by
    refine bt (nI_le (a := 7) (by omega) (by omega)) ⟨fun q => ?_, fun q => ?_⟩
    · rw [ringF, if_neg q] at hB; exact hB
    · rw [ringF, if_pos q] at hB; exact hB
  | k + 1, s, o, hs, ho, hB => by
    have h7 := h.1.2
    refine bf (nI_ge (b := 7) (by omega) (by omega)) ?_
    rw [ringF] at hB
    by_cases l : o ≤ nI i
    · rw [if_pos l] at hB
      refine bt l ⟨fun q => ?_, fun q => ?_⟩
      · rw [if_neg q] at hB; exact hB
      · rw [if_pos q] at hB; exact hB
    · rw [if_neg l] at hB
      refine bf l ?_
      rcases ho with q | ⟨w, w1, w2⟩
      · rw [q] at l; exact absurd (Int32.le_of_lt (m1_lt (by omega))) l
      · subst w2
        rw [nI_clamp (by omega)] at hB
        refine m_inS h w1 ?_
        rw [nI_1]
        exact ml_ring h hi k (s + 1) _ (by omega) (inS_of h.1 w) hB
def swF (u : HS) : Nat → Nat → Int32 → Int32
  | 0, _, s => s
  | k + 1, i, s => swF u k (i + 1) (if ownB u i = true then (if hce u i = hsb u i then s else if lead u i 7 i = true then s else s + 1) else s)
theorem l_swaps {K : Int32 → Prop} {u : HS} (h : HI u) : ∀ (k i : Nat) (s : Int32), i + k = HN u → K (swF u k i s) → V_X2_fewestSwaps_4 K (k + 1) u s (nI i)
  | 0, i, s, hi, hK => bt (by show hso u ≤ nI i; rw [h.1]; exact nI_le (by omega) (by have := h.2; omega)) hK
  | k + 1, i, s, hi, hK => by
    have h7 := h.2
    have v : vp_in (nI i) 7 := vp_in_nI (by omega) (by decide)
    refine bf (by show ¬ hso u ≤ nI i; rw [h.1]; exact nI_ge (by omega) (by omega)) (r_owns (by omega) ?_)
    rw [swF] at hK
    rw [nI_1]
    by_cases o : ownB u i = true
    · rw [if_pos o] at hK
      rw [o]
      refine z1 ⟨v, v, ?_⟩
      rw [nI_clamp (by omega)]
      by_cases e : hce u i = hsb u i
      · rw [if_pos e] at hK; exact bt e (l_swaps h k (i + 1) s (by omega) hK)
      · rw [if_neg e] at hK
        refine bf e ⟨_, l_lead h (by omega) 7 0 i (by omega) (by omega) ?_⟩
        by_cases l : lead u i 7 i = true
        · rw [if_pos l] at hK
          rw [l]
          refine z1 ?_
          rw [i32_p0]; exact l_swaps h k (i + 1) _ (by omega) hK
        · rw [if_neg l] at hK
          rw [show lead u i 7 i = false by simpa using l]
          exact z0 (l_swaps h k (i + 1) _ (by omega) hK)
    · rw [if_neg o] at hK
      rw [show ownB u i = false by simpa using o]
      exact z0 (l_swaps h k (i + 1) s (by omega) hK)
theorem ml_swaps {K : Int32 → Prop} {u : HS} {mm : MS} (h : RC u mm.1) : ∀ (k i : Nat) (x1 x2 : Int32), i + k = HN u → K (swF u k i (x1 - x2)) → V_X8_swaps_6 K (k + 1) mm x1 x2 (nI i)
  | 0, i, x1, x2, hi, hK => bt (by rw [h.2.1, h.1.1]; exact nI_le (by omega) (by have := h.1.2; omega)) hK
  | k + 1, i, x1, x2, hi, hK => by
    have h7 := h.1.2
    refine bf (by rw [h.2.1, h.1.1]; exact nI_ge (by omega) (by omega)) (m_bound h (by omega) ?_)
    rw [swF] at hK
    rw [nI_1]
    by_cases o : ownB u i = true
    · rw [if_pos o] at hK
      rw [o]
      refine z1 (m_cellOf h (by omega) (m_soulOf 1 (by omega) (by decide) ?_))
      rw [show 9 + 3 * i + 1 = 10 + 3 * i by omega, ← (h.2.2.2.2.2.2.1 i (by omega)).2.1]
      by_cases e : hce u i = hsb u i
      · rw [if_pos e] at hK; exact bt e (ml_swaps h k (i + 1) x1 x2 (by omega) hK)
      · rw [if_neg e] at hK
        refine bf e (m_inS h (by omega) ⟨_, ml_ring h (by omega) 7 0 _ (by omega) (inS_of h.1 i) ?_⟩)
        rw [nI_1]
        refine ml_swaps h k (i + 1) _ _ (by omega) ?_
        have iff := lead_ring h.1 (i := i) (by omega) o 7 i
        rw [lead_78 h.1 (by omega) o] at iff
        by_cases l : lead u i 7 i = true
        · rw [if_pos l] at hK
          rw [if_pos (iff.mpr l), show x1 + 1 - (x2 + 1) = x1 - x2 by grind]; exact hK
        · rw [if_neg l] at hK
          rw [if_neg (fun z => l (iff.mp z)), show x1 + 1 - (x2 + 0) = x1 - x2 + 1 by grind]; exact hK
    · rw [if_neg o] at hK
      rw [show ownB u i = false by simpa using o]
      exact z0 (ml_swaps h k (i + 1) x1 x2 (by omega) hK)
theorem p_swaps : st_swaps Rel := by
  intro u mm hr
  refine ⟨_, l_swaps hr.1.1.1 (HN u.1) 0 0 (by omega) ⟨_, ml_swaps hr.1.1 (HN u.1) 0 0 0 (by omega) ⟨?_, hr⟩⟩⟩
  rw [show (0 : Int32) - 0 = 0 by decide]
