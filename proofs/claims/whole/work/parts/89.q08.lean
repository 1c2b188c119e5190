/-! ===== step: beside ===== -/
theorem nI_2 (a : Nat) : nI a + 2 = nI (a + 2) := nI_add a 2
theorem cnt_set {p q : Nat → Bool} {a : Nat} (hp : p a = false) (he : ∀ j, ¬ j = a → q j = p j) : ∀ (k i : Nat), i ≤ a → a < i + k → cnt q k i = cnt p k i + (if q a = true then 1 else 0)
  | 0, i, h1, h2 => absurd h2 (by omega)
  | k + 1, i, h1, h2 => by
    rw [cnt, cnt]
    by_cases e : i = a
    · subst e
      rw [hp, cnt_congr (p := q) (q := p) k (i + 1) (fun j h3 h4 => he j (by omega))]
      simp only [Bool.false_eq_true, if_false]
      omega
    · rw [he i e, cnt_set hp he k (i + 1) (by omega) (by omega)]
      omega
theorem knees_set {u : HS} (h : HI u) {a : Nat} (ha : a < HN u) (ho : hce u a = -1) {c d : Int32} (hd : vp_in d 30) (x : Int32) : kneesH (settleH (setCe u (nI a) c) x) d = kneesH u d + (if ¬ c < aisleV d ∧ ¬ d ≤ c then 1 else 0) := by
  have h7 := h.2
  have hcl : (nI a).toNatClampNeg = a := nI_clamp (by omega)
  have l : (-1 : Int32) < aisleV d := Int32.lt_of_lt_of_le (by decide) (Int32.not_lt.mp (ai_nn hd))
  have key := cnt_set (p := fun i => decide (¬ hce u i < aisleV d ∧ ¬ d ≤ hce u i)) (q := fun i => decide (¬ upd (hce u) a c i < aisleV d ∧ ¬ d ≤ upd (hce u) a c i)) (a := a) (by simp [ho, l]) (fun j hj => by rw [upd_ne hj]) (HN u) 0 (by omega) (by omega)
  unfold kneesH
  have e : hce (settleH (setCe u (nI a) c) x) = upd (hce u) a c := by show upd _ (nI a).toNatClampNeg c = _; rw [hcl]
  have eN : HN (settleH (setCe u (nI a) c) x) = HN u := rfl
  rw [e, eN, key, upd_eq]
  congr 1
  by_cases q : ¬ c < aisleV d ∧ ¬ d ≤ c
  · rw [if_pos q, if_pos (by simpa using q)]
  · rw [if_neg q, if_neg (by simpa using q)]
/-- fuss of a to c, then b to d -/
def fzB (u : HS) (a b : Nat) (c d : Int32) : Int32 := fussH u (nI a) c + fussV (hsk u b) (nI (kneesH u d) + (if d ≤ c then 0 else 1)) (hmi u + 1)
theorem r_fzB {K : Int32 → Prop} {u : US} {a b : Nat} {c d : Int32} (h : HI u.1) (ha : a < 7) (hb : b < 7) (k : K (fzB u.1 a b c d)) : V_X7_fussBeside K u (nI a) (nI b) c d := by
  have va : vp_in (nI a) 7 := vp_in_nI ha (by decide)
  have vb : vp_in (nI b) 7 := vp_in_nI hb (by decide)
  unfold fzB at k
  refine ⟨fun q => r_fussTo h va ⟨vb, r_kneesTo h (r_fuss ?_)⟩, fun q => r_fussTo h va ⟨vb, r_kneesTo h (r_fuss ?_)⟩⟩
  · rw [nI_clamp (by omega)]
    rw [if_pos q] at k; exact k
  · rw [nI_clamp (by omega)]
    rw [if_neg q] at k; exact k
theorem fzB_small {u : HS} {f : Nat → Int32} (h : RC u f) {a b : Nat} (ha : a < HN u) (hb : b < HN u) (c d : Int32) : ∃ x, x < 128 ∧ fzB u a b c d = nI x := by
  obtain ⟨x, hx, ex⟩ := fussH_small h ha c
  have e : nI (kneesH u d) + (if d ≤ c then 0 else 1) = nI (kneesH u d + (if d ≤ c then 0 else 1)) := by
    split
    · exact i32_p0 _
    · exact nI_1 _
  have l : kneesH u d + (if d ≤ c then 0 else 1) < 16 := by
    have := kneesH_le h.1 d
    split <;> omega
  obtain ⟨y, hy, ey⟩ := fu_small (t := hmi u + 1) l (h.2.2.2.2.2.2.1 b hb).2.2.2.1
  unfold fzB
  rw [e, ex, ey, nI_add]
  exact ⟨x + y, by omega, rfl⟩
def nbB (u : HS) (c d : Nat) : Bool := decide (d < 30 ∧ c / 6 = d / 6) && (freeB u (nI c) && freeB u (nI d))
theorem row_nI {c : Nat} (h : c < 2 ^ 31) : nI c / 6 = nI (c / 6) := pk_div (d := 6) h (by decide) (by decide)
theorem r_nb {K : Int32 → Prop} {u : US} {c d : Nat} (h : HI u.1) (hc : c < 30) (hd : d < 100) (k : K (b01 (nbB u.1 c d))) : V_X7_areFreeNeighbours K u (nI c) (nI d) := by
  refine r_within1 30 rfl (by decide) (vp_in_nI hc (by decide)) (z1 ?_)
  unfold nbB at k
  by_cases q : d < 30
  · refine r_within1 30 rfl (by decide) (vp_in_nI q (by decide)) (z1 ?_)
    rw [row_nI (by omega), row_nI (by omega)]
    by_cases q2 : c / 6 = d / 6
    · refine nt (by rw [q2]) ?_
      rw [show decide (d < 30 ∧ c / 6 = d / 6) = true by simp [q, q2], Bool.true_and] at k
      by_cases f1 : freeB u.1 (nI c) = true
      · rw [f1, Bool.true_and] at k
        refine r_isFree1 h (freeB1 f1) (z1 ?_)
        by_cases f2 : freeB u.1 (nI d) = true
        · rw [f2] at k; exact r_isFree1 h (freeB1 f2) (z1 k)
        · rw [show freeB u.1 (nI d) = false by simpa using f2] at k
          exact r_isFree0 h (freeB0 f2) (z0 k)
      · rw [show freeB u.1 (nI c) = false by simpa using f1, Bool.false_and] at k
        exact r_isFree0 h (freeB0 f1) (z0 k)
    · refine nf (fun z => q2 ((nI_eq (by omega) (by omega)).mp z)) ?_
      rw [show decide (d < 30 ∧ c / 6 = d / 6) = false by simp [q2], Bool.false_and] at k
      exact k
  · refine r_within0 30 rfl (by decide) (fun z => q ?_) (z0 ?_)
    · obtain ⟨j, hj, e⟩ := vp_in_of z (by decide)
      have := (nI_eq (by omega) (by omega)).mp e
      omega
    · rw [show decide (d < 30 ∧ c / 6 = d / 6) = false by simp [q], Bool.false_and] at k
      exact k
theorem r_nbm {K : Int32 → Prop} {u : US} {c : Nat} (hc : c < 30) (k : K 0) : V_X7_areFreeNeighbours K u (nI c) (-1) :=
  r_within1 30 rfl (by decide) (vp_in_nI hc (by decide)) (z1 (r_within0 30 rfl (by decide) (by unfold vp_in; decide) (z0 k)))
def fzP (u : HS) (a b : Nat) (p : Int32) : Int32 := fzB u a b (p / 100) (p - p / 100 * 100)
def bsS (u : HS) (a b c d : Nat) (p : Int32) : Int32 := if nbB u c d = true then (if p = -1 then nI (100 * c + d) else if fzP u a b p ≤ fzB u a b (nI c) (nI d) then p else nI (100 * c + d)) else p
def bsT (u : HS) (a b c : Nat) (p : Int32) : Int32 := bsS u a b c (c + 1) (if c = 0 then p else bsS u a b c (c - 1) p)
def bsF (u : HS) (a b : Nat) : Nat → Nat → Int32 → Int32
  | 0, _, p => p
  | k + 1, c, p => bsF u a b k (c + 1) (bsT u a b c p)
theorem pl_at {c d : Nat} (hc : c < 30) (hd : d < 30) : nI (100 * c + d) / 100 = nI c ∧ nI (100 * c + d) - nI (100 * c + d) / 100 * 100 = nI d := by
  have e1 : nI (100 * c + d) / 100 = nI ((100 * c + d) / 100) := pk_div (d := 100) (by omega) (by decide) (by decide)
  have e2 : nI (100 * c + d) - nI (100 * c + d) / 100 * 100 = nI ((100 * c + d) % 100) := pk_rem (d := 100) (by omega) (by decide) (by decide)
  rw [e2, e1]
  exact ⟨by congr 1; omega, by congr 1; omega⟩
theorem nb_lt {u : HS} {c d : Nat} (h : nbB u c d = true) : d < 30 ∧ c / 6 = d / 6 ∧ freeB u (nI c) = true ∧ freeB u (nI d) = true := by
  unfold nbB at h
  rw [Bool.and_eq_true, Bool.and_eq_true] at h
  have h1 := of_decide_eq_true h.1
  exact ⟨h1.1, h1.2, h.2.1, h.2.2⟩
/-- one neighbour tried by the class -/
theorem l_bs1 {K : Int32 → Prop} {B : Int32 → Int32 → Int32 → Int32 → Prop} {u : US} {a b c d n : Nat} {p : Int32} (h : HI u.1) (ha : a < 7) (hb : b < 7) (hc : c < 30) (hd : d < c + 2) (k : V_X7_firstPlaceBeside_18 K B n u (nI a) (nI b) (bsS u.1 a b c d p) (nI c) (nI d + 2)) : V_X7_firstPlaceBeside_18 K B (n + 1) u (nI a) (nI b) p (nI c) (nI d) := by
  refine bf (by rw [nI_1]; exact nI_nlt (by omega) (by omega)) (r_nb h hc (by omega) ?_)
  have e : (100 : Int32) * nI c + nI d = nI (100 * c + d) := by
    show nI 100 * nI c + nI d = _
    rw [pk_mul, nI_add]
  unfold bsS at k
  by_cases q : nbB u.1 c d = true
  · rw [if_pos q] at k
    rw [q]
    refine z1 ?_
    by_cases q2 : p = -1
    · rw [if_pos q2] at k
      refine bt q2 ?_
      show V_X7_firstPlaceBeside_18 K B n u (nI a) (nI b) (100 * nI c + nI d) (nI c) (nI d + 2)
      rw [e]; exact k
    · rw [if_neg q2] at k
      refine bf q2 (r_fzB h ha hb (r_fzB h ha hb ?_))
      by_cases q3 : fzP u.1 a b p ≤ fzB u.1 a b (nI c) (nI d)
      · rw [if_pos q3] at k; exact bt q3 k
      · rw [if_neg q3] at k
        refine bf q3 ?_
        show V_X7_firstPlaceBeside_18 K B n u (nI a) (nI b) (100 * nI c + nI d) (nI c) (nI d + 2)
        rw [e]; exact k
  · rw [if_neg q] at k
    rw [show nbB u.1 c d = false by simpa using q]
    exact z0 k
theorem l_bs {K : Int32 → Prop} {u : US} {a b : Nat} (h : HI u.1) (ha : a < 7) (hb : b < 7) : ∀ (k c : Nat) (p : Int32), c + k = 30 → K (bsF u.1 a b k c p) → V_X7_firstPlaceBeside_5 K (k + 1) u (nI a) (nI b) p (nI c)
  | 0, c, p, hc, hK => bt (nI_le (a := 30) (by omega) (by omega)) hK
  | k + 1, c, p, hc, hK => by
    refine bf (nI_ge (b := 30) (by omega) (by omega)) ⟨3, ?_⟩
    have rcc := l_bs h ha hb k (c + 1) (bsT u.1 a b c p) (by omega) hK
    have two : nI (c + 1) + 2 = nI (c + 3) := nI_add (c + 1) 2
    cases c with
    | zero =>
      show V_X7_firstPlaceBeside_18 _ _ 3 u (nI a) (nI b) p (nI 0) (-1)
      refine bf (by decide) (r_nbm (by omega) (z0 ?_))
      show V_X7_firstPlaceBeside_18 _ _ 2 u (nI a) (nI b) p (nI 0) (nI 1)
      refine l_bs1 h ha hb (by omega) (by omega) ?_
      refine bt (by decide) ?_
      rw [nI_1]
      exact rcc
    | succ c =>
      rw [nI_pred]
      have t2 : nI c + 2 = nI (c + 2) := nI_add c 2
      refine l_bs1 h ha hb (by omega) (by omega) ?_
      rw [t2]
      refine l_bs1 h ha hb (by omega) (by omega) ?_
      rw [nI_2]
      refine bt (by rw [nI_1]; exact nI_lt (by omega) (by omega)) ?_
      rw [nI_1]
      have eT : bsT u.1 a b (c + 1) p = bsS u.1 a b (c + 1) (c + 2) (bsS u.1 a b (c + 1) c p) := by
        unfold bsT
        rw [if_neg (by omega)]; rfl
      rw [eT] at rcc
      exact rcc
/-- what the model has of a place -/
def plM (u : HS) (a b : Nat) (p : Int32) : Int32 := if p = -1 then -1 else fzP u a b p
def plOk (p : Int32) : Prop := p = -1 ∨ ∃ c d, c < 30 ∧ d < 30 ∧ p = nI (100 * c + d)
theorem bsS_ok {u : HS} {a b c d : Nat} {p : Int32} (hc : c < 30) (h : plOk p) : plOk (bsS u a b c d p) := by
  unfold bsS
  split
  · rename_i q
    have := (nb_lt q).1
    split
    · exact Or.inr ⟨c, d, hc, this, rfl⟩
    · split
      · exact h
      · exact Or.inr ⟨c, d, hc, this, rfl⟩
  · exact h
/-- one neighbour tried by the model -/
theorem ml_bs1 {K : Int32 → MS → Prop} {B : MS → Int32 → Int32 → Int32 → Int32 → Int32 → Int32 → Prop} {u : HS} {m : MS} {a b c d n : Nat} {y p : Int32} {g : Nat → Int32} (h : RH u m.1) (ha : a < HN u) (hb : b < HN u) (hab : ¬ a = b) (oa : hce u a = -1) (ob : hce u b = -1) (hc : c < 30) (hd : d < c + 2) (hdc : ¬ d = c) (hp : plOk p) (k : ∀ g', V_X8_beside_79 K B n (m.1, g', m.2.2) (nI a) (nI b) y (plM u a b (bsS u a b c d p)) (bsS u a b c d p) (nI c) (nI d + 1)) : V_X8_beside_79 K B (n + 1) (m.1, g, m.2.2) (nI a) (nI b) y (plM u a b p) p (nI c) (nI d) := by
  have hC := h.1
  have hI := hC.1
  have h7 := hI.2
  have t2 : nI c + 2 = nI (c + 2) := nI_add c 2
  refine bf (by rw [t2]; exact nI_ge (by omega) (by omega)) (bf (fun z => hdc ((nI_eq (by omega) (by omega)).mp z)) ?_)
  have e : (100 : Int32) * nI c + nI d = nI (100 * c + d) := by
    show nI 100 * nI c + nI d = _
    rw [pk_mul, nI_add]
  have stay : ¬ nbB u c d = true → V_X8_beside_79 K B n (m.1, g, m.2.2) (nI a) (nI b) y (plM u a b p) p (nI c) (nI d + 1) := by
    intro q
    have := k g
    unfold bsS at this
    rw [if_neg q] at this
    exact this
  by_cases d30 : d < 30
  · refine m_isCell1 (vp_in_nI d30 (by decide)) (z1 ?_)
    have vd : vp_in (nI d) 30 := vp_in_nI d30 (by decide)
    have vc : vp_in (nI c) 30 := vp_in_nI hc (by decide)
    rw [row_nI (by omega), row_nI (by omega)]
    by_cases q2 : c / 6 = d / 6
    · refine nt (by rw [q2]) ?_
      show V_X8_isFree _ m.1 _
      by_cases f1 : freeB u (nI c) = true
      · refine m_isFree1 hC (freeB1 f1) (z1 ?_)
        show V_X8_isFree _ m.1 _
        by_cases f2 : freeB u (nI d) = true
        · refine m_isFree1 hC (freeB1 f2) (z1 (m_lay (fun g1 hg1 => ?_)))
          have nb : nbB u c d = true := by
            unfold nbB
            rw [f1, f2]; simp [d30, q2]
          have R1 : RC u g1 := (h.copy (EqH.refl u) hg1).1
          refine m_goes R1 ha ?_
          have e0 : makesB u a (hce u a) = 0 := by rw [oa]; rfl
          have e1 : makesB u a (nI c) = fussH u (nI a) (nI c) := by
            unfold makesB
            rw [if_neg (cell_ne vc)]
            exact fussH_at hI ha vc (Or.inl oa)
          rw [e0, e1, i32_0p]
          have R2 := R1.go ha (Or.inr ⟨vc, (whoH_none hI).mp (freeB1 f1).1⟩) (fussH u (nI a) (nI c))
          refine m_goes R2 hb ?_
          have ceb : hce (settleH (setCe u (nI a) (nI c)) (fussH u (nI a) (nI c))) b = -1 := by
            show upd (hce u) (nI a).toNatClampNeg (nI c) b = -1
            rw [nI_clamp (by omega), upd_ne (by omega)]; exact ob
          have e2 : makesB (settleH (setCe u (nI a) (nI c)) (fussH u (nI a) (nI c))) b (hce (settleH (setCe u (nI a) (nI c)) (fussH u (nI a) (nI c))) b) = 0 := by rw [ceb]; rfl
          have kn : kneesH (settleH (setCe u (nI a) (nI c)) (fussH u (nI a) (nI c))) (nI d) = kneesH u (nI d) + (if nI d ≤ nI c then 0 else 1) := by
            rw [knees_set hI ha oa vd]
            congr 1
            have al : ¬ nI c < aisleV (nI d) := by
              rw [aisle_nI d30]
              exact nI_nlt (by omega) (by omega)
            by_cases z : nI d ≤ nI c
            · rw [if_pos z, if_neg (fun w => w.2 z)]
            · rw [if_neg z, if_pos ⟨al, z⟩]
          have e3 : makesB (settleH (setCe u (nI a) (nI c)) (fussH u (nI a) (nI c))) b (nI d) = fussV (hsk u b) (nI (kneesH u (nI d)) + (if nI d ≤ nI c then 0 else 1)) (hmi u + 1) := by
            unfold makesB
            rw [if_neg (cell_ne vd), kneesB_out (u := settleH (setCe u (nI a) (nI c)) (fussH u (nI a) (nI c))) hI vd (by omega) (Or.inl ceb), kn]
            show fussV (hsk u b) _ (hmi u + 1) = _
            congr 1
            split
            · rw [i32_p0]; rfl
            · rw [nI_1]
          rw [e2, e3, i32_0p]
          show (plM u a b p = -1 → _) ∧ (¬ plM u a b p = -1 → (plM u a b p ≤ fzB u a b (nI c) (nI d) → _) ∧ (¬ plM u a b p ≤ fzB u a b (nI c) (nI d) → _))
          obtain ⟨x, hx, ex⟩ := fzB_small hC ha hb (nI c) (nI d)
          have new : bsS u a b c d p = nI (100 * c + d) → ∀ g', V_X8_beside_184 K B (fun v y0 y1 y2 y3 y4 y5 y6 => V_X8_beside_79 K B n v y0 y1 y2 y3 y4 y5 y6) (m.1, g', m.2.2) (nI a) (nI b) y (nI c) (nI d) (fzB u a b (nI c) (nI d)) := by
            intro z g'
            have := k g'
            rw [z] at this
            unfold plM fzP at this
            rw [if_neg (nI_ne_m1 (by omega)), (pl_at hc d30).2, (pl_at hc d30).1] at this
            show V_X8_beside_79 K B n (m.1, g', m.2.2) (nI a) (nI b) y (fzB u a b (nI c) (nI d)) (100 * nI c + nI d) (nI c) (nI d + 1)
            rw [e]; exact this
          by_cases z : p = -1
          · refine bt (by unfold plM; rw [if_pos z]) (new ?_ _)
            unfold bsS
            rw [if_pos nb, if_pos z]
          · have ez : plM u a b p = fzP u a b p := by unfold plM; rw [if_neg z]
            rw [ez]
            obtain ⟨c', d', c1, d1, ep⟩ := hp.resolve_left z
            have nm : ¬ fzP u a b p = -1 := by
              unfold fzP
              obtain ⟨w, hw, ew⟩ := fzB_small hC ha hb (p / 100) (p - p / 100 * 100)
              rw [ew]; exact nI_ne_m1 (by omega)
            refine bf nm ?_
            by_cases z2 : fzP u a b p ≤ fzB u a b (nI c) (nI d)
            · refine bt z2 ?_
              have eS : bsS u a b c d p = p := by
                unfold bsS
                rw [if_pos nb, if_neg z, if_pos z2]
              rw [eS, ez] at k
              exact k _
            · refine bf z2 (new ?_ _)
              unfold bsS
              rw [if_pos nb, if_neg z, if_neg z2]
        · refine m_isFree0 hC (freeB0 f2) (z0 (stay (fun z => f2 (nb_lt z).2.2.2)))
      · refine m_isFree0 hC (freeB0 f1) (z0 (stay (fun z => f1 (nb_lt z).2.2.1)))
    · exact nf (fun z => q2 ((nI_eq (by omega) (by omega)).mp z).symm) (stay (fun z => q2 (nb_lt z).2.1))
  · refine m_isCell0 (fun z => d30 ?_) (z0 (stay (fun z => d30 (nb_lt z).1)))
    obtain ⟨j, hj, ej⟩ := vp_in_of z (by decide)
    have := (nI_eq (by omega) (by omega)).mp ej
    omega
def bsA (u : HS) (a b : Nat) (y p : Int32) : Int32 := if y = 0 then plM u a b p else p
theorem ml_bs {K : Int32 → MS → Prop} {u : HS} {m : MS} {a b : Nat} {y : Int32} (h : RH u m.1) (ha : a < HN u) (hb : b < HN u) (hab : ¬ a = b) (oa : hce u a = -1) (ob : hce u b = -1) : ∀ (k c : Nat) (p : Int32) (g : Nat → Int32), c + k = 30 → plOk p → (∀ g', K (bsA u a b y (bsF u a b k c p)) (m.1, g', m.2.2)) → V_X8_beside_66 K (k + 1) (m.1, g, m.2.2) (nI a) (nI b) y (plM u a b p) p (nI c)
  | 0, c, p, g, hc, hp, hK => by
    refine bt (nI_le (a := 30) (by omega) (by omega)) ⟨fun q => ?_, fun q => ?_⟩
    · have := hK g; unfold bsA at this; rw [if_neg q] at this; exact this
    · have := hK g; unfold bsA at this; rw [if_pos q] at this; exact this
  | k + 1, c, p, g, hc, hp, hK => by
    refine bf (nI_ge (b := 30) (by omega) (by omega)) ⟨4, ?_⟩
    have rcc := fun (g' : Nat → Int32) (hq : plOk (bsT u a b c p)) => ml_bs (K := K) (y := y) h ha hb hab oa ob k (c + 1) (bsT u a b c p) g' (by omega) hq hK
    cases c with
    | zero =>
      show V_X8_beside_79 _ _ 4 (m.1, g, m.2.2) (nI a) (nI b) y (plM u a b p) p (nI 0) (-1)
      refine bf (by decide) (bf (by decide) (m_isCell0 (by unfold vp_in; decide) (z0 ?_)))
      show V_X8_beside_79 _ _ 3 (m.1, g, m.2.2) (nI a) (nI b) y (plM u a b p) p (nI 0) (nI 0)
      refine bf (by decide) (bt rfl ?_)
      rw [nI_1]
      refine ml_bs1 h ha hb hab oa ob (by omega) (by omega) (by omega) hp (fun g1 => ?_)
      rw [nI_1]
      refine bt (by decide) ?_
      rw [nI_1]
      exact rcc g1 (bsS_ok (by omega) hp)
    | succ c =>
      rw [nI_pred]
      have eT : bsT u a b (c + 1) p = bsS u a b (c + 1) (c + 2) (bsS u a b (c + 1) c p) := by
        unfold bsT
        rw [if_neg (by omega)]; rfl
      rw [eT] at rcc
      have ok1 := bsS_ok (u := u) (a := a) (b := b) (c := c + 1) (d := c) (by omega) hp
      refine ml_bs1 h ha hb hab oa ob (by omega) (by omega) (by omega) hp (fun g1 => ?_)
      rw [nI_1]
      refine bf (by rw [nI_2]; exact nI_ge (by omega) (by omega)) (bt rfl ?_)
      rw [nI_1]
      refine ml_bs1 h ha hb hab oa ob (by omega) (by omega) (by omega) ok1 (fun g2 => ?_)
      rw [nI_1]
      refine bt (by rw [nI_2]; exact nI_le (by omega) (by omega)) ?_
      rw [nI_1]
      exact rcc g2 (bsS_ok (by omega) ok1)
theorem p_beside : st_beside Rel := by
  intro u mm x y w hr
  have hH := hr.1
  have hC := hH.1
  have hI := hC.1
  have bad : (V_X8_beside (fun r2 mm2 => (-2 : Int32) = r2 ∧ Rel (uBad u) mm2) mm x y w) → V_X7_beside_35 (fun r u2 => V_X8_beside (fun r2 mm2 => r = r2 ∧ Rel u2 mm2) mm x y w) u := fun z => z
  have no : (V_X8_beside (fun r2 mm2 => (-3 : Int32) = r2 ∧ Rel (uNo u) mm2) mm x y w) → V_X7_beside_64 (fun r u2 => V_X8_beside (fun r2 mm2 => r = r2 ∧ Rel u2 mm2) mm x y w) u := fun z => z
  by_cases hi : isS u.1 x
  · refine r_isSoul1 hI hi (z1 ?_)
    by_cases hj : isS u.1 y
    · refine r_isSoul1 hI hj (z1 ?_)
      by_cases he : x = y
      · exact bt he (bad (m_isSoul1 hC hi (z1 (m_isSoul1 hC hj (z1 (bt he (And.intro rfl hr.bad)))))))
      · refine bf he ?_
        by_cases hc : vp_in w 2
        · refine r_within1 2 rfl (by decide) hc (y1 ?_)
          have h7 := hi.in7 hI
          have h7b := hj.in7 hI
          obtain ⟨a, a1, rfl, a7⟩ := hi.of hI
          obtain ⟨b, b1, rfl, b7⟩ := hj.of hI
          have hab : ¬ a = b := fun z => he (by rw [z])
          have cla : (nI a).toNatClampNeg = a := nI_clamp (by omega)
          have clb : (nI b).toNatClampNeg = b := nI_clamp (by omega)
          by_cases oa : hce u.1 a = -1
          · refine r_sits0 h7 (by rw [cla]; exact oa) (y0 ?_)
            by_cases ob : hce u.1 b = -1
            · refine r_sits0 h7b (by rw [clb]; exact ob) (z0 ⟨_, l_bs hI a7 b7 30 0 (-1) (by omega) ?_⟩)
              have md : ∀ r, r = bsA u.1 a b w (bsF u.1 a b 30 0 (-1)) → V_X8_beside (fun r2 mm2 => r = r2 ∧ Rel u mm2) mm (nI a) (nI b) w := by
                intro r er
                refine m_isSoul1 hC hi (z1 (m_isSoul1 hC hj (z1 (bf he (m_in1 2 (by decide) hc (y1 (m_isOut1 hC a1 oa (z1 (m_isOut1 hC b1 ob (y1 ⟨31, ?_⟩))))))))))
                exact ml_bs (m := mm) hH a1 b1 hab oa ob 30 0 (-1) mm.2.1 (by omega) (Or.inl rfl) (fun g' => ⟨er, hr⟩)
              generalize bsF u.1 a b 30 0 (-1) = P at md
              have two := two hc
              refine ⟨fun q => md P ?_, fun q => ⟨fun q2 => r_fzB hI a7 b7 (md _ ?_), fun q2 => md P ?_⟩⟩
              · unfold bsA plM
                rw [if_pos q]
                split
                · exact q
                · rfl
              · unfold bsA plM
                have w0 : w = 0 := two.resolve_right q2
                rw [if_pos w0, if_neg q]; rfl
              · unfold bsA
                rw [if_neg (by rw [q2]; decide)]
            · refine r_sits1 h7b (by rw [clb]; exact ob) (z1 (no ?_))
              exact m_isSoul1 hC hi (z1 (m_isSoul1 hC hj (z1 (bf he (m_in1 2 (by decide) hc (y1 (m_isOut1 hC a1 oa (z1 (m_isOut0 hC b1 ob (y0 (And.intro rfl hr.no)))))))))))
          · refine r_sits1 h7 (by rw [cla]; exact oa) (y1 (no ?_))
            exact m_isSoul1 hC hi (z1 (m_isSoul1 hC hj (z1 (bf he (m_in1 2 (by decide) hc (y1 (m_isOut0 hC a1 oa (z0 (And.intro rfl hr.no)))))))))
        · refine r_within0 2 rfl (by decide) hc (y0 (bad ?_))
          exact m_isSoul1 hC hi (z1 (m_isSoul1 hC hj (z1 (bf he (m_in0 2 (by decide) hc (y0 (And.intro rfl hr.bad)))))))
    · refine r_isSoul0 hI hj (z0 (bad ?_))
      exact m_isSoul1 hC hi (z1 (m_isSoul0 hC hj (z0 (And.intro rfl hr.bad))))
  · refine r_isSoul0 hI hi (z0 (bad ?_))
    exact m_isSoul0 hC hi (z0 (And.intro rfl hr.bad))
