/-! ===== reading: the model's items ===== -/
section
variable {c : Nat → Nat} {n : Nat} {m : MS} {K : MS → Prop} {C : RS → Prop}
theorem m_fin (T : TX (txt m) c n) (hl : ltr m = nI n) {h' : HS} {f f' : Nat → Int32} {p : Nat} {U : MS → Prop} (hp : p ≤ n) (hU : C (Sum.inr (tE c n p, h', f')) → U (MP m c n f (tE c n p))) (k0 : ∀ q f' a t s, C (Sum.inl q) → K (mR m f' a (nI q) t s)) (hC : C (stopK c n h' f' p)) : V_X8_end (fun u => (¬ u.2.2.2.2.2.2.2.2.2.2.1 = -1 → K u) ∧ (u.2.2.2.2.2.2.2.2.2.2.1 = -1 → U u)) (MP m c n f p) := by
  obtain ⟨_, h1, h2, h3⟩ := tk_all T hp
  have n150 := T.1
  unfold stopK at hC
  refine m_end T hl hp (fun z => nt rfl (hU ?_)) (fun z => nf (nI_ne_m1 (by omega)) (k0 _ _ _ _ _ ?_))
  · rw [if_pos z] at hC; exact hC
  · rw [if_neg z] at hC; exact hC
theorem m_finF {f : Nat → Int32} {a t s : Int32} {q : Nat} {U : MS → Prop} (hq : q < 2 ^ 31) (hK : K (mR m f a (nI q) t s)) : V_X8_end (fun u => (¬ u.2.2.2.2.2.2.2.2.2.2.1 = -1 → K u) ∧ (u.2.2.2.2.2.2.2.2.2.2.1 = -1 → U u)) (mR m f a (nI q) t s) := m_endF hq (nf (nI_ne_m1 hq) hK)
theorem m_soul (T : TX (txt m) c n) (hl : ltr m = nI n) {h : HS} {f : Nat → Int32} {p : Nat} (hp : p ≤ n) (hR : RC h f) (k1 : ∀ h' f' p', C (Sum.inr (p', h', f')) → K (MP m c n f' p')) (k0 : ∀ q f' a t s, C (Sum.inl q) → K (mR m f' a (nI q) t s)) (hC : C (itSoul c n h f p)) : V_X8_readSoul K (MP m c n f p) := by
  obtain ⟨t0, s1, s2, s3⟩ := tk_all T hp
  obtain ⟨t1, r1, r2, r3⟩ := tk_all T s3
  obtain ⟨t2, u1, u2, u3⟩ := tk_all T r3
  have n150 := T.1
  have h7 := hR.1.2
  have e8 : f 8 = nI (HN h) := hR.2.1.trans hR.1.1
  unfold itSoul at hC
  show (7 ≤ f 8 → _) ∧ (¬ 7 ≤ f 8 → _)
  rw [e8]
  by_cases z : HN h < 7
  · rw [if_pos z] at hC
    refine bf (nI_ge (b := 7) z (by decide)) (m_must1 (m_goOn T hl s3 (m_num T hl s3 (fun y => ?_) (fun y => ?_))))
    · rw [if_pos y] at hC
      refine m_num T hl r3 (fun y2 => ?_) (fun y2 => ?_)
      · rw [if_pos y2] at hC
        exact m_fin (K := K) (C := C) T hl u3 (fun hC => m_comes e8 z (k1 _ _ _ hC)) k0 hC
      · rw [if_neg y2] at hC
        exact m_finF (by omega) (k0 _ _ _ _ _ hC)
    · rw [if_neg y] at hC
      exact m_numF (by omega) (m_finF (by omega) (k0 _ _ _ _ _ hC))
  · rw [if_neg z] at hC
    exact bt (nI_le (a := 7) (by omega) (by omega)) (m_must0 (m_goF (by omega) (m_numF (by omega) (m_numF (by omega) (m_finF (by omega) (k0 _ _ _ _ _ hC))))))
theorem m_cell {K : Int32 → MS → Prop} (T : TX (txt m) c n) (hl : ltr m = nI n) {h : HS} {f : Nat → Int32} {p : Nat} (hp : p ≤ n) (hR : RC h f) (k1 : inR (tM c n p) 0 29 ∧ freeB h (tM c n p) = true → K (tM c n p) (MP m c n f (tE c n p))) (k0 : ¬ (inR (tM c n p) 0 29 ∧ freeB h (tM c n p) = true) → K (tM c n p) (mR m f (nI (tE c n p)) (nI (tS c n p)) (tM c n p) (nI (tS c n p)))) : V_X8_freeCell K (MP m c n f p) := by
  obtain ⟨t0, s1, s2, s3⟩ := tk_all T hp
  have n150 := T.1
  refine nt rfl ?_
  show V_X8_in _ (tM c n p).toInt64 (0 : Int32).toInt64 (29 : Int32).toInt64
  by_cases z : inR (tM c n p) 0 29
  · refine m_inR1 z (z1 ?_)
    show V_X8_isFree _ f (tM c n p)
    by_cases y : freeB h (tM c n p) = true
    · exact m_isFree1 hR (freeB1 y) (z1 (m_must1 (m_goOn T hl s3 (k1 ⟨z, y⟩))))
    · exact m_isFree0 hR (freeB0 y) (z0 (m_must0 (m_goF (by omega) (k0 (fun w => y w.2)))))
  · exact m_inR0 z (z0 (m_must0 (m_goF (by omega) (k0 (fun w => z w.1)))))
theorem m_cellF {K : Int32 → MS → Prop} {f : Nat → Int32} {a t s : Int32} {q : Nat} (hq : q < 2 ^ 31) (hK : K t (mR m f a (nI q) t s)) : V_X8_freeCell K (mR m f a (nI q) t s) := nf (nI_ne_m1 hq) (m_must1 (m_goF hq hK))
theorem m_coat (T : TX (txt m) c n) (hl : ltr m = nI n) {h : HS} {f : Nat → Int32} {p : Nat} (hp : p ≤ n) (hR : RC h f) (k1 : ∀ h' f' p', C (Sum.inr (p', h', f')) → K (MP m c n f' p')) (k0 : ∀ q f' a t s, C (Sum.inl q) → K (mR m f' a (nI q) t s)) (hC : C (itCoat c n h f p)) : V_X8_readCoat K (MP m c n f p) := by
  obtain ⟨t0, s1, s2, s3⟩ := tk_all T hp
  obtain ⟨t1, r1, r2, r3⟩ := tk_all T s3
  have n150 := T.1
  unfold itCoat at hC
  refine m_nxt T hl s3 (m_cell T hl s3 hR (fun y => ?_) (fun y => ?_))
  · rw [if_pos y] at hC
    exact m_fin (K := K) (C := C) T hl r3 (fun hC => k1 _ _ _ hC) k0 hC
  · rw [if_neg y] at hC
    exact m_finF (by omega) (k0 _ _ _ _ _ hC)
theorem m_that {K : Int32 → MS → Prop} (T : TX (txt m) c n) (hl : ltr m = nI n) {h : HS} {f : Nat → Int32} {p : Nat} {x : Int32} {Q : Prop} (hp : p ≤ n) (hR : RC h f) (hQ1 : Q → inR (tM c n p) 0 (hso h - 1) ∧ ((hce h (tM c n p).toNatClampNeg = -1 ∧ x = 0) ∨ (¬ hce h (tM c n p).toNatClampNeg = -1 ∧ x = 1))) (hQ0 : ¬ Q → inR (tM c n p) 0 (hso h - 1) → ((hce h (tM c n p).toNatClampNeg = -1 ∧ ¬ (0 : Int32) = x) ∨ (¬ hce h (tM c n p).toNatClampNeg = -1 ∧ ¬ (1 : Int32) = x))) (k1 : Q → K (tM c n p) (MP m c n f (tE c n p))) (k0 : ¬ Q → K (tM c n p) (mR m f (nI (tE c n p)) (nI (tS c n p)) (tM c n p) (nI (tS c n p)))) : V_X8_soulThat K (MP m c n f p) x := by
  obtain ⟨t0, s1, s2, s3⟩ := tk_all T hp
  have n150 := T.1
  have h7 := hR.1.2
  show V_X8_in _ (tM c n p).toInt64 (0 : Int32).toInt64 (f 8 - 1).toInt64
  rw [hR.2.1]
  have go1 : Q → V_X8_soulThat_52 K (MP m c n f p) 1 := fun q => m_must1 (m_goOn T hl s3 (k1 q))
  have go0 : ¬ Q → V_X8_soulThat_51 K (MP m c n f p) := fun q => m_must0 (m_goF (by omega) (k0 q))
  by_cases z : inR (tM c n p) 0 (hso h - 1)
  · obtain ⟨i, hi, ei⟩ := vp_in_of (inR_of z (so_toInt hR.1)) (by omega)
    refine m_inR1 z (z1 ?_)
    show V_X8_cellOf _ f (tM c n p)
    rw [ei, nI_clamp (by omega)] at hQ1 hQ0
    have fin : V_X8_cellOf (fun r4 => (r4 = -1 → V_X8_soulThat_43 K (MP m c n f p) x 0) ∧ (¬ r4 = -1 → V_X8_soulThat_43 K (MP m c n f p) x 1)) f (nI i) := by
      refine m_cellOf hR hi ?_
      by_cases q : Q
      · rcases (hQ1 q).2 with ⟨o, e⟩ | ⟨o, e⟩
        · subst e
          exact bt o (nt rfl (go1 q))
        · subst e
          exact bf o (nt rfl (go1 q))
      · rcases hQ0 q (by rw [← ei]; exact z) with ⟨o, e⟩ | ⟨o, e⟩
        · exact bt o (nf e (go0 q))
        · exact bf o (nf e (go0 q))
    rw [← ei] at fin
    exact fin
  · exact m_inR0 z (z0 (go0 (fun q => z (hQ1 q).1)))
theorem m_sit (T : TX (txt m) c n) (hl : ltr m = nI n) {h : HS} {f : Nat → Int32} {p : Nat} (hp : p ≤ n) (hR : RC h f) (k1 : ∀ h' f' p', C (Sum.inr (p', h', f')) → K (MP m c n f' p')) (k0 : ∀ q f' a t s, C (Sum.inl q) → K (mR m f' a (nI q) t s)) (hC : C (itSit c n h f p)) : V_X8_readSit K (MP m c n f p) := by
  obtain ⟨t0, s1, s2, s3⟩ := tk_all T hp
  obtain ⟨t1, r1, r2, r3⟩ := tk_all T s3
  obtain ⟨t2, u1, u2, u3⟩ := tk_all T r3
  have n150 := T.1
  have h7 := hR.1.2
  unfold itSit at hC
  refine m_nxt T hl s3 (m_that (h := h) (Q := inR (tM c n (tE c n p)) 0 (hso h - 1) ∧ hce h (tM c n (tE c n p)).toNatClampNeg = -1) T hl s3 hR (fun q => ⟨q.1, Or.inl ⟨q.2, rfl⟩⟩) (fun q z => Or.inr ⟨fun o => q ⟨z, o⟩, by decide⟩) (fun y => ?_) (fun y => ?_))
  · rw [if_pos y] at hC
    obtain ⟨i, hi, ei⟩ := vp_in_of (inR_of y.1 (so_toInt hR.1)) (by omega)
    have o := y.2
    refine m_cell (h := h) T hl r3 hR (fun y2 => ?_) (fun y2 => ?_)
    · rw [if_pos y2] at hC
      unfold goR at hC
      have vc := inR_of (N := 30) y2.1 (by decide)
      rw [ei, nI_clamp (by omega)] at hC o
      refine m_fin (K := K) (C := C) T hl u3 (fun hC => ?_) k0 hC
      show V_X8_goes _ f (tM c n (tE c n p)) (tM c n (tE c n (tE c n p)))
      have key : V_X8_goes (fun r7 u8 => K (MP m c n u8 (tE c n (tE c n (tE c n (tE c n p)))))) f (nI i) (tM c n (tE c n (tE c n p))) := by
        refine m_goes hR hi ?_
        have e0 : makesB h i (hce h i) = 0 := by rw [o]; rfl
        have e1 : makesB h i (tM c n (tE c n (tE c n p))) = fussH h (nI i) (tM c n (tE c n (tE c n p))) := by
          unfold makesB
          rw [if_neg (cell_ne vc)]
          exact fussH_at hR.1 hi vc (Or.inl o)
        rw [e0, e1, i32_0p]
        exact k1 _ _ _ hC
      rw [← ei] at key
      exact key
    · rw [if_neg y2] at hC
      exact m_finF (by omega) (k0 _ _ _ _ _ hC)
  · rw [if_neg y] at hC
    exact m_cellF (by omega) (m_finF (by omega) (k0 _ _ _ _ _ hC))
theorem m_out (T : TX (txt m) c n) (hl : ltr m = nI n) {h : HS} {f : Nat → Int32} {p : Nat} (hp : p ≤ n) (hR : RC h f) (k1 : ∀ h' f' p', C (Sum.inr (p', h', f')) → K (MP m c n f' p')) (k0 : ∀ q f' a t s, C (Sum.inl q) → K (mR m f' a (nI q) t s)) (hC : C (itOut c n h f p)) : V_X8_readOut K (MP m c n f p) := by
  obtain ⟨t0, s1, s2, s3⟩ := tk_all T hp
  obtain ⟨t1, r1, r2, r3⟩ := tk_all T s3
  have n150 := T.1
  have h7 := hR.1.2
  unfold itOut at hC
  refine m_nxt T hl s3 (m_that (h := h) (Q := inR (tM c n (tE c n p)) 0 (hso h - 1) ∧ ¬ hce h (tM c n (tE c n p)).toNatClampNeg = -1) T hl s3 hR (fun q => ⟨q.1, Or.inr ⟨q.2, rfl⟩⟩) (fun q z => Or.inl ⟨Classical.not_not.mp (fun o => q ⟨z, o⟩), by decide⟩) (fun y => ?_) (fun y => ?_))
  · rw [if_pos y] at hC
    obtain ⟨i, hi, ei⟩ := vp_in_of (inR_of y.1 (so_toInt hR.1)) (by omega)
    have o := y.2
    unfold goR at hC
    rw [ei, nI_clamp (by omega)] at hC o
    refine m_fin (K := K) (C := C) T hl r3 (fun hC => ?_) k0 hC
    show V_X8_goes _ f (tM c n (tE c n p)) (-1)
    have key : V_X8_goes (fun r7 u8 => K (MP m c n u8 (tE c n (tE c n (tE c n p))))) f (nI i) (-1) := by
      refine m_goes hR hi ?_
      have e0 : makesB h i (-1) = 0 := rfl
      rw [makesB_own hR hi o, e0, i32_p0]
      exact k1 _ _ _ hC
    rw [← ei] at key
    exact key
  · rw [if_neg y] at hC
    exact m_finF (by omega) (k0 _ _ _ _ _ hC)
theorem m_mins (T : TX (txt m) c n) (hl : ltr m = nI n) {h : HS} {f : Nat → Int32} {p : Nat} (hp : p ≤ n) (k1 : ∀ h' f' p', C (Sum.inr (p', h', f')) → K (MP m c n f' p')) (k0 : ∀ q f' a t s, C (Sum.inl q) → K (mR m f' a (nI q) t s)) (hC : C (itMin c n h f p)) : V_X8_readMinutes K (MP m c n f p) := by
  obtain ⟨t0, s1, s2, s3⟩ := tk_all T hp
  obtain ⟨t1, r1, r2, r3⟩ := tk_all T s3
  have n150 := T.1
  unfold itMin at hC
  refine m_nxt T hl s3 (m_num T hl s3 (fun y => ?_) (fun y => ?_))
  · rw [if_pos y] at hC
    exact m_fin (K := K) (C := C) T hl r3 (fun hC => k1 _ _ _ hC) k0 hC
  · rw [if_neg y] at hC
    exact m_finF (by omega) (k0 _ _ _ _ _ hC)
end
