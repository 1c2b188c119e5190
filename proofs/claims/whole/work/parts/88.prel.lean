/-! ===== THE RELATION of class and model ===== -/
def RT (cap w base : Nat) (t : TS) (f : Nat → Int32) : Prop := ∃ n, n ≤ cap ∧ t.2 = nI n ∧ f base = nI n ∧ ∀ j, j < n * w → t.1 j = f (base + 1 + j)
theorem CF.congr {n : Nat} {a b : Nat → Int32} (h : CF n b) (e : ∀ i, i < n → a i = b i) : CF n a :=
  ⟨fun i hi => by rw [e i hi]; exact h.1 i hi, fun i j hij hj => by rw [e i (by omega), e j hj]; exact h.2 i j hij hj⟩
theorem RT.keep {cap w base : Nat} {t : TS} {f g : Nat → Int32} (h : RT cap w base t f) (e : ∀ j, base ≤ j → j ≤ base + cap * w → g j = f j) : RT cap w base t g := by
  obtain ⟨n, h1, h2, h3, h4⟩ := h
  have hw : n * w ≤ cap * w := Nat.mul_le_mul_right w h1
  exact ⟨n, h1, h2, by rw [e base (Nat.le_refl _) (by omega)]; exact h3, fun j hj => by rw [e _ (by omega) (by omega)]; exact h4 j hj⟩
/-- the notes' seats -/
def NS (t : TS) : Prop := ∀ n, t.2 = nI n → n ≤ 6 → ∀ j, j < n → vp_in (t.1 (j * 3 + 1)) 6
def RP (n : Nat) (p : TS) (f : Nat → Int32) : Prop := ∃ k, k ≤ 8 ∧ p.2 = nI k ∧ f 90 = nI k ∧ ∀ t, t < k → (∀ i, i < n → p.1 (t * 10 + i) = f (94 + t * 10 + i) - 1) ∧ CF n (fun i => p.1 (t * 10 + i)) ∧ p.1 (t * 10 + 7) = f (91 + t * 10) ∧ p.1 (t * 10 + 8) = f (93 + t * 10) ∧ p.1 (t * 10 + 9) = f (92 + t * 10) ∧ vp_in (p.1 (t * 10 + 7)) (2 ^ 30) ∧ vp_in (p.1 (t * 10 + 9)) 10000
theorem RP.keep {n : Nat} {p : TS} {f g : Nat → Int32} (h : RP n p f) (hn : n ≤ 7) (e : ∀ j, 90 ≤ j → j < 171 → g j = f j) : RP n p g := by
  obtain ⟨k, h1, h2, h3, h4⟩ := h
  refine ⟨k, h1, h2, by rw [e 90 (by omega) (by omega)]; exact h3, fun t ht => ?_⟩
  obtain ⟨q1, q2, q3, q4, q5, q6⟩ := h4 t ht
  refine ⟨fun i hi => by rw [e _ (by omega) (by omega)]; exact q1 i hi, q2, ?_, ?_, ?_, q6⟩
  · rw [e _ (by omega) (by omega)]; exact q3
  · rw [e _ (by omega) (by omega)]; exact q4
  · rw [e _ (by omega) (by omega)]; exact q5
theorem RP.zero {n : Nat} {p : TS} {f : Nat → Int32} (h1 : p.2 = 0) (h2 : f 90 = 0) : RP n p f := ⟨0, by omega, h1, h2, fun t ht => absurd ht (by omega)⟩
def RH (u : HS) (f : Nat → Int32) : Prop := RC u f ∧ vp_in (hco u) (2 ^ 30) ∧ vp_in (hmi u) 10000 ∧ RT 5 3 30 (hsg u) f ∧ RT 6 3 46 (hnt u) f ∧ NS (hnt u) ∧ RT 6 4 65 (hmk u) f ∧ RP (HN u) (hpa u) f
theorem RC.same {u v : HS} {f g : Nat → Int32} (h : RC u f) (e : ∀ j, j < 30 → g j = f j) (h1 : hrk v = hrk u) (h2 : hsk v = hsk u) (h3 : hsb v = hsb u) (h4 : hce v = hce u) (h5 : hso v = hso u) (h6 : hco v = hco u) (h7 : hmi v = hmi u) (h8 : hfu v = hfu u) : RC v g := by
  obtain ⟨a1, a2, a3, a4, a5, a6, a7, a8⟩ := h
  have hN : HN v = HN u := by unfold HN; rw [h5]
  have l7 := a1.2
  refine ⟨⟨by rw [hN, h5]; exact a1.1, by rw [hN]; exact a1.2⟩, by rw [e 8 (by omega), h5]; exact a2, fun r hr => by rw [e r (by omega), h1]; exact a3 r hr, by rw [e 5 (by omega), h6]; exact a4, by rw [e 6 (by omega), h7]; exact a5, by rw [e 7 (by omega), h8]; exact a6, fun i hi => ?_, by rw [hN, h4]; exact a8⟩
  rw [hN] at hi
  rw [e _ (by omega), e _ (by omega), e _ (by omega), h2, h3, h4]
  exact a7 i hi
theorem RH.keep {u : HS} {f g : Nat → Int32} {k : Nat} (h : RH u f) (hk : (hpa u).2 = nI k) (hk8 : k ≤ 8) {p : TS} (hp : KP u (hpa u) (if k = 8 then 7 else k) (if k = 8 then 1 else 0) p) (hg : KM f (if k = 8 then 7 else k) (if k = 8 then 1 else 0) g) : RH (setPa u p) g := by
  obtain ⟨h1, h2, h3, h4, h5, h6, h7, h8⟩ := h
  obtain ⟨k', b1, b2, b3, b4⟩ := h8
  have ek : k' = k := (nI_eq (by omega) (by omega)).mp (b2.symm.trans hk)
  subst ek
  have l7 := h1.1.2
  have gl : ∀ j, j < 90 → g j = f j := hg.1
  refine ⟨h1.same (fun j hj => gl j (by omega)) rfl rfl rfl rfl rfl rfl rfl rfl, h2, h3, h4.keep (fun j _ hj => gl j (by omega)), h5.keep (fun j _ hj => gl j (by omega)), h6, h7.keep (fun j _ hj => gl j (by omega)), ?_⟩
  obtain ⟨p1, p2, p3, p4, p5, p6⟩ := hp
  obtain ⟨-, g1, g2, g3, g4, g5, g6⟩ := hg
  have hkA : (if k' = 8 then 7 else k') + 1 ≤ 8 := by split <;> omega
  have hkd : ∀ t, t < (if k' = 8 then 7 else k') → t + (if k' = 8 then 1 else 0) < k' := by intro t; split <;> omega
  generalize (if k' = 8 then 7 else k') = kA at *
  generalize (if k' = 8 then 1 else 0) = d at *
  refine ⟨kA + 1, hkA, p1, g1, fun t ht => ?_⟩
  show (∀ i, i < HN u → p.1 (t * 10 + i) = _) ∧ CF (HN u) (fun i => p.1 (t * 10 + i)) ∧ p.1 (t * 10 + 7) = _ ∧ p.1 (t * 10 + 8) = _ ∧ p.1 (t * 10 + 9) = _ ∧ vp_in (p.1 (t * 10 + 7)) _ ∧ vp_in (p.1 (t * 10 + 9)) _
  by_cases e : t < kA
  · obtain ⟨q1, q2, q3, q4, q5, q6, q7⟩ := b4 (t + d) (hkd t e)
    have pt : ∀ j, j < 10 → p.1 (t * 10 + j) = (hpa u).1 ((t + d) * 10 + j) := fun j hj => by rw [p2 (t * 10 + j) (by omega), show t * 10 + j + 10 * d = (t + d) * 10 + j by omega]
    have gt : ∀ j, j < 10 → g (91 + t * 10 + j) = f (91 + (t + d) * 10 + j) := fun j hj => by
      rw [show 91 + t * 10 + j = 91 + (t * 10 + j) by omega, g2 (t * 10 + j) (by omega), show 91 + (t * 10 + j) + 10 * d = 91 + (t + d) * 10 + j by omega]
    refine ⟨fun i hi => ?_, ?_, ?_, ?_, ?_, ?_, ?_⟩
    · rw [pt i (by omega), q1 i hi, show 94 + t * 10 + i = 91 + t * 10 + (3 + i) by omega, gt (3 + i) (by omega), show 91 + (t + d) * 10 + (3 + i) = 94 + (t + d) * 10 + i by omega]
    · exact q2.congr (fun i hi => pt i (by omega))
    · exact ((pt 7 (by omega)).trans q3).trans (gt 0 (by omega)).symm
    · rw [pt 8 (by omega), q4, show 93 + t * 10 = 91 + t * 10 + 2 by omega, gt 2 (by omega), show 91 + (t + d) * 10 + 2 = 93 + (t + d) * 10 by omega]
    · rw [pt 9 (by omega), q5, show 92 + t * 10 = 91 + t * 10 + 1 by omega, gt 1 (by omega), show 91 + (t + d) * 10 + 1 = 92 + (t + d) * 10 by omega]
    · rw [pt 7 (by omega)]; exact q6
    · rw [pt 9 (by omega)]; exact q7
  · have et : t = kA := by omega
    subst et
    have hs := h1.2.2.2.2.2.2.1
    refine ⟨fun i hi => ?_, ?_, ?_, ?_, ?_, ?_, ?_⟩
    · rw [p3 i hi, g6 i (by omega)]; exact (hs i hi).2.2.1
    · exact h1.2.2.2.2.2.2.2.congr (fun i hi => p3 i hi)
    · rw [p4, g3]; exact h1.2.2.2.1
    · rw [p5, g5]; exact h1.2.2.2.2.2.1
    · rw [p6, g4]; exact h1.2.2.2.2.1
    · rw [p4]; exact h2
    · rw [p6]; exact h3
theorem RH.past {u : HS} {f : Nat → Int32} (h : RH u f) : ∃ k, k ≤ 8 ∧ (hpa u).2 = nI k ∧ f 90 = nI k := by
  obtain ⟨k, h1, h2, h3, -⟩ := h.2.2.2.2.2.2.2
  exact ⟨k, h1, h2, h3⟩
theorem vi_next {x : Int32} {n : Nat} (h : vp_in x n) (hn : n + 1 < 2 ^ 31) : vp_in (x + 1) (n + 1) := by
  obtain ⟨j, hj, rfl⟩ := vp_in_of h (by omega)
  rw [nI_1]
  exact vp_in_nI (by omega) (by omega)
theorem RH.go {u : HS} {f : Nat → Int32} {i : Nat} {c : Int32} (h : RH u f) (hm : vp_in (hmi u + 1) 10000) (hi : i < HN u) (hc : c = -1 ∨ (vp_in c 30 ∧ ∀ j, j < HN u → ¬ hce u j = c)) (x : Int32) : RH (settleH (setCe u (nI i) c) x) (rowGo f i c x) := by
  obtain ⟨h1, h2, h3, h4, h5, h6, h7, h8⟩ := h
  have l7 := h1.1.2
  have e : ∀ j, 30 ≤ j → rowGo f i c x j = f j := by
    intro j hj
    unfold rowGo
    rw [upd_ne (by omega), upd_ne (by omega), upd_ne (by omega)]
  exact ⟨h1.go hi hc x, h2, hm, h4.keep (fun j q _ => e j (by omega)), h5.keep (fun j q _ => e j (by omega)), h6, h7.keep (fun j q _ => e j (by omega)), h8.keep l7 (fun j q _ => e j (by omega))⟩
/-- the text -/
def RX (x : XS) (m : MS) : Prop := ∃ n, n ≤ 150 ∧ x.2.2.1 = nI n ∧ m.2.2.2.2.2.2.2.2.1 = nI n ∧ ∀ j, j < n → x.2.1 j = m.2.2.2.2.2.2.2.1 j ∧ vp_in (m.2.2.2.2.2.2.2.1 j) 128
/-- all but the hall that stands -/
def RR (u : US) (m : MS) : Prop := (∀ i, i < 2 → u.2.2.2.2.1 i = m.2.2.2.1 i ∧ (m.2.2.2.1 i = 0 ∨ m.2.2.2.1 i = 1)) ∧ (m.2.2.2.1 0 = 1 → RH u.2.2.1 m.2.2.1) ∧ (m.2.2.2.1 1 = 1 → RH u.2.2.2.1 (fun k => m.2.2.1 (171 + k))) ∧ RX u.2.2.2.2.2.1 m ∧ u.2.2.2.2.2.2.2.2.1 = m.2.2.2.2.1 ∧ u.2.2.2.2.2.2.2.2.2.1 = m.2.2.2.2.2.1 ∧ u.2.2.2.2.2.2.2.2.2.2.1 = m.2.2.2.2.2.2.1 0 ∧ u.2.2.2.2.2.2.2.2.2.2.2.1 = m.2.2.2.2.2.2.1 1 ∧ u.2.2.2.2.2.2.2.2.2.2.2.2 = m.2.2.2.2.2.2.1 2
def Rel (u : US) (m : MS) : Prop := RH u.1 m.1 ∧ RR u m
theorem Rel.now {u : US} {m : MS} (h : Rel u m) {v : HS} {g : Nat → Int32} (hv : RH v g) : Rel (v, u.2) (g, m.2) := ⟨hv, h.2⟩
def uBad (u : US) : US := (u.1, u.2.1, u.2.2.1, u.2.2.2.1, u.2.2.2.2.1, u.2.2.2.2.2.1, u.2.2.2.2.2.2.1, u.2.2.2.2.2.2.2.1, u.2.2.2.2.2.2.2.2.1, u.2.2.2.2.2.2.2.2.2.1, u.2.2.2.2.2.2.2.2.2.2.1 + 1, u.2.2.2.2.2.2.2.2.2.2.2)
def uNo (u : US) : US := (u.1, u.2.1, u.2.2.1, u.2.2.2.1, u.2.2.2.2.1, u.2.2.2.2.2.1, u.2.2.2.2.2.2.1, u.2.2.2.2.2.2.2.1, u.2.2.2.2.2.2.2.2.1, u.2.2.2.2.2.2.2.2.2.1, u.2.2.2.2.2.2.2.2.2.2.1, u.2.2.2.2.2.2.2.2.2.2.2.1 + 1, u.2.2.2.2.2.2.2.2.2.2.2.2)
def uFull (u : US) : US := (u.1, u.2.1, u.2.2.1, u.2.2.2.1, u.2.2.2.2.1, u.2.2.2.2.2.1, u.2.2.2.2.2.2.1, u.2.2.2.2.2.2.2.1, u.2.2.2.2.2.2.2.2.1, u.2.2.2.2.2.2.2.2.2.1, u.2.2.2.2.2.2.2.2.2.2.1, u.2.2.2.2.2.2.2.2.2.2.2.1, u.2.2.2.2.2.2.2.2.2.2.2.2 + 1)
def mRef (m : MS) (k : Nat) : MS := (m.1, m.2.1, m.2.2.1, m.2.2.2.1, m.2.2.2.2.1, m.2.2.2.2.2.1, upd m.2.2.2.2.2.2.1 k (m.2.2.2.2.2.2.1 k + 1), m.2.2.2.2.2.2.2)
theorem mRef_eq (m : MS) (k : Nat) : (mRef m k).2.2.2.2.2.2.1 k = m.2.2.2.2.2.2.1 k + 1 := upd_eq (f := m.2.2.2.2.2.2.1)
theorem mRef_ne (m : MS) {k j : Nat} (h : ¬ j = k) : (mRef m k).2.2.2.2.2.2.1 j = m.2.2.2.2.2.2.1 j := upd_ne (f := m.2.2.2.2.2.2.1) h
theorem Rel.bad {u : US} {m : MS} (h : Rel u m) : Rel (uBad u) (mRef m 0) := by
  obtain ⟨h1, a1, a2, a3, a4, a5, a6, a7, a8, a9⟩ := h
  refine ⟨h1, a1, a2, a3, a4, a5, a6, ?_, ?_, ?_⟩
  · exact (congrArg (fun z : Int32 => z + 1) a7).trans (mRef_eq m 0).symm
  · exact a8.trans (mRef_ne m (k := 0) (j := 1) (by decide)).symm
  · exact a9.trans (mRef_ne m (k := 0) (j := 2) (by decide)).symm
theorem Rel.no {u : US} {m : MS} (h : Rel u m) : Rel (uNo u) (mRef m 1) := by
  obtain ⟨h1, a1, a2, a3, a4, a5, a6, a7, a8, a9⟩ := h
  refine ⟨h1, a1, a2, a3, a4, a5, a6, ?_, ?_, ?_⟩
  · exact a7.trans (mRef_ne m (k := 1) (j := 0) (by decide)).symm
  · exact (congrArg (fun z : Int32 => z + 1) a8).trans (mRef_eq m 1).symm
  · exact a9.trans (mRef_ne m (k := 1) (j := 2) (by decide)).symm
theorem Rel.full {u : US} {m : MS} (h : Rel u m) : Rel (uFull u) (mRef m 2) := by
  obtain ⟨h1, a1, a2, a3, a4, a5, a6, a7, a8, a9⟩ := h
  refine ⟨h1, a1, a2, a3, a4, a5, a6, ?_, ?_, ?_⟩
  · exact a7.trans (mRef_ne m (k := 2) (j := 0) (by decide)).symm
  · exact a8.trans (mRef_ne m (k := 2) (j := 1) (by decide)).symm
  · exact (congrArg (fun z : Int32 => z + 1) a9).trans (mRef_eq m 2).symm
