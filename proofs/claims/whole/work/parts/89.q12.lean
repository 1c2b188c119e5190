/-! ===== orders: the hall as one behind the other sits down ===== -/
def kS (u : HS) (s : Nat) (c : Int32) : Nat := cnt (fun j => s.testBit j && decide (¬ hsb u j < aisleV c ∧ ¬ c ≤ hsb u j)) (HN u) 0
def fzV (u : HS) (s i : Nat) : Int32 := fussV (hsk u i) (nI (kneesH u (hsb u i) + kS u s (hsb u i))) (hmi u + nI (bits30 s))
def fzN (u : HS) (s i : Nat) : Nat := if i < HN u then (fzV u s i).toNatClampNeg else 0
theorem fz_ok {u : HS} {f : Nat → Int32} (h : RC u f) (s : Nat) {i : Nat} (hi : i < HN u) : fzV u s i = nI (fzN u s i) ∧ fzN u s i < 64 := by
  have l : kneesH u (hsb u i) + kS u s (hsb u i) < 16 := by
    have h1 := kneesH_le h.1 (hsb u i)
    have h2 : kS u s (hsb u i) ≤ HN u := cnt_le _ _
    have h3 := h.1.2
    omega
  obtain ⟨a, ha, ea⟩ := fu_small (t := hmi u + nI (bits30 s)) l (h.2.2.2.2.2.2.1 i hi).2.2.2.1
  have e : fzN u s i = a := by
    unfold fzN fzV
    rw [if_pos hi, ea, nI_clamp (by omega)]
  rw [e]
  exact ⟨ea, ha⟩
theorem fz_le {u : HS} {f : Nat → Int32} (h : RC u f) (s i : Nat) : fzN u s i ≤ 64 := by
  by_cases q : i < HN u
  · exact Nat.le_of_lt (fz_ok h s q).2
  · unfold fzN; rw [if_neg q]; exact Nat.zero_le _
/-- those who can come -/
def CA (u : HS) (A : Nat) : Prop := A < 128 ∧ ∀ i, A.testBit i = true → i < HN u ∧ hce u i = -1 ∧ freeB u (hsb u i) = true ∧ ∀ j, A.testBit j = true → ¬ j = i → ¬ hsb u j = hsb u i
/-- the hall with some of them in -/
def St (u : HS) (s : Nat) (t : HS) : Prop := HN t = HN u ∧ hsk t = hsk u ∧ hsb t = hsb u ∧ hmi t = hmi u + nI (bits30 s) ∧ (∀ c, vp_in c 30 → kneesH t c = kneesH u c + kS u s c) ∧ ∀ j, j < HN u → hce t j = if s.testBit j = true then hsb u j else hce u j
theorem St.zero (u : HS) : St u 0 u := by
  refine ⟨rfl, rfl, rfl, ?_, fun c hc => ?_, fun j hj => ?_⟩
  · rw [show bits30 0 = 0 by decide]; exact (i32_p0 _).symm
  · have : kS u 0 c = 0 := cnt_none _ _ (fun j _ _ => by rw [Nat.zero_testBit]; rfl)
    rw [this]; rfl
  · rw [Nat.zero_testBit]; rfl
theorem bits_dec : ∀ s : Nat, s < 128 → ∀ i : Nat, i < 7 → s.testBit i = false → bits30 (s ||| 2 ^ i) = bits30 s + 1 := by decide +kernel
theorem kS_or {u : HS} {s i : Nat} (hi : i < HN u) (hs : s.testBit i = false) (c : Int32) : kS u (s ||| 2 ^ i) c = kS u s c + (if ¬ hsb u i < aisleV c ∧ ¬ c ≤ hsb u i then 1 else 0) := by
  unfold kS
  rw [cnt_set (p := fun j => s.testBit j && decide (¬ hsb u j < aisleV c ∧ ¬ c ≤ hsb u j)) (q := fun j => (s ||| 2 ^ i).testBit j && decide (¬ hsb u j < aisleV c ∧ ¬ c ≤ hsb u j)) (a := i) (by simp [hs]) (fun j hj => by rw [or_bit, show decide (i = j) = false by simpa using fun z => hj z.symm, Bool.or_false]) (HN u) 0 (by omega) (by omega)]
  congr 1
  rw [or_bit]
  by_cases q : ¬ hsb u i < aisleV c ∧ ¬ c ≤ hsb u i
  · rw [if_pos q, if_pos (by simpa using q)]
  · rw [if_neg q, if_neg (by simpa using q)]
theorem St.go {u t : HS} {A s i : Nat} {g : Nat → Int32} (hA : CA u A) (hs : s < 128) (hi : (dif A s).testBit i = true) (h : St u s t) (hR : RC t g) (x : Int32) : St u (s ||| 2 ^ i) (settleH (setCe t (nI i) (hsb u i)) x) := by
  obtain ⟨i7, a1, a2⟩ := dif_at hA.1 hi
  obtain ⟨b1, b2, b3, b4⟩ := hA.2 i a1
  obtain ⟨h1, h2, h3, h4, h5, h6⟩ := h
  have cl : (nI i).toNatClampNeg = i := nI_clamp (by omega)
  have o : hce t i = -1 := by rw [h6 i b1, if_neg (by rw [a2]; decide)]; exact b2
  refine ⟨h1, h2, h3, ?_, fun c hc => ?_, fun j hj => ?_⟩
  · show hmi t + 1 = _
    rw [h4, bits_dec s hs i i7 a2, ← nI_1]
    grind
  · rw [knees_set hR.1 (by rw [h1]; exact b1) o hc, h5 c hc, kS_or b1 a2 c, Nat.add_assoc]
  · show upd (hce t) (nI i).toNatClampNeg (hsb u i) j = _
    rw [cl, or_bit]
    by_cases e : j = i
    · subst e
      rw [upd_eq, if_pos (by simp)]
    · rw [upd_ne e, h6 j hj, show decide (i = j) = false by simpa using fun z => e z.symm, Bool.or_false]
/-- an order of those who are not in yet -/
def vld (A : Nat) : Nat → List Nat → Prop
  | _, [] => True
  | s, i :: l => (dif A s).testBit i = true ∧ vld A (s ||| 2 ^ i) l
theorem enm_vld {A : Nat} (hA : A < 128) : ∀ (k s : Nat) (q : List Nat), (lst (dif A s)).length = k → q ∈ enm k (lst (dif A s)) → vld A s q ∧ q.length = k ∧ small q
  | 0, s, q, hk, h => by
    rw [enm] at h
    have : q = [] := by simpa using h
    subst this
    exact ⟨trivial, rfl, fun j => by show 0 < 7; decide⟩
  | k + 1, s, q, hk, h => by
    rw [enm, List.mem_flatMap] at h
    obtain ⟨i, hi, h⟩ := h
    obtain ⟨q', hq, rfl⟩ := List.mem_map.mp h
    have hb := (lst_mem.mp hi).2
    obtain ⟨d1, d2⟩ := dif_next hA hb
    rw [← d1] at hq
    obtain ⟨r1, r2, r3⟩ := enm_vld hA k (s ||| 2 ^ i) q' (by omega) hq
    refine ⟨⟨hb, r1⟩, by rw [List.length_cons, r2], fun j => ?_⟩
    cases j with
    | zero => exact (lst_mem.mp hi).1
    | succ j => exact r3 j
theorem ml_cost {K : Int32 → MS → Prop} {B : MS → Int32 → Int32 → Int32 → Int32 → Prop} {u : HS} {m : MS} {T Bs : Nat → Int32} {A n v C : Nat} {x1 : Int32} (hR : RC u m.1) (hA : CA u A) (hn : n ≤ 7) (hfin : ∀ g, (nI v ≤ nI C → V_X8_order_131 K B (mO m g T Bs) x1 (nI n) (nI v)) ∧ (¬ nI v ≤ nI C → ∃ n3, V_X8_order_105 K B n3 (mO m g T Bs) x1 (nI n) (nI C) 0)) : ∀ (l : List Nat) (i s c : Nat) (t : HS) (g : Nat → Int32), i + l.length = n → (∀ j, j < l.length → T (i + j) = nI (l.getD j 0)) → vld A s l → s < 128 → sub s A → St u s t → RC t g → c + cost (fzN u) s l = C → V_X8_order_47 K B (l.length + 1) (mO m g T Bs) x1 (nI n) (nI v) (nI c) (nI i)
  | [], i, s, c, t, g, hi, hT, hv, hs, hsub, hS, hg, hC => by
    have e : C = c := by rw [← hC]; rfl
    have hi : i + 0 = n := hi
    refine bt (nI_le (by omega) (by omega)) ?_
    rw [← e]; exact hfin g
  | a :: l, i, s, c, t, g, hi, hT, hv, hs, hsub, hS, hg, hC => by
    have hi : i + (l.length + 1) = n := hi
    have v7 : vp_in (nI i) 7 := vp_in_nI (by omega) (by decide)
    obtain ⟨v1, v2⟩ := hv
    obtain ⟨a7, a1, a2⟩ := dif_at hA.1 v1
    obtain ⟨b1, b2, b3, b4⟩ := hA.2 a a1
    have h7 := hR.1.2
    refine bf (nI_ge (by omega) (by omega)) ⟨v7, v7, ?_⟩
    show V_X8_soulOf (fun r4 => V_X8_goes (fun r5 u6 => V_X8_order_47 K B (l.length + 1) (mO m u6 T Bs) x1 (nI n) (nI v) (nI c + r5) (nI i + 1)) g (T (nI i).toNatClampNeg) r4) m.1 (T (nI i).toNatClampNeg) 1
    have t0 : T i = nI a := hT 0 (by show 0 < l.length + 1; omega)
    rw [nI_clamp (by omega), t0, nI_1]
    have hs1 := hR.2.2.2.2.2.2.1 a b1
    refine m_soulOf 1 a7 (by decide) ?_
    rw [show 9 + 3 * a + 1 = 10 + 3 * a by omega, ← hs1.2.1]
    obtain ⟨h1, h2, h3, h4, h5, h6⟩ := id hS
    have o : hce t a = -1 := by rw [h6 a b1, if_neg (by rw [a2]; decide)]; exact b2
    have at' : a < HN t := by rw [h1]; exact b1
    have vc := hs1.2.2.2.2
    refine m_goes hg at' ?_
    have e0 : makesB t a (hce t a) = 0 := by rw [o]; rfl
    have e1 : makesB t a (hsb u a) = nI (fzN u s a) := by
      unfold makesB
      rw [if_neg (cell_ne vc), kneesB_out hg.1 vc a7 (Or.inl o), h5 _ vc, h2, h4]
      exact (fz_ok hR s b1).1
    rw [e0, e1, i32_0p, nI_add]
    have free : ∀ j, j < HN t → ¬ hce t j = hsb u a := by
      intro j hj
      rw [h1] at hj
      rw [h6 j hj]
      by_cases q : s.testBit j = true
      · rw [if_pos q]
        exact b4 j (sub_bit hs hsub q) (fun z => by rw [z, a2] at q; exact absurd q (by decide))
      · rw [if_neg q]
        exact (whoH_none hR.1).mp (freeB1 b3).1 j hj
    refine ml_cost hR hA hn hfin l (i + 1) (s ||| 2 ^ a) (c + fzN u s a) _ _ (by omega) (fun j hj => ?_) v2 (or_dec s hs a a7).1 (sub_or hA.1 hs hsub v1) (hS.go hA hs v1 hg _) (hg.go at' (Or.inr ⟨vc, free⟩) _) ?_
    · have := hT (j + 1) (by show j + 1 < l.length + 1; omega)
      rw [show i + 1 + j = i + (j + 1) by omega]; exact this
    · rw [← hC, cost, Nat.add_assoc]
theorem ml_copy {K : Int32 → MS → Prop} {B : MS → Int32 → Int32 → Int32 → Int32 → Prop} {m : MS} {g T : Nat → Int32} {n : Nat} {x1 x3 : Int32} (hn : n ≤ 7) (kk : ∀ Bs, (∀ j, j < n → Bs j = T j) → V_X8_order_131 K B (mO m g T Bs) x1 (nI n) x3) : ∀ (k i : Nat) (Bs : Nat → Int32), i + k = n → (∀ j, j < i → Bs j = T j) → V_X8_order_105 K B (k + 1) (mO m g T Bs) x1 (nI n) x3 (nI i)
  | 0, i, Bs, hi, h => bt (nI_le (by omega) (by omega)) (kk Bs (fun j hj => h j (by omega)))
  | k + 1, i, Bs, hi, h => by
    have v7 : vp_in (nI i) 7 := vp_in_nI (by omega) (by decide)
    refine bf (nI_ge (by omega) (by omega)) ⟨v7, v7, ?_⟩
    rw [nI_clamp (by omega), nI_1]
    refine ml_copy hn kk k (i + 1) (upd Bs i (T i)) (by omega) (fun j hj => ?_)
    by_cases e : j = i
    · subst e; rw [upd_eq]
    · rw [upd_ne e]; exact h j (by omega)
def stp (u : HS) (acc : Nat × List Nat) (q : List Nat) : Nat × List Nat := if cost (fzN u) 0 q < acc.1 then (cost (fzN u) 0 q, q) else acc
theorem cost_lt {u : HS} {f : Nat → Int32} (h : RC u f) : ∀ (q : List Nat) (s : Nat), cost (fzN u) s q ≤ 64 * q.length
  | [], s => Nat.le_refl 0
  | i :: q, s => by
    rw [cost, List.length_cons]
    have h1 := fz_le h s i
    have h2 := cost_lt h q (s ||| 2 ^ i)
    omega
theorem ml_ord {K : Int32 → MS → Prop} {u : HS} {m : MS} {A n : Nat} {x1 : Int32} (hR : RH u m.1) (hA : CA u A) (hn : n ≤ 7) {R : Nat × List Nat} (hK : ∀ g T Bs, AR Bs R.2 → ((¬ x1 = -1 → (vp_in x1 7 ∧ K (Bs x1.toNatClampNeg) (mO m g T Bs))) ∧ (x1 = -1 → K (nI R.1) (mO m g T Bs)))) : ∀ (L : List (List Nat)) (p : List Nat) (acc : Nat × List Nat) (g T Bs : Nat → Int32), ch (p :: L) none → (∀ q, q ∈ p :: L → vld A 0 q ∧ q.length = n ∧ small q) → AR T p → AR Bs acc.2 → acc.1 ≤ 9999 → (p :: L).foldl (stp u) acc = R → V_X8_order_32 K (L.length + 2) (mO m g T Bs) x1 (nI n) (nI acc.1) 1
  | L, p, acc, g, T, Bs, hch, hv, hT, hB, hacc, hfold => by
    obtain ⟨p1, p2, p3⟩ := hv p (by simp)
    have hC := cost_lt hR.1 p 0
    have nx : ∀ (v : Nat) (b : List Nat) (g' Bs' : Nat → Int32), stp u acc p = (v, b) → AR Bs' b → v ≤ 9999 → V_X8_nextOrder (fun r1 u2 => V_X8_order_32 K (L.length + 1) u2 x1 (nI n) (nI v) r1) (mO m g' T Bs') (nI n) := by
      intro v b g' Bs' hs hb hv9
      rw [List.foldl_cons, hs] at hfold
      have key := m_next (K := fun r1 u2 => V_X8_order_32 K (L.length + 1) u2 x1 (nI n) (nI v) r1) (m := m) (g := g') (T := T) (B := Bs') hT p3 (by omega)
      rw [p2] at key
      cases L with
      | nil =>
        refine key (fun _ => ?_) (fun q T' hq _ _ => ?_)
        · have : (v, b) = R := hfold
          subst this
          exact z0 (hK g' T Bs' hb)
        · have h1 : nxP p = none := hch.1
          rw [h1] at hq; exact absurd hq (by simp)
      | cons r L =>
        have h1 : nxP p = some r := hch.1
        refine key (fun h => ?_) (fun q T' hq hT' _ => ?_)
        · rw [h1] at h; exact absurd h (by simp)
        · rw [h1] at hq
          have : r = q := by simpa using hq
          subst this
          exact ml_ord hR hA hn hK L r (v, b) g' T' Bs' hch.2 (fun q hq => hv q (List.mem_cons_of_mem _ hq)) hT' hb hv9 hfold
    refine z1 (m_lay (fun g1 hg1 => ⟨p.length + 1, ?_⟩))
    have R1 : RC u g1 := (hR.copy (EqH.refl u) hg1).1
    refine ml_cost (m := m) hR.1 hA hn (C := cost (fzN u) 0 p) (fun g2 => ⟨fun q => ?_, fun q => ?_⟩) p 0 0 0 u g1 (by omega) (fun j hj => by rw [Nat.zero_add]; exact hT j hj) p1 (by decide) (Nat.zero_and _) (St.zero u) R1 (Nat.zero_add _)
    · have le : acc.1 ≤ cost (fzN u) 0 p := (nI_leI (by omega) (by omega)).mp q
      exact nx acc.1 acc.2 g2 Bs (by unfold stp; rw [if_neg (by omega)]) hB hacc
    · have lt : cost (fzN u) 0 p < acc.1 := by
        have : ¬ acc.1 ≤ cost (fzN u) 0 p := fun z => q (nI_le z (by omega))
        omega
      refine ⟨n + 1, ml_copy hn (fun Bs' hB' => ?_) n 0 Bs (by omega) (fun j hj => absurd hj (by omega))⟩
      exact nx (cost (fzN u) 0 p) p g2 Bs' (by unfold stp; rw [if_pos lt]) (fun j hj => by rw [hB' j (by omega)]; exact hT j hj) (by omega)
termination_by L => L.length
