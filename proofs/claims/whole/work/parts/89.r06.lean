/-! ===== reading: the whole text; step: read ===== -/
def rws (c : Nat → Nat) (n : Nat) : Nat → Nat → HS → (Nat → Int32) → Nat → RS
  | 0, _, h, f, p => stopK c n h f p
  | k + 1, r, h, f, p => if inR (tM c n p) 0 5 then rws c n k (r + 1) (rowH h r (tM c n p)) (upd f r (tM c n p)) (tE c n p) else Sum.inl (tS c n p)
def first (c : Nat → Nat) (n : Nat) (h : HS) (f : Nat → Int32) (p : Nat) : RS := if tM c n p = 100 then rws c n 5 0 h f (tE c n p) else Sum.inl (tS c n p)
/-- the items from p on, so many read -/
def rdL (c : Nat → Nat) (n : Nat) : Nat → HS → (Nat → Int32) → Nat → Nat → RS
  | 0, _, _, _, _ => Sum.inl 0
  | k + 1, h, f, p, it => if tM c n p = -1 then Sum.inr (it, h, f) else
      match item c n h f p with
      | Sum.inl q => Sum.inl q
      | Sum.inr (p', h', f') => rdL c n k h' f' p' (it + 1)
def rd0 (c : Nat → Nat) (n : Nat) (h : HS) (f : Nat → Int32) : RS :=
  match first c n h f 0 with
  | Sum.inl q => Sum.inl q
  | Sum.inr (p', h', f') => rdL c n (n + 1) h' f' p' 1
section
variable {c : Nat → Nat} {n : Nat}
theorem rws_ok {X : Nat → Int32} (T : TX X c n) {p0 t : Nat} : ∀ (k r : Nat) (h : HS) (f : Nat → Int32) (p : Nat), r + k = 5 → p ≤ n → p0 < p → RQ h f → hmi h = nI t → 7 * t ≤ 99 * p → OK n p0 (rws c n k r h f p)
  | 0, r, h, f, p, hr, hp, h0, hq, ht, hb => OK.stop T hp h0 hq ht hb
  | k + 1, r, h, f, p, hr, hp, h0, hq, ht, hb => by
    obtain ⟨t0, s1, s2, s3⟩ := tk_all T hp
    rw [rws]
    split
    · rename_i z
      exact rws_ok T k (r + 1) _ _ _ (by omega) s3 (by omega) (hq.row (by omega) (inR_of z (by decide))) ht (by omega)
    · exact OK.no (by omega)
theorem first_ok {X : Nat → Int32} (T : TX X c n) {h : HS} {f : Nat → Int32} {p : Nat} (hp : p ≤ n) (hq : RQ h f) (hb : HB h p) : OK n p (first c n h f p) := by
  obtain ⟨t, ht, hb⟩ := hb
  obtain ⟨t0, s1, s2, s3⟩ := tk_all T hp
  unfold first
  split
  · rename_i z
    have g := tk_go t0 (by rw [z]; decide)
    exact rws_ok T 5 0 h f _ (by omega) s3 (by omega) hq ht (by omega)
  · exact OK.no (by omega)
/- the class -/
section
variable {X : Nat → Int32}
theorem c_rows {K : Int32 → XS → Prop} {C : RS → Prop} (T : TX X c n) (k1 : ∀ h f p tk s v, p ≤ n → C (stopK c n h f p) → K 1 (h, X, nI n, tk, s, nI p, v)) (k0 : ∀ q h tk e v, C (Sum.inl q) → K 0 (h, X, nI n, tk, nI q, e, v)) : ∀ (k r : Nat) (h : HS) (f : Nat → Int32) (p : Nat) (tk s v : Int32), r + k = 5 → p ≤ n → C (rws c n k r h f p) → V_X6_readRowKinds_2 K (k + 1) (h, X, nI n, tk, s, nI p, v) (nI r)
  | 0, r, h, f, p, tk, s, v, hr, hp, hC => bt (nI_le (a := 5) (by omega) (by omega)) (k1 _ _ _ _ _ _ hp hC)
  | k + 1, r, h, f, p, tk, s, v, hr, hp, hC => by
    obtain ⟨t0, s1, s2, s3⟩ := tk_all T hp
    rw [rws] at hC
    refine bf (nI_ge (b := 5) (by omega) (by omega)) (r_num T hp (by decide) (by decide) (fun y => y1 ⟨vp_in_nI (by omega) (by decide), ?_⟩) (fun y v => y0 ?_))
    · rw [if_pos y] at hC
      rw [nI_clamp (by omega), nI_1]
      exact c_rows T k1 k0 k (r + 1) (rowH h r (tM c n p)) _ (tE c n p) _ _ _ (by omega) s3 hC
    · rw [if_neg y] at hC
      exact k0 _ _ _ _ _ hC
theorem c_first {K : Int32 → XS → Prop} {C : RS → Prop} (T : TX X c n) {h : HS} {f : Nat → Int32} {p : Nat} {v : Int32} (hp : p ≤ n) (k1 : ∀ h f p tk s v, p ≤ n → C (stopK c n h f p) → K 1 (h, X, nI n, tk, s, nI p, v)) (k0 : ∀ q h tk e v, C (Sum.inl q) → K 0 (h, X, nI n, tk, nI q, e, v)) (hC : C (first c n h f p)) : V_X6_readItem K (CS X c n h p v) 1 := by
  obtain ⟨t0, s1, s2, s3⟩ := tk_all T hp
  unfold first at hC
  show (¬ tC c n p = 1 → _) ∧ (tC c n p = 1 → _)
  by_cases w1 : tC c n p = 1
  · refine nt w1 ?_
    have tw : tM c n p = wordT c (tS c n p) (tE c n p) ∧ (∀ j, tS c n p ≤ j → j < tE c n p → iL (c j) = true) := by
      rcases t0 with z | z | z | z | z
      · rw [z.1] at w1; exact absurd w1 (by decide)
      · exact ⟨z.2.1, z.2.2.1⟩
      · rw [z.1] at w1; exact absurd w1 (by decide)
      · rw [z.1] at w1; exact absurd w1 (by decide)
      · rw [z.1] at w1; exact absurd w1 (by decide)
    by_cases e0 : tM c n p = 100
    · rw [if_pos e0] at hC
      refine r_spell T (w := 0) (by decide) s2 s3 tw.2 ?_
      rw [← tw.1, decide_eq_true (show tM c n p = nI (100 + 0) from e0)]
      refine bt rfl (z1 ⟨6, ?_⟩)
      exact c_rows (C := C) T (fun h f p tk s v a b => ⟨Or.inr rfl, k1 h f p tk s v a b⟩) (fun q h tk e v a => ⟨Or.inl rfl, k0 q h tk e v a⟩) 5 0 h f (tE c n p) _ _ _ (by omega) s3 hC
    · rw [if_neg e0] at hC
      refine r_spell T (w := 0) (by decide) s2 s3 tw.2 ?_
      rw [← tw.1, decide_eq_false (show ¬ tM c n p = nI (100 + 0) from e0)]
      exact bf (by decide) (k0 _ _ _ _ _ hC)
  · have e0 : ¬ tM c n p = 100 := fun e => w1 (tk_word t0 (w := 0) (by decide) e)
    rw [if_neg e0] at hC
    exact nf w1 (k0 _ _ _ _ _ hC)
/-- what comes of an item, as the class goes on -/
theorem c_51 {K : Int32 → XS → Prop} {B : XS → Int32 → Int32 → Prop} {R : RS} {x1 x2 : Int32} {p0 : Nat} (T : TX X c n) (hR : OK n p0 R) (kf : ∀ q h tk e v, q ≤ n → R = Sum.inl q → K ((-10) - nI q) (h, X, nI n, tk, nI q, e, v)) (kb : ∀ p' h' f' tk s v, R = Sum.inr (p', h', f') → RQ h' f' → HB h' p' → p0 < p' → p' ≤ n → B (h', X, nI n, tk, s, nI p', v) (x1 + 1) (x2 + 1)) : (∀ h f p tk s v, p ≤ n → stopK c n h f p = R → (fun r1 (u2 : XS) => (((r1 : Int32) = 0 → K ((-10) - u2.2.2.2.2.1) u2) ∧ (¬ r1 = 0 → (V_X6_readStop (fun r3 u4 => ((¬ r3 = 0 → B u4 (x1 + 1) (x2 + 1)) ∧ (r3 = 0 → K ((-10) - u4.2.2.2.2.1) u4))) u2)))) 1 (h, X, nI n, tk, s, nI p, v)) ∧ (∀ q h tk e v, Sum.inl q = R → (fun r1 (u2 : XS) => (((r1 : Int32) = 0 → K ((-10) - u2.2.2.2.2.1) u2) ∧ (¬ r1 = 0 → (V_X6_readStop (fun r3 u4 => ((¬ r3 = 0 → B u4 (x1 + 1) (x2 + 1)) ∧ (r3 = 0 → K ((-10) - u4.2.2.2.2.1) u4))) u2)))) 0 (h, X, nI n, tk, nI q, e, v)) := by
  refine ⟨fun h f p tk s v hp e => z1 (r_stop T hp (fun z v => y1 ?_) (fun z v => y0 ?_)), fun q h tk e v eq => z0 ?_⟩
  · unfold stopK at e
    rw [if_pos z] at e
    obtain ⟨g1, g2, g3, g4⟩ := hR.2 _ _ _ e.symm
    exact kb _ _ _ _ _ _ e.symm g1 g2 g3 g4
  · unfold stopK at e
    rw [if_neg z] at e
    exact kf _ _ _ _ _ (hR.1 _ e.symm) e.symm
  · exact kf _ _ _ _ _ (hR.1 _ eq.symm) eq.symm
theorem l_rd {K : Int32 → XS → Prop} {D : RS → Prop} (T : TX X c n) (kf : ∀ q h tk e v, q ≤ n → D (Sum.inl q) → K ((-10) - nI q) (h, X, nI n, tk, nI q, e, v)) (kd : ∀ it h f tk s e v, D (Sum.inr (it, h, f)) → RQ h f → HB h n → 1 ≤ it → it ≤ n → K (nI it) (h, X, nI n, tk, s, e, v)) : ∀ (k : Nat) (h : HS) (f : Nat → Int32) (p it : Nat) (tk s v : Int32), RQ h f → HB h p → p ≤ n → 1 ≤ it → it ≤ p → n < p + k → D (rdL c n k h f p it) → V_X6_readAll_16 K (k + 1) (h, X, nI n, tk, s, nI p, v) (nI it) (nI it)
  | 0, h, f, p, it, tk, s, v, hq, hb, hp, h1, h2, hk, hD => absurd hk (by omega)
  | k + 1, h, f, p, it, tk, s, v, hq, hb, hp, h1, h2, hk, hD => by
    have n150 := T.1
    obtain ⟨t0, s1, s2, s3⟩ := tk_all T hp
    rw [rdL] at hD
    refine bf (nI_nlt (by omega) (by omega)) (r_adv T hp (fun v' hv => ⟨fun z => ?_, fun z => ?_⟩))
    · have z2 : ¬ tM c n p = -1 := fun w => z ((tk_end t0).mpr w)
      rw [if_neg z2] at hD
      refine nf (nI_ne0 (by omega) (by omega)) ?_
      have ok := item_ok T hp hq hb
      have key := c_51 (K := K) (B := fun v y0 y1 => V_X6_readAll_16 K (k + 1) v y0 y1) (x1 := nI it) (x2 := nI it) T ok (fun q h tk e v hq' e1 => ?_) (fun p' h' f' tk s v e1 g1 g2 g3 g4 => ?_)
      · exact c_item (C := fun R => R = item c n h f p) T hp hq.1.1 key.1 key.2 rfl
      · rw [e1] at hD
        exact kf _ _ _ _ _ hq' hD
      · rw [e1] at hD
        rw [nI_1]
        exact l_rd T kf kd k h' f' p' (it + 1) _ _ _ g1 g2 g4 (by omega) (by omega) (by omega) hD
    · have z2 : tM c n p = -1 := (tk_end t0).mp z
      rw [if_pos z2] at hD
      refine bf (nI_nle (by omega) (by omega)) (kd _ _ _ _ _ _ _ hD hq ?_ h1 (by omega))
      obtain ⟨t, ht, hb⟩ := hb
      exact ⟨t, ht, by omega⟩
theorem c_read0 {K : Int32 → XS → Prop} {D : RS → Prop} (T : TX X c n) {g : HS} {f0 : Nat → Int32} {tk s v : Int32} (hq : RQ g f0) (hb : HB g 0) (kf : ∀ q h tk e v, q ≤ n → D (Sum.inl q) → K ((-10) - nI q) (h, X, nI n, tk, nI q, e, v)) (kd : ∀ it h f tk s e v, D (Sum.inr (it, h, f)) → RQ h f → HB h n → 1 ≤ it → it ≤ n → K (nI it) (h, X, nI n, tk, s, e, v)) (hD : D (rd0 c n g f0)) : V_X6_readAll_16 K (n + 2 + 1) (g, X, nI n, tk, s, nI 0, v) 0 0 := by
  have n150 := T.1
  obtain ⟨t0, s1, s2, s3⟩ := tk_all T (Nat.zero_le n)
  unfold rd0 at hD
  have ok := first_ok T (Nat.zero_le n) hq hb
  have go : ∀ v', V_X6_readAll_41 K (fun v y0 y1 => V_X6_readAll_16 K (n + 2) v y0 y1) (CS X c n g 0 v') 0 0 := by
    intro v'
    refine nt rfl ?_
    have key := c_51 (K := K) (B := fun v y0 y1 => V_X6_readAll_16 K (n + 2) v y0 y1) (x1 := 0) (x2 := 0) T ok (fun q h tk e v hq' e1 => ?_) (fun p' h' f' tk s v e1 g1 g2 g3 g4 => ?_)
    · exact c_first (C := fun R => R = first c n g f0 0) T (Nat.zero_le n) key.1 key.2 rfl
    · rw [e1] at hD
      exact kf _ _ _ _ _ hq' hD
    · rw [e1] at hD
      exact l_rd T kf kd (n + 1) h' f' p' 1 _ _ _ g1 g2 g4 (by omega) (by omega) (by omega) hD
  exact bf (nI_nlt (b := 0) (a := n) (by omega) (by omega)) (r_adv T (Nat.zero_le n) (fun v' hv => ⟨fun z => go v', fun z => bt (by decide) (go v')⟩))
theorem r_readAll {K : Int32 → XS → Prop} (T : TX X c n) {h : HS} {tk s ne v : Int32} {f0 : Nat → Int32} (h0 : ∀ j, j < 171 → f0 j = 0) (hAll : ∀ g : HS, RQ g f0 → HB g 0 → (∀ q h tk e v, q ≤ n → rd0 c n g f0 = Sum.inl q → K ((-10) - nI q) (h, X, nI n, tk, nI q, e, v)) ∧ (∀ it h f tk s e v, rd0 c n g f0 = Sum.inr (it, h, f) → RQ h f → HB h n → 1 ≤ it → it ≤ n → K (nI it) (h, X, nI n, tk, s, e, v))) : V_X6_readAll K (h, X, nI n, tk, s, ne, v) := by
  refine r_reset (fun rk hrk => ⟨n + 2 + 1, ?_⟩)
  have hH := RH.none (sk := h.2.1) (sb := h.2.2.1) (ce := h.2.2.2.1) (a := (hsg h).1) (b := (hnt h).1) (c := (hmk h).1) (d := (hpa h).1) (g := f0) hrk h0
  have hq : RQ (rk, h.2.1, h.2.2.1, h.2.2.2.1, 0, 0, 0, 0, ((hsg h).1, 0), ((hnt h).1, 0), ((hmk h).1, 0), ((hpa h).1, 0)) f0 := ⟨hH.1, hH.2.1, fun j _ hj => h0 j hj, rfl, rfl, rfl, rfl⟩
  have hb : HB (rk, h.2.1, h.2.2.1, h.2.2.2.1, 0, 0, 0, 0, ((hsg h).1, 0), ((hnt h).1, 0), ((hmk h).1, 0), ((hpa h).1, 0)) 0 := ⟨0, rfl, by omega⟩
  obtain ⟨kf, kd⟩ := hAll _ hq hb
  exact c_read0 (D := fun R => rd0 c n (rk, h.2.1, h.2.2.1, h.2.2.2.1, 0, 0, 0, 0, ((hsg h).1, 0), ((hnt h).1, 0), ((hmk h).1, 0), ((hpa h).1, 0)) f0 = R) T hq hb kf kd rfl
end
/- the model -/
theorem ml_take {K : Int32 → MS → Prop} {M : MS} {x : Int32} (kk : ∀ g : Nat → Int32, (∀ j, j < 171 → g j = M.2.1 j) → K x (g, M.2)) : ∀ (k i : Nat) (g : Nat → Int32), i + k = 171 → (∀ j, j < i → g j = M.2.1 j) → V_X8_read_208 K (k + 1) (g, M.2) x (nI i)
  | 0, i, g, hi, h => bt (nI_le (a := 171) (by omega) (by omega)) (kk g (fun j hj => h j (by omega)))
  | k + 1, i, g, hi, h => by
    have v : vp_in (nI i) 171 := vp_in_nI (by omega) (by decide)
    refine bf (nI_ge (b := 171) (by omega) (by omega)) ⟨v, v, ?_⟩
    rw [nI_clamp (by omega), nI_1]
    refine ml_take kk k (i + 1) (upd g i (M.2.1 i)) (by omega) (fun r hr => ?_)
    by_cases e : r = i
    · subst e; rw [upd_eq]
    · rw [upd_ne e]; exact h r (by omega)
section
variable {m : MS}
theorem ml_rdF {K : Int32 → MS → Prop} {f : Nat → Int32} {a t s x : Int32} {q k : Nat} (hq : q < 2 ^ 31) (hK : K ((-10) - nI q) (mR m f a (nI q) t s)) : V_X8_read_88 K (k + 1) (mR m f a (nI q) t s) x := nf (nI_ne_m1 hq) (bf (nI_ne_m1 hq) hK)
theorem ml_rd {K : Int32 → MS → Prop} {D : RS → Prop} (T : TX (txt m) c n) (hl : ltr m = nI n) (kf : ∀ q f a t s, D (Sum.inl q) → K ((-10) - nI q) (mR m f a (nI q) t s)) (kd : ∀ it h f p g, D (Sum.inr (it, h, f)) → (∀ j, j < 171 → g j = f j) → K (nI it) (g, (MP m c n f p).2)) : ∀ (k : Nat) (h : HS) (f : Nat → Int32) (p it : Nat), RQ h f → HB h p → p ≤ n → n < p + k → D (rdL c n k h f p it) → V_X8_read_88 K (k + 1) (MP m c n f p) (nI it)
  | 0, h, f, p, it, hq, hb, hp, hk, hD => absurd hk (by omega)
  | k + 1, h, f, p, it, hq, hb, hp, hk, hD => by
    have n150 := T.1
    obtain ⟨t0, s1, s2, s3⟩ := tk_all T hp
    rw [rdL] at hD
    refine nt rfl ?_
    show (tM c n p = -1 → _) ∧ (¬ tM c n p = -1 → _)
    by_cases z : tM c n p = -1
    · rw [if_pos z] at hD
      exact bt z (bt rfl ⟨172, ml_take (M := MP m c n f p) (fun g hg => kd _ _ _ _ g hD hg) 171 0 _ (by omega) (fun j hj => absurd hj (by omega))⟩)
    · rw [if_neg z] at hD
      have g := tk_go t0 z
      have ok := item_ok T hp hq hb
      refine bf z ?_
      have k1 : ∀ h' f' p', (Sum.inr (p', h', f') : RS) = item c n h f p → V_X8_read_88 K (k + 1) (MP m c n f' p') (nI it + 1) := by
        intro h' f' p' e1
        obtain ⟨g1, g2, g3, g4⟩ := ok.2 _ _ _ e1.symm
        rw [← e1] at hD
        rw [nI_1]
        exact ml_rd T hl kf kd k h' f' p' (it + 1) g1 g2 g4 (by omega) hD
      have k0 : ∀ q f' a t s, (Sum.inl q : RS) = item c n h f p → V_X8_read_88 K (k + 1) (mR m f' a (nI q) t s) (nI it + 1) := by
        intro q f' a t s e1
        have hqn := ok.1 _ e1.symm
        rw [← e1] at hD
        exact ml_rdF (by omega) (kf _ _ _ _ _ hD)
      have hR := hq.1
      show (tM c n p = 101 → _) ∧ (tM c n p = 102 → _) ∧ (tM c n p = 103 → _) ∧ (tM c n p = 104 → _) ∧ (tM c n p = 105 → _) ∧ (¬ tM c n p = 101 ∧ ¬ tM c n p = 102 ∧ ¬ tM c n p = 103 ∧ ¬ tM c n p = 104 ∧ ¬ tM c n p = 105 → _)
      have it1 : tM c n p = 101 → itSoul c n h f p = item c n h f p := fun e => by unfold item; rw [if_pos e]
      have it2 : tM c n p = 102 → itCoat c n h f p = item c n h f p := fun e => by unfold item; rw [if_neg (by rw [e]; decide), if_pos e]
      have it3 : tM c n p = 103 → itSit c n h f p = item c n h f p := fun e => by unfold item; rw [if_neg (by rw [e]; decide), if_neg (by rw [e]; decide), if_pos e]
      have it4 : tM c n p = 104 → itOut c n h f p = item c n h f p := fun e => by unfold item; rw [if_neg (by rw [e]; decide), if_neg (by rw [e]; decide), if_neg (by rw [e]; decide), if_pos e]
      have it5 : tM c n p = 105 → itMin c n h f p = item c n h f p := fun e => by unfold item; rw [if_neg (by rw [e]; decide), if_neg (by rw [e]; decide), if_neg (by rw [e]; decide), if_neg (by rw [e]; decide), if_pos e]
      refine ⟨fun e => ?_, fun e => ?_, fun e => ?_, fun e => ?_, fun e => ?_, fun e => ?_⟩
      · exact m_soul (C := fun R => R = item c n h f p) T hl hp hR k1 k0 (it1 e)
      · exact m_coat (C := fun R => R = item c n h f p) T hl hp hR k1 k0 (it2 e)
      · exact m_sit (C := fun R => R = item c n h f p) T hl hp hR k1 k0 (it3 e)
      · exact m_out (C := fun R => R = item c n h f p) T hl hp hR k1 k0 (it4 e)
      · exact m_mins (C := fun R => R = item c n h f p) T hl hp k1 k0 (it5 e)
      · refine m_must0 (k0 _ _ _ _ _ ?_)
        unfold item
        rw [if_neg e.1, if_neg e.2.1, if_neg e.2.2.1, if_neg e.2.2.2.1, if_neg e.2.2.2.2]
theorem ml_rowF {K : Int32 → MS → Prop} {a t s : Int32} {q : Nat} (hq : q < 2 ^ 31) (hK : ∀ f, K ((-10) - nI q) (mR m f a (nI q) t s)) : ∀ (k r : Nat) (f : Nat → Int32), r + k = 5 → V_X8_read_45 K (k + 1) (mR m f a (nI q) t s) (nI r)
  | 0, r, f, hr => bt (nI_le (a := 5) (by omega) (by omega)) (m_endF hq ⟨1, ml_rdF hq (hK f)⟩)
  | k + 1, r, f, hr => by
    refine bf (nI_ge (b := 5) (by omega) (by omega)) (m_numF hq (nf (nI_ne_m1 hq) ⟨vp_in_nI (by omega) (by decide), ?_⟩))
    show V_X8_read_45 K (k + 1) (mR m (upd f (nI r).toNatClampNeg 0) a (nI q) t s) (nI r + 1)
    rw [nI_1]
    exact ml_rowF hq hK k (r + 1) _ (by omega)
theorem ml_rows {K : Int32 → MS → Prop} {R : RS} {p0 : Nat} (T : TX (txt m) c n) (hl : ltr m = nI n) (hR : OK n p0 R) (kf : ∀ q f a t s, R = Sum.inl q → K ((-10) - nI q) (mR m f a (nI q) t s)) (kb : ∀ p' h' f', R = Sum.inr (p', h', f') → RQ h' f' → HB h' p' → p0 < p' → p' ≤ n → ∃ k, V_X8_read_88 K k (MP m c n f' p') 1) : ∀ (k r : Nat) (h : HS) (f : Nat → Int32) (p : Nat), r + k = 5 → p ≤ n → rws c n k r h f p = R → V_X8_read_45 K (k + 1) (MP m c n f p) (nI r)
  | 0, r, h, f, p, hr, hp, e => by
    have n150 := T.1
    obtain ⟨t0, s1, s2, s3⟩ := tk_all T hp
    rw [rws] at e
    unfold stopK at e
    refine bt (nI_le (a := 5) (by omega) (by omega)) (m_end T hl hp (fun z => ?_) (fun z => ⟨1, ml_rdF (by omega) (kf _ _ _ _ _ ?_)⟩))
    · rw [if_pos z] at e
      obtain ⟨g1, g2, g3, g4⟩ := hR.2 _ _ _ e.symm
      exact kb _ _ _ e.symm g1 g2 g3 g4
    · rw [if_neg z] at e; exact e.symm
  | k + 1, r, h, f, p, hr, hp, e => by
    have n150 := T.1
    obtain ⟨t0, s1, s2, s3⟩ := tk_all T hp
    rw [rws] at e
    refine bf (nI_ge (b := 5) (by omega) (by omega)) (m_num T hl hp (fun z => ?_) (fun z => ?_))
    · rw [if_pos z] at e
      refine nt rfl ⟨vp_in_nI (by omega) (by decide), ?_⟩
      show V_X8_read_45 K (k + 1) (MP m c n (upd f (nI r).toNatClampNeg (tM c n p)) (tE c n p)) (nI r + 1)
      rw [nI_clamp (by omega), nI_1]
      exact ml_rows T hl hR kf kb k (r + 1) _ _ _ (by omega) s3 e
    · rw [if_neg z] at e
      refine nf (nI_ne_m1 (by omega)) ⟨vp_in_nI (by omega) (by decide), ?_⟩
      show V_X8_read_45 K (k + 1) (mR m (upd f (nI r).toNatClampNeg 0) (nI (tE c n p)) (nI (tS c n p)) (tM c n p) (nI (tS c n p))) (nI r + 1)
      rw [nI_1]
      exact ml_rowF (by omega) (fun f => kf _ _ _ _ _ e.symm) k (r + 1) _ (by omega)
theorem ml_emp {K : (Nat → Int32) → Prop} {f : Nat → Int32} (kk : K (fun j => if j < 171 then 0 else f j)) : ∀ (k i : Nat) (g : Nat → Int32), i + k = 171 → (∀ j, j < i → g j = 0) → (∀ j, i ≤ j → g j = f j) → V_X8_empty_2 K (k + 1) g (nI i)
  | 0, i, g, hi, h, h2 => by
    refine bt (nI_le (a := 171) (by omega) (by omega)) ?_
    have e : g = (fun j => if j < 171 then 0 else f j) := by
      funext j
      by_cases z : j < 171
      · rw [if_pos z]; exact h j (by omega)
      · rw [if_neg z]; exact h2 j (by omega)
    rw [e]; exact kk
  | k + 1, i, g, hi, h, h2 => by
    refine bf (nI_ge (b := 171) (by omega) (by omega)) ⟨vp_in_nI (by omega) (by decide), ?_⟩
    rw [nI_clamp (by omega), nI_1]
    refine ml_emp kk k (i + 1) _ (by omega) (fun r hr => ?_) (fun r hr => ?_)
    · by_cases e : r = i
      · subst e; rw [upd_eq]
      · rw [upd_ne e]; exact h r (by omega)
    · rw [upd_ne (by omega)]; exact h2 r (by omega)
theorem m_emp {K : (Nat → Int32) → Prop} {f : Nat → Int32} (kk : K (fun j => if j < 171 then 0 else f j)) : V_X8_empty K f := ⟨_, ml_emp kk 171 0 f (by omega) (fun r hr => absurd hr (by omega)) (fun _ _ => rfl)⟩
theorem m_read {K : Int32 → MS → Prop} {D : RS → Prop} (T : TX (txt m) c n) (hl : ltr m = nI n) {h : HS} {f0 : Nat → Int32} (hf : f0 = fun j => if j < 171 then 0 else m.2.1 j) (hq : RQ h f0) (hb : HB h 0) (kf : ∀ q f a t s, D (Sum.inl q) → K ((-10) - nI q) (mR m f a (nI q) t s)) (kd : ∀ it h f p g, D (Sum.inr (it, h, f)) → (∀ j, j < 171 → g j = f j) → K (nI it) (g, (MP m c n f p).2)) (hD : D (rd0 c n h f0)) : V_X8_read K m := by
  have n150 := T.1
  obtain ⟨t0, s1, s2, s3⟩ := tk_all T (Nat.zero_le n)
  refine m_emp ?_
  rw [← hf]
  show V_X8_next _ (mR m f0 (nI 0) (-1) m.2.2.2.2.2.2.2.2.2.2.2.1 m.2.2.2.2.2.2.2.2.2.2.2.2.1)
  refine m_nxt T hl (Nat.zero_le n) ?_
  show (¬ tM c n 0 = 100 → V_X8_read_36 K (MP m c n f0 0) 0) ∧ (tM c n 0 = 100 → V_X8_read_36 K (MP m c n f0 0) 1)
  unfold rd0 at hD
  have ok := first_ok T (Nat.zero_le n) hq hb
  unfold first at ok hD
  by_cases z : tM c n 0 = 100
  · rw [if_pos z] at hD ok
    refine nt z (m_must1 (m_goOn T hl s3 ⟨6, ?_⟩))
    refine ml_rows (R := rws c n 5 0 h f0 (tE c n 0)) T hl ok (fun q f a t s e => ?_) (fun p' h' f' e g1 g2 g3 g4 => ⟨n + 2, ?_⟩) 5 0 h f0 _ (by omega) s3 rfl
    · rw [e] at hD; exact kf _ _ _ _ _ hD
    · rw [e] at hD
      exact ml_rd T hl kf kd (n + 1) h' f' p' 1 g1 g2 g4 (by omega) hD
  · rw [if_neg z] at hD
    exact nf z (m_must0 (m_goF (by omega) ⟨6, ml_rowF (by omega) (fun f => kf _ _ _ _ _ hD) 5 0 f0 (by omega)⟩))
end
end
/-- the class with another state of the text's reading -/
def uX (u : US) (x : XS) : US := (u.1, u.2.1, u.2.2.1, u.2.2.2.1, u.2.2.2.2.1, x, u.2.2.2.2.2.2)
theorem Rel.uX {u : US} {m : MS} (h : Rel u m) {x : XS} (h1 : x.2.1 = u.2.2.2.2.2.1.2.1) (h2 : x.2.2.1 = u.2.2.2.2.2.1.2.2.1) : Rel (uX u x) m := by
  obtain ⟨g, a1, a2, a3, ⟨n, b1, b2, b3, b4⟩, a5⟩ := h
  refine ⟨g, a1, a2, a3, ⟨n, b1, ?_, b3, fun j hj => ?_⟩, a5⟩
  · show x.2.2.1 = nI n
    rw [h2]; exact b2
  · show x.2.1 j = _ ∧ _
    rw [h1]; exact b4 j hj
theorem p_read : st_read Rel := by
  intro u mm hr
  obtain ⟨hH, a1, a2, a3, ⟨n, b1, b2, b3, b4⟩, a5⟩ := id hr
  have Tm : TX (txt mm) (fun j => (txt mm j).toNatClampNeg) n := ⟨b1, fun j hj => by
    obtain ⟨x, hx, ex⟩ := vp_in_of (b4 j hj).2 (by decide)
    have ex : txt mm j = nI x := ex
    show txt mm j = nI (txt mm j).toNatClampNeg ∧ (txt mm j).toNatClampNeg < 128
    rw [ex, nI_clamp (by omega)]
    exact ⟨rfl, hx⟩⟩
  have Tc : TX u.2.2.2.2.2.1.2.1 (fun j => (txt mm j).toNatClampNeg) n := ⟨b1, fun j hj => by rw [(b4 j hj).1]; exact Tm.2 j hj⟩
  generalize (fun j => (txt mm j).toNatClampNeg) = c at Tm Tc
  have hl : ltr mm = nI n := b3
  have key : ∀ (K : Int32 → XS → Prop), V_X6_readAll K (u.2.2.2.2.2.1.1, u.2.2.2.2.2.1.2.1, nI n, u.2.2.2.2.2.1.2.2.2) → V_X6_readAll K u.2.2.2.2.2.1 := by
    intro K h
    have e : u.2.2.2.2.2.1 = (u.2.2.2.2.2.1.1, u.2.2.2.2.2.1.2.1, nI n, u.2.2.2.2.2.1.2.2.2) := by
      rw [← b2]
    rw [e]; exact h
  refine key _ ?_
  refine r_readAll (f0 := fun j => if j < 171 then 0 else mm.2.1 j) Tc (fun j hj => if_pos hj) (fun g hq hb => ⟨fun q h tk e v hqn eR => ?_, fun it h f tk s e v eR hQ hB h1 hn => ?_⟩)
  · have le0 : (-10 : Int32) - nI q ≤ 0 := by
      rw [show (-10 : Int32) - nI q = -(nI (q + 10)) by rw [show (nI (q + 10)) = nI q + nI 10 from (nI_add q 10).symm]; show (-10 : Int32) - nI q = -(nI q + 10); grind]
      rw [Int32.le_iff_toInt_le, Int32.toInt_neg, nI_toInt (by omega), show (0 : Int32).toInt = 0 by decide]
      have := Int.bmod_def (-((q + 10 : Nat) : Int)) (2 ^ 32)
      omega
    refine bt le0 ?_
    show V_X8_read _ mm
    refine m_read (D := fun R => rd0 c n g (fun j => if j < 171 then 0 else mm.2.1 j) = R) Tm hl rfl hq hb (fun q' f a t s e' => ⟨?_, ?_⟩) (fun it h f p g' e' _ => ?_) rfl
    · have : q = q' := by simpa using eR.symm.trans e'
      rw [this]
    · exact (hr.uX (x := (h, u.2.2.2.2.2.1.2.1, nI n, tk, nI q, e, v)) rfl b2.symm).mR _ _ _ _ _
    · exact absurd (eR.symm.trans e') (by simp)
  · have n150 := Tm.1
    obtain ⟨t, ht, hb2⟩ := hB
    have hR : RH h f := hQ.rh (by rw [ht]; exact vp_in_nI (by omega) (by decide))
    refine bf (nI_nle (by omega) (by omega)) (r_take hR (fun w ew => ?_))
    show V_X8_read _ mm
    refine m_read (D := fun R => rd0 c n g (fun j => if j < 171 then 0 else mm.2.1 j) = R) Tm hl rfl hq hb (fun q' f a t s e' => ?_) (fun it' h' f' p g' e' hg => ⟨?_, ?_⟩) rfl
    · exact absurd (eR.symm.trans e') (by simp)
    · have : it = it' ∧ h = h' ∧ f = f' := by simpa using eR.symm.trans e'
      rw [this.1]
    · have e3 : it = it' ∧ h = h' ∧ f = f' := by simpa using eR.symm.trans e'
      obtain ⟨_, rfl, rfl⟩ := e3
      exact ⟨hR.copy ew hg, ((hr.uX (x := (h, u.2.2.2.2.2.1.2.1, nI n, tk, s, e, v)) rfl b2.symm).mR f (nI (tE c n p)) (-1) (tM c n p) (nI (tS c n p))).2⟩
