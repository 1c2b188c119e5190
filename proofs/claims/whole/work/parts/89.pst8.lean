/-! ===== steps: count, digest ===== -/
theorem nI_and (a b : Nat) : nI a &&& nI b = nI (a &&& b) := by
  apply Int32.toBitVec_inj.mp
  apply BitVec.eq_of_toNat_eq
  show (BitVec.ofNat 32 a &&& BitVec.ofNat 32 b).toNat = (BitVec.ofNat 32 (a &&& b)).toNat
  rw [BitVec.ofNat_and]
theorem ushr_at {n : Nat} (hn : n < 2 ^ 31) (k : Nat) (s : UInt32) (hs : s.toNat = k) (hk : k < 32) : ((nI n).toUInt32 >>> s).toInt32 = nI (n / 2 ^ k) := by
  apply Int32.toBitVec_inj.mp
  apply BitVec.eq_of_toNat_eq
  have e1 : (((nI n).toUInt32 >>> s).toInt32).toBitVec.toNat = ((nI n).toUInt32 >>> s).toNat := rfl
  rw [e1, UInt32.toNat_shiftRight, hs, Nat.mod_eq_of_lt hk, Nat.shiftRight_eq_div_pow]
  have e2 : (nI n).toUInt32.toNat = (nI n).toBitVec.toNat := rfl
  have e3 : n / 2 ^ k ≤ n := Nat.div_le_self _ _
  rw [e2, pk_tn (by omega), pk_tn (by omega)]
theorem and_lane (k : Nat) {a b c d : Nat} (ha : a < 2 ^ k) (hc : c < 2 ^ k) : (a + 2 ^ k * b) &&& (c + 2 ^ k * d) = (a &&& c) + 2 ^ k * (b &&& d) := by
  apply Nat.eq_of_testBit_eq
  intro j
  have hac : a &&& c < 2 ^ k := Nat.and_lt_two_pow a hc
  rw [Nat.testBit_and, Nat.add_comm a, Nat.add_comm c, Nat.add_comm (a &&& c), Nat.testBit_two_pow_mul_add _ ha, Nat.testBit_two_pow_mul_add _ hc, Nat.testBit_two_pow_mul_add _ hac]
  split <;> simp
def pA (m x : Nat) : Nat := x - (x / 2 &&& m)
def pB (m x : Nat) : Nat := (x &&& m) + (x / 4 &&& m)
def pC (m x : Nat) : Nat := (x + x / 16) &&& m
theorem pA_lane {l h M : Nat} (hl : l < 256) : pA (85 + 256 * M) (l + 256 * h) = pA 85 l + 256 * pA M h := by
  unfold pA
  have e : (l + 256 * h) / 2 = (l / 2 + 2 ^ 7 * (h % 2)) + 2 ^ 8 * (h / 2) := by omega
  rw [e, show 85 + 256 * M = 85 + 2 ^ 8 * M by omega, and_lane 8 (by omega) (by omega)]
  have e2 : (l / 2 + 2 ^ 7 * (h % 2)) &&& 85 = l / 2 &&& 85 := by
    have := and_lane 7 (a := l / 2) (b := h % 2) (c := 85) (d := 0) (by omega) (by omega)
    simpa using this
  rw [e2]
  have h1 : l / 2 &&& 85 ≤ l / 2 := Nat.and_le_left
  have h2 : h / 2 &&& M ≤ h / 2 := Nat.and_le_left
  omega
theorem pB_lane {l h M : Nat} (hl : l < 256) : pB (51 + 256 * M) (l + 256 * h) = pB 51 l + 256 * pB M h := by
  unfold pB
  have e : (l + 256 * h) / 4 = (l / 4 + 2 ^ 6 * (h % 4)) + 2 ^ 8 * (h / 4) := by omega
  rw [e, show 51 + 256 * M = 51 + 2 ^ 8 * M by omega, show l + 256 * h = l + 2 ^ 8 * h by omega, and_lane 8 (by omega) (by omega), and_lane 8 (by omega) (by omega)]
  have e2 : (l / 4 + 2 ^ 6 * (h % 4)) &&& 51 = l / 4 &&& 51 := by
    have := and_lane 6 (a := l / 4) (b := h % 4) (c := 51) (d := 0) (by omega) (by omega)
    simpa using this
  rw [e2]
  omega
theorem pC_lane {l h M : Nat} (hl : l + l / 16 + 16 * (h % 16) < 256) : pC (15 + 256 * M) (l + 256 * h) = pC 15 l + 256 * pC M h := by
  unfold pC
  have e : (l + 256 * h) + (l + 256 * h) / 16 = (l + l / 16 + 16 * (h % 16)) + 2 ^ 8 * (h + h / 16) := by omega
  rw [e, show 15 + 256 * M = 15 + 2 ^ 8 * M by omega, and_lane 8 (by omega) (by omega)]
  have e2 : (l + l / 16 + 16 * (h % 16)) &&& 15 = (l + l / 16) &&& 15 := by
    have f := fun x => Nat.and_two_pow_sub_one_eq_mod x 4
    simp only [show 2 ^ 4 - 1 = 15 by decide] at f
    rw [f, f]; omega
  rw [e2]
def pop (n : Nat) : Nat := cnt (fun j => n.testBit j) 8 0
theorem byte_dec : ∀ l : Nat, l < 256 → pA 85 l < 256 ∧ pB 51 (pA 85 l) % 16 ≤ 4 ∧ pB 51 (pA 85 l) ≤ 68 ∧ pC 15 (pB 51 (pA 85 l)) = pop l ∧ pop l ≤ 8 := by decide +kernel
theorem cnt_split {p : Nat → Bool} : ∀ (a b i : Nat), cnt p (a + b) i = cnt p a i + cnt p b (i + a)
  | 0, b, i => by rw [Nat.zero_add, cnt, Nat.zero_add, Nat.add_zero]
  | a + 1, b, i => by
    rw [Nat.add_right_comm, cnt, cnt, cnt_split a b (i + 1), show i + 1 + a = i + (a + 1) by omega]; omega
theorem cnt_shift {p q : Nat → Bool} : ∀ (k i j : Nat), (∀ l, l < k → p (i + l) = q (j + l)) → cnt p k i = cnt q k j
  | 0, _, _, _ => rfl
  | k + 1, i, j, h => by
    rw [cnt, cnt, show p i = q j from h 0 (by omega), cnt_shift k (i + 1) (j + 1) (fun l hl => by
      have := h (l + 1) (by omega)
      rw [show i + 1 + l = i + (l + 1) by omega, show j + 1 + l = j + (l + 1) by omega]; exact this)]
theorem pop_lane {l h : Nat} (hl : l < 256) (k : Nat) : cnt (fun j => (l + 256 * h).testBit j) (8 + k) 0 = pop l + cnt (fun j => h.testBit j) k 0 := by
  have e : ∀ j, (l + 256 * h).testBit j = if j < 8 then l.testBit j else h.testBit (j - 8) := fun j => by
    rw [show l + 256 * h = 2 ^ 8 * h + l by omega]; exact Nat.testBit_two_pow_mul_add h (by omega) j
  rw [cnt_split]
  congr 1
  · unfold pop
    exact cnt_congr 8 0 (fun j _ hj => by rw [e, if_pos (by omega)])
  · exact cnt_shift k (0 + 8) 0 (fun j hj => by rw [e, if_neg (by omega), show 0 + 8 + j - 8 = 0 + j by omega])
def bits30 (n : Nat) : Nat := cnt (fun j => n.testBit j) 30 0
theorem cnt_none {p : Nat → Bool} : ∀ (k i : Nat), (∀ j, i ≤ j → j < i + k → p j = false) → cnt p k i = 0
  | 0, _, _ => rfl
  | k + 1, i, h => by
    rw [cnt, h i (Nat.le_refl i) (by omega), cnt_none k (i + 1) (fun j h1 h2 => h j (by omega) (by omega))]; rfl
theorem r_bits {K : Int32 → Prop} {n : Nat} (hn : n < 2 ^ 30) (k : K (nI (bits30 n))) : V_J6_bitCount_0f7a4 K (nI n) := by
  obtain ⟨l0, l1, l2, l3, h0, h1, h2, h3, rfl⟩ : ∃ l0 l1 l2 l3, l0 < 256 ∧ l1 < 256 ∧ l2 < 256 ∧ l3 < 64 ∧ n = l0 + 256 * (l1 + 256 * (l2 + 256 * l3)) := ⟨n % 256, n / 256 % 256, n / 65536 % 256, n / 16777216, by omega, by omega, by omega, by omega, by omega⟩
  obtain ⟨a0, b0, c0, d0, e0⟩ := byte_dec l0 h0
  obtain ⟨a1, b1, c1, d1, e1⟩ := byte_dec l1 h1
  obtain ⟨a2, b2, c2, d2, e2⟩ := byte_dec l2 h2
  obtain ⟨a3, b3, c3, d3, e3⟩ := byte_dec l3 (by omega)
  have hp : bits30 (l0 + 256 * (l1 + 256 * (l2 + 256 * l3))) = pop l0 + (pop l1 + (pop l2 + pop l3)) := by
    unfold bits30
    rw [show 30 = 8 + 22 by omega, pop_lane h0, show 22 = 8 + 14 by omega, pop_lane h1, show 14 = 8 + 6 by omega, pop_lane h2]
    have : pop l3 = cnt (fun j => l3.testBit j) 6 0 + cnt (fun j => l3.testBit j) 2 (0 + 6) := cnt_split 6 2 0
    rw [this, cnt_none 2 (0 + 6) (fun j q1 _ => Nat.testBit_lt_two_pow (Nat.lt_of_lt_of_le h3 (by
      have : 2 ^ 6 ≤ 2 ^ j := Nat.pow_le_pow_right (by omega) (by omega)
      exact this)))]
    omega
  generalize hA : pA 1431655765 (l0 + 256 * (l1 + 256 * (l2 + 256 * l3))) = A
  generalize hB : pB 858993459 A = B
  generalize hC : pC 252645135 B = C
  have eA : A = pA 85 l0 + 256 * (pA 85 l1 + 256 * (pA 85 l2 + 256 * pA 85 l3)) := by
    rw [← hA, show 1431655765 = 85 + 256 * (85 + 256 * (85 + 256 * 85)) by omega, pA_lane h0, pA_lane h1, pA_lane h2]
  have eB : B = pB 51 (pA 85 l0) + 256 * (pB 51 (pA 85 l1) + 256 * (pB 51 (pA 85 l2) + 256 * pB 51 (pA 85 l3))) := by
    rw [← hB, eA, show 858993459 = 51 + 256 * (51 + 256 * (51 + 256 * 51)) by omega, pB_lane a0, pB_lane a1, pB_lane a2]
  have eC : C = pop l0 + 256 * (pop l1 + 256 * (pop l2 + 256 * pop l3)) := by
    rw [← hC, eB, show 252645135 = 15 + 256 * (15 + 256 * (15 + 256 * 15)) by omega, pC_lane (by omega), pC_lane (by omega), pC_lane (by omega), d0, d1, d2, d3]
  have lB : B < 2 ^ 31 := by
    clear hA hB hC eC eA hp d0 d1 d2 d3 e0 e1 e2 e3 b0 b1 b2 b3 hn
    omega
  have fin : (C + C / 2 ^ 8 + (C + C / 2 ^ 8) / 2 ^ 16) % 64 = pop l0 + (pop l1 + (pop l2 + pop l3)) := by
    clear hA hB hC eB eA hp d0 d1 d2 d3 a0 a1 a2 a3 b0 b1 b2 b3 c0 c1 c2 c3 hn lB h0 h1 h2 h3
    generalize pop l0 = p0 at *
    generalize pop l1 = p1 at *
    generalize pop l2 = p2 at *
    generalize pop l3 = p3 at *
    have q1 : C / 2 ^ 8 = p1 + 256 * (p2 + 256 * p3) := by omega
    have q2 : (C + C / 2 ^ 8) / 2 ^ 16 = p2 + p3 + 256 * p3 := by rw [q1]; omega
    rw [q2, q1]; omega
  have lC : C < 2 ^ 29 := by
    clear hA hB hC eB eA hp d0 d1 d2 d3 a0 a1 a2 a3 b0 b1 b2 b3 c0 c1 c2 c3 hn lB h0 h1 h2 h3 fin
    omega
  have lA : A ≤ l0 + 256 * (l1 + 256 * (l2 + 256 * l3)) := by rw [← hA]; exact Nat.sub_le _ _
  generalize hx : l0 + 256 * (l1 + 256 * (l2 + 256 * l3)) = x at *
  have m1 : x / 2 &&& 1431655765 ≤ x := Nat.le_trans Nat.and_le_left (Nat.div_le_self _ _)
  have iA : nI x - (((nI x).toUInt32 >>> ((1).toUInt32 &&& Int32.toUInt32 31)).toInt32 &&& 1431655765) = nI A := by
    rw [ushr_at (by omega) 1 _ (by decide) (by decide), show (1431655765 : Int32) = nI 1431655765 from rfl, nI_and, pk_sub m1, ← hA]; rfl
  have iB : (nI A &&& 858993459) + (((nI A).toUInt32 >>> ((2).toUInt32 &&& Int32.toUInt32 31)).toInt32 &&& 858993459) = nI B := by
    rw [ushr_at (by omega) 2 _ (by decide) (by decide), show (858993459 : Int32) = nI 858993459 from rfl, nI_and, nI_and, nI_add, ← hB]; rfl
  have iC : (nI B + ((nI B).toUInt32 >>> ((4).toUInt32 &&& Int32.toUInt32 31)).toInt32) &&& 252645135 = nI C := by
    rw [ushr_at (by omega) 4 _ (by decide) (by decide), show (252645135 : Int32) = nI 252645135 from rfl, nI_add, nI_and, ← hC]; rfl
  unfold V_J6_bitCount_0f7a4
  rw [iA, iB, iC, ushr_at (by omega) 8 _ (by decide) (by decide), nI_add, ushr_at (by omega) 16 _ (by decide) (by decide), nI_add, show (63 : Int32) = nI 63 from rfl, nI_and]
  have fin2 : (C + C / 2 ^ 8 + (C + C / 2 ^ 8) / 2 ^ 16) &&& 63 = bits30 x := by
    have := Nat.and_two_pow_sub_one_eq_mod (C + C / 2 ^ 8 + (C + C / 2 ^ 8) / 2 ^ 16) 6
    rw [show 2 ^ 6 - 1 = 63 by decide, show 2 ^ 6 = 64 by decide] at this
    rw [this, hp, fin]
  rw [fin2]; exact k
theorem sh_at : ∀ j : Nat, j < 31 → ((nI j &&& 31 : Int32).toBitVec.smod 32).toNat = j := by decide +kernel
theorem hasB_bit {n j : Nat} (hn : n < 2 ^ 31) (hj : j < 31) : hasB (nI n) (nI j) ↔ n.testBit j = true := by
  unfold hasB
  rw [pk_shrN hn _ j (sh_at j hj), show (1 : Int32) = nI 1 from rfl, nI_and]
  have := Nat.and_two_pow_sub_one_eq_mod (n / 2 ^ j) 1
  rw [show 2 ^ 1 - 1 = 1 by decide, show 2 ^ 1 = 2 by decide] at this
  rw [this, nI_eq (by omega) (by omega), Nat.testBit_eq_decide_div_mod_eq, decide_eq_true_iff]
def coatsH (u : HS) : Nat := bits30 (hco u).toNatClampNeg
