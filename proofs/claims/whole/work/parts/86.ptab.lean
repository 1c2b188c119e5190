/-! ===== the class's tables ===== -/
section
variable {lim wid : Int32} {len L w : Nat}
/-- a table's measures -/
def TM (lim wid : Int32) (len L w : Nat) : Prop := lim = nI L ∧ wid = nI w ∧ len = L * w ∧ L ≤ 8 ∧ 0 < w ∧ w ≤ 10
theorem tm_ix {k c : Nat} : nI k * nI w + nI c = nI (k * w + c) := by rw [pk_mul, nI_add]
theorem tm_lt {k c : Nat} (hk : k < L) (hc : c < w) : k * w + c < L * w := by
  have : (k + 1) * w ≤ L * w := Nat.mul_le_mul_right w hk
  rw [Nat.succ_mul] at this
  omega
theorem r_tat {K : Int32 → Prop} {u : TS} (T : TM lim wid len L w) {k l c : Nat} (hk : u.2 = nI k) (hkL : k ≤ L) (hl : l < k) (hc : c < w) (kk : K (u.1 (l * w + c))) : V_X4_at lim wid len K u (nI l) (nI c) := by
  obtain ⟨rfl, rfl, rfl, h4, h5, h6⟩ := T
  have hb : L * w ≤ 80 := Nat.mul_le_mul h4 h6
  have hlt := tm_lt (L := L) (w := w) (k := l) (c := c) (by omega) hc
  refine r_within1 k hk (by omega) (vp_in_nI hl (by omega)) (z1 (r_within1 w rfl (by omega) (vp_in_nI hc (by omega)) (z1 ?_)))
  rw [tm_ix, nI_clamp (by omega)]
  exact ⟨vp_in_nI hlt (by omega), kk⟩
theorem r_tput {K : TS → Prop} {u : TS} (T : TM lim wid len L w) {k c : Nat} {x : Int32} (hk : u.2 = nI (k + 1)) (hkL : k < L) (hc : c < w) (kk : K (upd u.1 (k * w + c) x, u.2)) : V_X4_put lim wid len K u (nI c) x := by
  obtain ⟨rfl, rfl, rfl, h4, h5, h6⟩ := T
  have hb : L * w ≤ 80 := Nat.mul_le_mul h4 h6
  have hlt := tm_lt (L := L) (w := w) (k := k) (c := c) hkL hc
  refine bf (by rw [hk]; exact nI_nle (by omega) (by omega)) (r_within1 w rfl (by omega) (vp_in_nI hc (by omega)) (z1 ?_))
  have e : u.2 - 1 = nI k := by rw [hk]; exact nI_pred k
  rw [e, tm_ix, nI_clamp (by omega)]
  exact ⟨vp_in_nI hlt (by omega), kk⟩
theorem r_topen {K : TS → Prop} {u : TS} (T : TM lim wid len L w) {k : Nat} (hk : u.2 = nI k) (hkL : k < L) (kk : K (u.1, nI (k + 1))) : V_X4_openRow lim wid len K u := by
  obtain ⟨rfl, rfl, rfl, h4, h5, h6⟩ := T
  refine bf (by rw [hk]; exact nI_ge hkL (by omega)) ?_
  rw [hk, nI_1]
  exact kk
theorem r_tfull1 {K : Int32 → Prop} {u : TS} (T : TM lim wid len L w) (hk : u.2 = nI L) (kk : K 1) : V_X4_isFull lim wid len K u := by
  obtain ⟨rfl, rfl, rfl, h4, h5, h6⟩ := T
  exact bf (by rw [hk]; exact nI_nlt (Nat.le_refl L) (by omega)) kk
theorem r_tfull0 {K : Int32 → Prop} {u : TS} (T : TM lim wid len L w) {k : Nat} (hk : u.2 = nI k) (hkL : k < L) (kk : K 0) : V_X4_isFull lim wid len K u := by
  obtain ⟨rfl, rfl, rfl, h4, h5, h6⟩ := T
  exact bt (by rw [hk]; exact nI_lt hkL (by omega)) kk
theorem r_tadd {K : Int32 → TS → Prop} {u : TS} (T : TM lim wid len L w) (hw : 3 ≤ w) {k : Nat} {a b c : Int32} (hk : u.2 = nI k) (hkL : k < L) (kk : K (nI (k + 1)) (upd (upd (upd u.1 (k * w) a) (k * w + 1) b) (k * w + 2) c, nI (k + 1))) : V_X4_add lim wid len K u a b c :=
  r_topen T hk hkL (r_tput (c := 0) T rfl hkL (by omega) (r_tput (c := 1) T rfl hkL (by omega) (r_tput (c := 2) T rfl hkL (by omega) kk)))
theorem r_tadd4 {K : Int32 → TS → Prop} {u : TS} (T : TM lim wid len L w) (hw : 4 ≤ w) {k : Nat} {a b c d : Int32} (hk : u.2 = nI k) (hkL : k < L) (kk : K (nI (k + 1)) (upd (upd (upd (upd u.1 (k * w) a) (k * w + 1) b) (k * w + 2) c) (k * w + 3) d, nI (k + 1))) : V_X4_add_ lim wid len K u a b c d :=
  r_tadd T (by omega) hk hkL (r_tput (c := 3) T rfl hkL (by omega) kk)
theorem r_tdropF {K : TS → Prop} {u : TS} (T : TM lim wid len L w) {k : Nat} (hk : u.2 = nI (k + 1)) (hkL : k < L) (kk : K (va_cpy u.1 u.1 w 0 (k * w), nI k)) : V_X4_dropFirst lim wid len K u := by
  obtain ⟨rfl, rfl, rfl, h4, h5, h6⟩ := T
  have hb : L * w ≤ 80 := Nat.mul_le_mul h4 h6
  have hkw : (k + 1) * w ≤ L * w := Nat.mul_le_mul_right w hkL
  rw [Nat.succ_mul] at hkw
  refine bf (by rw [hk]; exact nI_nle (by omega) (by omega)) ?_
  have e : u.2 - 1 = nI k := by rw [hk]; exact nI_pred k
  rw [e, pk_mul]
  have c1 : (nI w).toNatClampNeg = w := nI_clamp (by omega)
  have c2 : (nI (k * w)).toNatClampNeg = k * w := nI_clamp (by omega)
  have c0 : (0 : Int32).toNatClampNeg = 0 := by decide
  refine ⟨⟨nI_pos (by omega), by decide, nI_pos (by omega), ?_, ?_⟩, ?_⟩
  · rw [c1, c2]; omega
  · rw [c0, c2]; omega
  · rw [c1, c2, c0]; exact kk
theorem r_tdropL {K : TS → Prop} {u : TS} {k : Nat} (hk : u.2 = nI (k + 1)) (hkL : k < 8) (kk : K (u.1, nI k)) : V_X4_dropLast lim wid len K u := by
  refine bf (by rw [hk]; exact nI_nle (by omega) (by omega)) ?_
  rw [hk, nI_pred]
  exact kk
end
/-- numbers mixed into a sum -/
def mixF (f : Nat → Int32) : Nat → Nat → Int64 → Int64
  | 0, _, h => h
  | k + 1, i, h => mixF f k (i + 1) (31 * h + (f i).toInt64)
theorem mixF_congr {f g : Nat → Int32} : ∀ (k i : Nat) (h : Int64), (∀ j, i ≤ j → j < i + k → f j = g j) → mixF f k i h = mixF g k i h
  | 0, _, _, _ => rfl
  | k + 1, i, h, e => by
    rw [mixF, mixF, e i (Nat.le_refl i) (by omega)]
    exact mixF_congr k (i + 1) _ (fun j h1 h2 => e j (by omega) (by omega))
theorem l_tmix {lim wid : Int32} {len L w : Nat} {K : Int64 → Prop} {u : TS} (T : TM lim wid len L w) {n : Nat} (hk : u.2 = nI n) (hn : n ≤ L) : ∀ (k i : Nat) (h : Int64), i + k = n * w → K (mixF u.1 k i h) → V_X4_mixInto_5 lim wid len K (k + 1) u h (nI i)
  | 0, i, h, hi, hK => by
    obtain ⟨rfl, rfl, rfl, h4, h5, h6⟩ := T
    have hb : L * w ≤ 80 := Nat.mul_le_mul h4 h6
    have hnw : n * w ≤ L * w := Nat.mul_le_mul_right w hn
    exact bt (by rw [hk, pk_mul]; exact nI_le (by omega) (by omega)) hK
  | k + 1, i, h, hi, hK => by
    obtain ⟨rfl, rfl, rfl, h4, h5, h6⟩ := id T
    have hb : L * w ≤ 80 := Nat.mul_le_mul h4 h6
    have hnw : n * w ≤ L * w := Nat.mul_le_mul_right w hn
    refine bf (by rw [hk, pk_mul]; exact nI_ge (by omega) (by omega)) ⟨vp_in_nI (by omega) (by omega), ?_⟩
    rw [nI_clamp (by omega), nI_1]
    exact l_tmix T hk hn k (i + 1) _ (by omega) hK
theorem r_tmix {lim wid : Int32} {len L w : Nat} {K : Int64 → Prop} {u : TS} {h : Int64} (T : TM lim wid len L w) {n : Nat} (hk : u.2 = nI n) (hn : n ≤ L) (kk : K (mixF u.1 (n * w) 0 h)) : V_X4_mixInto lim wid len K u h := ⟨_, l_tmix T hk hn (n * w) 0 h (by omega) kk⟩
theorem TM_sg : TM 5 3 15 5 3 := by unfold TM; exact ⟨rfl, rfl, rfl, by decide, by decide, by decide⟩
theorem TM_nt : TM 6 3 18 6 3 := by unfold TM; exact ⟨rfl, rfl, rfl, by decide, by decide, by decide⟩
theorem TM_mk : TM 6 4 24 6 4 := by unfold TM; exact ⟨rfl, rfl, rfl, by decide, by decide, by decide⟩
theorem TM_pa : TM 8 10 80 8 10 := by unfold TM; exact ⟨rfl, rfl, rfl, by decide, by decide, by decide⟩
theorem r_ttake {K : TS × TS → Prop} {a b : TS} {lim wid : Int32} {len L w : Nat} (T : TM lim wid len L w) {n : Nat} (hn : b.2 = nI n) (hnL : n ≤ L) (kk : ∀ g : Nat → Int32, (∀ j, j < len → g j = b.1 j) → K ((g, b.2), b)) : V_X4_takeFrom lim wid len lim wid len K (a, b) := by
  obtain ⟨rfl, rfl, rfl, h4, h5, h6⟩ := T
  have hb : L * w ≤ 80 := Nat.mul_le_mul h4 h6
  have e0 : (if Int32.ofNat (L * w) < Int32.ofNat (L * w) then Int32.ofNat (L * w) else Int32.ofNat (L * w)) = nI (L * w) := by split <;> rfl
  have e1 : (nI (L * w)).toNatClampNeg = L * w := nI_clamp (by omega)
  have c0 : (0 : Int32).toNatClampNeg = 0 := by decide
  unfold V_X4_takeFrom
  rw [e0, e1, c0]
  refine ⟨⟨by decide, by decide, nI_pos (by omega), ?_, ?_⟩, ?_⟩
  · rw [e1, c0]; omega
  · rw [e1, c0]; omega
  · have e2 : (if b.2 < nI L then b.2 else nI L) = b.2 := by
      rw [hn]
      by_cases q : nI n < nI L
      · rw [if_pos q]
      · rw [if_neg q]
        have := mt (nI_ltI (a := n) (b := L) (by omega) (by omega)).mpr q
        have e : n = L := by omega
        rw [e]
    show K ((va_cpy b.1 a.1 0 0 (L * w), (if b.2 < nI L then b.2 else nI L)), b)
    rw [e2]
    refine kk _ (fun j hj => ?_)
    rw [pk_cpy_in (Nat.zero_le j) (by omega), Nat.zero_add, Nat.sub_zero]
