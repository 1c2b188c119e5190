/-! ===== PURE LAYER: the V predicates evaluated. Rules 'r_..' of the class, 'm_..' of the model ===== -/
theorem z0 {A B : Prop} (a : A) : ((0 : Int32) = 0 → A) ∧ (¬ (0 : Int32) = 0 → B) := ⟨fun _ => a, fun h => absurd rfl h⟩
theorem z1 {A B : Prop} (b : B) : ((1 : Int32) = 0 → A) ∧ (¬ (1 : Int32) = 0 → B) := ⟨fun h => absurd h (by decide), fun _ => b⟩
theorem y0 {A B : Prop} (b : B) : (¬ (0 : Int32) = 0 → A) ∧ ((0 : Int32) = 0 → B) := ⟨fun h => absurd rfl h, fun _ => b⟩
theorem y1 {A B : Prop} (a : A) : (¬ (1 : Int32) = 0 → A) ∧ ((1 : Int32) = 0 → B) := ⟨fun _ => a, fun h => absurd h (by decide)⟩
theorem bt {c A B : Prop} (h : c) (a : A) : (c → A) ∧ (¬ c → B) := ⟨fun _ => a, fun n => absurd h n⟩
theorem bf {c A B : Prop} (h : ¬ c) (b : B) : (c → A) ∧ (¬ c → B) := ⟨fun n => absurd n h, fun _ => b⟩
theorem nt {c A B : Prop} (h : c) (b : B) : (¬ c → A) ∧ (c → B) := ⟨fun n => absurd h n, fun _ => b⟩
theorem nf {c A B : Prop} (h : ¬ c) (a : A) : (¬ c → A) ∧ (c → B) := ⟨fun _ => a, fun n => absurd n h⟩
theorem ii (x : Int32) : x = nI x.toNatClampNeg ∨ x < 0 := by
  by_cases h : x < 0
  · exact Or.inr h
  · obtain ⟨j, hj, rfl⟩ := nI_of h
    exact Or.inl (by rw [nI_clamp hj])
theorem vi_mono {x : Int32} {n m : Nat} (h : vp_in x n) (hm : n ≤ m) : vp_in x m := fun q => h (q.elim Or.inl (fun q => Or.inr (by omega)))
theorem vi_not {x : Int32} {n : Nat} (h : ¬ vp_in x n) (hn : n < 2 ^ 31) : x < 0 ∨ nI n ≤ x := by
  rcases pk_ix x hn with h1 | h1 | ⟨j, hj, rfl⟩
  · exact Or.inl h1
  · exact Or.inr h1
  · exact absurd (vp_in_nI hj hn) h
theorem vi_0 {x : Int32} {n : Nat} (h : vp_in x n) : ¬ x < 0 := fun q => h (Or.inl q)
theorem vi_lt {x : Int32} {n : Nat} (h : vp_in x n) (hn : n < 2 ^ 31) : ¬ nI n ≤ x := by
  obtain ⟨j, hj, rfl⟩ := vp_in_of h hn
  exact nI_ge hj hn
theorem r_within1 {K : Int32 → Prop} {x y : Int32} (n : Nat) (hy : y = nI n) (hn : n < 2 ^ 31) (h : vp_in x n) (k : K 1) : V_X7_within K x y := by
  subst hy
  exact bf (vi_0 h) (bf (vi_lt h hn) k)
theorem r_within0 {K : Int32 → Prop} {x y : Int32} (n : Nat) (hy : y = nI n) (hn : n < 2 ^ 31) (h : ¬ vp_in x n) (k : K 0) : V_X7_within K x y := by
  subst hy
  rcases vi_not h hn with h1 | h1
  · exact ⟨fun _ => k, fun q => absurd h1 q⟩
  · exact ⟨fun _ => k, fun _ => bt h1 k⟩
/-- bit x of the set b -/
def hasB (b x : Int32) : Prop := ((b >>> (x &&& 31)) &&& 1) = 1
theorem r_has1 {K : Int32 → Prop} {b x : Int32} (h : hasB b x) (k : K 1) : V_X7_has K b x := ⟨fun q => absurd h q, fun _ => k⟩
theorem r_has0 {K : Int32 → Prop} {b x : Int32} (h : ¬ hasB b x) (k : K 0) : V_X7_has K b x := ⟨fun _ => k, fun q => absurd q h⟩
/-- what a row of a kind shows from a seat, as the class says it -/
def sightV (kind s : Int32) : Int32 :=
  let pl := 9 - (if 0 ≤ 2 * s - 5 then 2 * s - 5 else 0 - (2 * s - 5))
  let pi := if s = 2 then 0 else pl
  if kind = 1 then pi else if kind = 2 then pl + 4 else if kind = 3 then pl / 2 else if kind = 4 then (if 0 < pi - 2 then pi - 2 else 0) else if kind = 5 then (if 0 < pl + 4 - 2 * s then pl + 4 - 2 * s else 0) else pl
theorem r_sight {K : Int32 → Prop} {kind s : Int32} (k : K (sightV kind s)) : V_X1_sight K kind s := by
  have key : ∀ z : Int32, z = (if s = 2 then 0 else 9 - (if 0 ≤ 2 * s - 5 then 2 * s - 5 else 0 - (2 * s - 5))) → V_X1_sight_22 K kind s (9 - (if 0 ≤ 2 * s - 5 then 2 * s - 5 else 0 - (2 * s - 5))) z := by
    intro z hz
    unfold sightV at k
    dsimp only at k
    rw [← hz] at k
    refine ⟨fun h => ?_, fun h => ?_, fun h => ?_, fun h => ?_, fun h => ?_, fun h => ?_⟩
    · subst h; simpa using k
    · subst h; simpa using k
    · subst h; simpa using k
    · subst h; simpa using k
    · subst h; simpa using k
    · simpa [h.1, h.2.1, h.2.2.1, h.2.2.2.1, h.2.2.2.2] using k
  exact ⟨fun h => key _ (by rw [if_neg h]), fun h => key _ (by rw [if_pos h])⟩
/-- how much fuss a soul of a kind makes by so many knees in a minute -/
def fussV (kind k t : Int32) : Int32 :=
  let late := if t < 10 then k else 2 * k
  if kind = 1 then k + 2 else if kind = 2 then late else if kind = 3 then (k + 1) / 2 else if kind = 4 then k + 2 - 1 else if kind = 5 then (if k < 1 then late else late + 3) else k
theorem r_fuss {K : Int32 → Prop} {kind n t : Int32} (k : K (fussV kind n t)) : V_X1_fuss K kind n t := by
  have key : ∀ z : Int32, z = (if t < 10 then n else 2 * n) → V_X1_fuss_17 K kind n (n + 2) z := by
    intro z hz
    unfold fussV at k
    rw [← hz] at k
    dsimp only at k
    refine ⟨fun h => ?_, fun h => ?_, fun h => ?_, fun h => ?_, fun h => ⟨fun h2 => ?_, fun h2 => ?_⟩, fun h => ?_⟩
    · subst h; simpa using k
    · subst h; simpa using k
    · subst h; simpa using k
    · subst h; simpa using k
    · subst h; simpa [h2] using k
    · subst h; simpa [h2] using k
    · simpa [h.1, h.2.1, h.2.2.1, h.2.2.2.1, h.2.2.2.2] using k
  exact ⟨fun h => key _ (by rw [if_pos h]), fun h => key _ (by rw [if_neg h])⟩
/-- the first place from i on, of k places, with p; else -1 -/
def fnd (p : Nat → Bool) : Nat → Nat → Int32
  | 0, _ => -1
  | k + 1, i => if p i = true then nI i else fnd p k (i + 1)
theorem fnd_congr {p q : Nat → Bool} : ∀ (k i : Nat), (∀ j, i ≤ j → j < i + k → p j = q j) → fnd p k i = fnd q k i
  | 0, _, _ => rfl
  | k + 1, i, h => by
    rw [fnd, fnd, h i (Nat.le_refl i) (by omega), fnd_congr k (i + 1) (fun j h1 h2 => h j (by omega) (by omega))]
theorem fnd_spec {p : Nat → Bool} : ∀ (k i : Nat), (fnd p k i = -1 ∧ ∀ j, i ≤ j → j < i + k → p j = false) ∨ ∃ j, i ≤ j ∧ j < i + k ∧ p j = true ∧ fnd p k i = nI j ∧ ∀ j2, i ≤ j2 → j2 < j → p j2 = false
  | 0, i => Or.inl ⟨rfl, fun j h1 h2 => absurd h2 (by omega)⟩
  | k + 1, i => by
    by_cases hp : p i = true
    · exact Or.inr ⟨i, Nat.le_refl i, by omega, hp, by rw [fnd, if_pos hp], fun j2 h1 h2 => absurd h2 (by omega)⟩
    · rcases fnd_spec (p := p) k (i + 1) with ⟨h1, h2⟩ | ⟨j, h1, h2, h3, h4, h5⟩
      · refine Or.inl ⟨by rw [fnd, if_neg hp]; exact h1, fun j h3 h4 => ?_⟩
        rcases Nat.eq_or_lt_of_le h3 with rfl | h3
        · simpa using hp
        · exact h2 j h3 (by omega)
      · refine Or.inr ⟨j, by omega, by omega, h3, by rw [fnd, if_neg hp]; exact h4, fun j2 h6 h7 => ?_⟩
        rcases Nat.eq_or_lt_of_le h6 with rfl | h6
        · simpa using hp
        · exact h5 j2 h6 h7
/-- how many of k places from i on have p -/
def cnt (p : Nat → Bool) : Nat → Nat → Nat
  | 0, _ => 0
  | k + 1, i => (if p i = true then 1 else 0) + cnt p k (i + 1)
theorem cnt_congr {p q : Nat → Bool} : ∀ (k i : Nat), (∀ j, i ≤ j → j < i + k → p j = q j) → cnt p k i = cnt q k i
  | 0, _, _ => rfl
  | k + 1, i, h => by
    rw [cnt, cnt, h i (Nat.le_refl i) (by omega), cnt_congr k (i + 1) (fun j h1 h2 => h j (by omega) (by omega))]
theorem cnt_le {p : Nat → Bool} : ∀ (k i : Nat), cnt p k i ≤ k
  | 0, _ => Nat.le_refl 0
  | k + 1, i => by
    rw [cnt]
    have := cnt_le (p := p) k (i + 1)
    split <;> omega
theorem nI_ne_m1 {j : Nat} (h : j < 2 ^ 31) : ¬ nI j = -1 := by
  intro e
  have h1 := congrArg Int32.toInt e
  rw [nI_toInt h] at h1
  have h2 : (-1 : Int32).toInt = -1 := by decide
  omega
