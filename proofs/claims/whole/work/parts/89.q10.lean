/-! ===== orders: all orders of some souls, as the model goes through them (lists alone) ===== -/
def lsf (p : Nat → Bool) : Nat → Nat → List Nat
  | 0, _ => []
  | k + 1, i => if p i = true then i :: lsf p k (i + 1) else lsf p k (i + 1)
def lst (b : Nat) : List Nat := lsf (fun j => b.testBit j) 7 0
def enm : Nat → List Nat → List (List Nat)
  | 0, _ => [[]]
  | k + 1, l => l.flatMap (fun i => (enm k (l.erase i)).map (fun q => i :: q))
def swp (p : List Nat) (a b : Nat) : List Nat := (p.set a (p.getD b 0)).set b (p.getD a 0)
def fI (p : List Nat) : Nat → Option Nat
  | 0 => none
  | k + 1 => if p.getD k 0 ≤ p.getD (k + 1) 0 then some k else fI p k
def fJ (p : List Nat) (x : Nat) : Nat → Nat
  | 0 => 0
  | k + 1 => if x ≤ p.getD (k + 1) 0 then k + 1 else fJ p x k
def rvs : Nat → Nat → Nat → List Nat → List Nat
  | 0, _, _, p => p
  | f + 1, lo, hi, p => if hi ≤ lo then p else rvs f (lo + 1) (hi - 1) (swp p lo hi)
def nxP (p : List Nat) : Option (List Nat) :=
  match fI p (p.length - 1) with
  | none => none
  | some i => some (rvs 4 (i + 1) (p.length - 1) (swp p i (fJ p (p.getD i 0) (p.length - 1))))
def ch : List (List Nat) → Option (List Nat) → Prop
  | [], _ => True
  | p :: l, e => nxP p = (match l with
    | [] => e
    | q :: _ => some q) ∧ ch l e
theorem ch_append {q : List Nat} {M : List (List Nat)} {e : Option (List Nat)} : ∀ (L : List (List Nat)), ch L (some q) → ch (q :: M) e → ch (L ++ (q :: M)) e
  | [], _, h2 => h2
  | [p], h1, h2 => ⟨h1.1, h2⟩
  | p :: r :: l, h1, h2 => ⟨h1.1, ch_append (r :: l) h1.2 h2⟩
theorem fI_cons (a : Nat) (l : List Nat) : ∀ k, fI (a :: l) (k + 1) = match fI l k with
    | some i => some (i + 1)
    | none => if a ≤ l.getD 0 0 then some 0 else none
  | 0 => by
    show (if (a :: l).getD 0 0 ≤ (a :: l).getD 1 0 then some 0 else none) = _
    rfl
  | k + 1 => by
    rw [fI]
    rw [fI_cons a l k]
    show (if l.getD k 0 ≤ l.getD (k + 1) 0 then some (k + 1) else _) = _
    rw [fI]
    by_cases q : l.getD k 0 ≤ l.getD (k + 1) 0
    · rw [if_pos q, if_pos q]
    · rw [if_neg q, if_neg q]
theorem fI_lt {p : List Nat} : ∀ {k i : Nat}, fI p k = some i → i < k ∧ p.getD i 0 ≤ p.getD (i + 1) 0
  | 0, i, h => by exact absurd h (by simp [fI])
  | k + 1, i, h => by
    rw [fI] at h
    by_cases q : p.getD k 0 ≤ p.getD (k + 1) 0
    · rw [if_pos q] at h
      have : k = i := by simpa using h
      subst this
      exact ⟨by omega, q⟩
    · rw [if_neg q] at h
      have := fI_lt h
      exact ⟨by omega, this.2⟩
theorem fJ_cons (a x : Nat) (l : List Nat) {i : Nat} (hi : x ≤ l.getD (i + 1) 0) : ∀ k, i + 1 ≤ k → fJ (a :: l) x (k + 1) = fJ l x k + 1
  | 0, h => absurd h (by omega)
  | k + 1, h => by
    have e1 : fJ (a :: l) x (k + 1 + 1) = if x ≤ l.getD (k + 1) 0 then k + 1 + 1 else fJ (a :: l) x (k + 1) := rfl
    have e2 : fJ l x (k + 1) = if x ≤ l.getD (k + 1) 0 then k + 1 else fJ l x k := rfl
    rw [e1, e2]
    by_cases q : x ≤ l.getD (k + 1) 0
    · rw [if_pos q, if_pos q]
    · rw [if_neg q, if_neg q]
      have : ¬ k = i := fun z => q (by rw [z]; exact hi)
      exact fJ_cons a x l hi k (by omega)
theorem swp_cons (a : Nat) (l : List Nat) (i j : Nat) : swp (a :: l) (i + 1) (j + 1) = a :: swp l i j := rfl
theorem rvs_cons (a : Nat) : ∀ (f lo hi : Nat) (l : List Nat), rvs f (lo + 1) (hi + 1) (a :: l) = a :: rvs f lo hi l
  | 0, _, _, _ => rfl
  | f + 1, lo, hi, l => by
    rw [rvs, rvs]
    by_cases q : hi ≤ lo
    · rw [if_pos q, if_pos (by omega)]
    · rw [if_neg q, if_neg (by omega), swp_cons]
      have := rvs_cons a f (lo + 1) (hi - 1) (swp l lo hi)
      rw [show hi - 1 + 1 = hi + 1 - 1 by omega] at this
      exact this
theorem nxP_cons {a : Nat} {l q : List Nat} (h : nxP l = some q) : nxP (a :: l) = some (a :: q) := by
  unfold nxP at h ⊢
  have l1 : (a :: l).length - 1 = l.length := rfl
  rw [l1]
  cases l with
  | nil => exact absurd h (by simp [fI])
  | cons b l =>
    have l2 : (b :: l).length - 1 = l.length := rfl
    have l3 : (b :: l).length = l.length + 1 := rfl
    rw [l2] at h
    rw [l3, fI_cons]
    cases hf : fI (b :: l) l.length with
    | none => rw [hf] at h; exact absurd h (by simp)
    | some i =>
      rw [hf] at h
      have hf2 := fI_lt hf
      have hq : rvs 4 (i + 1) l.length (swp (b :: l) i (fJ (b :: l) ((b :: l).getD i 0) l.length)) = q := by simpa using h
      show some (rvs 4 (i + 1 + 1) (l.length + 1) (swp (a :: b :: l) (i + 1) (fJ (a :: b :: l) ((b :: l).getD i 0) (l.length + 1)))) = _
      rw [fJ_cons a _ (b :: l) (i := i) hf2.2 l.length (by omega), swp_cons, rvs_cons, hq]
theorem ch_map {a : Nat} {e : Option (List Nat)} : ∀ (L : List (List Nat)), ch L none → (∀ z, L.getLast? = some z → nxP (a :: z) = e) → ch (L.map (fun q => a :: q)) e
  | [], _, _ => trivial
  | [p], _, h2 => ⟨h2 p rfl, trivial⟩
  | p :: r :: l, h1, h2 => ⟨nxP_cons h1.1, ch_map (r :: l) h1.2 (fun z hz => h2 z (by rw [List.getLast?_cons_cons]; exact hz))⟩
/-- where one soul's orders end and the next one's begin -/
def bd (l : List Nat) : List Nat → Bool
  | [] => true
  | x :: r => (match r with
    | [] => nxP (x :: (l.erase x).reverse) == none
    | y :: _ => nxP (x :: (l.erase x).reverse) == some (y :: l.erase y)) && bd l r
theorem bd_dec : ∀ b : Nat, b < 128 → bd (lst b) (lst b) = true := by decide +kernel
theorem er_dec : ∀ b : Nat, b < 128 → ∀ i : Nat, i < 7 → b.testBit i = true → lst (b ^^^ 2 ^ i) = (lst b).erase i ∧ (lst b).length = (lst (b ^^^ 2 ^ i)).length + 1 ∧ b ^^^ 2 ^ i < 128 := by decide +kernel
theorem le_dec : ∀ b : Nat, b < 128 → ∀ z : Nat, z < 7 → (lst b).getLast? = some z → z :: ((lst b).erase z).reverse = (lst b).reverse := by decide +kernel
theorem hd_dec : ∀ b : Nat, b < 128 → ∀ z : Nat, z < 7 → (lst b).head? = some z → z :: ((lst b).erase z) = lst b := by decide +kernel
theorem lsf_mem {p : Nat → Bool} {x : Nat} : ∀ (k i : Nat), x ∈ lsf p k i ↔ (i ≤ x ∧ x < i + k ∧ p x = true)
  | 0, i => by
    rw [lsf]
    exact ⟨fun h => absurd h (by simp), fun h => absurd h.2.1 (by omega)⟩
  | k + 1, i => by
    rw [lsf]
    by_cases q : p i = true
    · rw [if_pos q, List.mem_cons, lsf_mem k (i + 1)]
      refine ⟨fun h => ?_, fun h => ?_⟩
      · rcases h with rfl | h
        · exact ⟨Nat.le_refl _, by omega, q⟩
        · exact ⟨by omega, by omega, h.2.2⟩
      · by_cases e : x = i
        · exact Or.inl e
        · exact Or.inr ⟨by omega, by omega, h.2.2⟩
    · rw [if_neg q, lsf_mem k (i + 1)]
      refine ⟨fun h => ⟨by omega, by omega, h.2.2⟩, fun h => ?_⟩
      have : ¬ x = i := fun e => q (by rw [← e]; exact h.2.2)
      exact ⟨by omega, by omega, h.2.2⟩
theorem lst_mem {b x : Nat} : x ∈ lst b ↔ x < 7 ∧ b.testBit x = true := by
  unfold lst
  rw [lsf_mem]
  exact ⟨fun h => ⟨by omega, h.2.2⟩, fun h => ⟨by omega, by omega, h.2⟩⟩
/-- the blocks of orders, one behind another -/
theorem ch_flat {k : Nat} {l : List Nat} (hb : ∀ i, i ∈ l → ch (enm k (l.erase i)) none ∧ (enm k (l.erase i)).head? = some (l.erase i) ∧ (enm k (l.erase i)).getLast? = some (l.erase i).reverse) : ∀ (r : List Nat), (∀ i, i ∈ r → i ∈ l) → bd l r = true → ch (r.flatMap (fun i => (enm k (l.erase i)).map (fun q => i :: q))) none ∧ (∀ x, r.head? = some x → (r.flatMap (fun i => (enm k (l.erase i)).map (fun q => i :: q))).head? = some (x :: l.erase x)) ∧ (∀ z, r.getLast? = some z → (r.flatMap (fun i => (enm k (l.erase i)).map (fun q => i :: q))).getLast? = some (z :: (l.erase z).reverse))
  | [], _, _ => ⟨trivial, fun x h => absurd h (by simp), fun z h => absurd h (by simp)⟩
  | [x], hm, hd => by
    obtain ⟨b1, b2, b3⟩ := hb x (hm x (by simp))
    have hd : nxP (x :: (l.erase x).reverse) = none := by simpa [bd] using hd
    have ef : [x].flatMap (fun i => (enm k (l.erase i)).map (fun q => i :: q)) = (enm k (l.erase x)).map (fun q => x :: q) := by simp
    rw [ef]
    refine ⟨ch_map _ b1 (fun z hz => ?_), fun y hy => ?_, fun y hy => ?_⟩
    · rw [b3] at hz
      have : (l.erase x).reverse = z := by simpa using hz
      rw [← this]; exact hd
    · have : x = y := by simpa using hy
      subst this
      rw [List.head?_map, b2]; rfl
    · have : x = y := by simpa using hy
      subst this
      rw [List.getLast?_map, b3]; rfl
  | x :: y :: r, hm, hd => by
    obtain ⟨b1, b2, b3⟩ := hb x (hm x (by simp))
    have hd2 : nxP (x :: (l.erase x).reverse) = some (y :: l.erase y) ∧ bd l (y :: r) = true := by
      rw [bd, Bool.and_eq_true] at hd
      exact ⟨by simpa using hd.1, hd.2⟩
    obtain ⟨c1, c2, c3⟩ := ch_flat hb (y :: r) (fun i hi => hm i (List.mem_cons_of_mem _ hi)) hd2.2
    have ef : (x :: y :: r).flatMap (fun i => (enm k (l.erase i)).map (fun q => i :: q)) = (enm k (l.erase x)).map (fun q => x :: q) ++ (y :: r).flatMap (fun i => (enm k (l.erase i)).map (fun q => i :: q)) := List.flatMap_cons
    rw [ef]
    generalize (y :: r).flatMap (fun i => (enm k (l.erase i)).map (fun q => i :: q)) = M at c1 c2 c3
    have c2 := c2 y rfl
    cases M with
    | nil => exact absurd c2 (by simp)
    | cons m M =>
      have em : m = y :: l.erase y := by simpa using c2
      refine ⟨ch_append _ (ch_map _ b1 (fun z hz => ?_)) c1, fun w hw => ?_, fun w hw => ?_⟩
      · rw [b3] at hz
        have : (l.erase x).reverse = z := by simpa using hz
        rw [← this, em]; exact hd2.1
      · have : x = w := by simpa using hw
        subst this
        rw [List.head?_append, List.head?_map, b2]; rfl
      · rw [List.getLast?_cons_cons] at hw
        rw [List.getLast?_append, c3 w hw]; rfl
theorem ch_all : ∀ (k b : Nat), b < 128 → (lst b).length = k → ch (enm k (lst b)) none ∧ (enm k (lst b)).head? = some (lst b) ∧ (enm k (lst b)).getLast? = some (lst b).reverse
  | 0, b, hb, hk => by
    have e : lst b = [] := List.length_eq_zero_iff.mp hk
    rw [e]
    exact ⟨⟨rfl, trivial⟩, rfl, rfl⟩
  | k + 1, b, hb, hk => by
    have key := ch_flat (k := k) (l := lst b) (fun i hi => by
      obtain ⟨i7, ib⟩ := lst_mem.mp hi
      obtain ⟨e1, e2, e3⟩ := er_dec b hb i i7 ib
      rw [← e1]
      exact ch_all k (b ^^^ 2 ^ i) e3 (by omega)) (lst b) (fun i h => h) (bd_dec b hb)
    obtain ⟨k1, k2, k3⟩ := key
    refine ⟨k1, ?_, ?_⟩
    · cases hh : (lst b).head? with
      | none =>
        rw [List.head?_eq_none_iff] at hh
        rw [hh] at hk; exact absurd hk (by simp)
      | some x =>
        have hx : x < 7 := (lst_mem.mp (List.mem_of_mem_head? hh)).1
        have := k2 x hh
        rw [hd_dec b hb x hx hh] at this
        exact this
    · cases hh : (lst b).getLast? with
      | none =>
        rw [List.getLast?_eq_none_iff] at hh
        rw [hh] at hk; exact absurd hk (by simp)
      | some x =>
        have hx : x < 7 := (lst_mem.mp (List.mem_of_mem_getLast? hh)).1
        have := k3 x hh
        rw [le_dec b hb x hx hh] at this
        exact this
/-! the best of them: by the sets of those who are in -/
def cost (F : Nat → Nat → Nat) : Nat → List Nat → Nat
  | _, [] => 0
  | s, i :: l => F s i + cost F (s ||| 2 ^ i) l
def mn (G : Nat → Nat) : List Nat → Nat → Nat
  | [], m => m
  | i :: l, m => mn G l (if G i < m then G i else m)
def ft (G : Nat → Nat) (v : Nat) : List Nat → Nat
  | [] => 0
  | i :: l => if G i = v then i else ft G v l
def dif (A s : Nat) : Nat := A &&& (127 ^^^ s)
def dpV (F : Nat → Nat → Nat) (A : Nat) : Nat → Nat → Nat
  | 0, _ => 0
  | k + 1, s => mn (fun i => F s i + dpV F A k (s ||| 2 ^ i)) (lst (dif A s)) 999999
def pth (F : Nat → Nat → Nat) (A : Nat) : Nat → Nat → List Nat
  | 0, _ => []
  | k + 1, s => ft (fun i => F s i + dpV F A k (s ||| 2 ^ i)) (dpV F A (k + 1) s) (lst (dif A s)) :: pth F A k (s ||| 2 ^ (ft (fun i => F s i + dpV F A k (s ||| 2 ^ i)) (dpV F A (k + 1) s) (lst (dif A s))))
theorem mn_init {G : Nat → Nat} : ∀ (l : List Nat) (m : Nat), mn G l m ≤ m
  | [], m => Nat.le_refl m
  | i :: l, m => by
    rw [mn]
    have := mn_init (G := G) l (if G i < m then G i else m)
    split at this <;> split <;> omega
theorem mn_mem {G : Nat → Nat} : ∀ (l : List Nat) (m i : Nat), i ∈ l → mn G l m ≤ G i
  | [], m, i, h => absurd h (by simp)
  | j :: l, m, i, h => by
    rw [mn]
    rcases List.mem_cons.mp h with rfl | h
    · have := mn_init (G := G) l (if G i < m then G i else m)
      split at this <;> split <;> omega
    · exact mn_mem l _ i h
theorem mn_is {G : Nat → Nat} : ∀ (l : List Nat) (m : Nat), mn G l m = m ∨ ∃ i, i ∈ l ∧ mn G l m = G i
  | [], m => Or.inl rfl
  | j :: l, m => by
    rw [mn]
    rcases mn_is (G := G) l (if G j < m then G j else m) with h | ⟨i, h1, h2⟩
    · rw [h]
      split
      · exact Or.inr ⟨j, by simp, rfl⟩
      · exact Or.inl rfl
    · exact Or.inr ⟨i, List.mem_cons_of_mem _ h1, h2⟩
theorem ft_at {G : Nat → Nat} {i : Nat} {r : List Nat} : ∀ (l : List Nat), (∀ j, j ∈ l → ¬ G j = G i) → ft G (G i) (l ++ i :: r) = i
  | [], _ => by rw [List.nil_append, ft, if_pos rfl]
  | j :: l, h => by
    rw [List.cons_append, ft, if_neg (h j (by simp))]
    exact ft_at l (fun x hx => h x (List.mem_cons_of_mem _ hx))
theorem fold_spec {G : Nat → Nat} {P : Nat → List Nat} {off : Nat} : ∀ (l : List Nat) (v : Nat) (b : List Nat), (l.foldl (fun (acc : Nat × List Nat) i => if off + G i < acc.1 then (off + G i, P i) else acc) (v, b) = (v, b) ∧ ∀ i, i ∈ l → v ≤ off + G i) ∨ ∃ l1 i l2, l = l1 ++ i :: l2 ∧ l.foldl (fun (acc : Nat × List Nat) i => if off + G i < acc.1 then (off + G i, P i) else acc) (v, b) = (off + G i, P i) ∧ off + G i < v ∧ (∀ j, j ∈ l1 → G i < G j) ∧ (∀ j, j ∈ l2 → G i ≤ G j)
  | [], v, b => Or.inl ⟨rfl, fun i h => absurd h (by simp)⟩
  | i :: l, v, b => by
    rw [List.foldl_cons]
    by_cases q : off + G i < v
    · rw [if_pos q]
      rcases fold_spec (G := G) (P := P) (off := off) l (off + G i) (P i) with ⟨h1, h2⟩ | ⟨l1, j, l2, h1, h2, h3, h4, h5⟩
      · exact Or.inr ⟨[], i, l, rfl, h1, q, fun j h => absurd h (by simp), fun j h => by have := h2 j h; omega⟩
      · refine Or.inr ⟨i :: l1, j, l2, by rw [h1]; rfl, h2, by omega, fun x hx => ?_, h5⟩
        rcases List.mem_cons.mp hx with rfl | hx
        · omega
        · exact h4 x hx
    · rw [if_neg q]
      rcases fold_spec (G := G) (P := P) (off := off) l v b with ⟨h1, h2⟩ | ⟨l1, j, l2, h1, h2, h3, h4, h5⟩
      · refine Or.inl ⟨h1, fun x hx => ?_⟩
        rcases List.mem_cons.mp hx with rfl | hx
        · omega
        · exact h2 x hx
      · refine Or.inr ⟨i :: l1, j, l2, by rw [h1]; rfl, h2, h3, fun x hx => ?_, h5⟩
        rcases List.mem_cons.mp hx with rfl | hx
        · omega
        · exact h4 x hx
theorem fold_best {G : Nat → Nat} {P : Nat → List Nat} {off : Nat} (l : List Nat) (v : Nat) (b : List Nat) (hl : ¬ l = []) (hG : ∀ i, i ∈ l → G i < 999999) : l.foldl (fun (acc : Nat × List Nat) i => if off + G i < acc.1 then (off + G i, P i) else acc) (v, b) = if off + mn G l 999999 < v then (off + mn G l 999999, P (ft G (mn G l 999999) l)) else (v, b) := by
  rcases fold_spec (G := G) (P := P) (off := off) l v b with ⟨h1, h2⟩ | ⟨l1, i, l2, h1, h2, h3, h4, h5⟩
  · rw [h1, if_neg]
    rcases mn_is (G := G) l 999999 with h | ⟨i, h3, h4⟩
    · cases l with
      | nil => exact absurd rfl hl
      | cons j l =>
        have a1 := hG j (by simp)
        have a2 := mn_mem (G := G) (j :: l) 999999 j (by simp)
        omega
    · rw [h4]
      have := h2 i h3
      omega
  · have hi : i ∈ l := by rw [h1]; simp
    have e : mn G l 999999 = G i := by
      have a1 := mn_mem (G := G) l 999999 i hi
      rcases mn_is (G := G) l 999999 with h | ⟨j, h6, h7⟩
      · have := hG i hi; omega
      · have : G i ≤ G j := by
          rw [h1] at h6
          rcases List.mem_append.mp h6 with h6 | h6
          · exact Nat.le_of_lt (h4 j h6)
          · rcases List.mem_cons.mp h6 with rfl | h6
            · exact Nat.le_refl _
            · exact h5 j h6
        omega
    rw [h2, e, if_pos h3]
    have : ft G (G i) l = i := by
      rw [h1]
      exact ft_at l1 (fun j hj => by have := h4 j hj; omega)
    rw [this]
theorem fold_congr {α β : Type} {f g : α → β → α} : ∀ (l : List β) (a : α), (∀ a i, i ∈ l → f a i = g a i) → l.foldl f a = l.foldl g a
  | [], _, _ => rfl
  | i :: l, a, h => by
    rw [List.foldl_cons, List.foldl_cons, h a i (by simp)]
    exact fold_congr l _ (fun a j hj => h a j (List.mem_cons_of_mem _ hj))
theorem tb7 {b j : Nat} (hb : b < 128) (hj : 7 ≤ j) : b.testBit j = false := Nat.testBit_lt_two_pow (Nat.lt_of_lt_of_le hb (by rw [show 128 = 2 ^ 7 by decide]; exact Nat.pow_le_pow_right (by decide) hj))
theorem tb127 : ∀ j : Nat, j < 7 → (127 : Nat).testBit j = true := by decide
theorem dif_bit {A s : Nat} (hA : A < 128) (j : Nat) : (dif A s).testBit j = (A.testBit j && !s.testBit j) := by
  unfold dif
  rw [Nat.testBit_and, Nat.testBit_xor]
  by_cases h : j < 7
  · rw [tb127 j h]; cases s.testBit j <;> rfl
  · rw [tb7 hA (by omega)]; rfl
theorem p2_bit (i j : Nat) : (2 ^ i).testBit j = decide (i = j) := Nat.testBit_two_pow
theorem dif_lt {A s : Nat} (hA : A < 128) : dif A s < 128 := Nat.lt_of_le_of_lt Nat.and_le_left hA
def sub (s A : Nat) : Prop := s &&& (127 ^^^ A) = 0
theorem sub_bit {s A : Nat} (hs : s < 128) (h : sub s A) {j : Nat} (hj : s.testBit j = true) : A.testBit j = true := by
  have h1 : (s &&& (127 ^^^ A)).testBit j = false := by rw [h]; exact Nat.zero_testBit j
  rw [Nat.testBit_and, Nat.testBit_xor, hj] at h1
  by_cases q : j < 7
  · rw [tb127 j q] at h1
    cases hA : A.testBit j with
    | true => rfl
    | false => rw [hA] at h1; exact absurd h1 (by decide)
  · rw [tb7 hs (by omega)] at hj; exact absurd hj (by decide)
theorem sub_of {s A : Nat} (h : ∀ j, s.testBit j = true → A.testBit j = true) (hs : s < 128) : sub s A := by
  refine Nat.eq_of_testBit_eq (fun j => ?_)
  rw [Nat.zero_testBit, Nat.testBit_and, Nat.testBit_xor]
  cases hj : s.testBit j with
  | false => rfl
  | true =>
    rw [h j hj]
    by_cases q : j < 7
    · rw [tb127 j q]; rfl
    · rw [tb7 hs (by omega)] at hj; exact absurd hj (by decide)
theorem or_dec : ∀ s : Nat, s < 128 → ∀ i : Nat, i < 7 → (s ||| 2 ^ i < 128 ∧ (s.testBit i = false → s < s ||| 2 ^ i)) := by decide +kernel
theorem or_bit (s i j : Nat) : (s ||| 2 ^ i).testBit j = (s.testBit j || decide (i = j)) := by rw [Nat.testBit_or, p2_bit]
theorem dif_or {A s i : Nat} (hA : A < 128) (hi : (dif A s).testBit i = true) : dif A (s ||| 2 ^ i) = dif A s ^^^ 2 ^ i := by
  refine Nat.eq_of_testBit_eq (fun j => ?_)
  rw [Nat.testBit_xor, dif_bit hA, dif_bit hA, or_bit, p2_bit]
  by_cases e : i = j
  · subst e
    rw [dif_bit hA] at hi
    rw [hi]; simp
  · simp [e]
theorem dif_at {A s i : Nat} (hA : A < 128) (hi : (dif A s).testBit i = true) : i < 7 ∧ A.testBit i = true ∧ s.testBit i = false := by
  rw [dif_bit hA, Bool.and_eq_true] at hi
  refine ⟨?_, hi.1, by simpa using hi.2⟩
  by_cases q : i < 7
  · exact q
  · rw [tb7 hA (by omega)] at hi; exact absurd hi.1 (by decide)
theorem dif_next {A s i : Nat} (hA : A < 128) (hi : (dif A s).testBit i = true) : lst (dif A (s ||| 2 ^ i)) = (lst (dif A s)).erase i ∧ (lst (dif A s)).length = (lst (dif A (s ||| 2 ^ i))).length + 1 := by
  rw [dif_or hA hi]
  obtain ⟨h1, h2, h3⟩ := er_dec (dif A s) (dif_lt hA) i (dif_at hA hi).1 hi
  exact ⟨h1, h2⟩
theorem sub_or {A s i : Nat} (hA : A < 128) (hs : s < 128) (h : sub s A) (hi : (dif A s).testBit i = true) : sub (s ||| 2 ^ i) A := by
  obtain ⟨i7, a1, a2⟩ := dif_at hA hi
  refine sub_of (fun j hj => ?_) (or_dec s hs i i7).1
  rw [or_bit] at hj
  by_cases e : i = j
  · rw [← e]; exact a1
  · exact sub_bit hs h (by simpa [e] using hj)
theorem dpV_le {F : Nat → Nat → Nat} {A : Nat} (hF : ∀ s i, F s i ≤ 64) (hA : A < 128) : ∀ (k s : Nat), (lst (dif A s)).length = k → dpV F A k s ≤ 64 * k
  | 0, s, _ => Nat.le_refl 0
  | k + 1, s, hk => by
    rw [dpV]
    cases hl : lst (dif A s) with
    | nil => rw [hl] at hk; exact absurd hk (by simp)
    | cons i l =>
      have hi : i ∈ lst (dif A s) := by rw [hl]; simp
      have hb := (lst_mem.mp hi).2
      have h1 := mn_mem (G := fun i => F s i + dpV F A k (s ||| 2 ^ i)) (i :: l) 999999 i (by simp)
      have h2 := dpV_le hF hA k (s ||| 2 ^ i) (by have := (dif_next hA hb).2; omega)
      have h3 := hF s i
      have h1 : mn (fun i => F s i + dpV F A k (s ||| 2 ^ i)) (i :: l) 999999 ≤ F s i + dpV F A k (s ||| 2 ^ i) := h1
      omega
theorem lst_len : ∀ b : Nat, b < 128 → (lst b).length ≤ 7 := by decide +kernel
theorem enm_best {F : Nat → Nat → Nat} {A : Nat} (hF : ∀ s i, F s i ≤ 64) (hA : A < 128) : ∀ (k s off : Nat) (pre : List Nat) (v : Nat) (b : List Nat), (lst (dif A s)).length = k → (enm k (lst (dif A s))).foldl (fun (acc : Nat × List Nat) q => if off + cost F s q < acc.1 then (off + cost F s q, pre ++ q) else acc) (v, b) = if off + dpV F A k s < v then (off + dpV F A k s, pre ++ pth F A k s) else (v, b)
  | 0, s, off, pre, v, b, hk => rfl
  | k + 1, s, off, pre, v, b, hk => by
    rw [enm, List.foldl_flatMap]
    have st : (lst (dif A s)).foldl (fun (acc : Nat × List Nat) i => ((enm k ((lst (dif A s)).erase i)).map (fun q => i :: q)).foldl (fun (acc : Nat × List Nat) q => if off + cost F s q < acc.1 then (off + cost F s q, pre ++ q) else acc) acc) (v, b) = (lst (dif A s)).foldl (fun (acc : Nat × List Nat) i => if off + (F s i + dpV F A k (s ||| 2 ^ i)) < acc.1 then (off + (F s i + dpV F A k (s ||| 2 ^ i)), pre ++ (i :: pth F A k (s ||| 2 ^ i))) else acc) (v, b) := by
      refine fold_congr _ _ (fun acc i hi => ?_)
      have hb := (lst_mem.mp hi).2
      obtain ⟨d1, d2⟩ := dif_next hA hb
      rw [List.foldl_map, ← d1]
      have ih := enm_best hF hA k (s ||| 2 ^ i) (off + F s i) (pre ++ [i]) acc.1 acc.2 (by omega)
      have e1 : (fun (acc : Nat × List Nat) q => if off + cost F s (i :: q) < acc.1 then (off + cost F s (i :: q), pre ++ (i :: q)) else acc) = (fun (acc : Nat × List Nat) q => if off + F s i + cost F (s ||| 2 ^ i) q < acc.1 then (off + F s i + cost F (s ||| 2 ^ i) q, pre ++ [i] ++ q) else acc) := by
        funext acc q
        rw [cost, ← Nat.add_assoc, List.append_assoc]; rfl
      rw [e1, ih, ← Nat.add_assoc, List.append_assoc]; rfl
    rw [st]
    have nl : ¬ lst (dif A s) = [] := fun z => by rw [z] at hk; exact absurd hk (by simp)
    have l7 := lst_len _ (dif_lt (s := s) hA)
    rw [fold_best (G := fun i => F s i + dpV F A k (s ||| 2 ^ i)) (P := fun i => pre ++ (i :: pth F A k (s ||| 2 ^ i))) (lst (dif A s)) v b nl (fun i hi => ?_)]
    · rfl
    · have hb := (lst_mem.mp hi).2
      have h2 := dpV_le hF hA k (s ||| 2 ^ i) (by have := (dif_next hA hb).2; omega)
      have h3 := hF s i
      show F s i + dpV F A k (s ||| 2 ^ i) < 999999
      omega
