/-! ===== sums, masks, least pairs ===== -/
def sumN (f : Int → Int) : Nat → Int
  | 0 => 0
  | n + 1 => sumN f n + f (n : Int)
def sumI (f : Int → Int) (n : Int) : Int := sumN f n.toNat
theorem sumI_0 {f : Int → Int} : sumI f 0 = 0 := rfl
theorem sumI_s {f : Int → Int} {i : Int} (h : 0 ≤ i) : sumI f (i + 1) = sumI f i + f i := by
  unfold sumI
  rw [show (i + 1).toNat = i.toNat + 1 by omega]
  show sumN f i.toNat + f ((i.toNat : Nat) : Int) = _
  rw [Int.toNat_of_nonneg h]
theorem sumN_c {f g : Int → Int} : ∀ k : Nat, (∀ i : Int, 0 ≤ i → i < k → f i = g i) → sumN f k = sumN g k
  | 0, _ => rfl
  | k + 1, h => by
    show sumN f k + f k = sumN g k + g k
    rw [sumN_c k (fun i h1 h2 => h i h1 (by omega)), h k (by omega) (by omega)]
theorem sumI_c {f g : Int → Int} {n : Int} (h : ∀ i, 0 ≤ i → i < n → f i = g i) : sumI f n = sumI g n :=
  sumN_c n.toNat (fun i h1 h2 => h i h1 (by omega))
theorem sumN_b {f : Int → Int} {M : Int} : ∀ k : Nat, (∀ i : Int, 0 ≤ i → i < k → 0 ≤ f i ∧ f i ≤ M) → 0 ≤ sumN f k ∧ sumN f k ≤ k * M
  | 0, _ => by simp [sumN]
  | k + 1, h => by
    have h1 := sumN_b k (fun i h1 h2 => h i h1 (by omega))
    have h2 := h k (by omega) (by omega)
    have e : ((k + 1 : Nat) : Int) * M = k * M + M := by rw [show ((k + 1 : Nat) : Int) = (k : Int) + 1 by omega, Int.add_mul, Int.one_mul]
    rw [e]
    show 0 ≤ sumN f k + f k ∧ sumN f k + f k ≤ _
    omega
theorem sumI_b {f : Int → Int} {n M : Int} (hn : 0 ≤ n) (h : ∀ i, 0 ≤ i → i < n → 0 ≤ f i ∧ f i ≤ M) : 0 ≤ sumI f n ∧ sumI f n ≤ n * M := by
  have := sumN_b (f := f) (M := M) n.toNat (fun i h1 h2 => h i h1 (by omega))
  rw [Int.toNat_of_nonneg hn] at this
  exact this
theorem sumN_add {f g : Int → Int} : ∀ k : Nat, sumN (fun i => f i + g i) k = sumN f k + sumN g k
  | 0 => rfl
  | k + 1 => by
    show sumN (fun i => f i + g i) k + (f k + g k) = (sumN f k + f k) + (sumN g k + g k)
    rw [sumN_add k]
    omega
theorem sumI_add {f g : Int → Int} {n : Int} : sumI (fun i => f i + g i) n = sumI f n + sumI g n := sumN_add _
theorem sumN_pt {a v : Int} : ∀ k : Nat, 0 ≤ a → sumN (fun i => cif (i = a) v 0) k = cif (a < k) v 0
  | 0, h => by rw [cif_f (by omega)]; rfl
  | k + 1, h => by
    show sumN (fun i => cif (i = a) v 0) k + cif ((k : Int) = a) v 0 = _
    rw [sumN_pt k h]
    by_cases h1 : a < (k : Int)
    · rw [cif_t h1, cif_f (by omega), cif_t (by omega)]; omega
    · by_cases h2 : (k : Int) = a
      · rw [cif_f h1, cif_t h2, cif_t (by omega)]; omega
      · rw [cif_f h1, cif_f h2, cif_f (by omega)]; omega
theorem sumI_pt {a v n : Int} (h : 0 ≤ a ∧ a < n) : sumI (fun i => cif (i = a) v 0) n = v := by
  unfold sumI
  rw [sumN_pt _ h.1, cif_t (by omega)]
noncomputable def msk (P : Int → Prop) : Nat → Nat
  | 0 => 0
  | n + 1 => msk P n ||| cif (P (n : Int)) (2 ^ n) 0
theorem msk_bit {P : Int → Prop} : ∀ (n k : Nat), (msk P n).testBit k = true ↔ k < n ∧ P (k : Int)
  | 0, k => by simp [msk]
  | n + 1, k => by
    show (msk P n ||| cif (P (n : Int)) (2 ^ n) 0).testBit k = true ↔ _
    rw [Nat.testBit_or, Bool.or_eq_true, msk_bit n k]
    by_cases h : P (n : Int)
    · rw [cif_t h, Nat.testBit_two_pow]
      constructor
      · rintro (⟨h1, h2⟩ | h1)
        · exact ⟨by omega, h2⟩
        · have h1 : n = k := by simpa using h1
          subst h1
          exact ⟨by omega, h⟩
      · rintro ⟨h1, h2⟩
        by_cases h3 : k < n
        · exact Or.inl ⟨h3, h2⟩
        · right
          have : n = k := by omega
          simpa using this
    · rw [cif_f h, Nat.zero_testBit]
      constructor
      · rintro (⟨h1, h2⟩ | h1)
        · exact ⟨by omega, h2⟩
        · cases h1
      · rintro ⟨h1, h2⟩
        by_cases h3 : k < n
        · exact Or.inl ⟨h3, h2⟩
        · have h4 : k = n := by omega
          subst h4
          exact absurd h2 h
theorem msk_lt {P : Int → Prop} : ∀ n : Nat, msk P n < 2 ^ n
  | 0 => by simp [msk]
  | n + 1 => by
    have h1 := msk_lt (P := P) n
    have h2 : (2 : Nat) ^ n < 2 ^ (n + 1) := Nat.pow_lt_pow_succ (by omega)
    refine Nat.or_lt_two_pow (by omega) ?_
    by_cases h : P (n : Int)
    · rw [cif_t h]; exact h2
    · rw [cif_f h]; exact Nat.two_pow_pos _
/-- the least pair, by its first part, then by its second -/
def isFst (P : Int → Int → Prop) (a b : Int) : Prop := P a b ∧ ∀ a' b', P a' b' → a < a' ∨ (a = a' ∧ b ≤ b')
theorem isFst_eq {P : Int → Int → Prop} {a b a' b' : Int} (h : isFst P a b) (h' : isFst P a' b') : a = a' ∧ b = b' := by
  have h1 := h.2 _ _ h'.1
  have h2 := h'.2 _ _ h.1
  omega
noncomputable def fstA (P : Int → Int → Prop) : Int := cif (∃ a b, isFst P a b) (Classical.epsilon (fun a => ∃ b, isFst P a b)) 0
noncomputable def fstB (P : Int → Int → Prop) : Int := cif (∃ a b, isFst P a b) (Classical.epsilon (fun b => ∃ a, isFst P a b)) 0
theorem fst_of {P : Int → Int → Prop} {a b : Int} (h : isFst P a b) : fstA P = a ∧ fstB P = b := by
  have e : ∃ a b, isFst P a b := ⟨a, b, h⟩
  unfold fstA fstB
  rw [cif_t e, cif_t e]
  have h1 : ∃ b, isFst P (Classical.epsilon (fun a => ∃ b, isFst P a b)) b := Classical.epsilon_spec (p := fun a => ∃ b, isFst P a b) ⟨a, b, h⟩
  have h2 : ∃ a, isFst P a (Classical.epsilon (fun b => ∃ a, isFst P a b)) := Classical.epsilon_spec (p := fun b => ∃ a, isFst P a b) ⟨b, a, h⟩
  obtain ⟨x, hx⟩ := h1
  obtain ⟨y, hy⟩ := h2
  exact ⟨(isFst_eq hx h).1, (isFst_eq hy h).2⟩
/-! ===== what the tables say ===== -/
def isOn (σ : Tb) (w p : Int) : Prop := ((σ 17 w).toNat.testBit p.toNat) = true
def hasD (σ : Tb) (o : Int) : Prop := 1 ≤ σ 19 o ∧ σ 19 o ≤ 3
def cnts (σ : Tb) (w : Int) (les : Prop) (o : Int) : Prop := o ≠ w ∧ hasD σ o ∧ (les → σ 19 o ≠ 1 ∨ o < w)
def lsts (σ : Tb) (w d : Int) (les : Prop) (day o : Int) : Prop := (o = w ∧ 0 ≤ d ∧ d ≤ day ∧ day < d + σ 14 w) ∨ (o ≠ w ∧ cnts σ w les o ∧ σ 20 o ≤ day ∧ day ≤ σ 21 o)
def lss (σ : Tb) (p w d : Int) (les : Prop) (day o : Int) : Prop := 0 ≤ σ 23 o ∧ isOn σ (σ 23 o) p ∧ lsts σ w d les day (σ 23 o) ∧ (σ 13 o < σ 13 (σ 23 o) ∨ (σ 13 (σ 23 o) = σ 13 o ∧ σ 23 o < o))
noncomputable def tkF (σ : Tb) (p w d : Int) (les : Prop) (day o : Int) : Int := cif (isOn σ o p ∧ lsts σ w d les day o) (cif (lss σ p w d les day o) 0 (σ 13 o)) 0
noncomputable def tkn (σ : Tb) (p w d : Int) (les : Prop) (day : Int) : Int := sumI (tkF σ p w d les day) (σ 0 2)
noncomputable def shM (σ : Tb) (w d : Int) (les : Prop) (day : Int) : Nat := msk (fun p => σ 3 p ≤ tkn σ p w d les day) (σ 0 0).toNat
/-- the minutes of the shortest ways from a crossing, the pieces of S closed -/
def isDs (σ : Tb) (S : Nat) (a : Int) (f : Int → Int) : Prop :=
  f a = 0 ∧ (∀ v, 0 ≤ v → v < 20 → 0 ≤ f v ∧ f v ≤ 1000000) ∧
  (∀ p, 0 ≤ p → p < σ 0 0 → ¬ S.testBit p.toNat = true → f (σ 1 p) ≤ f (σ 2 p) + σ 5 p ∧ f (σ 2 p) ≤ f (σ 1 p) + σ 5 p) ∧
  (∀ v, 0 ≤ v → v < 20 → v ≠ a → f v < 1000000 → ∃ p, 0 ≤ p ∧ p < σ 0 0 ∧ ¬ S.testBit p.toNat = true ∧ ((σ 2 p = v ∧ f (σ 1 p) + σ 5 p ≤ f v) ∨ (σ 1 p = v ∧ f (σ 2 p) + σ 5 p ≤ f v)))
noncomputable def dst (σ : Tb) (S : Nat) (a b : Int) : Int := cif (∃ f, isDs σ S a f) (Classical.epsilon (fun f => isDs σ S a f) b) 0
/-! ===== the rules ===== -/
noncomputable def ntc (σ : Tb) (w : Int) : Int := cif (σ 12 w = 1) 30 (cif (σ 12 w = 3) 0 3)
def inW (σ : Tb) (w d day : Int) : Prop := d ≤ day ∧ day < d + σ 14 w
def inP (σ : Tb) (p : Int) : Prop := 0 ≤ p ∧ p < σ 0 0
def B3 (σ : Tb) (w d : Int) (day p : Int) : Prop := inW σ w d day ∧ inP σ p ∧ isOn σ w p ∧ σ 10 day = 1 ∧ σ 4 p = 2
def B4 (σ : Tb) (w d : Int) (les : Prop) (day p : Int) : Prop := inW σ w d day ∧ inP σ p ∧ isOn σ w p ∧ σ 3 p < tkn σ p w d les day
def B5o (σ : Tb) (w d : Int) (les : Prop) (day p o : Int) : Prop := o ≠ w ∧ isOn σ o p ∧ σ 11 o ≠ σ 11 w ∧ σ 15 o = σ 15 w ∧ σ 23 w ≠ o ∧ lsts σ w d les day o
def B5 (σ : Tb) (w d : Int) (les : Prop) (day p : Int) : Prop := inW σ w d day ∧ inP σ p ∧ isOn σ w p ∧ ∃ o, 0 ≤ o ∧ o < σ 0 2 ∧ B5o σ w d les day p o
def B6o (σ : Tb) (w d : Int) (les : Prop) (p o : Int) : Prop := cnts σ w les o ∧ isOn σ o p ∧ ((σ 12 w ≠ 3 ∧ σ 21 o < d ∧ d ≤ σ 21 o + σ 6 p) ∨ (σ 12 o ≠ 3 ∧ σ 19 o ≠ 3 ∧ d + σ 14 w - 1 < σ 20 o ∧ σ 20 o ≤ d + σ 14 w - 1 + σ 6 p))
def B6 (σ : Tb) (w d : Int) (les : Prop) (day p : Int) : Prop := day = d ∧ inP σ p ∧ isOn σ w p ∧ ∃ o, 0 ≤ o ∧ o < σ 0 2 ∧ B6o σ w d les p o
def B7 (σ : Tb) (w d : Int) (les : Prop) (day k : Int) : Prop := inW σ w d day ∧ 0 ≤ k ∧ k < σ 0 1 ∧ σ 9 k < dst σ (shM σ w d les day) (σ 7 k) (σ 8 k) ∧ dst σ (shM σ w (-1) les day) (σ 7 k) (σ 8 k) ≤ σ 9 k
def ex2 (P : Int → Int → Prop) : Prop := ∃ a b, P a b
/-- rules 3 to 7 -/
noncomputable def rul3 (σ : Tb) (w d : Int) (les : Prop) : Int := cif (ex2 (B3 σ w d)) 3 (cif (ex2 (B4 σ w d les)) 4 (cif (ex2 (B5 σ w d les)) 5 (cif (ex2 (B6 σ w d les)) 6 (cif (ex2 (B7 σ w d les)) 7 0))))
noncomputable def rul2 (σ : Tb) (w d : Int) (les : Prop) : Int := cif (399 < d + σ 14 w - 1) 2 (rul3 σ w d les)
noncomputable def rul1 (σ : Tb) (w d : Int) (les : Prop) : Int := cif (d < σ 0 3 + ntc σ w) 1 (rul2 σ w d les)
/-- day and place of the rule r that is broken -/
def rAt (σ : Tb) (w d : Int) (les : Prop) (r day pl : Int) : Prop :=
  (r = 1 → day = d ∧ pl = σ 25 w) ∧ (r = 2 → day = 400 ∧ pl = σ 25 w) ∧ (r = 3 → isFst (B3 σ w d) day pl) ∧ (r = 4 → isFst (B4 σ w d les) day pl) ∧ (r = 5 → isFst (B5 σ w d les) day pl) ∧ (r = 6 → isFst (B6 σ w d les) day pl) ∧ (r = 7 → isFst (B7 σ w d les) day pl)
theorem rAt_eq {σ : Tb} {w d : Int} {les : Prop} {r day pl day' pl' : Int} (hr : 1 ≤ r ∧ r ≤ 7) (h : rAt σ w d les r day pl) (h' : rAt σ w d les r day' pl') : day = day' ∧ pl = pl' := by
  obtain ⟨a1, a2, a3, a4, a5, a6, a7⟩ := h
  obtain ⟨b1, b2, b3, b4, b5, b6, b7⟩ := h'
  rcases (show r = 1 ∨ r = 2 ∨ r = 3 ∨ r = 4 ∨ r = 5 ∨ r = 6 ∨ r = 7 by omega) with e | e | e | e | e | e | e
  · have := a1 e; have := b1 e; omega
  · have := a2 e; have := b2 e; omega
  · exact isFst_eq (a3 e) (b3 e)
  · exact isFst_eq (a4 e) (b4 e)
  · exact isFst_eq (a5 e) (b5 e)
  · exact isFst_eq (a6 e) (b6 e)
  · exact isFst_eq (a7 e) (b7 e)
theorem rul3_r {σ : Tb} {w d : Int} {les : Prop} : rul3 σ w d les = 0 ∨ (3 ≤ rul3 σ w d les ∧ rul3 σ w d les ≤ 7) := by
  unfold rul3
  by_cases h3 : ex2 (B3 σ w d)
  · rw [cif_t h3]; omega
  rw [cif_f h3]
  by_cases h4 : ex2 (B4 σ w d les)
  · rw [cif_t h4]; omega
  rw [cif_f h4]
  by_cases h5 : ex2 (B5 σ w d les)
  · rw [cif_t h5]; omega
  rw [cif_f h5]
  by_cases h6 : ex2 (B6 σ w d les)
  · rw [cif_t h6]; omega
  rw [cif_f h6]
  by_cases h7 : ex2 (B7 σ w d les)
  · rw [cif_t h7]; omega
  rw [cif_f h7]; omega
/-! ===== what always holds between two calls ===== -/
def PQ (σ : Tb) (w k : Int) : Int := σ (25 + k.toNat) w
def IP (σ : Tb) (p : Int) : Prop := (0 ≤ σ 1 p ∧ σ 1 p ≤ 19) ∧ (0 ≤ σ 2 p ∧ σ 2 p ≤ 19) ∧ σ 1 p ≠ σ 2 p ∧ (1 ≤ σ 3 p ∧ σ 3 p ≤ 4) ∧ (0 ≤ σ 4 p ∧ σ 4 p ≤ 2) ∧ (1 ≤ σ 5 p ∧ σ 5 p ≤ 30) ∧ (0 ≤ σ 6 p ∧ σ 6 p ≤ 60)
def IR (σ : Tb) (k : Int) : Prop := (0 ≤ σ 7 k ∧ σ 7 k ≤ 19) ∧ (0 ≤ σ 8 k ∧ σ 8 k ≤ 19) ∧ σ 7 k ≠ σ 8 k ∧ (1 ≤ σ 9 k ∧ σ 9 k ≤ 200)
/-- a work's pieces: the mask, and the places of its own row, by number -/
def IQ (σ : Tb) (w : Int) : Prop := (0 ≤ σ 17 w ∧ σ 17 w < 1099511627776) ∧ (1 ≤ σ 18 w ∧ σ 18 w ≤ 4) ∧ (∀ k, 0 ≤ k → k < σ 18 w → (0 ≤ PQ σ w k ∧ PQ σ w k < σ 0 0) ∧ isOn σ w (PQ σ w k)) ∧ (∀ j k, 0 ≤ j → j < k → k < σ 18 w → PQ σ w j < PQ σ w k) ∧ (∀ p, 0 ≤ p → isOn σ w p → ∃ k, 0 ≤ k ∧ k < σ 18 w ∧ PQ σ w k = p)
def IN (σ : Tb) (w : Int) : Prop := (0 ≤ σ 11 w ∧ σ 11 w ≤ 9) ∧ (0 ≤ σ 12 w ∧ σ 12 w ≤ 3) ∧ (1 ≤ σ 13 w ∧ σ 13 w ≤ 4) ∧ (1 ≤ σ 14 w ∧ σ 14 w ≤ 30) ∧ (1 ≤ σ 15 w ∧ σ 15 w ≤ 9) ∧ (0 ≤ σ 16 w ∧ σ 16 w ≤ 399) ∧ (0 ≤ σ 19 w ∧ σ 19 w ≤ 4) ∧ (σ 19 w = 0 → σ 20 w = -1 ∧ σ 21 w = -1) ∧ (σ 19 w = 4 → σ 20 w = -1 ∧ σ 21 w = -1) ∧ (σ 19 w = 1 → σ 0 3 ≤ σ 20 w ∧ σ 21 w = σ 20 w + σ 14 w - 1 ∧ σ 21 w ≤ 399 ∧ σ 12 w ≠ 2) ∧ (σ 19 w = 2 → 0 ≤ σ 20 w ∧ σ 20 w ≤ σ 0 3 ∧ σ 0 3 ≤ σ 21 w ∧ σ 21 w ≤ 399) ∧ (σ 19 w = 3 → 0 ≤ σ 20 w ∧ σ 20 w ≤ σ 21 w ∧ σ 21 w < σ 0 3)
def IJ (σ : Tb) (w : Int) : Prop := σ 23 w = -1 ∨ ((0 ≤ σ 23 w ∧ σ 23 w < σ 0 2) ∧ σ 23 w ≠ w ∧ σ 23 (σ 23 w) = w ∧ σ 17 (σ 23 w) = σ 17 w ∧ σ 11 (σ 23 w) ≠ σ 11 w ∧ σ 15 (σ 23 w) ≠ σ 15 w ∧ σ 19 w ≠ 4)
def ID (σ : Tb) (w : Int) : Prop := σ 17 w = 0 ∧ σ 18 w = 0 ∧ σ 19 w = 0 ∧ σ 20 w = -1 ∧ σ 21 w = -1 ∧ σ 22 w = 0 ∧ σ 23 w = -1 ∧ σ 24 w = 0
def Inv (σ : Tb) : Prop := ((0 ≤ σ 0 0 ∧ σ 0 0 ≤ 40) ∧ (0 ≤ σ 0 1 ∧ σ 0 1 ≤ 8) ∧ (0 ≤ σ 0 2 ∧ σ 0 2 ≤ 60) ∧ (0 ≤ σ 0 3 ∧ σ 0 3 ≤ 399) ∧ (σ 0 4 = 0 ∨ σ 0 4 = 1)) ∧ (∀ p, 0 ≤ p → p < σ 0 0 → IP σ p) ∧ (∀ k, 0 ≤ k → k < σ 0 1 → IR σ k) ∧ (∀ d, 0 ≤ d → d < 400 → σ 10 d = 0 ∨ σ 10 d = 1) ∧ (∀ w, 0 ≤ w → w < σ 0 2 → IN σ w ∧ IQ σ w ∧ IJ σ w) ∧ (∀ w, σ 0 2 ≤ w → w < 60 → ID σ w)
/-- and between two calls of the law a PERMITTED work's BEGINNING is behind TODAY -/
def InvS (σ : Tb) : Prop := Inv σ ∧ ∀ w, 0 ≤ w → w < σ 0 2 → σ 19 w = 1 → σ 0 3 < σ 20 w
