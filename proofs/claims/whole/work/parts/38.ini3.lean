def TP (G : Nat → ClassId) (ad : Nat → Nat) (k : Nat) : va_E := if k < 40 then IE2 G ad 0 else if k < 48 then IE1 G ad 0 else if (k - 48) % 2 = 0 then IE7 G (((k - 48) / 2 : Nat) : Int) (fun _ => ad (k + 6)) 0 else .inl (G 0, 4, .inl (fun _ => iI 0))
def TE (G : Nat → ClassId) (n1 n2 n3 : Nat) (ad : Nat → Nat) (k : Nat) : va_E := match k with
  | 0 => .inr (5, [.ref (ad 1), .ref (ad 2), .ref (ad 3), .ref (ad 4), .int (iI 0), .int (iI 0), .int (iI 0), .int (iI 0)])
  | 1 => .inl (G 4, 40, .inr (.inr (.inr (.inr (fun j => if j < n1 then some (ad (5 + j)) else none)))))
  | 2 => .inl (G 3, 8, .inr (.inr (.inr (.inr (fun j => if j < n2 then some (ad (45 + j)) else none)))))
  | 3 => .inl (G 5, 60, .inr (.inr (.inr (.inr (fun j => if j < n3 then some (ad (53 + 2 * j)) else none)))))
  | 4 => .inl (G 2, 400, .inl (fun _ => iI 0))
  | k + 5 => TP G ad k
theorem TE_ref {G : Nat → ClassId} {n1 n2 n3 m1 m2 m3 : Nat} {ad ad' : Nat → Nat} (h : ∀ k, k < 5 → ad k = ad' k) : TE G n1 n2 n3 ad 0 = TE G m1 m2 m3 ad' 0 := by
  show (Sum.inr (5, [.ref (ad 1), .ref (ad 2), .ref (ad 3), .ref (ad 4), .int (iI 0), .int (iI 0), .int (iI 0), .int (iI 0)]) : va_E) = _
  rw [h 1 (by decide), h 2 (by decide), h 3 (by decide), h 4 (by decide)]
  rfl
theorem rf_cg {c : ClassId} {n : Nat} {f g : Nat → Option Nat} (h : ∀ j, f j = g j) : (Sum.inl (c, n, .inr (.inr (.inr (.inr f)))) : va_E) = Sum.inl (c, n, .inr (.inr (.inr (.inr g)))) := by
  rw [show f = g from funext h]
theorem fil_s {ad bd : Nat → Nat} {K i b w : Nat} (hK : K = b + w * i) (hw : 0 < w) (j : Nat) : va_up (fun j => if j < i then some (ad (b + w * j)) else none) i (some (bd 0)) j = (if j < i + 1 then some (jn ad K bd (b + w * j)) else none) := by
  by_cases h : j = i
  · subst h
    rw [va_up_self, if_pos (Nat.lt_succ_self _), jn_r (by omega), hK, Nat.sub_self]
  · rw [va_up_ne _ _ h]
    by_cases h2 : j < i
    · rw [if_pos h2, if_pos (by omega), jn_l]
      rw [hK]
      have := Nat.mul_lt_mul_of_pos_left h2 hw
      omega
    · rw [if_neg h2, if_neg (by omega)]
theorem fil_k {ad bd : Nat → Nat} {K n b w : Nat} (hK : ∀ j, j < n → b + w * j < K) (j : Nat) : (if j < n then some (ad (b + w * j)) else none) = (if j < n then some (jn ad K bd (b + w * j)) else none) := by
  by_cases h : j < n
  · rw [if_pos h, if_pos h, jn_l (hK j h)]
  · rw [if_neg h, if_neg h]
theorem TE_s1 {G : Nat → ClassId} {ad bd : Nat → Nat} {i : Nat} (hi : i < 40) : ∀ k, k < 5 + i + 1 → va_up (jn (TE G i 0 0 ad) (5 + i) (IE2 G bd)) 1 (.inl (G 4, 40, .inr (.inr (.inr (.inr (va_up (fun j => if j < i then some (ad (5 + 1 * j)) else none) i (some (bd 0)))))))) k = TE G (i + 1) 0 0 (jn ad (5 + i) bd) k := by
  intro k hk
  match k, hk with
  | 0, _ =>
    rw [va_up_ne _ _ (by decide), jn_l (by omega)]
    exact TE_ref (fun k h => (jn_l (by omega)).symm)
  | 1, _ =>
    rw [va_up_self]
    refine rf_cg (fun j => ?_)
    have h := fil_s (ad := ad) (bd := bd) (K := 5 + i) (i := i) (b := 5) (w := 1) (by omega) (by decide) j
    simp only [Nat.one_mul] at h ⊢
    exact h
  | 2, _ =>
    rw [va_up_ne _ _ (by decide), jn_l (by omega)]
    refine rf_cg (fun j => ?_)
    have h := fil_k (ad := ad) (bd := bd) (K := 5 + i) (n := 0) (b := 45) (w := 1) (fun j hj => by omega) j
    simp only [Nat.one_mul] at h ⊢
    exact h
  | 3, _ =>
    rw [va_up_ne _ _ (by decide), jn_l (by omega)]
    exact rf_cg (fun j => fil_k (fun j hj => by omega) j)
  | 4, _ =>
    rw [va_up_ne _ _ (by decide), jn_l (by omega)]
    rfl
  | k + 5, hk =>
    rw [va_up_ne _ _ (by omega)]
    by_cases h : k < i
    · rw [jn_l (by omega)]
      show TP G ad k = TP G (jn ad (5 + i) bd) k
      unfold TP
      by_cases h1 : k < 40
      · rw [if_pos h1, if_pos h1]; rfl
      · rw [if_neg h1, if_neg h1]
        by_cases h2 : k < 48
        · rw [if_pos h2, if_pos h2]; rfl
        · rw [if_neg h2, if_neg h2]
          omega
    · rw [jn_r (by omega)]
      show _ = TP G (jn ad (5 + i) bd) k
      unfold TP
      rw [if_pos (by omega)]
      rfl
theorem TE_s2 {G : Nat → ClassId} {ad bd : Nat → Nat} {i : Nat} (hi : i < 8) : ∀ k, k < 45 + i + 1 → va_up (jn (TE G 40 i 0 ad) (45 + i) (IE1 G bd)) 2 (.inl (G 3, 8, .inr (.inr (.inr (.inr (va_up (fun j => if j < i then some (ad (45 + 1 * j)) else none) i (some (bd 0)))))))) k = TE G 40 (i + 1) 0 (jn ad (45 + i) bd) k := by
  intro k hk
  match k, hk with
  | 0, _ =>
    rw [va_up_ne _ _ (by decide), jn_l (by omega)]
    exact TE_ref (fun k h => (jn_l (by omega)).symm)
  | 1, _ =>
    rw [va_up_ne _ _ (by decide), jn_l (by omega)]
    refine rf_cg (fun j => ?_)
    have h := fil_k (ad := ad) (bd := bd) (K := 45 + i) (n := 40) (b := 5) (w := 1) (fun j hj => by omega) j
    simp only [Nat.one_mul] at h ⊢
    exact h
  | 2, _ =>
    rw [va_up_self]
    refine rf_cg (fun j => ?_)
    have h := fil_s (ad := ad) (bd := bd) (K := 45 + i) (i := i) (b := 45) (w := 1) (by omega) (by decide) j
    simp only [Nat.one_mul] at h ⊢
    exact h
  | 3, _ =>
    rw [va_up_ne _ _ (by decide), jn_l (by omega)]
    exact rf_cg (fun j => fil_k (fun j hj => by omega) j)
  | 4, _ =>
    rw [va_up_ne _ _ (by decide), jn_l (by omega)]
    rfl
  | k + 5, hk =>
    rw [va_up_ne _ _ (by omega)]
    by_cases h : k < 40 + i
    · rw [jn_l (by omega)]
      show TP G ad k = TP G (jn ad (45 + i) bd) k
      unfold TP
      by_cases h1 : k < 40
      · rw [if_pos h1, if_pos h1]; rfl
      · rw [if_neg h1, if_neg h1]
        by_cases h2 : k < 48
        · rw [if_pos h2, if_pos h2]; rfl
        · rw [if_neg h2, if_neg h2]
          omega
    · rw [jn_r (by omega)]
      show _ = TP G (jn ad (45 + i) bd) k
      unfold TP
      rw [if_neg (by omega), if_pos (by omega)]
      rfl
theorem TE_s3 {G : Nat → ClassId} {ad bd : Nat → Nat} {i : Nat} (hi : i < 60) : ∀ k, k < 53 + 2 * i + 2 → va_up (jn (TE G 40 8 i ad) (53 + 2 * i) (IE7 G (i : Int) bd)) 3 (.inl (G 5, 60, .inr (.inr (.inr (.inr (va_up (fun j => if j < i then some (ad (53 + 2 * j)) else none) i (some (bd 0)))))))) k = TE G 40 8 (i + 1) (jn ad (53 + 2 * i) bd) k := by
  intro k hk
  match k, hk with
  | 0, _ =>
    rw [va_up_ne _ _ (by decide), jn_l (by omega)]
    exact TE_ref (fun k h => (jn_l (by omega)).symm)
  | 1, _ =>
    rw [va_up_ne _ _ (by decide), jn_l (by omega)]
    refine rf_cg (fun j => ?_)
    have h := fil_k (ad := ad) (bd := bd) (K := 53 + 2 * i) (n := 40) (b := 5) (w := 1) (fun j hj => by omega) j
    simp only [Nat.one_mul] at h ⊢
    exact h
  | 2, _ =>
    rw [va_up_ne _ _ (by decide), jn_l (by omega)]
    refine rf_cg (fun j => ?_)
    have h := fil_k (ad := ad) (bd := bd) (K := 53 + 2 * i) (n := 8) (b := 45) (w := 1) (fun j hj => by omega) j
    simp only [Nat.one_mul] at h ⊢
    exact h
  | 3, _ =>
    rw [va_up_self]
    exact rf_cg (fun j => fil_s rfl (by decide) j)
  | 4, _ =>
    rw [va_up_ne _ _ (by decide), jn_l (by omega)]
    rfl
  | k + 5, hk =>
    rw [va_up_ne _ _ (by omega)]
    by_cases h : k < 48 + 2 * i
    · rw [jn_l (by omega)]
      show TP G ad k = TP G (jn ad (53 + 2 * i) bd) k
      unfold TP
      by_cases h1 : k < 40
      · rw [if_pos h1, if_pos h1]; rfl
      · rw [if_neg h1, if_neg h1]
        by_cases h2 : k < 48
        · rw [if_pos h2, if_pos h2]; rfl
        · rw [if_neg h2, if_neg h2]
          by_cases h3 : (k - 48) % 2 = 0
          · rw [if_pos h3, if_pos h3, jn_l (by omega)]
          · rw [if_neg h3, if_neg h3]
    · rw [jn_r (by omega)]
      show _ = TP G (jn ad (53 + 2 * i) bd) k
      unfold TP
      rw [if_neg (by omega), if_neg (by omega)]
      rcases (show k = 48 + 2 * i ∨ k = 49 + 2 * i by omega) with e | e
      · rw [if_pos (by omega), jn_r (by omega), show k + 5 - (53 + 2 * i) = 0 by omega, show k + 6 - (53 + 2 * i) = 1 by omega, show (k - 48) / 2 = i by omega]; rfl
      · rw [if_neg (by omega), show k + 5 - (53 + 2 * i) = 1 by omega]; rfl
